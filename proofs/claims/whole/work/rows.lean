section
-- ===== PART A: goes FIRST, ahead of the names: the tables' words, and 'selects' of the private methods out of them =====
/-- a private method of a class that the tables say can be made, by its rows of tables_1 -/
def lw_okq (q : MethodName × Nat) : Prop := (q.1.cls ≠ "java/lang/invoke/MethodHandle" ∧ q.1.cls ≠ "java/lang/invoke/VarHandle") ∧ Cond.instantiable q.1.cls q.2 ∈ tables_1 ∧ Cond.privateMethod q.1 ∈ tables_1 ∧ Cond.instanceMethod q.1 ∈ tables_1
theorem lw_p0 : lw_okq (⟨"TypedMill$Types", "search", "(IIIII)I"⟩, 8) := ⟨⟨by decide +kernel, by decide +kernel⟩, List.mem_of_getElem? (i := 29) (by decide +kernel), List.mem_of_getElem? (i := 45) (by decide +kernel), List.mem_of_getElem? (i := 46) (by decide +kernel)⟩
theorem lw_p1 : lw_okq (⟨"TypedMill$Types", "append", "(IIIII)V"⟩, 8) := ⟨⟨by decide +kernel, by decide +kernel⟩, List.mem_of_getElem? (i := 29) (by decide +kernel), List.mem_of_getElem? (i := 53) (by decide +kernel), List.mem_of_getElem? (i := 54) (by decide +kernel)⟩
theorem lw_p2 : lw_okq (⟨"TypedMill$Expressions", "heightOver", "(IIII)I"⟩, 7) := ⟨⟨by decide +kernel, by decide +kernel⟩, List.mem_of_getElem? (i := 85) (by decide +kernel), List.mem_of_getElem? (i := 422) (by decide +kernel), List.mem_of_getElem? (i := 423) (by decide +kernel)⟩
theorem lw_p3 : lw_okq (⟨"TypedMill", "typeOf", "(I)I"⟩, 9) := ⟨⟨by decide +kernel, by decide +kernel⟩, List.mem_of_getElem? (i := 21) (by decide +kernel), List.mem_of_getElem? (i := 438) (by decide +kernel), List.mem_of_getElem? (i := 439) (by decide +kernel)⟩
theorem lw_p4 : lw_okq (⟨"TypedMill$Typing", "find", "(I)I"⟩, 4) := ⟨⟨by decide +kernel, by decide +kernel⟩, List.mem_of_getElem? (i := 128) (by decide +kernel), List.mem_of_getElem? (i := 446) (by decide +kernel), List.mem_of_getElem? (i := 447) (by decide +kernel)⟩
theorem lw_p5 : lw_okq (⟨"TypedMill$Typing", "ofChoice", "(I)I"⟩, 4) := ⟨⟨by decide +kernel, by decide +kernel⟩, List.mem_of_getElem? (i := 128) (by decide +kernel), List.mem_of_getElem? (i := 450) (by decide +kernel), List.mem_of_getElem? (i := 451) (by decide +kernel)⟩
theorem lw_p6 : lw_okq (⟨"TypedMill$Typing", "ofLambda", "(I)I"⟩, 4) := ⟨⟨by decide +kernel, by decide +kernel⟩, List.mem_of_getElem? (i := 128) (by decide +kernel), List.mem_of_getElem? (i := 454) (by decide +kernel), List.mem_of_getElem? (i := 455) (by decide +kernel)⟩
theorem lw_p7 : lw_okq (⟨"TypedMill$Typing", "ofCall", "(I)I"⟩, 4) := ⟨⟨by decide +kernel, by decide +kernel⟩, List.mem_of_getElem? (i := 128) (by decide +kernel), List.mem_of_getElem? (i := 466) (by decide +kernel), List.mem_of_getElem? (i := 467) (by decide +kernel)⟩
theorem lw_p8 : lw_okq (⟨"TypedMill$Typing", "ofPair", "(I)I"⟩, 4) := ⟨⟨by decide +kernel, by decide +kernel⟩, List.mem_of_getElem? (i := 128) (by decide +kernel), List.mem_of_getElem? (i := 471) (by decide +kernel), List.mem_of_getElem? (i := 472) (by decide +kernel)⟩
theorem lw_p9 : lw_okq (⟨"TypedMill$Typing", "ofPart", "(I)I"⟩, 4) := ⟨⟨by decide +kernel, by decide +kernel⟩, List.mem_of_getElem? (i := 128) (by decide +kernel), List.mem_of_getElem? (i := 476) (by decide +kernel), List.mem_of_getElem? (i := 477) (by decide +kernel)⟩
theorem lw_p10 : lw_okq (⟨"TypedMill$Typing", "ofReckoning", "(I)I"⟩, 4) := ⟨⟨by decide +kernel, by decide +kernel⟩, List.mem_of_getElem? (i := 128) (by decide +kernel), List.mem_of_getElem? (i := 480) (by decide +kernel), List.mem_of_getElem? (i := 481) (by decide +kernel)⟩
theorem lw_p11 : lw_okq (⟨"TypedMill$Code", "ask", "(II)V"⟩, 16) := ⟨⟨by decide +kernel, by decide +kernel⟩, List.mem_of_getElem? (i := 284) (by decide +kernel), List.mem_of_getElem? (i := 516) (by decide +kernel), List.mem_of_getElem? (i := 517) (by decide +kernel)⟩
theorem lw_p12 : lw_okq (⟨"TypedMill$Code", "fits", "(II)Z"⟩, 16) := ⟨⟨by decide +kernel, by decide +kernel⟩, List.mem_of_getElem? (i := 284) (by decide +kernel), List.mem_of_getElem? (i := 531) (by decide +kernel), List.mem_of_getElem? (i := 532) (by decide +kernel)⟩
theorem lw_p13 : lw_okq (⟨"TypedMill$Checker", "beginsRight", "()Z"⟩, 3) := ⟨⟨by decide +kernel, by decide +kernel⟩, List.mem_of_getElem? (i := 227) (by decide +kernel), List.mem_of_getElem? (i := 548) (by decide +kernel), List.mem_of_getElem? (i := 549) (by decide +kernel)⟩
theorem lw_p14 : lw_okq (⟨"TypedMill$Checker", "firstWrong", "(I)I"⟩, 3) := ⟨⟨by decide +kernel, by decide +kernel⟩, List.mem_of_getElem? (i := 227) (by decide +kernel), List.mem_of_getElem? (i := 557) (by decide +kernel), List.mem_of_getElem? (i := 558) (by decide +kernel)⟩
theorem lw_p15 : lw_okq (⟨"TypedMill$Checker", "isRight", "(I)Z"⟩, 3) := ⟨⟨by decide +kernel, by decide +kernel⟩, List.mem_of_getElem? (i := 227) (by decide +kernel), List.mem_of_getElem? (i := 570) (by decide +kernel), List.mem_of_getElem? (i := 571) (by decide +kernel)⟩
def lw_privs_1 : List (MethodName × Nat) := [(⟨"TypedMill$Types", "search", "(IIIII)I"⟩, 8), (⟨"TypedMill$Types", "append", "(IIIII)V"⟩, 8), (⟨"TypedMill$Expressions", "heightOver", "(IIII)I"⟩, 7), (⟨"TypedMill", "typeOf", "(I)I"⟩, 9), (⟨"TypedMill$Typing", "find", "(I)I"⟩, 4), (⟨"TypedMill$Typing", "ofChoice", "(I)I"⟩, 4), (⟨"TypedMill$Typing", "ofLambda", "(I)I"⟩, 4), (⟨"TypedMill$Typing", "ofCall", "(I)I"⟩, 4), (⟨"TypedMill$Typing", "ofPair", "(I)I"⟩, 4), (⟨"TypedMill$Typing", "ofPart", "(I)I"⟩, 4), (⟨"TypedMill$Typing", "ofReckoning", "(I)I"⟩, 4), (⟨"TypedMill$Code", "ask", "(II)V"⟩, 16), (⟨"TypedMill$Code", "fits", "(II)Z"⟩, 16), (⟨"TypedMill$Checker", "beginsRight", "()Z"⟩, 3), (⟨"TypedMill$Checker", "firstWrong", "(I)I"⟩, 3), (⟨"TypedMill$Checker", "isRight", "(I)Z"⟩, 3)]
theorem lw_r1 : ∀ q ∈ lw_privs_1, lw_okq q := List.forall_mem_cons.mpr ⟨lw_p0, List.forall_mem_cons.mpr ⟨lw_p1, List.forall_mem_cons.mpr ⟨lw_p2, List.forall_mem_cons.mpr ⟨lw_p3, List.forall_mem_cons.mpr ⟨lw_p4, List.forall_mem_cons.mpr ⟨lw_p5, List.forall_mem_cons.mpr ⟨lw_p6, List.forall_mem_cons.mpr ⟨lw_p7, List.forall_mem_cons.mpr ⟨lw_p8, List.forall_mem_cons.mpr ⟨lw_p9, List.forall_mem_cons.mpr ⟨lw_p10, List.forall_mem_cons.mpr ⟨lw_p11, List.forall_mem_cons.mpr ⟨lw_p12, List.forall_mem_cons.mpr ⟨lw_p13, List.forall_mem_cons.mpr ⟨lw_p14, List.forall_mem_cons.mpr ⟨lw_p15, fun _ h => absurd h List.not_mem_nil⟩⟩⟩⟩⟩⟩⟩⟩⟩⟩⟩⟩⟩⟩⟩⟩
theorem lw_p16 : lw_okq (⟨"TypedMill$Checker", "gets", "(II)Z"⟩, 3) := ⟨⟨by decide +kernel, by decide +kernel⟩, List.mem_of_getElem? (i := 227) (by decide +kernel), List.mem_of_getElem? (i := 574) (by decide +kernel), List.mem_of_getElem? (i := 575) (by decide +kernel)⟩
theorem lw_p17 : lw_okq (⟨"TypedMill$Checker", "typeOfBlock", "(I)I"⟩, 3) := ⟨⟨by decide +kernel, by decide +kernel⟩, List.mem_of_getElem? (i := 227) (by decide +kernel), List.mem_of_getElem? (i := 582) (by decide +kernel), List.mem_of_getElem? (i := 583) (by decide +kernel)⟩
theorem lw_p18 : lw_okq (⟨"TypedMill$Checker", "canWrap", "(II)Z"⟩, 3) := ⟨⟨by decide +kernel, by decide +kernel⟩, List.mem_of_getElem? (i := 227) (by decide +kernel), List.mem_of_getElem? (i := 586) (by decide +kernel), List.mem_of_getElem? (i := 587) (by decide +kernel)⟩
theorem lw_p19 : lw_okq (⟨"TypedMill$Checker", "taken", "(I)I"⟩, 3) := ⟨⟨by decide +kernel, by decide +kernel⟩, List.mem_of_getElem? (i := 227) (by decide +kernel), List.mem_of_getElem? (i := 590) (by decide +kernel), List.mem_of_getElem? (i := 591) (by decide +kernel)⟩
theorem lw_p20 : lw_okq (⟨"TypedMill$Checker", "waitsFor", "(II)Z"⟩, 3) := ⟨⟨by decide +kernel, by decide +kernel⟩, List.mem_of_getElem? (i := 227) (by decide +kernel), List.mem_of_getElem? (i := 598) (by decide +kernel), List.mem_of_getElem? (i := 599) (by decide +kernel)⟩
theorem lw_p21 : lw_okq (⟨"TypedMill$Checker", "opens", "(III)Z"⟩, 3) := ⟨⟨by decide +kernel, by decide +kernel⟩, List.mem_of_getElem? (i := 227) (by decide +kernel), List.mem_of_getElem? (i := 602) (by decide +kernel), List.mem_of_getElem? (i := 603) (by decide +kernel)⟩
theorem lw_p22 : lw_okq (⟨"TypedMill$Checker", "canEnter", "(I)Z"⟩, 3) := ⟨⟨by decide +kernel, by decide +kernel⟩, List.mem_of_getElem? (i := 227) (by decide +kernel), List.mem_of_getElem? (i := 610) (by decide +kernel), List.mem_of_getElem? (i := 611) (by decide +kernel)⟩
theorem lw_p23 : lw_okq (⟨"TypedMill$Checker", "canGive", "(II)Z"⟩, 3) := ⟨⟨by decide +kernel, by decide +kernel⟩, List.mem_of_getElem? (i := 227) (by decide +kernel), List.mem_of_getElem? (i := 614) (by decide +kernel), List.mem_of_getElem? (i := 615) (by decide +kernel)⟩
theorem lw_p24 : lw_okq (⟨"TypedMill$Checker", "canGo", "(I)Z"⟩, 3) := ⟨⟨by decide +kernel, by decide +kernel⟩, List.mem_of_getElem? (i := 227) (by decide +kernel), List.mem_of_getElem? (i := 618) (by decide +kernel), List.mem_of_getElem? (i := 619) (by decide +kernel)⟩
theorem lw_p25 : lw_okq (⟨"TypedMill$Machine", "perform", "()Z"⟩, 11) := ⟨⟨by decide +kernel, by decide +kernel⟩, List.mem_of_getElem? (i := 243) (by decide +kernel), List.mem_of_getElem? (i := 650) (by decide +kernel), List.mem_of_getElem? (i := 651) (by decide +kernel)⟩
theorem lw_p26 : lw_okq (⟨"TypedMill$Machine", "stop", "(I)Z"⟩, 11) := ⟨⟨by decide +kernel, by decide +kernel⟩, List.mem_of_getElem? (i := 243) (by decide +kernel), List.mem_of_getElem? (i := 655) (by decide +kernel), List.mem_of_getElem? (i := 656) (by decide +kernel)⟩
theorem lw_p27 : lw_okq (⟨"TypedMill$Machine", "become", "(III)Z"⟩, 11) := ⟨⟨by decide +kernel, by decide +kernel⟩, List.mem_of_getElem? (i := 243) (by decide +kernel), List.mem_of_getElem? (i := 660) (by decide +kernel), List.mem_of_getElem? (i := 661) (by decide +kernel)⟩
theorem lw_p28 : lw_okq (⟨"TypedMill$Machine", "reckon", "(IIII)Z"⟩, 11) := ⟨⟨by decide +kernel, by decide +kernel⟩, List.mem_of_getElem? (i := 243) (by decide +kernel), List.mem_of_getElem? (i := 664) (by decide +kernel), List.mem_of_getElem? (i := 665) (by decide +kernel)⟩
theorem lw_p29 : lw_okq (⟨"TypedMill$Machine", "pair", "(III)Z"⟩, 11) := ⟨⟨by decide +kernel, by decide +kernel⟩, List.mem_of_getElem? (i := 243) (by decide +kernel), List.mem_of_getElem? (i := 668) (by decide +kernel), List.mem_of_getElem? (i := 669) (by decide +kernel)⟩
theorem lw_p30 : lw_okq (⟨"TypedMill$Machine", "load", "(III)Z"⟩, 11) := ⟨⟨by decide +kernel, by decide +kernel⟩, List.mem_of_getElem? (i := 243) (by decide +kernel), List.mem_of_getElem? (i := 672) (by decide +kernel), List.mem_of_getElem? (i := 673) (by decide +kernel)⟩
theorem lw_p31 : lw_okq (⟨"TypedMill$Machine", "unwrap", "(III)Z"⟩, 11) := ⟨⟨by decide +kernel, by decide +kernel⟩, List.mem_of_getElem? (i := 243) (by decide +kernel), List.mem_of_getElem? (i := 676) (by decide +kernel), List.mem_of_getElem? (i := 677) (by decide +kernel)⟩
def lw_privs_2 : List (MethodName × Nat) := [(⟨"TypedMill$Checker", "gets", "(II)Z"⟩, 3), (⟨"TypedMill$Checker", "typeOfBlock", "(I)I"⟩, 3), (⟨"TypedMill$Checker", "canWrap", "(II)Z"⟩, 3), (⟨"TypedMill$Checker", "taken", "(I)I"⟩, 3), (⟨"TypedMill$Checker", "waitsFor", "(II)Z"⟩, 3), (⟨"TypedMill$Checker", "opens", "(III)Z"⟩, 3), (⟨"TypedMill$Checker", "canEnter", "(I)Z"⟩, 3), (⟨"TypedMill$Checker", "canGive", "(II)Z"⟩, 3), (⟨"TypedMill$Checker", "canGo", "(I)Z"⟩, 3), (⟨"TypedMill$Machine", "perform", "()Z"⟩, 11), (⟨"TypedMill$Machine", "stop", "(I)Z"⟩, 11), (⟨"TypedMill$Machine", "become", "(III)Z"⟩, 11), (⟨"TypedMill$Machine", "reckon", "(IIII)Z"⟩, 11), (⟨"TypedMill$Machine", "pair", "(III)Z"⟩, 11), (⟨"TypedMill$Machine", "load", "(III)Z"⟩, 11), (⟨"TypedMill$Machine", "unwrap", "(III)Z"⟩, 11)]
theorem lw_r2 : ∀ q ∈ lw_privs_2, lw_okq q := List.forall_mem_cons.mpr ⟨lw_p16, List.forall_mem_cons.mpr ⟨lw_p17, List.forall_mem_cons.mpr ⟨lw_p18, List.forall_mem_cons.mpr ⟨lw_p19, List.forall_mem_cons.mpr ⟨lw_p20, List.forall_mem_cons.mpr ⟨lw_p21, List.forall_mem_cons.mpr ⟨lw_p22, List.forall_mem_cons.mpr ⟨lw_p23, List.forall_mem_cons.mpr ⟨lw_p24, List.forall_mem_cons.mpr ⟨lw_p25, List.forall_mem_cons.mpr ⟨lw_p26, List.forall_mem_cons.mpr ⟨lw_p27, List.forall_mem_cons.mpr ⟨lw_p28, List.forall_mem_cons.mpr ⟨lw_p29, List.forall_mem_cons.mpr ⟨lw_p30, List.forall_mem_cons.mpr ⟨lw_p31, fun _ h => absurd h List.not_mem_nil⟩⟩⟩⟩⟩⟩⟩⟩⟩⟩⟩⟩⟩⟩⟩⟩
theorem lw_p32 : lw_okq (⟨"TypedMill$Machine", "enter", "(I)Z"⟩, 11) := ⟨⟨by decide +kernel, by decide +kernel⟩, List.mem_of_getElem? (i := 243) (by decide +kernel), List.mem_of_getElem? (i := 680) (by decide +kernel), List.mem_of_getElem? (i := 681) (by decide +kernel)⟩
theorem lw_p33 : lw_okq (⟨"TypedMill$Machine", "branch", "(II)Z"⟩, 11) := ⟨⟨by decide +kernel, by decide +kernel⟩, List.mem_of_getElem? (i := 243) (by decide +kernel), List.mem_of_getElem? (i := 685) (by decide +kernel), List.mem_of_getElem? (i := 686) (by decide +kernel)⟩
theorem lw_p34 : lw_okq (⟨"java/lang/Throwable", "fillInStackTrace", "(I)Ljava/lang/Throwable;"⟩, 6) := ⟨⟨by decide +kernel, by decide +kernel⟩, List.mem_of_getElem? (i := 750) (by decide +kernel), List.mem_of_getElem? (i := 748) (by decide +kernel), List.mem_of_getElem? (i := 749) (by decide +kernel)⟩
theorem lw_p35 : lw_okq (⟨"TypedMill$Evaluator", "find", "(III)I"⟩, 10) := ⟨⟨by decide +kernel, by decide +kernel⟩, List.mem_of_getElem? (i := 147) (by decide +kernel), List.mem_of_getElem? (i := 794) (by decide +kernel), List.mem_of_getElem? (i := 795) (by decide +kernel)⟩
theorem lw_p36 : lw_okq (⟨"TypedMill$Evaluator", "value", "(III)I"⟩, 10) := ⟨⟨by decide +kernel, by decide +kernel⟩, List.mem_of_getElem? (i := 147) (by decide +kernel), List.mem_of_getElem? (i := 798) (by decide +kernel), List.mem_of_getElem? (i := 799) (by decide +kernel)⟩
theorem lw_p37 : lw_okq (⟨"TypedMill$Evaluator", "ofVariable", "(II)I"⟩, 10) := ⟨⟨by decide +kernel, by decide +kernel⟩, List.mem_of_getElem? (i := 147) (by decide +kernel), List.mem_of_getElem? (i := 802) (by decide +kernel), List.mem_of_getElem? (i := 803) (by decide +kernel)⟩
theorem lw_p38 : lw_okq (⟨"TypedMill$Evaluator", "ofChoice", "(III)I"⟩, 10) := ⟨⟨by decide +kernel, by decide +kernel⟩, List.mem_of_getElem? (i := 147) (by decide +kernel), List.mem_of_getElem? (i := 806) (by decide +kernel), List.mem_of_getElem? (i := 807) (by decide +kernel)⟩
theorem lw_p39 : lw_okq (⟨"TypedMill$Evaluator", "ofCall", "(III)I"⟩, 10) := ⟨⟨by decide +kernel, by decide +kernel⟩, List.mem_of_getElem? (i := 147) (by decide +kernel), List.mem_of_getElem? (i := 810) (by decide +kernel), List.mem_of_getElem? (i := 811) (by decide +kernel)⟩
theorem lw_p40 : lw_okq (⟨"TypedMill$Evaluator", "ofPart", "(III)I"⟩, 10) := ⟨⟨by decide +kernel, by decide +kernel⟩, List.mem_of_getElem? (i := 147) (by decide +kernel), List.mem_of_getElem? (i := 814) (by decide +kernel), List.mem_of_getElem? (i := 815) (by decide +kernel)⟩
theorem lw_p41 : lw_okq (⟨"TypedMill$Evaluator", "ofTwo", "(III)I"⟩, 10) := ⟨⟨by decide +kernel, by decide +kernel⟩, List.mem_of_getElem? (i := 147) (by decide +kernel), List.mem_of_getElem? (i := 818) (by decide +kernel), List.mem_of_getElem? (i := 819) (by decide +kernel)⟩
theorem lw_p42 : lw_okq (⟨"TypedMill$CodeWriter", "write", "(II)I"⟩, 11) := ⟨⟨by decide +kernel, by decide +kernel⟩, List.mem_of_getElem? (i := 186) (by decide +kernel), List.mem_of_getElem? (i := 852) (by decide +kernel), List.mem_of_getElem? (i := 853) (by decide +kernel)⟩
theorem lw_p43 : lw_okq (⟨"TypedMill$CodeWriter", "writeVariable", "(II)I"⟩, 11) := ⟨⟨by decide +kernel, by decide +kernel⟩, List.mem_of_getElem? (i := 186) (by decide +kernel), List.mem_of_getElem? (i := 857) (by decide +kernel), List.mem_of_getElem? (i := 858) (by decide +kernel)⟩
theorem lw_p44 : lw_okq (⟨"TypedMill$CodeWriter", "writeChoice", "(II)I"⟩, 11) := ⟨⟨by decide +kernel, by decide +kernel⟩, List.mem_of_getElem? (i := 186) (by decide +kernel), List.mem_of_getElem? (i := 862) (by decide +kernel), List.mem_of_getElem? (i := 863) (by decide +kernel)⟩
theorem lw_p45 : lw_okq (⟨"TypedMill$CodeWriter", "writeLambda", "(II)I"⟩, 11) := ⟨⟨by decide +kernel, by decide +kernel⟩, List.mem_of_getElem? (i := 186) (by decide +kernel), List.mem_of_getElem? (i := 866) (by decide +kernel), List.mem_of_getElem? (i := 867) (by decide +kernel)⟩
theorem lw_p46 : lw_okq (⟨"TypedMill$CodeWriter", "writeCall", "(II)I"⟩, 11) := ⟨⟨by decide +kernel, by decide +kernel⟩, List.mem_of_getElem? (i := 186) (by decide +kernel), List.mem_of_getElem? (i := 870) (by decide +kernel), List.mem_of_getElem? (i := 871) (by decide +kernel)⟩
theorem lw_p47 : lw_okq (⟨"TypedMill$CodeWriter", "extend", "(IIZ)I"⟩, 11) := ⟨⟨by decide +kernel, by decide +kernel⟩, List.mem_of_getElem? (i := 186) (by decide +kernel), List.mem_of_getElem? (i := 874) (by decide +kernel), List.mem_of_getElem? (i := 875) (by decide +kernel)⟩
def lw_privs_3 : List (MethodName × Nat) := [(⟨"TypedMill$Machine", "enter", "(I)Z"⟩, 11), (⟨"TypedMill$Machine", "branch", "(II)Z"⟩, 11), (⟨"java/lang/Throwable", "fillInStackTrace", "(I)Ljava/lang/Throwable;"⟩, 6), (⟨"TypedMill$Evaluator", "find", "(III)I"⟩, 10), (⟨"TypedMill$Evaluator", "value", "(III)I"⟩, 10), (⟨"TypedMill$Evaluator", "ofVariable", "(II)I"⟩, 10), (⟨"TypedMill$Evaluator", "ofChoice", "(III)I"⟩, 10), (⟨"TypedMill$Evaluator", "ofCall", "(III)I"⟩, 10), (⟨"TypedMill$Evaluator", "ofPart", "(III)I"⟩, 10), (⟨"TypedMill$Evaluator", "ofTwo", "(III)I"⟩, 10), (⟨"TypedMill$CodeWriter", "write", "(II)I"⟩, 11), (⟨"TypedMill$CodeWriter", "writeVariable", "(II)I"⟩, 11), (⟨"TypedMill$CodeWriter", "writeChoice", "(II)I"⟩, 11), (⟨"TypedMill$CodeWriter", "writeLambda", "(II)I"⟩, 11), (⟨"TypedMill$CodeWriter", "writeCall", "(II)I"⟩, 11), (⟨"TypedMill$CodeWriter", "extend", "(IIZ)I"⟩, 11)]
theorem lw_r3 : ∀ q ∈ lw_privs_3, lw_okq q := List.forall_mem_cons.mpr ⟨lw_p32, List.forall_mem_cons.mpr ⟨lw_p33, List.forall_mem_cons.mpr ⟨lw_p34, List.forall_mem_cons.mpr ⟨lw_p35, List.forall_mem_cons.mpr ⟨lw_p36, List.forall_mem_cons.mpr ⟨lw_p37, List.forall_mem_cons.mpr ⟨lw_p38, List.forall_mem_cons.mpr ⟨lw_p39, List.forall_mem_cons.mpr ⟨lw_p40, List.forall_mem_cons.mpr ⟨lw_p41, List.forall_mem_cons.mpr ⟨lw_p42, List.forall_mem_cons.mpr ⟨lw_p43, List.forall_mem_cons.mpr ⟨lw_p44, List.forall_mem_cons.mpr ⟨lw_p45, List.forall_mem_cons.mpr ⟨lw_p46, List.forall_mem_cons.mpr ⟨lw_p47, fun _ h => absurd h List.not_mem_nil⟩⟩⟩⟩⟩⟩⟩⟩⟩⟩⟩⟩⟩⟩⟩⟩
theorem lw_p48 : lw_okq (⟨"TypedMill$CodeWriter", "writePart", "(III)I"⟩, 11) := ⟨⟨by decide +kernel, by decide +kernel⟩, List.mem_of_getElem? (i := 186) (by decide +kernel), List.mem_of_getElem? (i := 879) (by decide +kernel), List.mem_of_getElem? (i := 880) (by decide +kernel)⟩
theorem lw_p49 : lw_okq (⟨"TypedMill$CodeWriter", "writeTwo", "(II)I"⟩, 11) := ⟨⟨by decide +kernel, by decide +kernel⟩, List.mem_of_getElem? (i := 186) (by decide +kernel), List.mem_of_getElem? (i := 884) (by decide +kernel), List.mem_of_getElem? (i := 885) (by decide +kernel)⟩
theorem lw_p50 : lw_okq (⟨"TypedMill$CodeWriter", "writeBody", "(III)V"⟩, 11) := ⟨⟨by decide +kernel, by decide +kernel⟩, List.mem_of_getElem? (i := 186) (by decide +kernel), List.mem_of_getElem? (i := 891) (by decide +kernel), List.mem_of_getElem? (i := 892) (by decide +kernel)⟩
theorem lw_p51 : lw_okq (⟨"TypedMillModel", "find", "(IIII)I"⟩, 84) := ⟨⟨by decide +kernel, by decide +kernel⟩, List.mem_of_getElem? (i := 910) (by decide +kernel), List.mem_of_getElem? (i := 916) (by decide +kernel), List.mem_of_getElem? (i := 917) (by decide +kernel)⟩
theorem lw_p52 : lw_okq (⟨"TypedMillModel", "sizeOf", "(I)I"⟩, 84) := ⟨⟨by decide +kernel, by decide +kernel⟩, List.mem_of_getElem? (i := 910) (by decide +kernel), List.mem_of_getElem? (i := 920) (by decide +kernel), List.mem_of_getElem? (i := 921) (by decide +kernel)⟩
theorem lw_p53 : lw_okq (⟨"TypedMillModel", "restart", "()V"⟩, 84) := ⟨⟨by decide +kernel, by decide +kernel⟩, List.mem_of_getElem? (i := 910) (by decide +kernel), List.mem_of_getElem? (i := 924) (by decide +kernel), List.mem_of_getElem? (i := 925) (by decide +kernel)⟩
theorem lw_p54 : lw_okq (⟨"TypedMillModel", "isMade", "(I)Z"⟩, 84) := ⟨⟨by decide +kernel, by decide +kernel⟩, List.mem_of_getElem? (i := 910) (by decide +kernel), List.mem_of_getElem? (i := 1189) (by decide +kernel), List.mem_of_getElem? (i := 1190) (by decide +kernel)⟩
theorem lw_p55 : lw_okq (⟨"TypedMillModel", "numberOf", "(I)I"⟩, 84) := ⟨⟨by decide +kernel, by decide +kernel⟩, List.mem_of_getElem? (i := 910) (by decide +kernel), List.mem_of_getElem? (i := 1193) (by decide +kernel), List.mem_of_getElem? (i := 1194) (by decide +kernel)⟩
theorem lw_p56 : lw_okq (⟨"TypedMillModel", "isExpression", "(I)Z"⟩, 84) := ⟨⟨by decide +kernel, by decide +kernel⟩, List.mem_of_getElem? (i := 910) (by decide +kernel), List.mem_of_getElem? (i := 1208) (by decide +kernel), List.mem_of_getElem? (i := 1209) (by decide +kernel)⟩
theorem lw_p57 : lw_okq (⟨"TypedMillModel", "typeOf", "(I)I"⟩, 84) := ⟨⟨by decide +kernel, by decide +kernel⟩, List.mem_of_getElem? (i := 910) (by decide +kernel), List.mem_of_getElem? (i := 1216) (by decide +kernel), List.mem_of_getElem? (i := 1217) (by decide +kernel)⟩
theorem lw_p58 : lw_okq (⟨"TypedMillModel", "begin", "(I)V"⟩, 84) := ⟨⟨by decide +kernel, by decide +kernel⟩, List.mem_of_getElem? (i := 910) (by decide +kernel), List.mem_of_getElem? (i := 1220) (by decide +kernel), List.mem_of_getElem? (i := 1221) (by decide +kernel)⟩
theorem lw_p59 : lw_okq (⟨"TypedMillModel", "typeNext", "()Z"⟩, 84) := ⟨⟨by decide +kernel, by decide +kernel⟩, List.mem_of_getElem? (i := 910) (by decide +kernel), List.mem_of_getElem? (i := 1224) (by decide +kernel), List.mem_of_getElem? (i := 1225) (by decide +kernel)⟩
theorem lw_p60 : lw_okq (⟨"TypedMillModel", "refuse", "(I)I"⟩, 84) := ⟨⟨by decide +kernel, by decide +kernel⟩, List.mem_of_getElem? (i := 910) (by decide +kernel), List.mem_of_getElem? (i := 1232) (by decide +kernel), List.mem_of_getElem? (i := 1233) (by decide +kernel)⟩
theorem lw_p61 : lw_okq (⟨"TypedMillModel", "isProgram", "(I)Z"⟩, 84) := ⟨⟨by decide +kernel, by decide +kernel⟩, List.mem_of_getElem? (i := 910) (by decide +kernel), List.mem_of_getElem? (i := 1236) (by decide +kernel), List.mem_of_getElem? (i := 1237) (by decide +kernel)⟩
theorem lw_p62 : lw_okq (⟨"TypedMillModel", "step", "(II)Z"⟩, 84) := ⟨⟨by decide +kernel, by decide +kernel⟩, List.mem_of_getElem? (i := 910) (by decide +kernel), List.mem_of_getElem? (i := 1240) (by decide +kernel), List.mem_of_getElem? (i := 1241) (by decide +kernel)⟩
theorem lw_p63 : lw_okq (⟨"TypedMillModel", "evaluateNext", "()Z"⟩, 84) := ⟨⟨by decide +kernel, by decide +kernel⟩, List.mem_of_getElem? (i := 910) (by decide +kernel), List.mem_of_getElem? (i := 1244) (by decide +kernel), List.mem_of_getElem? (i := 1245) (by decide +kernel)⟩
def lw_privs_4 : List (MethodName × Nat) := [(⟨"TypedMill$CodeWriter", "writePart", "(III)I"⟩, 11), (⟨"TypedMill$CodeWriter", "writeTwo", "(II)I"⟩, 11), (⟨"TypedMill$CodeWriter", "writeBody", "(III)V"⟩, 11), (⟨"TypedMillModel", "find", "(IIII)I"⟩, 84), (⟨"TypedMillModel", "sizeOf", "(I)I"⟩, 84), (⟨"TypedMillModel", "restart", "()V"⟩, 84), (⟨"TypedMillModel", "isMade", "(I)Z"⟩, 84), (⟨"TypedMillModel", "numberOf", "(I)I"⟩, 84), (⟨"TypedMillModel", "isExpression", "(I)Z"⟩, 84), (⟨"TypedMillModel", "typeOf", "(I)I"⟩, 84), (⟨"TypedMillModel", "begin", "(I)V"⟩, 84), (⟨"TypedMillModel", "typeNext", "()Z"⟩, 84), (⟨"TypedMillModel", "refuse", "(I)I"⟩, 84), (⟨"TypedMillModel", "isProgram", "(I)Z"⟩, 84), (⟨"TypedMillModel", "step", "(II)Z"⟩, 84), (⟨"TypedMillModel", "evaluateNext", "()Z"⟩, 84)]
theorem lw_r4 : ∀ q ∈ lw_privs_4, lw_okq q := List.forall_mem_cons.mpr ⟨lw_p48, List.forall_mem_cons.mpr ⟨lw_p49, List.forall_mem_cons.mpr ⟨lw_p50, List.forall_mem_cons.mpr ⟨lw_p51, List.forall_mem_cons.mpr ⟨lw_p52, List.forall_mem_cons.mpr ⟨lw_p53, List.forall_mem_cons.mpr ⟨lw_p54, List.forall_mem_cons.mpr ⟨lw_p55, List.forall_mem_cons.mpr ⟨lw_p56, List.forall_mem_cons.mpr ⟨lw_p57, List.forall_mem_cons.mpr ⟨lw_p58, List.forall_mem_cons.mpr ⟨lw_p59, List.forall_mem_cons.mpr ⟨lw_p60, List.forall_mem_cons.mpr ⟨lw_p61, List.forall_mem_cons.mpr ⟨lw_p62, List.forall_mem_cons.mpr ⟨lw_p63, fun _ h => absurd h List.not_mem_nil⟩⟩⟩⟩⟩⟩⟩⟩⟩⟩⟩⟩⟩⟩⟩⟩
theorem lw_p64 : lw_okq (⟨"TypedMillModel", "partNext", "(III)I"⟩, 84) := ⟨⟨by decide +kernel, by decide +kernel⟩, List.mem_of_getElem? (i := 910) (by decide +kernel), List.mem_of_getElem? (i := 1248) (by decide +kernel), List.mem_of_getElem? (i := 1249) (by decide +kernel)⟩
theorem lw_p65 : lw_okq (⟨"TypedMillModel", "bind", "(II)I"⟩, 84) := ⟨⟨by decide +kernel, by decide +kernel⟩, List.mem_of_getElem? (i := 910) (by decide +kernel), List.mem_of_getElem? (i := 1252) (by decide +kernel), List.mem_of_getElem? (i := 1253) (by decide +kernel)⟩
theorem lw_p66 : lw_okq (⟨"TypedMillModel", "newValue", "(III)I"⟩, 84) := ⟨⟨by decide +kernel, by decide +kernel⟩, List.mem_of_getElem? (i := 910) (by decide +kernel), List.mem_of_getElem? (i := 1256) (by decide +kernel), List.mem_of_getElem? (i := 1257) (by decide +kernel)⟩
theorem lw_p67 : lw_okq (⟨"TypedMillModel", "boundTo", "(II)I"⟩, 84) := ⟨⟨by decide +kernel, by decide +kernel⟩, List.mem_of_getElem? (i := 910) (by decide +kernel), List.mem_of_getElem? (i := 1260) (by decide +kernel), List.mem_of_getElem? (i := 1261) (by decide +kernel)⟩
theorem lw_p68 : lw_okq (⟨"TypedMillModel", "keep", "(Z)V"⟩, 84) := ⟨⟨by decide +kernel, by decide +kernel⟩, List.mem_of_getElem? (i := 910) (by decide +kernel), List.mem_of_getElem? (i := 1275) (by decide +kernel), List.mem_of_getElem? (i := 1276) (by decide +kernel)⟩
theorem lw_p69 : lw_okq (⟨"TypedMillModel", "writeProgram", "(I)Z"⟩, 84) := ⟨⟨by decide +kernel, by decide +kernel⟩, List.mem_of_getElem? (i := 910) (by decide +kernel), List.mem_of_getElem? (i := 1282) (by decide +kernel), List.mem_of_getElem? (i := 1283) (by decide +kernel)⟩
theorem lw_p70 : lw_okq (⟨"TypedMillModel", "name", "()I"⟩, 84) := ⟨⟨by decide +kernel, by decide +kernel⟩, List.mem_of_getElem? (i := 910) (by decide +kernel), List.mem_of_getElem? (i := 1286) (by decide +kernel), List.mem_of_getElem? (i := 1287) (by decide +kernel)⟩
theorem lw_p71 : lw_okq (⟨"TypedMillModel", "beginBlock", "(IIII)V"⟩, 84) := ⟨⟨by decide +kernel, by decide +kernel⟩, List.mem_of_getElem? (i := 910) (by decide +kernel), List.mem_of_getElem? (i := 1290) (by decide +kernel), List.mem_of_getElem? (i := 1291) (by decide +kernel)⟩
theorem lw_p72 : lw_okq (⟨"TypedMillModel", "writeAll", "(I)V"⟩, 84) := ⟨⟨by decide +kernel, by decide +kernel⟩, List.mem_of_getElem? (i := 910) (by decide +kernel), List.mem_of_getElem? (i := 1294) (by decide +kernel), List.mem_of_getElem? (i := 1295) (by decide +kernel)⟩
theorem lw_p73 : lw_okq (⟨"TypedMillModel", "doLater", "(III)V"⟩, 84) := ⟨⟨by decide +kernel, by decide +kernel⟩, List.mem_of_getElem? (i := 910) (by decide +kernel), List.mem_of_getElem? (i := 1298) (by decide +kernel), List.mem_of_getElem? (i := 1299) (by decide +kernel)⟩
theorem lw_p74 : lw_okq (⟨"TypedMillModel", "doNext", "()V"⟩, 84) := ⟨⟨by decide +kernel, by decide +kernel⟩, List.mem_of_getElem? (i := 910) (by decide +kernel), List.mem_of_getElem? (i := 1302) (by decide +kernel), List.mem_of_getElem? (i := 1303) (by decide +kernel)⟩
theorem lw_p75 : lw_okq (⟨"TypedMillModel", "write", "(I)V"⟩, 84) := ⟨⟨by decide +kernel, by decide +kernel⟩, List.mem_of_getElem? (i := 910) (by decide +kernel), List.mem_of_getElem? (i := 1306) (by decide +kernel), List.mem_of_getElem? (i := 1307) (by decide +kernel)⟩
theorem lw_p76 : lw_okq (⟨"TypedMillModel", "emit", "(IIII)V"⟩, 84) := ⟨⟨by decide +kernel, by decide +kernel⟩, List.mem_of_getElem? (i := 910) (by decide +kernel), List.mem_of_getElem? (i := 1310) (by decide +kernel), List.mem_of_getElem? (i := 1311) (by decide +kernel)⟩
theorem lw_p77 : lw_okq (⟨"TypedMillModel", "finish", "(I)V"⟩, 84) := ⟨⟨by decide +kernel, by decide +kernel⟩, List.mem_of_getElem? (i := 910) (by decide +kernel), List.mem_of_getElem? (i := 1314) (by decide +kernel), List.mem_of_getElem? (i := 1315) (by decide +kernel)⟩
theorem lw_p78 : lw_okq (⟨"TypedMillModel", "variable", "(I)V"⟩, 84) := ⟨⟨by decide +kernel, by decide +kernel⟩, List.mem_of_getElem? (i := 910) (by decide +kernel), List.mem_of_getElem? (i := 1318) (by decide +kernel), List.mem_of_getElem? (i := 1319) (by decide +kernel)⟩
theorem lw_p79 : lw_okq (⟨"TypedMillModel", "lambda", "(I)V"⟩, 84) := ⟨⟨by decide +kernel, by decide +kernel⟩, List.mem_of_getElem? (i := 910) (by decide +kernel), List.mem_of_getElem? (i := 1322) (by decide +kernel), List.mem_of_getElem? (i := 1323) (by decide +kernel)⟩
def lw_privs_5 : List (MethodName × Nat) := [(⟨"TypedMillModel", "partNext", "(III)I"⟩, 84), (⟨"TypedMillModel", "bind", "(II)I"⟩, 84), (⟨"TypedMillModel", "newValue", "(III)I"⟩, 84), (⟨"TypedMillModel", "boundTo", "(II)I"⟩, 84), (⟨"TypedMillModel", "keep", "(Z)V"⟩, 84), (⟨"TypedMillModel", "writeProgram", "(I)Z"⟩, 84), (⟨"TypedMillModel", "name", "()I"⟩, 84), (⟨"TypedMillModel", "beginBlock", "(IIII)V"⟩, 84), (⟨"TypedMillModel", "writeAll", "(I)V"⟩, 84), (⟨"TypedMillModel", "doLater", "(III)V"⟩, 84), (⟨"TypedMillModel", "doNext", "()V"⟩, 84), (⟨"TypedMillModel", "write", "(I)V"⟩, 84), (⟨"TypedMillModel", "emit", "(IIII)V"⟩, 84), (⟨"TypedMillModel", "finish", "(I)V"⟩, 84), (⟨"TypedMillModel", "variable", "(I)V"⟩, 84), (⟨"TypedMillModel", "lambda", "(I)V"⟩, 84)]
theorem lw_r5 : ∀ q ∈ lw_privs_5, lw_okq q := List.forall_mem_cons.mpr ⟨lw_p64, List.forall_mem_cons.mpr ⟨lw_p65, List.forall_mem_cons.mpr ⟨lw_p66, List.forall_mem_cons.mpr ⟨lw_p67, List.forall_mem_cons.mpr ⟨lw_p68, List.forall_mem_cons.mpr ⟨lw_p69, List.forall_mem_cons.mpr ⟨lw_p70, List.forall_mem_cons.mpr ⟨lw_p71, List.forall_mem_cons.mpr ⟨lw_p72, List.forall_mem_cons.mpr ⟨lw_p73, List.forall_mem_cons.mpr ⟨lw_p74, List.forall_mem_cons.mpr ⟨lw_p75, List.forall_mem_cons.mpr ⟨lw_p76, List.forall_mem_cons.mpr ⟨lw_p77, List.forall_mem_cons.mpr ⟨lw_p78, List.forall_mem_cons.mpr ⟨lw_p79, fun _ h => absurd h List.not_mem_nil⟩⟩⟩⟩⟩⟩⟩⟩⟩⟩⟩⟩⟩⟩⟩⟩
theorem lw_p80 : lw_okq (⟨"TypedMillModel", "push", "(Z)V"⟩, 84) := ⟨⟨by decide +kernel, by decide +kernel⟩, List.mem_of_getElem? (i := 910) (by decide +kernel), List.mem_of_getElem? (i := 1326) (by decide +kernel), List.mem_of_getElem? (i := 1327) (by decide +kernel)⟩
theorem lw_p81 : lw_okq (⟨"TypedMillModel", "doneLast", "()I"⟩, 84) := ⟨⟨by decide +kernel, by decide +kernel⟩, List.mem_of_getElem? (i := 910) (by decide +kernel), List.mem_of_getElem? (i := 1330) (by decide +kernel), List.mem_of_getElem? (i := 1331) (by decide +kernel)⟩
theorem lw_p82 : lw_okq (⟨"TypedMillModel", "grow", "(IZ)V"⟩, 84) := ⟨⟨by decide +kernel, by decide +kernel⟩, List.mem_of_getElem? (i := 910) (by decide +kernel), List.mem_of_getElem? (i := 1334) (by decide +kernel), List.mem_of_getElem? (i := 1335) (by decide +kernel)⟩
theorem lw_p83 : lw_okq (⟨"TypedMillModel", "pop", "()V"⟩, 84) := ⟨⟨by decide +kernel, by decide +kernel⟩, List.mem_of_getElem? (i := 910) (by decide +kernel), List.mem_of_getElem? (i := 1338) (by decide +kernel), List.mem_of_getElem? (i := 1339) (by decide +kernel)⟩
theorem lw_p84 : lw_okq (⟨"TypedMillModel", "choose", "(I)V"⟩, 84) := ⟨⟨by decide +kernel, by decide +kernel⟩, List.mem_of_getElem? (i := 910) (by decide +kernel), List.mem_of_getElem? (i := 1342) (by decide +kernel), List.mem_of_getElem? (i := 1343) (by decide +kernel)⟩
theorem lw_p85 : lw_okq (⟨"TypedMillModel", "call", "()V"⟩, 84) := ⟨⟨by decide +kernel, by decide +kernel⟩, List.mem_of_getElem? (i := 910) (by decide +kernel), List.mem_of_getElem? (i := 1346) (by decide +kernel), List.mem_of_getElem? (i := 1347) (by decide +kernel)⟩
theorem lw_p86 : lw_okq (⟨"TypedMillModel", "writeBody", "(I)V"⟩, 84) := ⟨⟨by decide +kernel, by decide +kernel⟩, List.mem_of_getElem? (i := 910) (by decide +kernel), List.mem_of_getElem? (i := 1350) (by decide +kernel), List.mem_of_getElem? (i := 1351) (by decide +kernel)⟩
theorem lw_p87 : lw_okq (⟨"TypedMillModel", "isAsked", "(I)Z"⟩, 84) := ⟨⟨by decide +kernel, by decide +kernel⟩, List.mem_of_getElem? (i := 910) (by decide +kernel), List.mem_of_getElem? (i := 1362) (by decide +kernel), List.mem_of_getElem? (i := 1363) (by decide +kernel)⟩
theorem lw_p88 : lw_okq (⟨"TypedMillModel", "fits", "(IIII)Z"⟩, 84) := ⟨⟨by decide +kernel, by decide +kernel⟩, List.mem_of_getElem? (i := 910) (by decide +kernel), List.mem_of_getElem? (i := 1370) (by decide +kernel), List.mem_of_getElem? (i := 1371) (by decide +kernel)⟩
theorem lw_p89 : lw_okq (⟨"TypedMillModel", "checkBlock", "(I)I"⟩, 84) := ⟨⟨by decide +kernel, by decide +kernel⟩, List.mem_of_getElem? (i := 910) (by decide +kernel), List.mem_of_getElem? (i := 1384) (by decide +kernel), List.mem_of_getElem? (i := 1385) (by decide +kernel)⟩
theorem lw_p90 : lw_okq (⟨"TypedMillModel", "isRight", "(I)Z"⟩, 84) := ⟨⟨by decide +kernel, by decide +kernel⟩, List.mem_of_getElem? (i := 910) (by decide +kernel), List.mem_of_getElem? (i := 1391) (by decide +kernel), List.mem_of_getElem? (i := 1392) (by decide +kernel)⟩
theorem lw_p91 : lw_okq (⟨"TypedMillModel", "wraps", "(II)Z"⟩, 84) := ⟨⟨by decide +kernel, by decide +kernel⟩, List.mem_of_getElem? (i := 910) (by decide +kernel), List.mem_of_getElem? (i := 1395) (by decide +kernel), List.mem_of_getElem? (i := 1396) (by decide +kernel)⟩
theorem lw_p92 : lw_okq (⟨"TypedMillModel", "isCode", "(IIII)Z"⟩, 84) := ⟨⟨by decide +kernel, by decide +kernel⟩, List.mem_of_getElem? (i := 910) (by decide +kernel), List.mem_of_getElem? (i := 1399) (by decide +kernel), List.mem_of_getElem? (i := 1400) (by decide +kernel)⟩
theorem lw_p93 : lw_okq (⟨"TypedMillModel", "opens", "(I)Z"⟩, 84) := ⟨⟨by decide +kernel, by decide +kernel⟩, List.mem_of_getElem? (i := 910) (by decide +kernel), List.mem_of_getElem? (i := 1403) (by decide +kernel), List.mem_of_getElem? (i := 1404) (by decide +kernel)⟩
theorem lw_p94 : lw_okq (⟨"TypedMillModel", "hasBlock", "(I)Z"⟩, 84) := ⟨⟨by decide +kernel, by decide +kernel⟩, List.mem_of_getElem? (i := 910) (by decide +kernel), List.mem_of_getElem? (i := 1407) (by decide +kernel), List.mem_of_getElem? (i := 1408) (by decide +kernel)⟩
theorem lw_p95 : lw_okq (⟨"TypedMillModel", "has", "(III)Z"⟩, 84) := ⟨⟨by decide +kernel, by decide +kernel⟩, List.mem_of_getElem? (i := 910) (by decide +kernel), List.mem_of_getElem? (i := 1411) (by decide +kernel), List.mem_of_getElem? (i := 1412) (by decide +kernel)⟩
def lw_privs_6 : List (MethodName × Nat) := [(⟨"TypedMillModel", "push", "(Z)V"⟩, 84), (⟨"TypedMillModel", "doneLast", "()I"⟩, 84), (⟨"TypedMillModel", "grow", "(IZ)V"⟩, 84), (⟨"TypedMillModel", "pop", "()V"⟩, 84), (⟨"TypedMillModel", "choose", "(I)V"⟩, 84), (⟨"TypedMillModel", "call", "()V"⟩, 84), (⟨"TypedMillModel", "writeBody", "(I)V"⟩, 84), (⟨"TypedMillModel", "isAsked", "(I)Z"⟩, 84), (⟨"TypedMillModel", "fits", "(IIII)Z"⟩, 84), (⟨"TypedMillModel", "checkBlock", "(I)I"⟩, 84), (⟨"TypedMillModel", "isRight", "(I)Z"⟩, 84), (⟨"TypedMillModel", "wraps", "(II)Z"⟩, 84), (⟨"TypedMillModel", "isCode", "(IIII)Z"⟩, 84), (⟨"TypedMillModel", "opens", "(I)Z"⟩, 84), (⟨"TypedMillModel", "hasBlock", "(I)Z"⟩, 84), (⟨"TypedMillModel", "has", "(III)Z"⟩, 84)]
theorem lw_r6 : ∀ q ∈ lw_privs_6, lw_okq q := List.forall_mem_cons.mpr ⟨lw_p80, List.forall_mem_cons.mpr ⟨lw_p81, List.forall_mem_cons.mpr ⟨lw_p82, List.forall_mem_cons.mpr ⟨lw_p83, List.forall_mem_cons.mpr ⟨lw_p84, List.forall_mem_cons.mpr ⟨lw_p85, List.forall_mem_cons.mpr ⟨lw_p86, List.forall_mem_cons.mpr ⟨lw_p87, List.forall_mem_cons.mpr ⟨lw_p88, List.forall_mem_cons.mpr ⟨lw_p89, List.forall_mem_cons.mpr ⟨lw_p90, List.forall_mem_cons.mpr ⟨lw_p91, List.forall_mem_cons.mpr ⟨lw_p92, List.forall_mem_cons.mpr ⟨lw_p93, List.forall_mem_cons.mpr ⟨lw_p94, List.forall_mem_cons.mpr ⟨lw_p95, fun _ h => absurd h List.not_mem_nil⟩⟩⟩⟩⟩⟩⟩⟩⟩⟩⟩⟩⟩⟩⟩⟩
theorem lw_p96 : lw_okq (⟨"TypedMillModel", "go", "(I)Z"⟩, 84) := ⟨⟨by decide +kernel, by decide +kernel⟩, List.mem_of_getElem? (i := 910) (by decide +kernel), List.mem_of_getElem? (i := 1427) (by decide +kernel), List.mem_of_getElem? (i := 1428) (by decide +kernel)⟩
theorem lw_p97 : lw_okq (⟨"TypedMillModel", "doIt", "(I)Z"⟩, 84) := ⟨⟨by decide +kernel, by decide +kernel⟩, List.mem_of_getElem? (i := 910) (by decide +kernel), List.mem_of_getElem? (i := 1431) (by decide +kernel), List.mem_of_getElem? (i := 1432) (by decide +kernel)⟩
theorem lw_p98 : lw_okq (⟨"TypedMillModel", "put", "(III)V"⟩, 84) := ⟨⟨by decide +kernel, by decide +kernel⟩, List.mem_of_getElem? (i := 910) (by decide +kernel), List.mem_of_getElem? (i := 1435) (by decide +kernel), List.mem_of_getElem? (i := 1436) (by decide +kernel)⟩
theorem lw_p99 : lw_okq (⟨"TypedMillModel", "calculate", "(IIII)Z"⟩, 84) := ⟨⟨by decide +kernel, by decide +kernel⟩, List.mem_of_getElem? (i := 910) (by decide +kernel), List.mem_of_getElem? (i := 1439) (by decide +kernel), List.mem_of_getElem? (i := 1440) (by decide +kernel)⟩
theorem lw_p100 : lw_okq (⟨"TypedMillModel", "newPair", "(III)Z"⟩, 84) := ⟨⟨by decide +kernel, by decide +kernel⟩, List.mem_of_getElem? (i := 910) (by decide +kernel), List.mem_of_getElem? (i := 1443) (by decide +kernel), List.mem_of_getElem? (i := 1444) (by decide +kernel)⟩
theorem lw_p101 : lw_okq (⟨"TypedMillModel", "open", "(III)Z"⟩, 84) := ⟨⟨by decide +kernel, by decide +kernel⟩, List.mem_of_getElem? (i := 910) (by decide +kernel), List.mem_of_getElem? (i := 1447) (by decide +kernel), List.mem_of_getElem? (i := 1448) (by decide +kernel)⟩
def lw_privs_7 : List (MethodName × Nat) := [(⟨"TypedMillModel", "go", "(I)Z"⟩, 84), (⟨"TypedMillModel", "doIt", "(I)Z"⟩, 84), (⟨"TypedMillModel", "put", "(III)V"⟩, 84), (⟨"TypedMillModel", "calculate", "(IIII)Z"⟩, 84), (⟨"TypedMillModel", "newPair", "(III)Z"⟩, 84), (⟨"TypedMillModel", "open", "(III)Z"⟩, 84)]
theorem lw_r7 : ∀ q ∈ lw_privs_7, lw_okq q := List.forall_mem_cons.mpr ⟨lw_p96, List.forall_mem_cons.mpr ⟨lw_p97, List.forall_mem_cons.mpr ⟨lw_p98, List.forall_mem_cons.mpr ⟨lw_p99, List.forall_mem_cons.mpr ⟨lw_p100, List.forall_mem_cons.mpr ⟨lw_p101, fun _ h => absurd h List.not_mem_nil⟩⟩⟩⟩⟩⟩
def lw_privs : List (MethodName × Nat) := lw_privs_1 ++ (lw_privs_2 ++ (lw_privs_3 ++ (lw_privs_4 ++ (lw_privs_5 ++ (lw_privs_6 ++ (lw_privs_7))))))
def lw_tbl : List Cond := k2_sels lw_privs ++ tables_1
theorem lw_privs_ok : ∀ q ∈ lw_privs, lw_okq q := by
  show ∀ q ∈ lw_privs_1 ++ (lw_privs_2 ++ (lw_privs_3 ++ (lw_privs_4 ++ (lw_privs_5 ++ (lw_privs_6 ++ (lw_privs_7)))))), lw_okq q
  exact List.forall_mem_append.mpr ⟨lw_r1, List.forall_mem_append.mpr ⟨lw_r2, List.forall_mem_append.mpr ⟨lw_r3, List.forall_mem_append.mpr ⟨lw_r4, List.forall_mem_append.mpr ⟨lw_r5, List.forall_mem_append.mpr ⟨lw_r6, lw_r7⟩⟩⟩⟩⟩⟩
end
section
/-! A small machine for methods over ints, booleans, int arrays and fixed cells; what it computes, the real machine does (part 03).
A reference is a PLACE: 0 is null, i + 1 is cell i of the shape 'sh'; from 1000 on the static tables. -/
abbrev sm_M : Type := Nat → Nat → Int32
abbrev sm_D : Type := List Nat
abbrev sm_S : Type := Int32 × sm_D × sm_M
/-- a cell: (0, n, _) an int array of n places; (1, n, _) a boolean array; (2, c, fields) an object of class number c. A field: (0, _) an int, (1, p) always the cell p, (2, j) the cell that D names at j, (3, _) a boolean -/
abbrev sm_Sh : Type := Nat × Nat × List (Nat × Nat)
/-- a row of code: pc, instruction, length, begins a block of its own, v, x, y, z, w, switch -/
abbrev sm_R : Type := Nat × Instr × Nat × Bool × Int32 × Nat × Nat × Nat × Nat × List (Int32 × Nat)
abbrev sm_pc (r : sm_R) : Nat := r.1
abbrev sm_in (r : sm_R) : Instr := r.2.1
abbrev sm_ln (r : sm_R) : Nat := r.2.2.1
abbrev sm_fl (r : sm_R) : Bool := r.2.2.2.1
abbrev sm_v (r : sm_R) : Int32 := r.2.2.2.2.1
abbrev sm_x (r : sm_R) : Nat := r.2.2.2.2.2.1
abbrev sm_y (r : sm_R) : Nat := r.2.2.2.2.2.2.1
abbrev sm_z (r : sm_R) : Nat := r.2.2.2.2.2.2.2.1
abbrev sm_w (r : sm_R) : Nat := r.2.2.2.2.2.2.2.2.1
abbrev sm_ts (r : sm_R) : List (Int32 × Nat) := r.2.2.2.2.2.2.2.2.2
def sm_up (M : sm_M) (p j : Nat) (v : Int32) : sm_M := fun q => if q = p then upd (M p) j v else M q
def sm_at (sh : List sm_Sh) (p : Nat) : Option sm_Sh := match p with
  | 0 => none
  | i + 1 => sh[i]?
def sm_ck {ρ : Type} (i : Int32) (n : Nat) (k : Option ρ) : Option ρ := if 0 ≤ i.toInt ∧ i.toInt < (n : Int) then k else none
def sm_bo {ρ : Type} (v : Int32) (k : Option ρ) : Option ρ := if v = 0 ∨ v = 1 then k else none
def sm_nz {ρ : Type} (v : Int32) (k : Option ρ) : Option ρ := if v = 0 then none else k
def sm_bi {ρ : Type} (c : Option sm_S) (k : Int32 → sm_D → sm_M → Option ρ) : Option ρ := match c with
  | some (x, D, M) => k x D M
  | none => none
def sm_sw {ρ : Type} (v : Int32) (d : Nat) (k : Nat → Option ρ) : List (Int32 × Nat) → Option ρ
  | [] => k d
  | (c, t) :: r => if v = c then k t else sm_sw v d k r
def sm_cn {ρ : Type} (c : ClassFile.Cond) (a b : Int32) (t f : Option ρ) : Option ρ := match c with
  | .eq => if a = b then t else f
  | .ne => if a = b then f else t
  | .lt => if a < b then t else f
  | .ge => if a < b then f else t
  | .gt => if b < a then t else f
  | .le => if b < a then f else t
def sm_p1 {ρ : Type} (st : List Value) (k : Int32 → List Value → Option ρ) : Option ρ := match st with
  | .int x :: st => k x st
  | _ => none
def sm_p2 {ρ : Type} (st : List Value) (k : Int32 → Int32 → List Value → Option ρ) : Option ρ := match st with
  | .int y :: .int x :: st => k x y st
  | _ => none
def sm_c1 (v : Value) : Bool := match v with
  | .int _ => true
  | .ref _ => true
  | _ => false
def sm_pr {ρ : Type} (st : List Value) (k : Nat → List Value → Option ρ) : Option ρ := match st with
  | .ref (p + 1) :: st => k p st
  | _ => none
def sm_v1 {ρ : Type} (st : List Value) (k : Value → List Value → Option ρ) : Option ρ := match st with
  | v :: st => match sm_c1 v with
    | true => k v st
    | false => none
  | _ => none
/-- the end of a method -/
def sm_re {ρ : Type} (st : List Value) (zr : Bool) (a : Int32) (k : Option ρ) : Option ρ := match st, zr with
  | [], true => sm_bo a k
  | [], false => k
  | _, _ => none
def sm_tab (vs : List Nat) (i : Nat) : Int32 := nI (vs.getD i 0)
abbrev sm_Sa : Type := List (Nat × (String × String) × List Nat)
def sm_sa : sm_Sa → Nat → Option (List Nat)
  | [], _ => none
  | q :: r, p => if q.1 = p then some q.2.2 else sm_sa r p
/-- a value is read from a local -/
def sm_lo {ρ : Type} (ls : List Value) (i : Nat) (k : Value → Option ρ) : Option ρ := match ls[i]? with
  | some (.int x) => k (.int x)
  | some (.ref (p + 1)) => k (.ref (p + 1))
  | _ => none
def sm_ald {ρ : Type} (sh : List sm_Sh) (sa : sm_Sa) (st : List Value) (M : sm_M) (k : Int32 → List Value → Option ρ) : Option ρ := match st with
  | .int i :: .ref p :: st => match sm_at sh p with
    | some (0, n, _) => sm_ck i n (k (M p i.toNatClampNeg) st)
    | some _ => none
    | none => match sm_sa sa p with
      | some vs => sm_ck i vs.length (k (sm_tab vs i.toNatClampNeg) st)
      | none => none
  | _ => none
def sm_zld {ρ : Type} (sh : List sm_Sh) (st : List Value) (M : sm_M) (k : Int32 → List Value → Option ρ) : Option ρ := match st with
  | .int i :: .ref p :: st => match sm_at sh p with
    | some (1, n, _) => sm_ck i n (k (M p i.toNatClampNeg) st)
    | _ => none
  | _ => none
def sm_ast {ρ : Type} (sh : List sm_Sh) (st : List Value) (M : sm_M) (k : List Value → sm_M → Option ρ) : Option ρ := match st with
  | .int x :: .int i :: .ref p :: st => match sm_at sh p with
    | some (0, n, _) => sm_ck i n (k st (sm_up M p i.toNatClampNeg x))
    | _ => none
  | _ => none
def sm_zst {ρ : Type} (sh : List sm_Sh) (st : List Value) (M : sm_M) (k : List Value → sm_M → Option ρ) : Option ρ := match st with
  | .int x :: .int i :: .ref p :: st => match sm_at sh p with
    | some (1, n, _) => sm_ck i n (sm_bo x (k st (sm_up M p i.toNatClampNeg x)))
    | _ => none
  | _ => none
def sm_aln {ρ : Type} (sh : List sm_Sh) (st : List Value) (k : Int32 → List Value → Option ρ) : Option ρ := match st with
  | .ref p :: st => match sm_at sh p with
    | some (0, n, _) => k (nI n) st
    | _ => none
  | _ => none
def sm_get {ρ : Type} (sh : List sm_Sh) (ci fk : Nat) (st : List Value) (D : sm_D) (M : sm_M) (k : Value → List Value → Option ρ) : Option ρ := match st with
  | .ref p :: st => match sm_at sh p with
    | some (2, c, fs) => match Nat.beq c ci with
      | true => match fs[fk]? with
        | some (0, _) => k (.int (M p fk)) st
        | some (3, _) => k (.int (M p fk)) st
        | some (1, q) => k (.ref q) st
        | some (2, j) => match D[j]? with
          | some q => k (.ref q) st
          | none => none
        | _ => none
      | false => none
    | _ => none
  | _ => none
def sm_put {ρ : Type} (sh : List sm_Sh) (ci fk : Nat) (st : List Value) (D : sm_D) (M : sm_M) (k : List Value → sm_D → sm_M → Option ρ) : Option ρ := match st with
  | .int v :: .ref p :: st => match sm_at sh p with
    | some (2, c, fs) => match Nat.beq c ci with
      | true => match fs[fk]? with
        | some (0, _) => k st D (sm_up M p fk v)
        | some (3, _) => sm_bo v (k st D (sm_up M p fk v))
        | _ => none
      | false => none
    | _ => none
  | .ref q :: .ref p :: st => match sm_at sh p with
    | some (2, c, fs) => match Nat.beq c ci with
      | true => match fs[fk]? with
        | some (2, j) => match D[j]? with
          | some _ => k st (D.set j q) M
          | none => none
        | _ => none
      | false => none
    | _ => none
  | _ => none
/-- the receiver is an object of class number ci -/
def sm_rcv (sh : List sm_Sh) (ci : Nat) (as : List Value) : Bool := match as with
  | .ref p :: _ => match sm_at sh p with
    | some (2, c, _) => Nat.beq c ci
    | _ => false
  | _ => false
abbrev sm_Cal : Type := Nat → List Value → sm_D → sm_M → Option sm_S
/-- what a call does to D: nothing (0), or its place j becomes the argument number a (10 j + a + 1) -/
def sm_ef (w : Nat) (as : List Value) (D : sm_D) : sm_D := match w with
  | 0 => D
  | w + 1 => match as[w % 10]? with
    | some (.ref q) => D.set (w / 10) q
    | _ => D
def sm_dq {ρ : Type} (D E : sm_D) (k : Option ρ) : Option ρ := if D = E then k else none
def sm_inv {ρ : Type} (ok : List Value → Bool) (cal : sm_Cal) (x z w : Nat) (st : List Value) (D : sm_D) (M : sm_M) (k : Int32 → List Value → sm_D → sm_M → Option ρ) : Option ρ :=
  match Nat.ble (st.drop z).length 8, ok (st.take z).reverse, Nat.ble z st.length, (st.drop z).all sm_c1 with
  | true, true, true, true => sm_bi (cal x (st.take z).reverse D M) (fun r D' M => sm_dq D' (sm_ef w (st.take z).reverse D) (k r (st.drop z) (sm_ef w (st.take z).reverse D) M))
  | _, _, _, _ => none
abbrev sm_K (ρ : Type) : Type := List sm_R → List Value → List Value → sm_D → sm_M → Option ρ
/-- one instruction -/
def sm_st {ρ : Type} (sh : List sm_Sh) (sa : sm_Sa) (cal : sm_Cal) (code : List sm_R) (zr : Bool) (ret : Int32 → sm_D → sm_M → Option ρ) (nx : sm_K ρ) : sm_K ρ := fun rows ls st D M => match rows with
  | [] => none
  | r :: rest => match sm_in r with
    | .iconst _ => nx rest ls (.int (sm_v r) :: st) D M
    | .bipush _ => nx rest ls (.int (sm_v r) :: st) D M
    | .sipush _ => nx rest ls (.int (sm_v r) :: st) D M
    | .iload_n _ => sm_lo ls (sm_x r) (fun v => match v with
      | .int _ => nx rest ls (v :: st) D M
      | _ => none)
    | .iload _ => sm_lo ls (sm_x r) (fun v => match v with
      | .int _ => nx rest ls (v :: st) D M
      | _ => none)
    | .aload_n _ => sm_lo ls (sm_x r) (fun v => match v with
      | .ref _ => nx rest ls (v :: st) D M
      | _ => none)
    | .aload _ => sm_lo ls (sm_x r) (fun v => match v with
      | .ref _ => nx rest ls (v :: st) D M
      | _ => none)
    | .istore_n _ => sm_p1 st (fun a st => nx rest (ls.set (sm_x r) (.int a)) st D M)
    | .istore _ => sm_p1 st (fun a st => nx rest (ls.set (sm_x r) (.int a)) st D M)
    | .astore_n _ => sm_pr st (fun p st => nx rest (ls.set (sm_x r) (.ref (p + 1))) st D M)
    | .astore _ => sm_pr st (fun p st => nx rest (ls.set (sm_x r) (.ref (p + 1))) st D M)
    | .iinc _ _ => sm_lo ls (sm_x r) (fun v => match v with
      | .int a => nx rest (ls.set (sm_x r) (.int (a + sm_v r))) st D M
      | _ => none)
    | .iadd => sm_p2 st (fun a b st => nx rest ls (.int (a + b) :: st) D M)
    | .isub => sm_p2 st (fun a b st => nx rest ls (.int (a - b) :: st) D M)
    | .imul => sm_p2 st (fun a b st => nx rest ls (.int (a * b) :: st) D M)
    | .iand => sm_p2 st (fun a b st => nx rest ls (.int (a &&& b) :: st) D M)
    | .ixor => sm_p2 st (fun a b st => nx rest ls (.int (a ^^^ b) :: st) D M)
    | .iushr => sm_p2 st (fun a b st => nx rest ls (.int ((a.toUInt32 >>> (b.toUInt32 &&& Int32.toUInt32 31)).toInt32) :: st) D M)
    | .irem => sm_p2 st (fun a b st => sm_nz b (nx rest ls (.int (a - a / b * b) :: st) D M))
    | .dup => sm_v1 st (fun v st => nx rest ls (v :: v :: st) D M)
    | .pop => sm_v1 st (fun _ st => nx rest ls st D M)
    | .dup_x1 => sm_v1 st (fun v st => sm_v1 st (fun w st => nx rest ls (v :: w :: v :: st) D M))
    | .dup_x2 => sm_v1 st (fun v st => sm_v1 st (fun w st => sm_v1 st (fun u st => nx rest ls (v :: w :: u :: v :: st) D M)))
    | .dup2 => sm_v1 st (fun v st => sm_v1 st (fun w st => nx rest ls (v :: w :: v :: w :: st) D M))
    | .ifCond c _ => sm_p1 st (fun a st => sm_cn c a 0 (nx (code.drop (sm_x r)) ls st D M) (nx rest ls st D M))
    | .if_icmp c _ => sm_p2 st (fun a b st => sm_cn c a b (nx (code.drop (sm_x r)) ls st D M) (nx rest ls st D M))
    | .goto _ => nx (code.drop (sm_x r)) ls st D M
    | .tableswitch _ _ _ _ => sm_p1 st (fun a st => sm_sw a (sm_x r) (fun t => nx (code.drop t) ls st D M) (sm_ts r))
    | .lookupswitch _ _ => sm_p1 st (fun a st => sm_sw a (sm_x r) (fun t => nx (code.drop t) ls st D M) (sm_ts r))
    | .getfield _ => sm_get sh (sm_x r) (sm_y r) st D M (fun v st => nx rest ls (v :: st) D M)
    | .putfield _ => sm_put sh (sm_x r) (sm_y r) st D M (fun st D M => nx rest ls st D M)
    | .getstatic _ => nx rest ls (.ref (sm_x r) :: st) D M
    | .iaload => sm_ald sh sa st M (fun v st => nx rest ls (.int v :: st) D M)
    | .baload => sm_zld sh st M (fun v st => nx rest ls (.int v :: st) D M)
    | .iastore => sm_ast sh st M (fun st M => nx rest ls st D M)
    | .bastore => sm_zst sh st M (fun st M => nx rest ls st D M)
    | .arraylength => sm_aln sh st (fun v st => nx rest ls (.int v :: st) D M)
    | .invokevirtual _ => sm_inv (sm_rcv sh (sm_y r)) cal (sm_x r) (sm_z r) (sm_w r) st D M (fun a st D M => match sm_ts r with
      | [] => nx rest ls st D M
      | _ :: _ => nx rest ls (.int a :: st) D M)
    | .invokestatic _ => sm_inv (fun _ => true) cal (sm_x r) (sm_z r) (sm_w r) st D M (fun a st D M => match sm_ts r with
      | [] => nx rest ls st D M
      | _ :: _ => nx rest ls (.int a :: st) D M)
    | .ireturn => sm_p1 st (fun a st => sm_re st zr a (ret a D M))
    | .return_ => sm_re st false 0 (ret 0 D M)
    | _ => none
def sm_nx {ρ : Type} (leaf : Nat → List Value → List Value → sm_D → sm_M → Option ρ) (go : sm_K ρ) : sm_K ρ := fun rows ls st D M => match rows with
  | [] => none
  | r :: rest => match sm_fl r with
    | true => leaf (sm_pc r) ls st D M
    | false => go (r :: rest) ls st D M
def sm_run {ρ : Type} (sh : List sm_Sh) (sa : sm_Sa) (cal : sm_Cal) (code : List sm_R) (zr : Bool) (ret : Int32 → sm_D → sm_M → Option ρ) (leaf : Nat → List Value → List Value → sm_D → sm_M → Option ρ) : Nat → sm_K ρ
  | 0 => fun _ _ _ _ _ => none
  | n + 1 => sm_st sh sa cal code zr ret (sm_nx leaf (sm_run sh sa cal code zr ret leaf n))
/-- loops -/
def sm_it {σ ρ : Type} (b : σ → Option (σ ⊕ ρ)) : Nat → σ → Option ρ
  | 0, _ => none
  | n + 1, s => match b s with
    | some (.inl s') => sm_it b n s'
    | some (.inr r) => some r
    | none => none
end
section
/-! What the small machine computes, the real one does. -/
/-- a method: name, bytes, locals, what it returns, parameters (without the receiver), static, its class's number, rows -/
abbrev sm_I : Type := MethodName × ByteArray × Nat × Option FieldType × Nat × Bool × Nat × List sm_R
abbrev sm_Iy (f : sm_I) : MethodName := f.1
abbrev sm_Ib (f : sm_I) : ByteArray := f.2.1
abbrev sm_Il (f : sm_I) : Nat := f.2.2.1
abbrev sm_Ir (f : sm_I) : Option FieldType := f.2.2.2.1
abbrev sm_In (f : sm_I) : Nat := f.2.2.2.2.1
abbrev sm_Io (f : sm_I) : Nat := f.2.2.2.2.2.2.1
abbrev sm_Ic (f : sm_I) : List sm_R := f.2.2.2.2.2.2.2
abbrev sm_G : Type := va_G × ClassId × ClassId × (Nat → Nat)
abbrev sm_ad (G : sm_G) : Nat → Nat := G.2.2.2
def sm_cz (ad : Nat → Nat) (v : Value) : Value := match v with
  | .ref 0 => .null
  | .ref (p + 1) => .ref (ad (p + 1))
  | v => v
def sm_fv (ad : Nat → Nat) (D : sm_D) (f : Nat → Int32) (k : Nat) (t : Nat × Nat) : Value := match t with
  | (1, q) => sm_cz ad (.ref q)
  | (2, j) => sm_cz ad (.ref (D.getD j 0))
  | _ => .int (f k)
def sm_ce (G : sm_G) (D : sm_D) (f : Nat → Int32) (h : sm_Sh) : va_E := match h with
  | (0, n, _) => .inl (G.2.1, n, .inl f)
  | (1, n, _) => .inl (G.2.2.1, n, .inl f)
  | (_, c, fs) => .inr (c, fs.mapIdx (fun k t => sm_fv (sm_ad G) D f k t))
def sm_ws (sh : List sm_Sh) (G : sm_G) (D : sm_D) (M : sm_M) : va_W := sh.mapIdx (fun i h => (sm_ad G (i + 1), sm_ce G D (M (i + 1)) h))
abbrev sm_tys (G : sm_G) : List (ClassId × FieldType) := [(G.2.1, .int), (G.2.2.1, .boolean)]
def sm_sta (sa : sm_Sa) (G : sm_G) (A : Nat → Prop) (U : State) (H : Heap) : Prop := ∀ q ∈ sa, va_Z q.2.1.1 q.2.1.2 "[I" (.ref (sm_ad G q.1)) A U H ∧ va_T .int (sm_ad G q.1) q.2.2.length (fun j => .int (sm_tab q.2.2 j)) A U H
def sm_rm (d : Nat) : Room := { frames := d, cells := 0, slots := 0, locals := d * 64 }
def sm_Cx (TT : List Cond) (cls : List vw_C) (sa : sm_Sa) (f : sm_I) (G : sm_G) (A : Nat → Prop) (p : Program) (s : State) (m : MethodId) (args : Array Value) (meth : Method) (c : Code) : Prop :=
  p.tables.exec = Jvm.exec ∧ c.code = sm_Ib f ∧ c.maxLocals = sm_Il f ∧ meth.sig.returnType = sm_Ir f ∧ meth.locks = false ∧ (∀ w ∈ TT, w.before args s = true) ∧ s.vm.findClass (sm_Iy f).cls = some m.cls ∧ va_K G.1 cls (sm_tys G) s ∧ sm_sta sa G A s s.heap ∧ ∀ q, s.heap.size ≤ q → A q
def sm_L (ad : Nat → Nat) (lsr : Array Slot) (nL : Nat) (ls : List Value) : Prop := ls.length = nL ∧ lsr.size = nL ∧ lv_wf lsr ∧ ∀ (i : Nat) (v : Value), ls[i]? = some v → v = .retAddr 0 ∨ (sm_c1 v = true ∧ lsr[i]? = some (.val (sm_cz ad v)))
def sm_rv (ret : Option FieldType) (x : Int32) : Option Value := match ret with
  | none => none
  | some _ => some (.int x)
def sm_Qc (cls : List vw_C) (sh : List sm_Sh) (G : sm_G) (A : Nat → Prop) (ret : Option FieldType) (R : sm_S) : Array Value → State → Outcome → State → Prop := fun _ st oc t =>
  oc = .returned (sm_rv ret R.1) ∧ (va_P G.1 cls (sm_ws sh G R.2.1 R.2.2) t.heap ∧ va_K G.1 cls (sm_tys G) t ∧ va_D A (sm_ws sh G R.2.1 R.2.2)) ∧ va_F A st t
/-- from this place of the method the machine comes to its end with R -/
def sm_WJ (TT : List Cond) (cls : List vw_C) (sa : sm_Sa) (sh : List sm_Sh) (f : sm_I) (d pc : Nat) (ls st : List Value) (D : sm_D) (M : sm_M) (R : sm_S) : Prop :=
  ∀ (p : Program) (l : Launch) (e : Env) (s : State) (m : MethodId) (args : Array Value) (below : List Frame) (meth : Method) (c : Code) (G : sm_G) (A : Nat → Prop), sm_Cx TT cls sa f G A p s m args meth c →
  ∀ (H : Heap) (locs : List Loc) (lsr : Array Slot), va_P G.1 cls (sm_ws sh G D M) H → va_D A (sm_ws sh G D M) → va_S A s.heap H locs → sm_L (sm_ad G) lsr (sm_Il f) ls →
  W p l e (sm_rm d) s m args below meth c H locs 0 0 (MQ below (sm_Qc cls sh G A (sm_Ir f) R) args s 0 0 A) (F0 m pc lsr (st.map (sm_cz (sm_ad G))))
def sm_Pc (cls : List vw_C) (sa : sm_Sa) (sh : List sm_Sh) (G : sm_G) (sz : Nat) (as : List Value) (D : sm_D) (M : sm_M) : Array Value → State → Prop := va_Pc (as.map (sm_cz (sm_ad G))) (fun U => U.heap.size = sz ∧ va_P G.1 cls (sm_ws sh G D M) U.heap ∧ va_K G.1 cls (sm_tys G) U ∧ va_D (fun _ => True) (sm_ws sh G D M) ∧ sm_sta sa G (va_A (sm_ws sh G D M) sz) U U.heap)
abbrev sm_wd (TT : List Cond) (f : sm_I) : List Cond := Cond.code (sm_Iy f) (sm_Ib f) (sm_Il f) (sm_Ir f) :: TT
/-- the method's contract at these arguments and this memory -/
def sm_MJ (TT : List Cond) (cls : List vw_C) (sa : sm_Sa) (sh : List sm_Sh) (f : sm_I) (d : Nat) (as : List Value) (D : sm_D) (M : sm_M) (R : sm_S) : Prop :=
  ∀ (l : Launch) (G : sm_G) (sz : Nat), Met l (sm_Iy f) (sm_wd TT f) (sm_rm d) (sm_Pc cls sa sh G sz as D M) (sm_Qc cls sh G (va_A (sm_ws sh G D M) sz) (sm_Ir f) R) 0 0 (va_A (sm_ws sh G D M) sz)
/-! rows that are as the bytes have them -/
def sm_tg (code : List sm_R) (pc : Nat) (off : Int) (t : Nat) : Bool := match code[t]? with
  | some q => decide ((pc : Int) + off = (sm_pc q : Int))
  | none => false
def sm_okts (code : List sm_R) (pc : Nat) : Int → List Int → List (Int32 × Nat) → Bool
  | _, [], [] => true
  | lo, off :: offs, (c, t) :: ts => decide (c.toInt = lo) && sm_tg code pc off t && sm_okts code pc (lo + 1) offs ts
  | _, _, _ => false
def sm_oklk (code : List sm_R) (pc : Nat) : List (Int × Int) → List (Int32 × Nat) → Bool
  | [], [] => true
  | (k, off) :: ps, (c, t) :: ts => decide (c.toInt = k) && sm_tg code pc off t && sm_oklk code pc ps ts
  | _, _ => false
abbrev sm_L4 : Type := List (Nat × Nat × Nat × Nat)
abbrev sm_L3 : Type := List (Nat × Nat × Nat)
def sm_okr (P : List sm_I) (LF LP : sm_L4) (LM LN LS : sm_L3) (f : sm_I) (r : sm_R) : Bool := decide (decode (sm_Ib f) (sm_pc r) = .ok (sm_in r, sm_ln r)) && match sm_in r with
  | .iconst n => decide (sm_ln r = 1 ∧ Int32.ofInt n = sm_v r)
  | .bipush n => decide (sm_ln r = 2 ∧ (Int8.ofInt n).toInt32 = sm_v r)
  | .sipush n => decide (sm_ln r = 3 ∧ (Int16.ofInt n).toInt32 = sm_v r)
  | .iload_n k => decide (sm_ln r = 1 ∧ k.val = sm_x r)
  | .iload k => decide (sm_ln r = 2 ∧ k = sm_x r)
  | .aload_n k => decide (sm_ln r = 1 ∧ k.val = sm_x r)
  | .aload k => decide (sm_ln r = 2 ∧ k = sm_x r)
  | .istore_n k => decide (sm_ln r = 1 ∧ k.val = sm_x r ∧ sm_x r < sm_Il f)
  | .istore k => decide (sm_ln r = 2 ∧ k = sm_x r ∧ sm_x r < sm_Il f)
  | .astore_n k => decide (sm_ln r = 1 ∧ k.val = sm_x r ∧ sm_x r < sm_Il f)
  | .astore k => decide (sm_ln r = 2 ∧ k = sm_x r ∧ sm_x r < sm_Il f)
  | .iinc k n => decide (sm_ln r = 3 ∧ k = sm_x r ∧ Int32.ofInt n = sm_v r ∧ sm_x r < sm_Il f)
  | .iadd | .isub | .imul | .iand | .ixor | .iushr | .irem | .dup | .pop | .dup_x1 | .dup_x2 | .dup2 | .iaload | .baload | .iastore | .bastore | .arraylength => decide (sm_ln r = 1)
  | .ireturn => decide (sm_ln r = 1 ∧ (sm_Ir f).isSome = true)
  | .return_ => decide (sm_ln r = 1 ∧ (sm_Ir f).isSome = false)
  | .ifCond _ off => decide (sm_ln r = 3) && sm_tg (sm_Ic f) (sm_pc r) off (sm_x r)
  | .if_icmp _ off => decide (sm_ln r = 3) && sm_tg (sm_Ic f) (sm_pc r) off (sm_x r)
  | .goto off => decide (sm_ln r = 3) && sm_tg (sm_Ic f) (sm_pc r) off (sm_x r)
  | .tableswitch dflt lo hi offs => decide (hi + 1 = lo + (offs.size : Int)) && sm_tg (sm_Ic f) (sm_pc r) dflt (sm_x r) && sm_okts (sm_Ic f) (sm_pc r) lo offs.toList (sm_ts r)
  | .lookupswitch dflt ps => (ps.toList.zip (ps.toList.drop 1)).all (fun (a, next) => a.1 < next.1) && sm_tg (sm_Ic f) (sm_pc r) dflt (sm_x r) && sm_oklk (sm_Ic f) (sm_pc r) ps.toList (sm_ts r)
  | .getfield i => decide (sm_ln r = 3 ∧ (sm_Io f, i, sm_x r, sm_y r) ∈ LF)
  | .putfield i => decide (sm_ln r = 3 ∧ (sm_Io f, i, sm_x r, sm_y r) ∈ LP)
  | .getstatic i => decide (sm_ln r = 3 ∧ (sm_Io f, i, sm_x r) ∈ LS)
  | .invokevirtual i => decide (sm_ln r = 3 ∧ (sm_Io f, i, sm_x r) ∈ LM) && (match P[sm_x r]? with
    | some g => decide (sm_z r = sm_In g + 1 ∧ sm_y r = sm_Io g ∧ ((sm_ts r).isEmpty = (sm_Ir g).isNone))
    | none => false)
  | .invokestatic i => decide (sm_ln r = 3 ∧ (sm_Io f, i, sm_x r) ∈ LN) && (match P[sm_x r]? with
    | some g => decide (sm_z r = sm_In g ∧ ((sm_ts r).isEmpty = (sm_Ir g).isNone))
    | none => false)
  | _ => false
def sm_seq : List sm_R → Bool
  | r :: q :: t => decide (sm_pc q = sm_pc r + sm_ln r) && sm_seq (q :: t)
  | _ => true
def sm_okm (P : List sm_I) (LF LP : sm_L4) (LM LN LS : sm_L3) (f : sm_I) : Bool := sm_seq (sm_Ic f) && (sm_Ic f).all (sm_okr P LF LP LM LN LS f)
/-- the tables are good -/
def sm_V (TT : List Cond) (cls : List vw_C) (P : List sm_I) (nm : Nat → String) (LF LP : sm_L4) (LM LN LS : sm_L3) (sa : sm_Sa) (sh : List sm_Sh) : Prop :=
  (∀ w ∈ TT, goodWord w = true) ∧
  (∀ (ci : Nat) (C : String) (T : u_T) (N : Nat), cls[ci]? = some (C, T, N) → (∀ w ∈ u_ws C T N, w ∈ TT) ∧ (∃ ty : Nat → FieldType, ∀ k, k < N → parseFieldDescriptor (T k).2.2.1 = some (ty k)) ∧ ∀ a, a < N → ∀ b, b < N → a ≠ b → (T a).2.1 ≠ (T b).2.1) ∧
  (∀ o i ci k : Nat, (o, i, ci, k) ∈ LF → ∃ (C : String) (T : u_T) (N : Nat), cls[ci]? = some (C, T, N) ∧ k < N ∧ Cond.fieldLink (nm o) i C (T k).2.1 (T k).2.2.1 ∈ TT ∧ (T k).1 = C) ∧
  (∀ o i ci k : Nat, (o, i, ci, k) ∈ LP → (o, i, ci, k) ∈ LF ∧ ∀ (C : String) (T : u_T) (N : Nat), cls[ci]? = some (C, T, N) → (T k).2.2.2 = false) ∧
  (∀ o i x : Nat, (o, i, x) ∈ LM → ∃ g : sm_I, P[x]? = some g ∧ Cond.methodLink (nm o) i (sm_Iy g) ∈ TT ∧ Cond.instanceMethod (sm_Iy g) ∈ TT ∧ Cond.selects (sm_Iy g).cls (sm_Iy g) (sm_Iy g) ∈ TT ∧ (∃ (T : u_T) (N : Nat), cls[sm_Io g]? = some ((sm_Iy g).cls, T, N))) ∧
  (∀ o i x : Nat, (o, i, x) ∈ LN → ∃ g : sm_I, P[x]? = some g ∧ Cond.methodLink (nm o) i (sm_Iy g) ∈ TT ∧ Cond.static (sm_Iy g) ∈ TT) ∧
  (∀ (x : Nat) (g : sm_I), P[x]? = some g → Cond.code (sm_Iy g) (sm_Ib g) (sm_Il g) (sm_Ir g) ∈ TT ∧ Cond.initialized (sm_Iy g).cls ∈ TT ∧ nm (sm_Io g) = (sm_Iy g).cls ∧ ((sm_Iy g).cls ≠ "java/lang/invoke/MethodHandle" ∧ (sm_Iy g).cls ≠ "java/lang/invoke/VarHandle" ∧ (parseMethodDescriptor (sm_Iy g).desc).map (fun d => d.parameters.length) = some (sm_In g)) ∧ sm_Il g + 19 ≤ 64 ∧ (sm_Ir g = none ∨ sm_Ir g = some .int ∨ sm_Ir g = some .boolean) ∧ sm_okm P LF LP LM LN LS g = true) ∧
  (∀ o i x : Nat, (o, i, x) ∈ LS → ∃ q ∈ sa, q.1 = x ∧ 0 < x ∧ Cond.fieldLink (nm o) i q.2.1.1 q.2.1.2 "[I" ∈ TT) ∧
  (∀ (i c : Nat) (fs : List (Nat × Nat)), sh[i]? = some (2, c, fs) → ∃ (C : String) (T : u_T) (N : Nat), cls[c]? = some (C, T, N) ∧ fs.length = N ∧ ∀ (k a b : Nat), fs[k]? = some (a, b) → (a = 0 → (T k).2.2.1 = "I") ∧ (a = 3 → (T k).2.2.1 = "Z") ∧ (a = 2 → (∃ C' : String, parseFieldDescriptor (T k).2.2.1 = some (.object C')) ∧ ∀ (i' c' : Nat) (fs' : List (Nat × Nat)) (k' : Nat), sh[i']? = some (2, c', fs') → fs'[k']? = some (2, b) → i' = i ∧ k' = k)) ∧
  (∀ (i : Nat) (h : sm_Sh), sh[i]? = some h → h.1 = 0 ∨ h.1 = 1 ∨ h.1 = 2) ∧ ∀ q ∈ sa, 0 < q.1
end
section
/-! the world's cells by places -/
theorem sm_drop {α : Type} {l : List α} {t : Nat} {q : α} (h : l[t]? = some q) : l.drop t = q :: l.drop (t + 1) := by
  obtain ⟨hl, e⟩ := List.getElem?_eq_some_iff.mp h
  rw [List.drop_eq_getElem_cons hl, e]
theorem sm_ws_at {sh : List sm_Sh} {G : sm_G} {D : sm_D} {M : sm_M} {i : Nat} {h : sm_Sh} (hi : sh[i]? = some h) : (sm_ws sh G D M)[i]? = some (sm_ad G (i + 1), sm_ce G D (M (i + 1)) h) := by
  unfold sm_ws
  rw [List.getElem?_mapIdx, hi]
  rfl
theorem sm_ws_len {sh : List sm_Sh} {G : sm_G} {D : sm_D} {M : sm_M} : (sm_ws sh G D M).length = sh.length := by
  unfold sm_ws
  simp
theorem sm_ws_get {sh : List sm_Sh} {G : sm_G} {D : sm_D} {M : sm_M} {i : Nat} : (sm_ws sh G D M)[i]? = (sh[i]?).map (fun h => (sm_ad G (i + 1), sm_ce G D (M (i + 1)) h)) := by
  unfold sm_ws
  rw [List.getElem?_mapIdx]
theorem sm_up_same {M : sm_M} {p j : Nat} {v : Int32} : sm_up M p j v p = upd (M p) j v := by unfold sm_up; rw [if_pos rfl]
theorem sm_up_ne {M : sm_M} {p q j : Nat} {v : Int32} (h : q ≠ p) : sm_up M p j v q = M q := by unfold sm_up; rw [if_neg h]
/-- one cell's contents change -/
theorem sm_ws_set {sh : List sm_Sh} {G : sm_G} {D : sm_D} {M : sm_M} {i : Nat} {h : sm_Sh} {f : Nat → Int32} {M' : sm_M} (hi : sh[i]? = some h) (h1 : M' (i + 1) = f) (h2 : ∀ q, q ≠ i + 1 → M' q = M q) :
    (sm_ws sh G D M).set i (sm_ad G (i + 1), sm_ce G D f h) = sm_ws sh G D M' := by
  have hl : i < (sm_ws sh G D M).length := by rw [sm_ws_len]; exact (List.getElem?_eq_some_iff.mp hi).1
  apply List.ext_getElem?
  intro j
  by_cases hj : j = i
  · subst hj
    rw [List.getElem?_set_self hl, sm_ws_at hi, h1]
  · rw [List.getElem?_set_ne (Ne.symm hj), sm_ws_get, sm_ws_get]
    cases hs : sh[j]? with
    | none => rfl
    | some g => simp only [Option.map_some]; rw [h2 (j + 1) (by omega)]
theorem sm_ws_up {sh : List sm_Sh} {G : sm_G} {D : sm_D} {M : sm_M} {i j : Nat} {h : sm_Sh} {v : Int32} (hi : sh[i]? = some h) :
    (sm_ws sh G D M).set i (sm_ad G (i + 1), sm_ce G D (upd (M (i + 1)) j v) h) = sm_ws sh G D (sm_up M (i + 1) j v) := sm_ws_set hi sm_up_same (fun _ hq => sm_up_ne hq)
/-- a field of an object, an int -/
theorem sm_fs_set {G : sm_G} {D : sm_D} {f : Nat → Int32} {fs : List (Nat × Nat)} {k a b : Nat} {v : Int32} (hk : fs[k]? = some (a, b)) (ha : a = 0 ∨ a = 3) :
    (fs.mapIdx (fun k t => sm_fv (sm_ad G) D f k t)).set k (.int v) = fs.mapIdx (fun k' t => sm_fv (sm_ad G) D (upd f k v) k' t) := by
  have hl : k < fs.length := (List.getElem?_eq_some_iff.mp hk).1
  apply List.ext_getElem?
  intro j
  by_cases hj : j = k
  · subst hj
    rw [List.getElem?_set_self (by simpa using hl), List.getElem?_mapIdx, hk]
    rcases ha with rfl | rfl <;> simp [sm_fv, upd]
  · rw [List.getElem?_set_ne (Ne.symm hj), List.getElem?_mapIdx, List.getElem?_mapIdx]
    cases hs : fs[j]? with
    | none => rfl
    | some t =>
      obtain ⟨x, y⟩ := t
      simp only [Option.map_some, Option.some.injEq]
      unfold sm_fv
      split <;> first | rfl | (unfold upd; rw [if_neg hj])
/-- a field of an object, a cell -/
theorem sm_fs_setD {G : sm_G} {D : sm_D} {f : Nat → Int32} {fs : List (Nat × Nat)} {k j q : Nat} (hk : fs[k]? = some (2, j)) (hD : j < D.length) (hu : ∀ k', fs[k']? = some (2, j) → k' = k) :
    (fs.mapIdx (fun k t => sm_fv (sm_ad G) D f k t)).set k (sm_cz (sm_ad G) (.ref q)) = fs.mapIdx (fun k' t => sm_fv (sm_ad G) (D.set j q) f k' t) := by
  have hl : k < fs.length := (List.getElem?_eq_some_iff.mp hk).1
  apply List.ext_getElem?
  intro i
  by_cases hj : i = k
  · subst hj
    rw [List.getElem?_set_self (by simpa using hl), List.getElem?_mapIdx, hk]
    simp [sm_fv, List.getD, List.getElem?_set_self hD]
  · rw [List.getElem?_set_ne (Ne.symm hj), List.getElem?_mapIdx, List.getElem?_mapIdx]
    cases hs : fs[i]? with
    | none => rfl
    | some t =>
      obtain ⟨x, y⟩ := t
      simp only [Option.map_some, Option.some.injEq]
      match x, hs with
      | 0, _ => rfl
      | 1, _ => rfl
      | 2, hs =>
        have hne : j ≠ y := fun e => hj (hu i (by rw [hs, e]))
        show sm_cz (sm_ad G) (.ref (D.getD y 0)) = sm_cz (sm_ad G) (.ref ((D.set j q).getD y 0))
        simp [List.getD, List.getElem?_set_ne hne]
      | _ + 3, _ => rfl
theorem sm_ce_D {G : sm_G} {D D' : sm_D} {f : Nat → Int32} {h : sm_Sh} (hf : ∀ (c : Nat) (fs : List (Nat × Nat)), h = (2, c, fs) → ∀ (k j : Nat), fs[k]? = some (2, j) → D'.getD j 0 = D.getD j 0) (hx : h.1 = 0 ∨ h.1 = 1 ∨ h.1 = 2) : sm_ce G D' f h = sm_ce G D f h := by
  obtain ⟨a, c, fs⟩ := h
  rcases hx with e | e | e
  · cases e; rfl
  · cases e; rfl
  · cases e
    show Sum.inr _ = Sum.inr _
    congr 2
    apply List.ext_getElem?
    intro j
    rw [List.getElem?_mapIdx, List.getElem?_mapIdx]
    cases hs : fs[j]? with
    | none => rfl
    | some t =>
      obtain ⟨x, y⟩ := t
      simp only [Option.map_some, Option.some.injEq]
      match x, hs with
      | 0, _ => rfl
      | 1, _ => rfl
      | 2, hs =>
        show sm_cz (sm_ad G) (.ref (D'.getD y 0)) = sm_cz (sm_ad G) (.ref (D.getD y 0))
        rw [hf c fs rfl j y hs]
      | _ + 3, _ => rfl
theorem sm_ws_setD {sh : List sm_Sh} {G : sm_G} {D : sm_D} {M : sm_M} {i c k j q : Nat} {fs : List (Nat × Nat)} (hi : sh[i]? = some (2, c, fs)) (hk : fs[k]? = some (2, j)) (hD : j < D.length)
    (hu : ∀ (i' c' : Nat) (fs' : List (Nat × Nat)) (k' : Nat), sh[i']? = some (2, c', fs') → fs'[k']? = some (2, j) → i' = i ∧ k' = k) (hx : ∀ (i : Nat) (h : sm_Sh), sh[i]? = some h → h.1 = 0 ∨ h.1 = 1 ∨ h.1 = 2) :
    (sm_ws sh G D M).set i (sm_ad G (i + 1), .inr (c, (fs.mapIdx (fun k t => sm_fv (sm_ad G) D (M (i + 1)) k t)).set k (sm_cz (sm_ad G) (.ref q)))) = sm_ws sh G (D.set j q) M := by
  have hl : i < (sm_ws sh G D M).length := by rw [sm_ws_len]; exact (List.getElem?_eq_some_iff.mp hi).1
  apply List.ext_getElem?
  intro n
  by_cases hj : n = i
  · subst hj
    rw [List.getElem?_set_self hl, sm_ws_at hi, sm_fs_setD hk hD (fun k' hk' => (hu n c fs k' hi hk').2)]
    rfl
  · rw [List.getElem?_set_ne (Ne.symm hj), sm_ws_get, sm_ws_get]
    cases hs : sh[n]? with
    | none => rfl
    | some g =>
      simp only [Option.map_some, Option.some.injEq, Prod.mk.injEq, true_and]
      refine (sm_ce_D (fun c' fs' he k' j' hk' => ?_) (hx n g hs)).symm
      subst he
      have hne : j ≠ j' := fun e => hj (hu n c' fs' k' hs (by rw [hk', e])).1
      simp [List.getD, List.getElem?_set_ne hne]
/-! the locals -/
theorem sm_L_int {ad : Nat → Nat} {lsr : Array Slot} {nL : Nat} {ls : List Value} {i : Nat} {x : Int32} (h : sm_L ad lsr nL ls) (hi : ls[i]? = some (.int x)) : lsr[i]? = some (.val (.int x)) := by
  rcases h.2.2.2 i _ hi with h | ⟨-, h⟩
  · cases h
  · exact h
theorem sm_L_ref {ad : Nat → Nat} {lsr : Array Slot} {nL : Nat} {ls : List Value} {i p : Nat} (h : sm_L ad lsr nL ls) (hi : ls[i]? = some (.ref (p + 1))) : lsr[i]? = some (.val (.ref (ad (p + 1)))) := by
  rcases h.2.2.2 i _ hi with h | ⟨-, h⟩
  · cases h
  · exact h
theorem sm_c1_cat {ad : Nat → Nat} {v : Value} (h : sm_c1 v = true) : (sm_cz ad v).category = 1 := by
  cases v with
  | int x => rfl
  | ref p => cases p <;> rfl
  | _ => cases h
/-- the pairs that the list names -/
def sm_prs (ad : Nat → Nat) (ls : List Value) : List (Nat × Value) := (ls.mapIdx (fun i v => (i, v))).filterMap (fun q => if sm_c1 q.2 = true then some (q.1, sm_cz ad q.2) else none)
theorem sm_prs_mem {ad : Nat → Nat} {ls : List Value} {q : Nat × Value} (h : q ∈ sm_prs ad ls) : ∃ v, ls[q.1]? = some v ∧ sm_c1 v = true ∧ q.2 = sm_cz ad v := by
  obtain ⟨⟨i, v⟩, h1, h2⟩ := List.mem_filterMap.mp h
  obtain ⟨n, hn⟩ := List.getElem?_of_mem h1
  rw [List.getElem?_mapIdx] at hn
  cases hs : ls[n]? with
  | none => rw [hs] at hn; cases hn
  | some w =>
    rw [hs] at hn
    simp only [Option.map_some, Option.some.injEq, Prod.mk.injEq] at hn
    obtain ⟨rfl, rfl⟩ := hn
    dsimp only at h2
    split at h2
    · rename_i hc
      cases h2
      exact ⟨w, hs, hc, rfl⟩
    · cases h2
theorem sm_prs_in {ad : Nat → Nat} {ls : List Value} {i : Nat} {v : Value} (h : ls[i]? = some v) (hc : sm_c1 v = true) : (i, sm_cz ad v) ∈ sm_prs ad ls := by
  refine List.mem_filterMap.mpr ⟨(i, v), ?_, by dsimp only; rw [if_pos hc]⟩
  apply List.mem_of_getElem? (i := i)
  rw [List.getElem?_mapIdx, h]
  rfl
theorem sm_L_has {ad : Nat → Nat} {lsr : Array Slot} {nL : Nat} {ls : List Value} (h : sm_L ad lsr nL ls) : lv_has lsr nL (sm_prs ad ls) := by
  refine ⟨h.2.1, h.2.2.1, fun q hq => ?_⟩
  obtain ⟨v, h1, h2, h3⟩ := sm_prs_mem hq
  rcases h.2.2.2 q.1 v h1 with e | ⟨-, e⟩
  · rw [e] at h2; cases h2
  · rw [h3]; exact e
theorem sm_L_set {ad : Nat → Nat} {lsr ls' : Array Slot} {nL : Nat} {ls : List Value} {i : Nat} {v : Value} (h : sm_L ad lsr nL ls) (hv : sm_c1 v = true)
    (h' : lv_has ls' nL ((i, sm_cz ad v) :: (sm_prs ad ls).filter (fun q => !(q.1 == i) && !(q.1 + 1 == i && q.2.category == 2)))) : sm_L ad ls' nL (ls.set i v) := by
  refine ⟨by rw [List.length_set]; exact h.1, h'.1, h'.2.1, fun j w hj => ?_⟩
  by_cases hji : j = i
  · subst hji
    by_cases hl : j < ls.length
    · rw [List.getElem?_set_self hl] at hj
      cases hj
      exact Or.inr ⟨hv, h'.2.2 _ List.mem_cons_self⟩
    · rw [List.getElem?_eq_none (by rw [List.length_set]; omega)] at hj
      cases hj
  · rw [List.getElem?_set_ne (Ne.symm hji)] at hj
    rcases h.2.2.2 j w hj with e | ⟨e, -⟩
    · exact Or.inl e
    · refine Or.inr ⟨e, h'.2.2 (j, sm_cz ad w) (List.mem_cons_of_mem _ (List.mem_filter.mpr ⟨sm_prs_in hj e, ?_⟩))⟩
      simp [hji, sm_c1_cat e]
theorem sm_sl {vs : List Value} (h : ∀ v ∈ vs, v.category = 1) : lg_sl vs = vs.map Slot.val := by
  induction vs with
  | nil => rfl
  | cons a t ih =>
    have h1 := h a List.mem_cons_self
    have h2 := ih (fun v hv => h v (List.mem_cons_of_mem _ hv))
    unfold lg_sl at h2 ⊢
    rw [List.flatMap_cons, h2, if_neg (by omega)]
    rfl
theorem sm_L_entry {ad : Nat → Nat} {as : List Value} {nL : Nat} (hl : as.length ≤ nL) (hc : ∀ v ∈ as, sm_c1 v = true) :
    sm_L ad ((lg_sl (as.map (sm_cz ad)) ++ List.replicate (nL - (lg_sl (as.map (sm_cz ad))).length) Slot.unset).toArray) nL (as ++ List.replicate (nL - as.length) (.retAddr 0)) := by
  have h1 : lg_sl (as.map (sm_cz ad)) = (as.map (sm_cz ad)).map Slot.val := sm_sl (fun v hv => by
    obtain ⟨w, hw, rfl⟩ := List.mem_map.mp hv
    exact sm_c1_cat (hc w hw))
  have h2 := lv_entry (as.map (sm_cz ad)) (n := nL) (by rw [h1]; simpa using hl)
  refine ⟨by simp; omega, h2.1, h2.2.1, fun i v hi => ?_⟩
  by_cases hia : i < as.length
  · rw [List.getElem?_append_left hia] at hi
    refine Or.inr ⟨hc v (List.mem_of_getElem? hi), ?_⟩
    rw [h1, List.getElem?_toArray, List.getElem?_append_left (by simpa using hia)]
    simp [hi]
  · rw [List.getElem?_append_right (by omega)] at hi
    exact Or.inl (List.eq_of_mem_replicate (List.mem_of_getElem? hi))
end
section
/-! what a step's success says -/
section
variable {ρ : Type} {sh : List sm_Sh} {sa : sm_Sa} {st : List Value} {D : sm_D} {M : sm_M} {v : ρ}
theorem sm_ck_inv {i : Int32} {n : Nat} {k : Option ρ} (h : sm_ck i n k = some v) : vp_in i n ∧ k = some v := by
  unfold sm_ck at h
  split at h
  · rename_i hc
    exact ⟨vp_in_iff.mpr hc, h⟩
  · cases h
theorem sm_bo_inv {a : Int32} {k : Option ρ} (h : sm_bo a k = some v) : (a = 0 ∨ a = 1) ∧ k = some v := by
  unfold sm_bo at h
  split at h
  · rename_i hc
    exact ⟨hc, h⟩
  · cases h
theorem sm_nz_inv {a : Int32} {k : Option ρ} (h : sm_nz a k = some v) : ¬ a = 0 ∧ k = some v := by
  unfold sm_nz at h
  split at h
  · cases h
  · rename_i hc
    exact ⟨hc, h⟩
theorem sm_p1_inv {k : Int32 → List Value → Option ρ} (h : sm_p1 st k = some v) : ∃ (a : Int32) (t : List Value), st = .int a :: t ∧ k a t = some v := by
  unfold sm_p1 at h
  split at h
  · exact ⟨_, _, rfl, h⟩
  · cases h
theorem sm_p2_inv {k : Int32 → Int32 → List Value → Option ρ} (h : sm_p2 st k = some v) : ∃ (a b : Int32) (t : List Value), st = .int b :: .int a :: t ∧ k a b t = some v := by
  unfold sm_p2 at h
  split at h
  · exact ⟨_, _, _, rfl, h⟩
  · cases h
theorem sm_pr_inv {k : Nat → List Value → Option ρ} (h : sm_pr st k = some v) : ∃ (p : Nat) (t : List Value), st = .ref (p + 1) :: t ∧ k p t = some v := by
  unfold sm_pr at h
  split at h
  · exact ⟨_, _, rfl, h⟩
  · cases h
theorem sm_v1_inv {k : Value → List Value → Option ρ} (h : sm_v1 st k = some v) : ∃ (w : Value) (t : List Value), st = w :: t ∧ sm_c1 w = true ∧ k w t = some v := by
  unfold sm_v1 at h
  split at h
  · rename_i w t
    split at h
    · rename_i hc
      exact ⟨w, t, rfl, hc, h⟩
    · cases h
  · cases h
theorem sm_re_inv {zr : Bool} {a : Int32} {k : Option ρ} (h : sm_re st zr a k = some v) : st = [] ∧ (zr = true → a = 0 ∨ a = 1) ∧ k = some v := by
  unfold sm_re at h
  split at h
  · obtain ⟨h1, h2⟩ := sm_bo_inv h
    exact ⟨rfl, fun _ => h1, h2⟩
  · exact ⟨rfl, fun q => (by cases q), h⟩
  · cases h
theorem sm_lo_inv {ls : List Value} {i : Nat} {k : Value → Option ρ} (h : sm_lo ls i k = some v) : (∃ a : Int32, ls[i]? = some (.int a) ∧ k (.int a) = some v) ∨ ∃ p : Nat, ls[i]? = some (.ref (p + 1)) ∧ k (.ref (p + 1)) = some v := by
  unfold sm_lo at h
  split at h
  · rename_i a he
    exact Or.inl ⟨a, he, h⟩
  · rename_i p he
    exact Or.inr ⟨p, he, h⟩
  · cases h
theorem sm_at_inv {p : Nat} {c : sm_Sh} (h : sm_at sh p = some c) : ∃ i, p = i + 1 ∧ sh[i]? = some c := by
  unfold sm_at at h
  split at h
  · cases h
  · exact ⟨_, rfl, h⟩
theorem sm_sa_inv {p : Nat} {vs : List Nat} : ∀ {sa : sm_Sa}, sm_sa sa p = some vs → ∃ q ∈ sa, q.1 = p ∧ q.2.2 = vs
  | [], h => by cases h
  | q :: r, h => by
    unfold sm_sa at h
    split at h
    · rename_i he
      cases h
      exact ⟨q, List.mem_cons_self, he, rfl⟩
    · obtain ⟨q', h1, h2⟩ := sm_sa_inv h
      exact ⟨q', List.mem_cons_of_mem _ h1, h2⟩
theorem sm_ald_inv {k : Int32 → List Value → Option ρ} (h : sm_ald sh sa st M k = some v) : ∃ (i : Int32) (p : Nat) (t : List Value), st = .int i :: .ref p :: t ∧
    ((∃ (j n : Nat) (fs : List (Nat × Nat)), p = j + 1 ∧ sh[j]? = some (0, n, fs) ∧ vp_in i n ∧ k (M p i.toNatClampNeg) t = some v) ∨
      ∃ vs : List Nat, (∃ q ∈ sa, q.1 = p ∧ q.2.2 = vs) ∧ vp_in i vs.length ∧ k (sm_tab vs i.toNatClampNeg) t = some v) := by
  unfold sm_ald at h
  split at h
  · rename_i i p t
    refine ⟨i, p, t, rfl, ?_⟩
    split at h
    · rename_i n fs he
      obtain ⟨h1, h2⟩ := sm_ck_inv h
      obtain ⟨j, e1, e2⟩ := sm_at_inv he
      exact Or.inl ⟨j, n, fs, e1, e2, h1, h2⟩
    · cases h
    · split at h
      · rename_i vs he
        obtain ⟨h1, h2⟩ := sm_ck_inv h
        exact Or.inr ⟨vs, sm_sa_inv he, h1, h2⟩
      · cases h
  · cases h
theorem sm_zld_inv {k : Int32 → List Value → Option ρ} (h : sm_zld sh st M k = some v) : ∃ (i : Int32) (j n : Nat) (fs : List (Nat × Nat)) (t : List Value), st = .int i :: .ref (j + 1) :: t ∧ sh[j]? = some (1, n, fs) ∧ vp_in i n ∧ k (M (j + 1) i.toNatClampNeg) t = some v := by
  unfold sm_zld at h
  split at h
  · rename_i i p t
    split at h
    · rename_i n fs he
      obtain ⟨h1, h2⟩ := sm_ck_inv h
      obtain ⟨j, rfl, e2⟩ := sm_at_inv he
      exact ⟨i, j, n, fs, t, rfl, e2, h1, h2⟩
    · cases h
  · cases h
theorem sm_ast_inv {k : List Value → sm_M → Option ρ} (h : sm_ast sh st M k = some v) : ∃ (x i : Int32) (j n : Nat) (fs : List (Nat × Nat)) (t : List Value), st = .int x :: .int i :: .ref (j + 1) :: t ∧ sh[j]? = some (0, n, fs) ∧ vp_in i n ∧ k t (sm_up M (j + 1) i.toNatClampNeg x) = some v := by
  unfold sm_ast at h
  split at h
  · rename_i x i p t
    split at h
    · rename_i n fs he
      obtain ⟨h1, h2⟩ := sm_ck_inv h
      obtain ⟨j, rfl, e2⟩ := sm_at_inv he
      exact ⟨x, i, j, n, fs, t, rfl, e2, h1, h2⟩
    · cases h
  · cases h
theorem sm_zst_inv {k : List Value → sm_M → Option ρ} (h : sm_zst sh st M k = some v) : ∃ (x i : Int32) (j n : Nat) (fs : List (Nat × Nat)) (t : List Value), st = .int x :: .int i :: .ref (j + 1) :: t ∧ sh[j]? = some (1, n, fs) ∧ vp_in i n ∧ (x = 0 ∨ x = 1) ∧ k t (sm_up M (j + 1) i.toNatClampNeg x) = some v := by
  unfold sm_zst at h
  split at h
  · rename_i x i p t
    split at h
    · rename_i n fs he
      obtain ⟨h1, h2⟩ := sm_ck_inv h
      obtain ⟨h4, h3⟩ := sm_bo_inv h2
      obtain ⟨j, rfl, e2⟩ := sm_at_inv he
      exact ⟨x, i, j, n, fs, t, rfl, e2, h1, h4, h3⟩
    · cases h
  · cases h
theorem sm_aln_inv {k : Int32 → List Value → Option ρ} (h : sm_aln sh st k = some v) : ∃ (j n : Nat) (fs : List (Nat × Nat)) (t : List Value), st = .ref (j + 1) :: t ∧ sh[j]? = some (0, n, fs) ∧ k (nI n) t = some v := by
  unfold sm_aln at h
  split at h
  · rename_i p t
    split at h
    · rename_i n fs he
      obtain ⟨j, rfl, e2⟩ := sm_at_inv he
      exact ⟨j, n, fs, t, rfl, e2, h⟩
    · cases h
  · cases h
theorem sm_get_inv {ci fk : Nat} {k : Value → List Value → Option ρ} (h : sm_get sh ci fk st D M k = some v) : ∃ (j : Nat) (fs : List (Nat × Nat)) (t : List Value) (a b : Nat) (x : Value), st = .ref (j + 1) :: t ∧ sh[j]? = some (2, ci, fs) ∧ fs[fk]? = some (a, b) ∧ k x t = some v ∧ ∀ ad : Nat → Nat, sm_fv ad D (M (j + 1)) fk (a, b) = sm_cz ad x := by
  unfold sm_get at h
  split at h
  · rename_i p t
    split at h
    · rename_i c fs he
      obtain ⟨j, rfl, e2⟩ := sm_at_inv he
      split at h
      · rename_i hc
        have hc := Nat.eq_of_beq_eq_true hc
        subst hc
        split at h
        · rename_i b hk
          exact ⟨j, fs, t, _, _, _, rfl, e2, hk, h, fun ad => rfl⟩
        · rename_i b hk
          exact ⟨j, fs, t, _, _, _, rfl, e2, hk, h, fun ad => rfl⟩
        · rename_i q hk
          exact ⟨j, fs, t, _, _, _, rfl, e2, hk, h, fun ad => rfl⟩
        · rename_i j' hk
          split at h
          · rename_i q hq
            refine ⟨j, fs, t, _, _, _, rfl, e2, hk, h, fun ad => ?_⟩
            show sm_cz ad (.ref (D.getD j' 0)) = _
            rw [List.getD, hq]
            rfl
          · cases h
        · cases h
      · cases h
    · cases h
  · cases h
theorem sm_put_inv {ci fk : Nat} {k : List Value → sm_D → sm_M → Option ρ} (h : sm_put sh ci fk st D M k = some v) :
    (∃ (x : Int32) (j : Nat) (fs : List (Nat × Nat)) (t : List Value) (a b : Nat), st = .int x :: .ref (j + 1) :: t ∧ sh[j]? = some (2, ci, fs) ∧ fs[fk]? = some (a, b) ∧ (a = 0 ∨ (a = 3 ∧ (x = 0 ∨ x = 1))) ∧ k t D (sm_up M (j + 1) fk x) = some v) ∨
    ∃ (q j : Nat) (fs : List (Nat × Nat)) (t : List Value) (b : Nat), st = .ref q :: .ref (j + 1) :: t ∧ sh[j]? = some (2, ci, fs) ∧ fs[fk]? = some (2, b) ∧ b < D.length ∧ k t (D.set b q) M = some v := by
  unfold sm_put at h
  split at h
  · rename_i x p t
    split at h
    · rename_i c fs he
      obtain ⟨j, rfl, e2⟩ := sm_at_inv he
      split at h
      · rename_i hc
        have hc := Nat.eq_of_beq_eq_true hc
        subst hc
        split at h
        · rename_i b hk
          exact Or.inl ⟨x, j, fs, t, _, _, rfl, e2, hk, Or.inl rfl, h⟩
        · rename_i b hk
          obtain ⟨h1, h2⟩ := sm_bo_inv h
          exact Or.inl ⟨x, j, fs, t, _, _, rfl, e2, hk, Or.inr ⟨rfl, h1⟩, h2⟩
        · cases h
      · cases h
    · cases h
  · rename_i q p t
    split at h
    · rename_i c fs he
      obtain ⟨j, rfl, e2⟩ := sm_at_inv he
      split at h
      · rename_i hc
        have hc := Nat.eq_of_beq_eq_true hc
        subst hc
        split at h
        · rename_i j' hk
          split at h
          · rename_i q' hq
            exact Or.inr ⟨q, j, fs, t, _, rfl, e2, hk, (List.getElem?_eq_some_iff.mp hq).1, h⟩
          · cases h
        · cases h
      · cases h
    · cases h
  · cases h
theorem sm_bi_inv {c : Option sm_S} {k : Int32 → sm_D → sm_M → Option ρ} (h : sm_bi c k = some v) : ∃ (x : Int32) (D : sm_D) (M : sm_M), c = some (x, D, M) ∧ k x D M = some v := by
  unfold sm_bi at h
  split at h
  · exact ⟨_, _, _, rfl, h⟩
  · cases h
theorem sm_rcv_inv {ci : Nat} {as : List Value} (h : sm_rcv sh ci as = true) : ∃ (j : Nat) (fs : List (Nat × Nat)) (t : List Value), as = .ref (j + 1) :: t ∧ sh[j]? = some (2, ci, fs) := by
  unfold sm_rcv at h
  split at h
  · rename_i p t
    split at h
    · rename_i c fs he
      obtain ⟨j, rfl, e2⟩ := sm_at_inv he
      have hc := Nat.eq_of_beq_eq_true h
      subst hc
      exact ⟨j, fs, t, rfl, e2⟩
    · cases h
  · cases h
theorem sm_dq_inv {D E : sm_D} {k : Option ρ} (h : sm_dq D E k = some v) : D = E ∧ k = some v := by
  unfold sm_dq at h
  split at h
  · rename_i hc
    exact ⟨hc, h⟩
  · cases h
theorem sm_inv_inv {ok : List Value → Bool} {cal : sm_Cal} {x z w : Nat} {k : Int32 → List Value → sm_D → sm_M → Option ρ} (h : sm_inv ok cal x z w st D M k = some v) :
    ∃ (as rest : List Value) (a : Int32) (D' : sm_D) (M' : sm_M), st = as.reverse ++ rest ∧ as.length = z ∧ rest.length ≤ 8 ∧ (∀ w ∈ rest, sm_c1 w = true) ∧ ok as = true ∧ cal x as D M = some (a, D', M') ∧ k a rest D' M' = some v := by
  unfold sm_inv at h
  split at h
  · rename_i h1 h2 h3 h6
    obtain ⟨a, D', M', h4, h5⟩ := sm_bi_inv h
    obtain ⟨he, h5⟩ := sm_dq_inv h5
    rw [← he] at h5
    refine ⟨(st.take z).reverse, st.drop z, a, D', M', by simp, ?_, Nat.le_of_ble_eq_true h1, List.all_eq_true.mp h6, h2, h4, h5⟩
    have := Nat.le_of_ble_eq_true h3
    simp
    omega
  · cases h
theorem sm_cn_inv {cd : ClassFile.Cond} {a b : Int32} {t f : Option ρ} (h : sm_cn cd a b t f = some v) : t = some v ∨ f = some v := by
  unfold sm_cn at h
  split at h <;> split at h <;> first | exact Or.inl h | exact Or.inr h
end
end
section
/-! one step of the small machine is a walk of the real one -/
section
variable {ρ : Type} {v : ρ} {a b : Int32} {t f : Option ρ}
theorem sm_cn_eq (h : sm_cn .eq a b t f = some v) : (a = b → t = some v) ∧ (¬ a = b → f = some v) := by
  unfold sm_cn at h
  exact ⟨fun q => by simpa [q] using h, fun q => by simpa [q] using h⟩
theorem sm_cn_ne (h : sm_cn .ne a b t f = some v) : (¬ a = b → t = some v) ∧ (a = b → f = some v) := by
  unfold sm_cn at h
  exact ⟨fun q => by simpa [q] using h, fun q => by simpa [q] using h⟩
theorem sm_cn_lt (h : sm_cn .lt a b t f = some v) : (a < b → t = some v) ∧ (¬ a < b → f = some v) := by
  replace h : (if a < b then t else f) = some v := h
  exact ⟨fun q => by rw [if_pos q] at h; exact h, fun q => by rw [if_neg q] at h; exact h⟩
theorem sm_cn_ge (h : sm_cn .ge a b t f = some v) : (b ≤ a → t = some v) ∧ (¬ b ≤ a → f = some v) := by
  replace h : (if a < b then f else t) = some v := h
  exact ⟨fun q => by rw [if_neg (Int32.not_lt.mpr q)] at h; exact h, fun q => by rw [if_pos (Int32.not_le.mp q)] at h; exact h⟩
theorem sm_cn_gt (h : sm_cn .gt a b t f = some v) : (b < a → t = some v) ∧ (¬ b < a → f = some v) := by
  replace h : (if b < a then t else f) = some v := h
  exact ⟨fun q => by rw [if_pos q] at h; exact h, fun q => by rw [if_neg q] at h; exact h⟩
theorem sm_cn_le (h : sm_cn .le a b t f = some v) : (a ≤ b → t = some v) ∧ (¬ a ≤ b → f = some v) := by
  replace h : (if b < a then f else t) = some v := h
  exact ⟨fun q => by rw [if_neg (Int32.not_lt.mpr q)] at h; exact h, fun q => by rw [if_pos (Int32.not_le.mp q)] at h; exact h⟩
end
theorem sm_code_at {α : Type} {l rest : List α} {i : Nat} {r : α} (h : l.drop i = r :: rest) : l[i]? = some r ∧ rest = l.drop (i + 1) := by
  constructor
  · have := congrArg (fun z => z[0]?) h
    simpa [List.getElem?_drop] using this
  · have := congrArg List.tail h
    simpa [List.tail_drop] using this.symm
theorem sm_seq_at : ∀ {l : List sm_R} {i : Nat} {r q : sm_R}, sm_seq l = true → l[i]? = some r → l[i + 1]? = some q → sm_pc q = sm_pc r + sm_ln r
  | [], _, _, _, _, h, _ => by simp at h
  | [_], i, _, _, _, _, h => by simp at h
  | x :: y :: t, i, r, q, hs, h1, h2 => by
    unfold sm_seq at hs
    simp only [Bool.and_eq_true, decide_eq_true_eq] at hs
    cases i with
    | zero =>
      simp at h1 h2
      subst h1; subst h2
      exact hs.1
    | succ i =>
      rw [List.getElem?_cons_succ] at h1 h2
      exact sm_seq_at hs.2 h1 h2
theorem sm_sw_inv {ρ : Type} {a : Int32} {d : Nat} {k : Nat → Option ρ} {v : ρ} : ∀ {ts : List (Int32 × Nat)}, sm_sw a d k ts = some v → (∃ (n : Nat) (t : Nat), ts[n]? = some (a, t) ∧ (∀ m, m < n → ∀ q, ts[m]? = some q → q.1 ≠ a) ∧ k t = some v) ∨ ((∀ q ∈ ts, q.1 ≠ a) ∧ k d = some v)
  | [], h => Or.inr ⟨fun q hq => (by cases hq), h⟩
  | (c, t) :: r, h => by
    unfold sm_sw at h
    split at h
    · rename_i he
      subst he
      exact Or.inl ⟨0, t, rfl, fun m hm => by omega, h⟩
    · rename_i he
      rcases sm_sw_inv h with ⟨n, t', h1, h2, h3⟩ | ⟨h1, h2⟩
      · refine Or.inl ⟨n + 1, t', h1, fun m hm q hq => ?_, h3⟩
        cases m with
        | zero => cases hq; exact fun e => he e.symm
        | succ m => exact h2 m (by omega) q hq
      · refine Or.inr ⟨fun q hq => ?_, h2⟩
        rcases List.mem_cons.mp hq with rfl | hq
        · exact fun e => he e.symm
        · exact h1 q hq
theorem sm_okts_at {code : List sm_R} {pc : Nat} : ∀ {offs : List Int} {ts : List (Int32 × Nat)} {lo : Int}, sm_okts code pc lo offs ts = true → offs.length = ts.length ∧ ∀ (n : Nat) (c : Int32) (t : Nat), ts[n]? = some (c, t) → c.toInt = lo + (n : Int) ∧ ∃ off, offs[n]? = some off ∧ sm_tg code pc off t = true
  | [], [], _, _ => ⟨rfl, fun n c t h => by simp at h⟩
  | [], _ :: _, _, h => by cases h
  | _ :: _, [], _, h => by cases h
  | off :: offs, (c, t) :: ts, lo, h => by
    unfold sm_okts at h
    simp only [Bool.and_eq_true, decide_eq_true_eq] at h
    obtain ⟨h1, h2⟩ := sm_okts_at h.2
    refine ⟨by simp [h1], fun n c' t' hn => ?_⟩
    cases n with
    | zero => cases hn; exact ⟨by rw [h.1.1]; simp, off, rfl, h.1.2⟩
    | succ n =>
      rw [List.getElem?_cons_succ] at hn
      obtain ⟨h3, o2, h4, h5⟩ := h2 n c' t' hn
      exact ⟨by rw [h3]; omega, o2, h4, h5⟩
theorem sm_oklk_at {ρ : Type} {code : List sm_R} {pc d : Nat} {dflt : Int} {a : Int32} {k : Nat → Option ρ} {v : ρ} (hd : sm_tg code pc dflt d = true) : ∀ {ps : List (Int × Int)} {ts : List (Int32 × Nat)}, sm_oklk code pc ps ts = true → sm_sw a d k ts = some v → ∃ t, sm_tg code pc (Op.lookupswitch.offset ps dflt a.toInt) t = true ∧ k t = some v
  | [], [], _, h => ⟨d, hd, h⟩
  | [], _ :: _, h, _ => by cases h
  | _ :: _, [], h, _ => by cases h
  | (x, off) :: ps, (c, t) :: ts, h, hs => by
    unfold sm_oklk at h
    simp only [Bool.and_eq_true, decide_eq_true_eq] at h
    unfold sm_sw at hs
    unfold Op.lookupswitch.offset
    split at hs
    · rename_i he
      subst he
      refine ⟨t, ?_, hs⟩
      simp [h.1.1, h.1.2]
    · rename_i he
      obtain ⟨t', h1, h2⟩ := sm_oklk_at hd h.2 hs
      refine ⟨t', ?_, h2⟩
      have hne : ¬ a.toInt = x := fun q => he (Int32.toInt_inj.mp (q.trans h.1.1.symm))
      have hne' : ¬ x = a.toInt := fun q => hne q.symm
      simp [hne, hne', h1]
section
variable {TT : List Cond} {cls : List vw_C} {P : List sm_I} {nm : Nat → String} {LF LP : sm_L4} {LM LN LS : sm_L3} {sa : sm_Sa} {sh : List sm_Sh} {f : sm_I} {d : Nat} {R : sm_S}
theorem sm_V.row {kx i : Nat} {r : sm_R} (V : sm_V TT cls P nm LF LP LM LN LS sa sh) (hf : P[kx]? = some f) (hr : (sm_Ic f)[i]? = some r) : sm_okr P LF LP LM LN LS f r = true ∧ sm_seq (sm_Ic f) = true := by
  have h := (V.2.2.2.2.2.2.1 kx f hf).2.2.2.2.2.2
  unfold sm_okm at h
  simp only [Bool.and_eq_true, List.all_eq_true] at h
  exact ⟨h.2 r (List.mem_of_getElem? hr), h.1⟩
theorem sm_tg_at {code : List sm_R} {pc t : Nat} {off : Int} (h : sm_tg code pc off t = true) : ∃ q, code.drop t = q :: code.drop (t + 1) ∧ (pc : Int) + off = (sm_pc q : Int) := by
  unfold sm_tg at h
  split at h
  · rename_i q hq
    exact ⟨q, sm_drop hq, of_decide_eq_true h⟩
  · cases h
/-- behind a call -/
theorem sm_callr {p : Program} {l : Launch} {e : Env} {Rm : Room} {s : State} {m : MethodId} {args a : Array Value} {below : List Frame} {meth : Method} {c : Code} {H H0 : Heap} {locs : List Loc} {Q : State → Prop} {pc : Nat} {ls : Array Slot} {rest st0 : List Value} {A0 A1 : Nat → Prop} {G : sm_G} {ret : Option FieldType} {Rv : sm_S}
    (hr : va_Run p l e Rm s m args below meth c H locs 0 0 0 0 (F0 m pc ls st0) rest (sm_Qc cls sh G A1 ret Rv a) A1) (hS : va_S A0 H0 H locs) (hA : ∀ q, A1 q → A0 q)
    (kk : ∀ (t : State) (H1 : Heap) (locs1 : List Loc), s.vm.Alike t.vm → va_P G.1 cls (sm_ws sh G Rv.2.1 Rv.2.2) H1 → va_D A1 (sm_ws sh G Rv.2.1 Rv.2.2) → va_S A0 H0 H1 locs1 → W p l e Rm s m args below meth c H1 locs1 0 0 Q (F0 m (pc + 3) ls ((sm_rv ret Rv.1).toList ++ rest))) : W p l e Rm s m args below meth c H locs 0 0 Q (F0 m pc ls st0) := by
  intro T hT X
  obtain ⟨v, st₀, t, T', L, h0, X', hL, e1, e2, ⟨hv, ⟨hP1, hK1, hD1⟩, hz, hk⟩, st⟩ := hr T hT X
  cases hv
  rw [h0] at hz hk
  obtain ⟨t2, a1, b1⟩ := kk t T'.heap (locs ++ L) (by rw [← e2]; exact X'.warmed.alike) (by rw [e1]; exact hP1) hD1
    ⟨Nat.le_trans hS.1 (by rw [e1]; exact hz), fun q h1 h2 => by rw [e1, hk q (Nat.lt_of_lt_of_le h1 hS.1) (fun z => h2 (hA q z))]; exact hS.2.1 q h1 h2, fun q hq => by
      rcases List.mem_append.mp hq with h | h
      · exact hS.2.2 q h
      · exact hA _ (hL q h)⟩ T' rfl X'
  exact ⟨t2, st t2 a1, b1⟩
theorem sm_sta.to {G : sm_G} {A A1 : Nat → Prop} {s U : State} {H : Heap} {locs : List Loc} (h : sm_sta sa G A s s.heap) (hS : va_S A s.heap H locs) (hA : ∀ q, A1 q → A q) (hU : U.heap = H) (hal : s.vm.Alike U.vm) : sm_sta sa G A1 U U.heap := by
  intro q hq
  obtain ⟨h1, h2⟩ := h q hq
  rw [hU]
  exact ⟨((h1.kept hS.2.1).narrow hA).moved hal, ((h2.kept hS.2.1).narrow hA).moved hal⟩
theorem sm_blind {G : sm_G} {sz : Nat} {as : List Value} {D : sm_D} {M : sm_M} : FrameBlind (sm_Pc cls sa sh G sz as D M) := by
  intro a U g mk h
  obtain ⟨h0, h1, h2, h3, h4, h5⟩ := h
  refine ⟨h0, h1, h2, va_K.moved (u := U) (U := U.calling g mk a) (Vm.Alike.refl U.vm) h3, h4, fun q hq => ?_⟩
  obtain ⟨q1, q2⟩ := h5 q hq
  exact ⟨va_Z.moved (u := U) (U := U.calling g mk a) (Vm.Alike.refl U.vm) q1, va_T.moved (u := U) (U := U.calling g mk a) (Vm.Alike.refl U.vm) q2⟩
theorem sm_cat_sum {ad : Nat → Nat} : ∀ {st : List Value}, (∀ v ∈ st, (sm_cz ad v).category ≤ 1) → ((st.map (sm_cz ad)).map fun v => v.category).sum ≤ st.length
  | [], _ => by simp
  | v :: t, h => by
    have h1 := h v List.mem_cons_self
    have h2 := sm_cat_sum (ad := ad) (st := t) (fun w hw => h w (List.mem_cons_of_mem _ hw))
    simp only [List.map_cons, List.sum_cons, List.length_cons]
    omega
theorem sm_st_ok {ρ : Type} {cal : sm_Cal} {zr : Bool} {ret : Int32 → sm_D → sm_M → Option ρ} {nx : sm_K ρ} {gd : ρ → Prop} {kx : Nat}
    (V : sm_V TT cls P nm LF LP LM LN LS sa sh) (hf : P[kx]? = some f) (hz : zr = decide (sm_Ir f = some .boolean))
    (hcal : ∀ (x : Nat) (g : sm_I) (as : List Value) (D : sm_D) (M : sm_M) (R' : sm_S), P[x]? = some g → cal x as D M = some R' → ∃ d', d' + 1 ≤ d ∧ sm_MJ TT cls sa sh g d' as D M R')
    (hret : ∀ (a : Int32) (D : sm_D) (M : sm_M) (v : ρ), ret a D M = some v → gd v → R = (a, D, M))
    (hnil : ∀ (ls st : List Value) (D : sm_D) (M : sm_M), nx [] ls st D M = none)
    (hnx : ∀ (j : Nat) (q : sm_R) (t : List sm_R) (ls st : List Value) (D : sm_D) (M : sm_M) (v : ρ), (sm_Ic f).drop j = q :: t → nx (q :: t) ls st D M = some v → gd v → sm_WJ TT cls sa sh f d (sm_pc q) ls st D M R)
    {i : Nat} {r : sm_R} {rest : List sm_R} (hr : (sm_Ic f).drop i = r :: rest) {ls st : List Value} {D : sm_D} {M : sm_M} {v : ρ} (h : sm_st sh sa cal (sm_Ic f) zr ret nx (r :: rest) ls st D M = some v) (hv : gd v) : sm_WJ TT cls sa sh f d (sm_pc r) ls st D M R := by
  obtain ⟨hri, hrest⟩ := sm_code_at hr
  obtain ⟨hok, hsq⟩ := V.row hf hri
  have hown : nm (sm_Io f) = (sm_Iy f).cls := (V.2.2.2.2.2.2.1 kx f hf).2.2.1
  have nxt : ∀ (ls st : List Value) (D : sm_D) (M : sm_M), nx rest ls st D M = some v → sm_WJ TT cls sa sh f d (sm_pc r + sm_ln r) ls st D M R := by
    intro ls st D M h
    cases hc : rest with
    | nil => rw [hc, hnil] at h; cases h
    | cons q t =>
      rw [hc] at h hrest
      have hq : (sm_Ic f)[i + 1]? = some q := (sm_code_at hrest.symm).1
      rw [← sm_seq_at hsq hri hq]
      exact hnx (i + 1) q t ls st D M v hrest.symm h hv
  have jmp : ∀ (t : Nat) (off : Int) (ls st : List Value) (D : sm_D) (M : sm_M), sm_tg (sm_Ic f) (sm_pc r) off t = true → ∃ tgt : Nat, (sm_pc r : Int) + off = (tgt : Int) ∧ (nx ((sm_Ic f).drop t) ls st D M = some v → sm_WJ TT cls sa sh f d tgt ls st D M R) := by
    intro t off ls st D M h1
    obtain ⟨q, h3, h4⟩ := sm_tg_at h1
    exact ⟨sm_pc q, h4, fun h2 => hnx t q _ ls st D M v h3 (by rw [← h3]; exact h2) hv⟩
  obtain ⟨pc, ins, ln, fl, vv, x, y, z, w, ts⟩ := r
  cases ins with
  | iconst n =>
    replace h : nx rest ls (.int vv :: st) D M = some v := h
    replace hok : (decide (decode (sm_Ib f) pc = .ok (.iconst n, ln)) && decide (ln = 1 ∧ Int32.ofInt n = vv)) = true := hok
    simp only [Bool.and_eq_true, decide_eq_true_eq] at hok
    obtain ⟨hd, rfl, he⟩ := hok
    have K := nxt _ _ _ _ h
    intro p l e s m args below meth c G A C H locs lsr hP hD hS hL
    exact lv_iconst C.1 C.2.1 hd he (K p l e s m args below meth c G A C H locs lsr hP hD hS hL)
  | bipush n =>
    replace h : nx rest ls (.int vv :: st) D M = some v := h
    replace hok : (decide (decode (sm_Ib f) pc = .ok (.bipush n, ln)) && decide (ln = 2 ∧ (Int8.ofInt n).toInt32 = vv)) = true := hok
    simp only [Bool.and_eq_true, decide_eq_true_eq] at hok
    obtain ⟨hd, rfl, he⟩ := hok
    have K := nxt _ _ _ _ h
    intro p l e s m args below meth c G A C H locs lsr hP hD hS hL
    exact lv_bipush C.1 C.2.1 hd he (K p l e s m args below meth c G A C H locs lsr hP hD hS hL)
  | sipush n =>
    replace h : nx rest ls (.int vv :: st) D M = some v := h
    replace hok : (decide (decode (sm_Ib f) pc = .ok (.sipush n, ln)) && decide (ln = 3 ∧ (Int16.ofInt n).toInt32 = vv)) = true := hok
    simp only [Bool.and_eq_true, decide_eq_true_eq] at hok
    obtain ⟨hd, rfl, he⟩ := hok
    have K := nxt _ _ _ _ h
    intro p l e s m args below meth c G A C H locs lsr hP hD hS hL
    exact lv_sipush C.1 C.2.1 hd he (K p l e s m args below meth c G A C H locs lsr hP hD hS hL)
  | iload_n k =>
    replace h : sm_lo ls x (fun v => match v with
      | .int _ => nx rest ls (v :: st) D M
      | _ => none) = some v := h
    replace hok : (decide (decode (sm_Ib f) pc = .ok (.iload_n k, ln)) && decide (ln = 1 ∧ k.val = x)) = true := hok
    simp only [Bool.and_eq_true, decide_eq_true_eq] at hok
    obtain ⟨hd, rfl, rfl⟩ := hok
    rcases sm_lo_inv h with ⟨a, h1, h2⟩ | ⟨q, h1, h2⟩
    · have K := nxt _ _ _ _ h2
      intro p l e s m args below meth c G A C H locs lsr hP hD hS hL
      exact lv_iload_n C.1 C.2.1 hd rfl (sm_L_int hL h1) (K p l e s m args below meth c G A C H locs lsr hP hD hS hL)
    · cases h2
  | iload k =>
    replace h : sm_lo ls x (fun v => match v with
      | .int _ => nx rest ls (v :: st) D M
      | _ => none) = some v := h
    replace hok : (decide (decode (sm_Ib f) pc = .ok (.iload k, ln)) && decide (ln = 2 ∧ k = x)) = true := hok
    simp only [Bool.and_eq_true, decide_eq_true_eq] at hok
    obtain ⟨hd, rfl, rfl⟩ := hok
    rcases sm_lo_inv h with ⟨a, h1, h2⟩ | ⟨q, h1, h2⟩
    · have K := nxt _ _ _ _ h2
      intro p l e s m args below meth c G A C H locs lsr hP hD hS hL
      exact lv_iload C.1 C.2.1 hd  (sm_L_int hL h1) (K p l e s m args below meth c G A C H locs lsr hP hD hS hL)
    · cases h2
  | aload_n k =>
    replace h : sm_lo ls x (fun v => match v with
      | .ref _ => nx rest ls (v :: st) D M
      | _ => none) = some v := h
    replace hok : (decide (decode (sm_Ib f) pc = .ok (.aload_n k, ln)) && decide (ln = 1 ∧ k.val = x)) = true := hok
    simp only [Bool.and_eq_true, decide_eq_true_eq] at hok
    obtain ⟨hd, rfl, rfl⟩ := hok
    rcases sm_lo_inv h with ⟨a, h1, h2⟩ | ⟨q, h1, h2⟩
    · cases h2
    · have K := nxt _ _ _ _ h2
      intro p l e s m args below meth c G A C H locs lsr hP hD hS hL
      exact lv_aload_n C.1 C.2.1 hd rfl (sm_L_ref hL h1) (K p l e s m args below meth c G A C H locs lsr hP hD hS hL)
  | aload k =>
    replace h : sm_lo ls x (fun v => match v with
      | .ref _ => nx rest ls (v :: st) D M
      | _ => none) = some v := h
    replace hok : (decide (decode (sm_Ib f) pc = .ok (.aload k, ln)) && decide (ln = 2 ∧ k = x)) = true := hok
    simp only [Bool.and_eq_true, decide_eq_true_eq] at hok
    obtain ⟨hd, rfl, rfl⟩ := hok
    rcases sm_lo_inv h with ⟨a, h1, h2⟩ | ⟨q, h1, h2⟩
    · cases h2
    · have K := nxt _ _ _ _ h2
      intro p l e s m args below meth c G A C H locs lsr hP hD hS hL
      exact lv_aload C.1 C.2.1 hd  (sm_L_ref hL h1) (K p l e s m args below meth c G A C H locs lsr hP hD hS hL)
  | istore_n k =>
    replace h : sm_p1 st (fun a st => nx rest (ls.set x (.int a)) st D M) = some v := h
    replace hok : (decide (decode (sm_Ib f) pc = .ok (.istore_n k, ln)) && decide (ln = 1 ∧ k.val = x ∧ x < sm_Il f)) = true := hok
    simp only [Bool.and_eq_true, decide_eq_true_eq] at hok
    obtain ⟨hd, rfl, rfl, hn⟩ := hok
    obtain ⟨a, t, rfl, h⟩ := sm_p1_inv h
    have K := nxt _ _ _ _ h
    intro p l e s m args below meth c G A C H locs lsr hP hD hS hL
    exact lv_istore_n (x := a) C.1 C.2.1 hd rfl (sm_L_has hL) hn rfl (fun ls' h' => K p l e s m args below meth c G A C H locs ls' hP hD hS (sm_L_set (v := .int a) hL rfl h'))
  | astore_n k =>
    replace h : sm_pr st (fun p st => nx rest (ls.set x (.ref (p + 1))) st D M) = some v := h
    replace hok : (decide (decode (sm_Ib f) pc = .ok (.astore_n k, ln)) && decide (ln = 1 ∧ k.val = x ∧ x < sm_Il f)) = true := hok
    simp only [Bool.and_eq_true, decide_eq_true_eq] at hok
    obtain ⟨hd, rfl, rfl, hn⟩ := hok
    obtain ⟨q, t, rfl, h⟩ := sm_pr_inv h
    have K := nxt _ _ _ _ h
    intro p l e s m args below meth c G A C H locs lsr hP hD hS hL
    exact lv_astore_n (x := sm_ad G (q + 1)) C.1 C.2.1 hd rfl (sm_L_has hL) hn rfl (fun ls' h' => K p l e s m args below meth c G A C H locs ls' hP hD hS (sm_L_set (v := .ref (q + 1)) hL rfl h'))
  | istore k =>
    replace h : sm_p1 st (fun a st => nx rest (ls.set x (.int a)) st D M) = some v := h
    replace hok : (decide (decode (sm_Ib f) pc = .ok (.istore k, ln)) && decide (ln = 2 ∧ k = x ∧ x < sm_Il f)) = true := hok
    simp only [Bool.and_eq_true, decide_eq_true_eq] at hok
    obtain ⟨hd, rfl, rfl, hn⟩ := hok
    obtain ⟨a, t, rfl, h⟩ := sm_p1_inv h
    have K := nxt _ _ _ _ h
    intro p l e s m args below meth c G A C H locs lsr hP hD hS hL
    exact lv_istore (x := a) C.1 C.2.1 hd  (sm_L_has hL) hn rfl (fun ls' h' => K p l e s m args below meth c G A C H locs ls' hP hD hS (sm_L_set (v := .int a) hL rfl h'))
  | astore k =>
    replace h : sm_pr st (fun p st => nx rest (ls.set x (.ref (p + 1))) st D M) = some v := h
    replace hok : (decide (decode (sm_Ib f) pc = .ok (.astore k, ln)) && decide (ln = 2 ∧ k = x ∧ x < sm_Il f)) = true := hok
    simp only [Bool.and_eq_true, decide_eq_true_eq] at hok
    obtain ⟨hd, rfl, rfl, hn⟩ := hok
    obtain ⟨q, t, rfl, h⟩ := sm_pr_inv h
    have K := nxt _ _ _ _ h
    intro p l e s m args below meth c G A C H locs lsr hP hD hS hL
    exact lv_astore (x := sm_ad G (q + 1)) C.1 C.2.1 hd  (sm_L_has hL) hn rfl (fun ls' h' => K p l e s m args below meth c G A C H locs ls' hP hD hS (sm_L_set (v := .ref (q + 1)) hL rfl h'))
  | iinc k n =>
    replace h : sm_lo ls x (fun w => match w with
      | .int a => nx rest (ls.set x (.int (a + vv))) st D M
      | _ => none) = some v := h
    replace hok : (decide (decode (sm_Ib f) pc = .ok (.iinc k n, ln)) && decide (ln = 3 ∧ k = x ∧ Int32.ofInt n = vv ∧ x < sm_Il f)) = true := hok
    simp only [Bool.and_eq_true, decide_eq_true_eq] at hok
    obtain ⟨hd, rfl, rfl, rfl, hn⟩ := hok
    rcases sm_lo_inv h with ⟨a, h1, h2⟩ | ⟨q, h1, h2⟩
    · have K := nxt _ _ _ _ h2
      intro p l e s m args below meth c G A C H locs lsr hP hD hS hL
      obtain ⟨j, hj⟩ := List.getElem?_of_mem (sm_prs_in (ad := sm_ad G) h1 rfl)
      exact lv_iinc (x := a) C.1 C.2.1 hd (sm_L_has hL) hj rfl hn rfl (fun ls' h' => K p l e s m args below meth c G A C H locs ls' hP hD hS (sm_L_set (v := .int (a + Int32.ofInt n)) hL rfl h'))
    · cases h2
  | iadd =>
    replace h : sm_p2 st (fun a b st => nx rest ls (.int (a + b) :: st) D M) = some v := h
    replace hok : (decide (decode (sm_Ib f) pc = .ok (.iadd, ln)) && decide (ln = 1)) = true := hok
    simp only [Bool.and_eq_true, decide_eq_true_eq] at hok
    obtain ⟨hd, rfl⟩ := hok
    obtain ⟨a, b, t, rfl, h⟩ := sm_p2_inv h
    have K := nxt _ _ _ _ h
    intro p l e s m args below meth c G A C H locs lsr hP hD hS hL
    exact lv_iadd C.1 C.2.1 hd (K p l e s m args below meth c G A C H locs lsr hP hD hS hL)
  | isub =>
    replace h : sm_p2 st (fun a b st => nx rest ls (.int (a - b) :: st) D M) = some v := h
    replace hok : (decide (decode (sm_Ib f) pc = .ok (.isub, ln)) && decide (ln = 1)) = true := hok
    simp only [Bool.and_eq_true, decide_eq_true_eq] at hok
    obtain ⟨hd, rfl⟩ := hok
    obtain ⟨a, b, t, rfl, h⟩ := sm_p2_inv h
    have K := nxt _ _ _ _ h
    intro p l e s m args below meth c G A C H locs lsr hP hD hS hL
    exact lv_isub C.1 C.2.1 hd (K p l e s m args below meth c G A C H locs lsr hP hD hS hL)
  | imul =>
    replace h : sm_p2 st (fun a b st => nx rest ls (.int (a * b) :: st) D M) = some v := h
    replace hok : (decide (decode (sm_Ib f) pc = .ok (.imul, ln)) && decide (ln = 1)) = true := hok
    simp only [Bool.and_eq_true, decide_eq_true_eq] at hok
    obtain ⟨hd, rfl⟩ := hok
    obtain ⟨a, b, t, rfl, h⟩ := sm_p2_inv h
    have K := nxt _ _ _ _ h
    intro p l e s m args below meth c G A C H locs lsr hP hD hS hL
    exact lv_imul C.1 C.2.1 hd (K p l e s m args below meth c G A C H locs lsr hP hD hS hL)
  | iand =>
    replace h : sm_p2 st (fun a b st => nx rest ls (.int (a &&& b) :: st) D M) = some v := h
    replace hok : (decide (decode (sm_Ib f) pc = .ok (.iand, ln)) && decide (ln = 1)) = true := hok
    simp only [Bool.and_eq_true, decide_eq_true_eq] at hok
    obtain ⟨hd, rfl⟩ := hok
    obtain ⟨a, b, t, rfl, h⟩ := sm_p2_inv h
    have K := nxt _ _ _ _ h
    intro p l e s m args below meth c G A C H locs lsr hP hD hS hL
    exact lv_iand C.1 C.2.1 hd (K p l e s m args below meth c G A C H locs lsr hP hD hS hL)
  | ixor =>
    replace h : sm_p2 st (fun a b st => nx rest ls (.int (a ^^^ b) :: st) D M) = some v := h
    replace hok : (decide (decode (sm_Ib f) pc = .ok (.ixor, ln)) && decide (ln = 1)) = true := hok
    simp only [Bool.and_eq_true, decide_eq_true_eq] at hok
    obtain ⟨hd, rfl⟩ := hok
    obtain ⟨a, b, t, rfl, h⟩ := sm_p2_inv h
    have K := nxt _ _ _ _ h
    intro p l e s m args below meth c G A C H locs lsr hP hD hS hL
    exact lv_ixor C.1 C.2.1 hd (K p l e s m args below meth c G A C H locs lsr hP hD hS hL)
  | iushr =>
    replace h : sm_p2 st (fun a b st => nx rest ls (.int ((a.toUInt32 >>> (b.toUInt32 &&& Int32.toUInt32 31)).toInt32) :: st) D M) = some v := h
    replace hok : (decide (decode (sm_Ib f) pc = .ok (.iushr, ln)) && decide (ln = 1)) = true := hok
    simp only [Bool.and_eq_true, decide_eq_true_eq] at hok
    obtain ⟨hd, rfl⟩ := hok
    obtain ⟨a, b, t, rfl, h⟩ := sm_p2_inv h
    have K := nxt _ _ _ _ h
    intro p l e s m args below meth c G A C H locs lsr hP hD hS hL
    exact lv_iushr C.1 C.2.1 hd rfl (K p l e s m args below meth c G A C H locs lsr hP hD hS hL)
  | irem =>
    replace h : sm_p2 st (fun a b st => sm_nz b (nx rest ls (.int (a - a / b * b) :: st) D M)) = some v := h
    replace hok : (decide (decode (sm_Ib f) pc = .ok (.irem, ln)) && decide (ln = 1)) = true := hok
    simp only [Bool.and_eq_true, decide_eq_true_eq] at hok
    obtain ⟨hd, rfl⟩ := hok
    obtain ⟨a, b, t, rfl, h⟩ := sm_p2_inv h
    obtain ⟨hb, h⟩ := sm_nz_inv h
    have K := nxt _ _ _ _ h
    intro p l e s m args below meth c G A C H locs lsr hP hD hS hL
    exact lv_irem C.1 C.2.1 hd hb (K p l e s m args below meth c G A C H locs lsr hP hD hS hL)
  | dup =>
    replace h : sm_v1 st (fun w st => nx rest ls (w :: w :: st) D M) = some v := h
    replace hok : (decide (decode (sm_Ib f) pc = .ok (.dup, ln)) && decide (ln = 1)) = true := hok
    simp only [Bool.and_eq_true, decide_eq_true_eq] at hok
    obtain ⟨hd, rfl⟩ := hok
    obtain ⟨w, t0, rfl, hc0, h⟩ := sm_v1_inv h
    have K := nxt _ _ _ _ h
    intro p l e s m args below meth c G A C H locs lsr hP hD hS hL
    exact lv_dup C.1 C.2.1 hd (sm_c1_cat hc0) (K p l e s m args below meth c G A C H locs lsr hP hD hS hL)
  | pop =>
    replace h : sm_v1 st (fun _ st => nx rest ls (st) D M) = some v := h
    replace hok : (decide (decode (sm_Ib f) pc = .ok (.pop, ln)) && decide (ln = 1)) = true := hok
    simp only [Bool.and_eq_true, decide_eq_true_eq] at hok
    obtain ⟨hd, rfl⟩ := hok
    obtain ⟨w, t0, rfl, hc0, h⟩ := sm_v1_inv h
    have K := nxt _ _ _ _ h
    intro p l e s m args below meth c G A C H locs lsr hP hD hS hL
    exact lv_pop C.1 C.2.1 hd (sm_c1_cat hc0) (K p l e s m args below meth c G A C H locs lsr hP hD hS hL)
  | dup_x1 =>
    replace h : sm_v1 st (fun w st => sm_v1 st (fun u st => nx rest ls (w :: u :: w :: st) D M)) = some v := h
    replace hok : (decide (decode (sm_Ib f) pc = .ok (.dup_x1, ln)) && decide (ln = 1)) = true := hok
    simp only [Bool.and_eq_true, decide_eq_true_eq] at hok
    obtain ⟨hd, rfl⟩ := hok
    obtain ⟨w, t0, rfl, hc0, h⟩ := sm_v1_inv h
    obtain ⟨u, t1, rfl, hc1, h⟩ := sm_v1_inv h
    have K := nxt _ _ _ _ h
    intro p l e s m args below meth c G A C H locs lsr hP hD hS hL
    exact lv_dup_x1 C.1 C.2.1 hd (sm_c1_cat hc0) (sm_c1_cat hc1) (K p l e s m args below meth c G A C H locs lsr hP hD hS hL)
  | dup2 =>
    replace h : sm_v1 st (fun w st => sm_v1 st (fun u st => nx rest ls (w :: u :: w :: u :: st) D M)) = some v := h
    replace hok : (decide (decode (sm_Ib f) pc = .ok (.dup2, ln)) && decide (ln = 1)) = true := hok
    simp only [Bool.and_eq_true, decide_eq_true_eq] at hok
    obtain ⟨hd, rfl⟩ := hok
    obtain ⟨w, t0, rfl, hc0, h⟩ := sm_v1_inv h
    obtain ⟨u, t1, rfl, hc1, h⟩ := sm_v1_inv h
    have K := nxt _ _ _ _ h
    intro p l e s m args below meth c G A C H locs lsr hP hD hS hL
    exact lv_dup2_11 C.1 C.2.1 hd (sm_c1_cat hc0) (sm_c1_cat hc1) (K p l e s m args below meth c G A C H locs lsr hP hD hS hL)
  | dup_x2 =>
    replace h : sm_v1 st (fun w st => sm_v1 st (fun u st => sm_v1 st (fun k st => nx rest ls (w :: u :: k :: w :: st) D M))) = some v := h
    replace hok : (decide (decode (sm_Ib f) pc = .ok (.dup_x2, ln)) && decide (ln = 1)) = true := hok
    simp only [Bool.and_eq_true, decide_eq_true_eq] at hok
    obtain ⟨hd, rfl⟩ := hok
    obtain ⟨w, t0, rfl, hc0, h⟩ := sm_v1_inv h
    obtain ⟨u, t1, rfl, hc1, h⟩ := sm_v1_inv h
    obtain ⟨k, t2, rfl, hc2, h⟩ := sm_v1_inv h
    have K := nxt _ _ _ _ h
    intro p l e s m args below meth c G A C H locs lsr hP hD hS hL
    exact lv_dup_x2 C.1 C.2.1 hd (sm_c1_cat hc0) (sm_c1_cat hc1) (sm_c1_cat hc2) (K p l e s m args below meth c G A C H locs lsr hP hD hS hL)
  | ifCond cd off =>
    replace h : sm_p1 st (fun a st => sm_cn cd a 0 (nx ((sm_Ic f).drop x) ls st D M) (nx rest ls st D M)) = some v := h
    replace hok : (decide (decode (sm_Ib f) pc = .ok (.ifCond cd off, ln)) && (decide (ln = 3) && sm_tg (sm_Ic f) pc off x)) = true := hok
    simp only [Bool.and_eq_true, decide_eq_true_eq] at hok
    obtain ⟨hd, rfl, ht⟩ := hok
    obtain ⟨a, t, rfl, h⟩ := sm_p1_inv h
    obtain ⟨tgt, htg, hj⟩ := jmp x off ls t D M ht
    cases cd with
    | eq =>
      obtain ⟨h1, h2⟩ := sm_cn_eq h
      intro p l e s m args below meth c G A C H locs lsr hP hD hS hL
      exact lv_if_eq C.1 C.2.1 hd htg (fun hc => hj (h1 hc) p l e s m args below meth c G A C H locs lsr hP hD hS hL) (fun hc => nxt _ _ _ _ (h2 hc) p l e s m args below meth c G A C H locs lsr hP hD hS hL)
    | ne =>
      obtain ⟨h1, h2⟩ := sm_cn_ne h
      intro p l e s m args below meth c G A C H locs lsr hP hD hS hL
      exact lv_if_ne C.1 C.2.1 hd htg (fun hc => hj (h1 hc) p l e s m args below meth c G A C H locs lsr hP hD hS hL) (fun hc => nxt _ _ _ _ (h2 hc) p l e s m args below meth c G A C H locs lsr hP hD hS hL)
    | lt =>
      obtain ⟨h1, h2⟩ := sm_cn_lt h
      intro p l e s m args below meth c G A C H locs lsr hP hD hS hL
      exact lv_if_lt C.1 C.2.1 hd htg (fun hc => hj (h1 hc) p l e s m args below meth c G A C H locs lsr hP hD hS hL) (fun hc => nxt _ _ _ _ (h2 hc) p l e s m args below meth c G A C H locs lsr hP hD hS hL)
    | ge =>
      obtain ⟨h1, h2⟩ := sm_cn_ge h
      intro p l e s m args below meth c G A C H locs lsr hP hD hS hL
      exact lv_if_ge C.1 C.2.1 hd htg (fun hc => hj (h1 hc) p l e s m args below meth c G A C H locs lsr hP hD hS hL) (fun hc => nxt _ _ _ _ (h2 hc) p l e s m args below meth c G A C H locs lsr hP hD hS hL)
    | gt =>
      obtain ⟨h1, h2⟩ := sm_cn_gt h
      intro p l e s m args below meth c G A C H locs lsr hP hD hS hL
      exact lv_if_gt C.1 C.2.1 hd htg (fun hc => hj (h1 hc) p l e s m args below meth c G A C H locs lsr hP hD hS hL) (fun hc => nxt _ _ _ _ (h2 hc) p l e s m args below meth c G A C H locs lsr hP hD hS hL)
    | le =>
      obtain ⟨h1, h2⟩ := sm_cn_le h
      intro p l e s m args below meth c G A C H locs lsr hP hD hS hL
      exact lv_if_le C.1 C.2.1 hd htg (fun hc => hj (h1 hc) p l e s m args below meth c G A C H locs lsr hP hD hS hL) (fun hc => nxt _ _ _ _ (h2 hc) p l e s m args below meth c G A C H locs lsr hP hD hS hL)
  | if_icmp cd off =>
    replace h : sm_p2 st (fun a b st => sm_cn cd a b (nx ((sm_Ic f).drop x) ls st D M) (nx rest ls st D M)) = some v := h
    replace hok : (decide (decode (sm_Ib f) pc = .ok (.if_icmp cd off, ln)) && (decide (ln = 3) && sm_tg (sm_Ic f) pc off x)) = true := hok
    simp only [Bool.and_eq_true, decide_eq_true_eq] at hok
    obtain ⟨hd, rfl, ht⟩ := hok
    obtain ⟨a, b, t, rfl, h⟩ := sm_p2_inv h
    obtain ⟨tgt, htg, hj⟩ := jmp x off ls t D M ht
    cases cd with
    | eq =>
      obtain ⟨h1, h2⟩ := sm_cn_eq h
      intro p l e s m args below meth c G A C H locs lsr hP hD hS hL
      exact lv_icmp_eq C.1 C.2.1 hd htg (fun hc => hj (h1 hc) p l e s m args below meth c G A C H locs lsr hP hD hS hL) (fun hc => nxt _ _ _ _ (h2 hc) p l e s m args below meth c G A C H locs lsr hP hD hS hL)
    | ne =>
      obtain ⟨h1, h2⟩ := sm_cn_ne h
      intro p l e s m args below meth c G A C H locs lsr hP hD hS hL
      exact lv_icmp_ne C.1 C.2.1 hd htg (fun hc => hj (h1 hc) p l e s m args below meth c G A C H locs lsr hP hD hS hL) (fun hc => nxt _ _ _ _ (h2 hc) p l e s m args below meth c G A C H locs lsr hP hD hS hL)
    | lt =>
      obtain ⟨h1, h2⟩ := sm_cn_lt h
      intro p l e s m args below meth c G A C H locs lsr hP hD hS hL
      exact lv_icmp_lt C.1 C.2.1 hd htg (fun hc => hj (h1 hc) p l e s m args below meth c G A C H locs lsr hP hD hS hL) (fun hc => nxt _ _ _ _ (h2 hc) p l e s m args below meth c G A C H locs lsr hP hD hS hL)
    | ge =>
      obtain ⟨h1, h2⟩ := sm_cn_ge h
      intro p l e s m args below meth c G A C H locs lsr hP hD hS hL
      exact lv_icmp_ge C.1 C.2.1 hd htg (fun hc => hj (h1 hc) p l e s m args below meth c G A C H locs lsr hP hD hS hL) (fun hc => nxt _ _ _ _ (h2 hc) p l e s m args below meth c G A C H locs lsr hP hD hS hL)
    | gt =>
      obtain ⟨h1, h2⟩ := sm_cn_gt h
      intro p l e s m args below meth c G A C H locs lsr hP hD hS hL
      exact lv_icmp_gt C.1 C.2.1 hd htg (fun hc => hj (h1 hc) p l e s m args below meth c G A C H locs lsr hP hD hS hL) (fun hc => nxt _ _ _ _ (h2 hc) p l e s m args below meth c G A C H locs lsr hP hD hS hL)
    | le =>
      obtain ⟨h1, h2⟩ := sm_cn_le h
      intro p l e s m args below meth c G A C H locs lsr hP hD hS hL
      exact lv_icmp_le C.1 C.2.1 hd htg (fun hc => hj (h1 hc) p l e s m args below meth c G A C H locs lsr hP hD hS hL) (fun hc => nxt _ _ _ _ (h2 hc) p l e s m args below meth c G A C H locs lsr hP hD hS hL)
  | goto off =>
    replace h : nx ((sm_Ic f).drop x) ls st D M = some v := h
    replace hok : (decide (decode (sm_Ib f) pc = .ok (.goto off, ln)) && (decide (ln = 3) && sm_tg (sm_Ic f) pc off x)) = true := hok
    simp only [Bool.and_eq_true, decide_eq_true_eq] at hok
    obtain ⟨hd, rfl, ht⟩ := hok
    obtain ⟨tgt, htg, hj⟩ := jmp x off ls st D M ht
    intro p l e s m args below meth c G A C H locs lsr hP hD hS hL
    exact lv_goto C.1 C.2.1 hd htg (hj h p l e s m args below meth c G A C H locs lsr hP hD hS hL)
  | tableswitch dflt lo hi offs =>
    replace h : sm_p1 st (fun a st => sm_sw a x (fun t => nx ((sm_Ic f).drop t) ls st D M) ts) = some v := h
    replace hok : (decide (decode (sm_Ib f) pc = .ok (.tableswitch dflt lo hi offs, ln)) && (decide (hi + 1 = lo + (offs.size : Int)) && sm_tg (sm_Ic f) pc dflt x && sm_okts (sm_Ic f) pc lo offs.toList ts)) = true := hok
    simp only [Bool.and_eq_true, decide_eq_true_eq] at hok
    obtain ⟨hd, ⟨hh, ht⟩, hts⟩ := hok
    obtain ⟨a, t, rfl, h⟩ := sm_p1_inv h
    obtain ⟨hlen, hat⟩ := sm_okts_at hts
    have hlen : offs.size = ts.length := by rw [← hlen]; simp
    rcases sm_sw_inv h with ⟨n, t', h1, -, h2⟩ | ⟨h1, h2⟩
    · obtain ⟨ha, off, ho, hg⟩ := hat n a t' h1
      obtain ⟨tgt, htg, hj⟩ := jmp t' off ls t D M hg
      have hn : n < ts.length := (List.getElem?_eq_some_iff.mp h1).1
      intro p l e s m args below meth c G A C H locs lsr hP hD hS hL
      exact lv_tableIn C.1 C.2.1 hd (by omega) (by omega) (by rw [ha, show (lo + (n : Int) - lo).toNat = n by omega, ← Array.getElem?_toList]; exact ho) htg (hj h2 p l e s m args below meth c G A C H locs lsr hP hD hS hL)
    · obtain ⟨tgt, htg, hj⟩ := jmp x dflt ls t D M ht
      have hout : a.toInt < lo ∨ hi < a.toInt := by
        by_cases h3 : a.toInt < lo
        · exact Or.inl h3
        · refine Or.inr (Int.not_le.mp fun h4 => ?_)
          have hn : (a.toInt - lo).toNat < ts.length := by omega
          obtain ⟨ha, -⟩ := hat (a.toInt - lo).toNat ts[(a.toInt - lo).toNat].1 ts[(a.toInt - lo).toNat].2 (List.getElem?_eq_getElem hn)
          exact h1 _ (List.getElem_mem hn) (Int32.toInt_inj.mp (by rw [ha]; omega))
      intro p l e s m args below meth c G A C H locs lsr hP hD hS hL
      exact lv_tableOut C.1 C.2.1 hd hout htg (hj h2 p l e s m args below meth c G A C H locs lsr hP hD hS hL)
  | lookupswitch dflt ps =>
    replace h : sm_p1 st (fun a st => sm_sw a x (fun t => nx ((sm_Ic f).drop t) ls st D M) ts) = some v := h
    replace hok : (decide (decode (sm_Ib f) pc = .ok (.lookupswitch dflt ps, ln)) && ((ps.toList.zip (ps.toList.drop 1)).all (fun (a, next) => a.1 < next.1) && sm_tg (sm_Ic f) pc dflt x && sm_oklk (sm_Ic f) pc ps.toList ts)) = true := hok
    rw [Bool.and_eq_true, Bool.and_eq_true, Bool.and_eq_true] at hok
    obtain ⟨hd, ⟨hso, ht⟩, hlk⟩ := hok
    have hd := of_decide_eq_true hd
    obtain ⟨a, t, rfl, h⟩ := sm_p1_inv h
    obtain ⟨t', h1, h2⟩ := sm_oklk_at ht hlk h
    obtain ⟨tgt, htg, hj⟩ := jmp t' _ ls t D M h1
    intro p l e s m args below meth c G A C H locs lsr hP hD hS hL
    exact lv_lookup C.1 C.2.1 hd hso rfl htg (hj h2 p l e s m args below meth c G A C H locs lsr hP hD hS hL)
  | getfield ix =>
    replace h : sm_get sh x y st D M (fun w st => nx rest ls (w :: st) D M) = some v := h
    replace hok : (decide (decode (sm_Ib f) pc = .ok (.getfield ix, ln)) && decide (ln = 3 ∧ (sm_Io f, ix, x, y) ∈ LF)) = true := hok
    simp only [Bool.and_eq_true, decide_eq_true_eq] at hok
    obtain ⟨hd, rfl, hl⟩ := hok
    obtain ⟨j, fs, t, a, b, w, rfl, hj, hk, h, he⟩ := sm_get_inv h
    obtain ⟨C0, T0, N0, hc, hN, hlk, hT1⟩ := V.2.2.1 _ _ _ _ hl
    rw [hown] at hlk
    have K := nxt _ _ _ _ h
    intro p l e s m args below meth c G A C H locs lsr hP hD hS hL
    refine va_get (ws := sm_ws sh G D M) (fs := fs.mapIdx (fun k t => sm_fv (sm_ad G) D (M (j + 1)) k t)) (v := sm_cz (sm_ad G) w) C.1 C.2.1 C.2.2.2.2.2.1 (V.2.1 x C0 T0 N0 hc).1 C.2.2.2.2.2.2.1 C.2.2.2.2.2.2.2.1 hP j (sm_ws_at hj) hc y hN (C.2.2.2.2.2.1 _ hlk) (fun q hq => by rw [hT1] at hq; exact hq) ?_ hd (K p l e s m args below meth c G A C H locs lsr hP hD hS hL)
    rw [List.getElem?_mapIdx, hk]
    show some (sm_fv (sm_ad G) D (M (j + 1)) y (a, b)) = _
    rw [he]
  | putfield ix =>
    replace h : sm_put sh x y st D M (fun st D M => nx rest ls st D M) = some v := h
    replace hok : (decide (decode (sm_Ib f) pc = .ok (.putfield ix, ln)) && decide (ln = 3 ∧ (sm_Io f, ix, x, y) ∈ LP)) = true := hok
    simp only [Bool.and_eq_true, decide_eq_true_eq] at hok
    obtain ⟨hd, rfl, hl⟩ := hok
    obtain ⟨hl, hfin⟩ := V.2.2.2.1 _ _ _ _ hl
    obtain ⟨C0, T0, N0, hc, hN, hlk, hT1⟩ := V.2.2.1 _ _ _ _ hl
    rw [hown] at hlk
    have hfin := hfin C0 T0 N0 hc
    obtain ⟨hin, ⟨ty, hty⟩, hnm⟩ := V.2.1 x C0 T0 N0 hc
    rcases sm_put_inv h with ⟨w, j, fs, t, a, b, rfl, hj, hk, ha, h⟩ | ⟨q, j, fs, t, b, rfl, hj, hk, hb, h⟩
    · obtain ⟨C1, T1, N1, hc1, hlen, hkd⟩ := V.2.2.2.2.2.2.2.2.1 j x fs hj
      cases hc.symm.trans hc1
      obtain ⟨hk0, hk3, -⟩ := hkd y a b hk
      have K := nxt _ _ _ _ h
      have hty' : ∃ tz : FieldType, parseFieldDescriptor (T0 y).2.2.1 = some tz ∧ narrow tz (.int w) = .int w ∧ fits tz (.int w) = true := by
        rcases ha with rfl | ⟨rfl, hw⟩
        · rw [hk0 rfl]
          exact ⟨.int, by decide +kernel, rfl, rfl⟩
        · rw [hk3 rfl]
          refine ⟨.boolean, by decide +kernel, ?_⟩
          rcases hw with rfl | rfl
          · exact ⟨by decide +kernel, by decide +kernel⟩
          · exact ⟨by decide +kernel, by decide +kernel⟩
      obtain ⟨tz, hz1, hz2, hz3⟩ := hty'
      intro p l e s m args below meth c G A C H locs lsr hP hD hS hL
      refine va_put (ws := sm_ws sh G D M) (fs := fs.mapIdx (fun k t => sm_fv (sm_ad G) D (M (j + 1)) k t)) (v := .int w) C.1 C.2.1 C.2.2.2.2.2.1 hin ty hty hnm C.2.2.2.2.2.2.1 C.2.2.2.2.2.2.2.1 hP hD hS j (sm_ws_at hj) hc y hN (C.2.2.2.2.2.1 _ hlk) (fun q hq => by rw [hT1] at hq; exact hq) hfin hz1 hz2 hz3 (by simpa [hlen] using hN) hd (fun H1 locs1 hP1 hD1 hS1 => ?_)
      have ew : (sm_ws sh G D M).set j (sm_ad G (j + 1), .inr (x, (fs.mapIdx (fun k t => sm_fv (sm_ad G) D (M (j + 1)) k t)).set y (.int w))) = sm_ws sh G D (sm_up M (j + 1) y w) := by
        rw [sm_fs_set hk (by rcases ha with e | ⟨e, -⟩ <;> simp [e])]
        exact sm_ws_up (h := (2, x, fs)) hj
      rw [ew] at hP1 hD1
      exact K p l e s m args below meth c G A C H1 locs1 lsr hP1 hD1 hS1 hL
    · obtain ⟨C1, T1, N1, hc1, hlen, hkd⟩ := V.2.2.2.2.2.2.2.2.1 j x fs hj
      cases hc.symm.trans hc1
      obtain ⟨-, -, hk2⟩ := hkd y 2 b hk
      obtain ⟨⟨C', hC'⟩, hu⟩ := hk2 rfl
      have K := nxt _ _ _ _ h
      intro p l e s m args below meth c G A C H locs lsr hP hD hS hL
      have hz : narrow (.object C') (sm_cz (sm_ad G) (.ref q)) = sm_cz (sm_ad G) (.ref q) ∧ fits (.object C') (sm_cz (sm_ad G) (.ref q)) = true := by
        cases q with
        | zero => exact ⟨rfl, rfl⟩
        | succ q => exact ⟨rfl, rfl⟩
      refine va_put (ws := sm_ws sh G D M) (fs := fs.mapIdx (fun k t => sm_fv (sm_ad G) D (M (j + 1)) k t)) (v := sm_cz (sm_ad G) (.ref q)) C.1 C.2.1 C.2.2.2.2.2.1 hin ty hty hnm C.2.2.2.2.2.2.1 C.2.2.2.2.2.2.2.1 hP hD hS j (sm_ws_at hj) hc y hN (C.2.2.2.2.2.1 _ hlk) (fun q hq => by rw [hT1] at hq; exact hq) hfin hC' hz.1 hz.2 (by simpa [hlen] using hN) hd (fun H1 locs1 hP1 hD1 hS1 => ?_)
      rw [sm_ws_setD hj hk hb hu V.2.2.2.2.2.2.2.2.2.1] at hP1 hD1
      exact K p l e s m args below meth c G A C H1 locs1 lsr hP1 hD1 hS1 hL
  | getstatic ix =>
    replace h : nx rest ls (.ref x :: st) D M = some v := h
    replace hok : (decide (decode (sm_Ib f) pc = .ok (.getstatic ix, ln)) && decide (ln = 3 ∧ (sm_Io f, ix, x) ∈ LS)) = true := hok
    simp only [Bool.and_eq_true, decide_eq_true_eq] at hok
    obtain ⟨hd, rfl, hl⟩ := hok
    obtain ⟨q, hq, hqx, hpos, hlk⟩ := V.2.2.2.2.2.2.2.1 _ _ _ hl
    rw [hown] at hlk
    have K := nxt _ _ _ _ h
    intro p l e s m args below meth c G A C H locs lsr hP hD hS hL
    have hst := (C.2.2.2.2.2.2.2.2.1 q hq).1
    have ez : sm_cz (sm_ad G) (.ref x) = .ref (sm_ad G q.1) := by
      rw [hqx]
      cases x with
      | zero => omega
      | succ x => rfl
    refine va_gets (v := .ref (sm_ad G q.1)) C.1 C.2.1 hst hS C.2.2.2.2.2.2.1 (C.2.2.2.2.2.1 _ hlk) (fun _ h9 => h9) hd ?_
    rw [← ez]
    exact K p l e s m args below meth c G A C H locs lsr hP hD hS hL
  | iaload =>
    replace h : sm_ald sh sa st M (fun w st => nx rest ls (.int w :: st) D M) = some v := h
    replace hok : (decide (decode (sm_Ib f) pc = .ok (.iaload, ln)) && decide (ln = 1)) = true := hok
    simp only [Bool.and_eq_true, decide_eq_true_eq] at hok
    obtain ⟨hd, rfl⟩ := hok
    obtain ⟨a, q, t, rfl, ⟨j, n, fs, rfl, hj, hin, h⟩ | ⟨vs, ⟨q0, hq0, rfl, rfl⟩, hin, h⟩⟩ := sm_ald_inv h
    · have K := nxt _ _ _ _ h
      intro p l e s m args below meth c G A C H locs lsr hP hD hS hL
      exact va_iald (ws := sm_ws sh G D M) (f := M (j + 1)) C.1 C.2.1 C.2.2.2.2.2.2.2.1 hP j 0 (sm_ws_at hj) rfl hin hd (K p l e s m args below meth c G A C H locs lsr hP hD hS hL)
    · have K := nxt _ _ _ _ h
      have hpos := V.2.2.2.2.2.2.2.2.2.2 q0 hq0
      intro p l e s m args below meth c G A C H locs lsr hP hD hS hL
      have hst := (C.2.2.2.2.2.2.2.2.1 q0 hq0).2
      have ez : sm_cz (sm_ad G) (.ref q0.1) = .ref (sm_ad G q0.1) := by
        cases hx : q0.1 with
        | zero => omega
        | succ x => rfl
      show W p l e (sm_rm d) s m args below meth c H locs 0 0 _ (F0 m pc lsr (.int a :: sm_cz (sm_ad G) (.ref q0.1) :: t.map (sm_cz (sm_ad G))))
      rw [ez]
      exact va_ti C.1 C.2.1 hst hS hin rfl hd (K p l e s m args below meth c G A C H locs lsr hP hD hS hL)
  | baload =>
    replace h : sm_zld sh st M (fun w st => nx rest ls (.int w :: st) D M) = some v := h
    replace hok : (decide (decode (sm_Ib f) pc = .ok (.baload, ln)) && decide (ln = 1)) = true := hok
    simp only [Bool.and_eq_true, decide_eq_true_eq] at hok
    obtain ⟨hd, rfl⟩ := hok
    obtain ⟨a, j, n, fs, t, rfl, hj, hin, h⟩ := sm_zld_inv h
    have K := nxt _ _ _ _ h
    intro p l e s m args below meth c G A C H locs lsr hP hD hS hL
    exact va_zald (ws := sm_ws sh G D M) (f := M (j + 1)) C.1 C.2.1 C.2.2.2.2.2.2.2.1 hP j 1 (sm_ws_at hj) rfl hin hd (K p l e s m args below meth c G A C H locs lsr hP hD hS hL)
  | iastore =>
    replace h : sm_ast sh st M (fun st M => nx rest ls st D M) = some v := h
    replace hok : (decide (decode (sm_Ib f) pc = .ok (.iastore, ln)) && decide (ln = 1)) = true := hok
    simp only [Bool.and_eq_true, decide_eq_true_eq] at hok
    obtain ⟨hd, rfl⟩ := hok
    obtain ⟨w, a, j, n, fs, t, rfl, hj, hin, h⟩ := sm_ast_inv h
    have K := nxt _ _ _ _ h
    intro p l e s m args below meth c G A C H locs lsr hP hD hS hL
    refine va_iast (ws := sm_ws sh G D M) (f := M (j + 1)) C.1 C.2.1 C.2.2.2.2.2.2.2.1 hP hD hS j 0 (sm_ws_at hj) rfl hin hd (fun H1 locs1 hP1 hD1 hS1 => ?_)
    have ew := sm_ws_up (G := G) (D := D) (M := M) (j := a.toNatClampNeg) (v := w) hj
    exact K p l e s m args below meth c G A C H1 locs1 lsr (ew ▸ hP1) (ew ▸ hD1) hS1 hL
  | bastore =>
    replace h : sm_zst sh st M (fun st M => nx rest ls st D M) = some v := h
    replace hok : (decide (decode (sm_Ib f) pc = .ok (.bastore, ln)) && decide (ln = 1)) = true := hok
    simp only [Bool.and_eq_true, decide_eq_true_eq] at hok
    obtain ⟨hd, rfl⟩ := hok
    obtain ⟨w, a, j, n, fs, t, rfl, hj, hin, hw, h⟩ := sm_zst_inv h
    have K := nxt _ _ _ _ h
    have hn : vp_nar .boolean w = w := by rcases hw with rfl | rfl <;> decide +kernel
    intro p l e s m args below meth c G A C H locs lsr hP hD hS hL
    refine va_zast (ws := sm_ws sh G D M) (f := M (j + 1)) C.1 C.2.1 C.2.2.2.2.2.2.2.1 hP hD hS j 1 (sm_ws_at hj) rfl hin hd (fun H1 locs1 hP1 hD1 hS1 => ?_)
    rw [hn] at hP1 hD1
    have ew := sm_ws_up (G := G) (D := D) (M := M) (j := a.toNatClampNeg) (v := w) hj
    exact K p l e s m args below meth c G A C H1 locs1 lsr (ew ▸ hP1) (ew ▸ hD1) hS1 hL
  | arraylength =>
    replace h : sm_aln sh st (fun w st => nx rest ls (.int w :: st) D M) = some v := h
    replace hok : (decide (decode (sm_Ib f) pc = .ok (.arraylength, ln)) && decide (ln = 1)) = true := hok
    simp only [Bool.and_eq_true, decide_eq_true_eq] at hok
    obtain ⟨hd, rfl⟩ := hok
    obtain ⟨j, n, fs, t, rfl, hj, h⟩ := sm_aln_inv h
    have K := nxt _ _ _ _ h
    intro p l e s m args below meth c G A C H locs lsr hP hD hS hL
    exact va_alen (ws := sm_ws sh G D M) (x := (n, .inl (M (j + 1)))) C.1 C.2.1 C.2.2.2.2.2.2.2.1 hP j 0 (sm_ws_at hj) rfl rfl hd (K p l e s m args below meth c G A C H locs lsr hP hD hS hL)
  | invokevirtual ix =>
    replace h : sm_inv (sm_rcv sh y) cal x z w st D M (fun a st D M => match ts with
      | [] => nx rest ls st D M
      | _ :: _ => nx rest ls (.int a :: st) D M) = some v := h
    replace hok : (decide (decode (sm_Ib f) pc = .ok (.invokevirtual ix, ln)) && (decide (ln = 3 ∧ (sm_Io f, ix, x) ∈ LM) && (match P[x]? with
      | some g => decide (z = sm_In g + 1 ∧ y = sm_Io g ∧ (ts.isEmpty = (sm_Ir g).isNone))
      | none => false))) = true := hok
    simp only [Bool.and_eq_true, decide_eq_true_eq] at hok
    obtain ⟨hd, ⟨rfl, hl⟩, hg⟩ := hok
    obtain ⟨g, hgx, w1, w2, w3, T0, N0, hc⟩ := V.2.2.2.2.1 _ _ _ hl
    rw [hown] at w1
    rw [hgx] at hg
    have hg := of_decide_eq_true hg
    obtain ⟨hz1, hy1, hts⟩ := hg
    obtain ⟨g1, g2, -, g4, g5, g6, -⟩ := V.2.2.2.2.2.2.1 x g hgx
    obtain ⟨as, rs, a, D', M', rfl, hlen, hrs, hrc, hrv, hca, h9⟩ := sm_inv_inv h
    obtain ⟨j, fs, t, rfl, hj⟩ := sm_rcv_inv hrv
    obtain ⟨d', hd', hM⟩ := hcal x g _ D M _ hgx hca
    have K : sm_WJ TT cls sa sh f d (pc + 3) ls ((sm_rv (sm_Ir g) a).toList ++ rs) D' M' R := by
      cases hre : sm_Ir g with
      | none =>
        rw [hre] at hts
        cases ts with
        | nil => exact nxt _ _ _ _ h9
        | cons _ _ => cases hts
      | some _ =>
        rw [hre] at hts
        cases ts with
        | nil => cases hts
        | cons _ _ => exact nxt _ _ _ _ h9
    intro p l e s m args below meth c G A C H locs lsr hP hD hS hL
    have hA1 : ∀ q, va_A (sm_ws sh G D M) H.size q → A q := by
      intro q hq
      rcases hq with ⟨k, e', hq⟩ | hq
      · exact hD.2 k _ hq
      · exact C.2.2.2.2.2.2.2.2.2 q (Nat.le_trans hS.1 hq)
    have hgood : ∀ w ∈ wsV (sm_Iy f).cls ix (sm_Iy g).cls (sm_Iy g) (sm_wd TT g), w ∈ TT ∧ ((w.onTables && w.keeps) = true ∨ ∃ ty, w = .arrayClass ty) := by
      intro w hw
      have hin : w ∈ TT := by
        simp only [wsV, sm_wd, List.mem_append, List.mem_cons, List.not_mem_nil, or_false] at hw
        rcases hw with (rfl | rfl | rfl | rfl) | (rfl | hw)
        · exact w1
        · exact w2
        · exact w3
        · exact g2
        · exact g1
        · exact hw
      exact ⟨hin, good_of_word (V.1 w hin)⟩
    have hrec : ∃ cellB : Cell, H[sm_ad G (j + 1)]? = some cellB ∧ cellB.vm.isStatics = false ∧ s.vm.findClass (sm_Iy g).cls = some cellB.cls := va_recv C.2.2.2.2.2.2.2.1 hP (hy1 ▸ hc) (sm_ws_at hj)
    have hsum : ((rs.map (sm_cz (sm_ad G))).map fun v => v.category).sum ≤ 8 := Nat.le_trans (sm_cat_sum (fun w hw => Nat.le_of_eq (sm_c1_cat (hrc w hw)))) hrs
    have hrun := va_runV (l := l) (e := e) (below := below) (meth := meth) (locs := locs) (cells := 0) (slots := 0) (R := sm_rm d) (b := sm_ad G (j + 1)) (As := t.map (sm_cz (sm_ad G))) (rest := rs.map (sm_cz (sm_ad G))) (g := F0 m pc lsr ((((.ref (j + 1) :: t).reverse ++ rs)).map (sm_cz (sm_ad G)))) (H := H)
      ⟨C.1, C.2.1, C.2.2.1, C.2.2.2.2.2.2.1, C.2.2.2.2.2.1⟩ (hM l G H.size)
      (cwV (R := sm_rm d) (rm := sm_rm d') (mc := 0) (ms := 0) (sm_In g) C.2.2.2.2.2.1 hgood rfl rfl rfl ⟨rfl, g4⟩ ⟨hd', by show 8 + (sm_Il g + 11) + d' * 64 ≤ d * 64; omega⟩)
      ⟨sm_blind, hrec, fun U hU hW => ⟨rfl, by rw [hU], by rw [hU]; exact hP, va_K.moved hW.alike C.2.2.2.2.2.2.2.1, hD.weaken (fun _ _ _ _ => trivial), sm_sta.to C.2.2.2.2.2.2.2.2.1 hS hA1 hU hW.alike⟩⟩
      rfl (by simp at hlen ⊢; omega) hL.2.1 (by simp [sm_cz, List.map_append, List.map_reverse]) (lv_room hsum) hd ⟨Nat.le_refl _, Nat.le_refl _⟩
    refine sm_callr hrun hS hA1 (fun t1 H1 locs1 hal hP1 hD1 hS1 => ?_)
    have KK := K p l e s m args below meth c G A C H1 locs1 lsr hP1 (hD1.weaken (fun _ _ _ hq => hA1 _ hq)) hS1 hL
    cases hre : sm_Ir g with
    | none => rw [hre] at KK; exact KK
    | some _ => rw [hre] at KK; exact KK
  | invokestatic ix =>
    replace h : sm_inv (fun _ => true) cal x z w st D M (fun a st D M => match ts with
      | [] => nx rest ls st D M
      | _ :: _ => nx rest ls (.int a :: st) D M) = some v := h
    replace hok : (decide (decode (sm_Ib f) pc = .ok (.invokestatic ix, ln)) && (decide (ln = 3 ∧ (sm_Io f, ix, x) ∈ LN) && (match P[x]? with
      | some g => decide (z = sm_In g ∧ (ts.isEmpty = (sm_Ir g).isNone))
      | none => false))) = true := hok
    simp only [Bool.and_eq_true, decide_eq_true_eq] at hok
    obtain ⟨hd, ⟨rfl, hl⟩, hg⟩ := hok
    obtain ⟨g, hgx, w1, w2⟩ := V.2.2.2.2.2.1 _ _ _ hl
    rw [hown] at w1
    rw [hgx] at hg
    have hg := of_decide_eq_true hg
    obtain ⟨hz1, hts⟩ := hg
    obtain ⟨g1, g2, -, g4, g5, g6, -⟩ := V.2.2.2.2.2.2.1 x g hgx
    obtain ⟨as, rs, a, D', M', rfl, hlen, hrs, hrc, -, hca, h9⟩ := sm_inv_inv h
    obtain ⟨d', hd', hM⟩ := hcal x g _ D M _ hgx hca
    have K : sm_WJ TT cls sa sh f d (pc + 3) ls ((sm_rv (sm_Ir g) a).toList ++ rs) D' M' R := by
      cases hre : sm_Ir g with
      | none =>
        rw [hre] at hts
        cases ts with
        | nil => exact nxt _ _ _ _ h9
        | cons _ _ => cases hts
      | some _ =>
        rw [hre] at hts
        cases ts with
        | nil => cases hts
        | cons _ _ => exact nxt _ _ _ _ h9
    intro p l e s m args below meth c G A C H locs lsr hP hD hS hL
    have hA1 : ∀ q, va_A (sm_ws sh G D M) H.size q → A q := by
      intro q hq
      rcases hq with ⟨k, e', hq⟩ | hq
      · exact hD.2 k _ hq
      · exact C.2.2.2.2.2.2.2.2.2 q (Nat.le_trans hS.1 hq)
    have hgood : ∀ w ∈ va_wsS (sm_Iy f).cls ix (sm_Iy g) (sm_wd TT g), w ∈ TT ∧ ((w.onTables && w.keeps) = true ∨ ∃ ty, w = .arrayClass ty) := by
      intro w hw
      have hin : w ∈ TT := by
        simp only [va_wsS, sm_wd, List.mem_append, List.mem_cons, List.not_mem_nil, or_false] at hw
        rcases hw with (rfl | rfl | rfl) | (rfl | hw)
        · exact w1
        · exact w2
        · exact g2
        · exact g1
        · exact hw
      exact ⟨hin, good_of_word (V.1 w hin)⟩
    have hsum : ((rs.map (sm_cz (sm_ad G))).map fun v => v.category).sum ≤ 8 := Nat.le_trans (sm_cat_sum (fun w hw => Nat.le_of_eq (sm_c1_cat (hrc w hw)))) hrs
    have hrun := va_runS (l := l) (e := e) (below := below) (meth := meth) (locs := locs) (cells := 0) (slots := 0) (R := sm_rm d) (As := as.map (sm_cz (sm_ad G))) (rest := rs.map (sm_cz (sm_ad G))) (g := F0 m pc lsr (((as.reverse ++ rs)).map (sm_cz (sm_ad G)))) (H := H)
      ⟨C.1, C.2.1, C.2.2.1, C.2.2.2.2.2.2.1, C.2.2.2.2.2.1⟩ (hM l G H.size)
      (va_cwS (R := sm_rm d) (rm := sm_rm d') (mc := 0) (ms := 0) (sm_In g) C.2.2.2.2.2.1 hgood rfl rfl rfl g4 ⟨hd', by show 8 + (sm_Il g + 11) + d' * 64 ≤ d * 64; omega⟩)
      ⟨sm_blind, fun U hU hW => ⟨rfl, by rw [hU], by rw [hU]; exact hP, va_K.moved hW.alike C.2.2.2.2.2.2.2.1, hD.weaken (fun _ _ _ _ => trivial), sm_sta.to C.2.2.2.2.2.2.2.2.1 hS hA1 hU hW.alike⟩⟩
      rfl (by simp; omega) hL.2.1 (by simp [List.map_append, List.map_reverse]) (lv_room hsum) hd ⟨Nat.le_refl _, Nat.le_refl _⟩
    refine sm_callr hrun hS hA1 (fun t1 H1 locs1 hal hP1 hD1 hS1 => ?_)
    have KK := K p l e s m args below meth c G A C H1 locs1 lsr hP1 (hD1.weaken (fun _ _ _ hq => hA1 _ hq)) hS1 hL
    cases hre : sm_Ir g with
    | none => rw [hre] at KK; exact KK
    | some _ => rw [hre] at KK; exact KK
  | ireturn =>
    replace h : sm_p1 st (fun a st => sm_re st zr a (ret a D M)) = some v := h
    replace hok : (decide (decode (sm_Ib f) pc = .ok (.ireturn, ln)) && decide (ln = 1 ∧ (sm_Ir f).isSome = true)) = true := hok
    simp only [Bool.and_eq_true, decide_eq_true_eq] at hok
    obtain ⟨hd, rfl, hsm⟩ := hok
    obtain ⟨a, t, rfl, h⟩ := sm_p1_inv h
    obtain ⟨rfl, hzb, h⟩ := sm_re_inv h
    have hR := hret a D M v h hv
    subst hR
    intro p l e s m args below meth c G A C H locs lsr hP hD hS hL
    have hpost : ∀ (tz : FieldType), sm_Ir f = some tz → ∀ t : State, t.heap = H → s.WarmedH t.vm → sm_Qc cls sh G A (sm_Ir f) (a, D, M) args s (.returned (some (.int a))) t := by
      intro tz htz t ht hW
      refine ⟨by rw [htz]; rfl, ⟨by rw [ht]; exact hP, va_K.moved hW.alike C.2.2.2.2.2.2.2.1, hD⟩, hS.F ht⟩
    rcases (V.2.2.2.2.2.2.1 kx f hf).2.2.2.2.2.1 with h1 | h1 | h1
    · rw [h1] at hsm; cases hsm
    · exact W.zret (ty := .int) C.1 C.2.1 (C.2.2.2.1.trans h1) rfl (hpost _ h1) hS.2.2 hd (hlocks := C.2.2.2.2.1)
    · have hz2 : zr = true := by rw [hz, h1]; decide
      have hn : narrow .boolean (.int a) = .int a := by rcases hzb hz2 with rfl | rfl <;> decide +kernel
      exact W.zret (ty := .boolean) C.1 C.2.1 (C.2.2.2.1.trans h1) hn (hpost _ h1) hS.2.2 hd (hlocks := C.2.2.2.2.1)
  | return_ =>
    replace h : sm_re st false 0 (ret 0 D M) = some v := h
    replace hok : (decide (decode (sm_Ib f) pc = .ok (.return_, ln)) && decide (ln = 1 ∧ (sm_Ir f).isSome = false)) = true := hok
    simp only [Bool.and_eq_true, decide_eq_true_eq] at hok
    obtain ⟨hd, rfl, hsm⟩ := hok
    obtain ⟨rfl, -, h⟩ := sm_re_inv h
    have hR := hret 0 D M v h hv
    subst hR
    intro p l e s m args below meth c G A C H locs lsr hP hD hS hL
    rcases (V.2.2.2.2.2.2.1 kx f hf).2.2.2.2.2.1 with h1 | h1 | h1
    · exact W.vret C.1 C.2.1 (C.2.2.2.1.trans h1) (fun t ht hW => ⟨by rw [h1]; rfl, ⟨by rw [ht]; exact hP, va_K.moved hW.alike C.2.2.2.2.2.2.2.1, hD⟩, hS.F ht⟩) hS.2.2 hd (hlocks := C.2.2.2.2.1)
    · rw [h1] at hsm; cases hsm
    · rw [h1] at hsm; cases hsm
  | _ => cases h
end
end
section
/-! a run of the small machine; a method's contract out of it; loops -/
section
variable {TT : List Cond} {cls : List vw_C} {P : List sm_I} {nm : Nat → String} {LF LP : sm_L4} {LM LN LS : sm_L3} {sa : sm_Sa} {sh : List sm_Sh} {f : sm_I} {d : Nat} {R : sm_S}
abbrev sm_CalOk (TT : List Cond) (cls : List vw_C) (P : List sm_I) (sa : sm_Sa) (sh : List sm_Sh) (d : Nat) (cal : sm_Cal) : Prop :=
  ∀ (x : Nat) (g : sm_I) (as : List Value) (D : sm_D) (M : sm_M) (R' : sm_S), P[x]? = some g → cal x as D M = some R' → ∃ d', d' + 1 ≤ d ∧ sm_MJ TT cls sa sh g d' as D M R'
theorem sm_run_ok {ρ : Type} {cal : sm_Cal} {zr : Bool} {ret : Int32 → sm_D → sm_M → Option ρ} {leaf : Nat → List Value → List Value → sm_D → sm_M → Option ρ} {gd : ρ → Prop} {kx : Nat}
    (V : sm_V TT cls P nm LF LP LM LN LS sa sh) (hf : P[kx]? = some f) (hz : zr = decide (sm_Ir f = some .boolean)) (hcal : sm_CalOk TT cls P sa sh d cal)
    (hret : ∀ (a : Int32) (D : sm_D) (M : sm_M) (v : ρ), ret a D M = some v → gd v → R = (a, D, M))
    (hleaf : ∀ (pc : Nat) (ls st : List Value) (D : sm_D) (M : sm_M) (v : ρ), leaf pc ls st D M = some v → gd v → sm_WJ TT cls sa sh f d pc ls st D M R) :
    ∀ (n i : Nat) (r : sm_R) (rest : List sm_R), (sm_Ic f).drop i = r :: rest → ∀ (ls st : List Value) (D : sm_D) (M : sm_M) (v : ρ), sm_run sh sa cal (sm_Ic f) zr ret leaf n (r :: rest) ls st D M = some v → gd v → sm_WJ TT cls sa sh f d (sm_pc r) ls st D M R := by
  intro n
  induction n with
  | zero =>
    intro i r rest hr ls st D M v h hv
    cases h
  | succ n ih =>
    intro i r rest hr ls st D M v h hv
    refine sm_st_ok (nx := sm_nx leaf (sm_run sh sa cal (sm_Ic f) zr ret leaf n)) V hf hz hcal hret (fun _ _ _ _ => rfl) ?_ hr h hv
    intro j q t ls st D M v hq h hv
    have h : (match sm_fl q with
      | true => leaf (sm_pc q) ls st D M
      | false => sm_run sh sa cal (sm_Ic f) zr ret leaf n (q :: t) ls st D M) = some v := h
    cases hb : sm_fl q with
    | true => rw [hb] at h; exact hleaf _ _ _ _ _ _ h hv
    | false => rw [hb] at h; exact ih j q t hq ls st D M v h hv
/-- a block: its rows begin at place i -/
theorem sm_blk {ρ : Type} {cal : sm_Cal} {zr : Bool} {ret : Int32 → sm_D → sm_M → Option ρ} {leaf : Nat → List Value → List Value → sm_D → sm_M → Option ρ} {gd : ρ → Prop} {kx : Nat} {pc n i : Nat} {ls st : List Value} {D : sm_D} {M : sm_M} {v : ρ}
    (V : sm_V TT cls P nm LF LP LM LN LS sa sh) (hf : P[kx]? = some f) (hz : zr = decide (sm_Ir f = some .boolean)) (hcal : sm_CalOk TT cls P sa sh d cal)
    (hret : ∀ (a : Int32) (D : sm_D) (M : sm_M) (v : ρ), ret a D M = some v → gd v → R = (a, D, M))
    (hleaf : ∀ (pc : Nat) (ls st : List Value) (D : sm_D) (M : sm_M) (v : ρ), leaf pc ls st D M = some v → gd v → sm_WJ TT cls sa sh f d pc ls st D M R)
    (hpc : (sm_Ic f)[i]?.map sm_pc = some pc) (h : sm_run sh sa cal (sm_Ic f) zr ret leaf n ((sm_Ic f).drop i) ls st D M = some v) (hv : gd v) : sm_WJ TT cls sa sh f d pc ls st D M R := by
  cases hr : (sm_Ic f)[i]? with
  | none => rw [hr] at hpc; cases hpc
  | some r =>
    rw [hr] at hpc
    simp only [Option.map_some, Option.some.injEq] at hpc
    subst hpc
    have hd := sm_drop hr
    rw [hd] at h
    exact sm_run_ok V hf hz hcal hret hleaf n i r _ hd ls st D M v h hv
/-- the contract of a method, from its entry -/
theorem sm_met {as : List Value} {D : sm_D} {M : sm_M} (hy : plainName (sm_Iy f).cls = true) (hl : as.length ≤ sm_Il f) (hc : ∀ v ∈ as, sm_c1 v = true)
    (h : sm_WJ TT cls sa sh f d 0 (as ++ List.replicate (sm_Il f - as.length) (.retAddr 0)) [] D M R) : sm_MJ TT cls sa sh f d as D M R := by
  intro l G sz
  refine Met.ofW (cc := sm_Ib f) (maxL := sm_Il f) (ret := sm_Ir f) (ws' := TT) hy rfl ?_
  intro p e s m args below meth c s₁ B hml hv
  obtain ⟨rfl, hsz, hP, hK, hD0, hst⟩ := hv
  subst hsz
  have hts := atoms_spec (ws := sm_wd TT f) B.pre
  have hown : s.vm.findClass (sm_Iy f).cls = some m.cls := findClass_of_methodNamed B.named
  rw [lg_entry_eq]
  exact h p l e s m _ below meth c G (va_A (sm_ws sh G D M) s.heap.size) ⟨B.exec, B.bytes, hml, B.returns, B.notSynchronized, fun w hw => hts w (List.mem_cons_of_mem _ hw), hown, hK, hst, fun q hq => Or.inr hq⟩ s.heap [] _ hP hD0.self va_S.rf (sm_L_entry hl hc)
end
/-- a loop that ends -/
theorem sm_it_mono {σ ρ : Type} {b : σ → Option (σ ⊕ ρ)} {r : ρ} : ∀ {n : Nat} {s : σ}, sm_it b n s = some r → ∀ m, n ≤ m → sm_it b m s = some r
  | 0, _, h, _, _ => by cases h
  | n + 1, s, h, m, hm => by
    obtain ⟨m, rfl⟩ : ∃ k, m = k + 1 := ⟨m - 1, by omega⟩
    unfold sm_it at h ⊢
    split at h
    · exact sm_it_mono h m (by omega)
    · exact h
    · cases h
noncomputable def sm_lp {σ ρ : Type} (b : σ → Option (σ ⊕ ρ)) (s : σ) : Option ρ :=
  haveI := Classical.propDecidable (∃ (n : Nat) (r : ρ), sm_it b n s = some r)
  if h : ∃ (n : Nat) (r : ρ), sm_it b n s = some r then some (Classical.choose (Classical.choose_spec h)) else none
theorem sm_lp_of {σ ρ : Type} {b : σ → Option (σ ⊕ ρ)} {s : σ} {n : Nat} {r : ρ} (h : sm_it b n s = some r) : sm_lp b s = some r := by
  have hx : ∃ (n : Nat) (r : ρ), sm_it b n s = some r := ⟨n, r, h⟩
  unfold sm_lp
  rw [dif_pos hx]
  have h1 := Classical.choose_spec (Classical.choose_spec hx)
  have h2 := sm_it_mono h (max n (Classical.choose hx)) (by omega)
  have h3 := sm_it_mono h1 (max n (Classical.choose hx)) (by omega)
  rw [h3] at h2
  exact h2
theorem sm_lp_it {σ ρ : Type} {b : σ → Option (σ ⊕ ρ)} {s : σ} {r : ρ} (h : sm_lp b s = some r) : ∃ n, sm_it b n s = some r := by
  unfold sm_lp at h
  split at h
  · rename_i hx
    have h1 := Classical.choose_spec (Classical.choose_spec hx)
    rw [Option.some.inj h] at h1
    exact ⟨_, h1⟩
  · cases h
theorem sm_lp_eq {σ ρ : Type} {b : σ → Option (σ ⊕ ρ)} {s s' : σ} (h : b s = some (.inl s')) : sm_lp b s = sm_lp b s' := by
  cases h1 : sm_lp b s' with
  | some r =>
    obtain ⟨n, hn⟩ := sm_lp_it h1
    exact sm_lp_of (n := n + 1) (by unfold sm_it; rw [h]; exact hn)
  | none =>
    cases h2 : sm_lp b s with
    | none => rfl
    | some r =>
      obtain ⟨n, hn⟩ := sm_lp_it h2
      cases n with
      | zero => cases hn
      | succ n =>
        unfold sm_it at hn
        rw [h] at hn
        rw [sm_lp_of hn] at h1
        cases h1
theorem sm_lp_end {σ ρ : Type} {b : σ → Option (σ ⊕ ρ)} {s : σ} {r : ρ} (h : b s = some (.inr r)) : sm_lp b s = some r := sm_lp_of (n := 1) (by unfold sm_it; rw [h])
/-- a property of a loop's states, from its end backwards -/
theorem sm_lp_ind {σ ρ : Type} {b : σ → Option (σ ⊕ ρ)} {r : ρ} (W : σ → Prop) (hs : ∀ (s : σ) (v : σ ⊕ ρ), b s = some v → (∀ s', v = .inl s' → W s') → (∀ r', v = .inr r' → r' = r) → W s) : ∀ {s : σ}, sm_lp b s = some r → W s := by
  intro s h
  obtain ⟨n, hn⟩ := sm_lp_it h
  clear h
  induction n generalizing s with
  | zero => cases hn
  | succ n ih =>
    unfold sm_it at hn
    split at hn
    · rename_i s' he
      exact hs s _ he (fun q hq => by cases hq; exact ih hn) (fun q hq => by cases hq)
    · rename_i q he
      exact hs s _ he (fun q hq => by cases hq) (fun q' hq => by cases hq; exact Option.some.inj hn)
    · cases hn
end
section
/-! names, fields, shapes of cells: by program (wip/whole/gen) -/
def tF0 : u_T := fun k => match k with
  | 0 => ("TypedMill", "types", "LTypedMill$Types;", true)
  | 1 => ("TypedMill", "expressions", "LTypedMill$Expressions;", true)
  | 2 => ("TypedMill", "typing", "LTypedMill$Typing;", true)
  | 3 => ("TypedMill", "evaluator", "LTypedMill$Evaluator;", true)
  | 4 => ("TypedMill", "writer", "LTypedMill$CodeWriter;", true)
  | 5 => ("TypedMill", "checker", "LTypedMill$Checker;", true)
  | 6 => ("TypedMill", "machine", "LTypedMill$Machine;", true)
  | 7 => ("TypedMill", "code", "LTypedMill$Code;", false)
  | _ => ("TypedMill", "spare", "LTypedMill$Code;", false)
def tF1 : u_T := fun k => match k with
  | 0 => ("TypedMill$Types", "kind", "[I", true)
  | 1 => ("TypedMill$Types", "first", "[I", true)
  | 2 => ("TypedMill$Types", "second", "[I", true)
  | 3 => ("TypedMill$Types", "third", "[I", true)
  | 4 => ("TypedMill$Types", "sizes", "[I", true)
  | 5 => ("TypedMill$Types", "newest", "[I", true)
  | 6 => ("TypedMill$Types", "older", "[I", true)
  | _ => ("TypedMill$Types", "count", "I", false)
def tF2 : u_T := fun k => match k with
  | 0 => ("TypedMill$Expressions", "kind", "[I", true)
  | 1 => ("TypedMill$Expressions", "a", "[I", true)
  | 2 => ("TypedMill$Expressions", "x", "[I", true)
  | 3 => ("TypedMill$Expressions", "y", "[I", true)
  | 4 => ("TypedMill$Expressions", "z", "[I", true)
  | 5 => ("TypedMill$Expressions", "height", "[I", true)
  | _ => ("TypedMill$Expressions", "count", "I", false)
def tF3 : u_T := fun k => match k with
  | 0 => ("TypedMill$Typing", "types", "LTypedMill$Types;", true)
  | 1 => ("TypedMill$Typing", "expressions", "LTypedMill$Expressions;", true)
  | 2 => ("TypedMill$Typing", "bound", "[I", true)
  | _ => ("TypedMill$Typing", "bounds", "I", false)
def tF4 : u_T := fun k => match k with
  | 0 => ("TypedMill$Evaluator", "expressions", "LTypedMill$Expressions;", true)
  | 1 => ("TypedMill$Evaluator", "kind", "[I", true)
  | 2 => ("TypedMill$Evaluator", "first", "[I", true)
  | 3 => ("TypedMill$Evaluator", "second", "[I", true)
  | 4 => ("TypedMill$Evaluator", "values", "I", false)
  | 5 => ("TypedMill$Evaluator", "function", "[I", true)
  | 6 => ("TypedMill$Evaluator", "argument", "[I", true)
  | 7 => ("TypedMill$Evaluator", "frames", "I", false)
  | 8 => ("TypedMill$Evaluator", "taken", "I", false)
  | _ => ("TypedMill$Evaluator", "over", "Z", false)
def tF5 : u_T := fun k => match k with
  | 0 => ("TypedMill$CodeWriter", "types", "LTypedMill$Types;", true)
  | 1 => ("TypedMill$CodeWriter", "expressions", "LTypedMill$Expressions;", true)
  | 2 => ("TypedMill$CodeWriter", "environmentType", "[I", true)
  | 3 => ("TypedMill$CodeWriter", "before", "[I", true)
  | 4 => ("TypedMill$CodeWriter", "bindsLast", "[Z", true)
  | 5 => ("TypedMill$CodeWriter", "environments", "I", false)
  | 6 => ("TypedMill$CodeWriter", "bodyLambda", "[I", true)
  | 7 => ("TypedMill$CodeWriter", "bodyEnvironment", "[I", true)
  | 8 => ("TypedMill$CodeWriter", "bodyBlock", "[I", true)
  | 9 => ("TypedMill$CodeWriter", "bodies", "I", false)
  | _ => ("TypedMill$CodeWriter", "code", "LTypedMill$Code;", false)
def tF6 : u_T := fun k => match k with
  | 0 => ("TypedMill$Checker", "types", "LTypedMill$Types;", true)
  | 1 => ("TypedMill$Checker", "held", "[I", true)
  | _ => ("TypedMill$Checker", "code", "LTypedMill$Code;", false)
def tF7 : u_T := fun k => match k with
  | 0 => ("TypedMill$Machine", "kind", "[I", true)
  | 1 => ("TypedMill$Machine", "value", "[I", true)
  | 2 => ("TypedMill$Machine", "firstKind", "[I", true)
  | 3 => ("TypedMill$Machine", "firstValue", "[I", true)
  | 4 => ("TypedMill$Machine", "secondKind", "[I", true)
  | 5 => ("TypedMill$Machine", "secondValue", "[I", true)
  | 6 => ("TypedMill$Machine", "pairs", "I", false)
  | 7 => ("TypedMill$Machine", "code", "LTypedMill$Code;", false)
  | 8 => ("TypedMill$Machine", "block", "I", false)
  | 9 => ("TypedMill$Machine", "next", "I", false)
  | _ => ("TypedMill$Machine", "condition", "I", false)
def tF8 : u_T := fun k => match k with
  | 0 => ("TypedMill$Code", "types", "LTypedMill$Types;", true)
  | 1 => ("TypedMill$Code", "operation", "[I", true)
  | 2 => ("TypedMill$Code", "a", "[I", true)
  | 3 => ("TypedMill$Code", "b", "[I", true)
  | 4 => ("TypedMill$Code", "c", "[I", true)
  | 5 => ("TypedMill$Code", "toldC", "[I", true)
  | 6 => ("TypedMill$Code", "count", "I", false)
  | 7 => ("TypedMill$Code", "start", "[I", true)
  | 8 => ("TypedMill$Code", "length", "[I", true)
  | 9 => ("TypedMill$Code", "asks", "[I", true)
  | 10 => ("TypedMill$Code", "askedSizes", "[I", true)
  | 11 => ("TypedMill$Code", "blocks", "I", false)
  | 12 => ("TypedMill$Code", "current", "I", false)
  | 13 => ("TypedMill$Code", "compiled", "Z", false)
  | 14 => ("TypedMill$Code", "verdict", "I", false)
  | _ => ("TypedMill$Code", "over", "Z", false)
def tF9 : u_T := fun k => match k with
  | 0 => ("TypedMillModel", "refusal", "I", false)
  | 1 => ("TypedMillModel", "types", "I", false)
  | 2 => ("TypedMillModel", "kind", "[I", false)
  | 3 => ("TypedMillModel", "one", "[I", false)
  | 4 => ("TypedMillModel", "two", "[I", false)
  | 5 => ("TypedMillModel", "three", "[I", false)
  | 6 => ("TypedMillModel", "size", "[I", false)
  | 7 => ("TypedMillModel", "made", "I", false)
  | 8 => ("TypedMillModel", "number", "[I", false)
  | 9 => ("TypedMillModel", "madeKind", "[I", false)
  | 10 => ("TypedMillModel", "madeOne", "[I", false)
  | 11 => ("TypedMillModel", "madeTwo", "[I", false)
  | 12 => ("TypedMillModel", "madeThree", "[I", false)
  | 13 => ("TypedMillModel", "expressions", "I", false)
  | 14 => ("TypedMillModel", "what", "[I", false)
  | 15 => ("TypedMillModel", "value", "[I", false)
  | 16 => ("TypedMillModel", "x", "[I", false)
  | 17 => ("TypedMillModel", "y", "[I", false)
  | 18 => ("TypedMillModel", "z", "[I", false)
  | 19 => ("TypedMillModel", "height", "[I", false)
  | 20 => ("TypedMillModel", "frames", "I", false)
  | 21 => ("TypedMillModel", "bound", "I", false)
  | 22 => ("TypedMillModel", "typed", "I", false)
  | 23 => ("TypedMillModel", "frame", "[I", false)
  | 24 => ("TypedMillModel", "phase", "[I", false)
  | 25 => ("TypedMillModel", "kept", "[I", false)
  | 26 => ("TypedMillModel", "keptMore", "[I", false)
  | 27 => ("TypedMillModel", "scope", "[I", false)
  | 28 => ("TypedMillModel", "binding", "[I", false)
  | 29 => ("TypedMillModel", "steps", "I", false)
  | 30 => ("TypedMillModel", "values", "I", false)
  | 31 => ("TypedMillModel", "scopes", "I", false)
  | 32 => ("TypedMillModel", "valueKind", "[I", false)
  | 33 => ("TypedMillModel", "first", "[I", false)
  | 34 => ("TypedMillModel", "second", "[I", false)
  | 35 => ("TypedMillModel", "scopeValue", "[I", false)
  | 36 => ("TypedMillModel", "scopeNext", "[I", false)
  | 37 => ("TypedMillModel", "compiled", "Z", false)
  | 38 => ("TypedMillModel", "blocks", "I", false)
  | 39 => ("TypedMillModel", "instructions", "I", false)
  | 40 => ("TypedMillModel", "operation", "[I", false)
  | 41 => ("TypedMillModel", "a", "[I", false)
  | 42 => ("TypedMillModel", "b", "[I", false)
  | 43 => ("TypedMillModel", "c", "[I", false)
  | 44 => ("TypedMillModel", "start", "[I", false)
  | 45 => ("TypedMillModel", "many", "[I", false)
  | 46 => ("TypedMillModel", "ask", "[I", false)
  | 47 => ("TypedMillModel", "full", "Z", false)
  | 48 => ("TypedMillModel", "tasks", "I", false)
  | 49 => ("TypedMillModel", "done", "I", false)
  | 50 => ("TypedMillModel", "environments", "I", false)
  | 51 => ("TypedMillModel", "environment", "I", false)
  | 52 => ("TypedMillModel", "named", "I", false)
  | 53 => ("TypedMillModel", "bodies", "I", false)
  | 54 => ("TypedMillModel", "current", "I", false)
  | 55 => ("TypedMillModel", "task", "[I", false)
  | 56 => ("TypedMillModel", "with", "[I", false)
  | 57 => ("TypedMillModel", "more", "[I", false)
  | 58 => ("TypedMillModel", "doneType", "[I", false)
  | 59 => ("TypedMillModel", "behind", "[I", false)
  | 60 => ("TypedMillModel", "holds", "[I", false)
  | 61 => ("TypedMillModel", "whole", "[I", false)
  | 62 => ("TypedMillModel", "isBound", "[Z", false)
  | 63 => ("TypedMillModel", "body", "[I", false)
  | 64 => ("TypedMillModel", "bodyScope", "[I", false)
  | 65 => ("TypedMillModel", "bodyBlock", "[I", false)
  | 66 => ("TypedMillModel", "state", "I", false)
  | 67 => ("TypedMillModel", "at", "I", false)
  | 68 => ("TypedMillModel", "end", "I", false)
  | 69 => ("TypedMillModel", "pairs", "I", false)
  | 70 => ("TypedMillModel", "register", "[I", false)
  | 71 => ("TypedMillModel", "content", "[I", false)
  | 72 => ("TypedMillModel", "leftKind", "[I", false)
  | 73 => ("TypedMillModel", "left", "[I", false)
  | 74 => ("TypedMillModel", "rightKind", "[I", false)
  | 75 => ("TypedMillModel", "right", "[I", false)
  | 76 => ("TypedMillModel", "has", "[I", false)
  | 77 => ("TypedMillModel", "oldOperation", "[I", false)
  | 78 => ("TypedMillModel", "oldA", "[I", false)
  | 79 => ("TypedMillModel", "oldB", "[I", false)
  | 80 => ("TypedMillModel", "oldC", "[I", false)
  | 81 => ("TypedMillModel", "oldStart", "[I", false)
  | 82 => ("TypedMillModel", "oldMany", "[I", false)
  | _ => ("TypedMillModel", "oldAsk", "[I", false)
abbrev smCl : List vw_C := [("TypedMill", tF0, 9), ("TypedMill$Types", tF1, 8), ("TypedMill$Expressions", tF2, 7), ("TypedMill$Typing", tF3, 4), ("TypedMill$Evaluator", tF4, 10), ("TypedMill$CodeWriter", tF5, 11), ("TypedMill$Checker", tF6, 3), ("TypedMill$Machine", tF7, 11), ("TypedMill$Code", tF8, 16), ("TypedMillModel", tF9, 84)]
def smNm (o : Nat) : String := ["TypedMill", "TypedMill$Types", "TypedMill$Expressions", "TypedMill$Typing", "TypedMill$Evaluator", "TypedMill$CodeWriter", "TypedMill$Checker", "TypedMill$Machine", "TypedMill$Code", "TypedMillModel", "java/lang/Math", "java/util/Arrays"].getD o ""
def tFORM : List Nat := [2, 1, 0, 2, 2, 2, 2, 2, 2, 2, 2, 2, 2, 2, 2, 2, 2, 4, 2, 3, 0, 2, 2, 5, 2, 2, 2, 3, 0, 0, 2, 3, 0, 2, 0, 0, 0, 0, 0]
def tPARTS : List Nat := [0, 0, 2, 2, 2, 3, 1, 2, 2, 1, 1]
def smSa : sm_Sa := [(1000, ("TypedMill$Code", "FORM"), tFORM), (1001, ("TypedMill$Expressions", "PARTS"), tPARTS)]
def shC : List sm_Sh := [
  (2, 1, [(1, 2), (1, 3), (1, 4), (1, 5), (1, 6), (1, 7), (1, 8), (0, 0)]),
  (0, 800, []),
  (0, 800, []),
  (0, 800, []),
  (0, 800, []),
  (0, 800, []),
  (0, 128, []),
  (0, 800, []),
  (2, 2, [(1, 10), (1, 11), (1, 12), (1, 13), (1, 14), (1, 15), (0, 0)]),
  (0, 40, []),
  (0, 40, []),
  (0, 40, []),
  (0, 40, []),
  (0, 40, []),
  (0, 40, []),
  (2, 3, [(1, 1), (1, 9), (1, 17), (0, 0)]),
  (0, 16, []),
  (2, 4, [(1, 9), (1, 19), (1, 20), (1, 21), (0, 0), (1, 22), (1, 23), (0, 0), (0, 0), (3, 0)]),
  (0, 500, []),
  (0, 500, []),
  (0, 500, []),
  (0, 166, []),
  (0, 166, []),
  (2, 5, [(1, 1), (1, 9), (1, 25), (1, 26), (1, 27), (0, 0), (1, 28), (1, 29), (1, 30), (0, 0), (2, 4)]),
  (0, 301, []),
  (0, 301, []),
  (1, 301, []),
  (0, 40, []),
  (0, 40, []),
  (0, 40, []),
  (2, 6, [(1, 1), (1, 32), (2, 3)]),
  (0, 6, []),
  (2, 7, [(1, 34), (1, 35), (1, 36), (1, 37), (1, 38), (1, 39), (0, 0), (2, 2), (0, 0), (0, 0), (0, 0)]),
  (0, 6, []),
  (0, 6, []),
  (0, 400, []),
  (0, 400, []),
  (0, 400, []),
  (0, 400, []),
  (2, 8, [(1, 1), (1, 41), (1, 42), (1, 43), (1, 44), (1, 45), (0, 0), (1, 46), (1, 47), (1, 48), (1, 49), (0, 0), (0, 0), (3, 0), (0, 0), (3, 0)]),
  (0, 300, []),
  (0, 300, []),
  (0, 300, []),
  (0, 300, []),
  (0, 300, []),
  (0, 40, []),
  (0, 40, []),
  (0, 120, []),
  (0, 120, []),
  (2, 8, [(1, 1), (1, 51), (1, 52), (1, 53), (1, 54), (1, 55), (0, 0), (1, 56), (1, 57), (1, 58), (1, 59), (0, 0), (0, 0), (3, 0), (0, 0), (3, 0)]),
  (0, 300, []),
  (0, 300, []),
  (0, 300, []),
  (0, 300, []),
  (0, 300, []),
  (0, 40, []),
  (0, 40, []),
  (0, 120, []),
  (0, 120, []),
  (2, 0, [(1, 1), (1, 9), (1, 16), (1, 18), (1, 24), (1, 31), (1, 33), (2, 0), (2, 1)])]
def shT : List sm_Sh := [
  (2, 1, [(1, 2), (1, 3), (1, 4), (1, 5), (1, 6), (1, 7), (1, 8), (0, 0)]),
  (0, 800, []),
  (0, 800, []),
  (0, 800, []),
  (0, 800, []),
  (0, 800, []),
  (0, 128, []),
  (0, 800, [])]
def shM : List sm_Sh := [
  (2, 9, [(0, 0), (0, 0), (1, 2), (1, 3), (1, 4), (1, 5), (1, 6), (0, 0), (1, 7), (1, 8), (1, 9), (1, 10), (1, 11), (0, 0), (1, 12), (1, 13), (1, 14), (1, 15), (1, 16), (1, 17), (0, 0), (0, 0), (0, 0), (1, 18), (1, 19), (1, 20), (1, 21), (1, 22), (1, 23), (0, 0), (0, 0), (0, 0), (1, 24), (1, 25), (1, 26), (1, 27), (1, 28), (3, 0), (0, 0), (0, 0), (1, 29), (1, 30), (1, 31), (1, 32), (1, 33), (1, 34), (1, 35), (3, 0), (0, 0), (0, 0), (0, 0), (0, 0), (0, 0), (0, 0), (0, 0), (1, 36), (1, 37), (1, 38), (1, 39), (1, 40), (1, 41), (1, 42), (1, 43), (1, 44), (1, 45), (1, 46), (0, 0), (0, 0), (0, 0), (0, 0), (1, 47), (1, 48), (1, 49), (1, 50), (1, 51), (1, 52), (1, 53), (1, 54), (1, 55), (1, 56), (1, 57), (1, 58), (1, 59), (1, 60)]),
  (0, 3000, []),
  (0, 3000, []),
  (0, 3000, []),
  (0, 3000, []),
  (0, 3000, []),
  (0, 30, []),
  (0, 30, []),
  (0, 30, []),
  (0, 30, []),
  (0, 30, []),
  (0, 40, []),
  (0, 40, []),
  (0, 40, []),
  (0, 40, []),
  (0, 40, []),
  (0, 40, []),
  (0, 64, []),
  (0, 64, []),
  (0, 64, []),
  (0, 64, []),
  (0, 64, []),
  (0, 32, []),
  (0, 600, []),
  (0, 600, []),
  (0, 600, []),
  (0, 1200, []),
  (0, 1200, []),
  (0, 301, []),
  (0, 301, []),
  (0, 301, []),
  (0, 301, []),
  (0, 41, []),
  (0, 41, []),
  (0, 123, []),
  (0, 400, []),
  (0, 400, []),
  (0, 400, []),
  (0, 400, []),
  (0, 1200, []),
  (0, 1200, []),
  (0, 1200, []),
  (1, 1200, []),
  (0, 64, []),
  (0, 64, []),
  (0, 64, []),
  (0, 6, []),
  (0, 6, []),
  (0, 400, []),
  (0, 400, []),
  (0, 400, []),
  (0, 400, []),
  (0, 6, []),
  (0, 301, []),
  (0, 301, []),
  (0, 301, []),
  (0, 301, []),
  (0, 41, []),
  (0, 41, []),
  (0, 123, [])]
def gC : List (List Nat) := [[40], [50]]
def gF : List (List Nat) := [[7, 128], [32, 6], [34, 6], [35, 6]]
def gY : List (List Nat) := [[29, 54, 301], [54, 29, 301], [30, 55, 301], [55, 30, 301], [31, 56, 301], [56, 31, 301], [32, 57, 301], [57, 32, 301], [33, 58, 41], [58, 33, 41], [34, 59, 41], [59, 34, 41], [35, 60, 123], [60, 35, 123]]
def sm_ga {ρ : Type} (a : List Nat) (l : List (List Nat)) (k : Option ρ) : Option ρ := if a ∈ l then k else none
def sm_eqp {ρ : Type} (a b : Nat) (k : Option ρ) : Option ρ := if a = b then k else none
def sm_inr {σ ρ : Type} (x : Option ρ) : Option (σ ⊕ ρ) := x.map .inr
def sm_lng {ρ : Type} (sh : List sm_Sh) (p : Nat) (k : Nat → Option ρ) : Option ρ := match sm_at sh p with
  | some (0, n, _) => k n
  | _ => none
theorem sm_ga_inv {ρ : Type} {a : List Nat} {l : List (List Nat)} {k : Option ρ} {v : ρ} (h : sm_ga a l k = some v) : a ∈ l ∧ k = some v := by
  unfold sm_ga at h
  split at h
  · rename_i hc
    exact ⟨hc, h⟩
  · cases h
theorem sm_eqp_inv {ρ : Type} {a b : Nat} {k : Option ρ} {v : ρ} (h : sm_eqp a b k = some v) : a = b ∧ k = some v := by
  unfold sm_eqp at h
  split at h
  · rename_i hc
    exact ⟨hc, h⟩
  · cases h
theorem sm_inr_inv {σ ρ : Type} {x : Option ρ} {v : σ ⊕ ρ} (h : sm_inr x = some v) : ∃ r, x = some r ∧ v = .inr r := by
  unfold sm_inr at h
  cases x with
  | none => cases h
  | some r => cases h; exact ⟨r, rfl, rfl⟩
theorem sm_lng_inv {ρ : Type} {sh : List sm_Sh} {p : Nat} {k : Nat → Option ρ} {v : ρ} (h : sm_lng sh p k = some v) : ∃ n, k n = some v := by
  unfold sm_lng at h
  split at h
  · exact ⟨_, h⟩
  · cases h
theorem gC_inv {p : Nat} (h : [p] ∈ gC) : p = 40 ∨ p = 50 := by simpa [gC] using h
theorem gF_inv {p n : Nat} (h : [p, n] ∈ gF) : (p = 7 ∧ n = 128) ∨ (p = 32 ∧ n = 6) ∨ (p = 34 ∧ n = 6) ∨ (p = 35 ∧ n = 6) := by simpa [gF] using h
theorem gY_inv {p q n : Nat} (h : [p, q, n] ∈ gY) : (p = 29 ∧ q = 54 ∧ n = 301) ∨ (p = 54 ∧ q = 29 ∧ n = 301) ∨ (p = 30 ∧ q = 55 ∧ n = 301) ∨ (p = 55 ∧ q = 30 ∧ n = 301) ∨ (p = 31 ∧ q = 56 ∧ n = 301) ∨ (p = 56 ∧ q = 31 ∧ n = 301) ∨ (p = 32 ∧ q = 57 ∧ n = 301) ∨ (p = 57 ∧ q = 32 ∧ n = 301) ∨ (p = 33 ∧ q = 58 ∧ n = 41) ∨ (p = 58 ∧ q = 33 ∧ n = 41) ∨ (p = 34 ∧ q = 59 ∧ n = 41) ∨ (p = 59 ∧ q = 34 ∧ n = 41) ∨ (p = 35 ∧ q = 60 ∧ n = 123) ∨ (p = 60 ∧ q = 35 ∧ n = 123) := by simpa [gY] using h
end
section
/-! rows of code: by program -/
def c150 : List sm_R := [
  (0, .iload_n 1, 1, false, (0), 1, 0, 0, 0, []),
  (1, .ifCond .lt (15), 3, false, (0), 8, 0, 0, 0, []),
  (4, .iload_n 1, 1, false, (0), 1, 0, 0, 0, []),
  (5, .aload_n 0, 1, false, (0), 0, 0, 0, 0, []),
  (6, .getfield 43, 3, false, (0), 1, 7, 0, 0, []),
  (9, .if_icmp .ge (7), 3, false, (0), 8, 0, 0, 0, []),
  (12, .iconst (1), 1, false, (1), 0, 0, 0, 0, []),
  (13, .goto (4), 3, false, (0), 9, 0, 0, 0, []),
  (16, .iconst (0), 1, true, (0), 0, 0, 0, 0, []),
  (17, .ireturn, 1, true, (0), 0, 0, 0, 0, [])]
def f150 : sm_I := (⟨"TypedMill$Types", "has", "(I)Z"⟩, prog_8_method_2_code, 2, (some .boolean), 1, false, 1, c150)
def c156 : List sm_R := [
  (0, .iload_n 1, 1, false, (0), 1, 0, 0, 0, []),
  (1, .ifCond .lt (20), 3, false, (0), 11, 0, 0, 0, []),
  (4, .iload_n 1, 1, false, (0), 1, 0, 0, 0, []),
  (5, .aload_n 0, 1, false, (0), 0, 0, 0, 0, []),
  (6, .getfield 43, 3, false, (0), 1, 7, 0, 0, []),
  (9, .if_icmp .ge (12), 3, false, (0), 11, 0, 0, 0, []),
  (12, .aload_n 0, 1, false, (0), 0, 0, 0, 0, []),
  (13, .getfield 24, 3, false, (0), 1, 4, 0, 0, []),
  (16, .iload_n 1, 1, false, (0), 1, 0, 0, 0, []),
  (17, .iaload, 1, false, (0), 0, 0, 0, 0, []),
  (18, .goto (4), 3, false, (0), 12, 0, 0, 0, []),
  (21, .iconst (0), 1, true, (0), 0, 0, 0, 0, []),
  (22, .ireturn, 1, true, (0), 0, 0, 0, 0, [])]
def f156 : sm_I := (⟨"TypedMill$Types", "sizeOf", "(I)I"⟩, prog_8_method_8_code, 2, (some .int), 1, false, 1, c156)
def c163 : List sm_R := [
  (0, .iload_n 0, 1, false, (0), 0, 0, 0, 0, []),
  (1, .bipush (31), 2, false, (31), 0, 0, 0, 0, []),
  (3, .imul, 1, false, (0), 0, 0, 0, 0, []),
  (4, .iload_n 1, 1, false, (0), 1, 0, 0, 0, []),
  (5, .iadd, 1, false, (0), 0, 0, 0, 0, []),
  (6, .bipush (37), 2, false, (37), 0, 0, 0, 0, []),
  (8, .imul, 1, false, (0), 0, 0, 0, 0, []),
  (9, .iload_n 2, 1, false, (0), 2, 0, 0, 0, []),
  (10, .iadd, 1, false, (0), 0, 0, 0, 0, []),
  (11, .bipush (41), 2, false, (41), 0, 0, 0, 0, []),
  (13, .imul, 1, false, (0), 0, 0, 0, 0, []),
  (14, .iload_n 3, 1, false, (0), 3, 0, 0, 0, []),
  (15, .iadd, 1, false, (0), 0, 0, 0, 0, []),
  (16, .istore 4, 2, false, (0), 4, 0, 0, 0, []),
  (18, .iload 4, 2, false, (0), 4, 0, 0, 0, []),
  (20, .iload 4, 2, false, (0), 4, 0, 0, 0, []),
  (22, .bipush (7), 2, false, (7), 0, 0, 0, 0, []),
  (24, .iushr, 1, false, (0), 0, 0, 0, 0, []),
  (25, .ixor, 1, false, (0), 0, 0, 0, 0, []),
  (26, .bipush (127), 2, false, (127), 0, 0, 0, 0, []),
  (28, .iand, 1, false, (0), 0, 0, 0, 0, []),
  (29, .ireturn, 1, false, (0), 0, 0, 0, 0, [])]
def f163 : sm_I := (⟨"TypedMill$Types", "bucket", "(IIII)I"⟩, prog_8_method_15_code, 5, (some .int), 4, true, 1, c163)
def c161 : List sm_R := [
  (0, .aload_n 0, 1, false, (0), 0, 0, 0, 0, []),
  (1, .getfield 27, 3, false, (0), 1, 5, 0, 0, []),
  (4, .iload_n 1, 1, false, (0), 1, 0, 0, 0, []),
  (5, .iaload, 1, false, (0), 0, 0, 0, 0, []),
  (6, .istore 6, 2, false, (0), 6, 0, 0, 0, []),
  (8, .iconst (0), 1, false, (0), 0, 0, 0, 0, []),
  (9, .istore 7, 2, false, (0), 7, 0, 0, 0, []),
  (11, .iload 7, 2, true, (0), 7, 0, 0, 0, []),
  (13, .aload_n 0, 1, false, (0), 0, 0, 0, 0, []),
  (14, .getfield 43, 3, false, (0), 1, 7, 0, 0, []),
  (17, .if_icmp .ge (73), 3, false, (0), 47, 0, 0, 0, []),
  (20, .iload 6, 2, false, (0), 6, 0, 0, 0, []),
  (22, .iconst (-1), 1, false, (-1), 0, 0, 0, 0, []),
  (23, .if_icmp .eq (67), 3, false, (0), 47, 0, 0, 0, []),
  (26, .aload_n 0, 1, false, (0), 0, 0, 0, 0, []),
  (27, .getfield 11, 3, false, (0), 1, 0, 0, 0, []),
  (30, .iload 6, 2, false, (0), 6, 0, 0, 0, []),
  (32, .iaload, 1, false, (0), 0, 0, 0, 0, []),
  (33, .iload_n 2, 1, false, (0), 2, 0, 0, 0, []),
  (34, .if_icmp .ne (41), 3, false, (0), 40, 0, 0, 0, []),
  (37, .aload_n 0, 1, false, (0), 0, 0, 0, 0, []),
  (38, .getfield 15, 3, false, (0), 1, 1, 0, 0, []),
  (41, .iload 6, 2, false, (0), 6, 0, 0, 0, []),
  (43, .iaload, 1, false, (0), 0, 0, 0, 0, []),
  (44, .iload_n 3, 1, false, (0), 3, 0, 0, 0, []),
  (45, .if_icmp .ne (30), 3, false, (0), 40, 0, 0, 0, []),
  (48, .aload_n 0, 1, false, (0), 0, 0, 0, 0, []),
  (49, .getfield 18, 3, false, (0), 1, 2, 0, 0, []),
  (52, .iload 6, 2, false, (0), 6, 0, 0, 0, []),
  (54, .iaload, 1, false, (0), 0, 0, 0, 0, []),
  (55, .iload 4, 2, false, (0), 4, 0, 0, 0, []),
  (57, .if_icmp .ne (18), 3, false, (0), 40, 0, 0, 0, []),
  (60, .aload_n 0, 1, false, (0), 0, 0, 0, 0, []),
  (61, .getfield 21, 3, false, (0), 1, 3, 0, 0, []),
  (64, .iload 6, 2, false, (0), 6, 0, 0, 0, []),
  (66, .iaload, 1, false, (0), 0, 0, 0, 0, []),
  (67, .iload 5, 2, false, (0), 5, 0, 0, 0, []),
  (69, .if_icmp .ne (6), 3, false, (0), 40, 0, 0, 0, []),
  (72, .iload 6, 2, false, (0), 6, 0, 0, 0, []),
  (74, .ireturn, 1, false, (0), 0, 0, 0, 0, []),
  (75, .aload_n 0, 1, true, (0), 0, 0, 0, 0, []),
  (76, .getfield 30, 3, false, (0), 1, 6, 0, 0, []),
  (79, .iload 6, 2, false, (0), 6, 0, 0, 0, []),
  (81, .iaload, 1, false, (0), 0, 0, 0, 0, []),
  (82, .istore 6, 2, false, (0), 6, 0, 0, 0, []),
  (84, .iinc 7 (1), 3, false, (1), 7, 0, 0, 0, []),
  (87, .goto (-76), 3, false, (0), 7, 0, 0, 0, []),
  (90, .iconst (-1), 1, true, (-1), 0, 0, 0, 0, []),
  (91, .ireturn, 1, false, (0), 0, 0, 0, 0, [])]
def f161 : sm_I := (⟨"TypedMill$Types", "search", "(IIIII)I"⟩, prog_8_method_13_code, 8, (some .int), 5, false, 1, c161)
def c162 : List sm_R := [
  (0, .aload_n 0, 1, false, (0), 0, 0, 0, 0, []),
  (1, .getfield 11, 3, false, (0), 1, 0, 0, 0, []),
  (4, .aload_n 0, 1, false, (0), 0, 0, 0, 0, []),
  (5, .getfield 43, 3, false, (0), 1, 7, 0, 0, []),
  (8, .iload_n 2, 1, false, (0), 2, 0, 0, 0, []),
  (9, .iastore, 1, false, (0), 0, 0, 0, 0, []),
  (10, .aload_n 0, 1, false, (0), 0, 0, 0, 0, []),
  (11, .getfield 15, 3, false, (0), 1, 1, 0, 0, []),
  (14, .aload_n 0, 1, false, (0), 0, 0, 0, 0, []),
  (15, .getfield 43, 3, false, (0), 1, 7, 0, 0, []),
  (18, .iload_n 3, 1, false, (0), 3, 0, 0, 0, []),
  (19, .iastore, 1, false, (0), 0, 0, 0, 0, []),
  (20, .aload_n 0, 1, false, (0), 0, 0, 0, 0, []),
  (21, .getfield 18, 3, false, (0), 1, 2, 0, 0, []),
  (24, .aload_n 0, 1, false, (0), 0, 0, 0, 0, []),
  (25, .getfield 43, 3, false, (0), 1, 7, 0, 0, []),
  (28, .iload 4, 2, false, (0), 4, 0, 0, 0, []),
  (30, .iastore, 1, false, (0), 0, 0, 0, 0, []),
  (31, .aload_n 0, 1, false, (0), 0, 0, 0, 0, []),
  (32, .getfield 21, 3, false, (0), 1, 3, 0, 0, []),
  (35, .aload_n 0, 1, false, (0), 0, 0, 0, 0, []),
  (36, .getfield 43, 3, false, (0), 1, 7, 0, 0, []),
  (39, .iload 5, 2, false, (0), 5, 0, 0, 0, []),
  (41, .iastore, 1, false, (0), 0, 0, 0, 0, []),
  (42, .aload_n 0, 1, false, (0), 0, 0, 0, 0, []),
  (43, .getfield 30, 3, false, (0), 1, 6, 0, 0, []),
  (46, .aload_n 0, 1, false, (0), 0, 0, 0, 0, []),
  (47, .getfield 43, 3, false, (0), 1, 7, 0, 0, []),
  (50, .aload_n 0, 1, false, (0), 0, 0, 0, 0, []),
  (51, .getfield 27, 3, false, (0), 1, 5, 0, 0, []),
  (54, .iload_n 1, 1, false, (0), 1, 0, 0, 0, []),
  (55, .iaload, 1, false, (0), 0, 0, 0, 0, []),
  (56, .iastore, 1, false, (0), 0, 0, 0, 0, []),
  (57, .aload_n 0, 1, false, (0), 0, 0, 0, 0, []),
  (58, .getfield 27, 3, false, (0), 1, 5, 0, 0, []),
  (61, .iload_n 1, 1, false, (0), 1, 0, 0, 0, []),
  (62, .aload_n 0, 1, false, (0), 0, 0, 0, 0, []),
  (63, .getfield 43, 3, false, (0), 1, 7, 0, 0, []),
  (66, .iastore, 1, false, (0), 0, 0, 0, 0, []),
  (67, .aload_n 0, 1, false, (0), 0, 0, 0, 0, []),
  (68, .dup, 1, false, (0), 0, 0, 0, 0, []),
  (69, .getfield 43, 3, false, (0), 1, 7, 0, 0, []),
  (72, .iconst (1), 1, false, (1), 0, 0, 0, 0, []),
  (73, .iadd, 1, false, (0), 0, 0, 0, 0, []),
  (74, .putfield 43, 3, false, (0), 1, 7, 0, 0, []),
  (77, .return_, 1, false, (0), 0, 0, 0, 0, [])]
def f162 : sm_I := (⟨"TypedMill$Types", "append", "(IIIII)V"⟩, prog_8_method_14_code, 6, none, 5, false, 1, c162)
def c159 : List sm_R := [
  (0, .iload_n 1, 1, false, (0), 1, 0, 0, 0, []),
  (1, .iload_n 2, 1, false, (0), 2, 0, 0, 0, []),
  (2, .iload_n 3, 1, false, (0), 3, 0, 0, 0, []),
  (3, .iload 4, 2, false, (0), 4, 0, 0, 0, []),
  (5, .invokestatic 55, 3, false, (0), 163, 0, 4, 0, [(0, 0)]),
  (8, .istore 5, 2, false, (0), 5, 0, 0, 0, []),
  (10, .aload_n 0, 1, false, (0), 0, 0, 0, 0, []),
  (11, .iload 5, 2, false, (0), 5, 0, 0, 0, []),
  (13, .iload_n 1, 1, false, (0), 1, 0, 0, 0, []),
  (14, .iload_n 2, 1, false, (0), 2, 0, 0, 0, []),
  (15, .iload_n 3, 1, false, (0), 3, 0, 0, 0, []),
  (16, .iload 4, 2, false, (0), 4, 0, 0, 0, []),
  (18, .invokevirtual 58, 3, false, (0), 161, 1, 6, 0, [(0, 0)]),
  (21, .istore 6, 2, false, (0), 6, 0, 0, 0, []),
  (23, .iload 6, 2, false, (0), 6, 0, 0, 0, []),
  (25, .iconst (-1), 1, false, (-1), 0, 0, 0, 0, []),
  (26, .if_icmp .ne (13), 3, false, (0), 21, 0, 0, 0, []),
  (29, .aload_n 0, 1, false, (0), 0, 0, 0, 0, []),
  (30, .getfield 43, 3, false, (0), 1, 7, 0, 0, []),
  (33, .sipush (800), 3, false, (800), 0, 0, 0, 0, []),
  (36, .if_icmp .ne (6), 3, false, (0), 23, 0, 0, 0, []),
  (39, .iload 6, 2, true, (0), 6, 0, 0, 0, []),
  (41, .ireturn, 1, false, (0), 0, 0, 0, 0, []),
  (42, .aload_n 0, 1, false, (0), 0, 0, 0, 0, []),
  (43, .getfield 24, 3, false, (0), 1, 4, 0, 0, []),
  (46, .aload_n 0, 1, false, (0), 0, 0, 0, 0, []),
  (47, .getfield 43, 3, false, (0), 1, 7, 0, 0, []),
  (50, .iconst (1), 1, false, (1), 0, 0, 0, 0, []),
  (51, .aload_n 0, 1, false, (0), 0, 0, 0, 0, []),
  (52, .iload_n 2, 1, false, (0), 2, 0, 0, 0, []),
  (53, .invokevirtual 51, 3, false, (0), 156, 1, 2, 0, [(0, 0)]),
  (56, .iadd, 1, false, (0), 0, 0, 0, 0, []),
  (57, .aload_n 0, 1, false, (0), 0, 0, 0, 0, []),
  (58, .iload_n 3, 1, false, (0), 3, 0, 0, 0, []),
  (59, .invokevirtual 51, 3, false, (0), 156, 1, 2, 0, [(0, 0)]),
  (62, .iadd, 1, false, (0), 0, 0, 0, 0, []),
  (63, .aload_n 0, 1, false, (0), 0, 0, 0, 0, []),
  (64, .iload 4, 2, false, (0), 4, 0, 0, 0, []),
  (66, .invokevirtual 51, 3, false, (0), 156, 1, 2, 0, [(0, 0)]),
  (69, .iadd, 1, false, (0), 0, 0, 0, 0, []),
  (70, .iastore, 1, false, (0), 0, 0, 0, 0, []),
  (71, .aload_n 0, 1, false, (0), 0, 0, 0, 0, []),
  (72, .iload 5, 2, false, (0), 5, 0, 0, 0, []),
  (74, .iload_n 1, 1, false, (0), 1, 0, 0, 0, []),
  (75, .iload_n 2, 1, false, (0), 2, 0, 0, 0, []),
  (76, .iload_n 3, 1, false, (0), 3, 0, 0, 0, []),
  (77, .iload 4, 2, false, (0), 4, 0, 0, 0, []),
  (79, .invokevirtual 62, 3, false, (0), 162, 1, 6, 0, []),
  (82, .aload_n 0, 1, false, (0), 0, 0, 0, 0, []),
  (83, .getfield 43, 3, false, (0), 1, 7, 0, 0, []),
  (86, .iconst (1), 1, false, (1), 0, 0, 0, 0, []),
  (87, .isub, 1, false, (0), 0, 0, 0, 0, []),
  (88, .ireturn, 1, false, (0), 0, 0, 0, 0, [])]
def f159 : sm_I := (⟨"TypedMill$Types", "find", "(IIII)I"⟩, prog_8_method_11_code, 7, (some .int), 4, false, 1, c159)
def c158 : List sm_R := [
  (0, .iconst (1), 1, false, (1), 0, 0, 0, 0, []),
  (1, .aload_n 0, 1, false, (0), 0, 0, 0, 0, []),
  (2, .iload_n 2, 1, false, (0), 2, 0, 0, 0, []),
  (3, .invokevirtual 51, 3, false, (0), 156, 1, 2, 0, [(0, 0)]),
  (6, .iadd, 1, false, (0), 0, 0, 0, 0, []),
  (7, .aload_n 0, 1, false, (0), 0, 0, 0, 0, []),
  (8, .iload_n 3, 1, false, (0), 3, 0, 0, 0, []),
  (9, .invokevirtual 51, 3, false, (0), 156, 1, 2, 0, [(0, 0)]),
  (12, .iadd, 1, false, (0), 0, 0, 0, 0, []),
  (13, .aload_n 0, 1, false, (0), 0, 0, 0, 0, []),
  (14, .iload 4, 2, false, (0), 4, 0, 0, 0, []),
  (16, .invokevirtual 51, 3, false, (0), 156, 1, 2, 0, [(0, 0)]),
  (19, .iadd, 1, false, (0), 0, 0, 0, 0, []),
  (20, .bipush (30), 2, false, (30), 0, 0, 0, 0, []),
  (22, .if_icmp .gt (7), 3, false, (0), 17, 0, 0, 0, []),
  (25, .iconst (1), 1, false, (1), 0, 0, 0, 0, []),
  (26, .goto (4), 3, false, (0), 18, 0, 0, 0, []),
  (29, .iconst (0), 1, false, (0), 0, 0, 0, 0, []),
  (30, .istore 5, 2, true, (0), 5, 0, 0, 0, []),
  (32, .iload 5, 2, false, (0), 5, 0, 0, 0, []),
  (34, .ifCond .eq (22), 3, false, (0), 32, 0, 0, 0, []),
  (37, .aload_n 0, 1, false, (0), 0, 0, 0, 0, []),
  (38, .getfield 43, 3, false, (0), 1, 7, 0, 0, []),
  (41, .bipush (30), 2, false, (30), 0, 0, 0, 0, []),
  (43, .if_icmp .ge (13), 3, false, (0), 32, 0, 0, 0, []),
  (46, .aload_n 0, 1, false, (0), 0, 0, 0, 0, []),
  (47, .iload_n 1, 1, false, (0), 1, 0, 0, 0, []),
  (48, .iload_n 2, 1, false, (0), 2, 0, 0, 0, []),
  (49, .iload_n 3, 1, false, (0), 3, 0, 0, 0, []),
  (50, .iload 4, 2, false, (0), 4, 0, 0, 0, []),
  (52, .invokevirtual 39, 3, false, (0), 159, 1, 5, 0, [(0, 0)]),
  (55, .ireturn, 1, false, (0), 0, 0, 0, 0, []),
  (56, .aload_n 0, 1, true, (0), 0, 0, 0, 0, []),
  (57, .iload_n 1, 1, false, (0), 1, 0, 0, 0, []),
  (58, .iload_n 2, 1, false, (0), 2, 0, 0, 0, []),
  (59, .iload_n 3, 1, false, (0), 3, 0, 0, 0, []),
  (60, .iload 4, 2, false, (0), 4, 0, 0, 0, []),
  (62, .invokestatic 55, 3, false, (0), 163, 0, 4, 0, [(0, 0)]),
  (65, .iload_n 1, 1, false, (0), 1, 0, 0, 0, []),
  (66, .iload_n 2, 1, false, (0), 2, 0, 0, 0, []),
  (67, .iload_n 3, 1, false, (0), 3, 0, 0, 0, []),
  (68, .iload 4, 2, false, (0), 4, 0, 0, 0, []),
  (70, .invokevirtual 58, 3, false, (0), 161, 1, 6, 0, [(0, 0)]),
  (73, .ireturn, 1, false, (0), 0, 0, 0, 0, [])]
def f158 : sm_I := (⟨"TypedMill$Types", "keep", "(IIII)I"⟩, prog_8_method_10_code, 6, (some .int), 4, false, 1, c158)
def c151 : List sm_R := [
  (0, .iload_n 1, 1, false, (0), 1, 0, 0, 0, []),
  (1, .iconst (-1), 1, false, (-1), 0, 0, 0, 0, []),
  (2, .if_icmp .eq (11), 3, false, (0), 7, 0, 0, 0, []),
  (5, .aload_n 0, 1, false, (0), 0, 0, 0, 0, []),
  (6, .iload_n 1, 1, false, (0), 1, 0, 0, 0, []),
  (7, .invokevirtual 47, 3, false, (0), 150, 1, 2, 0, [(0, 0)]),
  (10, .ifCond .eq (33), 3, false, (0), 23, 0, 0, 0, []),
  (13, .iload_n 2, 1, true, (0), 2, 0, 0, 0, []),
  (14, .iconst (-1), 1, false, (-1), 0, 0, 0, 0, []),
  (15, .if_icmp .eq (11), 3, false, (0), 14, 0, 0, 0, []),
  (18, .aload_n 0, 1, false, (0), 0, 0, 0, 0, []),
  (19, .iload_n 2, 1, false, (0), 2, 0, 0, 0, []),
  (20, .invokevirtual 47, 3, false, (0), 150, 1, 2, 0, [(0, 0)]),
  (23, .ifCond .eq (20), 3, false, (0), 23, 0, 0, 0, []),
  (26, .iload_n 3, 1, true, (0), 3, 0, 0, 0, []),
  (27, .iconst (-1), 1, false, (-1), 0, 0, 0, 0, []),
  (28, .if_icmp .eq (11), 3, false, (0), 21, 0, 0, 0, []),
  (31, .aload_n 0, 1, false, (0), 0, 0, 0, 0, []),
  (32, .iload_n 3, 1, false, (0), 3, 0, 0, 0, []),
  (33, .invokevirtual 47, 3, false, (0), 150, 1, 2, 0, [(0, 0)]),
  (36, .ifCond .eq (7), 3, false, (0), 23, 0, 0, 0, []),
  (39, .iconst (1), 1, true, (1), 0, 0, 0, 0, []),
  (40, .goto (4), 3, false, (0), 24, 0, 0, 0, []),
  (43, .iconst (0), 1, true, (0), 0, 0, 0, 0, []),
  (44, .ireturn, 1, true, (0), 0, 0, 0, 0, [])]
def f151 : sm_I := (⟨"TypedMill$Types", "canAsk", "(III)Z"⟩, prog_8_method_3_code, 4, (some .boolean), 3, false, 1, c151)
def c0 : List sm_R := [
  (0, .iload_n 1, 1, false, (0), 1, 0, 0, 0, []),
  (1, .tableswitch (127) (1) (4) #[(31), (31), (69), (96)], 31, false, (0), 54, 0, 0, 0, [((1), 2), ((2), 2), ((3), 22), ((4), 37)]),
  (32, .aload_n 0, 1, true, (0), 0, 0, 0, 0, []),
  (33, .getfield 10, 3, false, (0), 0, 0, 0, 0, []),
  (36, .iload_n 2, 1, false, (0), 2, 0, 0, 0, []),
  (37, .invokevirtual 78, 3, false, (0), 150, 1, 2, 0, [(0, 0)]),
  (40, .ifCond .eq (28), 3, false, (0), 20, 0, 0, 0, []),
  (43, .aload_n 0, 1, false, (0), 0, 0, 0, 0, []),
  (44, .getfield 10, 3, false, (0), 0, 0, 0, 0, []),
  (47, .iload_n 3, 1, false, (0), 3, 0, 0, 0, []),
  (48, .invokevirtual 78, 3, false, (0), 150, 1, 2, 0, [(0, 0)]),
  (51, .ifCond .eq (17), 3, false, (0), 20, 0, 0, 0, []),
  (54, .aload_n 0, 1, false, (0), 0, 0, 0, 0, []),
  (55, .getfield 10, 3, false, (0), 0, 0, 0, 0, []),
  (58, .iload_n 1, 1, false, (0), 1, 0, 0, 0, []),
  (59, .iload_n 2, 1, false, (0), 2, 0, 0, 0, []),
  (60, .iload_n 3, 1, false, (0), 3, 0, 0, 0, []),
  (61, .iconst (-1), 1, false, (-1), 0, 0, 0, 0, []),
  (62, .invokevirtual 82, 3, false, (0), 158, 1, 5, 0, [(0, 0)]),
  (65, .goto (4), 3, false, (0), 21, 0, 0, 0, []),
  (68, .iconst (-1), 1, true, (-1), 0, 0, 0, 0, []),
  (69, .ireturn, 1, true, (0), 0, 0, 0, 0, []),
  (70, .aload_n 0, 1, false, (0), 0, 0, 0, 0, []),
  (71, .getfield 10, 3, false, (0), 0, 0, 0, 0, []),
  (74, .iload_n 2, 1, false, (0), 2, 0, 0, 0, []),
  (75, .invokevirtual 78, 3, false, (0), 150, 1, 2, 0, [(0, 0)]),
  (78, .ifCond .eq (17), 3, false, (0), 35, 0, 0, 0, []),
  (81, .aload_n 0, 1, false, (0), 0, 0, 0, 0, []),
  (82, .getfield 10, 3, false, (0), 0, 0, 0, 0, []),
  (85, .iload_n 1, 1, false, (0), 1, 0, 0, 0, []),
  (86, .iload_n 2, 1, false, (0), 2, 0, 0, 0, []),
  (87, .iconst (-1), 1, false, (-1), 0, 0, 0, 0, []),
  (88, .iconst (-1), 1, false, (-1), 0, 0, 0, 0, []),
  (89, .invokevirtual 82, 3, false, (0), 158, 1, 5, 0, [(0, 0)]),
  (92, .goto (4), 3, false, (0), 36, 0, 0, 0, []),
  (95, .iconst (-1), 1, false, (-1), 0, 0, 0, 0, []),
  (96, .ireturn, 1, true, (0), 0, 0, 0, 0, []),
  (97, .aload_n 0, 1, false, (0), 0, 0, 0, 0, []),
  (98, .getfield 10, 3, false, (0), 0, 0, 0, 0, []),
  (101, .iload_n 2, 1, false, (0), 2, 0, 0, 0, []),
  (102, .iload_n 3, 1, false, (0), 3, 0, 0, 0, []),
  (103, .iload 4, 2, false, (0), 4, 0, 0, 0, []),
  (105, .invokevirtual 86, 3, false, (0), 151, 1, 4, 0, [(0, 0)]),
  (108, .ifCond .eq (18), 3, false, (0), 52, 0, 0, 0, []),
  (111, .aload_n 0, 1, false, (0), 0, 0, 0, 0, []),
  (112, .getfield 10, 3, false, (0), 0, 0, 0, 0, []),
  (115, .iload_n 1, 1, false, (0), 1, 0, 0, 0, []),
  (116, .iload_n 2, 1, false, (0), 2, 0, 0, 0, []),
  (117, .iload_n 3, 1, false, (0), 3, 0, 0, 0, []),
  (118, .iload 4, 2, false, (0), 4, 0, 0, 0, []),
  (120, .invokevirtual 82, 3, false, (0), 158, 1, 5, 0, [(0, 0)]),
  (123, .goto (4), 3, false, (0), 53, 0, 0, 0, []),
  (126, .iconst (-1), 1, false, (-1), 0, 0, 0, 0, []),
  (127, .ireturn, 1, true, (0), 0, 0, 0, 0, []),
  (128, .iconst (-1), 1, false, (-1), 0, 0, 0, 0, []),
  (129, .ireturn, 1, false, (0), 0, 0, 0, 0, [])]
def f0 : sm_I := (⟨"TypedMill", "type", "(IIII)I"⟩, prog_1_method_2_code, 5, (some .int), 4, false, 0, c0)
def c1 : List sm_R := [
  (0, .aload_n 0, 1, false, (0), 0, 0, 0, 0, []),
  (1, .getfield 10, 3, false, (0), 0, 0, 0, 0, []),
  (4, .iload_n 1, 1, false, (0), 1, 0, 0, 0, []),
  (5, .invokevirtual 78, 3, false, (0), 150, 1, 2, 0, [(0, 0)]),
  (8, .ifCond .eq (14), 3, false, (0), 10, 0, 0, 0, []),
  (11, .aload_n 0, 1, false, (0), 0, 0, 0, 0, []),
  (12, .getfield 10, 3, false, (0), 0, 0, 0, 0, []),
  (15, .iload_n 1, 1, false, (0), 1, 0, 0, 0, []),
  (16, .invokevirtual 90, 3, false, (0), 156, 1, 2, 0, [(0, 0)]),
  (19, .goto (4), 3, false, (0), 11, 0, 0, 0, []),
  (22, .iconst (-1), 1, false, (-1), 0, 0, 0, 0, []),
  (23, .ireturn, 1, true, (0), 0, 0, 0, 0, [])]
def f1 : sm_I := (⟨"TypedMill", "size", "(I)I"⟩, prog_1_method_3_code, 2, (some .int), 1, false, 0, c1)
def c152 : List sm_R := [
  (0, .aload_n 0, 1, false, (0), 0, 0, 0, 0, []),
  (1, .iload_n 1, 1, false, (0), 1, 0, 0, 0, []),
  (2, .invokevirtual 47, 3, false, (0), 150, 1, 2, 0, [(0, 0)]),
  (5, .ifCond .eq (12), 3, false, (0), 9, 0, 0, 0, []),
  (8, .aload_n 0, 1, false, (0), 0, 0, 0, 0, []),
  (9, .getfield 11, 3, false, (0), 1, 0, 0, 0, []),
  (12, .iload_n 1, 1, false, (0), 1, 0, 0, 0, []),
  (13, .iaload, 1, false, (0), 0, 0, 0, 0, []),
  (14, .goto (4), 3, false, (0), 10, 0, 0, 0, []),
  (17, .iconst (-1), 1, false, (-1), 0, 0, 0, 0, []),
  (18, .ireturn, 1, true, (0), 0, 0, 0, 0, [])]
def f152 : sm_I := (⟨"TypedMill$Types", "kindOf", "(I)I"⟩, prog_8_method_4_code, 2, (some .int), 1, false, 1, c152)
def c135 : List sm_R := [
  (0, .iload_n 1, 1, false, (0), 1, 0, 0, 0, []),
  (1, .ifCond .lt (15), 3, false, (0), 8, 0, 0, 0, []),
  (4, .iload_n 1, 1, false, (0), 1, 0, 0, 0, []),
  (5, .aload_n 0, 1, false, (0), 0, 0, 0, 0, []),
  (6, .getfield 30, 3, false, (0), 2, 6, 0, 0, []),
  (9, .if_icmp .ge (7), 3, false, (0), 8, 0, 0, 0, []),
  (12, .iconst (1), 1, false, (1), 0, 0, 0, 0, []),
  (13, .goto (4), 3, false, (0), 9, 0, 0, 0, []),
  (16, .iconst (0), 1, true, (0), 0, 0, 0, 0, []),
  (17, .ireturn, 1, true, (0), 0, 0, 0, 0, [])]
def f135 : sm_I := (⟨"TypedMill$Expressions", "has", "(I)Z"⟩, prog_6_method_2_code, 2, (some .boolean), 1, false, 2, c135)
def c172 : List sm_R := [
  (0, .iload_n 0, 1, false, (0), 0, 0, 0, 0, []),
  (1, .iload_n 1, 1, false, (0), 1, 0, 0, 0, []),
  (2, .if_icmp .lt (7), 3, false, (0), 5, 0, 0, 0, []),
  (5, .iload_n 0, 1, false, (0), 0, 0, 0, 0, []),
  (6, .goto (4), 3, false, (0), 6, 0, 0, 0, []),
  (9, .iload_n 1, 1, false, (0), 1, 0, 0, 0, []),
  (10, .ireturn, 1, true, (0), 0, 0, 0, 0, [])]
def f172 : sm_I := (⟨"java/lang/Math", "max", "(II)I"⟩, prog_15_method_65_code, 2, (some .int), 2, true, 10, c172)
def c137 : List sm_R := [
  (0, .iconst (0), 1, false, (0), 0, 0, 0, 0, []),
  (1, .istore 5, 2, false, (0), 5, 0, 0, 0, []),
  (3, .iconst (0), 1, false, (0), 0, 0, 0, 0, []),
  (4, .istore 6, 2, false, (0), 6, 0, 0, 0, []),
  (6, .iload 6, 2, true, (0), 6, 0, 0, 0, []),
  (8, .iload_n 1, 1, false, (0), 1, 0, 0, 0, []),
  (9, .if_icmp .ge (57), 3, false, (0), 33, 0, 0, 0, []),
  (12, .iload 6, 2, false, (0), 6, 0, 0, 0, []),
  (14, .ifCond .ne (7), 3, false, (0), 11, 0, 0, 0, []),
  (17, .iload_n 2, 1, false, (0), 2, 0, 0, 0, []),
  (18, .goto (15), 3, false, (0), 17, 0, 0, 0, []),
  (21, .iload 6, 2, false, (0), 6, 0, 0, 0, []),
  (23, .iconst (1), 1, false, (1), 0, 0, 0, 0, []),
  (24, .if_icmp .ne (7), 3, false, (0), 16, 0, 0, 0, []),
  (27, .iload_n 3, 1, false, (0), 3, 0, 0, 0, []),
  (28, .goto (5), 3, false, (0), 17, 0, 0, 0, []),
  (31, .iload 4, 2, false, (0), 4, 0, 0, 0, []),
  (33, .istore 7, 2, true, (0), 7, 0, 0, 0, []),
  (35, .aload_n 0, 1, false, (0), 0, 0, 0, 0, []),
  (36, .iload 7, 2, false, (0), 7, 0, 0, 0, []),
  (38, .invokevirtual 41, 3, false, (0), 135, 2, 2, 0, [(0, 0)]),
  (41, .ifCond .ne (5), 3, false, (0), 24, 0, 0, 0, []),
  (44, .iconst (-1), 1, false, (-1), 0, 0, 0, 0, []),
  (45, .ireturn, 1, false, (0), 0, 0, 0, 0, []),
  (46, .iload 5, 2, false, (0), 5, 0, 0, 0, []),
  (48, .aload_n 0, 1, false, (0), 0, 0, 0, 0, []),
  (49, .getfield 27, 3, false, (0), 2, 5, 0, 0, []),
  (52, .iload 7, 2, false, (0), 7, 0, 0, 0, []),
  (54, .iaload, 1, false, (0), 0, 0, 0, 0, []),
  (55, .invokestatic 45, 3, false, (0), 172, 0, 2, 0, [(0, 0)]),
  (58, .istore 5, 2, false, (0), 5, 0, 0, 0, []),
  (60, .iinc 6 (1), 3, false, (1), 6, 0, 0, 0, []),
  (63, .goto (-57), 3, false, (0), 4, 0, 0, 0, []),
  (66, .iload 5, 2, false, (0), 5, 0, 0, 0, []),
  (68, .iconst (1), 1, false, (1), 0, 0, 0, 0, []),
  (69, .iadd, 1, false, (0), 0, 0, 0, 0, []),
  (70, .ireturn, 1, false, (0), 0, 0, 0, 0, [])]
def f137 : sm_I := (⟨"TypedMill$Expressions", "heightOver", "(IIII)I"⟩, prog_6_method_4_code, 8, (some .int), 4, false, 2, c137)
def c136 : List sm_R := [
  (0, .aload_n 0, 1, false, (0), 0, 0, 0, 0, []),
  (1, .getfield 30, 3, false, (0), 2, 6, 0, 0, []),
  (4, .bipush (40), 2, false, (40), 0, 0, 0, 0, []),
  (6, .if_icmp .eq (13), 3, false, (0), 9, 0, 0, 0, []),
  (9, .iload_n 1, 1, false, (0), 1, 0, 0, 0, []),
  (10, .ifCond .lt (9), 3, false, (0), 9, 0, 0, 0, []),
  (13, .iload_n 1, 1, false, (0), 1, 0, 0, 0, []),
  (14, .bipush (10), 2, false, (10), 0, 0, 0, 0, []),
  (16, .if_icmp .le (5), 3, false, (0), 11, 0, 0, 0, []),
  (19, .iconst (-1), 1, true, (-1), 0, 0, 0, 0, []),
  (20, .ireturn, 1, false, (0), 0, 0, 0, 0, []),
  (21, .iload_n 1, 1, false, (0), 1, 0, 0, 0, []),
  (22, .iconst (1), 1, false, (1), 0, 0, 0, 0, []),
  (23, .if_icmp .ne (15), 3, false, (0), 21, 0, 0, 0, []),
  (26, .iload_n 2, 1, false, (0), 2, 0, 0, 0, []),
  (27, .ifCond .lt (9), 3, false, (0), 19, 0, 0, 0, []),
  (30, .iload_n 2, 1, false, (0), 2, 0, 0, 0, []),
  (31, .bipush (20), 2, false, (20), 0, 0, 0, 0, []),
  (33, .if_icmp .le (5), 3, false, (0), 21, 0, 0, 0, []),
  (36, .iconst (-1), 1, true, (-1), 0, 0, 0, 0, []),
  (37, .ireturn, 1, false, (0), 0, 0, 0, 0, []),
  (38, .aload_n 0, 1, true, (0), 0, 0, 0, 0, []),
  (39, .getstatic 34, 3, false, (0), 1001, 0, 0, 0, []),
  (42, .iload_n 1, 1, false, (0), 1, 0, 0, 0, []),
  (43, .iaload, 1, false, (0), 0, 0, 0, 0, []),
  (44, .iload_n 3, 1, false, (0), 3, 0, 0, 0, []),
  (45, .iload 4, 2, false, (0), 4, 0, 0, 0, []),
  (47, .iload 5, 2, false, (0), 5, 0, 0, 0, []),
  (49, .invokevirtual 37, 3, false, (0), 137, 2, 5, 0, [(0, 0)]),
  (52, .istore 6, 2, false, (0), 6, 0, 0, 0, []),
  (54, .iload 6, 2, false, (0), 6, 0, 0, 0, []),
  (56, .iconst (-1), 1, false, (-1), 0, 0, 0, 0, []),
  (57, .if_icmp .eq (10), 3, false, (0), 36, 0, 0, 0, []),
  (60, .iload 6, 2, false, (0), 6, 0, 0, 0, []),
  (62, .bipush (8), 2, false, (8), 0, 0, 0, 0, []),
  (64, .if_icmp .le (5), 3, false, (0), 38, 0, 0, 0, []),
  (67, .iconst (-1), 1, true, (-1), 0, 0, 0, 0, []),
  (68, .ireturn, 1, false, (0), 0, 0, 0, 0, []),
  (69, .aload_n 0, 1, false, (0), 0, 0, 0, 0, []),
  (70, .getfield 11, 3, false, (0), 2, 0, 0, 0, []),
  (73, .aload_n 0, 1, false, (0), 0, 0, 0, 0, []),
  (74, .getfield 30, 3, false, (0), 2, 6, 0, 0, []),
  (77, .iload_n 1, 1, false, (0), 1, 0, 0, 0, []),
  (78, .iastore, 1, false, (0), 0, 0, 0, 0, []),
  (79, .aload_n 0, 1, false, (0), 0, 0, 0, 0, []),
  (80, .getfield 15, 3, false, (0), 2, 1, 0, 0, []),
  (83, .aload_n 0, 1, false, (0), 0, 0, 0, 0, []),
  (84, .getfield 30, 3, false, (0), 2, 6, 0, 0, []),
  (87, .iload_n 2, 1, false, (0), 2, 0, 0, 0, []),
  (88, .iastore, 1, false, (0), 0, 0, 0, 0, []),
  (89, .aload_n 0, 1, false, (0), 0, 0, 0, 0, []),
  (90, .getfield 18, 3, false, (0), 2, 2, 0, 0, []),
  (93, .aload_n 0, 1, false, (0), 0, 0, 0, 0, []),
  (94, .getfield 30, 3, false, (0), 2, 6, 0, 0, []),
  (97, .iload_n 3, 1, false, (0), 3, 0, 0, 0, []),
  (98, .iastore, 1, false, (0), 0, 0, 0, 0, []),
  (99, .aload_n 0, 1, false, (0), 0, 0, 0, 0, []),
  (100, .getfield 21, 3, false, (0), 2, 3, 0, 0, []),
  (103, .aload_n 0, 1, false, (0), 0, 0, 0, 0, []),
  (104, .getfield 30, 3, false, (0), 2, 6, 0, 0, []),
  (107, .iload 4, 2, false, (0), 4, 0, 0, 0, []),
  (109, .iastore, 1, false, (0), 0, 0, 0, 0, []),
  (110, .aload_n 0, 1, false, (0), 0, 0, 0, 0, []),
  (111, .getfield 24, 3, false, (0), 2, 4, 0, 0, []),
  (114, .aload_n 0, 1, false, (0), 0, 0, 0, 0, []),
  (115, .getfield 30, 3, false, (0), 2, 6, 0, 0, []),
  (118, .iload 5, 2, false, (0), 5, 0, 0, 0, []),
  (120, .iastore, 1, false, (0), 0, 0, 0, 0, []),
  (121, .aload_n 0, 1, false, (0), 0, 0, 0, 0, []),
  (122, .getfield 27, 3, false, (0), 2, 5, 0, 0, []),
  (125, .aload_n 0, 1, false, (0), 0, 0, 0, 0, []),
  (126, .getfield 30, 3, false, (0), 2, 6, 0, 0, []),
  (129, .iload 6, 2, false, (0), 6, 0, 0, 0, []),
  (131, .iastore, 1, false, (0), 0, 0, 0, 0, []),
  (132, .aload_n 0, 1, false, (0), 0, 0, 0, 0, []),
  (133, .dup, 1, false, (0), 0, 0, 0, 0, []),
  (134, .getfield 30, 3, false, (0), 2, 6, 0, 0, []),
  (137, .iconst (1), 1, false, (1), 0, 0, 0, 0, []),
  (138, .iadd, 1, false, (0), 0, 0, 0, 0, []),
  (139, .putfield 30, 3, false, (0), 2, 6, 0, 0, []),
  (142, .aload_n 0, 1, false, (0), 0, 0, 0, 0, []),
  (143, .getfield 30, 3, false, (0), 2, 6, 0, 0, []),
  (146, .iconst (1), 1, false, (1), 0, 0, 0, 0, []),
  (147, .isub, 1, false, (0), 0, 0, 0, 0, []),
  (148, .ireturn, 1, false, (0), 0, 0, 0, 0, [])]
def f136 : sm_I := (⟨"TypedMill$Expressions", "keep", "(IIIII)I"⟩, prog_6_method_3_code, 7, (some .int), 5, false, 2, c136)
def c2 : List sm_R := [
  (0, .iload_n 1, 1, false, (0), 1, 0, 0, 0, []),
  (1, .bipush (6), 2, false, (6), 0, 0, 0, 0, []),
  (3, .if_icmp .ne (17), 3, false, (0), 11, 0, 0, 0, []),
  (6, .aload_n 0, 1, false, (0), 0, 0, 0, 0, []),
  (7, .getfield 10, 3, false, (0), 0, 0, 0, 0, []),
  (10, .iload_n 2, 1, false, (0), 2, 0, 0, 0, []),
  (11, .invokevirtual 94, 3, false, (0), 152, 1, 2, 0, [(0, 0)]),
  (14, .iconst (2), 1, false, (2), 0, 0, 0, 0, []),
  (15, .if_icmp .eq (5), 3, false, (0), 11, 0, 0, 0, []),
  (18, .iconst (-1), 1, false, (-1), 0, 0, 0, 0, []),
  (19, .ireturn, 1, false, (0), 0, 0, 0, 0, []),
  (20, .aload_n 0, 1, true, (0), 0, 0, 0, 0, []),
  (21, .getfield 19, 3, false, (0), 0, 1, 0, 0, []),
  (24, .iload_n 1, 1, false, (0), 1, 0, 0, 0, []),
  (25, .iload_n 2, 1, false, (0), 2, 0, 0, 0, []),
  (26, .iload_n 3, 1, false, (0), 3, 0, 0, 0, []),
  (27, .iload 4, 2, false, (0), 4, 0, 0, 0, []),
  (29, .iload 5, 2, false, (0), 5, 0, 0, 0, []),
  (31, .invokevirtual 97, 3, false, (0), 136, 2, 6, 0, [(0, 0)]),
  (34, .ireturn, 1, false, (0), 0, 0, 0, 0, [])]
def f2 : sm_I := (⟨"TypedMill", "make", "(IIIII)I"⟩, prog_1_method_4_code, 6, (some .int), 5, false, 0, c2)
def c167 : List sm_R := [
  (0, .aload_n 0, 1, false, (0), 0, 0, 0, 0, []),
  (1, .aload_n 0, 1, false, (0), 0, 0, 0, 0, []),
  (2, .getfield 21, 3, false, (0), 3, 1, 0, 0, []),
  (5, .getfield 59, 3, false, (0), 2, 2, 0, 0, []),
  (8, .iload_n 1, 1, false, (0), 1, 0, 0, 0, []),
  (9, .iaload, 1, false, (0), 0, 0, 0, 0, []),
  (10, .invokevirtual 29, 3, false, (0), 165, 3, 2, 0, [(0, 0)]),
  (13, .ifCond .eq (5), 3, false, (0), 10, 0, 0, 0, []),
  (16, .iconst (-1), 1, false, (-1), 0, 0, 0, 0, []),
  (17, .ireturn, 1, false, (0), 0, 0, 0, 0, []),
  (18, .aload_n 0, 1, false, (0), 0, 0, 0, 0, []),
  (19, .aload_n 0, 1, false, (0), 0, 0, 0, 0, []),
  (20, .getfield 21, 3, false, (0), 3, 1, 0, 0, []),
  (23, .getfield 62, 3, false, (0), 2, 3, 0, 0, []),
  (26, .iload_n 1, 1, false, (0), 1, 0, 0, 0, []),
  (27, .iaload, 1, false, (0), 0, 0, 0, 0, []),
  (28, .invokevirtual 29, 3, false, (0), 165, 3, 2, 0, [(0, 0)]),
  (31, .istore_n 2, 1, false, (0), 2, 0, 0, 0, []),
  (32, .iload_n 2, 1, false, (0), 2, 0, 0, 0, []),
  (33, .iconst (-1), 1, false, (-1), 0, 0, 0, 0, []),
  (34, .if_icmp .eq (24), 3, false, (0), 32, 0, 0, 0, []),
  (37, .aload_n 0, 1, false, (0), 0, 0, 0, 0, []),
  (38, .aload_n 0, 1, false, (0), 0, 0, 0, 0, []),
  (39, .getfield 21, 3, false, (0), 3, 1, 0, 0, []),
  (42, .getfield 65, 3, false, (0), 2, 4, 0, 0, []),
  (45, .iload_n 1, 1, false, (0), 1, 0, 0, 0, []),
  (46, .iaload, 1, false, (0), 0, 0, 0, 0, []),
  (47, .invokevirtual 29, 3, false, (0), 165, 3, 2, 0, [(0, 0)]),
  (50, .iload_n 2, 1, false, (0), 2, 0, 0, 0, []),
  (51, .if_icmp .ne (7), 3, false, (0), 32, 0, 0, 0, []),
  (54, .iload_n 2, 1, false, (0), 2, 0, 0, 0, []),
  (55, .goto (4), 3, false, (0), 33, 0, 0, 0, []),
  (58, .iconst (-1), 1, true, (-1), 0, 0, 0, 0, []),
  (59, .ireturn, 1, true, (0), 0, 0, 0, 0, [])]
def f167 : sm_I := (⟨"TypedMill$Typing", "ofChoice", "(I)I"⟩, prog_9_method_5_code, 3, (some .int), 1, false, 3, c167)
def c153 : List sm_R := [
  (0, .aload_n 0, 1, false, (0), 0, 0, 0, 0, []),
  (1, .iload_n 1, 1, false, (0), 1, 0, 0, 0, []),
  (2, .invokevirtual 47, 3, false, (0), 150, 1, 2, 0, [(0, 0)]),
  (5, .ifCond .eq (12), 3, false, (0), 9, 0, 0, 0, []),
  (8, .aload_n 0, 1, false, (0), 0, 0, 0, 0, []),
  (9, .getfield 15, 3, false, (0), 1, 1, 0, 0, []),
  (12, .iload_n 1, 1, false, (0), 1, 0, 0, 0, []),
  (13, .iaload, 1, false, (0), 0, 0, 0, 0, []),
  (14, .goto (4), 3, false, (0), 10, 0, 0, 0, []),
  (17, .iconst (-1), 1, false, (-1), 0, 0, 0, 0, []),
  (18, .ireturn, 1, true, (0), 0, 0, 0, 0, [])]
def f153 : sm_I := (⟨"TypedMill$Types", "firstOf", "(I)I"⟩, prog_8_method_5_code, 2, (some .int), 1, false, 1, c153)
def c154 : List sm_R := [
  (0, .aload_n 0, 1, false, (0), 0, 0, 0, 0, []),
  (1, .iload_n 1, 1, false, (0), 1, 0, 0, 0, []),
  (2, .invokevirtual 47, 3, false, (0), 150, 1, 2, 0, [(0, 0)]),
  (5, .ifCond .eq (12), 3, false, (0), 9, 0, 0, 0, []),
  (8, .aload_n 0, 1, false, (0), 0, 0, 0, 0, []),
  (9, .getfield 18, 3, false, (0), 1, 2, 0, 0, []),
  (12, .iload_n 1, 1, false, (0), 1, 0, 0, 0, []),
  (13, .iaload, 1, false, (0), 0, 0, 0, 0, []),
  (14, .goto (4), 3, false, (0), 10, 0, 0, 0, []),
  (17, .iconst (-1), 1, false, (-1), 0, 0, 0, 0, []),
  (18, .ireturn, 1, true, (0), 0, 0, 0, 0, [])]
def f154 : sm_I := (⟨"TypedMill$Types", "secondOf", "(I)I"⟩, prog_8_method_6_code, 2, (some .int), 1, false, 1, c154)
def c168 : List sm_R := [
  (0, .aload_n 0, 1, false, (0), 0, 0, 0, 0, []),
  (1, .getfield 25, 3, false, (0), 3, 3, 0, 0, []),
  (4, .iconst (2), 1, false, (2), 0, 0, 0, 0, []),
  (5, .iadd, 1, false, (0), 0, 0, 0, 0, []),
  (6, .aload_n 0, 1, false, (0), 0, 0, 0, 0, []),
  (7, .getfield 11, 3, false, (0), 3, 2, 0, 0, []),
  (10, .arraylength, 1, false, (0), 0, 0, 0, 0, []),
  (11, .if_icmp .le (5), 3, false, (0), 10, 0, 0, 0, []),
  (14, .iconst (-1), 1, false, (-1), 0, 0, 0, 0, []),
  (15, .ireturn, 1, false, (0), 0, 0, 0, 0, []),
  (16, .aload_n 0, 1, false, (0), 0, 0, 0, 0, []),
  (17, .getfield 21, 3, false, (0), 3, 1, 0, 0, []),
  (20, .getfield 38, 3, false, (0), 2, 1, 0, 0, []),
  (23, .iload_n 1, 1, false, (0), 1, 0, 0, 0, []),
  (24, .iaload, 1, false, (0), 0, 0, 0, 0, []),
  (25, .istore_n 2, 1, false, (0), 2, 0, 0, 0, []),
  (26, .aload_n 0, 1, false, (0), 0, 0, 0, 0, []),
  (27, .getfield 11, 3, false, (0), 3, 2, 0, 0, []),
  (30, .aload_n 0, 1, false, (0), 0, 0, 0, 0, []),
  (31, .getfield 25, 3, false, (0), 3, 3, 0, 0, []),
  (34, .iload_n 2, 1, false, (0), 2, 0, 0, 0, []),
  (35, .iastore, 1, false, (0), 0, 0, 0, 0, []),
  (36, .aload_n 0, 1, false, (0), 0, 0, 0, 0, []),
  (37, .getfield 11, 3, false, (0), 3, 2, 0, 0, []),
  (40, .aload_n 0, 1, false, (0), 0, 0, 0, 0, []),
  (41, .getfield 25, 3, false, (0), 3, 3, 0, 0, []),
  (44, .iconst (1), 1, false, (1), 0, 0, 0, 0, []),
  (45, .iadd, 1, false, (0), 0, 0, 0, 0, []),
  (46, .aload_n 0, 1, false, (0), 0, 0, 0, 0, []),
  (47, .getfield 17, 3, false, (0), 3, 0, 0, 0, []),
  (50, .iload_n 2, 1, false, (0), 2, 0, 0, 0, []),
  (51, .invokevirtual 68, 3, false, (0), 153, 1, 2, 0, [(0, 0)]),
  (54, .iastore, 1, false, (0), 0, 0, 0, 0, []),
  (55, .aload_n 0, 1, false, (0), 0, 0, 0, 0, []),
  (56, .dup, 1, false, (0), 0, 0, 0, 0, []),
  (57, .getfield 25, 3, false, (0), 3, 3, 0, 0, []),
  (60, .iconst (2), 1, false, (2), 0, 0, 0, 0, []),
  (61, .iadd, 1, false, (0), 0, 0, 0, 0, []),
  (62, .putfield 25, 3, false, (0), 3, 3, 0, 0, []),
  (65, .aload_n 0, 1, false, (0), 0, 0, 0, 0, []),
  (66, .aload_n 0, 1, false, (0), 0, 0, 0, 0, []),
  (67, .getfield 21, 3, false, (0), 3, 1, 0, 0, []),
  (70, .getfield 59, 3, false, (0), 2, 2, 0, 0, []),
  (73, .iload_n 1, 1, false, (0), 1, 0, 0, 0, []),
  (74, .iaload, 1, false, (0), 0, 0, 0, 0, []),
  (75, .invokevirtual 29, 3, false, (0), 165, 3, 2, 0, [(0, 0)]),
  (78, .istore_n 3, 1, false, (0), 3, 0, 0, 0, []),
  (79, .aload_n 0, 1, false, (0), 0, 0, 0, 0, []),
  (80, .dup, 1, false, (0), 0, 0, 0, 0, []),
  (81, .getfield 25, 3, false, (0), 3, 3, 0, 0, []),
  (84, .iconst (2), 1, false, (2), 0, 0, 0, 0, []),
  (85, .isub, 1, false, (0), 0, 0, 0, 0, []),
  (86, .putfield 25, 3, false, (0), 3, 3, 0, 0, []),
  (89, .iload_n 3, 1, false, (0), 3, 0, 0, 0, []),
  (90, .aload_n 0, 1, false, (0), 0, 0, 0, 0, []),
  (91, .getfield 17, 3, false, (0), 3, 0, 0, 0, []),
  (94, .iload_n 2, 1, false, (0), 2, 0, 0, 0, []),
  (95, .invokevirtual 71, 3, false, (0), 154, 1, 2, 0, [(0, 0)]),
  (98, .if_icmp .ne (7), 3, false, (0), 61, 0, 0, 0, []),
  (101, .iload_n 2, 1, false, (0), 2, 0, 0, 0, []),
  (102, .goto (4), 3, false, (0), 62, 0, 0, 0, []),
  (105, .iconst (-1), 1, false, (-1), 0, 0, 0, 0, []),
  (106, .ireturn, 1, true, (0), 0, 0, 0, 0, [])]
def f168 : sm_I := (⟨"TypedMill$Typing", "ofLambda", "(I)I"⟩, prog_9_method_6_code, 4, (some .int), 1, false, 3, c168)
def c169 : List sm_R := [
  (0, .aload_n 0, 1, false, (0), 0, 0, 0, 0, []),
  (1, .aload_n 0, 1, false, (0), 0, 0, 0, 0, []),
  (2, .getfield 21, 3, false, (0), 3, 1, 0, 0, []),
  (5, .getfield 59, 3, false, (0), 2, 2, 0, 0, []),
  (8, .iload_n 1, 1, false, (0), 1, 0, 0, 0, []),
  (9, .iaload, 1, false, (0), 0, 0, 0, 0, []),
  (10, .invokevirtual 29, 3, false, (0), 165, 3, 2, 0, [(0, 0)]),
  (13, .istore_n 2, 1, false, (0), 2, 0, 0, 0, []),
  (14, .aload_n 0, 1, false, (0), 0, 0, 0, 0, []),
  (15, .getfield 17, 3, false, (0), 3, 0, 0, 0, []),
  (18, .iload_n 2, 1, false, (0), 2, 0, 0, 0, []),
  (19, .invokevirtual 74, 3, false, (0), 152, 1, 2, 0, [(0, 0)]),
  (22, .iconst (2), 1, false, (2), 0, 0, 0, 0, []),
  (23, .if_icmp .eq (5), 3, false, (0), 16, 0, 0, 0, []),
  (26, .iconst (-1), 1, false, (-1), 0, 0, 0, 0, []),
  (27, .ireturn, 1, false, (0), 0, 0, 0, 0, []),
  (28, .aload_n 0, 1, false, (0), 0, 0, 0, 0, []),
  (29, .aload_n 0, 1, false, (0), 0, 0, 0, 0, []),
  (30, .getfield 21, 3, false, (0), 3, 1, 0, 0, []),
  (33, .getfield 62, 3, false, (0), 2, 3, 0, 0, []),
  (36, .iload_n 1, 1, false, (0), 1, 0, 0, 0, []),
  (37, .iaload, 1, false, (0), 0, 0, 0, 0, []),
  (38, .invokevirtual 29, 3, false, (0), 165, 3, 2, 0, [(0, 0)]),
  (41, .aload_n 0, 1, false, (0), 0, 0, 0, 0, []),
  (42, .getfield 17, 3, false, (0), 3, 0, 0, 0, []),
  (45, .iload_n 2, 1, false, (0), 2, 0, 0, 0, []),
  (46, .invokevirtual 68, 3, false, (0), 153, 1, 2, 0, [(0, 0)]),
  (49, .if_icmp .ne (14), 3, false, (0), 33, 0, 0, 0, []),
  (52, .aload_n 0, 1, false, (0), 0, 0, 0, 0, []),
  (53, .getfield 17, 3, false, (0), 3, 0, 0, 0, []),
  (56, .iload_n 2, 1, false, (0), 2, 0, 0, 0, []),
  (57, .invokevirtual 71, 3, false, (0), 154, 1, 2, 0, [(0, 0)]),
  (60, .goto (4), 3, false, (0), 34, 0, 0, 0, []),
  (63, .iconst (-1), 1, false, (-1), 0, 0, 0, 0, []),
  (64, .ireturn, 1, true, (0), 0, 0, 0, 0, [])]
def f169 : sm_I := (⟨"TypedMill$Typing", "ofCall", "(I)I"⟩, prog_9_method_7_code, 3, (some .int), 1, false, 3, c169)
def c170 : List sm_R := [
  (0, .aload_n 0, 1, false, (0), 0, 0, 0, 0, []),
  (1, .aload_n 0, 1, false, (0), 0, 0, 0, 0, []),
  (2, .getfield 21, 3, false, (0), 3, 1, 0, 0, []),
  (5, .getfield 59, 3, false, (0), 2, 2, 0, 0, []),
  (8, .iload_n 1, 1, false, (0), 1, 0, 0, 0, []),
  (9, .iaload, 1, false, (0), 0, 0, 0, 0, []),
  (10, .invokevirtual 29, 3, false, (0), 165, 3, 2, 0, [(0, 0)]),
  (13, .istore_n 2, 1, false, (0), 2, 0, 0, 0, []),
  (14, .iload_n 2, 1, false, (0), 2, 0, 0, 0, []),
  (15, .iconst (-1), 1, false, (-1), 0, 0, 0, 0, []),
  (16, .if_icmp .ne (5), 3, false, (0), 13, 0, 0, 0, []),
  (19, .iconst (-1), 1, false, (-1), 0, 0, 0, 0, []),
  (20, .ireturn, 1, false, (0), 0, 0, 0, 0, []),
  (21, .aload_n 0, 1, false, (0), 0, 0, 0, 0, []),
  (22, .aload_n 0, 1, false, (0), 0, 0, 0, 0, []),
  (23, .getfield 21, 3, false, (0), 3, 1, 0, 0, []),
  (26, .getfield 62, 3, false, (0), 2, 3, 0, 0, []),
  (29, .iload_n 1, 1, false, (0), 1, 0, 0, 0, []),
  (30, .iaload, 1, false, (0), 0, 0, 0, 0, []),
  (31, .invokevirtual 29, 3, false, (0), 165, 3, 2, 0, [(0, 0)]),
  (34, .istore_n 3, 1, false, (0), 3, 0, 0, 0, []),
  (35, .iload_n 3, 1, false, (0), 3, 0, 0, 0, []),
  (36, .iconst (-1), 1, false, (-1), 0, 0, 0, 0, []),
  (37, .if_icmp .ne (7), 3, false, (0), 26, 0, 0, 0, []),
  (40, .iconst (-1), 1, false, (-1), 0, 0, 0, 0, []),
  (41, .goto (14), 3, false, (0), 33, 0, 0, 0, []),
  (44, .aload_n 0, 1, false, (0), 0, 0, 0, 0, []),
  (45, .getfield 17, 3, false, (0), 3, 0, 0, 0, []),
  (48, .iconst (1), 1, false, (1), 0, 0, 0, 0, []),
  (49, .iload_n 2, 1, false, (0), 2, 0, 0, 0, []),
  (50, .iload_n 3, 1, false, (0), 3, 0, 0, 0, []),
  (51, .iconst (-1), 1, false, (-1), 0, 0, 0, 0, []),
  (52, .invokevirtual 77, 3, false, (0), 159, 1, 5, 0, [(0, 0)]),
  (55, .ireturn, 1, true, (0), 0, 0, 0, 0, [])]
def f170 : sm_I := (⟨"TypedMill$Typing", "ofPair", "(I)I"⟩, prog_9_method_8_code, 4, (some .int), 1, false, 3, c170)
def c171 : List sm_R := [
  (0, .aload_n 0, 1, false, (0), 0, 0, 0, 0, []),
  (1, .aload_n 0, 1, false, (0), 0, 0, 0, 0, []),
  (2, .getfield 21, 3, false, (0), 3, 1, 0, 0, []),
  (5, .getfield 59, 3, false, (0), 2, 2, 0, 0, []),
  (8, .iload_n 1, 1, false, (0), 1, 0, 0, 0, []),
  (9, .iaload, 1, false, (0), 0, 0, 0, 0, []),
  (10, .invokevirtual 29, 3, false, (0), 165, 3, 2, 0, [(0, 0)]),
  (13, .istore_n 2, 1, false, (0), 2, 0, 0, 0, []),
  (14, .aload_n 0, 1, false, (0), 0, 0, 0, 0, []),
  (15, .getfield 17, 3, false, (0), 3, 0, 0, 0, []),
  (18, .iload_n 2, 1, false, (0), 2, 0, 0, 0, []),
  (19, .invokevirtual 74, 3, false, (0), 152, 1, 2, 0, [(0, 0)]),
  (22, .iconst (1), 1, false, (1), 0, 0, 0, 0, []),
  (23, .if_icmp .eq (5), 3, false, (0), 16, 0, 0, 0, []),
  (26, .iconst (-1), 1, false, (-1), 0, 0, 0, 0, []),
  (27, .ireturn, 1, false, (0), 0, 0, 0, 0, []),
  (28, .aload_n 0, 1, false, (0), 0, 0, 0, 0, []),
  (29, .getfield 21, 3, false, (0), 3, 1, 0, 0, []),
  (32, .getfield 33, 3, false, (0), 2, 0, 0, 0, []),
  (35, .iload_n 1, 1, false, (0), 1, 0, 0, 0, []),
  (36, .iaload, 1, false, (0), 0, 0, 0, 0, []),
  (37, .bipush (9), 2, false, (9), 0, 0, 0, 0, []),
  (39, .if_icmp .ne (14), 3, false, (0), 28, 0, 0, 0, []),
  (42, .aload_n 0, 1, false, (0), 0, 0, 0, 0, []),
  (43, .getfield 17, 3, false, (0), 3, 0, 0, 0, []),
  (46, .iload_n 2, 1, false, (0), 2, 0, 0, 0, []),
  (47, .invokevirtual 68, 3, false, (0), 153, 1, 2, 0, [(0, 0)]),
  (50, .goto (11), 3, false, (0), 32, 0, 0, 0, []),
  (53, .aload_n 0, 1, false, (0), 0, 0, 0, 0, []),
  (54, .getfield 17, 3, false, (0), 3, 0, 0, 0, []),
  (57, .iload_n 2, 1, false, (0), 2, 0, 0, 0, []),
  (58, .invokevirtual 71, 3, false, (0), 154, 1, 2, 0, [(0, 0)]),
  (61, .ireturn, 1, true, (0), 0, 0, 0, 0, [])]
def f171 : sm_I := (⟨"TypedMill$Typing", "ofPart", "(I)I"⟩, prog_9_method_9_code, 3, (some .int), 1, false, 3, c171)
def c166 : List sm_R := [
  (0, .aload_n 0, 1, false, (0), 0, 0, 0, 0, []),
  (1, .aload_n 0, 1, false, (0), 0, 0, 0, 0, []),
  (2, .getfield 21, 3, false, (0), 3, 1, 0, 0, []),
  (5, .getfield 59, 3, false, (0), 2, 2, 0, 0, []),
  (8, .iload_n 1, 1, false, (0), 1, 0, 0, 0, []),
  (9, .iaload, 1, false, (0), 0, 0, 0, 0, []),
  (10, .invokevirtual 29, 3, false, (0), 165, 3, 2, 0, [(0, 0)]),
  (13, .ifCond .ne (23), 3, false, (0), 18, 0, 0, 0, []),
  (16, .aload_n 0, 1, false, (0), 0, 0, 0, 0, []),
  (17, .aload_n 0, 1, false, (0), 0, 0, 0, 0, []),
  (18, .getfield 21, 3, false, (0), 3, 1, 0, 0, []),
  (21, .getfield 62, 3, false, (0), 2, 3, 0, 0, []),
  (24, .iload_n 1, 1, false, (0), 1, 0, 0, 0, []),
  (25, .iaload, 1, false, (0), 0, 0, 0, 0, []),
  (26, .invokevirtual 29, 3, false, (0), 165, 3, 2, 0, [(0, 0)]),
  (29, .ifCond .ne (7), 3, false, (0), 18, 0, 0, 0, []),
  (32, .iconst (1), 1, false, (1), 0, 0, 0, 0, []),
  (33, .goto (4), 3, false, (0), 19, 0, 0, 0, []),
  (36, .iconst (0), 1, true, (0), 0, 0, 0, 0, []),
  (37, .istore_n 2, 1, true, (0), 2, 0, 0, 0, []),
  (38, .iload_n 2, 1, false, (0), 2, 0, 0, 0, []),
  (39, .ifCond .eq (7), 3, false, (0), 24, 0, 0, 0, []),
  (42, .iconst (0), 1, false, (0), 0, 0, 0, 0, []),
  (43, .goto (4), 3, false, (0), 25, 0, 0, 0, []),
  (46, .iconst (-1), 1, false, (-1), 0, 0, 0, 0, []),
  (47, .ireturn, 1, true, (0), 0, 0, 0, 0, [])]
def f166 : sm_I := (⟨"TypedMill$Typing", "ofReckoning", "(I)I"⟩, prog_9_method_4_code, 3, (some .int), 1, false, 3, c166)
def c165 : List sm_R := [
  (0, .aload_n 0, 1, false, (0), 0, 0, 0, 0, []),
  (1, .getfield 21, 3, false, (0), 3, 1, 0, 0, []),
  (4, .getfield 33, 3, false, (0), 2, 0, 0, 0, []),
  (7, .iload_n 1, 1, false, (0), 1, 0, 0, 0, []),
  (8, .iaload, 1, false, (0), 0, 0, 0, 0, []),
  (9, .tableswitch (133) (0) (10) #[(59), (61), (133), (133), (133), (103), (109), (115), (121), (127), (127)], 59, false, (0), 52, 0, 0, 0, [((0), 6), ((1), 8), ((2), 52), ((3), 52), ((4), 52), ((5), 32), ((6), 36), ((7), 40), ((8), 44), ((9), 48), ((10), 48)]),
  (68, .iconst (0), 1, false, (0), 0, 0, 0, 0, []),
  (69, .ireturn, 1, false, (0), 0, 0, 0, 0, []),
  (70, .aload_n 0, 1, false, (0), 0, 0, 0, 0, []),
  (71, .getfield 21, 3, false, (0), 3, 1, 0, 0, []),
  (74, .getfield 38, 3, false, (0), 2, 1, 0, 0, []),
  (77, .iload_n 1, 1, false, (0), 1, 0, 0, 0, []),
  (78, .iaload, 1, false, (0), 0, 0, 0, 0, []),
  (79, .aload_n 0, 1, false, (0), 0, 0, 0, 0, []),
  (80, .getfield 25, 3, false, (0), 3, 3, 0, 0, []),
  (83, .if_icmp .ge (27), 3, false, (0), 30, 0, 0, 0, []),
  (86, .aload_n 0, 1, false, (0), 0, 0, 0, 0, []),
  (87, .getfield 11, 3, false, (0), 3, 2, 0, 0, []),
  (90, .aload_n 0, 1, false, (0), 0, 0, 0, 0, []),
  (91, .getfield 25, 3, false, (0), 3, 3, 0, 0, []),
  (94, .iconst (1), 1, false, (1), 0, 0, 0, 0, []),
  (95, .isub, 1, false, (0), 0, 0, 0, 0, []),
  (96, .aload_n 0, 1, false, (0), 0, 0, 0, 0, []),
  (97, .getfield 21, 3, false, (0), 3, 1, 0, 0, []),
  (100, .getfield 38, 3, false, (0), 2, 1, 0, 0, []),
  (103, .iload_n 1, 1, false, (0), 1, 0, 0, 0, []),
  (104, .iaload, 1, false, (0), 0, 0, 0, 0, []),
  (105, .isub, 1, false, (0), 0, 0, 0, 0, []),
  (106, .iaload, 1, false, (0), 0, 0, 0, 0, []),
  (107, .goto (4), 3, false, (0), 31, 0, 0, 0, []),
  (110, .iconst (-1), 1, false, (-1), 0, 0, 0, 0, []),
  (111, .ireturn, 1, true, (0), 0, 0, 0, 0, []),
  (112, .aload_n 0, 1, false, (0), 0, 0, 0, 0, []),
  (113, .iload_n 1, 1, false, (0), 1, 0, 0, 0, []),
  (114, .invokevirtual 41, 3, false, (0), 167, 3, 2, 0, [(0, 0)]),
  (117, .ireturn, 1, false, (0), 0, 0, 0, 0, []),
  (118, .aload_n 0, 1, false, (0), 0, 0, 0, 0, []),
  (119, .iload_n 1, 1, false, (0), 1, 0, 0, 0, []),
  (120, .invokevirtual 44, 3, false, (0), 168, 3, 2, 0, [(0, 0)]),
  (123, .ireturn, 1, false, (0), 0, 0, 0, 0, []),
  (124, .aload_n 0, 1, false, (0), 0, 0, 0, 0, []),
  (125, .iload_n 1, 1, false, (0), 1, 0, 0, 0, []),
  (126, .invokevirtual 47, 3, false, (0), 169, 3, 2, 0, [(0, 0)]),
  (129, .ireturn, 1, false, (0), 0, 0, 0, 0, []),
  (130, .aload_n 0, 1, false, (0), 0, 0, 0, 0, []),
  (131, .iload_n 1, 1, false, (0), 1, 0, 0, 0, []),
  (132, .invokevirtual 50, 3, false, (0), 170, 3, 2, 0, [(0, 0)]),
  (135, .ireturn, 1, false, (0), 0, 0, 0, 0, []),
  (136, .aload_n 0, 1, true, (0), 0, 0, 0, 0, []),
  (137, .iload_n 1, 1, false, (0), 1, 0, 0, 0, []),
  (138, .invokevirtual 53, 3, false, (0), 171, 3, 2, 0, [(0, 0)]),
  (141, .ireturn, 1, false, (0), 0, 0, 0, 0, []),
  (142, .aload_n 0, 1, true, (0), 0, 0, 0, 0, []),
  (143, .iload_n 1, 1, false, (0), 1, 0, 0, 0, []),
  (144, .invokevirtual 56, 3, false, (0), 166, 3, 2, 0, [(0, 0)]),
  (147, .ireturn, 1, false, (0), 0, 0, 0, 0, [])]
def f165 : sm_I := (⟨"TypedMill$Typing", "find", "(I)I"⟩, prog_9_method_3_code, 2, (some .int), 1, false, 3, c165)
def c164 : List sm_R := [
  (0, .aload_n 0, 1, false, (0), 0, 0, 0, 0, []),
  (1, .iconst (0), 1, false, (0), 0, 0, 0, 0, []),
  (2, .putfield 25, 3, false, (0), 3, 3, 0, 0, []),
  (5, .aload_n 0, 1, false, (0), 0, 0, 0, 0, []),
  (6, .iload_n 1, 1, false, (0), 1, 0, 0, 0, []),
  (7, .invokevirtual 29, 3, false, (0), 165, 3, 2, 0, [(0, 0)]),
  (10, .ireturn, 1, false, (0), 0, 0, 0, 0, [])]
def f164 : sm_I := (⟨"TypedMill$Typing", "typeWhereNothingIsBound", "(I)I"⟩, prog_9_method_2_code, 2, (some .int), 1, false, 3, c164)
def c160 : List sm_R := [
  (0, .aload_n 0, 1, true, (0), 0, 0, 0, 0, []),
  (1, .getfield 43, 3, false, (0), 1, 7, 0, 0, []),
  (4, .iload_n 1, 1, false, (0), 1, 0, 0, 0, []),
  (5, .if_icmp .le (69), 3, false, (0), 40, 0, 0, 0, []),
  (8, .aload_n 0, 1, false, (0), 0, 0, 0, 0, []),
  (9, .dup, 1, false, (0), 0, 0, 0, 0, []),
  (10, .getfield 43, 3, false, (0), 1, 7, 0, 0, []),
  (13, .iconst (1), 1, false, (1), 0, 0, 0, 0, []),
  (14, .isub, 1, false, (0), 0, 0, 0, 0, []),
  (15, .putfield 43, 3, false, (0), 1, 7, 0, 0, []),
  (18, .aload_n 0, 1, false, (0), 0, 0, 0, 0, []),
  (19, .getfield 27, 3, false, (0), 1, 5, 0, 0, []),
  (22, .aload_n 0, 1, false, (0), 0, 0, 0, 0, []),
  (23, .getfield 11, 3, false, (0), 1, 0, 0, 0, []),
  (26, .aload_n 0, 1, false, (0), 0, 0, 0, 0, []),
  (27, .getfield 43, 3, false, (0), 1, 7, 0, 0, []),
  (30, .iaload, 1, false, (0), 0, 0, 0, 0, []),
  (31, .aload_n 0, 1, false, (0), 0, 0, 0, 0, []),
  (32, .getfield 15, 3, false, (0), 1, 1, 0, 0, []),
  (35, .aload_n 0, 1, false, (0), 0, 0, 0, 0, []),
  (36, .getfield 43, 3, false, (0), 1, 7, 0, 0, []),
  (39, .iaload, 1, false, (0), 0, 0, 0, 0, []),
  (40, .aload_n 0, 1, false, (0), 0, 0, 0, 0, []),
  (41, .getfield 18, 3, false, (0), 1, 2, 0, 0, []),
  (44, .aload_n 0, 1, false, (0), 0, 0, 0, 0, []),
  (45, .getfield 43, 3, false, (0), 1, 7, 0, 0, []),
  (48, .iaload, 1, false, (0), 0, 0, 0, 0, []),
  (49, .aload_n 0, 1, false, (0), 0, 0, 0, 0, []),
  (50, .getfield 21, 3, false, (0), 1, 3, 0, 0, []),
  (53, .aload_n 0, 1, false, (0), 0, 0, 0, 0, []),
  (54, .getfield 43, 3, false, (0), 1, 7, 0, 0, []),
  (57, .iaload, 1, false, (0), 0, 0, 0, 0, []),
  (58, .invokestatic 55, 3, false, (0), 163, 0, 4, 0, [(0, 0)]),
  (61, .aload_n 0, 1, false, (0), 0, 0, 0, 0, []),
  (62, .getfield 30, 3, false, (0), 1, 6, 0, 0, []),
  (65, .aload_n 0, 1, false, (0), 0, 0, 0, 0, []),
  (66, .getfield 43, 3, false, (0), 1, 7, 0, 0, []),
  (69, .iaload, 1, false, (0), 0, 0, 0, 0, []),
  (70, .iastore, 1, false, (0), 0, 0, 0, 0, []),
  (71, .goto (-71), 3, false, (0), 0, 0, 0, 0, []),
  (74, .return_, 1, false, (0), 0, 0, 0, 0, [])]
def f160 : sm_I := (⟨"TypedMill$Types", "forgetFrom", "(I)V"⟩, prog_8_method_12_code, 2, none, 1, false, 1, c160)
def c14 : List sm_R := [
  (0, .aload_n 0, 1, false, (0), 0, 0, 0, 0, []),
  (1, .getfield 10, 3, false, (0), 0, 0, 0, 0, []),
  (4, .getfield 124, 3, false, (0), 1, 7, 0, 0, []),
  (7, .istore_n 2, 1, false, (0), 2, 0, 0, 0, []),
  (8, .aload_n 0, 1, false, (0), 0, 0, 0, 0, []),
  (9, .getfield 28, 3, false, (0), 0, 2, 0, 0, []),
  (12, .iload_n 1, 1, false, (0), 1, 0, 0, 0, []),
  (13, .invokevirtual 186, 3, false, (0), 164, 3, 2, 0, [(0, 0)]),
  (16, .istore_n 3, 1, false, (0), 3, 0, 0, 0, []),
  (17, .aload_n 0, 1, false, (0), 0, 0, 0, 0, []),
  (18, .getfield 10, 3, false, (0), 0, 0, 0, 0, []),
  (21, .iload_n 2, 1, false, (0), 2, 0, 0, 0, []),
  (22, .invokevirtual 138, 3, false, (0), 160, 1, 2, 0, []),
  (25, .iload_n 3, 1, false, (0), 3, 0, 0, 0, []),
  (26, .ireturn, 1, false, (0), 0, 0, 0, 0, [])]
def f14 : sm_I := (⟨"TypedMill", "typeOf", "(I)I"⟩, prog_1_method_18_code, 4, (some .int), 1, false, 0, c14)
def c3 : List sm_R := [
  (0, .aload_n 0, 1, false, (0), 0, 0, 0, 0, []),
  (1, .getfield 19, 3, false, (0), 0, 1, 0, 0, []),
  (4, .iload_n 1, 1, false, (0), 1, 0, 0, 0, []),
  (5, .invokevirtual 100, 3, false, (0), 135, 2, 2, 0, [(0, 0)]),
  (8, .ifCond .eq (27), 3, false, (0), 17, 0, 0, 0, []),
  (11, .aload_n 0, 1, false, (0), 0, 0, 0, 0, []),
  (12, .getfield 10, 3, false, (0), 0, 0, 0, 0, []),
  (15, .iload_n 2, 1, false, (0), 2, 0, 0, 0, []),
  (16, .invokevirtual 78, 3, false, (0), 150, 1, 2, 0, [(0, 0)]),
  (19, .ifCond .eq (16), 3, false, (0), 17, 0, 0, 0, []),
  (22, .aload_n 0, 1, false, (0), 0, 0, 0, 0, []),
  (23, .iload_n 1, 1, false, (0), 1, 0, 0, 0, []),
  (24, .invokevirtual 101, 3, false, (0), 14, 0, 2, 0, [(0, 0)]),
  (27, .iload_n 2, 1, false, (0), 2, 0, 0, 0, []),
  (28, .if_icmp .ne (7), 3, false, (0), 17, 0, 0, 0, []),
  (31, .iconst (1), 1, false, (1), 0, 0, 0, 0, []),
  (32, .goto (4), 3, false, (0), 18, 0, 0, 0, []),
  (35, .iconst (0), 1, true, (0), 0, 0, 0, 0, []),
  (36, .ireturn, 1, true, (0), 0, 0, 0, 0, [])]
def f3 : sm_I := (⟨"TypedMill", "is", "(II)Z"⟩, prog_1_method_5_code, 3, (some .boolean), 2, false, 0, c3)
def c4 : List sm_R := [
  (0, .aload_n 0, 1, false, (0), 0, 0, 0, 0, []),
  (1, .getfield 37, 3, false, (0), 0, 3, 0, 0, []),
  (4, .getfield 120, 3, false, (0), 4, 8, 0, 0, []),
  (7, .ireturn, 1, false, (0), 0, 0, 0, 0, [])]
def f4 : sm_I := (⟨"TypedMill", "steps", "()I"⟩, prog_1_method_7_code, 1, (some .int), 0, false, 0, c4)
def c103 : List sm_R := [
  (0, .aload_n 0, 1, false, (0), 0, 0, 0, 0, []),
  (1, .iconst (0), 1, false, (0), 0, 0, 0, 0, []),
  (2, .putfield 47, 3, false, (0), 8, 6, 0, 0, []),
  (5, .aload_n 0, 1, false, (0), 0, 0, 0, 0, []),
  (6, .iconst (0), 1, false, (0), 0, 0, 0, 0, []),
  (7, .putfield 50, 3, false, (0), 8, 11, 0, 0, []),
  (10, .aload_n 0, 1, false, (0), 0, 0, 0, 0, []),
  (11, .iconst (-1), 1, false, (-1), 0, 0, 0, 0, []),
  (12, .putfield 39, 3, false, (0), 8, 12, 0, 0, []),
  (15, .aload_n 0, 1, false, (0), 0, 0, 0, 0, []),
  (16, .iconst (0), 1, false, (0), 0, 0, 0, 0, []),
  (17, .putfield 53, 3, false, (0), 8, 13, 0, 0, []),
  (20, .aload_n 0, 1, false, (0), 0, 0, 0, 0, []),
  (21, .iconst (0), 1, false, (0), 0, 0, 0, 0, []),
  (22, .putfield 57, 3, false, (0), 8, 15, 0, 0, []),
  (25, .return_, 1, false, (0), 0, 0, 0, 0, [])]
def f103 : sm_I := (⟨"TypedMill$Code", "wipe", "()V"⟩, prog_3_method_2_code, 1, none, 0, false, 8, c103)
def c173 : List sm_R := [
  (0, .iconst (0), 1, false, (0), 0, 0, 0, 0, []),
  (1, .istore_n 2, 1, false, (0), 2, 0, 0, 0, []),
  (2, .aload_n 0, 1, false, (0), 0, 0, 0, 0, []),
  (3, .arraylength, 1, false, (0), 0, 0, 0, 0, []),
  (4, .istore_n 3, 1, false, (0), 3, 0, 0, 0, []),
  (5, .iload_n 2, 1, true, (0), 2, 0, 0, 0, []),
  (6, .iload_n 3, 1, false, (0), 3, 0, 0, 0, []),
  (7, .if_icmp .ge (13), 3, false, (0), 14, 0, 0, 0, []),
  (10, .aload_n 0, 1, false, (0), 0, 0, 0, 0, []),
  (11, .iload_n 2, 1, false, (0), 2, 0, 0, 0, []),
  (12, .iload_n 1, 1, false, (0), 1, 0, 0, 0, []),
  (13, .iastore, 1, false, (0), 0, 0, 0, 0, []),
  (14, .iinc 2 (1), 3, false, (1), 2, 0, 0, 0, []),
  (17, .goto (-12), 3, false, (0), 5, 0, 0, 0, []),
  (20, .return_, 1, false, (0), 0, 0, 0, 0, [])]
def f173 : sm_I := (⟨"java/util/Arrays", "fill", "([II)V"⟩, prog_19_method_103_code, 4, none, 2, true, 11, c173)
def c138 : List sm_R := [
  (0, .aload_n 0, 1, false, (0), 0, 0, 0, 0, []),
  (1, .aload_n 1, 1, false, (0), 1, 0, 0, 0, []),
  (2, .putfield 32, 3, false, (0), 7, 7, 0, 0, []),
  (5, .aload_n 0, 1, false, (0), 0, 0, 0, 0, []),
  (6, .iconst (0), 1, false, (0), 0, 0, 0, 0, []),
  (7, .putfield 36, 3, false, (0), 7, 8, 0, 0, []),
  (10, .aload_n 0, 1, false, (0), 0, 0, 0, 0, []),
  (11, .iconst (0), 1, false, (0), 0, 0, 0, 0, []),
  (12, .putfield 40, 3, false, (0), 7, 9, 0, 0, []),
  (15, .aload_n 0, 1, false, (0), 0, 0, 0, 0, []),
  (16, .iconst (0), 1, false, (0), 0, 0, 0, 0, []),
  (17, .putfield 43, 3, false, (0), 7, 6, 0, 0, []),
  (20, .aload_n 0, 1, false, (0), 0, 0, 0, 0, []),
  (21, .iconst (0), 1, false, (0), 0, 0, 0, 0, []),
  (22, .putfield 46, 3, false, (0), 7, 10, 0, 0, []),
  (25, .aload_n 0, 1, false, (0), 0, 0, 0, 0, []),
  (26, .getfield 11, 3, false, (0), 7, 0, 0, 0, []),
  (29, .iconst (0), 1, false, (0), 0, 0, 0, 0, []),
  (30, .invokestatic 49, 3, false, (0), 173, 0, 2, 0, []),
  (33, .aload_n 0, 1, false, (0), 0, 0, 0, 0, []),
  (34, .getfield 17, 3, false, (0), 7, 1, 0, 0, []),
  (37, .iconst (0), 1, false, (0), 0, 0, 0, 0, []),
  (38, .invokestatic 49, 3, false, (0), 173, 0, 2, 0, []),
  (41, .aload_n 0, 1, false, (0), 0, 0, 0, 0, []),
  (42, .getfield 11, 3, false, (0), 7, 0, 0, 0, []),
  (45, .iconst (1), 1, false, (1), 0, 0, 0, 0, []),
  (46, .iconst (1), 1, false, (1), 0, 0, 0, 0, []),
  (47, .iastore, 1, false, (0), 0, 0, 0, 0, []),
  (48, .return_, 1, false, (0), 0, 0, 0, 0, [])]
def f138 : sm_I := (⟨"TypedMill$Machine", "begin", "(LTypedMill$Code;)V"⟩, prog_7_method_2_code, 2, none, 1, false, 7, c138)
def c5 : List sm_R := [
  (0, .aload_n 0, 1, false, (0), 0, 0, 0, 0, []),
  (1, .getfield 67, 3, false, (0), 0, 7, 0, 0, []),
  (4, .invokevirtual 146, 3, false, (0), 103, 8, 1, 0, []),
  (7, .aload_n 0, 1, false, (0), 0, 0, 0, 0, []),
  (8, .getfield 60, 3, false, (0), 0, 6, 0, 0, []),
  (11, .aload_n 0, 1, false, (0), 0, 0, 0, 0, []),
  (12, .getfield 67, 3, false, (0), 0, 7, 0, 0, []),
  (15, .invokevirtual 74, 3, false, (0), 138, 7, 2, 22, []),
  (18, .return_, 1, false, (0), 0, 0, 0, 0, [])]
def f5 : sm_I := (⟨"TypedMill", "clear", "()V"⟩, prog_1_method_9_code, 1, none, 0, false, 0, c5)
def c108 : List sm_R := [
  (0, .aload_n 0, 1, false, (0), 0, 0, 0, 0, []),
  (1, .getfield 50, 3, false, (0), 8, 11, 0, 0, []),
  (4, .bipush (40), 2, false, (40), 0, 0, 0, 0, []),
  (6, .if_icmp .ne (10), 3, false, (0), 9, 0, 0, 0, []),
  (9, .aload_n 0, 1, false, (0), 0, 0, 0, 0, []),
  (10, .iconst (1), 1, false, (1), 0, 0, 0, 0, []),
  (11, .putfield 57, 3, false, (0), 8, 15, 0, 0, []),
  (14, .iconst (-1), 1, false, (-1), 0, 0, 0, 0, []),
  (15, .ireturn, 1, false, (0), 0, 0, 0, 0, []),
  (16, .aload_n 0, 1, false, (0), 0, 0, 0, 0, []),
  (17, .getfield 30, 3, false, (0), 8, 8, 0, 0, []),
  (20, .aload_n 0, 1, false, (0), 0, 0, 0, 0, []),
  (21, .getfield 50, 3, false, (0), 8, 11, 0, 0, []),
  (24, .iconst (0), 1, false, (0), 0, 0, 0, 0, []),
  (25, .iastore, 1, false, (0), 0, 0, 0, 0, []),
  (26, .aload_n 0, 1, false, (0), 0, 0, 0, 0, []),
  (27, .dup, 1, false, (0), 0, 0, 0, 0, []),
  (28, .getfield 50, 3, false, (0), 8, 11, 0, 0, []),
  (31, .iconst (1), 1, false, (1), 0, 0, 0, 0, []),
  (32, .iadd, 1, false, (0), 0, 0, 0, 0, []),
  (33, .putfield 50, 3, false, (0), 8, 11, 0, 0, []),
  (36, .aload_n 0, 1, false, (0), 0, 0, 0, 0, []),
  (37, .getfield 50, 3, false, (0), 8, 11, 0, 0, []),
  (40, .iconst (1), 1, false, (1), 0, 0, 0, 0, []),
  (41, .isub, 1, false, (0), 0, 0, 0, 0, []),
  (42, .ireturn, 1, false, (0), 0, 0, 0, 0, [])]
def f108 : sm_I := (⟨"TypedMill$Code", "reserve", "()I"⟩, prog_3_method_7_code, 1, (some .int), 0, false, 8, c108)
def c104 : List sm_R := [
  (0, .iload_n 1, 1, false, (0), 1, 0, 0, 0, []),
  (1, .ifCond .lt (15), 3, false, (0), 8, 0, 0, 0, []),
  (4, .iload_n 1, 1, false, (0), 1, 0, 0, 0, []),
  (5, .aload_n 0, 1, false, (0), 0, 0, 0, 0, []),
  (6, .getfield 50, 3, false, (0), 8, 11, 0, 0, []),
  (9, .if_icmp .ge (7), 3, false, (0), 8, 0, 0, 0, []),
  (12, .iconst (1), 1, false, (1), 0, 0, 0, 0, []),
  (13, .goto (4), 3, false, (0), 9, 0, 0, 0, []),
  (16, .iconst (0), 1, true, (0), 0, 0, 0, 0, []),
  (17, .ireturn, 1, true, (0), 0, 0, 0, 0, [])]
def f104 : sm_I := (⟨"TypedMill$Code", "hasBlock", "(I)Z"⟩, prog_3_method_3_code, 2, (some .boolean), 1, false, 8, c104)
def c110 : List sm_R := [
  (0, .aload_n 0, 1, false, (0), 0, 0, 0, 0, []),
  (1, .getfield 33, 3, false, (0), 8, 9, 0, 0, []),
  (4, .iload_n 1, 1, false, (0), 1, 0, 0, 0, []),
  (5, .iload_n 2, 1, false, (0), 2, 0, 0, 0, []),
  (6, .iastore, 1, false, (0), 0, 0, 0, 0, []),
  (7, .aload_n 0, 1, false, (0), 0, 0, 0, 0, []),
  (8, .getfield 36, 3, false, (0), 8, 10, 0, 0, []),
  (11, .iload_n 1, 1, false, (0), 1, 0, 0, 0, []),
  (12, .aload_n 0, 1, false, (0), 0, 0, 0, 0, []),
  (13, .getfield 43, 3, false, (0), 8, 0, 0, 0, []),
  (16, .iload_n 2, 1, false, (0), 2, 0, 0, 0, []),
  (17, .invokevirtual 68, 3, false, (0), 156, 1, 2, 0, [(0, 0)]),
  (20, .iastore, 1, false, (0), 0, 0, 0, 0, []),
  (21, .return_, 1, false, (0), 0, 0, 0, 0, [])]
def f110 : sm_I := (⟨"TypedMill$Code", "ask", "(II)V"⟩, prog_3_method_9_code, 3, none, 2, false, 8, c110)
def c109 : List sm_R := [
  (0, .aload_n 0, 1, false, (0), 0, 0, 0, 0, []),
  (1, .iload_n 1, 1, false, (0), 1, 0, 0, 0, []),
  (2, .invokevirtual 60, 3, false, (0), 104, 8, 2, 0, [(0, 0)]),
  (5, .ifCond .ne (4), 3, false, (0), 5, 0, 0, 0, []),
  (8, .return_, 1, false, (0), 0, 0, 0, 0, []),
  (9, .aload_n 0, 1, false, (0), 0, 0, 0, 0, []),
  (10, .iload_n 1, 1, false, (0), 1, 0, 0, 0, []),
  (11, .putfield 39, 3, false, (0), 8, 12, 0, 0, []),
  (14, .aload_n 0, 1, false, (0), 0, 0, 0, 0, []),
  (15, .getfield 27, 3, false, (0), 8, 7, 0, 0, []),
  (18, .iload_n 1, 1, false, (0), 1, 0, 0, 0, []),
  (19, .aload_n 0, 1, false, (0), 0, 0, 0, 0, []),
  (20, .getfield 47, 3, false, (0), 8, 6, 0, 0, []),
  (23, .iastore, 1, false, (0), 0, 0, 0, 0, []),
  (24, .aload_n 0, 1, false, (0), 0, 0, 0, 0, []),
  (25, .iconst (3), 1, false, (3), 0, 0, 0, 0, []),
  (26, .iload_n 1, 1, false, (0), 1, 0, 0, 0, []),
  (27, .imul, 1, false, (0), 0, 0, 0, 0, []),
  (28, .iload_n 2, 1, false, (0), 2, 0, 0, 0, []),
  (29, .invokevirtual 64, 3, false, (0), 110, 8, 3, 0, []),
  (32, .aload_n 0, 1, false, (0), 0, 0, 0, 0, []),
  (33, .iconst (3), 1, false, (3), 0, 0, 0, 0, []),
  (34, .iload_n 1, 1, false, (0), 1, 0, 0, 0, []),
  (35, .imul, 1, false, (0), 0, 0, 0, 0, []),
  (36, .iconst (1), 1, false, (1), 0, 0, 0, 0, []),
  (37, .iadd, 1, false, (0), 0, 0, 0, 0, []),
  (38, .iload_n 3, 1, false, (0), 3, 0, 0, 0, []),
  (39, .invokevirtual 64, 3, false, (0), 110, 8, 3, 0, []),
  (42, .aload_n 0, 1, false, (0), 0, 0, 0, 0, []),
  (43, .iconst (3), 1, false, (3), 0, 0, 0, 0, []),
  (44, .iload_n 1, 1, false, (0), 1, 0, 0, 0, []),
  (45, .imul, 1, false, (0), 0, 0, 0, 0, []),
  (46, .iconst (2), 1, false, (2), 0, 0, 0, 0, []),
  (47, .iadd, 1, false, (0), 0, 0, 0, 0, []),
  (48, .iload 4, 2, false, (0), 4, 0, 0, 0, []),
  (50, .invokevirtual 64, 3, false, (0), 110, 8, 3, 0, []),
  (53, .return_, 1, false, (0), 0, 0, 0, 0, [])]
def f109 : sm_I := (⟨"TypedMill$Code", "open", "(IIII)V"⟩, prog_3_method_8_code, 5, none, 4, false, 8, c109)
def c6 : List sm_R := [
  (0, .aload_n 0, 1, false, (0), 0, 0, 0, 0, []),
  (1, .getfield 67, 3, false, (0), 0, 7, 0, 0, []),
  (4, .getfield 149, 3, false, (0), 8, 13, 0, 0, []),
  (7, .ifCond .ne (28), 3, false, (0), 16, 0, 0, 0, []),
  (10, .aload_n 0, 1, false, (0), 0, 0, 0, 0, []),
  (11, .getfield 67, 3, false, (0), 0, 7, 0, 0, []),
  (14, .getfield 152, 3, false, (0), 8, 11, 0, 0, []),
  (17, .bipush (40), 2, false, (40), 0, 0, 0, 0, []),
  (19, .if_icmp .eq (16), 3, false, (0), 16, 0, 0, 0, []),
  (22, .aload_n 0, 1, false, (0), 0, 0, 0, 0, []),
  (23, .getfield 10, 3, false, (0), 0, 0, 0, 0, []),
  (26, .iload_n 1, 1, false, (0), 1, 0, 0, 0, []),
  (27, .iload_n 2, 1, false, (0), 2, 0, 0, 0, []),
  (28, .iload_n 3, 1, false, (0), 3, 0, 0, 0, []),
  (29, .invokevirtual 86, 3, false, (0), 151, 1, 4, 0, [(0, 0)]),
  (32, .ifCond .ne (5), 3, false, (0), 18, 0, 0, 0, []),
  (35, .iconst (-1), 1, true, (-1), 0, 0, 0, 0, []),
  (36, .ireturn, 1, false, (0), 0, 0, 0, 0, []),
  (37, .aload_n 0, 1, false, (0), 0, 0, 0, 0, []),
  (38, .getfield 67, 3, false, (0), 0, 7, 0, 0, []),
  (41, .invokevirtual 155, 3, false, (0), 108, 8, 1, 0, [(0, 0)]),
  (44, .istore 4, 2, false, (0), 4, 0, 0, 0, []),
  (46, .aload_n 0, 1, false, (0), 0, 0, 0, 0, []),
  (47, .getfield 67, 3, false, (0), 0, 7, 0, 0, []),
  (50, .iload 4, 2, false, (0), 4, 0, 0, 0, []),
  (52, .iload_n 1, 1, false, (0), 1, 0, 0, 0, []),
  (53, .iload_n 2, 1, false, (0), 2, 0, 0, 0, []),
  (54, .iload_n 3, 1, false, (0), 3, 0, 0, 0, []),
  (55, .invokevirtual 159, 3, false, (0), 109, 8, 5, 0, []),
  (58, .aload_n 0, 1, false, (0), 0, 0, 0, 0, []),
  (59, .getfield 60, 3, false, (0), 0, 6, 0, 0, []),
  (62, .aload_n 0, 1, false, (0), 0, 0, 0, 0, []),
  (63, .getfield 67, 3, false, (0), 0, 7, 0, 0, []),
  (66, .invokevirtual 74, 3, false, (0), 138, 7, 2, 22, []),
  (69, .iload 4, 2, false, (0), 4, 0, 0, 0, []),
  (71, .ireturn, 1, false, (0), 0, 0, 0, 0, [])]
def f6 : sm_I := (⟨"TypedMill", "block", "(III)I"⟩, prog_1_method_10_code, 5, (some .int), 3, false, 0, c6)
def c112 : List sm_R := [
  (0, .iload_n 1, 1, false, (0), 1, 0, 0, 0, []),
  (1, .tableswitch (108) (2) (5) #[(31), (47), (63), (78)], 31, false, (0), 46, 0, 0, 0, [((2), 2), ((3), 12), ((4), 21), ((5), 30)]),
  (32, .iload_n 2, 1, false, (0), 2, 0, 0, 0, []),
  (33, .iconst (1), 1, false, (1), 0, 0, 0, 0, []),
  (34, .if_icmp .lt (12), 3, false, (0), 10, 0, 0, 0, []),
  (37, .iload_n 2, 1, false, (0), 2, 0, 0, 0, []),
  (38, .iconst (5), 1, false, (5), 0, 0, 0, 0, []),
  (39, .if_icmp .gt (7), 3, false, (0), 10, 0, 0, 0, []),
  (42, .iconst (1), 1, false, (1), 0, 0, 0, 0, []),
  (43, .goto (4), 3, false, (0), 11, 0, 0, 0, []),
  (46, .iconst (0), 1, true, (0), 0, 0, 0, 0, []),
  (47, .ireturn, 1, true, (0), 0, 0, 0, 0, []),
  (48, .iload_n 2, 1, false, (0), 2, 0, 0, 0, []),
  (49, .ifCond .lt (13), 3, false, (0), 19, 0, 0, 0, []),
  (52, .iload_n 2, 1, false, (0), 2, 0, 0, 0, []),
  (53, .bipush (40), 2, false, (40), 0, 0, 0, 0, []),
  (55, .if_icmp .ge (7), 3, false, (0), 19, 0, 0, 0, []),
  (58, .iconst (1), 1, false, (1), 0, 0, 0, 0, []),
  (59, .goto (4), 3, false, (0), 20, 0, 0, 0, []),
  (62, .iconst (0), 1, true, (0), 0, 0, 0, 0, []),
  (63, .ireturn, 1, true, (0), 0, 0, 0, 0, []),
  (64, .iload_n 2, 1, false, (0), 2, 0, 0, 0, []),
  (65, .ifCond .eq (8), 3, false, (0), 26, 0, 0, 0, []),
  (68, .iload_n 2, 1, false, (0), 2, 0, 0, 0, []),
  (69, .iconst (1), 1, false, (1), 0, 0, 0, 0, []),
  (70, .if_icmp .ne (7), 3, false, (0), 28, 0, 0, 0, []),
  (73, .iconst (1), 1, true, (1), 0, 0, 0, 0, []),
  (74, .goto (4), 3, false, (0), 29, 0, 0, 0, []),
  (77, .iconst (0), 1, false, (0), 0, 0, 0, 0, []),
  (78, .ireturn, 1, true, (0), 0, 0, 0, 0, []),
  (79, .aload_n 0, 1, false, (0), 0, 0, 0, 0, []),
  (80, .getfield 43, 3, false, (0), 8, 0, 0, 0, []),
  (83, .iload_n 2, 1, false, (0), 2, 0, 0, 0, []),
  (84, .invokevirtual 81, 3, false, (0), 152, 1, 2, 0, [(0, 0)]),
  (87, .iconst (2), 1, false, (2), 0, 0, 0, 0, []),
  (88, .if_icmp .eq (15), 3, false, (0), 42, 0, 0, 0, []),
  (91, .aload_n 0, 1, false, (0), 0, 0, 0, 0, []),
  (92, .getfield 43, 3, false, (0), 8, 0, 0, 0, []),
  (95, .iload_n 2, 1, false, (0), 2, 0, 0, 0, []),
  (96, .invokevirtual 81, 3, false, (0), 152, 1, 2, 0, [(0, 0)]),
  (99, .iconst (3), 1, false, (3), 0, 0, 0, 0, []),
  (100, .if_icmp .ne (7), 3, false, (0), 44, 0, 0, 0, []),
  (103, .iconst (1), 1, true, (1), 0, 0, 0, 0, []),
  (104, .goto (4), 3, false, (0), 45, 0, 0, 0, []),
  (107, .iconst (0), 1, false, (0), 0, 0, 0, 0, []),
  (108, .ireturn, 1, true, (0), 0, 0, 0, 0, []),
  (109, .iconst (1), 1, false, (1), 0, 0, 0, 0, []),
  (110, .ireturn, 1, false, (0), 0, 0, 0, 0, [])]
def f112 : sm_I := (⟨"TypedMill$Code", "fits", "(II)Z"⟩, prog_3_method_11_code, 3, (some .boolean), 2, false, 8, c112)
def c111 : List sm_R := [
  (0, .iload_n 1, 1, false, (0), 1, 0, 0, 0, []),
  (1, .ifCond .lt (9), 3, false, (0), 5, 0, 0, 0, []),
  (4, .iload_n 1, 1, false, (0), 1, 0, 0, 0, []),
  (5, .bipush (12), 2, false, (12), 0, 0, 0, 0, []),
  (7, .if_icmp .le (5), 3, false, (0), 7, 0, 0, 0, []),
  (10, .iconst (0), 1, true, (0), 0, 0, 0, 0, []),
  (11, .ireturn, 1, false, (0), 0, 0, 0, 0, []),
  (12, .iconst (3), 1, false, (3), 0, 0, 0, 0, []),
  (13, .iload_n 1, 1, false, (0), 1, 0, 0, 0, []),
  (14, .imul, 1, false, (0), 0, 0, 0, 0, []),
  (15, .istore 5, 2, false, (0), 5, 0, 0, 0, []),
  (17, .aload_n 0, 1, false, (0), 0, 0, 0, 0, []),
  (18, .getstatic 74, 3, false, (0), 1000, 0, 0, 0, []),
  (21, .iload 5, 2, false, (0), 5, 0, 0, 0, []),
  (23, .iaload, 1, false, (0), 0, 0, 0, 0, []),
  (24, .iload_n 2, 1, false, (0), 2, 0, 0, 0, []),
  (25, .invokevirtual 77, 3, false, (0), 112, 8, 3, 0, [(0, 0)]),
  (28, .ifCond .eq (40), 3, false, (0), 38, 0, 0, 0, []),
  (31, .aload_n 0, 1, false, (0), 0, 0, 0, 0, []),
  (32, .getstatic 74, 3, false, (0), 1000, 0, 0, 0, []),
  (35, .iload 5, 2, false, (0), 5, 0, 0, 0, []),
  (37, .iconst (1), 1, false, (1), 0, 0, 0, 0, []),
  (38, .iadd, 1, false, (0), 0, 0, 0, 0, []),
  (39, .iaload, 1, false, (0), 0, 0, 0, 0, []),
  (40, .iload_n 3, 1, false, (0), 3, 0, 0, 0, []),
  (41, .invokevirtual 77, 3, false, (0), 112, 8, 3, 0, [(0, 0)]),
  (44, .ifCond .eq (24), 3, false, (0), 38, 0, 0, 0, []),
  (47, .aload_n 0, 1, false, (0), 0, 0, 0, 0, []),
  (48, .getstatic 74, 3, false, (0), 1000, 0, 0, 0, []),
  (51, .iload 5, 2, false, (0), 5, 0, 0, 0, []),
  (53, .iconst (2), 1, false, (2), 0, 0, 0, 0, []),
  (54, .iadd, 1, false, (0), 0, 0, 0, 0, []),
  (55, .iaload, 1, false, (0), 0, 0, 0, 0, []),
  (56, .iload 4, 2, false, (0), 4, 0, 0, 0, []),
  (58, .invokevirtual 77, 3, false, (0), 112, 8, 3, 0, [(0, 0)]),
  (61, .ifCond .eq (7), 3, false, (0), 38, 0, 0, 0, []),
  (64, .iconst (1), 1, false, (1), 0, 0, 0, 0, []),
  (65, .goto (4), 3, false, (0), 39, 0, 0, 0, []),
  (68, .iconst (0), 1, true, (0), 0, 0, 0, 0, []),
  (69, .ireturn, 1, true, (0), 0, 0, 0, 0, [])]
def f111 : sm_I := (⟨"TypedMill$Code", "takes", "(IIII)Z"⟩, prog_3_method_10_code, 6, (some .boolean), 4, false, 8, c111)
def c113 : List sm_R := [
  (0, .aload_n 0, 1, false, (0), 0, 0, 0, 0, []),
  (1, .getfield 47, 3, false, (0), 8, 6, 0, 0, []),
  (4, .sipush (300), 3, false, (300), 0, 0, 0, 0, []),
  (7, .if_icmp .eq (14), 3, false, (0), 9, 0, 0, 0, []),
  (10, .aload_n 0, 1, false, (0), 0, 0, 0, 0, []),
  (11, .aload_n 0, 1, false, (0), 0, 0, 0, 0, []),
  (12, .getfield 39, 3, false, (0), 8, 12, 0, 0, []),
  (15, .invokevirtual 60, 3, false, (0), 104, 8, 2, 0, [(0, 0)]),
  (18, .ifCond .ne (9), 3, false, (0), 13, 0, 0, 0, []),
  (21, .aload_n 0, 1, true, (0), 0, 0, 0, 0, []),
  (22, .iconst (1), 1, false, (1), 0, 0, 0, 0, []),
  (23, .putfield 57, 3, false, (0), 8, 15, 0, 0, []),
  (26, .return_, 1, false, (0), 0, 0, 0, 0, []),
  (27, .iconst (3), 1, false, (3), 0, 0, 0, 0, []),
  (28, .iload_n 1, 1, false, (0), 1, 0, 0, 0, []),
  (29, .imul, 1, false, (0), 0, 0, 0, 0, []),
  (30, .istore 5, 2, false, (0), 5, 0, 0, 0, []),
  (32, .aload_n 0, 1, false, (0), 0, 0, 0, 0, []),
  (33, .getfield 11, 3, false, (0), 8, 1, 0, 0, []),
  (36, .aload_n 0, 1, false, (0), 0, 0, 0, 0, []),
  (37, .getfield 47, 3, false, (0), 8, 6, 0, 0, []),
  (40, .iload_n 1, 1, false, (0), 1, 0, 0, 0, []),
  (41, .iastore, 1, false, (0), 0, 0, 0, 0, []),
  (42, .aload_n 0, 1, false, (0), 0, 0, 0, 0, []),
  (43, .getfield 15, 3, false, (0), 8, 2, 0, 0, []),
  (46, .aload_n 0, 1, false, (0), 0, 0, 0, 0, []),
  (47, .getfield 47, 3, false, (0), 8, 6, 0, 0, []),
  (50, .getstatic 74, 3, false, (0), 1000, 0, 0, 0, []),
  (53, .iload 5, 2, false, (0), 5, 0, 0, 0, []),
  (55, .iaload, 1, false, (0), 0, 0, 0, 0, []),
  (56, .ifCond .ne (7), 3, false, (0), 33, 0, 0, 0, []),
  (59, .iconst (0), 1, false, (0), 0, 0, 0, 0, []),
  (60, .goto (4), 3, false, (0), 34, 0, 0, 0, []),
  (63, .iload_n 2, 1, false, (0), 2, 0, 0, 0, []),
  (64, .iastore, 1, true, (0), 0, 0, 0, 0, []),
  (65, .aload_n 0, 1, false, (0), 0, 0, 0, 0, []),
  (66, .getfield 18, 3, false, (0), 8, 3, 0, 0, []),
  (69, .aload_n 0, 1, false, (0), 0, 0, 0, 0, []),
  (70, .getfield 47, 3, false, (0), 8, 6, 0, 0, []),
  (73, .getstatic 74, 3, false, (0), 1000, 0, 0, 0, []),
  (76, .iload 5, 2, false, (0), 5, 0, 0, 0, []),
  (78, .iconst (1), 1, false, (1), 0, 0, 0, 0, []),
  (79, .iadd, 1, false, (0), 0, 0, 0, 0, []),
  (80, .iaload, 1, false, (0), 0, 0, 0, 0, []),
  (81, .ifCond .ne (7), 3, false, (0), 47, 0, 0, 0, []),
  (84, .iconst (0), 1, false, (0), 0, 0, 0, 0, []),
  (85, .goto (4), 3, false, (0), 48, 0, 0, 0, []),
  (88, .iload_n 3, 1, false, (0), 3, 0, 0, 0, []),
  (89, .iastore, 1, true, (0), 0, 0, 0, 0, []),
  (90, .aload_n 0, 1, false, (0), 0, 0, 0, 0, []),
  (91, .getfield 21, 3, false, (0), 8, 4, 0, 0, []),
  (94, .aload_n 0, 1, false, (0), 0, 0, 0, 0, []),
  (95, .getfield 47, 3, false, (0), 8, 6, 0, 0, []),
  (98, .getstatic 74, 3, false, (0), 1000, 0, 0, 0, []),
  (101, .iload 5, 2, false, (0), 5, 0, 0, 0, []),
  (103, .iconst (2), 1, false, (2), 0, 0, 0, 0, []),
  (104, .iadd, 1, false, (0), 0, 0, 0, 0, []),
  (105, .iaload, 1, false, (0), 0, 0, 0, 0, []),
  (106, .ifCond .ne (7), 3, false, (0), 61, 0, 0, 0, []),
  (109, .iconst (0), 1, false, (0), 0, 0, 0, 0, []),
  (110, .goto (5), 3, false, (0), 62, 0, 0, 0, []),
  (113, .iload 4, 2, false, (0), 4, 0, 0, 0, []),
  (115, .iastore, 1, true, (0), 0, 0, 0, 0, []),
  (116, .aload_n 0, 1, false, (0), 0, 0, 0, 0, []),
  (117, .getfield 24, 3, false, (0), 8, 5, 0, 0, []),
  (120, .aload_n 0, 1, false, (0), 0, 0, 0, 0, []),
  (121, .getfield 47, 3, false, (0), 8, 6, 0, 0, []),
  (124, .iload_n 1, 1, false, (0), 1, 0, 0, 0, []),
  (125, .bipush (7), 2, false, (7), 0, 0, 0, 0, []),
  (127, .if_icmp .ne (15), 3, false, (0), 75, 0, 0, 0, []),
  (130, .aload_n 0, 1, false, (0), 0, 0, 0, 0, []),
  (131, .getfield 43, 3, false, (0), 8, 0, 0, 0, []),
  (134, .iload 4, 2, false, (0), 4, 0, 0, 0, []),
  (136, .invokevirtual 68, 3, false, (0), 156, 1, 2, 0, [(0, 0)]),
  (139, .goto (12), 3, false, (0), 80, 0, 0, 0, []),
  (142, .aload_n 0, 1, false, (0), 0, 0, 0, 0, []),
  (143, .getfield 21, 3, false, (0), 8, 4, 0, 0, []),
  (146, .aload_n 0, 1, false, (0), 0, 0, 0, 0, []),
  (147, .getfield 47, 3, false, (0), 8, 6, 0, 0, []),
  (150, .iaload, 1, false, (0), 0, 0, 0, 0, []),
  (151, .iastore, 1, true, (0), 0, 0, 0, 0, []),
  (152, .aload_n 0, 1, false, (0), 0, 0, 0, 0, []),
  (153, .dup, 1, false, (0), 0, 0, 0, 0, []),
  (154, .getfield 47, 3, false, (0), 8, 6, 0, 0, []),
  (157, .iconst (1), 1, false, (1), 0, 0, 0, 0, []),
  (158, .iadd, 1, false, (0), 0, 0, 0, 0, []),
  (159, .putfield 47, 3, false, (0), 8, 6, 0, 0, []),
  (162, .aload_n 0, 1, false, (0), 0, 0, 0, 0, []),
  (163, .getfield 30, 3, false, (0), 8, 8, 0, 0, []),
  (166, .aload_n 0, 1, false, (0), 0, 0, 0, 0, []),
  (167, .getfield 39, 3, false, (0), 8, 12, 0, 0, []),
  (170, .dup2, 1, false, (0), 0, 0, 0, 0, []),
  (171, .iaload, 1, false, (0), 0, 0, 0, 0, []),
  (172, .iconst (1), 1, false, (1), 0, 0, 0, 0, []),
  (173, .iadd, 1, false, (0), 0, 0, 0, 0, []),
  (174, .iastore, 1, false, (0), 0, 0, 0, 0, []),
  (175, .return_, 1, false, (0), 0, 0, 0, 0, [])]
def f113 : sm_I := (⟨"TypedMill$Code", "put", "(IIII)V"⟩, prog_3_method_12_code, 6, none, 4, false, 8, c113)
def c7 : List sm_R := [
  (0, .aload_n 0, 1, false, (0), 0, 0, 0, 0, []),
  (1, .getfield 67, 3, false, (0), 0, 7, 0, 0, []),
  (4, .getfield 149, 3, false, (0), 8, 13, 0, 0, []),
  (7, .ifCond .ne (26), 3, false, (0), 13, 0, 0, 0, []),
  (10, .aload_n 0, 1, false, (0), 0, 0, 0, 0, []),
  (11, .getfield 67, 3, false, (0), 0, 7, 0, 0, []),
  (14, .getfield 152, 3, false, (0), 8, 11, 0, 0, []),
  (17, .ifCond .eq (16), 3, false, (0), 13, 0, 0, 0, []),
  (20, .aload_n 0, 1, false, (0), 0, 0, 0, 0, []),
  (21, .getfield 67, 3, false, (0), 0, 7, 0, 0, []),
  (24, .getfield 145, 3, false, (0), 8, 6, 0, 0, []),
  (27, .sipush (300), 3, false, (300), 0, 0, 0, 0, []),
  (30, .if_icmp .ne (5), 3, false, (0), 15, 0, 0, 0, []),
  (33, .iconst (-1), 1, true, (-1), 0, 0, 0, 0, []),
  (34, .ireturn, 1, false, (0), 0, 0, 0, 0, []),
  (35, .aload_n 0, 1, false, (0), 0, 0, 0, 0, []),
  (36, .getfield 67, 3, false, (0), 0, 7, 0, 0, []),
  (39, .iload_n 1, 1, false, (0), 1, 0, 0, 0, []),
  (40, .iload_n 2, 1, false, (0), 2, 0, 0, 0, []),
  (41, .iload_n 3, 1, false, (0), 3, 0, 0, 0, []),
  (42, .iload 4, 2, false, (0), 4, 0, 0, 0, []),
  (44, .invokevirtual 163, 3, false, (0), 111, 8, 5, 0, [(0, 0)]),
  (47, .ifCond .ne (5), 3, false, (0), 25, 0, 0, 0, []),
  (50, .iconst (-1), 1, false, (-1), 0, 0, 0, 0, []),
  (51, .ireturn, 1, false, (0), 0, 0, 0, 0, []),
  (52, .aload_n 0, 1, false, (0), 0, 0, 0, 0, []),
  (53, .getfield 67, 3, false, (0), 0, 7, 0, 0, []),
  (56, .iload_n 1, 1, false, (0), 1, 0, 0, 0, []),
  (57, .iload_n 2, 1, false, (0), 2, 0, 0, 0, []),
  (58, .iload_n 3, 1, false, (0), 3, 0, 0, 0, []),
  (59, .iload 4, 2, false, (0), 4, 0, 0, 0, []),
  (61, .invokevirtual 167, 3, false, (0), 113, 8, 5, 0, []),
  (64, .aload_n 0, 1, false, (0), 0, 0, 0, 0, []),
  (65, .getfield 60, 3, false, (0), 0, 6, 0, 0, []),
  (68, .aload_n 0, 1, false, (0), 0, 0, 0, 0, []),
  (69, .getfield 67, 3, false, (0), 0, 7, 0, 0, []),
  (72, .invokevirtual 74, 3, false, (0), 138, 7, 2, 22, []),
  (75, .aload_n 0, 1, false, (0), 0, 0, 0, 0, []),
  (76, .getfield 67, 3, false, (0), 0, 7, 0, 0, []),
  (79, .getfield 145, 3, false, (0), 8, 6, 0, 0, []),
  (82, .ireturn, 1, false, (0), 0, 0, 0, 0, [])]
def f7 : sm_I := (⟨"TypedMill", "add", "(IIII)I"⟩, prog_1_method_11_code, 5, (some .int), 4, false, 0, c7)
def c107 : List sm_R := [
  (0, .aload_n 0, 1, false, (0), 0, 0, 0, 0, []),
  (1, .iload_n 1, 1, false, (0), 1, 0, 0, 0, []),
  (2, .invokevirtual 60, 3, false, (0), 104, 8, 2, 0, [(0, 0)]),
  (5, .ifCond .eq (17), 3, false, (0), 12, 0, 0, 0, []),
  (8, .iload_n 2, 1, false, (0), 2, 0, 0, 0, []),
  (9, .iconst (1), 1, false, (1), 0, 0, 0, 0, []),
  (10, .if_icmp .lt (12), 3, false, (0), 12, 0, 0, 0, []),
  (13, .iload_n 2, 1, false, (0), 2, 0, 0, 0, []),
  (14, .iconst (3), 1, false, (3), 0, 0, 0, 0, []),
  (15, .if_icmp .gt (7), 3, false, (0), 12, 0, 0, 0, []),
  (18, .iconst (1), 1, false, (1), 0, 0, 0, 0, []),
  (19, .goto (4), 3, false, (0), 13, 0, 0, 0, []),
  (22, .iconst (0), 1, true, (0), 0, 0, 0, 0, []),
  (23, .istore_n 3, 1, true, (0), 3, 0, 0, 0, []),
  (24, .iload_n 3, 1, false, (0), 3, 0, 0, 0, []),
  (25, .ifCond .eq (18), 3, false, (0), 27, 0, 0, 0, []),
  (28, .aload_n 0, 1, false, (0), 0, 0, 0, 0, []),
  (29, .getfield 33, 3, false, (0), 8, 9, 0, 0, []),
  (32, .iconst (3), 1, false, (3), 0, 0, 0, 0, []),
  (33, .iload_n 1, 1, false, (0), 1, 0, 0, 0, []),
  (34, .imul, 1, false, (0), 0, 0, 0, 0, []),
  (35, .iload_n 2, 1, false, (0), 2, 0, 0, 0, []),
  (36, .iadd, 1, false, (0), 0, 0, 0, 0, []),
  (37, .iconst (1), 1, false, (1), 0, 0, 0, 0, []),
  (38, .isub, 1, false, (0), 0, 0, 0, 0, []),
  (39, .iaload, 1, false, (0), 0, 0, 0, 0, []),
  (40, .goto (4), 3, false, (0), 28, 0, 0, 0, []),
  (43, .iconst (-1), 1, false, (-1), 0, 0, 0, 0, []),
  (44, .ireturn, 1, true, (0), 0, 0, 0, 0, [])]
def f107 : sm_I := (⟨"TypedMill$Code", "askedType", "(II)I"⟩, prog_3_method_6_code, 4, (some .int), 2, false, 8, c107)
def c90 : List sm_R := [
  (0, .aload_n 0, 1, false, (0), 0, 0, 0, 0, []),
  (1, .getfield 21, 3, false, (0), 6, 2, 0, 0, []),
  (4, .iconst (0), 1, false, (0), 0, 0, 0, 0, []),
  (5, .iconst (1), 1, false, (1), 0, 0, 0, 0, []),
  (6, .invokevirtual 46, 3, false, (0), 107, 8, 3, 0, [(0, 0)]),
  (9, .istore_n 1, 1, false, (0), 1, 0, 0, 0, []),
  (10, .aload_n 0, 1, false, (0), 0, 0, 0, 0, []),
  (11, .getfield 21, 3, false, (0), 6, 2, 0, 0, []),
  (14, .iconst (0), 1, false, (0), 0, 0, 0, 0, []),
  (15, .invokevirtual 50, 3, false, (0), 104, 8, 2, 0, [(0, 0)]),
  (18, .ifCond .eq (42), 3, false, (0), 32, 0, 0, 0, []),
  (21, .iload_n 1, 1, false, (0), 1, 0, 0, 0, []),
  (22, .iconst (-1), 1, false, (-1), 0, 0, 0, 0, []),
  (23, .if_icmp .eq (7), 3, false, (0), 16, 0, 0, 0, []),
  (26, .iload_n 1, 1, false, (0), 1, 0, 0, 0, []),
  (27, .ifCond .ne (33), 3, false, (0), 32, 0, 0, 0, []),
  (30, .aload_n 0, 1, true, (0), 0, 0, 0, 0, []),
  (31, .getfield 21, 3, false, (0), 6, 2, 0, 0, []),
  (34, .iconst (0), 1, false, (0), 0, 0, 0, 0, []),
  (35, .iconst (2), 1, false, (2), 0, 0, 0, 0, []),
  (36, .invokevirtual 46, 3, false, (0), 107, 8, 3, 0, [(0, 0)]),
  (39, .iconst (-1), 1, false, (-1), 0, 0, 0, 0, []),
  (40, .if_icmp .ne (20), 3, false, (0), 32, 0, 0, 0, []),
  (43, .aload_n 0, 1, false, (0), 0, 0, 0, 0, []),
  (44, .getfield 21, 3, false, (0), 6, 2, 0, 0, []),
  (47, .iconst (0), 1, false, (0), 0, 0, 0, 0, []),
  (48, .iconst (3), 1, false, (3), 0, 0, 0, 0, []),
  (49, .invokevirtual 46, 3, false, (0), 107, 8, 3, 0, [(0, 0)]),
  (52, .iconst (-1), 1, false, (-1), 0, 0, 0, 0, []),
  (53, .if_icmp .ne (7), 3, false, (0), 32, 0, 0, 0, []),
  (56, .iconst (1), 1, false, (1), 0, 0, 0, 0, []),
  (57, .goto (4), 3, false, (0), 33, 0, 0, 0, []),
  (60, .iconst (0), 1, true, (0), 0, 0, 0, 0, []),
  (61, .ireturn, 1, true, (0), 0, 0, 0, 0, [])]
def f90 : sm_I := (⟨"TypedMill$Checker", "beginsRight", "()Z"⟩, prog_2_method_3_code, 2, (some .boolean), 0, false, 6, c90)
def c105 : List sm_R := [
  (0, .aload_n 0, 1, false, (0), 0, 0, 0, 0, []),
  (1, .iload_n 1, 1, false, (0), 1, 0, 0, 0, []),
  (2, .invokevirtual 60, 3, false, (0), 104, 8, 2, 0, [(0, 0)]),
  (5, .ifCond .eq (12), 3, false, (0), 9, 0, 0, 0, []),
  (8, .aload_n 0, 1, false, (0), 0, 0, 0, 0, []),
  (9, .getfield 27, 3, false, (0), 8, 7, 0, 0, []),
  (12, .iload_n 1, 1, false, (0), 1, 0, 0, 0, []),
  (13, .iaload, 1, false, (0), 0, 0, 0, 0, []),
  (14, .goto (4), 3, false, (0), 10, 0, 0, 0, []),
  (17, .iconst (0), 1, false, (0), 0, 0, 0, 0, []),
  (18, .ireturn, 1, true, (0), 0, 0, 0, 0, [])]
def f105 : sm_I := (⟨"TypedMill$Code", "startOf", "(I)I"⟩, prog_3_method_4_code, 2, (some .int), 1, false, 8, c105)
def c106 : List sm_R := [
  (0, .aload_n 0, 1, false, (0), 0, 0, 0, 0, []),
  (1, .iload_n 1, 1, false, (0), 1, 0, 0, 0, []),
  (2, .invokevirtual 60, 3, false, (0), 104, 8, 2, 0, [(0, 0)]),
  (5, .ifCond .eq (12), 3, false, (0), 9, 0, 0, 0, []),
  (8, .aload_n 0, 1, false, (0), 0, 0, 0, 0, []),
  (9, .getfield 30, 3, false, (0), 8, 8, 0, 0, []),
  (12, .iload_n 1, 1, false, (0), 1, 0, 0, 0, []),
  (13, .iaload, 1, false, (0), 0, 0, 0, 0, []),
  (14, .goto (4), 3, false, (0), 10, 0, 0, 0, []),
  (17, .iconst (0), 1, false, (0), 0, 0, 0, 0, []),
  (18, .ireturn, 1, true, (0), 0, 0, 0, 0, [])]
def f106 : sm_I := (⟨"TypedMill$Code", "lengthOf", "(I)I"⟩, prog_3_method_5_code, 2, (some .int), 1, false, 8, c106)
def c94 : List sm_R := [
  (0, .aload_n 0, 1, false, (0), 0, 0, 0, 0, []),
  (1, .getfield 11, 3, false, (0), 6, 1, 0, 0, []),
  (4, .iload_n 1, 1, false, (0), 1, 0, 0, 0, []),
  (5, .iload_n 2, 1, false, (0), 2, 0, 0, 0, []),
  (6, .iastore, 1, false, (0), 0, 0, 0, 0, []),
  (7, .iconst (1), 1, false, (1), 0, 0, 0, 0, []),
  (8, .ireturn, 1, false, (0), 0, 0, 0, 0, [])]
def f94 : sm_I := (⟨"TypedMill$Checker", "gets", "(II)Z"⟩, prog_2_method_7_code, 3, (some .boolean), 2, false, 6, c94)
def c95 : List sm_R := [
  (0, .aload_n 0, 1, false, (0), 0, 0, 0, 0, []),
  (1, .getfield 17, 3, false, (0), 6, 0, 0, 0, []),
  (4, .iconst (4), 1, false, (4), 0, 0, 0, 0, []),
  (5, .aload_n 0, 1, false, (0), 0, 0, 0, 0, []),
  (6, .getfield 21, 3, false, (0), 6, 2, 0, 0, []),
  (9, .iload_n 1, 1, false, (0), 1, 0, 0, 0, []),
  (10, .iconst (1), 1, false, (1), 0, 0, 0, 0, []),
  (11, .invokevirtual 46, 3, false, (0), 107, 8, 3, 0, [(0, 0)]),
  (14, .aload_n 0, 1, false, (0), 0, 0, 0, 0, []),
  (15, .getfield 21, 3, false, (0), 6, 2, 0, 0, []),
  (18, .iload_n 1, 1, false, (0), 1, 0, 0, 0, []),
  (19, .iconst (2), 1, false, (2), 0, 0, 0, 0, []),
  (20, .invokevirtual 46, 3, false, (0), 107, 8, 3, 0, [(0, 0)]),
  (23, .aload_n 0, 1, false, (0), 0, 0, 0, 0, []),
  (24, .getfield 21, 3, false, (0), 6, 2, 0, 0, []),
  (27, .iload_n 1, 1, false, (0), 1, 0, 0, 0, []),
  (28, .iconst (3), 1, false, (3), 0, 0, 0, 0, []),
  (29, .invokevirtual 46, 3, false, (0), 107, 8, 3, 0, [(0, 0)]),
  (32, .invokevirtual 88, 3, false, (0), 159, 1, 5, 0, [(0, 0)]),
  (35, .ireturn, 1, false, (0), 0, 0, 0, 0, [])]
def f95 : sm_I := (⟨"TypedMill$Checker", "typeOfBlock", "(I)I"⟩, prog_2_method_8_code, 2, (some .int), 1, false, 6, c95)
def c96 : List sm_R := [
  (0, .aload_n 0, 1, false, (0), 0, 0, 0, 0, []),
  (1, .getfield 17, 3, false, (0), 6, 0, 0, 0, []),
  (4, .iload_n 1, 1, false, (0), 1, 0, 0, 0, []),
  (5, .invokevirtual 95, 3, false, (0), 153, 1, 2, 0, [(0, 0)]),
  (8, .ireturn, 1, false, (0), 0, 0, 0, 0, [])]
def f96 : sm_I := (⟨"TypedMill$Checker", "taken", "(I)I"⟩, prog_2_method_9_code, 2, (some .int), 1, false, 6, c96)
def c155 : List sm_R := [
  (0, .aload_n 0, 1, false, (0), 0, 0, 0, 0, []),
  (1, .iload_n 1, 1, false, (0), 1, 0, 0, 0, []),
  (2, .invokevirtual 47, 3, false, (0), 150, 1, 2, 0, [(0, 0)]),
  (5, .ifCond .eq (12), 3, false, (0), 9, 0, 0, 0, []),
  (8, .aload_n 0, 1, false, (0), 0, 0, 0, 0, []),
  (9, .getfield 21, 3, false, (0), 1, 3, 0, 0, []),
  (12, .iload_n 1, 1, false, (0), 1, 0, 0, 0, []),
  (13, .iaload, 1, false, (0), 0, 0, 0, 0, []),
  (14, .goto (4), 3, false, (0), 10, 0, 0, 0, []),
  (17, .iconst (-1), 1, false, (-1), 0, 0, 0, 0, []),
  (18, .ireturn, 1, true, (0), 0, 0, 0, 0, [])]
def f155 : sm_I := (⟨"TypedMill$Types", "thirdOf", "(I)I"⟩, prog_8_method_7_code, 2, (some .int), 1, false, 1, c155)
def c98 : List sm_R := [
  (0, .aload_n 0, 1, false, (0), 0, 0, 0, 0, []),
  (1, .getfield 17, 3, false, (0), 6, 0, 0, 0, []),
  (4, .iload_n 2, 1, false, (0), 2, 0, 0, 0, []),
  (5, .invokevirtual 92, 3, false, (0), 152, 1, 2, 0, [(0, 0)]),
  (8, .iconst (3), 1, false, (3), 0, 0, 0, 0, []),
  (9, .if_icmp .ne (14), 3, false, (0), 13, 0, 0, 0, []),
  (12, .iload_n 1, 1, false, (0), 1, 0, 0, 0, []),
  (13, .iconst (-1), 1, false, (-1), 0, 0, 0, 0, []),
  (14, .if_icmp .ne (7), 3, false, (0), 11, 0, 0, 0, []),
  (17, .iconst (1), 1, false, (1), 0, 0, 0, 0, []),
  (18, .goto (4), 3, false, (0), 12, 0, 0, 0, []),
  (21, .iconst (0), 1, false, (0), 0, 0, 0, 0, []),
  (22, .ireturn, 1, true, (0), 0, 0, 0, 0, []),
  (23, .aload_n 0, 1, false, (0), 0, 0, 0, 0, []),
  (24, .getfield 17, 3, false, (0), 6, 0, 0, 0, []),
  (27, .iload_n 1, 1, false, (0), 1, 0, 0, 0, []),
  (28, .invokevirtual 92, 3, false, (0), 152, 1, 2, 0, [(0, 0)]),
  (31, .iconst (3), 1, false, (3), 0, 0, 0, 0, []),
  (32, .if_icmp .ne (26), 3, false, (0), 30, 0, 0, 0, []),
  (35, .aload_n 0, 1, false, (0), 0, 0, 0, 0, []),
  (36, .getfield 17, 3, false, (0), 6, 0, 0, 0, []),
  (39, .iload_n 1, 1, false, (0), 1, 0, 0, 0, []),
  (40, .invokevirtual 95, 3, false, (0), 153, 1, 2, 0, [(0, 0)]),
  (43, .aload_n 0, 1, false, (0), 0, 0, 0, 0, []),
  (44, .getfield 17, 3, false, (0), 6, 0, 0, 0, []),
  (47, .iload_n 2, 1, false, (0), 2, 0, 0, 0, []),
  (48, .invokevirtual 98, 3, false, (0), 154, 1, 2, 0, [(0, 0)]),
  (51, .if_icmp .ne (7), 3, false, (0), 30, 0, 0, 0, []),
  (54, .iconst (1), 1, false, (1), 0, 0, 0, 0, []),
  (55, .goto (4), 3, false, (0), 31, 0, 0, 0, []),
  (58, .iconst (0), 1, true, (0), 0, 0, 0, 0, []),
  (59, .ireturn, 1, true, (0), 0, 0, 0, 0, [])]
def f98 : sm_I := (⟨"TypedMill$Checker", "waitsFor", "(II)Z"⟩, prog_2_method_11_code, 3, (some .boolean), 2, false, 6, c98)
def c97 : List sm_R := [
  (0, .aload_n 0, 1, false, (0), 0, 0, 0, 0, []),
  (1, .getfield 17, 3, false, (0), 6, 0, 0, 0, []),
  (4, .iload_n 1, 1, false, (0), 1, 0, 0, 0, []),
  (5, .invokevirtual 92, 3, false, (0), 152, 1, 2, 0, [(0, 0)]),
  (8, .iconst (1), 1, false, (1), 0, 0, 0, 0, []),
  (9, .if_icmp .eq (5), 3, false, (0), 8, 0, 0, 0, []),
  (12, .iconst (0), 1, false, (0), 0, 0, 0, 0, []),
  (13, .ireturn, 1, false, (0), 0, 0, 0, 0, []),
  (14, .aload_n 0, 1, false, (0), 0, 0, 0, 0, []),
  (15, .getfield 17, 3, false, (0), 6, 0, 0, 0, []),
  (18, .iload_n 1, 1, false, (0), 1, 0, 0, 0, []),
  (19, .invokevirtual 95, 3, false, (0), 153, 1, 2, 0, [(0, 0)]),
  (22, .istore_n 3, 1, false, (0), 3, 0, 0, 0, []),
  (23, .aload_n 0, 1, false, (0), 0, 0, 0, 0, []),
  (24, .getfield 17, 3, false, (0), 6, 0, 0, 0, []),
  (27, .iload_n 3, 1, false, (0), 3, 0, 0, 0, []),
  (28, .invokevirtual 92, 3, false, (0), 152, 1, 2, 0, [(0, 0)]),
  (31, .iconst (4), 1, false, (4), 0, 0, 0, 0, []),
  (32, .if_icmp .ne (22), 3, false, (0), 28, 0, 0, 0, []),
  (35, .aload_n 0, 1, false, (0), 0, 0, 0, 0, []),
  (36, .getfield 17, 3, false, (0), 6, 0, 0, 0, []),
  (39, .iload_n 3, 1, false, (0), 3, 0, 0, 0, []),
  (40, .invokevirtual 95, 3, false, (0), 153, 1, 2, 0, [(0, 0)]),
  (43, .aload_n 0, 1, false, (0), 0, 0, 0, 0, []),
  (44, .getfield 17, 3, false, (0), 6, 0, 0, 0, []),
  (47, .iload_n 1, 1, false, (0), 1, 0, 0, 0, []),
  (48, .invokevirtual 98, 3, false, (0), 154, 1, 2, 0, [(0, 0)]),
  (51, .if_icmp .eq (5), 3, false, (0), 30, 0, 0, 0, []),
  (54, .iconst (0), 1, true, (0), 0, 0, 0, 0, []),
  (55, .ireturn, 1, false, (0), 0, 0, 0, 0, []),
  (56, .aload_n 0, 1, false, (0), 0, 0, 0, 0, []),
  (57, .getfield 17, 3, false, (0), 6, 0, 0, 0, []),
  (60, .iload_n 3, 1, false, (0), 3, 0, 0, 0, []),
  (61, .invokevirtual 98, 3, false, (0), 154, 1, 2, 0, [(0, 0)]),
  (64, .aload_n 0, 1, false, (0), 0, 0, 0, 0, []),
  (65, .iload_n 2, 1, false, (0), 2, 0, 0, 0, []),
  (66, .invokevirtual 117, 3, false, (0), 96, 6, 2, 0, [(0, 0)]),
  (69, .if_icmp .ne (23), 3, false, (0), 48, 0, 0, 0, []),
  (72, .aload_n 0, 1, false, (0), 0, 0, 0, 0, []),
  (73, .aload_n 0, 1, false, (0), 0, 0, 0, 0, []),
  (74, .getfield 17, 3, false, (0), 6, 0, 0, 0, []),
  (77, .iload_n 3, 1, false, (0), 3, 0, 0, 0, []),
  (78, .invokevirtual 120, 3, false, (0), 155, 1, 2, 0, [(0, 0)]),
  (81, .iload_n 2, 1, false, (0), 2, 0, 0, 0, []),
  (82, .invokevirtual 123, 3, false, (0), 98, 6, 3, 0, [(0, 0)]),
  (85, .ifCond .eq (7), 3, false, (0), 48, 0, 0, 0, []),
  (88, .iconst (1), 1, false, (1), 0, 0, 0, 0, []),
  (89, .goto (4), 3, false, (0), 49, 0, 0, 0, []),
  (92, .iconst (0), 1, true, (0), 0, 0, 0, 0, []),
  (93, .ireturn, 1, true, (0), 0, 0, 0, 0, [])]
def f97 : sm_I := (⟨"TypedMill$Checker", "canWrap", "(II)Z"⟩, prog_2_method_10_code, 4, (some .boolean), 2, false, 6, c97)
def c157 : List sm_R := [
  (0, .aload_n 0, 1, false, (0), 0, 0, 0, 0, []),
  (1, .iconst (5), 1, false, (5), 0, 0, 0, 0, []),
  (2, .aload_n 0, 1, false, (0), 0, 0, 0, 0, []),
  (3, .getfield 43, 3, false, (0), 1, 7, 0, 0, []),
  (6, .iconst (-1), 1, false, (-1), 0, 0, 0, 0, []),
  (7, .iconst (-1), 1, false, (-1), 0, 0, 0, 0, []),
  (8, .invokevirtual 39, 3, false, (0), 159, 1, 5, 0, [(0, 0)]),
  (11, .ireturn, 1, false, (0), 0, 0, 0, 0, [])]
def f157 : sm_I := (⟨"TypedMill$Types", "hidden", "()I"⟩, prog_8_method_9_code, 1, (some .int), 0, false, 1, c157)
def c99 : List sm_R := [
  (0, .aload_n 0, 1, false, (0), 0, 0, 0, 0, []),
  (1, .getfield 17, 3, false, (0), 6, 0, 0, 0, []),
  (4, .iload_n 3, 1, false, (0), 3, 0, 0, 0, []),
  (5, .invokevirtual 92, 3, false, (0), 152, 1, 2, 0, [(0, 0)]),
  (8, .iconst (2), 1, false, (2), 0, 0, 0, 0, []),
  (9, .if_icmp .ne (7), 3, false, (0), 8, 0, 0, 0, []),
  (12, .iconst (1), 1, false, (1), 0, 0, 0, 0, []),
  (13, .goto (4), 3, false, (0), 9, 0, 0, 0, []),
  (16, .iconst (0), 1, false, (0), 0, 0, 0, 0, []),
  (17, .istore 4, 2, true, (0), 4, 0, 0, 0, []),
  (19, .iload 4, 2, false, (0), 4, 0, 0, 0, []),
  (21, .ifCond .ne (17), 3, false, (0), 20, 0, 0, 0, []),
  (24, .aload_n 0, 1, false, (0), 0, 0, 0, 0, []),
  (25, .getfield 17, 3, false, (0), 6, 0, 0, 0, []),
  (28, .iload_n 3, 1, false, (0), 3, 0, 0, 0, []),
  (29, .invokevirtual 92, 3, false, (0), 152, 1, 2, 0, [(0, 0)]),
  (32, .iconst (3), 1, false, (3), 0, 0, 0, 0, []),
  (33, .if_icmp .eq (5), 3, false, (0), 20, 0, 0, 0, []),
  (36, .iconst (0), 1, false, (0), 0, 0, 0, 0, []),
  (37, .ireturn, 1, false, (0), 0, 0, 0, 0, []),
  (38, .aload_n 0, 1, true, (0), 0, 0, 0, 0, []),
  (39, .getfield 17, 3, false, (0), 6, 0, 0, 0, []),
  (42, .invokevirtual 126, 3, false, (0), 157, 1, 1, 0, [(0, 0)]),
  (45, .istore 5, 2, false, (0), 5, 0, 0, 0, []),
  (47, .iload 4, 2, false, (0), 4, 0, 0, 0, []),
  (49, .ifCond .eq (24), 3, false, (0), 37, 0, 0, 0, []),
  (52, .aload_n 0, 1, false, (0), 0, 0, 0, 0, []),
  (53, .getfield 17, 3, false, (0), 6, 0, 0, 0, []),
  (56, .iconst (3), 1, false, (3), 0, 0, 0, 0, []),
  (57, .aload_n 0, 1, false, (0), 0, 0, 0, 0, []),
  (58, .getfield 17, 3, false, (0), 6, 0, 0, 0, []),
  (61, .iload_n 3, 1, false, (0), 3, 0, 0, 0, []),
  (62, .invokevirtual 98, 3, false, (0), 154, 1, 2, 0, [(0, 0)]),
  (65, .iconst (-1), 1, false, (-1), 0, 0, 0, 0, []),
  (66, .iconst (-1), 1, false, (-1), 0, 0, 0, 0, []),
  (67, .invokevirtual 88, 3, false, (0), 159, 1, 5, 0, [(0, 0)]),
  (70, .goto (4), 3, false, (0), 38, 0, 0, 0, []),
  (73, .iconst (-1), 1, false, (-1), 0, 0, 0, 0, []),
  (74, .istore 6, 2, true, (0), 6, 0, 0, 0, []),
  (76, .aload_n 0, 1, false, (0), 0, 0, 0, 0, []),
  (77, .iload_n 1, 1, false, (0), 1, 0, 0, 0, []),
  (78, .aload_n 0, 1, false, (0), 0, 0, 0, 0, []),
  (79, .getfield 17, 3, false, (0), 6, 0, 0, 0, []),
  (82, .iconst (4), 1, false, (4), 0, 0, 0, 0, []),
  (83, .iload 5, 2, false, (0), 5, 0, 0, 0, []),
  (85, .aload_n 0, 1, false, (0), 0, 0, 0, 0, []),
  (86, .iload_n 3, 1, false, (0), 3, 0, 0, 0, []),
  (87, .invokevirtual 117, 3, false, (0), 96, 6, 2, 0, [(0, 0)]),
  (90, .iload 6, 2, false, (0), 6, 0, 0, 0, []),
  (92, .invokevirtual 88, 3, false, (0), 159, 1, 5, 0, [(0, 0)]),
  (95, .invokevirtual 84, 3, false, (0), 94, 6, 3, 0, [(0, 0)]),
  (98, .ifCond .eq (17), 3, false, (0), 59, 0, 0, 0, []),
  (101, .aload_n 0, 1, false, (0), 0, 0, 0, 0, []),
  (102, .iload_n 2, 1, false, (0), 2, 0, 0, 0, []),
  (103, .iload 5, 2, false, (0), 5, 0, 0, 0, []),
  (105, .invokevirtual 84, 3, false, (0), 94, 6, 3, 0, [(0, 0)]),
  (108, .ifCond .eq (7), 3, false, (0), 59, 0, 0, 0, []),
  (111, .iconst (1), 1, false, (1), 0, 0, 0, 0, []),
  (112, .goto (4), 3, false, (0), 60, 0, 0, 0, []),
  (115, .iconst (0), 1, true, (0), 0, 0, 0, 0, []),
  (116, .ireturn, 1, true, (0), 0, 0, 0, 0, [])]
def f99 : sm_I := (⟨"TypedMill$Checker", "opens", "(III)Z"⟩, prog_2_method_12_code, 7, (some .boolean), 3, false, 6, c99)
def c102 : List sm_R := [
  (0, .iload_n 2, 1, false, (0), 2, 0, 0, 0, []),
  (1, .iconst (-1), 1, false, (-1), 0, 0, 0, 0, []),
  (2, .if_icmp .eq (13), 3, false, (0), 9, 0, 0, 0, []),
  (5, .aload_n 0, 1, false, (0), 0, 0, 0, 0, []),
  (6, .getfield 11, 3, false, (0), 6, 1, 0, 0, []),
  (9, .iload_n 1, 1, false, (0), 1, 0, 0, 0, []),
  (10, .iaload, 1, false, (0), 0, 0, 0, 0, []),
  (11, .iload_n 2, 1, false, (0), 2, 0, 0, 0, []),
  (12, .if_icmp .ne (7), 3, false, (0), 11, 0, 0, 0, []),
  (15, .iconst (1), 1, true, (1), 0, 0, 0, 0, []),
  (16, .goto (4), 3, false, (0), 12, 0, 0, 0, []),
  (19, .iconst (0), 1, false, (0), 0, 0, 0, 0, []),
  (20, .ireturn, 1, true, (0), 0, 0, 0, 0, [])]
def f102 : sm_I := (⟨"TypedMill$Checker", "canGive", "(II)Z"⟩, prog_2_method_15_code, 3, (some .boolean), 2, false, 6, c102)
def c100 : List sm_R := [
  (0, .aload_n 0, 1, false, (0), 0, 0, 0, 0, []),
  (1, .getfield 21, 3, false, (0), 6, 2, 0, 0, []),
  (4, .iload_n 1, 1, false, (0), 1, 0, 0, 0, []),
  (5, .invokevirtual 50, 3, false, (0), 104, 8, 2, 0, [(0, 0)]),
  (8, .ifCond .eq (58), 3, false, (0), 34, 0, 0, 0, []),
  (11, .aload_n 0, 1, false, (0), 0, 0, 0, 0, []),
  (12, .iconst (1), 1, false, (1), 0, 0, 0, 0, []),
  (13, .aload_n 0, 1, false, (0), 0, 0, 0, 0, []),
  (14, .getfield 21, 3, false, (0), 6, 2, 0, 0, []),
  (17, .iload_n 1, 1, false, (0), 1, 0, 0, 0, []),
  (18, .iconst (1), 1, false, (1), 0, 0, 0, 0, []),
  (19, .invokevirtual 46, 3, false, (0), 107, 8, 3, 0, [(0, 0)]),
  (22, .invokevirtual 130, 3, false, (0), 102, 6, 3, 0, [(0, 0)]),
  (25, .ifCond .eq (41), 3, false, (0), 34, 0, 0, 0, []),
  (28, .aload_n 0, 1, false, (0), 0, 0, 0, 0, []),
  (29, .iconst (2), 1, false, (2), 0, 0, 0, 0, []),
  (30, .aload_n 0, 1, false, (0), 0, 0, 0, 0, []),
  (31, .getfield 21, 3, false, (0), 6, 2, 0, 0, []),
  (34, .iload_n 1, 1, false, (0), 1, 0, 0, 0, []),
  (35, .iconst (2), 1, false, (2), 0, 0, 0, 0, []),
  (36, .invokevirtual 46, 3, false, (0), 107, 8, 3, 0, [(0, 0)]),
  (39, .invokevirtual 130, 3, false, (0), 102, 6, 3, 0, [(0, 0)]),
  (42, .ifCond .eq (24), 3, false, (0), 34, 0, 0, 0, []),
  (45, .aload_n 0, 1, false, (0), 0, 0, 0, 0, []),
  (46, .iconst (3), 1, false, (3), 0, 0, 0, 0, []),
  (47, .aload_n 0, 1, false, (0), 0, 0, 0, 0, []),
  (48, .getfield 21, 3, false, (0), 6, 2, 0, 0, []),
  (51, .iload_n 1, 1, false, (0), 1, 0, 0, 0, []),
  (52, .iconst (3), 1, false, (3), 0, 0, 0, 0, []),
  (53, .invokevirtual 46, 3, false, (0), 107, 8, 3, 0, [(0, 0)]),
  (56, .invokevirtual 130, 3, false, (0), 102, 6, 3, 0, [(0, 0)]),
  (59, .ifCond .eq (7), 3, false, (0), 34, 0, 0, 0, []),
  (62, .iconst (1), 1, false, (1), 0, 0, 0, 0, []),
  (63, .goto (4), 3, false, (0), 35, 0, 0, 0, []),
  (66, .iconst (0), 1, true, (0), 0, 0, 0, 0, []),
  (67, .ireturn, 1, true, (0), 0, 0, 0, 0, [])]
def f100 : sm_I := (⟨"TypedMill$Checker", "canEnter", "(I)Z"⟩, prog_2_method_13_code, 2, (some .boolean), 1, false, 6, c100)
def c101 : List sm_R := [
  (0, .aload_n 0, 1, false, (0), 0, 0, 0, 0, []),
  (1, .iconst (1), 1, false, (1), 0, 0, 0, 0, []),
  (2, .aload_n 0, 1, false, (0), 0, 0, 0, 0, []),
  (3, .getfield 17, 3, false, (0), 6, 0, 0, 0, []),
  (6, .iload_n 1, 1, false, (0), 1, 0, 0, 0, []),
  (7, .invokevirtual 95, 3, false, (0), 153, 1, 2, 0, [(0, 0)]),
  (10, .invokevirtual 130, 3, false, (0), 102, 6, 3, 0, [(0, 0)]),
  (13, .ifCond .eq (39), 3, false, (0), 26, 0, 0, 0, []),
  (16, .aload_n 0, 1, false, (0), 0, 0, 0, 0, []),
  (17, .iconst (2), 1, false, (2), 0, 0, 0, 0, []),
  (18, .aload_n 0, 1, false, (0), 0, 0, 0, 0, []),
  (19, .getfield 17, 3, false, (0), 6, 0, 0, 0, []),
  (22, .iload_n 1, 1, false, (0), 1, 0, 0, 0, []),
  (23, .invokevirtual 98, 3, false, (0), 154, 1, 2, 0, [(0, 0)]),
  (26, .invokevirtual 130, 3, false, (0), 102, 6, 3, 0, [(0, 0)]),
  (29, .ifCond .eq (23), 3, false, (0), 26, 0, 0, 0, []),
  (32, .aload_n 0, 1, false, (0), 0, 0, 0, 0, []),
  (33, .iconst (3), 1, false, (3), 0, 0, 0, 0, []),
  (34, .aload_n 0, 1, false, (0), 0, 0, 0, 0, []),
  (35, .getfield 17, 3, false, (0), 6, 0, 0, 0, []),
  (38, .iload_n 1, 1, false, (0), 1, 0, 0, 0, []),
  (39, .invokevirtual 120, 3, false, (0), 155, 1, 2, 0, [(0, 0)]),
  (42, .invokevirtual 130, 3, false, (0), 102, 6, 3, 0, [(0, 0)]),
  (45, .ifCond .eq (7), 3, false, (0), 26, 0, 0, 0, []),
  (48, .iconst (1), 1, false, (1), 0, 0, 0, 0, []),
  (49, .goto (4), 3, false, (0), 27, 0, 0, 0, []),
  (52, .iconst (0), 1, true, (0), 0, 0, 0, 0, []),
  (53, .ireturn, 1, true, (0), 0, 0, 0, 0, [])]
def f101 : sm_I := (⟨"TypedMill$Checker", "canGo", "(I)Z"⟩, prog_2_method_14_code, 2, (some .boolean), 1, false, 6, c101)
def c93 : List sm_R := [
  (0, .aload_n 0, 1, false, (0), 0, 0, 0, 0, []),
  (1, .getfield 21, 3, false, (0), 6, 2, 0, 0, []),
  (4, .getfield 75, 3, false, (0), 8, 2, 0, 0, []),
  (7, .iload_n 1, 1, false, (0), 1, 0, 0, 0, []),
  (8, .iaload, 1, false, (0), 0, 0, 0, 0, []),
  (9, .istore_n 2, 1, false, (0), 2, 0, 0, 0, []),
  (10, .aload_n 0, 1, false, (0), 0, 0, 0, 0, []),
  (11, .getfield 21, 3, false, (0), 6, 2, 0, 0, []),
  (14, .getfield 78, 3, false, (0), 8, 3, 0, 0, []),
  (17, .iload_n 1, 1, false, (0), 1, 0, 0, 0, []),
  (18, .iaload, 1, false, (0), 0, 0, 0, 0, []),
  (19, .istore_n 3, 1, false, (0), 3, 0, 0, 0, []),
  (20, .aload_n 0, 1, false, (0), 0, 0, 0, 0, []),
  (21, .getfield 21, 3, false, (0), 6, 2, 0, 0, []),
  (24, .getfield 81, 3, false, (0), 8, 4, 0, 0, []),
  (27, .iload_n 1, 1, false, (0), 1, 0, 0, 0, []),
  (28, .iaload, 1, false, (0), 0, 0, 0, 0, []),
  (29, .istore 4, 2, false, (0), 4, 0, 0, 0, []),
  (31, .aload_n 0, 1, false, (0), 0, 0, 0, 0, []),
  (32, .getfield 21, 3, false, (0), 6, 2, 0, 0, []),
  (35, .getfield 69, 3, false, (0), 8, 1, 0, 0, []),
  (38, .iload_n 1, 1, false, (0), 1, 0, 0, 0, []),
  (39, .iaload, 1, false, (0), 0, 0, 0, 0, []),
  (40, .tableswitch (367) (0) (11) #[(64), (71), (71), (71), (105), (162), (227), (257), (288), (302), (308), (331)], 64, false, (0), 194, 0, 0, 0, [((0), 24), ((1), 29), ((2), 29), ((3), 29), ((4), 48), ((5), 81), ((6), 115), ((7), 131), ((8), 148), ((9), 157), ((10), 161), ((11), 174)]),
  (104, .aload_n 0, 1, false, (0), 0, 0, 0, 0, []),
  (105, .iload_n 2, 1, false, (0), 2, 0, 0, 0, []),
  (106, .iconst (0), 1, false, (0), 0, 0, 0, 0, []),
  (107, .invokevirtual 84, 3, false, (0), 94, 6, 3, 0, [(0, 0)]),
  (110, .ireturn, 1, false, (0), 0, 0, 0, 0, []),
  (111, .aload_n 0, 1, true, (0), 0, 0, 0, 0, []),
  (112, .getfield 11, 3, false, (0), 6, 1, 0, 0, []),
  (115, .iload_n 3, 1, false, (0), 3, 0, 0, 0, []),
  (116, .iaload, 1, false, (0), 0, 0, 0, 0, []),
  (117, .ifCond .ne (26), 3, false, (0), 46, 0, 0, 0, []),
  (120, .aload_n 0, 1, false, (0), 0, 0, 0, 0, []),
  (121, .getfield 11, 3, false, (0), 6, 1, 0, 0, []),
  (124, .iload 4, 2, false, (0), 4, 0, 0, 0, []),
  (126, .iaload, 1, false, (0), 0, 0, 0, 0, []),
  (127, .ifCond .ne (16), 3, false, (0), 46, 0, 0, 0, []),
  (130, .aload_n 0, 1, false, (0), 0, 0, 0, 0, []),
  (131, .iload_n 2, 1, false, (0), 2, 0, 0, 0, []),
  (132, .iconst (0), 1, false, (0), 0, 0, 0, 0, []),
  (133, .invokevirtual 84, 3, false, (0), 94, 6, 3, 0, [(0, 0)]),
  (136, .ifCond .eq (7), 3, false, (0), 46, 0, 0, 0, []),
  (139, .iconst (1), 1, false, (1), 0, 0, 0, 0, []),
  (140, .goto (4), 3, false, (0), 47, 0, 0, 0, []),
  (143, .iconst (0), 1, true, (0), 0, 0, 0, 0, []),
  (144, .ireturn, 1, true, (0), 0, 0, 0, 0, []),
  (145, .aload_n 0, 1, false, (0), 0, 0, 0, 0, []),
  (146, .getfield 11, 3, false, (0), 6, 1, 0, 0, []),
  (149, .iload_n 3, 1, false, (0), 3, 0, 0, 0, []),
  (150, .iaload, 1, false, (0), 0, 0, 0, 0, []),
  (151, .iconst (-1), 1, false, (-1), 0, 0, 0, 0, []),
  (152, .if_icmp .eq (48), 3, false, (0), 79, 0, 0, 0, []),
  (155, .aload_n 0, 1, false, (0), 0, 0, 0, 0, []),
  (156, .getfield 11, 3, false, (0), 6, 1, 0, 0, []),
  (159, .iload 4, 2, false, (0), 4, 0, 0, 0, []),
  (161, .iaload, 1, false, (0), 0, 0, 0, 0, []),
  (162, .iconst (-1), 1, false, (-1), 0, 0, 0, 0, []),
  (163, .if_icmp .eq (37), 3, false, (0), 79, 0, 0, 0, []),
  (166, .aload_n 0, 1, false, (0), 0, 0, 0, 0, []),
  (167, .iload_n 2, 1, false, (0), 2, 0, 0, 0, []),
  (168, .aload_n 0, 1, false, (0), 0, 0, 0, 0, []),
  (169, .getfield 17, 3, false, (0), 6, 0, 0, 0, []),
  (172, .iconst (1), 1, false, (1), 0, 0, 0, 0, []),
  (173, .aload_n 0, 1, false, (0), 0, 0, 0, 0, []),
  (174, .getfield 11, 3, false, (0), 6, 1, 0, 0, []),
  (177, .iload_n 3, 1, false, (0), 3, 0, 0, 0, []),
  (178, .iaload, 1, false, (0), 0, 0, 0, 0, []),
  (179, .aload_n 0, 1, false, (0), 0, 0, 0, 0, []),
  (180, .getfield 11, 3, false, (0), 6, 1, 0, 0, []),
  (183, .iload 4, 2, false, (0), 4, 0, 0, 0, []),
  (185, .iaload, 1, false, (0), 0, 0, 0, 0, []),
  (186, .iconst (-1), 1, false, (-1), 0, 0, 0, 0, []),
  (187, .invokevirtual 88, 3, false, (0), 159, 1, 5, 0, [(0, 0)]),
  (190, .invokevirtual 84, 3, false, (0), 94, 6, 3, 0, [(0, 0)]),
  (193, .ifCond .eq (7), 3, false, (0), 79, 0, 0, 0, []),
  (196, .iconst (1), 1, false, (1), 0, 0, 0, 0, []),
  (197, .goto (4), 3, false, (0), 80, 0, 0, 0, []),
  (200, .iconst (0), 1, true, (0), 0, 0, 0, 0, []),
  (201, .ireturn, 1, true, (0), 0, 0, 0, 0, []),
  (202, .aload_n 0, 1, false, (0), 0, 0, 0, 0, []),
  (203, .getfield 17, 3, false, (0), 6, 0, 0, 0, []),
  (206, .aload_n 0, 1, false, (0), 0, 0, 0, 0, []),
  (207, .getfield 11, 3, false, (0), 6, 1, 0, 0, []),
  (210, .iload_n 3, 1, false, (0), 3, 0, 0, 0, []),
  (211, .iaload, 1, false, (0), 0, 0, 0, 0, []),
  (212, .invokevirtual 92, 3, false, (0), 152, 1, 2, 0, [(0, 0)]),
  (215, .iconst (1), 1, false, (1), 0, 0, 0, 0, []),
  (216, .if_icmp .ne (49), 3, false, (0), 113, 0, 0, 0, []),
  (219, .aload_n 0, 1, false, (0), 0, 0, 0, 0, []),
  (220, .iload_n 2, 1, false, (0), 2, 0, 0, 0, []),
  (221, .iload 4, 2, false, (0), 4, 0, 0, 0, []),
  (223, .ifCond .ne (19), 3, false, (0), 102, 0, 0, 0, []),
  (226, .aload_n 0, 1, false, (0), 0, 0, 0, 0, []),
  (227, .getfield 17, 3, false, (0), 6, 0, 0, 0, []),
  (230, .aload_n 0, 1, false, (0), 0, 0, 0, 0, []),
  (231, .getfield 11, 3, false, (0), 6, 1, 0, 0, []),
  (234, .iload_n 3, 1, false, (0), 3, 0, 0, 0, []),
  (235, .iaload, 1, false, (0), 0, 0, 0, 0, []),
  (236, .invokevirtual 95, 3, false, (0), 153, 1, 2, 0, [(0, 0)]),
  (239, .goto (16), 3, false, (0), 109, 0, 0, 0, []),
  (242, .aload_n 0, 1, false, (0), 0, 0, 0, 0, []),
  (243, .getfield 17, 3, false, (0), 6, 0, 0, 0, []),
  (246, .aload_n 0, 1, false, (0), 0, 0, 0, 0, []),
  (247, .getfield 11, 3, false, (0), 6, 1, 0, 0, []),
  (250, .iload_n 3, 1, false, (0), 3, 0, 0, 0, []),
  (251, .iaload, 1, false, (0), 0, 0, 0, 0, []),
  (252, .invokevirtual 98, 3, false, (0), 154, 1, 2, 0, [(0, 0)]),
  (255, .invokevirtual 84, 3, true, (0), 94, 6, 3, 0, [(0, 0)]),
  (258, .ifCond .eq (7), 3, false, (0), 113, 0, 0, 0, []),
  (261, .iconst (1), 1, false, (1), 0, 0, 0, 0, []),
  (262, .goto (4), 3, false, (0), 114, 0, 0, 0, []),
  (265, .iconst (0), 1, true, (0), 0, 0, 0, 0, []),
  (266, .ireturn, 1, true, (0), 0, 0, 0, 0, []),
  (267, .aload_n 0, 1, false, (0), 0, 0, 0, 0, []),
  (268, .getfield 21, 3, false, (0), 6, 2, 0, 0, []),
  (271, .iload_n 3, 1, false, (0), 3, 0, 0, 0, []),
  (272, .invokevirtual 50, 3, false, (0), 104, 8, 2, 0, [(0, 0)]),
  (275, .ifCond .eq (20), 3, false, (0), 129, 0, 0, 0, []),
  (278, .aload_n 0, 1, false, (0), 0, 0, 0, 0, []),
  (279, .iload_n 2, 1, false, (0), 2, 0, 0, 0, []),
  (280, .aload_n 0, 1, false, (0), 0, 0, 0, 0, []),
  (281, .iload_n 3, 1, false, (0), 3, 0, 0, 0, []),
  (282, .invokevirtual 101, 3, false, (0), 95, 6, 2, 0, [(0, 0)]),
  (285, .invokevirtual 84, 3, false, (0), 94, 6, 3, 0, [(0, 0)]),
  (288, .ifCond .eq (7), 3, false, (0), 129, 0, 0, 0, []),
  (291, .iconst (1), 1, false, (1), 0, 0, 0, 0, []),
  (292, .goto (4), 3, false, (0), 130, 0, 0, 0, []),
  (295, .iconst (0), 1, true, (0), 0, 0, 0, 0, []),
  (296, .ireturn, 1, true, (0), 0, 0, 0, 0, []),
  (297, .aload_n 0, 1, false, (0), 0, 0, 0, 0, []),
  (298, .aload_n 0, 1, false, (0), 0, 0, 0, 0, []),
  (299, .getfield 11, 3, false, (0), 6, 1, 0, 0, []),
  (302, .iload_n 3, 1, false, (0), 3, 0, 0, 0, []),
  (303, .iaload, 1, false, (0), 0, 0, 0, 0, []),
  (304, .iload 4, 2, false, (0), 4, 0, 0, 0, []),
  (306, .invokevirtual 104, 3, false, (0), 97, 6, 3, 0, [(0, 0)]),
  (309, .ifCond .eq (17), 3, false, (0), 146, 0, 0, 0, []),
  (312, .aload_n 0, 1, false, (0), 0, 0, 0, 0, []),
  (313, .iload_n 2, 1, false, (0), 2, 0, 0, 0, []),
  (314, .iload 4, 2, false, (0), 4, 0, 0, 0, []),
  (316, .invokevirtual 84, 3, false, (0), 94, 6, 3, 0, [(0, 0)]),
  (319, .ifCond .eq (7), 3, false, (0), 146, 0, 0, 0, []),
  (322, .iconst (1), 1, false, (1), 0, 0, 0, 0, []),
  (323, .goto (4), 3, false, (0), 147, 0, 0, 0, []),
  (326, .iconst (0), 1, true, (0), 0, 0, 0, 0, []),
  (327, .ireturn, 1, true, (0), 0, 0, 0, 0, []),
  (328, .aload_n 0, 1, false, (0), 0, 0, 0, 0, []),
  (329, .iload_n 2, 1, false, (0), 2, 0, 0, 0, []),
  (330, .iload_n 3, 1, false, (0), 3, 0, 0, 0, []),
  (331, .aload_n 0, 1, false, (0), 0, 0, 0, 0, []),
  (332, .getfield 11, 3, false, (0), 6, 1, 0, 0, []),
  (335, .iload 4, 2, false, (0), 4, 0, 0, 0, []),
  (337, .iaload, 1, false, (0), 0, 0, 0, 0, []),
  (338, .invokevirtual 107, 3, false, (0), 99, 6, 4, 0, [(0, 0)]),
  (341, .ireturn, 1, false, (0), 0, 0, 0, 0, []),
  (342, .aload_n 0, 1, false, (0), 0, 0, 0, 0, []),
  (343, .iload_n 2, 1, false, (0), 2, 0, 0, 0, []),
  (344, .invokevirtual 111, 3, false, (0), 100, 6, 2, 0, [(0, 0)]),
  (347, .ireturn, 1, false, (0), 0, 0, 0, 0, []),
  (348, .aload_n 0, 1, false, (0), 0, 0, 0, 0, []),
  (349, .getfield 11, 3, false, (0), 6, 1, 0, 0, []),
  (352, .iload_n 2, 1, false, (0), 2, 0, 0, 0, []),
  (353, .iaload, 1, false, (0), 0, 0, 0, 0, []),
  (354, .ifCond .ne (15), 3, false, (0), 172, 0, 0, 0, []),
  (357, .aload_n 0, 1, false, (0), 0, 0, 0, 0, []),
  (358, .iload_n 3, 1, false, (0), 3, 0, 0, 0, []),
  (359, .invokevirtual 111, 3, false, (0), 100, 6, 2, 0, [(0, 0)]),
  (362, .ifCond .eq (7), 3, false, (0), 172, 0, 0, 0, []),
  (365, .iconst (1), 1, false, (1), 0, 0, 0, 0, []),
  (366, .goto (4), 3, false, (0), 173, 0, 0, 0, []),
  (369, .iconst (0), 1, true, (0), 0, 0, 0, 0, []),
  (370, .ireturn, 1, true, (0), 0, 0, 0, 0, []),
  (371, .aload_n 0, 1, false, (0), 0, 0, 0, 0, []),
  (372, .getfield 17, 3, false, (0), 6, 0, 0, 0, []),
  (375, .aload_n 0, 1, false, (0), 0, 0, 0, 0, []),
  (376, .getfield 11, 3, false, (0), 6, 1, 0, 0, []),
  (379, .iload_n 2, 1, false, (0), 2, 0, 0, 0, []),
  (380, .iaload, 1, false, (0), 0, 0, 0, 0, []),
  (381, .invokevirtual 92, 3, false, (0), 152, 1, 2, 0, [(0, 0)]),
  (384, .iconst (4), 1, false, (4), 0, 0, 0, 0, []),
  (385, .if_icmp .ne (20), 3, false, (0), 192, 0, 0, 0, []),
  (388, .aload_n 0, 1, false, (0), 0, 0, 0, 0, []),
  (389, .aload_n 0, 1, false, (0), 0, 0, 0, 0, []),
  (390, .getfield 11, 3, false, (0), 6, 1, 0, 0, []),
  (393, .iload_n 2, 1, false, (0), 2, 0, 0, 0, []),
  (394, .iaload, 1, false, (0), 0, 0, 0, 0, []),
  (395, .invokevirtual 114, 3, false, (0), 101, 6, 2, 0, [(0, 0)]),
  (398, .ifCond .eq (7), 3, false, (0), 192, 0, 0, 0, []),
  (401, .iconst (1), 1, false, (1), 0, 0, 0, 0, []),
  (402, .goto (4), 3, false, (0), 193, 0, 0, 0, []),
  (405, .iconst (0), 1, true, (0), 0, 0, 0, 0, []),
  (406, .ireturn, 1, true, (0), 0, 0, 0, 0, []),
  (407, .aload_n 0, 1, false, (0), 0, 0, 0, 0, []),
  (408, .getfield 11, 3, false, (0), 6, 1, 0, 0, []),
  (411, .iconst (2), 1, false, (2), 0, 0, 0, 0, []),
  (412, .iaload, 1, false, (0), 0, 0, 0, 0, []),
  (413, .ifCond .ne (7), 3, false, (0), 201, 0, 0, 0, []),
  (416, .iconst (1), 1, false, (1), 0, 0, 0, 0, []),
  (417, .goto (4), 3, false, (0), 202, 0, 0, 0, []),
  (420, .iconst (0), 1, false, (0), 0, 0, 0, 0, []),
  (421, .ireturn, 1, true, (0), 0, 0, 0, 0, [])]
def f93 : sm_I := (⟨"TypedMill$Checker", "isRight", "(I)Z"⟩, prog_2_method_6_code, 5, (some .boolean), 1, false, 6, c93)
def c92 : List sm_R := [
  (0, .iload_n 0, 1, false, (0), 0, 0, 0, 0, []),
  (1, .bipush (9), 2, false, (9), 0, 0, 0, 0, []),
  (3, .if_icmp .eq (15), 3, false, (0), 9, 0, 0, 0, []),
  (6, .iload_n 0, 1, false, (0), 0, 0, 0, 0, []),
  (7, .bipush (11), 2, false, (11), 0, 0, 0, 0, []),
  (9, .if_icmp .eq (9), 3, false, (0), 9, 0, 0, 0, []),
  (12, .iload_n 0, 1, false, (0), 0, 0, 0, 0, []),
  (13, .bipush (12), 2, false, (12), 0, 0, 0, 0, []),
  (15, .if_icmp .ne (7), 3, false, (0), 11, 0, 0, 0, []),
  (18, .iconst (1), 1, true, (1), 0, 0, 0, 0, []),
  (19, .goto (4), 3, false, (0), 12, 0, 0, 0, []),
  (22, .iconst (0), 1, false, (0), 0, 0, 0, 0, []),
  (23, .ireturn, 1, true, (0), 0, 0, 0, 0, [])]
def f92 : sm_I := (⟨"TypedMill$Checker", "ends", "(I)Z"⟩, prog_2_method_5_code, 1, (some .boolean), 1, true, 6, c92)
def c91 : List sm_R := [
  (0, .aload_n 0, 1, false, (0), 0, 0, 0, 0, []),
  (1, .getfield 11, 3, false, (0), 6, 1, 0, 0, []),
  (4, .iconst (-1), 1, false, (-1), 0, 0, 0, 0, []),
  (5, .invokestatic 54, 3, false, (0), 173, 0, 2, 0, []),
  (8, .iconst (1), 1, false, (1), 0, 0, 0, 0, []),
  (9, .istore_n 2, 1, false, (0), 2, 0, 0, 0, []),
  (10, .iload_n 2, 1, true, (0), 2, 0, 0, 0, []),
  (11, .iconst (3), 1, false, (3), 0, 0, 0, 0, []),
  (12, .if_icmp .gt (24), 3, false, (0), 20, 0, 0, 0, []),
  (15, .aload_n 0, 1, false, (0), 0, 0, 0, 0, []),
  (16, .getfield 11, 3, false, (0), 6, 1, 0, 0, []),
  (19, .iload_n 2, 1, false, (0), 2, 0, 0, 0, []),
  (20, .aload_n 0, 1, false, (0), 0, 0, 0, 0, []),
  (21, .getfield 21, 3, false, (0), 6, 2, 0, 0, []),
  (24, .iload_n 1, 1, false, (0), 1, 0, 0, 0, []),
  (25, .iload_n 2, 1, false, (0), 2, 0, 0, 0, []),
  (26, .invokevirtual 46, 3, false, (0), 107, 8, 3, 0, [(0, 0)]),
  (29, .iastore, 1, false, (0), 0, 0, 0, 0, []),
  (30, .iinc 2 (1), 3, false, (1), 2, 0, 0, 0, []),
  (33, .goto (-23), 3, false, (0), 6, 0, 0, 0, []),
  (36, .aload_n 0, 1, false, (0), 0, 0, 0, 0, []),
  (37, .getfield 21, 3, false, (0), 6, 2, 0, 0, []),
  (40, .iload_n 1, 1, false, (0), 1, 0, 0, 0, []),
  (41, .invokevirtual 60, 3, false, (0), 105, 8, 2, 0, [(0, 0)]),
  (44, .istore_n 2, 1, false, (0), 2, 0, 0, 0, []),
  (45, .aload_n 0, 1, false, (0), 0, 0, 0, 0, []),
  (46, .getfield 21, 3, false, (0), 6, 2, 0, 0, []),
  (49, .iload_n 1, 1, false, (0), 1, 0, 0, 0, []),
  (50, .invokevirtual 63, 3, false, (0), 106, 8, 2, 0, [(0, 0)]),
  (53, .istore_n 3, 1, false, (0), 3, 0, 0, 0, []),
  (54, .iconst (0), 1, false, (0), 0, 0, 0, 0, []),
  (55, .istore 4, 2, false, (0), 4, 0, 0, 0, []),
  (57, .iconst (0), 1, false, (0), 0, 0, 0, 0, []),
  (58, .istore 5, 2, false, (0), 5, 0, 0, 0, []),
  (60, .iload 5, 2, true, (0), 5, 0, 0, 0, []),
  (62, .iload_n 3, 1, false, (0), 3, 0, 0, 0, []),
  (63, .if_icmp .ge (45), 3, false, (0), 58, 0, 0, 0, []),
  (66, .iload 4, 2, false, (0), 4, 0, 0, 0, []),
  (68, .ifCond .ne (14), 3, false, (0), 45, 0, 0, 0, []),
  (71, .aload_n 0, 1, false, (0), 0, 0, 0, 0, []),
  (72, .iload_n 2, 1, false, (0), 2, 0, 0, 0, []),
  (73, .iload 5, 2, false, (0), 5, 0, 0, 0, []),
  (75, .iadd, 1, false, (0), 0, 0, 0, 0, []),
  (76, .invokevirtual 66, 3, false, (0), 93, 6, 2, 0, [(0, 0)]),
  (79, .ifCond .ne (6), 3, false, (0), 47, 0, 0, 0, []),
  (82, .iload 5, 2, true, (0), 5, 0, 0, 0, []),
  (84, .ireturn, 1, false, (0), 0, 0, 0, 0, []),
  (85, .aload_n 0, 1, false, (0), 0, 0, 0, 0, []),
  (86, .getfield 21, 3, false, (0), 6, 2, 0, 0, []),
  (89, .getfield 69, 3, false, (0), 8, 1, 0, 0, []),
  (92, .iload_n 2, 1, false, (0), 2, 0, 0, 0, []),
  (93, .iload 5, 2, false, (0), 5, 0, 0, 0, []),
  (95, .iadd, 1, false, (0), 0, 0, 0, 0, []),
  (96, .iaload, 1, false, (0), 0, 0, 0, 0, []),
  (97, .invokestatic 72, 3, false, (0), 92, 0, 1, 0, [(0, 0)]),
  (100, .istore 4, 2, false, (0), 4, 0, 0, 0, []),
  (102, .iinc 5 (1), 3, false, (1), 5, 0, 0, 0, []),
  (105, .goto (-45), 3, false, (0), 34, 0, 0, 0, []),
  (108, .iload 4, 2, false, (0), 4, 0, 0, 0, []),
  (110, .ifCond .eq (7), 3, false, (0), 62, 0, 0, 0, []),
  (113, .iconst (-1), 1, false, (-1), 0, 0, 0, 0, []),
  (114, .goto (4), 3, false, (0), 63, 0, 0, 0, []),
  (117, .iload_n 3, 1, false, (0), 3, 0, 0, 0, []),
  (118, .ireturn, 1, true, (0), 0, 0, 0, 0, [])]
def f91 : sm_I := (⟨"TypedMill$Checker", "firstWrong", "(I)I"⟩, prog_2_method_4_code, 6, (some .int), 1, false, 6, c91)
def c89 : List sm_R := [
  (0, .aload_n 0, 1, false, (0), 0, 0, 0, 0, []),
  (1, .aload_n 1, 1, false, (0), 1, 0, 0, 0, []),
  (2, .putfield 21, 3, false, (0), 6, 2, 0, 0, []),
  (5, .aload_n 0, 1, false, (0), 0, 0, 0, 0, []),
  (6, .invokevirtual 25, 3, false, (0), 90, 6, 1, 0, [(0, 0)]),
  (9, .ifCond .ne (5), 3, false, (0), 8, 0, 0, 0, []),
  (12, .iconst (0), 1, false, (0), 0, 0, 0, 0, []),
  (13, .ireturn, 1, false, (0), 0, 0, 0, 0, []),
  (14, .iconst (0), 1, false, (0), 0, 0, 0, 0, []),
  (15, .istore_n 2, 1, false, (0), 2, 0, 0, 0, []),
  (16, .iload_n 2, 1, true, (0), 2, 0, 0, 0, []),
  (17, .aload_n 0, 1, false, (0), 0, 0, 0, 0, []),
  (18, .getfield 21, 3, false, (0), 6, 2, 0, 0, []),
  (21, .getfield 29, 3, false, (0), 8, 11, 0, 0, []),
  (24, .if_icmp .ge (47), 3, false, (0), 38, 0, 0, 0, []),
  (27, .aload_n 0, 1, false, (0), 0, 0, 0, 0, []),
  (28, .getfield 17, 3, false, (0), 6, 0, 0, 0, []),
  (31, .getfield 33, 3, false, (0), 1, 7, 0, 0, []),
  (34, .istore_n 3, 1, false, (0), 3, 0, 0, 0, []),
  (35, .aload_n 0, 1, false, (0), 0, 0, 0, 0, []),
  (36, .iload_n 2, 1, false, (0), 2, 0, 0, 0, []),
  (37, .invokevirtual 38, 3, false, (0), 91, 6, 2, 0, [(0, 0)]),
  (40, .istore 4, 2, false, (0), 4, 0, 0, 0, []),
  (42, .aload_n 0, 1, false, (0), 0, 0, 0, 0, []),
  (43, .getfield 17, 3, false, (0), 6, 0, 0, 0, []),
  (46, .iload_n 3, 1, false, (0), 3, 0, 0, 0, []),
  (47, .invokevirtual 42, 3, false, (0), 160, 1, 2, 0, []),
  (50, .iload 4, 2, false, (0), 4, 0, 0, 0, []),
  (52, .iconst (-1), 1, false, (-1), 0, 0, 0, 0, []),
  (53, .if_icmp .eq (12), 3, false, (0), 36, 0, 0, 0, []),
  (56, .sipush (1000), 3, false, (1000), 0, 0, 0, 0, []),
  (59, .iload_n 2, 1, false, (0), 2, 0, 0, 0, []),
  (60, .imul, 1, false, (0), 0, 0, 0, 0, []),
  (61, .iload 4, 2, false, (0), 4, 0, 0, 0, []),
  (63, .iadd, 1, false, (0), 0, 0, 0, 0, []),
  (64, .ireturn, 1, false, (0), 0, 0, 0, 0, []),
  (65, .iinc 2 (1), 3, false, (1), 2, 0, 0, 0, []),
  (68, .goto (-52), 3, false, (0), 10, 0, 0, 0, []),
  (71, .iconst (-1), 1, false, (-1), 0, 0, 0, 0, []),
  (72, .ireturn, 1, false, (0), 0, 0, 0, 0, [])]
def f89 : sm_I := (⟨"TypedMill$Checker", "verdictOn", "(LTypedMill$Code;)I"⟩, prog_2_method_2_code, 5, (some .int), 1, false, 6, c89)
def c8 : List sm_R := [
  (0, .aload_n 0, 1, false, (0), 0, 0, 0, 0, []),
  (1, .getfield 67, 3, false, (0), 0, 7, 0, 0, []),
  (4, .getfield 149, 3, false, (0), 8, 13, 0, 0, []),
  (7, .ifCond .eq (13), 3, false, (0), 8, 0, 0, 0, []),
  (10, .aload_n 0, 1, false, (0), 0, 0, 0, 0, []),
  (11, .getfield 67, 3, false, (0), 0, 7, 0, 0, []),
  (14, .getfield 135, 3, false, (0), 8, 14, 0, 0, []),
  (17, .goto (14), 3, false, (0), 13, 0, 0, 0, []),
  (20, .aload_n 0, 1, false, (0), 0, 0, 0, 0, []),
  (21, .getfield 53, 3, false, (0), 0, 5, 0, 0, []),
  (24, .aload_n 0, 1, false, (0), 0, 0, 0, 0, []),
  (25, .getfield 67, 3, false, (0), 0, 7, 0, 0, []),
  (28, .invokevirtual 131, 3, false, (0), 89, 6, 2, 32, [(0, 0)]),
  (31, .ireturn, 1, false, (0), 0, 0, 0, 0, [])]
def f8 : sm_I := (⟨"TypedMill", "check", "()I"⟩, prog_1_method_12_code, 1, (some .int), 0, false, 0, c8)
def c114 : List sm_R := [
  (0, .iload_n 1, 1, false, (0), 1, 0, 0, 0, []),
  (1, .ifCond .lt (11), 3, false, (0), 6, 0, 0, 0, []),
  (4, .iload_n 1, 1, false, (0), 1, 0, 0, 0, []),
  (5, .aload_n 0, 1, false, (0), 0, 0, 0, 0, []),
  (6, .getfield 47, 3, false, (0), 8, 6, 0, 0, []),
  (9, .if_icmp .lt (5), 3, false, (0), 8, 0, 0, 0, []),
  (12, .iconst (-1), 1, true, (-1), 0, 0, 0, 0, []),
  (13, .ireturn, 1, false, (0), 0, 0, 0, 0, []),
  (14, .iload_n 2, 1, false, (0), 2, 0, 0, 0, []),
  (15, .tableswitch (57) (0) (3) #[(29), (36), (43), (50)], 29, false, (0), 30, 0, 0, 0, [((0), 10), ((1), 15), ((2), 20), ((3), 25)]),
  (44, .aload_n 0, 1, false, (0), 0, 0, 0, 0, []),
  (45, .getfield 11, 3, false, (0), 8, 1, 0, 0, []),
  (48, .iload_n 1, 1, false, (0), 1, 0, 0, 0, []),
  (49, .iaload, 1, false, (0), 0, 0, 0, 0, []),
  (50, .ireturn, 1, false, (0), 0, 0, 0, 0, []),
  (51, .aload_n 0, 1, false, (0), 0, 0, 0, 0, []),
  (52, .getfield 15, 3, false, (0), 8, 2, 0, 0, []),
  (55, .iload_n 1, 1, false, (0), 1, 0, 0, 0, []),
  (56, .iaload, 1, false, (0), 0, 0, 0, 0, []),
  (57, .ireturn, 1, false, (0), 0, 0, 0, 0, []),
  (58, .aload_n 0, 1, false, (0), 0, 0, 0, 0, []),
  (59, .getfield 18, 3, false, (0), 8, 3, 0, 0, []),
  (62, .iload_n 1, 1, false, (0), 1, 0, 0, 0, []),
  (63, .iaload, 1, false, (0), 0, 0, 0, 0, []),
  (64, .ireturn, 1, false, (0), 0, 0, 0, 0, []),
  (65, .aload_n 0, 1, false, (0), 0, 0, 0, 0, []),
  (66, .getfield 24, 3, false, (0), 8, 5, 0, 0, []),
  (69, .iload_n 1, 1, false, (0), 1, 0, 0, 0, []),
  (70, .iaload, 1, false, (0), 0, 0, 0, 0, []),
  (71, .ireturn, 1, false, (0), 0, 0, 0, 0, []),
  (72, .iconst (-1), 1, false, (-1), 0, 0, 0, 0, []),
  (73, .ireturn, 1, false, (0), 0, 0, 0, 0, [])]
def f114 : sm_I := (⟨"TypedMill$Code", "tellInstruction", "(II)I"⟩, prog_3_method_13_code, 3, (some .int), 2, false, 8, c114)
def c9 : List sm_R := [
  (0, .aload_n 0, 1, false, (0), 0, 0, 0, 0, []),
  (1, .getfield 67, 3, false, (0), 0, 7, 0, 0, []),
  (4, .iload_n 1, 1, false, (0), 1, 0, 0, 0, []),
  (5, .iload_n 2, 1, false, (0), 2, 0, 0, 0, []),
  (6, .invokevirtual 170, 3, false, (0), 114, 8, 3, 0, [(0, 0)]),
  (9, .ireturn, 1, false, (0), 0, 0, 0, 0, [])]
def f9 : sm_I := (⟨"TypedMill", "instruction", "(II)I"⟩, prog_1_method_13_code, 3, (some .int), 2, false, 0, c9)
def c115 : List sm_R := [
  (0, .aload_n 0, 1, false, (0), 0, 0, 0, 0, []),
  (1, .iload_n 1, 1, false, (0), 1, 0, 0, 0, []),
  (2, .invokevirtual 60, 3, false, (0), 104, 8, 2, 0, [(0, 0)]),
  (5, .ifCond .ne (5), 3, false, (0), 6, 0, 0, 0, []),
  (8, .iconst (-1), 1, false, (-1), 0, 0, 0, 0, []),
  (9, .ireturn, 1, false, (0), 0, 0, 0, 0, []),
  (10, .iload_n 2, 1, false, (0), 2, 0, 0, 0, []),
  (11, .tableswitch (60) (0) (4) #[(33), (40), (47), (47), (47)], 33, false, (0), 29, 0, 0, 0, [((0), 8), ((1), 13), ((2), 18), ((3), 18), ((4), 18)]),
  (44, .aload_n 0, 1, false, (0), 0, 0, 0, 0, []),
  (45, .getfield 27, 3, false, (0), 8, 7, 0, 0, []),
  (48, .iload_n 1, 1, false, (0), 1, 0, 0, 0, []),
  (49, .iaload, 1, false, (0), 0, 0, 0, 0, []),
  (50, .ireturn, 1, false, (0), 0, 0, 0, 0, []),
  (51, .aload_n 0, 1, false, (0), 0, 0, 0, 0, []),
  (52, .getfield 30, 3, false, (0), 8, 8, 0, 0, []),
  (55, .iload_n 1, 1, false, (0), 1, 0, 0, 0, []),
  (56, .iaload, 1, false, (0), 0, 0, 0, 0, []),
  (57, .ireturn, 1, false, (0), 0, 0, 0, 0, []),
  (58, .aload_n 0, 1, true, (0), 0, 0, 0, 0, []),
  (59, .getfield 36, 3, false, (0), 8, 10, 0, 0, []),
  (62, .iconst (3), 1, false, (3), 0, 0, 0, 0, []),
  (63, .iload_n 1, 1, false, (0), 1, 0, 0, 0, []),
  (64, .imul, 1, false, (0), 0, 0, 0, 0, []),
  (65, .iload_n 2, 1, false, (0), 2, 0, 0, 0, []),
  (66, .iadd, 1, false, (0), 0, 0, 0, 0, []),
  (67, .iconst (2), 1, false, (2), 0, 0, 0, 0, []),
  (68, .isub, 1, false, (0), 0, 0, 0, 0, []),
  (69, .iaload, 1, false, (0), 0, 0, 0, 0, []),
  (70, .ireturn, 1, false, (0), 0, 0, 0, 0, []),
  (71, .iconst (-1), 1, false, (-1), 0, 0, 0, 0, []),
  (72, .ireturn, 1, false, (0), 0, 0, 0, 0, [])]
def f115 : sm_I := (⟨"TypedMill$Code", "tellBlock", "(II)I"⟩, prog_3_method_14_code, 3, (some .int), 2, false, 8, c115)
def c10 : List sm_R := [
  (0, .aload_n 0, 1, false, (0), 0, 0, 0, 0, []),
  (1, .getfield 67, 3, false, (0), 0, 7, 0, 0, []),
  (4, .iload_n 1, 1, false, (0), 1, 0, 0, 0, []),
  (5, .iload_n 2, 1, false, (0), 2, 0, 0, 0, []),
  (6, .invokevirtual 174, 3, false, (0), 115, 8, 3, 0, [(0, 0)]),
  (9, .ireturn, 1, false, (0), 0, 0, 0, 0, [])]
def f10 : sm_I := (⟨"TypedMill", "look", "(II)I"⟩, prog_1_method_14_code, 3, (some .int), 2, false, 0, c10)
def c142 : List sm_R := [
  (0, .aload_n 0, 1, false, (0), 0, 0, 0, 0, []),
  (1, .iload_n 1, 1, false, (0), 1, 0, 0, 0, []),
  (2, .putfield 46, 3, false, (0), 7, 10, 0, 0, []),
  (5, .iconst (0), 1, false, (0), 0, 0, 0, 0, []),
  (6, .ireturn, 1, false, (0), 0, 0, 0, 0, [])]
def f142 : sm_I := (⟨"TypedMill$Machine", "stop", "(I)Z"⟩, prog_7_method_6_code, 2, (some .boolean), 1, false, 7, c142)
def c143 : List sm_R := [
  (0, .aload_n 0, 1, false, (0), 0, 0, 0, 0, []),
  (1, .getfield 11, 3, false, (0), 7, 0, 0, 0, []),
  (4, .iload_n 1, 1, false, (0), 1, 0, 0, 0, []),
  (5, .iload_n 2, 1, false, (0), 2, 0, 0, 0, []),
  (6, .iastore, 1, false, (0), 0, 0, 0, 0, []),
  (7, .aload_n 0, 1, false, (0), 0, 0, 0, 0, []),
  (8, .getfield 17, 3, false, (0), 7, 1, 0, 0, []),
  (11, .iload_n 1, 1, false, (0), 1, 0, 0, 0, []),
  (12, .iload_n 3, 1, false, (0), 3, 0, 0, 0, []),
  (13, .iastore, 1, false, (0), 0, 0, 0, 0, []),
  (14, .aload_n 0, 1, false, (0), 0, 0, 0, 0, []),
  (15, .dup, 1, false, (0), 0, 0, 0, 0, []),
  (16, .getfield 40, 3, false, (0), 7, 9, 0, 0, []),
  (19, .iconst (1), 1, false, (1), 0, 0, 0, 0, []),
  (20, .iadd, 1, false, (0), 0, 0, 0, 0, []),
  (21, .putfield 40, 3, false, (0), 7, 9, 0, 0, []),
  (24, .iconst (1), 1, false, (1), 0, 0, 0, 0, []),
  (25, .ireturn, 1, false, (0), 0, 0, 0, 0, [])]
def f143 : sm_I := (⟨"TypedMill$Machine", "become", "(III)Z"⟩, prog_7_method_7_code, 4, (some .boolean), 3, false, 7, c143)
def c144 : List sm_R := [
  (0, .aload_n 0, 1, false, (0), 0, 0, 0, 0, []),
  (1, .getfield 11, 3, false, (0), 7, 0, 0, 0, []),
  (4, .iload_n 3, 1, false, (0), 3, 0, 0, 0, []),
  (5, .iaload, 1, false, (0), 0, 0, 0, 0, []),
  (6, .iconst (1), 1, false, (1), 0, 0, 0, 0, []),
  (7, .if_icmp .ne (14), 3, false, (0), 12, 0, 0, 0, []),
  (10, .aload_n 0, 1, false, (0), 0, 0, 0, 0, []),
  (11, .getfield 11, 3, false, (0), 7, 0, 0, 0, []),
  (14, .iload 4, 2, false, (0), 4, 0, 0, 0, []),
  (16, .iaload, 1, false, (0), 0, 0, 0, 0, []),
  (17, .iconst (1), 1, false, (1), 0, 0, 0, 0, []),
  (18, .if_icmp .eq (9), 3, false, (0), 16, 0, 0, 0, []),
  (21, .aload_n 0, 1, true, (0), 0, 0, 0, 0, []),
  (22, .iconst (2), 1, false, (2), 0, 0, 0, 0, []),
  (23, .invokevirtual 63, 3, false, (0), 142, 7, 2, 0, [(0, 0)]),
  (26, .ireturn, 1, false, (0), 0, 0, 0, 0, []),
  (27, .iload_n 1, 1, false, (0), 1, 0, 0, 0, []),
  (28, .lookupswitch (70) #[((1), (28)), ((2), (49))], 28, false, (0), 46, 0, 0, 0, [((1), 18), ((2), 32)]),
  (56, .aload_n 0, 1, false, (0), 0, 0, 0, 0, []),
  (57, .iload_n 2, 1, false, (0), 2, 0, 0, 0, []),
  (58, .iconst (1), 1, false, (1), 0, 0, 0, 0, []),
  (59, .aload_n 0, 1, false, (0), 0, 0, 0, 0, []),
  (60, .getfield 17, 3, false, (0), 7, 1, 0, 0, []),
  (63, .iload_n 3, 1, false, (0), 3, 0, 0, 0, []),
  (64, .iaload, 1, false, (0), 0, 0, 0, 0, []),
  (65, .aload_n 0, 1, false, (0), 0, 0, 0, 0, []),
  (66, .getfield 17, 3, false, (0), 7, 1, 0, 0, []),
  (69, .iload 4, 2, false, (0), 4, 0, 0, 0, []),
  (71, .iaload, 1, false, (0), 0, 0, 0, 0, []),
  (72, .iadd, 1, false, (0), 0, 0, 0, 0, []),
  (73, .invokevirtual 82, 3, false, (0), 143, 7, 4, 0, [(0, 0)]),
  (76, .ireturn, 1, false, (0), 0, 0, 0, 0, []),
  (77, .aload_n 0, 1, false, (0), 0, 0, 0, 0, []),
  (78, .iload_n 2, 1, false, (0), 2, 0, 0, 0, []),
  (79, .iconst (1), 1, false, (1), 0, 0, 0, 0, []),
  (80, .aload_n 0, 1, false, (0), 0, 0, 0, 0, []),
  (81, .getfield 17, 3, false, (0), 7, 1, 0, 0, []),
  (84, .iload_n 3, 1, false, (0), 3, 0, 0, 0, []),
  (85, .iaload, 1, false, (0), 0, 0, 0, 0, []),
  (86, .aload_n 0, 1, false, (0), 0, 0, 0, 0, []),
  (87, .getfield 17, 3, false, (0), 7, 1, 0, 0, []),
  (90, .iload 4, 2, false, (0), 4, 0, 0, 0, []),
  (92, .iaload, 1, false, (0), 0, 0, 0, 0, []),
  (93, .isub, 1, false, (0), 0, 0, 0, 0, []),
  (94, .invokevirtual 82, 3, false, (0), 143, 7, 4, 0, [(0, 0)]),
  (97, .ireturn, 1, false, (0), 0, 0, 0, 0, []),
  (98, .aload_n 0, 1, false, (0), 0, 0, 0, 0, []),
  (99, .iload_n 2, 1, false, (0), 2, 0, 0, 0, []),
  (100, .iconst (1), 1, false, (1), 0, 0, 0, 0, []),
  (101, .aload_n 0, 1, false, (0), 0, 0, 0, 0, []),
  (102, .getfield 17, 3, false, (0), 7, 1, 0, 0, []),
  (105, .iload_n 3, 1, false, (0), 3, 0, 0, 0, []),
  (106, .iaload, 1, false, (0), 0, 0, 0, 0, []),
  (107, .aload_n 0, 1, false, (0), 0, 0, 0, 0, []),
  (108, .getfield 17, 3, false, (0), 7, 1, 0, 0, []),
  (111, .iload 4, 2, false, (0), 4, 0, 0, 0, []),
  (113, .iaload, 1, false, (0), 0, 0, 0, 0, []),
  (114, .imul, 1, false, (0), 0, 0, 0, 0, []),
  (115, .invokevirtual 82, 3, false, (0), 143, 7, 4, 0, [(0, 0)]),
  (118, .ireturn, 1, false, (0), 0, 0, 0, 0, [])]
def f144 : sm_I := (⟨"TypedMill$Machine", "reckon", "(IIII)Z"⟩, prog_7_method_8_code, 5, (some .boolean), 4, false, 7, c144)
def c145 : List sm_R := [
  (0, .aload_n 0, 1, false, (0), 0, 0, 0, 0, []),
  (1, .getfield 11, 3, false, (0), 7, 0, 0, 0, []),
  (4, .iload_n 2, 1, false, (0), 2, 0, 0, 0, []),
  (5, .iaload, 1, false, (0), 0, 0, 0, 0, []),
  (6, .ifCond .eq (12), 3, false, (0), 10, 0, 0, 0, []),
  (9, .aload_n 0, 1, false, (0), 0, 0, 0, 0, []),
  (10, .getfield 11, 3, false, (0), 7, 0, 0, 0, []),
  (13, .iload_n 3, 1, false, (0), 3, 0, 0, 0, []),
  (14, .iaload, 1, false, (0), 0, 0, 0, 0, []),
  (15, .ifCond .ne (9), 3, false, (0), 14, 0, 0, 0, []),
  (18, .aload_n 0, 1, true, (0), 0, 0, 0, 0, []),
  (19, .iconst (2), 1, false, (2), 0, 0, 0, 0, []),
  (20, .invokevirtual 63, 3, false, (0), 142, 7, 2, 0, [(0, 0)]),
  (23, .ireturn, 1, false, (0), 0, 0, 0, 0, []),
  (24, .aload_n 0, 1, false, (0), 0, 0, 0, 0, []),
  (25, .getfield 43, 3, false, (0), 7, 6, 0, 0, []),
  (28, .sipush (400), 3, false, (400), 0, 0, 0, 0, []),
  (31, .if_icmp .ne (9), 3, false, (0), 22, 0, 0, 0, []),
  (34, .aload_n 0, 1, false, (0), 0, 0, 0, 0, []),
  (35, .iconst (3), 1, false, (3), 0, 0, 0, 0, []),
  (36, .invokevirtual 63, 3, false, (0), 142, 7, 2, 0, [(0, 0)]),
  (39, .ireturn, 1, false, (0), 0, 0, 0, 0, []),
  (40, .aload_n 0, 1, false, (0), 0, 0, 0, 0, []),
  (41, .getfield 20, 3, false, (0), 7, 2, 0, 0, []),
  (44, .aload_n 0, 1, false, (0), 0, 0, 0, 0, []),
  (45, .getfield 43, 3, false, (0), 7, 6, 0, 0, []),
  (48, .aload_n 0, 1, false, (0), 0, 0, 0, 0, []),
  (49, .getfield 11, 3, false, (0), 7, 0, 0, 0, []),
  (52, .iload_n 2, 1, false, (0), 2, 0, 0, 0, []),
  (53, .iaload, 1, false, (0), 0, 0, 0, 0, []),
  (54, .iastore, 1, false, (0), 0, 0, 0, 0, []),
  (55, .aload_n 0, 1, false, (0), 0, 0, 0, 0, []),
  (56, .getfield 23, 3, false, (0), 7, 3, 0, 0, []),
  (59, .aload_n 0, 1, false, (0), 0, 0, 0, 0, []),
  (60, .getfield 43, 3, false, (0), 7, 6, 0, 0, []),
  (63, .aload_n 0, 1, false, (0), 0, 0, 0, 0, []),
  (64, .getfield 17, 3, false, (0), 7, 1, 0, 0, []),
  (67, .iload_n 2, 1, false, (0), 2, 0, 0, 0, []),
  (68, .iaload, 1, false, (0), 0, 0, 0, 0, []),
  (69, .iastore, 1, false, (0), 0, 0, 0, 0, []),
  (70, .aload_n 0, 1, false, (0), 0, 0, 0, 0, []),
  (71, .getfield 26, 3, false, (0), 7, 4, 0, 0, []),
  (74, .aload_n 0, 1, false, (0), 0, 0, 0, 0, []),
  (75, .getfield 43, 3, false, (0), 7, 6, 0, 0, []),
  (78, .aload_n 0, 1, false, (0), 0, 0, 0, 0, []),
  (79, .getfield 11, 3, false, (0), 7, 0, 0, 0, []),
  (82, .iload_n 3, 1, false, (0), 3, 0, 0, 0, []),
  (83, .iaload, 1, false, (0), 0, 0, 0, 0, []),
  (84, .iastore, 1, false, (0), 0, 0, 0, 0, []),
  (85, .aload_n 0, 1, false, (0), 0, 0, 0, 0, []),
  (86, .getfield 29, 3, false, (0), 7, 5, 0, 0, []),
  (89, .aload_n 0, 1, false, (0), 0, 0, 0, 0, []),
  (90, .getfield 43, 3, false, (0), 7, 6, 0, 0, []),
  (93, .aload_n 0, 1, false, (0), 0, 0, 0, 0, []),
  (94, .getfield 17, 3, false, (0), 7, 1, 0, 0, []),
  (97, .iload_n 3, 1, false, (0), 3, 0, 0, 0, []),
  (98, .iaload, 1, false, (0), 0, 0, 0, 0, []),
  (99, .iastore, 1, false, (0), 0, 0, 0, 0, []),
  (100, .aload_n 0, 1, false, (0), 0, 0, 0, 0, []),
  (101, .dup, 1, false, (0), 0, 0, 0, 0, []),
  (102, .getfield 43, 3, false, (0), 7, 6, 0, 0, []),
  (105, .iconst (1), 1, false, (1), 0, 0, 0, 0, []),
  (106, .iadd, 1, false, (0), 0, 0, 0, 0, []),
  (107, .putfield 43, 3, false, (0), 7, 6, 0, 0, []),
  (110, .aload_n 0, 1, false, (0), 0, 0, 0, 0, []),
  (111, .iload_n 1, 1, false, (0), 1, 0, 0, 0, []),
  (112, .iconst (3), 1, false, (3), 0, 0, 0, 0, []),
  (113, .aload_n 0, 1, false, (0), 0, 0, 0, 0, []),
  (114, .getfield 43, 3, false, (0), 7, 6, 0, 0, []),
  (117, .iconst (1), 1, false, (1), 0, 0, 0, 0, []),
  (118, .isub, 1, false, (0), 0, 0, 0, 0, []),
  (119, .invokevirtual 82, 3, false, (0), 143, 7, 4, 0, [(0, 0)]),
  (122, .ireturn, 1, false, (0), 0, 0, 0, 0, [])]
def f145 : sm_I := (⟨"TypedMill$Machine", "pair", "(III)Z"⟩, prog_7_method_9_code, 4, (some .boolean), 3, false, 7, c145)
def c146 : List sm_R := [
  (0, .aload_n 0, 1, false, (0), 0, 0, 0, 0, []),
  (1, .getfield 11, 3, false, (0), 7, 0, 0, 0, []),
  (4, .iload_n 2, 1, false, (0), 2, 0, 0, 0, []),
  (5, .iaload, 1, false, (0), 0, 0, 0, 0, []),
  (6, .iconst (3), 1, false, (3), 0, 0, 0, 0, []),
  (7, .if_icmp .eq (9), 3, false, (0), 10, 0, 0, 0, []),
  (10, .aload_n 0, 1, false, (0), 0, 0, 0, 0, []),
  (11, .iconst (2), 1, false, (2), 0, 0, 0, 0, []),
  (12, .invokevirtual 63, 3, false, (0), 142, 7, 2, 0, [(0, 0)]),
  (15, .ireturn, 1, false, (0), 0, 0, 0, 0, []),
  (16, .aload_n 0, 1, false, (0), 0, 0, 0, 0, []),
  (17, .getfield 17, 3, false, (0), 7, 1, 0, 0, []),
  (20, .iload_n 2, 1, false, (0), 2, 0, 0, 0, []),
  (21, .iaload, 1, false, (0), 0, 0, 0, 0, []),
  (22, .istore 4, 2, false, (0), 4, 0, 0, 0, []),
  (24, .iload_n 3, 1, false, (0), 3, 0, 0, 0, []),
  (25, .ifCond .ne (25), 3, false, (0), 29, 0, 0, 0, []),
  (28, .aload_n 0, 1, false, (0), 0, 0, 0, 0, []),
  (29, .iload_n 1, 1, false, (0), 1, 0, 0, 0, []),
  (30, .aload_n 0, 1, false, (0), 0, 0, 0, 0, []),
  (31, .getfield 20, 3, false, (0), 7, 2, 0, 0, []),
  (34, .iload 4, 2, false, (0), 4, 0, 0, 0, []),
  (36, .iaload, 1, false, (0), 0, 0, 0, 0, []),
  (37, .aload_n 0, 1, false, (0), 0, 0, 0, 0, []),
  (38, .getfield 23, 3, false, (0), 7, 3, 0, 0, []),
  (41, .iload 4, 2, false, (0), 4, 0, 0, 0, []),
  (43, .iaload, 1, false, (0), 0, 0, 0, 0, []),
  (44, .invokevirtual 82, 3, false, (0), 143, 7, 4, 0, [(0, 0)]),
  (47, .goto (22), 3, false, (0), 40, 0, 0, 0, []),
  (50, .aload_n 0, 1, false, (0), 0, 0, 0, 0, []),
  (51, .iload_n 1, 1, false, (0), 1, 0, 0, 0, []),
  (52, .aload_n 0, 1, false, (0), 0, 0, 0, 0, []),
  (53, .getfield 26, 3, false, (0), 7, 4, 0, 0, []),
  (56, .iload 4, 2, false, (0), 4, 0, 0, 0, []),
  (58, .iaload, 1, false, (0), 0, 0, 0, 0, []),
  (59, .aload_n 0, 1, false, (0), 0, 0, 0, 0, []),
  (60, .getfield 29, 3, false, (0), 7, 5, 0, 0, []),
  (63, .iload 4, 2, false, (0), 4, 0, 0, 0, []),
  (65, .iaload, 1, false, (0), 0, 0, 0, 0, []),
  (66, .invokevirtual 82, 3, false, (0), 143, 7, 4, 0, [(0, 0)]),
  (69, .ireturn, 1, true, (0), 0, 0, 0, 0, [])]
def f146 : sm_I := (⟨"TypedMill$Machine", "load", "(III)Z"⟩, prog_7_method_10_code, 5, (some .boolean), 3, false, 7, c146)
def c147 : List sm_R := [
  (0, .aload_n 0, 1, false, (0), 0, 0, 0, 0, []),
  (1, .getfield 11, 3, false, (0), 7, 0, 0, 0, []),
  (4, .iload_n 3, 1, false, (0), 3, 0, 0, 0, []),
  (5, .iaload, 1, false, (0), 0, 0, 0, 0, []),
  (6, .iconst (4), 1, false, (4), 0, 0, 0, 0, []),
  (7, .if_icmp .ne (18), 3, false, (0), 15, 0, 0, 0, []),
  (10, .aload_n 0, 1, false, (0), 0, 0, 0, 0, []),
  (11, .getfield 20, 3, false, (0), 7, 2, 0, 0, []),
  (14, .aload_n 0, 1, false, (0), 0, 0, 0, 0, []),
  (15, .getfield 17, 3, false, (0), 7, 1, 0, 0, []),
  (18, .iload_n 3, 1, false, (0), 3, 0, 0, 0, []),
  (19, .iaload, 1, false, (0), 0, 0, 0, 0, []),
  (20, .iaload, 1, false, (0), 0, 0, 0, 0, []),
  (21, .iconst (2), 1, false, (2), 0, 0, 0, 0, []),
  (22, .if_icmp .eq (9), 3, false, (0), 19, 0, 0, 0, []),
  (25, .aload_n 0, 1, true, (0), 0, 0, 0, 0, []),
  (26, .iconst (2), 1, false, (2), 0, 0, 0, 0, []),
  (27, .invokevirtual 63, 3, false, (0), 142, 7, 2, 0, [(0, 0)]),
  (30, .ireturn, 1, false, (0), 0, 0, 0, 0, []),
  (31, .aload_n 0, 1, false, (0), 0, 0, 0, 0, []),
  (32, .getfield 17, 3, false, (0), 7, 1, 0, 0, []),
  (35, .iload_n 3, 1, false, (0), 3, 0, 0, 0, []),
  (36, .iaload, 1, false, (0), 0, 0, 0, 0, []),
  (37, .istore 4, 2, false, (0), 4, 0, 0, 0, []),
  (39, .aload_n 0, 1, false, (0), 0, 0, 0, 0, []),
  (40, .getfield 11, 3, false, (0), 7, 0, 0, 0, []),
  (43, .iload_n 1, 1, false, (0), 1, 0, 0, 0, []),
  (44, .iconst (2), 1, false, (2), 0, 0, 0, 0, []),
  (45, .iastore, 1, false, (0), 0, 0, 0, 0, []),
  (46, .aload_n 0, 1, false, (0), 0, 0, 0, 0, []),
  (47, .getfield 17, 3, false, (0), 7, 1, 0, 0, []),
  (50, .iload_n 1, 1, false, (0), 1, 0, 0, 0, []),
  (51, .aload_n 0, 1, false, (0), 0, 0, 0, 0, []),
  (52, .getfield 23, 3, false, (0), 7, 3, 0, 0, []),
  (55, .iload 4, 2, false, (0), 4, 0, 0, 0, []),
  (57, .iaload, 1, false, (0), 0, 0, 0, 0, []),
  (58, .iastore, 1, false, (0), 0, 0, 0, 0, []),
  (59, .aload_n 0, 1, false, (0), 0, 0, 0, 0, []),
  (60, .iload_n 2, 1, false, (0), 2, 0, 0, 0, []),
  (61, .aload_n 0, 1, false, (0), 0, 0, 0, 0, []),
  (62, .getfield 26, 3, false, (0), 7, 4, 0, 0, []),
  (65, .iload 4, 2, false, (0), 4, 0, 0, 0, []),
  (67, .iaload, 1, false, (0), 0, 0, 0, 0, []),
  (68, .aload_n 0, 1, false, (0), 0, 0, 0, 0, []),
  (69, .getfield 29, 3, false, (0), 7, 5, 0, 0, []),
  (72, .iload 4, 2, false, (0), 4, 0, 0, 0, []),
  (74, .iaload, 1, false, (0), 0, 0, 0, 0, []),
  (75, .invokevirtual 82, 3, false, (0), 143, 7, 4, 0, [(0, 0)]),
  (78, .ireturn, 1, false, (0), 0, 0, 0, 0, [])]
def f147 : sm_I := (⟨"TypedMill$Machine", "unwrap", "(III)Z"⟩, prog_7_method_11_code, 5, (some .boolean), 3, false, 7, c147)
def c148 : List sm_R := [
  (0, .aload_n 0, 1, false, (0), 0, 0, 0, 0, []),
  (1, .getfield 32, 3, false, (0), 7, 7, 0, 0, []),
  (4, .iload_n 1, 1, false, (0), 1, 0, 0, 0, []),
  (5, .invokevirtual 106, 3, false, (0), 104, 8, 2, 0, [(0, 0)]),
  (8, .ifCond .ne (9), 3, false, (0), 9, 0, 0, 0, []),
  (11, .aload_n 0, 1, false, (0), 0, 0, 0, 0, []),
  (12, .iconst (2), 1, false, (2), 0, 0, 0, 0, []),
  (13, .invokevirtual 63, 3, false, (0), 142, 7, 2, 0, [(0, 0)]),
  (16, .ireturn, 1, false, (0), 0, 0, 0, 0, []),
  (17, .aload_n 0, 1, false, (0), 0, 0, 0, 0, []),
  (18, .iload_n 1, 1, false, (0), 1, 0, 0, 0, []),
  (19, .putfield 36, 3, false, (0), 7, 8, 0, 0, []),
  (22, .aload_n 0, 1, false, (0), 0, 0, 0, 0, []),
  (23, .iconst (0), 1, false, (0), 0, 0, 0, 0, []),
  (24, .putfield 40, 3, false, (0), 7, 9, 0, 0, []),
  (27, .iconst (1), 1, false, (1), 0, 0, 0, 0, []),
  (28, .ireturn, 1, false, (0), 0, 0, 0, 0, [])]
def f148 : sm_I := (⟨"TypedMill$Machine", "enter", "(I)Z"⟩, prog_7_method_12_code, 2, (some .boolean), 1, false, 7, c148)
def c149 : List sm_R := [
  (0, .aload_n 0, 1, false, (0), 0, 0, 0, 0, []),
  (1, .getfield 11, 3, false, (0), 7, 0, 0, 0, []),
  (4, .iload_n 1, 1, false, (0), 1, 0, 0, 0, []),
  (5, .iaload, 1, false, (0), 0, 0, 0, 0, []),
  (6, .iconst (1), 1, false, (1), 0, 0, 0, 0, []),
  (7, .if_icmp .eq (9), 3, false, (0), 10, 0, 0, 0, []),
  (10, .aload_n 0, 1, false, (0), 0, 0, 0, 0, []),
  (11, .iconst (2), 1, false, (2), 0, 0, 0, 0, []),
  (12, .invokevirtual 63, 3, false, (0), 142, 7, 2, 0, [(0, 0)]),
  (15, .ireturn, 1, false, (0), 0, 0, 0, 0, []),
  (16, .aload_n 0, 1, false, (0), 0, 0, 0, 0, []),
  (17, .getfield 17, 3, false, (0), 7, 1, 0, 0, []),
  (20, .iload_n 1, 1, false, (0), 1, 0, 0, 0, []),
  (21, .iaload, 1, false, (0), 0, 0, 0, 0, []),
  (22, .ifCond .eq (9), 3, false, (0), 19, 0, 0, 0, []),
  (25, .aload_n 0, 1, false, (0), 0, 0, 0, 0, []),
  (26, .iload_n 2, 1, false, (0), 2, 0, 0, 0, []),
  (27, .invokevirtual 99, 3, false, (0), 148, 7, 2, 0, [(0, 0)]),
  (30, .ireturn, 1, false, (0), 0, 0, 0, 0, []),
  (31, .aload_n 0, 1, false, (0), 0, 0, 0, 0, []),
  (32, .dup, 1, false, (0), 0, 0, 0, 0, []),
  (33, .getfield 40, 3, false, (0), 7, 9, 0, 0, []),
  (36, .iconst (1), 1, false, (1), 0, 0, 0, 0, []),
  (37, .iadd, 1, false, (0), 0, 0, 0, 0, []),
  (38, .putfield 40, 3, false, (0), 7, 9, 0, 0, []),
  (41, .iconst (1), 1, false, (1), 0, 0, 0, 0, []),
  (42, .ireturn, 1, false, (0), 0, 0, 0, 0, [])]
def f149 : sm_I := (⟨"TypedMill$Machine", "branch", "(II)Z"⟩, prog_7_method_13_code, 3, (some .boolean), 2, false, 7, c149)
def c141 : List sm_R := [
  (0, .aload_n 0, 1, false, (0), 0, 0, 0, 0, []),
  (1, .getfield 40, 3, false, (0), 7, 9, 0, 0, []),
  (4, .aload_n 0, 1, false, (0), 0, 0, 0, 0, []),
  (5, .getfield 32, 3, false, (0), 7, 7, 0, 0, []),
  (8, .aload_n 0, 1, false, (0), 0, 0, 0, 0, []),
  (9, .getfield 36, 3, false, (0), 7, 8, 0, 0, []),
  (12, .invokevirtual 59, 3, false, (0), 106, 8, 2, 0, [(0, 0)]),
  (15, .if_icmp .lt (9), 3, false, (0), 12, 0, 0, 0, []),
  (18, .aload_n 0, 1, false, (0), 0, 0, 0, 0, []),
  (19, .iconst (2), 1, false, (2), 0, 0, 0, 0, []),
  (20, .invokevirtual 63, 3, false, (0), 142, 7, 2, 0, [(0, 0)]),
  (23, .ireturn, 1, false, (0), 0, 0, 0, 0, []),
  (24, .aload_n 0, 1, false, (0), 0, 0, 0, 0, []),
  (25, .getfield 32, 3, false, (0), 7, 7, 0, 0, []),
  (28, .aload_n 0, 1, false, (0), 0, 0, 0, 0, []),
  (29, .getfield 36, 3, false, (0), 7, 8, 0, 0, []),
  (32, .invokevirtual 67, 3, false, (0), 105, 8, 2, 0, [(0, 0)]),
  (35, .aload_n 0, 1, false, (0), 0, 0, 0, 0, []),
  (36, .getfield 40, 3, false, (0), 7, 9, 0, 0, []),
  (39, .iadd, 1, false, (0), 0, 0, 0, 0, []),
  (40, .istore_n 1, 1, false, (0), 1, 0, 0, 0, []),
  (41, .aload_n 0, 1, false, (0), 0, 0, 0, 0, []),
  (42, .getfield 32, 3, false, (0), 7, 7, 0, 0, []),
  (45, .getfield 70, 3, false, (0), 8, 2, 0, 0, []),
  (48, .iload_n 1, 1, false, (0), 1, 0, 0, 0, []),
  (49, .iaload, 1, false, (0), 0, 0, 0, 0, []),
  (50, .istore_n 2, 1, false, (0), 2, 0, 0, 0, []),
  (51, .aload_n 0, 1, false, (0), 0, 0, 0, 0, []),
  (52, .getfield 32, 3, false, (0), 7, 7, 0, 0, []),
  (55, .getfield 73, 3, false, (0), 8, 3, 0, 0, []),
  (58, .iload_n 1, 1, false, (0), 1, 0, 0, 0, []),
  (59, .iaload, 1, false, (0), 0, 0, 0, 0, []),
  (60, .istore_n 3, 1, false, (0), 3, 0, 0, 0, []),
  (61, .aload_n 0, 1, false, (0), 0, 0, 0, 0, []),
  (62, .getfield 32, 3, false, (0), 7, 7, 0, 0, []),
  (65, .getfield 76, 3, false, (0), 8, 4, 0, 0, []),
  (68, .iload_n 1, 1, false, (0), 1, 0, 0, 0, []),
  (69, .iaload, 1, false, (0), 0, 0, 0, 0, []),
  (70, .istore 4, 2, false, (0), 4, 0, 0, 0, []),
  (72, .aload_n 0, 1, false, (0), 0, 0, 0, 0, []),
  (73, .getfield 32, 3, false, (0), 7, 7, 0, 0, []),
  (76, .getfield 79, 3, false, (0), 8, 1, 0, 0, []),
  (79, .iload_n 1, 1, false, (0), 1, 0, 0, 0, []),
  (80, .iaload, 1, false, (0), 0, 0, 0, 0, []),
  (81, .tableswitch (197) (0) (11) #[(63), (71), (71), (71), (89), (98), (107), (115), (146), (155), (161), (168)], 63, false, (0), 131, 0, 0, 0, [((0), 45), ((1), 51), ((2), 51), ((3), 51), ((4), 62), ((5), 68), ((6), 74), ((7), 80), ((8), 99), ((9), 105), ((10), 109), ((11), 114)]),
  (144, .aload_n 0, 1, false, (0), 0, 0, 0, 0, []),
  (145, .iload_n 2, 1, false, (0), 2, 0, 0, 0, []),
  (146, .iconst (1), 1, false, (1), 0, 0, 0, 0, []),
  (147, .iload_n 3, 1, false, (0), 3, 0, 0, 0, []),
  (148, .invokevirtual 82, 3, false, (0), 143, 7, 4, 0, [(0, 0)]),
  (151, .ireturn, 1, false, (0), 0, 0, 0, 0, []),
  (152, .aload_n 0, 1, true, (0), 0, 0, 0, 0, []),
  (153, .aload_n 0, 1, false, (0), 0, 0, 0, 0, []),
  (154, .getfield 32, 3, false, (0), 7, 7, 0, 0, []),
  (157, .getfield 79, 3, false, (0), 8, 1, 0, 0, []),
  (160, .iload_n 1, 1, false, (0), 1, 0, 0, 0, []),
  (161, .iaload, 1, false, (0), 0, 0, 0, 0, []),
  (162, .iload_n 2, 1, false, (0), 2, 0, 0, 0, []),
  (163, .iload_n 3, 1, false, (0), 3, 0, 0, 0, []),
  (164, .iload 4, 2, false, (0), 4, 0, 0, 0, []),
  (166, .invokevirtual 86, 3, false, (0), 144, 7, 5, 0, [(0, 0)]),
  (169, .ireturn, 1, false, (0), 0, 0, 0, 0, []),
  (170, .aload_n 0, 1, false, (0), 0, 0, 0, 0, []),
  (171, .iload_n 2, 1, false, (0), 2, 0, 0, 0, []),
  (172, .iload_n 3, 1, false, (0), 3, 0, 0, 0, []),
  (173, .iload 4, 2, false, (0), 4, 0, 0, 0, []),
  (175, .invokevirtual 90, 3, false, (0), 145, 7, 4, 0, [(0, 0)]),
  (178, .ireturn, 1, false, (0), 0, 0, 0, 0, []),
  (179, .aload_n 0, 1, false, (0), 0, 0, 0, 0, []),
  (180, .iload_n 2, 1, false, (0), 2, 0, 0, 0, []),
  (181, .iload_n 3, 1, false, (0), 3, 0, 0, 0, []),
  (182, .iload 4, 2, false, (0), 4, 0, 0, 0, []),
  (184, .invokevirtual 93, 3, false, (0), 146, 7, 4, 0, [(0, 0)]),
  (187, .ireturn, 1, false, (0), 0, 0, 0, 0, []),
  (188, .aload_n 0, 1, false, (0), 0, 0, 0, 0, []),
  (189, .iload_n 2, 1, false, (0), 2, 0, 0, 0, []),
  (190, .iconst (2), 1, false, (2), 0, 0, 0, 0, []),
  (191, .iload_n 3, 1, false, (0), 3, 0, 0, 0, []),
  (192, .invokevirtual 82, 3, false, (0), 143, 7, 4, 0, [(0, 0)]),
  (195, .ireturn, 1, false, (0), 0, 0, 0, 0, []),
  (196, .aload_n 0, 1, false, (0), 0, 0, 0, 0, []),
  (197, .getfield 11, 3, false, (0), 7, 0, 0, 0, []),
  (200, .iload_n 3, 1, false, (0), 3, 0, 0, 0, []),
  (201, .iaload, 1, false, (0), 0, 0, 0, 0, []),
  (202, .iconst (3), 1, false, (3), 0, 0, 0, 0, []),
  (203, .if_icmp .ne (18), 3, false, (0), 95, 0, 0, 0, []),
  (206, .aload_n 0, 1, false, (0), 0, 0, 0, 0, []),
  (207, .iload_n 2, 1, false, (0), 2, 0, 0, 0, []),
  (208, .iconst (4), 1, false, (4), 0, 0, 0, 0, []),
  (209, .aload_n 0, 1, false, (0), 0, 0, 0, 0, []),
  (210, .getfield 17, 3, false, (0), 7, 1, 0, 0, []),
  (213, .iload_n 3, 1, false, (0), 3, 0, 0, 0, []),
  (214, .iaload, 1, false, (0), 0, 0, 0, 0, []),
  (215, .invokevirtual 82, 3, false, (0), 143, 7, 4, 0, [(0, 0)]),
  (218, .goto (8), 3, false, (0), 98, 0, 0, 0, []),
  (221, .aload_n 0, 1, false, (0), 0, 0, 0, 0, []),
  (222, .iconst (2), 1, false, (2), 0, 0, 0, 0, []),
  (223, .invokevirtual 63, 3, false, (0), 142, 7, 2, 0, [(0, 0)]),
  (226, .ireturn, 1, true, (0), 0, 0, 0, 0, []),
  (227, .aload_n 0, 1, false, (0), 0, 0, 0, 0, []),
  (228, .iload_n 2, 1, false, (0), 2, 0, 0, 0, []),
  (229, .iload_n 3, 1, false, (0), 3, 0, 0, 0, []),
  (230, .iload 4, 2, false, (0), 4, 0, 0, 0, []),
  (232, .invokevirtual 96, 3, false, (0), 147, 7, 4, 0, [(0, 0)]),
  (235, .ireturn, 1, false, (0), 0, 0, 0, 0, []),
  (236, .aload_n 0, 1, false, (0), 0, 0, 0, 0, []),
  (237, .iload_n 2, 1, false, (0), 2, 0, 0, 0, []),
  (238, .invokevirtual 99, 3, false, (0), 148, 7, 2, 0, [(0, 0)]),
  (241, .ireturn, 1, false, (0), 0, 0, 0, 0, []),
  (242, .aload_n 0, 1, false, (0), 0, 0, 0, 0, []),
  (243, .iload_n 2, 1, false, (0), 2, 0, 0, 0, []),
  (244, .iload_n 3, 1, false, (0), 3, 0, 0, 0, []),
  (245, .invokevirtual 102, 3, false, (0), 149, 7, 3, 0, [(0, 0)]),
  (248, .ireturn, 1, false, (0), 0, 0, 0, 0, []),
  (249, .aload_n 0, 1, false, (0), 0, 0, 0, 0, []),
  (250, .getfield 11, 3, false, (0), 7, 0, 0, 0, []),
  (253, .iload_n 2, 1, false, (0), 2, 0, 0, 0, []),
  (254, .iaload, 1, false, (0), 0, 0, 0, 0, []),
  (255, .iconst (2), 1, false, (2), 0, 0, 0, 0, []),
  (256, .if_icmp .ne (16), 3, false, (0), 127, 0, 0, 0, []),
  (259, .aload_n 0, 1, false, (0), 0, 0, 0, 0, []),
  (260, .aload_n 0, 1, false, (0), 0, 0, 0, 0, []),
  (261, .getfield 17, 3, false, (0), 7, 1, 0, 0, []),
  (264, .iload_n 2, 1, false, (0), 2, 0, 0, 0, []),
  (265, .iaload, 1, false, (0), 0, 0, 0, 0, []),
  (266, .invokevirtual 99, 3, false, (0), 148, 7, 2, 0, [(0, 0)]),
  (269, .goto (8), 3, false, (0), 130, 0, 0, 0, []),
  (272, .aload_n 0, 1, false, (0), 0, 0, 0, 0, []),
  (273, .iconst (2), 1, false, (2), 0, 0, 0, 0, []),
  (274, .invokevirtual 63, 3, false, (0), 142, 7, 2, 0, [(0, 0)]),
  (277, .ireturn, 1, true, (0), 0, 0, 0, 0, []),
  (278, .aload_n 0, 1, false, (0), 0, 0, 0, 0, []),
  (279, .iconst (1), 1, false, (1), 0, 0, 0, 0, []),
  (280, .putfield 46, 3, false, (0), 7, 10, 0, 0, []),
  (283, .iconst (1), 1, false, (1), 0, 0, 0, 0, []),
  (284, .ireturn, 1, false, (0), 0, 0, 0, 0, [])]
def f141 : sm_I := (⟨"TypedMill$Machine", "perform", "()Z"⟩, prog_7_method_5_code, 5, (some .boolean), 0, false, 7, c141)
def c139 : List sm_R := [
  (0, .iconst (0), 1, false, (0), 0, 0, 0, 0, []),
  (1, .istore_n 2, 1, false, (0), 2, 0, 0, 0, []),
  (2, .iconst (0), 1, false, (0), 0, 0, 0, 0, []),
  (3, .istore_n 3, 1, false, (0), 3, 0, 0, 0, []),
  (4, .iload_n 3, 1, true, (0), 3, 0, 0, 0, []),
  (5, .iload_n 1, 1, false, (0), 1, 0, 0, 0, []),
  (6, .if_icmp .ge (31), 3, false, (0), 21, 0, 0, 0, []),
  (9, .aload_n 0, 1, false, (0), 0, 0, 0, 0, []),
  (10, .getfield 46, 3, false, (0), 7, 10, 0, 0, []),
  (13, .ifCond .ne (24), 3, false, (0), 21, 0, 0, 0, []),
  (16, .iload_n 2, 1, false, (0), 2, 0, 0, 0, []),
  (17, .aload_n 0, 1, false, (0), 0, 0, 0, 0, []),
  (18, .invokevirtual 55, 3, false, (0), 141, 7, 1, 0, [(0, 0)]),
  (21, .ifCond .eq (7), 3, false, (0), 16, 0, 0, 0, []),
  (24, .iconst (1), 1, false, (1), 0, 0, 0, 0, []),
  (25, .goto (4), 3, false, (0), 17, 0, 0, 0, []),
  (28, .iconst (0), 1, false, (0), 0, 0, 0, 0, []),
  (29, .iadd, 1, true, (0), 0, 0, 0, 0, []),
  (30, .istore_n 2, 1, false, (0), 2, 0, 0, 0, []),
  (31, .iinc 3 (1), 3, false, (1), 3, 0, 0, 0, []),
  (34, .goto (-30), 3, false, (0), 4, 0, 0, 0, []),
  (37, .iload_n 2, 1, true, (0), 2, 0, 0, 0, []),
  (38, .ireturn, 1, false, (0), 0, 0, 0, 0, [])]
def f139 : sm_I := (⟨"TypedMill$Machine", "goOn", "(I)I"⟩, prog_7_method_3_code, 4, (some .int), 1, false, 7, c139)
def c11 : List sm_R := [
  (0, .iload_n 1, 1, false, (0), 1, 0, 0, 0, []),
  (1, .ifCond .lt (10), 3, false, (0), 5, 0, 0, 0, []),
  (4, .iload_n 1, 1, false, (0), 1, 0, 0, 0, []),
  (5, .sipush (1000), 3, false, (1000), 0, 0, 0, 0, []),
  (8, .if_icmp .le (7), 3, false, (0), 7, 0, 0, 0, []),
  (11, .iconst (-1), 1, true, (-1), 0, 0, 0, 0, []),
  (12, .goto (11), 3, false, (0), 11, 0, 0, 0, []),
  (15, .aload_n 0, 1, false, (0), 0, 0, 0, 0, []),
  (16, .getfield 60, 3, false, (0), 0, 6, 0, 0, []),
  (19, .iload_n 1, 1, false, (0), 1, 0, 0, 0, []),
  (20, .invokevirtual 177, 3, false, (0), 139, 7, 2, 0, [(0, 0)]),
  (23, .ireturn, 1, true, (0), 0, 0, 0, 0, [])]
def f11 : sm_I := (⟨"TypedMill", "run", "(I)I"⟩, prog_1_method_15_code, 2, (some .int), 1, false, 0, c11)
def c12 : List sm_R := [
  (0, .aload_n 0, 1, false, (0), 0, 0, 0, 0, []),
  (1, .getfield 60, 3, false, (0), 0, 6, 0, 0, []),
  (4, .getfield 180, 3, false, (0), 7, 10, 0, 0, []),
  (7, .ireturn, 1, false, (0), 0, 0, 0, 0, [])]
def f12 : sm_I := (⟨"TypedMill", "state", "()I"⟩, prog_1_method_16_code, 1, (some .int), 0, false, 0, c12)
def c140 : List sm_R := [
  (0, .iload_n 1, 1, false, (0), 1, 0, 0, 0, []),
  (1, .iconst (1), 1, false, (1), 0, 0, 0, 0, []),
  (2, .if_icmp .lt (17), 3, false, (0), 11, 0, 0, 0, []),
  (5, .iload_n 1, 1, false, (0), 1, 0, 0, 0, []),
  (6, .iconst (5), 1, false, (5), 0, 0, 0, 0, []),
  (7, .if_icmp .gt (12), 3, false, (0), 11, 0, 0, 0, []),
  (10, .iload_n 2, 1, false, (0), 2, 0, 0, 0, []),
  (11, .ifCond .lt (8), 3, false, (0), 11, 0, 0, 0, []),
  (14, .iload_n 2, 1, false, (0), 2, 0, 0, 0, []),
  (15, .iconst (1), 1, false, (1), 0, 0, 0, 0, []),
  (16, .if_icmp .le (5), 3, false, (0), 13, 0, 0, 0, []),
  (19, .iconst (-1), 1, true, (-1), 0, 0, 0, 0, []),
  (20, .ireturn, 1, false, (0), 0, 0, 0, 0, []),
  (21, .iload_n 2, 1, false, (0), 2, 0, 0, 0, []),
  (22, .ifCond .ne (12), 3, false, (0), 20, 0, 0, 0, []),
  (25, .aload_n 0, 1, false, (0), 0, 0, 0, 0, []),
  (26, .getfield 11, 3, false, (0), 7, 0, 0, 0, []),
  (29, .iload_n 1, 1, false, (0), 1, 0, 0, 0, []),
  (30, .iaload, 1, false, (0), 0, 0, 0, 0, []),
  (31, .goto (9), 3, false, (0), 24, 0, 0, 0, []),
  (34, .aload_n 0, 1, false, (0), 0, 0, 0, 0, []),
  (35, .getfield 17, 3, false, (0), 7, 1, 0, 0, []),
  (38, .iload_n 1, 1, false, (0), 1, 0, 0, 0, []),
  (39, .iaload, 1, false, (0), 0, 0, 0, 0, []),
  (40, .ireturn, 1, true, (0), 0, 0, 0, 0, [])]
def f140 : sm_I := (⟨"TypedMill$Machine", "tellRegister", "(II)I"⟩, prog_7_method_4_code, 3, (some .int), 2, false, 7, c140)
def c13 : List sm_R := [
  (0, .aload_n 0, 1, false, (0), 0, 0, 0, 0, []),
  (1, .getfield 60, 3, false, (0), 0, 6, 0, 0, []),
  (4, .iload_n 1, 1, false, (0), 1, 0, 0, 0, []),
  (5, .iload_n 2, 1, false, (0), 2, 0, 0, 0, []),
  (6, .invokevirtual 183, 3, false, (0), 140, 7, 3, 0, [(0, 0)]),
  (9, .ireturn, 1, false, (0), 0, 0, 0, 0, [])]
def f13 : sm_I := (⟨"TypedMill", "register", "(II)I"⟩, prog_1_method_17_code, 3, (some .int), 2, false, 0, c13)
def c118 : List sm_R := [
  (0, .iload_n 2, 1, false, (0), 2, 0, 0, 0, []),
  (1, .istore_n 3, 1, false, (0), 3, 0, 0, 0, []),
  (2, .iload_n 1, 1, false, (0), 1, 0, 0, 0, []),
  (3, .istore 4, 2, false, (0), 4, 0, 0, 0, []),
  (5, .iconst (0), 1, false, (0), 0, 0, 0, 0, []),
  (6, .istore 5, 2, false, (0), 5, 0, 0, 0, []),
  (8, .iload 5, 2, true, (0), 5, 0, 0, 0, []),
  (10, .aload_n 0, 1, false, (0), 0, 0, 0, 0, []),
  (11, .getfield 54, 3, false, (0), 5, 5, 0, 0, []),
  (14, .if_icmp .ge (53), 3, false, (0), 37, 0, 0, 0, []),
  (17, .iload_n 3, 1, false, (0), 3, 0, 0, 0, []),
  (18, .ifCond .le (49), 3, false, (0), 37, 0, 0, 0, []),
  (21, .iload 4, 2, false, (0), 4, 0, 0, 0, []),
  (23, .ifCond .gt (12), 3, false, (0), 19, 0, 0, 0, []),
  (26, .aload_n 0, 1, false, (0), 0, 0, 0, 0, []),
  (27, .getfield 20, 3, false, (0), 5, 4, 0, 0, []),
  (30, .iload_n 3, 1, false, (0), 3, 0, 0, 0, []),
  (31, .baload, 1, false, (0), 0, 0, 0, 0, []),
  (32, .ifCond .ne (35), 3, false, (0), 37, 0, 0, 0, []),
  (35, .iload 4, 2, true, (0), 4, 0, 0, 0, []),
  (37, .aload_n 0, 1, false, (0), 0, 0, 0, 0, []),
  (38, .getfield 20, 3, false, (0), 5, 4, 0, 0, []),
  (41, .iload_n 3, 1, false, (0), 3, 0, 0, 0, []),
  (42, .baload, 1, false, (0), 0, 0, 0, 0, []),
  (43, .ifCond .eq (7), 3, false, (0), 27, 0, 0, 0, []),
  (46, .iconst (1), 1, false, (1), 0, 0, 0, 0, []),
  (47, .goto (4), 3, false, (0), 28, 0, 0, 0, []),
  (50, .iconst (0), 1, false, (0), 0, 0, 0, 0, []),
  (51, .isub, 1, true, (0), 0, 0, 0, 0, []),
  (52, .istore 4, 2, false, (0), 4, 0, 0, 0, []),
  (54, .aload_n 0, 1, false, (0), 0, 0, 0, 0, []),
  (55, .getfield 17, 3, false, (0), 5, 3, 0, 0, []),
  (58, .iload_n 3, 1, false, (0), 3, 0, 0, 0, []),
  (59, .iaload, 1, false, (0), 0, 0, 0, 0, []),
  (60, .istore_n 3, 1, false, (0), 3, 0, 0, 0, []),
  (61, .iinc 5 (1), 3, false, (1), 5, 0, 0, 0, []),
  (64, .goto (-56), 3, false, (0), 6, 0, 0, 0, []),
  (67, .iload 5, 2, true, (0), 5, 0, 0, 0, []),
  (69, .ifCond .ne (17), 3, false, (0), 47, 0, 0, 0, []),
  (72, .aload_n 0, 1, false, (0), 0, 0, 0, 0, []),
  (73, .getfield 43, 3, false, (0), 5, 10, 0, 0, []),
  (76, .iconst (5), 1, false, (5), 0, 0, 0, 0, []),
  (77, .iconst (2), 1, false, (2), 0, 0, 0, 0, []),
  (78, .iconst (1), 1, false, (1), 0, 0, 0, 0, []),
  (79, .iconst (1), 1, false, (1), 0, 0, 0, 0, []),
  (80, .invokevirtual 69, 3, false, (0), 113, 8, 5, 0, []),
  (83, .goto (52), 3, false, (0), 75, 0, 0, 0, []),
  (86, .aload_n 0, 1, false, (0), 0, 0, 0, 0, []),
  (87, .getfield 43, 3, false, (0), 5, 10, 0, 0, []),
  (90, .iconst (5), 1, false, (5), 0, 0, 0, 0, []),
  (91, .iconst (4), 1, false, (4), 0, 0, 0, 0, []),
  (92, .iconst (1), 1, false, (1), 0, 0, 0, 0, []),
  (93, .iconst (0), 1, false, (0), 0, 0, 0, 0, []),
  (94, .invokevirtual 69, 3, false, (0), 113, 8, 5, 0, []),
  (97, .iconst (1), 1, false, (1), 0, 0, 0, 0, []),
  (98, .istore 6, 2, false, (0), 6, 0, 0, 0, []),
  (100, .iload 6, 2, true, (0), 6, 0, 0, 0, []),
  (102, .iload 5, 2, false, (0), 5, 0, 0, 0, []),
  (104, .if_icmp .ge (20), 3, false, (0), 68, 0, 0, 0, []),
  (107, .aload_n 0, 1, false, (0), 0, 0, 0, 0, []),
  (108, .getfield 43, 3, false, (0), 5, 10, 0, 0, []),
  (111, .iconst (5), 1, false, (5), 0, 0, 0, 0, []),
  (112, .iconst (4), 1, false, (4), 0, 0, 0, 0, []),
  (113, .iconst (4), 1, false, (4), 0, 0, 0, 0, []),
  (114, .iconst (0), 1, false, (0), 0, 0, 0, 0, []),
  (115, .invokevirtual 69, 3, false, (0), 113, 8, 5, 0, []),
  (118, .iinc 6 (1), 3, false, (1), 6, 0, 0, 0, []),
  (121, .goto (-21), 3, false, (0), 56, 0, 0, 0, []),
  (124, .aload_n 0, 1, false, (0), 0, 0, 0, 0, []),
  (125, .getfield 43, 3, false, (0), 5, 10, 0, 0, []),
  (128, .iconst (5), 1, false, (5), 0, 0, 0, 0, []),
  (129, .iconst (2), 1, false, (2), 0, 0, 0, 0, []),
  (130, .iconst (4), 1, false, (4), 0, 0, 0, 0, []),
  (131, .iconst (1), 1, false, (1), 0, 0, 0, 0, []),
  (132, .invokevirtual 69, 3, false, (0), 113, 8, 5, 0, []),
  (135, .aload_n 0, 1, true, (0), 0, 0, 0, 0, []),
  (136, .getfield 33, 3, false, (0), 5, 0, 0, 0, []),
  (139, .aload_n 0, 1, false, (0), 0, 0, 0, 0, []),
  (140, .getfield 13, 3, false, (0), 5, 2, 0, 0, []),
  (143, .iload_n 3, 1, false, (0), 3, 0, 0, 0, []),
  (144, .iaload, 1, false, (0), 0, 0, 0, 0, []),
  (145, .invokevirtual 110, 3, false, (0), 154, 1, 2, 0, [(0, 0)]),
  (148, .ireturn, 1, false, (0), 0, 0, 0, 0, [])]
def f118 : sm_I := (⟨"TypedMill$CodeWriter", "writeVariable", "(II)I"⟩, prog_4_method_4_code, 7, (some .int), 2, false, 5, c118)
def c122 : List sm_R := [
  (0, .aload_n 0, 1, false, (0), 0, 0, 0, 0, []),
  (1, .getfield 13, 3, false, (0), 5, 2, 0, 0, []),
  (4, .iload_n 2, 1, false, (0), 2, 0, 0, 0, []),
  (5, .iaload, 1, false, (0), 0, 0, 0, 0, []),
  (6, .istore_n 3, 1, false, (0), 3, 0, 0, 0, []),
  (7, .aload_n 0, 1, false, (0), 0, 0, 0, 0, []),
  (8, .aload_n 0, 1, false, (0), 0, 0, 0, 0, []),
  (9, .getfield 37, 3, false, (0), 5, 1, 0, 0, []),
  (12, .getfield 114, 3, false, (0), 2, 2, 0, 0, []),
  (15, .iload_n 1, 1, false, (0), 1, 0, 0, 0, []),
  (16, .iaload, 1, false, (0), 0, 0, 0, 0, []),
  (17, .iload_n 2, 1, false, (0), 2, 0, 0, 0, []),
  (18, .invokevirtual 65, 3, false, (0), 117, 5, 3, 0, [(0, 0)]),
  (21, .pop, 1, false, (0), 0, 0, 0, 0, []),
  (22, .aload_n 0, 1, false, (0), 0, 0, 0, 0, []),
  (23, .getfield 43, 3, false, (0), 5, 10, 0, 0, []),
  (26, .invokevirtual 57, 3, false, (0), 108, 8, 1, 0, [(0, 0)]),
  (29, .istore 4, 2, false, (0), 4, 0, 0, 0, []),
  (31, .aload_n 0, 1, false, (0), 0, 0, 0, 0, []),
  (32, .getfield 43, 3, false, (0), 5, 10, 0, 0, []),
  (35, .invokevirtual 57, 3, false, (0), 108, 8, 1, 0, [(0, 0)]),
  (38, .istore 5, 2, false, (0), 5, 0, 0, 0, []),
  (40, .aload_n 0, 1, false, (0), 0, 0, 0, 0, []),
  (41, .getfield 43, 3, false, (0), 5, 10, 0, 0, []),
  (44, .bipush (10), 2, false, (10), 0, 0, 0, 0, []),
  (46, .iconst (2), 1, false, (2), 0, 0, 0, 0, []),
  (47, .iload 4, 2, false, (0), 4, 0, 0, 0, []),
  (49, .iconst (0), 1, false, (0), 0, 0, 0, 0, []),
  (50, .invokevirtual 69, 3, false, (0), 113, 8, 5, 0, []),
  (53, .aload_n 0, 1, false, (0), 0, 0, 0, 0, []),
  (54, .aload_n 0, 1, false, (0), 0, 0, 0, 0, []),
  (55, .getfield 37, 3, false, (0), 5, 1, 0, 0, []),
  (58, .getfield 117, 3, false, (0), 2, 3, 0, 0, []),
  (61, .iload_n 1, 1, false, (0), 1, 0, 0, 0, []),
  (62, .iaload, 1, false, (0), 0, 0, 0, 0, []),
  (63, .iload_n 2, 1, false, (0), 2, 0, 0, 0, []),
  (64, .invokevirtual 65, 3, false, (0), 117, 5, 3, 0, [(0, 0)]),
  (67, .istore 6, 2, false, (0), 6, 0, 0, 0, []),
  (69, .aload_n 0, 1, false, (0), 0, 0, 0, 0, []),
  (70, .getfield 43, 3, false, (0), 5, 10, 0, 0, []),
  (73, .bipush (9), 2, false, (9), 0, 0, 0, 0, []),
  (75, .iload 5, 2, false, (0), 5, 0, 0, 0, []),
  (77, .iconst (0), 1, false, (0), 0, 0, 0, 0, []),
  (78, .iconst (0), 1, false, (0), 0, 0, 0, 0, []),
  (79, .invokevirtual 69, 3, false, (0), 113, 8, 5, 0, []),
  (82, .aload_n 0, 1, false, (0), 0, 0, 0, 0, []),
  (83, .getfield 43, 3, false, (0), 5, 10, 0, 0, []),
  (86, .iload 4, 2, false, (0), 4, 0, 0, 0, []),
  (88, .iload_n 3, 1, false, (0), 3, 0, 0, 0, []),
  (89, .iconst (-1), 1, false, (-1), 0, 0, 0, 0, []),
  (90, .iconst (-1), 1, false, (-1), 0, 0, 0, 0, []),
  (91, .invokevirtual 61, 3, false, (0), 109, 8, 5, 0, []),
  (94, .aload_n 0, 1, false, (0), 0, 0, 0, 0, []),
  (95, .aload_n 0, 1, false, (0), 0, 0, 0, 0, []),
  (96, .getfield 37, 3, false, (0), 5, 1, 0, 0, []),
  (99, .getfield 134, 3, false, (0), 2, 4, 0, 0, []),
  (102, .iload_n 1, 1, false, (0), 1, 0, 0, 0, []),
  (103, .iaload, 1, false, (0), 0, 0, 0, 0, []),
  (104, .iload_n 2, 1, false, (0), 2, 0, 0, 0, []),
  (105, .invokevirtual 65, 3, false, (0), 117, 5, 3, 0, [(0, 0)]),
  (108, .pop, 1, false, (0), 0, 0, 0, 0, []),
  (109, .aload_n 0, 1, false, (0), 0, 0, 0, 0, []),
  (110, .getfield 43, 3, false, (0), 5, 10, 0, 0, []),
  (113, .bipush (9), 2, false, (9), 0, 0, 0, 0, []),
  (115, .iload 5, 2, false, (0), 5, 0, 0, 0, []),
  (117, .iconst (0), 1, false, (0), 0, 0, 0, 0, []),
  (118, .iconst (0), 1, false, (0), 0, 0, 0, 0, []),
  (119, .invokevirtual 69, 3, false, (0), 113, 8, 5, 0, []),
  (122, .aload_n 0, 1, false, (0), 0, 0, 0, 0, []),
  (123, .getfield 43, 3, false, (0), 5, 10, 0, 0, []),
  (126, .iload 5, 2, false, (0), 5, 0, 0, 0, []),
  (128, .iload_n 3, 1, false, (0), 3, 0, 0, 0, []),
  (129, .iload 6, 2, false, (0), 6, 0, 0, 0, []),
  (131, .iconst (-1), 1, false, (-1), 0, 0, 0, 0, []),
  (132, .invokevirtual 61, 3, false, (0), 109, 8, 5, 0, []),
  (135, .iload 6, 2, false, (0), 6, 0, 0, 0, []),
  (137, .ireturn, 1, false, (0), 0, 0, 0, 0, [])]
def f122 : sm_I := (⟨"TypedMill$CodeWriter", "writeChoice", "(II)I"⟩, prog_4_method_8_code, 7, (some .int), 2, false, 5, c122)
def c123 : List sm_R := [
  (0, .aload_n 0, 1, false, (0), 0, 0, 0, 0, []),
  (1, .getfield 43, 3, false, (0), 5, 10, 0, 0, []),
  (4, .invokevirtual 57, 3, false, (0), 108, 8, 1, 0, [(0, 0)]),
  (7, .istore_n 3, 1, false, (0), 3, 0, 0, 0, []),
  (8, .aload_n 0, 1, false, (0), 0, 0, 0, 0, []),
  (9, .getfield 43, 3, false, (0), 5, 10, 0, 0, []),
  (12, .getfield 72, 3, false, (0), 8, 15, 0, 0, []),
  (15, .ifCond .ne (43), 3, false, (0), 32, 0, 0, 0, []),
  (18, .aload_n 0, 1, false, (0), 0, 0, 0, 0, []),
  (19, .getfield 24, 3, false, (0), 5, 6, 0, 0, []),
  (22, .aload_n 0, 1, false, (0), 0, 0, 0, 0, []),
  (23, .getfield 50, 3, false, (0), 5, 9, 0, 0, []),
  (26, .iload_n 1, 1, false, (0), 1, 0, 0, 0, []),
  (27, .iastore, 1, false, (0), 0, 0, 0, 0, []),
  (28, .aload_n 0, 1, false, (0), 0, 0, 0, 0, []),
  (29, .getfield 27, 3, false, (0), 5, 7, 0, 0, []),
  (32, .aload_n 0, 1, false, (0), 0, 0, 0, 0, []),
  (33, .getfield 50, 3, false, (0), 5, 9, 0, 0, []),
  (36, .iload_n 2, 1, false, (0), 2, 0, 0, 0, []),
  (37, .iastore, 1, false, (0), 0, 0, 0, 0, []),
  (38, .aload_n 0, 1, false, (0), 0, 0, 0, 0, []),
  (39, .getfield 30, 3, false, (0), 5, 8, 0, 0, []),
  (42, .aload_n 0, 1, false, (0), 0, 0, 0, 0, []),
  (43, .getfield 50, 3, false, (0), 5, 9, 0, 0, []),
  (46, .iload_n 3, 1, false, (0), 3, 0, 0, 0, []),
  (47, .iastore, 1, false, (0), 0, 0, 0, 0, []),
  (48, .aload_n 0, 1, false, (0), 0, 0, 0, 0, []),
  (49, .dup, 1, false, (0), 0, 0, 0, 0, []),
  (50, .getfield 50, 3, false, (0), 5, 9, 0, 0, []),
  (53, .iconst (1), 1, false, (1), 0, 0, 0, 0, []),
  (54, .iadd, 1, false, (0), 0, 0, 0, 0, []),
  (55, .putfield 50, 3, false, (0), 5, 9, 0, 0, []),
  (58, .aload_n 0, 1, true, (0), 0, 0, 0, 0, []),
  (59, .getfield 43, 3, false, (0), 5, 10, 0, 0, []),
  (62, .bipush (6), 2, false, (6), 0, 0, 0, 0, []),
  (64, .iconst (4), 1, false, (4), 0, 0, 0, 0, []),
  (65, .iload_n 3, 1, false, (0), 3, 0, 0, 0, []),
  (66, .iconst (0), 1, false, (0), 0, 0, 0, 0, []),
  (67, .invokevirtual 69, 3, false, (0), 113, 8, 5, 0, []),
  (70, .aload_n 0, 1, false, (0), 0, 0, 0, 0, []),
  (71, .getfield 43, 3, false, (0), 5, 10, 0, 0, []),
  (74, .iconst (4), 1, false, (4), 0, 0, 0, 0, []),
  (75, .iconst (4), 1, false, (4), 0, 0, 0, 0, []),
  (76, .iconst (4), 1, false, (4), 0, 0, 0, 0, []),
  (77, .iconst (1), 1, false, (1), 0, 0, 0, 0, []),
  (78, .invokevirtual 69, 3, false, (0), 113, 8, 5, 0, []),
  (81, .aload_n 0, 1, false, (0), 0, 0, 0, 0, []),
  (82, .getfield 43, 3, false, (0), 5, 10, 0, 0, []),
  (85, .bipush (7), 2, false, (7), 0, 0, 0, 0, []),
  (87, .iconst (2), 1, false, (2), 0, 0, 0, 0, []),
  (88, .iconst (4), 1, false, (4), 0, 0, 0, 0, []),
  (89, .aload_n 0, 1, false, (0), 0, 0, 0, 0, []),
  (90, .getfield 37, 3, false, (0), 5, 1, 0, 0, []),
  (93, .getfield 88, 3, false, (0), 2, 1, 0, 0, []),
  (96, .iload_n 1, 1, false, (0), 1, 0, 0, 0, []),
  (97, .iaload, 1, false, (0), 0, 0, 0, 0, []),
  (98, .invokevirtual 69, 3, false, (0), 113, 8, 5, 0, []),
  (101, .aload_n 0, 1, false, (0), 0, 0, 0, 0, []),
  (102, .getfield 37, 3, false, (0), 5, 1, 0, 0, []),
  (105, .getfield 88, 3, false, (0), 2, 1, 0, 0, []),
  (108, .iload_n 1, 1, false, (0), 1, 0, 0, 0, []),
  (109, .iaload, 1, false, (0), 0, 0, 0, 0, []),
  (110, .ireturn, 1, false, (0), 0, 0, 0, 0, [])]
def f123 : sm_I := (⟨"TypedMill$CodeWriter", "writeLambda", "(II)I"⟩, prog_4_method_9_code, 4, (some .int), 2, false, 5, c123)
def c126 : List sm_R := [
  (0, .aload_n 0, 1, false, (0), 0, 0, 0, 0, []),
  (1, .getfield 43, 3, false, (0), 5, 10, 0, 0, []),
  (4, .getfield 72, 3, false, (0), 8, 15, 0, 0, []),
  (7, .ifCond .ne (13), 3, false, (0), 8, 0, 0, 0, []),
  (10, .aload_n 0, 1, false, (0), 0, 0, 0, 0, []),
  (11, .getfield 54, 3, false, (0), 5, 5, 0, 0, []),
  (14, .sipush (301), 3, false, (301), 0, 0, 0, 0, []),
  (17, .if_icmp .ne (5), 3, false, (0), 10, 0, 0, 0, []),
  (20, .iload_n 1, 1, true, (0), 1, 0, 0, 0, []),
  (21, .ireturn, 1, false, (0), 0, 0, 0, 0, []),
  (22, .aload_n 0, 1, false, (0), 0, 0, 0, 0, []),
  (23, .getfield 13, 3, false, (0), 5, 2, 0, 0, []),
  (26, .aload_n 0, 1, false, (0), 0, 0, 0, 0, []),
  (27, .getfield 54, 3, false, (0), 5, 5, 0, 0, []),
  (30, .aload_n 0, 1, false, (0), 0, 0, 0, 0, []),
  (31, .getfield 33, 3, false, (0), 5, 0, 0, 0, []),
  (34, .iconst (1), 1, false, (1), 0, 0, 0, 0, []),
  (35, .aload_n 0, 1, false, (0), 0, 0, 0, 0, []),
  (36, .getfield 13, 3, false, (0), 5, 2, 0, 0, []),
  (39, .iload_n 1, 1, false, (0), 1, 0, 0, 0, []),
  (40, .iaload, 1, false, (0), 0, 0, 0, 0, []),
  (41, .iload_n 2, 1, false, (0), 2, 0, 0, 0, []),
  (42, .iconst (-1), 1, false, (-1), 0, 0, 0, 0, []),
  (43, .invokevirtual 127, 3, false, (0), 159, 1, 5, 0, [(0, 0)]),
  (46, .iastore, 1, false, (0), 0, 0, 0, 0, []),
  (47, .aload_n 0, 1, false, (0), 0, 0, 0, 0, []),
  (48, .getfield 17, 3, false, (0), 5, 3, 0, 0, []),
  (51, .aload_n 0, 1, false, (0), 0, 0, 0, 0, []),
  (52, .getfield 54, 3, false, (0), 5, 5, 0, 0, []),
  (55, .iload_n 1, 1, false, (0), 1, 0, 0, 0, []),
  (56, .iastore, 1, false, (0), 0, 0, 0, 0, []),
  (57, .aload_n 0, 1, false, (0), 0, 0, 0, 0, []),
  (58, .getfield 20, 3, false, (0), 5, 4, 0, 0, []),
  (61, .aload_n 0, 1, false, (0), 0, 0, 0, 0, []),
  (62, .getfield 54, 3, false, (0), 5, 5, 0, 0, []),
  (65, .iload_n 3, 1, false, (0), 3, 0, 0, 0, []),
  (66, .bastore, 1, false, (0), 0, 0, 0, 0, []),
  (67, .aload_n 0, 1, false, (0), 0, 0, 0, 0, []),
  (68, .dup, 1, false, (0), 0, 0, 0, 0, []),
  (69, .getfield 54, 3, false, (0), 5, 5, 0, 0, []),
  (72, .iconst (1), 1, false, (1), 0, 0, 0, 0, []),
  (73, .iadd, 1, false, (0), 0, 0, 0, 0, []),
  (74, .putfield 54, 3, false, (0), 5, 5, 0, 0, []),
  (77, .aload_n 0, 1, false, (0), 0, 0, 0, 0, []),
  (78, .getfield 54, 3, false, (0), 5, 5, 0, 0, []),
  (81, .iconst (1), 1, false, (1), 0, 0, 0, 0, []),
  (82, .isub, 1, false, (0), 0, 0, 0, 0, []),
  (83, .ireturn, 1, false, (0), 0, 0, 0, 0, [])]
def f126 : sm_I := (⟨"TypedMill$CodeWriter", "extend", "(IIZ)I"⟩, prog_4_method_12_code, 4, (some .int), 3, false, 5, c126)
def c125 : List sm_R := [
  (0, .aload_n 0, 1, false, (0), 0, 0, 0, 0, []),
  (1, .aload_n 0, 1, false, (0), 0, 0, 0, 0, []),
  (2, .getfield 37, 3, false, (0), 5, 1, 0, 0, []),
  (5, .getfield 114, 3, false, (0), 2, 2, 0, 0, []),
  (8, .iload_n 1, 1, false, (0), 1, 0, 0, 0, []),
  (9, .iaload, 1, false, (0), 0, 0, 0, 0, []),
  (10, .iload_n 2, 1, false, (0), 2, 0, 0, 0, []),
  (11, .invokevirtual 65, 3, false, (0), 117, 5, 3, 0, [(0, 0)]),
  (14, .istore_n 3, 1, false, (0), 3, 0, 0, 0, []),
  (15, .aload_n 0, 1, false, (0), 0, 0, 0, 0, []),
  (16, .getfield 33, 3, false, (0), 5, 0, 0, 0, []),
  (19, .iload_n 3, 1, false, (0), 3, 0, 0, 0, []),
  (20, .invokevirtual 110, 3, false, (0), 154, 1, 2, 0, [(0, 0)]),
  (23, .istore 4, 2, false, (0), 4, 0, 0, 0, []),
  (25, .aload_n 0, 1, false, (0), 0, 0, 0, 0, []),
  (26, .getfield 43, 3, false, (0), 5, 10, 0, 0, []),
  (29, .iconst (4), 1, false, (4), 0, 0, 0, 0, []),
  (30, .iconst (1), 1, false, (1), 0, 0, 0, 0, []),
  (31, .iconst (1), 1, false, (1), 0, 0, 0, 0, []),
  (32, .iconst (2), 1, false, (2), 0, 0, 0, 0, []),
  (33, .invokevirtual 69, 3, false, (0), 113, 8, 5, 0, []),
  (36, .aload_n 0, 1, false, (0), 0, 0, 0, 0, []),
  (37, .aload_n 0, 1, false, (0), 0, 0, 0, 0, []),
  (38, .getfield 37, 3, false, (0), 5, 1, 0, 0, []),
  (41, .getfield 117, 3, false, (0), 2, 3, 0, 0, []),
  (44, .iload_n 1, 1, false, (0), 1, 0, 0, 0, []),
  (45, .iaload, 1, false, (0), 0, 0, 0, 0, []),
  (46, .aload_n 0, 1, false, (0), 0, 0, 0, 0, []),
  (47, .iload_n 2, 1, false, (0), 2, 0, 0, 0, []),
  (48, .iload_n 3, 1, false, (0), 3, 0, 0, 0, []),
  (49, .iconst (0), 1, false, (0), 0, 0, 0, 0, []),
  (50, .invokevirtual 120, 3, false, (0), 126, 5, 4, 0, [(0, 0)]),
  (53, .invokevirtual 65, 3, false, (0), 117, 5, 3, 0, [(0, 0)]),
  (56, .pop, 1, false, (0), 0, 0, 0, 0, []),
  (57, .aload_n 0, 1, false, (0), 0, 0, 0, 0, []),
  (58, .getfield 43, 3, false, (0), 5, 10, 0, 0, []),
  (61, .invokevirtual 57, 3, false, (0), 108, 8, 1, 0, [(0, 0)]),
  (64, .istore 5, 2, false, (0), 5, 0, 0, 0, []),
  (66, .aload_n 0, 1, false, (0), 0, 0, 0, 0, []),
  (67, .getfield 43, 3, false, (0), 5, 10, 0, 0, []),
  (70, .bipush (6), 2, false, (6), 0, 0, 0, 0, []),
  (72, .iconst (4), 1, false, (4), 0, 0, 0, 0, []),
  (73, .iload 5, 2, false, (0), 5, 0, 0, 0, []),
  (75, .iconst (0), 1, false, (0), 0, 0, 0, 0, []),
  (76, .invokevirtual 69, 3, false, (0), 113, 8, 5, 0, []),
  (79, .aload_n 0, 1, false, (0), 0, 0, 0, 0, []),
  (80, .getfield 43, 3, false, (0), 5, 10, 0, 0, []),
  (83, .iconst (5), 1, false, (5), 0, 0, 0, 0, []),
  (84, .iconst (5), 1, false, (5), 0, 0, 0, 0, []),
  (85, .iconst (1), 1, false, (1), 0, 0, 0, 0, []),
  (86, .iconst (0), 1, false, (0), 0, 0, 0, 0, []),
  (87, .invokevirtual 69, 3, false, (0), 113, 8, 5, 0, []),
  (90, .aload_n 0, 1, false, (0), 0, 0, 0, 0, []),
  (91, .getfield 43, 3, false, (0), 5, 10, 0, 0, []),
  (94, .iconst (4), 1, false, (4), 0, 0, 0, 0, []),
  (95, .iconst (4), 1, false, (4), 0, 0, 0, 0, []),
  (96, .iconst (4), 1, false, (4), 0, 0, 0, 0, []),
  (97, .iconst (5), 1, false, (5), 0, 0, 0, 0, []),
  (98, .invokevirtual 69, 3, false, (0), 113, 8, 5, 0, []),
  (101, .aload_n 0, 1, false, (0), 0, 0, 0, 0, []),
  (102, .getfield 43, 3, false, (0), 5, 10, 0, 0, []),
  (105, .bipush (7), 2, false, (7), 0, 0, 0, 0, []),
  (107, .iconst (3), 1, false, (3), 0, 0, 0, 0, []),
  (108, .iconst (4), 1, false, (4), 0, 0, 0, 0, []),
  (109, .aload_n 0, 1, false, (0), 0, 0, 0, 0, []),
  (110, .getfield 33, 3, false, (0), 5, 0, 0, 0, []),
  (113, .iconst (3), 1, false, (3), 0, 0, 0, 0, []),
  (114, .iload 4, 2, false, (0), 4, 0, 0, 0, []),
  (116, .iconst (-1), 1, false, (-1), 0, 0, 0, 0, []),
  (117, .iconst (-1), 1, false, (-1), 0, 0, 0, 0, []),
  (118, .invokevirtual 127, 3, false, (0), 159, 1, 5, 0, [(0, 0)]),
  (121, .invokevirtual 69, 3, false, (0), 113, 8, 5, 0, []),
  (124, .aload_n 0, 1, false, (0), 0, 0, 0, 0, []),
  (125, .getfield 43, 3, false, (0), 5, 10, 0, 0, []),
  (128, .iconst (5), 1, false, (5), 0, 0, 0, 0, []),
  (129, .iconst (4), 1, false, (4), 0, 0, 0, 0, []),
  (130, .iconst (1), 1, false, (1), 0, 0, 0, 0, []),
  (131, .iconst (1), 1, false, (1), 0, 0, 0, 0, []),
  (132, .invokevirtual 69, 3, false, (0), 113, 8, 5, 0, []),
  (135, .aload_n 0, 1, false, (0), 0, 0, 0, 0, []),
  (136, .getfield 43, 3, false, (0), 5, 10, 0, 0, []),
  (139, .bipush (8), 2, false, (8), 0, 0, 0, 0, []),
  (141, .iconst (5), 1, false, (5), 0, 0, 0, 0, []),
  (142, .iconst (1), 1, false, (1), 0, 0, 0, 0, []),
  (143, .iconst (4), 1, false, (4), 0, 0, 0, 0, []),
  (144, .invokevirtual 69, 3, false, (0), 113, 8, 5, 0, []),
  (147, .aload_n 0, 1, false, (0), 0, 0, 0, 0, []),
  (148, .getfield 43, 3, false, (0), 5, 10, 0, 0, []),
  (151, .bipush (11), 2, false, (11), 0, 0, 0, 0, []),
  (153, .iconst (5), 1, false, (5), 0, 0, 0, 0, []),
  (154, .iconst (0), 1, false, (0), 0, 0, 0, 0, []),
  (155, .iconst (0), 1, false, (0), 0, 0, 0, 0, []),
  (156, .invokevirtual 69, 3, false, (0), 113, 8, 5, 0, []),
  (159, .aload_n 0, 1, false, (0), 0, 0, 0, 0, []),
  (160, .getfield 43, 3, false, (0), 5, 10, 0, 0, []),
  (163, .iload 5, 2, false, (0), 5, 0, 0, 0, []),
  (165, .aload_n 0, 1, false, (0), 0, 0, 0, 0, []),
  (166, .getfield 13, 3, false, (0), 5, 2, 0, 0, []),
  (169, .iload_n 2, 1, false, (0), 2, 0, 0, 0, []),
  (170, .iaload, 1, false, (0), 0, 0, 0, 0, []),
  (171, .iload 4, 2, false, (0), 4, 0, 0, 0, []),
  (173, .iconst (-1), 1, false, (-1), 0, 0, 0, 0, []),
  (174, .invokevirtual 61, 3, false, (0), 109, 8, 5, 0, []),
  (177, .iload 4, 2, false, (0), 4, 0, 0, 0, []),
  (179, .ireturn, 1, false, (0), 0, 0, 0, 0, [])]
def f125 : sm_I := (⟨"TypedMill$CodeWriter", "writeCall", "(II)I"⟩, prog_4_method_11_code, 6, (some .int), 2, false, 5, c125)
def c121 : List sm_R := [
  (0, .aload_n 0, 1, false, (0), 0, 0, 0, 0, []),
  (1, .aload_n 0, 1, false, (0), 0, 0, 0, 0, []),
  (2, .getfield 37, 3, false, (0), 5, 1, 0, 0, []),
  (5, .getfield 114, 3, false, (0), 2, 2, 0, 0, []),
  (8, .iload_n 1, 1, false, (0), 1, 0, 0, 0, []),
  (9, .iaload, 1, false, (0), 0, 0, 0, 0, []),
  (10, .iload_n 2, 1, false, (0), 2, 0, 0, 0, []),
  (11, .invokevirtual 65, 3, false, (0), 117, 5, 3, 0, [(0, 0)]),
  (14, .istore 4, 2, false, (0), 4, 0, 0, 0, []),
  (16, .aload_n 0, 1, false, (0), 0, 0, 0, 0, []),
  (17, .getfield 43, 3, false, (0), 5, 10, 0, 0, []),
  (20, .iconst (5), 1, false, (5), 0, 0, 0, 0, []),
  (21, .iconst (2), 1, false, (2), 0, 0, 0, 0, []),
  (22, .iconst (2), 1, false, (2), 0, 0, 0, 0, []),
  (23, .iload_n 3, 1, false, (0), 3, 0, 0, 0, []),
  (24, .invokevirtual 69, 3, false, (0), 113, 8, 5, 0, []),
  (27, .iload_n 3, 1, false, (0), 3, 0, 0, 0, []),
  (28, .ifCond .ne (15), 3, false, (0), 23, 0, 0, 0, []),
  (31, .aload_n 0, 1, false, (0), 0, 0, 0, 0, []),
  (32, .getfield 33, 3, false, (0), 5, 0, 0, 0, []),
  (35, .iload 4, 2, false, (0), 4, 0, 0, 0, []),
  (37, .invokevirtual 131, 3, false, (0), 153, 1, 2, 0, [(0, 0)]),
  (40, .goto (12), 3, false, (0), 27, 0, 0, 0, []),
  (43, .aload_n 0, 1, false, (0), 0, 0, 0, 0, []),
  (44, .getfield 33, 3, false, (0), 5, 0, 0, 0, []),
  (47, .iload 4, 2, false, (0), 4, 0, 0, 0, []),
  (49, .invokevirtual 110, 3, false, (0), 154, 1, 2, 0, [(0, 0)]),
  (52, .ireturn, 1, true, (0), 0, 0, 0, 0, [])]
def f121 : sm_I := (⟨"TypedMill$CodeWriter", "writePart", "(III)I"⟩, prog_4_method_7_code, 5, (some .int), 3, false, 5, c121)
def c120 : List sm_R := [
  (0, .iload_n 0, 1, false, (0), 0, 0, 0, 0, []),
  (1, .tableswitch (33) (2) (4) #[(27), (29), (31)], 27, false, (0), 8, 0, 0, 0, [((2), 2), ((3), 4), ((4), 6)]),
  (28, .iconst (1), 1, false, (1), 0, 0, 0, 0, []),
  (29, .ireturn, 1, false, (0), 0, 0, 0, 0, []),
  (30, .iconst (2), 1, false, (2), 0, 0, 0, 0, []),
  (31, .ireturn, 1, false, (0), 0, 0, 0, 0, []),
  (32, .iconst (3), 1, false, (3), 0, 0, 0, 0, []),
  (33, .ireturn, 1, false, (0), 0, 0, 0, 0, []),
  (34, .iconst (4), 1, false, (4), 0, 0, 0, 0, []),
  (35, .ireturn, 1, false, (0), 0, 0, 0, 0, [])]
def f120 : sm_I := (⟨"TypedMill$CodeWriter", "operationFor", "(I)I"⟩, prog_4_method_6_code, 1, (some .int), 1, true, 5, c120)
def c119 : List sm_R := [
  (0, .aload_n 0, 1, false, (0), 0, 0, 0, 0, []),
  (1, .aload_n 0, 1, false, (0), 0, 0, 0, 0, []),
  (2, .getfield 37, 3, false, (0), 5, 1, 0, 0, []),
  (5, .getfield 114, 3, false, (0), 2, 2, 0, 0, []),
  (8, .iload_n 1, 1, false, (0), 1, 0, 0, 0, []),
  (9, .iaload, 1, false, (0), 0, 0, 0, 0, []),
  (10, .iload_n 2, 1, false, (0), 2, 0, 0, 0, []),
  (11, .invokevirtual 65, 3, false, (0), 117, 5, 3, 0, [(0, 0)]),
  (14, .istore_n 3, 1, false, (0), 3, 0, 0, 0, []),
  (15, .aload_n 0, 1, false, (0), 0, 0, 0, 0, []),
  (16, .getfield 43, 3, false, (0), 5, 10, 0, 0, []),
  (19, .iconst (4), 1, false, (4), 0, 0, 0, 0, []),
  (20, .iconst (1), 1, false, (1), 0, 0, 0, 0, []),
  (21, .iconst (1), 1, false, (1), 0, 0, 0, 0, []),
  (22, .iconst (2), 1, false, (2), 0, 0, 0, 0, []),
  (23, .invokevirtual 69, 3, false, (0), 113, 8, 5, 0, []),
  (26, .aload_n 0, 1, false, (0), 0, 0, 0, 0, []),
  (27, .aload_n 0, 1, false, (0), 0, 0, 0, 0, []),
  (28, .getfield 37, 3, false, (0), 5, 1, 0, 0, []),
  (31, .getfield 117, 3, false, (0), 2, 3, 0, 0, []),
  (34, .iload_n 1, 1, false, (0), 1, 0, 0, 0, []),
  (35, .iaload, 1, false, (0), 0, 0, 0, 0, []),
  (36, .aload_n 0, 1, false, (0), 0, 0, 0, 0, []),
  (37, .iload_n 2, 1, false, (0), 2, 0, 0, 0, []),
  (38, .iload_n 3, 1, false, (0), 3, 0, 0, 0, []),
  (39, .iconst (0), 1, false, (0), 0, 0, 0, 0, []),
  (40, .invokevirtual 120, 3, false, (0), 126, 5, 4, 0, [(0, 0)]),
  (43, .invokevirtual 65, 3, false, (0), 117, 5, 3, 0, [(0, 0)]),
  (46, .istore 4, 2, false, (0), 4, 0, 0, 0, []),
  (48, .aload_n 0, 1, false, (0), 0, 0, 0, 0, []),
  (49, .getfield 43, 3, false, (0), 5, 10, 0, 0, []),
  (52, .iconst (5), 1, false, (5), 0, 0, 0, 0, []),
  (53, .iconst (4), 1, false, (4), 0, 0, 0, 0, []),
  (54, .iconst (1), 1, false, (1), 0, 0, 0, 0, []),
  (55, .iconst (1), 1, false, (1), 0, 0, 0, 0, []),
  (56, .invokevirtual 69, 3, false, (0), 113, 8, 5, 0, []),
  (59, .aload_n 0, 1, false, (0), 0, 0, 0, 0, []),
  (60, .getfield 43, 3, false, (0), 5, 10, 0, 0, []),
  (63, .aload_n 0, 1, false, (0), 0, 0, 0, 0, []),
  (64, .getfield 37, 3, false, (0), 5, 1, 0, 0, []),
  (67, .getfield 83, 3, false, (0), 2, 0, 0, 0, []),
  (70, .iload_n 1, 1, false, (0), 1, 0, 0, 0, []),
  (71, .iaload, 1, false, (0), 0, 0, 0, 0, []),
  (72, .invokestatic 124, 3, false, (0), 120, 0, 1, 0, [(0, 0)]),
  (75, .iconst (2), 1, false, (2), 0, 0, 0, 0, []),
  (76, .iconst (4), 1, false, (4), 0, 0, 0, 0, []),
  (77, .iconst (2), 1, false, (2), 0, 0, 0, 0, []),
  (78, .invokevirtual 69, 3, false, (0), 113, 8, 5, 0, []),
  (81, .aload_n 0, 1, false, (0), 0, 0, 0, 0, []),
  (82, .getfield 43, 3, false, (0), 5, 10, 0, 0, []),
  (85, .iconst (5), 1, false, (5), 0, 0, 0, 0, []),
  (86, .iconst (1), 1, false, (1), 0, 0, 0, 0, []),
  (87, .iconst (1), 1, false, (1), 0, 0, 0, 0, []),
  (88, .iconst (0), 1, false, (0), 0, 0, 0, 0, []),
  (89, .invokevirtual 69, 3, false, (0), 113, 8, 5, 0, []),
  (92, .aload_n 0, 1, false, (0), 0, 0, 0, 0, []),
  (93, .getfield 37, 3, false, (0), 5, 1, 0, 0, []),
  (96, .getfield 83, 3, false, (0), 2, 0, 0, 0, []),
  (99, .iload_n 1, 1, false, (0), 1, 0, 0, 0, []),
  (100, .iaload, 1, false, (0), 0, 0, 0, 0, []),
  (101, .bipush (8), 2, false, (8), 0, 0, 0, 0, []),
  (103, .if_icmp .ne (7), 3, false, (0), 64, 0, 0, 0, []),
  (106, .iconst (1), 1, false, (1), 0, 0, 0, 0, []),
  (107, .goto (4), 3, false, (0), 65, 0, 0, 0, []),
  (110, .iconst (0), 1, false, (0), 0, 0, 0, 0, []),
  (111, .istore 5, 2, true, (0), 5, 0, 0, 0, []),
  (113, .iload 5, 2, false, (0), 5, 0, 0, 0, []),
  (115, .ifCond .eq (18), 3, false, (0), 76, 0, 0, 0, []),
  (118, .aload_n 0, 1, false, (0), 0, 0, 0, 0, []),
  (119, .getfield 33, 3, false, (0), 5, 0, 0, 0, []),
  (122, .iconst (1), 1, false, (1), 0, 0, 0, 0, []),
  (123, .iload_n 3, 1, false, (0), 3, 0, 0, 0, []),
  (124, .iload 4, 2, false, (0), 4, 0, 0, 0, []),
  (126, .iconst (-1), 1, false, (-1), 0, 0, 0, 0, []),
  (127, .invokevirtual 127, 3, false, (0), 159, 1, 5, 0, [(0, 0)]),
  (130, .goto (4), 3, false, (0), 77, 0, 0, 0, []),
  (133, .iconst (0), 1, false, (0), 0, 0, 0, 0, []),
  (134, .ireturn, 1, true, (0), 0, 0, 0, 0, [])]
def f119 : sm_I := (⟨"TypedMill$CodeWriter", "writeTwo", "(II)I"⟩, prog_4_method_5_code, 6, (some .int), 2, false, 5, c119)
def c117 : List sm_R := [
  (0, .aload_n 0, 1, false, (0), 0, 0, 0, 0, []),
  (1, .getfield 43, 3, false, (0), 5, 10, 0, 0, []),
  (4, .getfield 72, 3, false, (0), 8, 15, 0, 0, []),
  (7, .ifCond .eq (5), 3, false, (0), 6, 0, 0, 0, []),
  (10, .iconst (0), 1, false, (0), 0, 0, 0, 0, []),
  (11, .ireturn, 1, false, (0), 0, 0, 0, 0, []),
  (12, .aload_n 0, 1, false, (0), 0, 0, 0, 0, []),
  (13, .getfield 37, 3, false, (0), 5, 1, 0, 0, []),
  (16, .getfield 83, 3, false, (0), 2, 0, 0, 0, []),
  (19, .iload_n 1, 1, false, (0), 1, 0, 0, 0, []),
  (20, .iaload, 1, false, (0), 0, 0, 0, 0, []),
  (21, .tableswitch (132) (0) (10) #[(59), (80), (132), (132), (132), (95), (102), (109), (132), (116), (124)], 59, false, (0), 61, 0, 0, 0, [((0), 12), ((1), 25), ((2), 61), ((3), 61), ((4), 61), ((5), 34), ((6), 39), ((7), 44), ((8), 61), ((9), 49), ((10), 55)]),
  (80, .aload_n 0, 1, false, (0), 0, 0, 0, 0, []),
  (81, .getfield 43, 3, false, (0), 5, 10, 0, 0, []),
  (84, .iconst (0), 1, false, (0), 0, 0, 0, 0, []),
  (85, .iconst (2), 1, false, (2), 0, 0, 0, 0, []),
  (86, .aload_n 0, 1, false, (0), 0, 0, 0, 0, []),
  (87, .getfield 37, 3, false, (0), 5, 1, 0, 0, []),
  (90, .getfield 88, 3, false, (0), 2, 1, 0, 0, []),
  (93, .iload_n 1, 1, false, (0), 1, 0, 0, 0, []),
  (94, .iaload, 1, false, (0), 0, 0, 0, 0, []),
  (95, .iconst (0), 1, false, (0), 0, 0, 0, 0, []),
  (96, .invokevirtual 69, 3, false, (0), 113, 8, 5, 0, []),
  (99, .iconst (0), 1, false, (0), 0, 0, 0, 0, []),
  (100, .ireturn, 1, false, (0), 0, 0, 0, 0, []),
  (101, .aload_n 0, 1, false, (0), 0, 0, 0, 0, []),
  (102, .aload_n 0, 1, false, (0), 0, 0, 0, 0, []),
  (103, .getfield 37, 3, false, (0), 5, 1, 0, 0, []),
  (106, .getfield 88, 3, false, (0), 2, 1, 0, 0, []),
  (109, .iload_n 1, 1, false, (0), 1, 0, 0, 0, []),
  (110, .iaload, 1, false, (0), 0, 0, 0, 0, []),
  (111, .iload_n 2, 1, false, (0), 2, 0, 0, 0, []),
  (112, .invokevirtual 91, 3, false, (0), 118, 5, 3, 0, [(0, 0)]),
  (115, .ireturn, 1, false, (0), 0, 0, 0, 0, []),
  (116, .aload_n 0, 1, false, (0), 0, 0, 0, 0, []),
  (117, .iload_n 1, 1, false, (0), 1, 0, 0, 0, []),
  (118, .iload_n 2, 1, false, (0), 2, 0, 0, 0, []),
  (119, .invokevirtual 94, 3, false, (0), 122, 5, 3, 0, [(0, 0)]),
  (122, .ireturn, 1, false, (0), 0, 0, 0, 0, []),
  (123, .aload_n 0, 1, false, (0), 0, 0, 0, 0, []),
  (124, .iload_n 1, 1, false, (0), 1, 0, 0, 0, []),
  (125, .iload_n 2, 1, false, (0), 2, 0, 0, 0, []),
  (126, .invokevirtual 97, 3, false, (0), 123, 5, 3, 0, [(0, 0)]),
  (129, .ireturn, 1, false, (0), 0, 0, 0, 0, []),
  (130, .aload_n 0, 1, false, (0), 0, 0, 0, 0, []),
  (131, .iload_n 1, 1, false, (0), 1, 0, 0, 0, []),
  (132, .iload_n 2, 1, false, (0), 2, 0, 0, 0, []),
  (133, .invokevirtual 100, 3, false, (0), 125, 5, 3, 0, [(0, 0)]),
  (136, .ireturn, 1, false, (0), 0, 0, 0, 0, []),
  (137, .aload_n 0, 1, false, (0), 0, 0, 0, 0, []),
  (138, .iload_n 1, 1, false, (0), 1, 0, 0, 0, []),
  (139, .iload_n 2, 1, false, (0), 2, 0, 0, 0, []),
  (140, .iconst (0), 1, false, (0), 0, 0, 0, 0, []),
  (141, .invokevirtual 103, 3, false, (0), 121, 5, 4, 0, [(0, 0)]),
  (144, .ireturn, 1, false, (0), 0, 0, 0, 0, []),
  (145, .aload_n 0, 1, false, (0), 0, 0, 0, 0, []),
  (146, .iload_n 1, 1, false, (0), 1, 0, 0, 0, []),
  (147, .iload_n 2, 1, false, (0), 2, 0, 0, 0, []),
  (148, .iconst (1), 1, false, (1), 0, 0, 0, 0, []),
  (149, .invokevirtual 103, 3, false, (0), 121, 5, 4, 0, [(0, 0)]),
  (152, .ireturn, 1, false, (0), 0, 0, 0, 0, []),
  (153, .aload_n 0, 1, true, (0), 0, 0, 0, 0, []),
  (154, .iload_n 1, 1, false, (0), 1, 0, 0, 0, []),
  (155, .iload_n 2, 1, false, (0), 2, 0, 0, 0, []),
  (156, .invokevirtual 107, 3, false, (0), 119, 5, 3, 0, [(0, 0)]),
  (159, .ireturn, 1, false, (0), 0, 0, 0, 0, [])]
def f117 : sm_I := (⟨"TypedMill$CodeWriter", "write", "(II)I"⟩, prog_4_method_3_code, 3, (some .int), 2, false, 5, c117)
def c124 : List sm_R := [
  (0, .aload_n 0, 1, false, (0), 0, 0, 0, 0, []),
  (1, .getfield 37, 3, false, (0), 5, 1, 0, 0, []),
  (4, .getfield 88, 3, false, (0), 2, 1, 0, 0, []),
  (7, .iload_n 1, 1, false, (0), 1, 0, 0, 0, []),
  (8, .iaload, 1, false, (0), 0, 0, 0, 0, []),
  (9, .istore 4, 2, false, (0), 4, 0, 0, 0, []),
  (11, .aload_n 0, 1, false, (0), 0, 0, 0, 0, []),
  (12, .getfield 33, 3, false, (0), 5, 0, 0, 0, []),
  (15, .iload 4, 2, false, (0), 4, 0, 0, 0, []),
  (17, .invokevirtual 131, 3, false, (0), 153, 1, 2, 0, [(0, 0)]),
  (20, .istore 5, 2, false, (0), 5, 0, 0, 0, []),
  (22, .aload_n 0, 1, false, (0), 0, 0, 0, 0, []),
  (23, .getfield 33, 3, false, (0), 5, 0, 0, 0, []),
  (26, .iconst (3), 1, false, (3), 0, 0, 0, 0, []),
  (27, .aload_n 0, 1, false, (0), 0, 0, 0, 0, []),
  (28, .getfield 33, 3, false, (0), 5, 0, 0, 0, []),
  (31, .iload 4, 2, false, (0), 4, 0, 0, 0, []),
  (33, .invokevirtual 110, 3, false, (0), 154, 1, 2, 0, [(0, 0)]),
  (36, .iconst (-1), 1, false, (-1), 0, 0, 0, 0, []),
  (37, .iconst (-1), 1, false, (-1), 0, 0, 0, 0, []),
  (38, .invokevirtual 127, 3, false, (0), 159, 1, 5, 0, [(0, 0)]),
  (41, .istore 6, 2, false, (0), 6, 0, 0, 0, []),
  (43, .aload_n 0, 1, false, (0), 0, 0, 0, 0, []),
  (44, .getfield 43, 3, false, (0), 5, 10, 0, 0, []),
  (47, .iload_n 3, 1, false, (0), 3, 0, 0, 0, []),
  (48, .aload_n 0, 1, false, (0), 0, 0, 0, 0, []),
  (49, .getfield 13, 3, false, (0), 5, 2, 0, 0, []),
  (52, .iload_n 2, 1, false, (0), 2, 0, 0, 0, []),
  (53, .iaload, 1, false, (0), 0, 0, 0, 0, []),
  (54, .iload 5, 2, false, (0), 5, 0, 0, 0, []),
  (56, .iload 6, 2, false, (0), 6, 0, 0, 0, []),
  (58, .invokevirtual 61, 3, false, (0), 109, 8, 5, 0, []),
  (61, .aload_n 0, 1, false, (0), 0, 0, 0, 0, []),
  (62, .getfield 43, 3, false, (0), 5, 10, 0, 0, []),
  (65, .bipush (6), 2, false, (6), 0, 0, 0, 0, []),
  (67, .iconst (4), 1, false, (4), 0, 0, 0, 0, []),
  (68, .iload_n 3, 1, false, (0), 3, 0, 0, 0, []),
  (69, .iconst (0), 1, false, (0), 0, 0, 0, 0, []),
  (70, .invokevirtual 69, 3, false, (0), 113, 8, 5, 0, []),
  (73, .aload_n 0, 1, false, (0), 0, 0, 0, 0, []),
  (74, .getfield 43, 3, false, (0), 5, 10, 0, 0, []),
  (77, .iconst (4), 1, false, (4), 0, 0, 0, 0, []),
  (78, .iconst (4), 1, false, (4), 0, 0, 0, 0, []),
  (79, .iconst (4), 1, false, (4), 0, 0, 0, 0, []),
  (80, .iconst (1), 1, false, (1), 0, 0, 0, 0, []),
  (81, .invokevirtual 69, 3, false, (0), 113, 8, 5, 0, []),
  (84, .aload_n 0, 1, false, (0), 0, 0, 0, 0, []),
  (85, .getfield 43, 3, false, (0), 5, 10, 0, 0, []),
  (88, .bipush (7), 2, false, (7), 0, 0, 0, 0, []),
  (90, .iconst (4), 1, false, (4), 0, 0, 0, 0, []),
  (91, .iconst (4), 1, false, (4), 0, 0, 0, 0, []),
  (92, .iload 4, 2, false, (0), 4, 0, 0, 0, []),
  (94, .invokevirtual 69, 3, false, (0), 113, 8, 5, 0, []),
  (97, .aload_n 0, 1, false, (0), 0, 0, 0, 0, []),
  (98, .getfield 43, 3, false, (0), 5, 10, 0, 0, []),
  (101, .iconst (4), 1, false, (4), 0, 0, 0, 0, []),
  (102, .iconst (1), 1, false, (1), 0, 0, 0, 0, []),
  (103, .iconst (1), 1, false, (1), 0, 0, 0, 0, []),
  (104, .iconst (4), 1, false, (4), 0, 0, 0, 0, []),
  (105, .invokevirtual 69, 3, false, (0), 113, 8, 5, 0, []),
  (108, .aload_n 0, 1, false, (0), 0, 0, 0, 0, []),
  (109, .iload_n 2, 1, false, (0), 2, 0, 0, 0, []),
  (110, .iload 4, 2, false, (0), 4, 0, 0, 0, []),
  (112, .iconst (1), 1, false, (1), 0, 0, 0, 0, []),
  (113, .invokevirtual 120, 3, false, (0), 126, 5, 4, 0, [(0, 0)]),
  (116, .istore 7, 2, false, (0), 7, 0, 0, 0, []),
  (118, .aload_n 0, 1, false, (0), 0, 0, 0, 0, []),
  (119, .getfield 43, 3, false, (0), 5, 10, 0, 0, []),
  (122, .iconst (4), 1, false, (4), 0, 0, 0, 0, []),
  (123, .iconst (1), 1, false, (1), 0, 0, 0, 0, []),
  (124, .iconst (1), 1, false, (1), 0, 0, 0, 0, []),
  (125, .iconst (3), 1, false, (3), 0, 0, 0, 0, []),
  (126, .invokevirtual 69, 3, false, (0), 113, 8, 5, 0, []),
  (129, .aload_n 0, 1, false, (0), 0, 0, 0, 0, []),
  (130, .iload 7, 2, false, (0), 7, 0, 0, 0, []),
  (132, .iload 6, 2, false, (0), 6, 0, 0, 0, []),
  (134, .iconst (0), 1, false, (0), 0, 0, 0, 0, []),
  (135, .invokevirtual 120, 3, false, (0), 126, 5, 4, 0, [(0, 0)]),
  (138, .istore 8, 2, false, (0), 8, 0, 0, 0, []),
  (140, .aload_n 0, 1, false, (0), 0, 0, 0, 0, []),
  (141, .getfield 43, 3, false, (0), 5, 10, 0, 0, []),
  (144, .iconst (4), 1, false, (4), 0, 0, 0, 0, []),
  (145, .iconst (1), 1, false, (1), 0, 0, 0, 0, []),
  (146, .iconst (1), 1, false, (1), 0, 0, 0, 0, []),
  (147, .iconst (2), 1, false, (2), 0, 0, 0, 0, []),
  (148, .invokevirtual 69, 3, false, (0), 113, 8, 5, 0, []),
  (151, .aload_n 0, 1, false, (0), 0, 0, 0, 0, []),
  (152, .aload_n 0, 1, false, (0), 0, 0, 0, 0, []),
  (153, .getfield 37, 3, false, (0), 5, 1, 0, 0, []),
  (156, .getfield 114, 3, false, (0), 2, 2, 0, 0, []),
  (159, .iload_n 1, 1, false, (0), 1, 0, 0, 0, []),
  (160, .iaload, 1, false, (0), 0, 0, 0, 0, []),
  (161, .aload_n 0, 1, false, (0), 0, 0, 0, 0, []),
  (162, .iload 8, 2, false, (0), 8, 0, 0, 0, []),
  (164, .iload 5, 2, false, (0), 5, 0, 0, 0, []),
  (166, .iconst (1), 1, false, (1), 0, 0, 0, 0, []),
  (167, .invokevirtual 120, 3, false, (0), 126, 5, 4, 0, [(0, 0)]),
  (170, .invokevirtual 65, 3, false, (0), 117, 5, 3, 0, [(0, 0)]),
  (173, .pop, 1, false, (0), 0, 0, 0, 0, []),
  (174, .aload_n 0, 1, false, (0), 0, 0, 0, 0, []),
  (175, .getfield 43, 3, false, (0), 5, 10, 0, 0, []),
  (178, .iconst (5), 1, false, (5), 0, 0, 0, 0, []),
  (179, .iconst (4), 1, false, (4), 0, 0, 0, 0, []),
  (180, .iconst (1), 1, false, (1), 0, 0, 0, 0, []),
  (181, .iconst (0), 1, false, (0), 0, 0, 0, 0, []),
  (182, .invokevirtual 69, 3, false, (0), 113, 8, 5, 0, []),
  (185, .aload_n 0, 1, false, (0), 0, 0, 0, 0, []),
  (186, .getfield 43, 3, false, (0), 5, 10, 0, 0, []),
  (189, .iconst (5), 1, false, (5), 0, 0, 0, 0, []),
  (190, .iconst (4), 1, false, (4), 0, 0, 0, 0, []),
  (191, .iconst (4), 1, false, (4), 0, 0, 0, 0, []),
  (192, .iconst (1), 1, false, (1), 0, 0, 0, 0, []),
  (193, .invokevirtual 69, 3, false, (0), 113, 8, 5, 0, []),
  (196, .aload_n 0, 1, false, (0), 0, 0, 0, 0, []),
  (197, .getfield 43, 3, false, (0), 5, 10, 0, 0, []),
  (200, .bipush (8), 2, false, (8), 0, 0, 0, 0, []),
  (202, .iconst (5), 1, false, (5), 0, 0, 0, 0, []),
  (203, .iconst (1), 1, false, (1), 0, 0, 0, 0, []),
  (204, .iconst (4), 1, false, (4), 0, 0, 0, 0, []),
  (205, .invokevirtual 69, 3, false, (0), 113, 8, 5, 0, []),
  (208, .aload_n 0, 1, false, (0), 0, 0, 0, 0, []),
  (209, .getfield 43, 3, false, (0), 5, 10, 0, 0, []),
  (212, .bipush (11), 2, false, (11), 0, 0, 0, 0, []),
  (214, .iconst (5), 1, false, (5), 0, 0, 0, 0, []),
  (215, .iconst (0), 1, false, (0), 0, 0, 0, 0, []),
  (216, .iconst (0), 1, false, (0), 0, 0, 0, 0, []),
  (217, .invokevirtual 69, 3, false, (0), 113, 8, 5, 0, []),
  (220, .return_, 1, false, (0), 0, 0, 0, 0, [])]
def f124 : sm_I := (⟨"TypedMill$CodeWriter", "writeBody", "(III)V"⟩, prog_4_method_10_code, 9, none, 3, false, 5, c124)
def c116 : List sm_R := [
  (0, .aload_n 0, 1, false, (0), 0, 0, 0, 0, []),
  (1, .aload_n 2, 1, false, (0), 2, 0, 0, 0, []),
  (2, .putfield 43, 3, false, (0), 5, 10, 0, 0, []),
  (5, .aload_n 0, 1, false, (0), 0, 0, 0, 0, []),
  (6, .getfield 43, 3, false, (0), 5, 10, 0, 0, []),
  (9, .invokevirtual 47, 3, false, (0), 103, 8, 1, 0, []),
  (12, .aload_n 0, 1, false, (0), 0, 0, 0, 0, []),
  (13, .iconst (0), 1, false, (0), 0, 0, 0, 0, []),
  (14, .putfield 50, 3, false, (0), 5, 9, 0, 0, []),
  (17, .aload_n 0, 1, false, (0), 0, 0, 0, 0, []),
  (18, .iconst (1), 1, false, (1), 0, 0, 0, 0, []),
  (19, .putfield 54, 3, false, (0), 5, 5, 0, 0, []),
  (22, .aload_n 0, 1, false, (0), 0, 0, 0, 0, []),
  (23, .getfield 43, 3, false, (0), 5, 10, 0, 0, []),
  (26, .aload_n 0, 1, false, (0), 0, 0, 0, 0, []),
  (27, .getfield 43, 3, false, (0), 5, 10, 0, 0, []),
  (30, .invokevirtual 57, 3, false, (0), 108, 8, 1, 0, [(0, 0)]),
  (33, .iconst (0), 1, false, (0), 0, 0, 0, 0, []),
  (34, .iconst (-1), 1, false, (-1), 0, 0, 0, 0, []),
  (35, .iconst (-1), 1, false, (-1), 0, 0, 0, 0, []),
  (36, .invokevirtual 61, 3, false, (0), 109, 8, 5, 0, []),
  (39, .aload_n 0, 1, false, (0), 0, 0, 0, 0, []),
  (40, .iload_n 1, 1, false, (0), 1, 0, 0, 0, []),
  (41, .iconst (0), 1, false, (0), 0, 0, 0, 0, []),
  (42, .invokevirtual 65, 3, false, (0), 117, 5, 3, 0, [(0, 0)]),
  (45, .pop, 1, false, (0), 0, 0, 0, 0, []),
  (46, .aload_n 0, 1, false, (0), 0, 0, 0, 0, []),
  (47, .getfield 43, 3, false, (0), 5, 10, 0, 0, []),
  (50, .bipush (12), 2, false, (12), 0, 0, 0, 0, []),
  (52, .iconst (0), 1, false, (0), 0, 0, 0, 0, []),
  (53, .iconst (0), 1, false, (0), 0, 0, 0, 0, []),
  (54, .iconst (0), 1, false, (0), 0, 0, 0, 0, []),
  (55, .invokevirtual 69, 3, false, (0), 113, 8, 5, 0, []),
  (58, .iconst (0), 1, false, (0), 0, 0, 0, 0, []),
  (59, .istore_n 3, 1, false, (0), 3, 0, 0, 0, []),
  (60, .iload_n 3, 1, true, (0), 3, 0, 0, 0, []),
  (61, .aload_n 0, 1, false, (0), 0, 0, 0, 0, []),
  (62, .getfield 50, 3, false, (0), 5, 9, 0, 0, []),
  (65, .if_icmp .ge (41), 3, false, (0), 59, 0, 0, 0, []),
  (68, .aload_n 0, 1, false, (0), 0, 0, 0, 0, []),
  (69, .getfield 43, 3, false, (0), 5, 10, 0, 0, []),
  (72, .getfield 72, 3, false, (0), 8, 15, 0, 0, []),
  (75, .ifCond .ne (31), 3, false, (0), 59, 0, 0, 0, []),
  (78, .aload_n 0, 1, false, (0), 0, 0, 0, 0, []),
  (79, .aload_n 0, 1, false, (0), 0, 0, 0, 0, []),
  (80, .getfield 24, 3, false, (0), 5, 6, 0, 0, []),
  (83, .iload_n 3, 1, false, (0), 3, 0, 0, 0, []),
  (84, .iaload, 1, false, (0), 0, 0, 0, 0, []),
  (85, .aload_n 0, 1, false, (0), 0, 0, 0, 0, []),
  (86, .getfield 27, 3, false, (0), 5, 7, 0, 0, []),
  (89, .iload_n 3, 1, false, (0), 3, 0, 0, 0, []),
  (90, .iaload, 1, false, (0), 0, 0, 0, 0, []),
  (91, .aload_n 0, 1, false, (0), 0, 0, 0, 0, []),
  (92, .getfield 30, 3, false, (0), 5, 8, 0, 0, []),
  (95, .iload_n 3, 1, false, (0), 3, 0, 0, 0, []),
  (96, .iaload, 1, false, (0), 0, 0, 0, 0, []),
  (97, .invokevirtual 76, 3, false, (0), 124, 5, 4, 0, []),
  (100, .iinc 3 (1), 3, false, (1), 3, 0, 0, 0, []),
  (103, .goto (-43), 3, false, (0), 35, 0, 0, 0, []),
  (106, .aload_n 0, 1, true, (0), 0, 0, 0, 0, []),
  (107, .getfield 43, 3, false, (0), 5, 10, 0, 0, []),
  (110, .aload_n 0, 1, false, (0), 0, 0, 0, 0, []),
  (111, .getfield 43, 3, false, (0), 5, 10, 0, 0, []),
  (114, .getfield 72, 3, false, (0), 8, 15, 0, 0, []),
  (117, .ifCond .ne (7), 3, false, (0), 67, 0, 0, 0, []),
  (120, .iconst (1), 1, false, (1), 0, 0, 0, 0, []),
  (121, .goto (4), 3, false, (0), 68, 0, 0, 0, []),
  (124, .iconst (0), 1, false, (0), 0, 0, 0, 0, []),
  (125, .putfield 80, 3, true, (0), 8, 13, 0, 0, []),
  (128, .aload_n 0, 1, false, (0), 0, 0, 0, 0, []),
  (129, .getfield 43, 3, false, (0), 5, 10, 0, 0, []),
  (132, .getfield 80, 3, false, (0), 8, 13, 0, 0, []),
  (135, .ireturn, 1, false, (0), 0, 0, 0, 0, [])]
def f116 : sm_I := (⟨"TypedMill$CodeWriter", "translate", "(ILTypedMill$Code;)Z"⟩, prog_4_method_2_code, 4, (some .boolean), 2, false, 5, c116)
def c129 : List sm_R := [
  (0, .aload_n 0, 1, false, (0), 0, 0, 0, 0, []),
  (1, .getfield 31, 3, false, (0), 4, 4, 0, 0, []),
  (4, .sipush (500), 3, false, (500), 0, 0, 0, 0, []),
  (7, .if_icmp .ne (5), 3, false, (0), 6, 0, 0, 0, []),
  (10, .iconst (0), 1, false, (0), 0, 0, 0, 0, []),
  (11, .ireturn, 1, false, (0), 0, 0, 0, 0, []),
  (12, .aload_n 0, 1, false, (0), 0, 0, 0, 0, []),
  (13, .getfield 11, 3, false, (0), 4, 1, 0, 0, []),
  (16, .aload_n 0, 1, false, (0), 0, 0, 0, 0, []),
  (17, .getfield 31, 3, false, (0), 4, 4, 0, 0, []),
  (20, .iload_n 1, 1, false, (0), 1, 0, 0, 0, []),
  (21, .iastore, 1, false, (0), 0, 0, 0, 0, []),
  (22, .aload_n 0, 1, false, (0), 0, 0, 0, 0, []),
  (23, .getfield 15, 3, false, (0), 4, 2, 0, 0, []),
  (26, .aload_n 0, 1, false, (0), 0, 0, 0, 0, []),
  (27, .getfield 31, 3, false, (0), 4, 4, 0, 0, []),
  (30, .iload_n 2, 1, false, (0), 2, 0, 0, 0, []),
  (31, .iastore, 1, false, (0), 0, 0, 0, 0, []),
  (32, .aload_n 0, 1, false, (0), 0, 0, 0, 0, []),
  (33, .getfield 18, 3, false, (0), 4, 3, 0, 0, []),
  (36, .aload_n 0, 1, false, (0), 0, 0, 0, 0, []),
  (37, .getfield 31, 3, false, (0), 4, 4, 0, 0, []),
  (40, .iload_n 3, 1, false, (0), 3, 0, 0, 0, []),
  (41, .iastore, 1, false, (0), 0, 0, 0, 0, []),
  (42, .aload_n 0, 1, false, (0), 0, 0, 0, 0, []),
  (43, .dup, 1, false, (0), 0, 0, 0, 0, []),
  (44, .getfield 31, 3, false, (0), 4, 4, 0, 0, []),
  (47, .iconst (1), 1, false, (1), 0, 0, 0, 0, []),
  (48, .iadd, 1, false, (0), 0, 0, 0, 0, []),
  (49, .putfield 31, 3, false, (0), 4, 4, 0, 0, []),
  (52, .aload_n 0, 1, false, (0), 0, 0, 0, 0, []),
  (53, .getfield 31, 3, false, (0), 4, 4, 0, 0, []),
  (56, .iconst (1), 1, false, (1), 0, 0, 0, 0, []),
  (57, .isub, 1, false, (0), 0, 0, 0, 0, []),
  (58, .ireturn, 1, false, (0), 0, 0, 0, 0, [])]
def f129 : sm_I := (⟨"TypedMill$Evaluator", "value", "(III)I"⟩, prog_5_method_4_code, 4, (some .int), 3, false, 4, c129)
def c130 : List sm_R := [
  (0, .iload_n 2, 1, false, (0), 2, 0, 0, 0, []),
  (1, .istore_n 3, 1, false, (0), 3, 0, 0, 0, []),
  (2, .iload_n 1, 1, false, (0), 1, 0, 0, 0, []),
  (3, .istore 4, 2, false, (0), 4, 0, 0, 0, []),
  (5, .iload 4, 2, true, (0), 4, 0, 0, 0, []),
  (7, .iconst (1), 1, false, (1), 0, 0, 0, 0, []),
  (8, .if_icmp .le (26), 3, false, (0), 20, 0, 0, 0, []),
  (11, .iload_n 3, 1, false, (0), 3, 0, 0, 0, []),
  (12, .iconst (-1), 1, false, (-1), 0, 0, 0, 0, []),
  (13, .if_icmp .eq (21), 3, false, (0), 20, 0, 0, 0, []),
  (16, .aload_n 0, 1, false, (0), 0, 0, 0, 0, []),
  (17, .getfield 18, 3, false, (0), 4, 3, 0, 0, []),
  (20, .aload_n 0, 1, false, (0), 0, 0, 0, 0, []),
  (21, .getfield 21, 3, false, (0), 4, 5, 0, 0, []),
  (24, .iload_n 3, 1, false, (0), 3, 0, 0, 0, []),
  (25, .iaload, 1, false, (0), 0, 0, 0, 0, []),
  (26, .iaload, 1, false, (0), 0, 0, 0, 0, []),
  (27, .istore_n 3, 1, false, (0), 3, 0, 0, 0, []),
  (28, .iinc 4 (-2), 3, false, (-2), 4, 0, 0, 0, []),
  (31, .goto (-26), 3, false, (0), 4, 0, 0, 0, []),
  (34, .iload_n 3, 1, true, (0), 3, 0, 0, 0, []),
  (35, .iconst (-1), 1, false, (-1), 0, 0, 0, 0, []),
  (36, .if_icmp .ne (5), 3, false, (0), 25, 0, 0, 0, []),
  (39, .iconst (0), 1, false, (0), 0, 0, 0, 0, []),
  (40, .ireturn, 1, false, (0), 0, 0, 0, 0, []),
  (41, .iload_n 1, 1, false, (0), 1, 0, 0, 0, []),
  (42, .iconst (2), 1, false, (2), 0, 0, 0, 0, []),
  (43, .irem, 1, false, (0), 0, 0, 0, 0, []),
  (44, .ifCond .ne (12), 3, false, (0), 34, 0, 0, 0, []),
  (47, .aload_n 0, 1, false, (0), 0, 0, 0, 0, []),
  (48, .getfield 24, 3, false, (0), 4, 6, 0, 0, []),
  (51, .iload_n 3, 1, false, (0), 3, 0, 0, 0, []),
  (52, .iaload, 1, false, (0), 0, 0, 0, 0, []),
  (53, .goto (9), 3, false, (0), 38, 0, 0, 0, []),
  (56, .aload_n 0, 1, false, (0), 0, 0, 0, 0, []),
  (57, .getfield 21, 3, false, (0), 4, 5, 0, 0, []),
  (60, .iload_n 3, 1, false, (0), 3, 0, 0, 0, []),
  (61, .iaload, 1, false, (0), 0, 0, 0, 0, []),
  (62, .ireturn, 1, true, (0), 0, 0, 0, 0, [])]
def f130 : sm_I := (⟨"TypedMill$Evaluator", "ofVariable", "(II)I"⟩, prog_5_method_5_code, 5, (some .int), 2, false, 4, c130)
def c131 : List sm_R := [
  (0, .aload_n 0, 1, false, (0), 0, 0, 0, 0, []),
  (1, .aload_n 0, 1, false, (0), 0, 0, 0, 0, []),
  (2, .getfield 27, 3, false, (0), 4, 0, 0, 0, []),
  (5, .getfield 74, 3, false, (0), 2, 2, 0, 0, []),
  (8, .iload_n 1, 1, false, (0), 1, 0, 0, 0, []),
  (9, .iaload, 1, false, (0), 0, 0, 0, 0, []),
  (10, .iload_n 2, 1, false, (0), 2, 0, 0, 0, []),
  (11, .iload_n 3, 1, false, (0), 3, 0, 0, 0, []),
  (12, .iconst (1), 1, false, (1), 0, 0, 0, 0, []),
  (13, .iadd, 1, false, (0), 0, 0, 0, 0, []),
  (14, .invokevirtual 45, 3, false, (0), 128, 4, 4, 0, [(0, 0)]),
  (17, .istore 4, 2, false, (0), 4, 0, 0, 0, []),
  (19, .aload_n 0, 1, false, (0), 0, 0, 0, 0, []),
  (20, .getfield 41, 3, false, (0), 4, 9, 0, 0, []),
  (23, .ifCond .eq (5), 3, false, (0), 17, 0, 0, 0, []),
  (26, .iconst (0), 1, false, (0), 0, 0, 0, 0, []),
  (27, .ireturn, 1, false, (0), 0, 0, 0, 0, []),
  (28, .aload_n 0, 1, false, (0), 0, 0, 0, 0, []),
  (29, .getfield 15, 3, false, (0), 4, 2, 0, 0, []),
  (32, .iload 4, 2, false, (0), 4, 0, 0, 0, []),
  (34, .iaload, 1, false, (0), 0, 0, 0, 0, []),
  (35, .ifCond .ne (15), 3, false, (0), 28, 0, 0, 0, []),
  (38, .aload_n 0, 1, false, (0), 0, 0, 0, 0, []),
  (39, .getfield 27, 3, false, (0), 4, 0, 0, 0, []),
  (42, .getfield 77, 3, false, (0), 2, 3, 0, 0, []),
  (45, .iload_n 1, 1, false, (0), 1, 0, 0, 0, []),
  (46, .iaload, 1, false, (0), 0, 0, 0, 0, []),
  (47, .goto (12), 3, false, (0), 33, 0, 0, 0, []),
  (50, .aload_n 0, 1, false, (0), 0, 0, 0, 0, []),
  (51, .getfield 27, 3, false, (0), 4, 0, 0, 0, []),
  (54, .getfield 80, 3, false, (0), 2, 4, 0, 0, []),
  (57, .iload_n 1, 1, false, (0), 1, 0, 0, 0, []),
  (58, .iaload, 1, false, (0), 0, 0, 0, 0, []),
  (59, .istore 5, 2, true, (0), 5, 0, 0, 0, []),
  (61, .aload_n 0, 1, false, (0), 0, 0, 0, 0, []),
  (62, .iload 5, 2, false, (0), 5, 0, 0, 0, []),
  (64, .iload_n 2, 1, false, (0), 2, 0, 0, 0, []),
  (65, .iload_n 3, 1, false, (0), 3, 0, 0, 0, []),
  (66, .iconst (1), 1, false, (1), 0, 0, 0, 0, []),
  (67, .iadd, 1, false, (0), 0, 0, 0, 0, []),
  (68, .invokevirtual 45, 3, false, (0), 128, 4, 4, 0, [(0, 0)]),
  (71, .ireturn, 1, false, (0), 0, 0, 0, 0, [])]
def f131 : sm_I := (⟨"TypedMill$Evaluator", "ofChoice", "(III)I"⟩, prog_5_method_6_code, 6, (some .int), 3, false, 4, c131)
def c132 : List sm_R := [
  (0, .aload_n 0, 1, false, (0), 0, 0, 0, 0, []),
  (1, .aload_n 0, 1, false, (0), 0, 0, 0, 0, []),
  (2, .getfield 27, 3, false, (0), 4, 0, 0, 0, []),
  (5, .getfield 74, 3, false, (0), 2, 2, 0, 0, []),
  (8, .iload_n 1, 1, false, (0), 1, 0, 0, 0, []),
  (9, .iaload, 1, false, (0), 0, 0, 0, 0, []),
  (10, .iload_n 2, 1, false, (0), 2, 0, 0, 0, []),
  (11, .iload_n 3, 1, false, (0), 3, 0, 0, 0, []),
  (12, .iconst (1), 1, false, (1), 0, 0, 0, 0, []),
  (13, .iadd, 1, false, (0), 0, 0, 0, 0, []),
  (14, .invokevirtual 45, 3, false, (0), 128, 4, 4, 0, [(0, 0)]),
  (17, .istore 4, 2, false, (0), 4, 0, 0, 0, []),
  (19, .aload_n 0, 1, false, (0), 0, 0, 0, 0, []),
  (20, .aload_n 0, 1, false, (0), 0, 0, 0, 0, []),
  (21, .getfield 27, 3, false, (0), 4, 0, 0, 0, []),
  (24, .getfield 77, 3, false, (0), 2, 3, 0, 0, []),
  (27, .iload_n 1, 1, false, (0), 1, 0, 0, 0, []),
  (28, .iaload, 1, false, (0), 0, 0, 0, 0, []),
  (29, .iload_n 2, 1, false, (0), 2, 0, 0, 0, []),
  (30, .iload_n 3, 1, false, (0), 3, 0, 0, 0, []),
  (31, .iconst (1), 1, false, (1), 0, 0, 0, 0, []),
  (32, .iadd, 1, false, (0), 0, 0, 0, 0, []),
  (33, .invokevirtual 45, 3, false, (0), 128, 4, 4, 0, [(0, 0)]),
  (36, .istore 5, 2, false, (0), 5, 0, 0, 0, []),
  (38, .aload_n 0, 1, false, (0), 0, 0, 0, 0, []),
  (39, .getfield 41, 3, false, (0), 4, 9, 0, 0, []),
  (42, .ifCond .ne (24), 3, false, (0), 37, 0, 0, 0, []),
  (45, .aload_n 0, 1, false, (0), 0, 0, 0, 0, []),
  (46, .getfield 11, 3, false, (0), 4, 1, 0, 0, []),
  (49, .iload 4, 2, false, (0), 4, 0, 0, 0, []),
  (51, .iaload, 1, false, (0), 0, 0, 0, 0, []),
  (52, .iconst (2), 1, false, (2), 0, 0, 0, 0, []),
  (53, .if_icmp .ne (13), 3, false, (0), 37, 0, 0, 0, []),
  (56, .aload_n 0, 1, false, (0), 0, 0, 0, 0, []),
  (57, .getfield 35, 3, false, (0), 4, 7, 0, 0, []),
  (60, .sipush (166), 3, false, (166), 0, 0, 0, 0, []),
  (63, .if_icmp .ne (5), 3, false, (0), 39, 0, 0, 0, []),
  (66, .iconst (0), 1, true, (0), 0, 0, 0, 0, []),
  (67, .ireturn, 1, false, (0), 0, 0, 0, 0, []),
  (68, .aload_n 0, 1, false, (0), 0, 0, 0, 0, []),
  (69, .getfield 35, 3, false, (0), 4, 7, 0, 0, []),
  (72, .istore 6, 2, false, (0), 6, 0, 0, 0, []),
  (74, .aload_n 0, 1, false, (0), 0, 0, 0, 0, []),
  (75, .dup, 1, false, (0), 0, 0, 0, 0, []),
  (76, .getfield 35, 3, false, (0), 4, 7, 0, 0, []),
  (79, .iconst (1), 1, false, (1), 0, 0, 0, 0, []),
  (80, .iadd, 1, false, (0), 0, 0, 0, 0, []),
  (81, .putfield 35, 3, false, (0), 4, 7, 0, 0, []),
  (84, .aload_n 0, 1, false, (0), 0, 0, 0, 0, []),
  (85, .getfield 21, 3, false, (0), 4, 5, 0, 0, []),
  (88, .iload 6, 2, false, (0), 6, 0, 0, 0, []),
  (90, .iload 4, 2, false, (0), 4, 0, 0, 0, []),
  (92, .iastore, 1, false, (0), 0, 0, 0, 0, []),
  (93, .aload_n 0, 1, false, (0), 0, 0, 0, 0, []),
  (94, .getfield 24, 3, false, (0), 4, 6, 0, 0, []),
  (97, .iload 6, 2, false, (0), 6, 0, 0, 0, []),
  (99, .iload 5, 2, false, (0), 5, 0, 0, 0, []),
  (101, .iastore, 1, false, (0), 0, 0, 0, 0, []),
  (102, .aload_n 0, 1, false, (0), 0, 0, 0, 0, []),
  (103, .aload_n 0, 1, false, (0), 0, 0, 0, 0, []),
  (104, .getfield 27, 3, false, (0), 4, 0, 0, 0, []),
  (107, .getfield 74, 3, false, (0), 2, 2, 0, 0, []),
  (110, .aload_n 0, 1, false, (0), 0, 0, 0, 0, []),
  (111, .getfield 15, 3, false, (0), 4, 2, 0, 0, []),
  (114, .iload 4, 2, false, (0), 4, 0, 0, 0, []),
  (116, .iaload, 1, false, (0), 0, 0, 0, 0, []),
  (117, .iaload, 1, false, (0), 0, 0, 0, 0, []),
  (118, .iload 6, 2, false, (0), 6, 0, 0, 0, []),
  (120, .iload_n 3, 1, false, (0), 3, 0, 0, 0, []),
  (121, .iconst (1), 1, false, (1), 0, 0, 0, 0, []),
  (122, .iadd, 1, false, (0), 0, 0, 0, 0, []),
  (123, .invokevirtual 45, 3, false, (0), 128, 4, 4, 0, [(0, 0)]),
  (126, .ireturn, 1, false, (0), 0, 0, 0, 0, [])]
def f132 : sm_I := (⟨"TypedMill$Evaluator", "ofCall", "(III)I"⟩, prog_5_method_7_code, 7, (some .int), 3, false, 4, c132)
def c133 : List sm_R := [
  (0, .aload_n 0, 1, false, (0), 0, 0, 0, 0, []),
  (1, .aload_n 0, 1, false, (0), 0, 0, 0, 0, []),
  (2, .getfield 27, 3, false, (0), 4, 0, 0, 0, []),
  (5, .getfield 74, 3, false, (0), 2, 2, 0, 0, []),
  (8, .iload_n 1, 1, false, (0), 1, 0, 0, 0, []),
  (9, .iaload, 1, false, (0), 0, 0, 0, 0, []),
  (10, .iload_n 2, 1, false, (0), 2, 0, 0, 0, []),
  (11, .iload_n 3, 1, false, (0), 3, 0, 0, 0, []),
  (12, .iconst (1), 1, false, (1), 0, 0, 0, 0, []),
  (13, .iadd, 1, false, (0), 0, 0, 0, 0, []),
  (14, .invokevirtual 45, 3, false, (0), 128, 4, 4, 0, [(0, 0)]),
  (17, .istore 4, 2, false, (0), 4, 0, 0, 0, []),
  (19, .aload_n 0, 1, false, (0), 0, 0, 0, 0, []),
  (20, .getfield 41, 3, false, (0), 4, 9, 0, 0, []),
  (23, .ifCond .ne (14), 3, false, (0), 21, 0, 0, 0, []),
  (26, .aload_n 0, 1, false, (0), 0, 0, 0, 0, []),
  (27, .getfield 11, 3, false, (0), 4, 1, 0, 0, []),
  (30, .iload 4, 2, false, (0), 4, 0, 0, 0, []),
  (32, .iaload, 1, false, (0), 0, 0, 0, 0, []),
  (33, .iconst (1), 1, false, (1), 0, 0, 0, 0, []),
  (34, .if_icmp .eq (5), 3, false, (0), 23, 0, 0, 0, []),
  (37, .iconst (0), 1, true, (0), 0, 0, 0, 0, []),
  (38, .ireturn, 1, false, (0), 0, 0, 0, 0, []),
  (39, .aload_n 0, 1, false, (0), 0, 0, 0, 0, []),
  (40, .getfield 27, 3, false, (0), 4, 0, 0, 0, []),
  (43, .getfield 49, 3, false, (0), 2, 0, 0, 0, []),
  (46, .iload_n 1, 1, false, (0), 1, 0, 0, 0, []),
  (47, .iaload, 1, false, (0), 0, 0, 0, 0, []),
  (48, .bipush (9), 2, false, (9), 0, 0, 0, 0, []),
  (50, .if_icmp .ne (13), 3, false, (0), 35, 0, 0, 0, []),
  (53, .aload_n 0, 1, false, (0), 0, 0, 0, 0, []),
  (54, .getfield 15, 3, false, (0), 4, 2, 0, 0, []),
  (57, .iload 4, 2, false, (0), 4, 0, 0, 0, []),
  (59, .iaload, 1, false, (0), 0, 0, 0, 0, []),
  (60, .goto (10), 3, false, (0), 39, 0, 0, 0, []),
  (63, .aload_n 0, 1, false, (0), 0, 0, 0, 0, []),
  (64, .getfield 18, 3, false, (0), 4, 3, 0, 0, []),
  (67, .iload 4, 2, false, (0), 4, 0, 0, 0, []),
  (69, .iaload, 1, false, (0), 0, 0, 0, 0, []),
  (70, .ireturn, 1, true, (0), 0, 0, 0, 0, [])]
def f133 : sm_I := (⟨"TypedMill$Evaluator", "ofPart", "(III)I"⟩, prog_5_method_8_code, 5, (some .int), 3, false, 4, c133)
def c134 : List sm_R := [
  (0, .aload_n 0, 1, false, (0), 0, 0, 0, 0, []),
  (1, .aload_n 0, 1, false, (0), 0, 0, 0, 0, []),
  (2, .getfield 27, 3, false, (0), 4, 0, 0, 0, []),
  (5, .getfield 74, 3, false, (0), 2, 2, 0, 0, []),
  (8, .iload_n 1, 1, false, (0), 1, 0, 0, 0, []),
  (9, .iaload, 1, false, (0), 0, 0, 0, 0, []),
  (10, .iload_n 2, 1, false, (0), 2, 0, 0, 0, []),
  (11, .iload_n 3, 1, false, (0), 3, 0, 0, 0, []),
  (12, .iconst (1), 1, false, (1), 0, 0, 0, 0, []),
  (13, .iadd, 1, false, (0), 0, 0, 0, 0, []),
  (14, .invokevirtual 45, 3, false, (0), 128, 4, 4, 0, [(0, 0)]),
  (17, .istore 4, 2, false, (0), 4, 0, 0, 0, []),
  (19, .aload_n 0, 1, false, (0), 0, 0, 0, 0, []),
  (20, .aload_n 0, 1, false, (0), 0, 0, 0, 0, []),
  (21, .getfield 27, 3, false, (0), 4, 0, 0, 0, []),
  (24, .getfield 77, 3, false, (0), 2, 3, 0, 0, []),
  (27, .iload_n 1, 1, false, (0), 1, 0, 0, 0, []),
  (28, .iaload, 1, false, (0), 0, 0, 0, 0, []),
  (29, .iload_n 2, 1, false, (0), 2, 0, 0, 0, []),
  (30, .iload_n 3, 1, false, (0), 3, 0, 0, 0, []),
  (31, .iconst (1), 1, false, (1), 0, 0, 0, 0, []),
  (32, .iadd, 1, false, (0), 0, 0, 0, 0, []),
  (33, .invokevirtual 45, 3, false, (0), 128, 4, 4, 0, [(0, 0)]),
  (36, .istore 5, 2, false, (0), 5, 0, 0, 0, []),
  (38, .aload_n 0, 1, false, (0), 0, 0, 0, 0, []),
  (39, .getfield 41, 3, false, (0), 4, 9, 0, 0, []),
  (42, .ifCond .eq (5), 3, false, (0), 29, 0, 0, 0, []),
  (45, .iconst (0), 1, false, (0), 0, 0, 0, 0, []),
  (46, .ireturn, 1, false, (0), 0, 0, 0, 0, []),
  (47, .aload_n 0, 1, false, (0), 0, 0, 0, 0, []),
  (48, .getfield 27, 3, false, (0), 4, 0, 0, 0, []),
  (51, .getfield 49, 3, false, (0), 2, 0, 0, 0, []),
  (54, .iload_n 1, 1, false, (0), 1, 0, 0, 0, []),
  (55, .iaload, 1, false, (0), 0, 0, 0, 0, []),
  (56, .tableswitch (94) (2) (4) #[(28), (50), (72)], 28, false, (0), 77, 0, 0, 0, [((2), 35), ((3), 49), ((4), 63)]),
  (84, .aload_n 0, 1, false, (0), 0, 0, 0, 0, []),
  (85, .iconst (0), 1, false, (0), 0, 0, 0, 0, []),
  (86, .aload_n 0, 1, false, (0), 0, 0, 0, 0, []),
  (87, .getfield 15, 3, false, (0), 4, 2, 0, 0, []),
  (90, .iload 4, 2, false, (0), 4, 0, 0, 0, []),
  (92, .iaload, 1, false, (0), 0, 0, 0, 0, []),
  (93, .aload_n 0, 1, false, (0), 0, 0, 0, 0, []),
  (94, .getfield 15, 3, false, (0), 4, 2, 0, 0, []),
  (97, .iload 5, 2, false, (0), 5, 0, 0, 0, []),
  (99, .iaload, 1, false, (0), 0, 0, 0, 0, []),
  (100, .iadd, 1, false, (0), 0, 0, 0, 0, []),
  (101, .iconst (0), 1, false, (0), 0, 0, 0, 0, []),
  (102, .invokevirtual 55, 3, false, (0), 129, 4, 4, 0, [(0, 0)]),
  (105, .ireturn, 1, false, (0), 0, 0, 0, 0, []),
  (106, .aload_n 0, 1, false, (0), 0, 0, 0, 0, []),
  (107, .iconst (0), 1, false, (0), 0, 0, 0, 0, []),
  (108, .aload_n 0, 1, false, (0), 0, 0, 0, 0, []),
  (109, .getfield 15, 3, false, (0), 4, 2, 0, 0, []),
  (112, .iload 4, 2, false, (0), 4, 0, 0, 0, []),
  (114, .iaload, 1, false, (0), 0, 0, 0, 0, []),
  (115, .aload_n 0, 1, false, (0), 0, 0, 0, 0, []),
  (116, .getfield 15, 3, false, (0), 4, 2, 0, 0, []),
  (119, .iload 5, 2, false, (0), 5, 0, 0, 0, []),
  (121, .iaload, 1, false, (0), 0, 0, 0, 0, []),
  (122, .isub, 1, false, (0), 0, 0, 0, 0, []),
  (123, .iconst (0), 1, false, (0), 0, 0, 0, 0, []),
  (124, .invokevirtual 55, 3, false, (0), 129, 4, 4, 0, [(0, 0)]),
  (127, .ireturn, 1, false, (0), 0, 0, 0, 0, []),
  (128, .aload_n 0, 1, false, (0), 0, 0, 0, 0, []),
  (129, .iconst (0), 1, false, (0), 0, 0, 0, 0, []),
  (130, .aload_n 0, 1, false, (0), 0, 0, 0, 0, []),
  (131, .getfield 15, 3, false, (0), 4, 2, 0, 0, []),
  (134, .iload 4, 2, false, (0), 4, 0, 0, 0, []),
  (136, .iaload, 1, false, (0), 0, 0, 0, 0, []),
  (137, .aload_n 0, 1, false, (0), 0, 0, 0, 0, []),
  (138, .getfield 15, 3, false, (0), 4, 2, 0, 0, []),
  (141, .iload 5, 2, false, (0), 5, 0, 0, 0, []),
  (143, .iaload, 1, false, (0), 0, 0, 0, 0, []),
  (144, .imul, 1, false, (0), 0, 0, 0, 0, []),
  (145, .iconst (0), 1, false, (0), 0, 0, 0, 0, []),
  (146, .invokevirtual 55, 3, false, (0), 129, 4, 4, 0, [(0, 0)]),
  (149, .ireturn, 1, false, (0), 0, 0, 0, 0, []),
  (150, .aload_n 0, 1, false, (0), 0, 0, 0, 0, []),
  (151, .iconst (1), 1, false, (1), 0, 0, 0, 0, []),
  (152, .iload 4, 2, false, (0), 4, 0, 0, 0, []),
  (154, .iload 5, 2, false, (0), 5, 0, 0, 0, []),
  (156, .invokevirtual 55, 3, false, (0), 129, 4, 4, 0, [(0, 0)]),
  (159, .ireturn, 1, false, (0), 0, 0, 0, 0, [])]
def f134 : sm_I := (⟨"TypedMill$Evaluator", "ofTwo", "(III)I"⟩, prog_5_method_9_code, 6, (some .int), 3, false, 4, c134)
def c128 : List sm_R := [
  (0, .aload_n 0, 1, false, (0), 0, 0, 0, 0, []),
  (1, .getfield 41, 3, false, (0), 4, 9, 0, 0, []),
  (4, .ifCond .ne (19), 3, false, (0), 10, 0, 0, 0, []),
  (7, .aload_n 0, 1, false, (0), 0, 0, 0, 0, []),
  (8, .getfield 38, 3, false, (0), 4, 8, 0, 0, []),
  (11, .sipush (500), 3, false, (500), 0, 0, 0, 0, []),
  (14, .if_icmp .eq (9), 3, false, (0), 10, 0, 0, 0, []),
  (17, .iload_n 3, 1, false, (0), 3, 0, 0, 0, []),
  (18, .bipush (60), 2, false, (60), 0, 0, 0, 0, []),
  (20, .if_icmp .le (10), 3, false, (0), 15, 0, 0, 0, []),
  (23, .aload_n 0, 1, true, (0), 0, 0, 0, 0, []),
  (24, .iconst (1), 1, false, (1), 0, 0, 0, 0, []),
  (25, .putfield 41, 3, false, (0), 4, 9, 0, 0, []),
  (28, .iconst (0), 1, false, (0), 0, 0, 0, 0, []),
  (29, .ireturn, 1, false, (0), 0, 0, 0, 0, []),
  (30, .aload_n 0, 1, false, (0), 0, 0, 0, 0, []),
  (31, .dup, 1, false, (0), 0, 0, 0, 0, []),
  (32, .getfield 38, 3, false, (0), 4, 8, 0, 0, []),
  (35, .iconst (1), 1, false, (1), 0, 0, 0, 0, []),
  (36, .iadd, 1, false, (0), 0, 0, 0, 0, []),
  (37, .putfield 38, 3, false, (0), 4, 8, 0, 0, []),
  (40, .aload_n 0, 1, false, (0), 0, 0, 0, 0, []),
  (41, .getfield 27, 3, false, (0), 4, 0, 0, 0, []),
  (44, .getfield 49, 3, false, (0), 2, 0, 0, 0, []),
  (47, .iload_n 1, 1, false, (0), 1, 0, 0, 0, []),
  (48, .iaload, 1, false, (0), 0, 0, 0, 0, []),
  (49, .tableswitch (122) (0) (10) #[(59), (75), (122), (122), (122), (90), (98), (106), (122), (114), (114)], 59, false, (0), 70, 0, 0, 0, [((0), 27), ((1), 37), ((2), 70), ((3), 70), ((4), 70), ((5), 46), ((6), 52), ((7), 58), ((8), 70), ((9), 64), ((10), 64)]),
  (108, .aload_n 0, 1, false, (0), 0, 0, 0, 0, []),
  (109, .iconst (0), 1, false, (0), 0, 0, 0, 0, []),
  (110, .aload_n 0, 1, false, (0), 0, 0, 0, 0, []),
  (111, .getfield 27, 3, false, (0), 4, 0, 0, 0, []),
  (114, .getfield 52, 3, false, (0), 2, 1, 0, 0, []),
  (117, .iload_n 1, 1, false, (0), 1, 0, 0, 0, []),
  (118, .iaload, 1, false, (0), 0, 0, 0, 0, []),
  (119, .iconst (0), 1, false, (0), 0, 0, 0, 0, []),
  (120, .invokevirtual 55, 3, false, (0), 129, 4, 4, 0, [(0, 0)]),
  (123, .ireturn, 1, false, (0), 0, 0, 0, 0, []),
  (124, .aload_n 0, 1, false, (0), 0, 0, 0, 0, []),
  (125, .aload_n 0, 1, false, (0), 0, 0, 0, 0, []),
  (126, .getfield 27, 3, false, (0), 4, 0, 0, 0, []),
  (129, .getfield 52, 3, false, (0), 2, 1, 0, 0, []),
  (132, .iload_n 1, 1, false, (0), 1, 0, 0, 0, []),
  (133, .iaload, 1, false, (0), 0, 0, 0, 0, []),
  (134, .iload_n 2, 1, false, (0), 2, 0, 0, 0, []),
  (135, .invokevirtual 58, 3, false, (0), 130, 4, 3, 0, [(0, 0)]),
  (138, .ireturn, 1, false, (0), 0, 0, 0, 0, []),
  (139, .aload_n 0, 1, false, (0), 0, 0, 0, 0, []),
  (140, .iload_n 1, 1, false, (0), 1, 0, 0, 0, []),
  (141, .iload_n 2, 1, false, (0), 2, 0, 0, 0, []),
  (142, .iload_n 3, 1, false, (0), 3, 0, 0, 0, []),
  (143, .invokevirtual 62, 3, false, (0), 131, 4, 4, 0, [(0, 0)]),
  (146, .ireturn, 1, false, (0), 0, 0, 0, 0, []),
  (147, .aload_n 0, 1, false, (0), 0, 0, 0, 0, []),
  (148, .iconst (2), 1, false, (2), 0, 0, 0, 0, []),
  (149, .iload_n 1, 1, false, (0), 1, 0, 0, 0, []),
  (150, .iload_n 2, 1, false, (0), 2, 0, 0, 0, []),
  (151, .invokevirtual 55, 3, false, (0), 129, 4, 4, 0, [(0, 0)]),
  (154, .ireturn, 1, false, (0), 0, 0, 0, 0, []),
  (155, .aload_n 0, 1, false, (0), 0, 0, 0, 0, []),
  (156, .iload_n 1, 1, false, (0), 1, 0, 0, 0, []),
  (157, .iload_n 2, 1, false, (0), 2, 0, 0, 0, []),
  (158, .iload_n 3, 1, false, (0), 3, 0, 0, 0, []),
  (159, .invokevirtual 65, 3, false, (0), 132, 4, 4, 0, [(0, 0)]),
  (162, .ireturn, 1, false, (0), 0, 0, 0, 0, []),
  (163, .aload_n 0, 1, true, (0), 0, 0, 0, 0, []),
  (164, .iload_n 1, 1, false, (0), 1, 0, 0, 0, []),
  (165, .iload_n 2, 1, false, (0), 2, 0, 0, 0, []),
  (166, .iload_n 3, 1, false, (0), 3, 0, 0, 0, []),
  (167, .invokevirtual 68, 3, false, (0), 133, 4, 4, 0, [(0, 0)]),
  (170, .ireturn, 1, false, (0), 0, 0, 0, 0, []),
  (171, .aload_n 0, 1, true, (0), 0, 0, 0, 0, []),
  (172, .iload_n 1, 1, false, (0), 1, 0, 0, 0, []),
  (173, .iload_n 2, 1, false, (0), 2, 0, 0, 0, []),
  (174, .iload_n 3, 1, false, (0), 3, 0, 0, 0, []),
  (175, .invokevirtual 71, 3, false, (0), 134, 4, 4, 0, [(0, 0)]),
  (178, .ireturn, 1, false, (0), 0, 0, 0, 0, [])]
def f128 : sm_I := (⟨"TypedMill$Evaluator", "find", "(III)I"⟩, prog_5_method_3_code, 4, (some .int), 3, false, 4, c128)
def c127 : List sm_R := [
  (0, .aload_n 0, 1, false, (0), 0, 0, 0, 0, []),
  (1, .iconst (0), 1, false, (0), 0, 0, 0, 0, []),
  (2, .putfield 31, 3, false, (0), 4, 4, 0, 0, []),
  (5, .aload_n 0, 1, false, (0), 0, 0, 0, 0, []),
  (6, .iconst (0), 1, false, (0), 0, 0, 0, 0, []),
  (7, .putfield 35, 3, false, (0), 4, 7, 0, 0, []),
  (10, .aload_n 0, 1, false, (0), 0, 0, 0, 0, []),
  (11, .iconst (0), 1, false, (0), 0, 0, 0, 0, []),
  (12, .putfield 38, 3, false, (0), 4, 8, 0, 0, []),
  (15, .aload_n 0, 1, false, (0), 0, 0, 0, 0, []),
  (16, .iconst (0), 1, false, (0), 0, 0, 0, 0, []),
  (17, .putfield 41, 3, false, (0), 4, 9, 0, 0, []),
  (20, .aload_n 0, 1, false, (0), 0, 0, 0, 0, []),
  (21, .iload_n 1, 1, false, (0), 1, 0, 0, 0, []),
  (22, .iconst (-1), 1, false, (-1), 0, 0, 0, 0, []),
  (23, .iconst (1), 1, false, (1), 0, 0, 0, 0, []),
  (24, .invokevirtual 45, 3, false, (0), 128, 4, 4, 0, [(0, 0)]),
  (27, .istore_n 2, 1, false, (0), 2, 0, 0, 0, []),
  (28, .aload_n 0, 1, false, (0), 0, 0, 0, 0, []),
  (29, .getfield 41, 3, false, (0), 4, 9, 0, 0, []),
  (32, .ifCond .eq (7), 3, false, (0), 23, 0, 0, 0, []),
  (35, .iconst (0), 1, false, (0), 0, 0, 0, 0, []),
  (36, .goto (9), 3, false, (0), 27, 0, 0, 0, []),
  (39, .aload_n 0, 1, false, (0), 0, 0, 0, 0, []),
  (40, .getfield 15, 3, false, (0), 4, 2, 0, 0, []),
  (43, .iload_n 2, 1, false, (0), 2, 0, 0, 0, []),
  (44, .iaload, 1, false, (0), 0, 0, 0, 0, []),
  (45, .ireturn, 1, true, (0), 0, 0, 0, 0, [])]
def f127 : sm_I := (⟨"TypedMill$Evaluator", "answerOf", "(I)I"⟩, prog_5_method_2_code, 3, (some .int), 1, false, 4, c127)
end
section
/-! rows of code: by program -/
def c15 : List sm_R := [
  (0, .aload_n 0, 1, false, (0), 0, 0, 0, 0, []),
  (1, .getfield 199, 3, false, (0), 9, 0, 0, 0, []),
  (4, .ireturn, 1, false, (0), 0, 0, 0, 0, [])]
def f15 : sm_I := (⟨"TypedMillModel", "thrown", "()I"⟩, prog_11_method_2_code, 1, (some .int), 0, false, 9, c15)
def c16 : List sm_R := [
  (0, .aload_n 0, 1, false, (0), 0, 0, 0, 0, []),
  (1, .iload_n 1, 1, false, (0), 1, 0, 0, 0, []),
  (2, .putfield 199, 3, false, (0), 9, 0, 0, 0, []),
  (5, .iconst (0), 1, false, (0), 0, 0, 0, 0, []),
  (6, .ireturn, 1, false, (0), 0, 0, 0, 0, [])]
def f16 : sm_I := (⟨"TypedMillModel", "refuse", "(I)I"⟩, prog_11_method_3_code, 2, (some .int), 1, false, 9, c16)
def c17 : List sm_R := [
  (0, .iload_n 1, 1, false, (0), 1, 0, 0, 0, []),
  (1, .ifCond .ge (7), 3, false, (0), 4, 0, 0, 0, []),
  (4, .iconst (0), 1, false, (0), 0, 0, 0, 0, []),
  (5, .goto (9), 3, false, (0), 8, 0, 0, 0, []),
  (8, .aload_n 0, 1, false, (0), 0, 0, 0, 0, []),
  (9, .getfield 22, 3, false, (0), 9, 6, 0, 0, []),
  (12, .iload_n 1, 1, false, (0), 1, 0, 0, 0, []),
  (13, .iaload, 1, false, (0), 0, 0, 0, 0, []),
  (14, .ireturn, 1, true, (0), 0, 0, 0, 0, [])]
def f17 : sm_I := (⟨"TypedMillModel", "sizeOf", "(I)I"⟩, prog_11_method_4_code, 2, (some .int), 1, false, 9, c17)
def c18 : List sm_R := [
  (0, .iconst (0), 1, false, (0), 0, 0, 0, 0, []),
  (1, .istore 5, 2, false, (0), 5, 0, 0, 0, []),
  (3, .iload 5, 2, true, (0), 5, 0, 0, 0, []),
  (5, .aload_n 0, 1, false, (0), 0, 0, 0, 0, []),
  (6, .getfield 202, 3, false, (0), 9, 1, 0, 0, []),
  (9, .if_icmp .ge (62), 3, false, (0), 37, 0, 0, 0, []),
  (12, .iload_n 1, 1, false, (0), 1, 0, 0, 0, []),
  (13, .iconst (5), 1, false, (5), 0, 0, 0, 0, []),
  (14, .if_icmp .eq (57), 3, false, (0), 37, 0, 0, 0, []),
  (17, .aload_n 0, 1, false, (0), 0, 0, 0, 0, []),
  (18, .getfield 7, 3, false, (0), 9, 2, 0, 0, []),
  (21, .iload 5, 2, false, (0), 5, 0, 0, 0, []),
  (23, .iaload, 1, false, (0), 0, 0, 0, 0, []),
  (24, .iload_n 1, 1, false, (0), 1, 0, 0, 0, []),
  (25, .if_icmp .ne (40), 3, false, (0), 35, 0, 0, 0, []),
  (28, .aload_n 0, 1, false, (0), 0, 0, 0, 0, []),
  (29, .getfield 13, 3, false, (0), 9, 3, 0, 0, []),
  (32, .iload 5, 2, false, (0), 5, 0, 0, 0, []),
  (34, .iaload, 1, false, (0), 0, 0, 0, 0, []),
  (35, .iload_n 2, 1, false, (0), 2, 0, 0, 0, []),
  (36, .if_icmp .ne (29), 3, false, (0), 35, 0, 0, 0, []),
  (39, .aload_n 0, 1, false, (0), 0, 0, 0, 0, []),
  (40, .getfield 16, 3, false, (0), 9, 4, 0, 0, []),
  (43, .iload 5, 2, false, (0), 5, 0, 0, 0, []),
  (45, .iaload, 1, false, (0), 0, 0, 0, 0, []),
  (46, .iload_n 3, 1, false, (0), 3, 0, 0, 0, []),
  (47, .if_icmp .ne (18), 3, false, (0), 35, 0, 0, 0, []),
  (50, .aload_n 0, 1, false, (0), 0, 0, 0, 0, []),
  (51, .getfield 19, 3, false, (0), 9, 5, 0, 0, []),
  (54, .iload 5, 2, false, (0), 5, 0, 0, 0, []),
  (56, .iaload, 1, false, (0), 0, 0, 0, 0, []),
  (57, .iload 4, 2, false, (0), 4, 0, 0, 0, []),
  (59, .if_icmp .ne (6), 3, false, (0), 35, 0, 0, 0, []),
  (62, .iload 5, 2, false, (0), 5, 0, 0, 0, []),
  (64, .ireturn, 1, false, (0), 0, 0, 0, 0, []),
  (65, .iinc 5 (1), 3, true, (1), 5, 0, 0, 0, []),
  (68, .goto (-65), 3, false, (0), 2, 0, 0, 0, []),
  (71, .aload_n 0, 1, true, (0), 0, 0, 0, 0, []),
  (72, .getfield 7, 3, false, (0), 9, 2, 0, 0, []),
  (75, .aload_n 0, 1, false, (0), 0, 0, 0, 0, []),
  (76, .getfield 202, 3, false, (0), 9, 1, 0, 0, []),
  (79, .iload_n 1, 1, false, (0), 1, 0, 0, 0, []),
  (80, .iastore, 1, false, (0), 0, 0, 0, 0, []),
  (81, .aload_n 0, 1, false, (0), 0, 0, 0, 0, []),
  (82, .getfield 13, 3, false, (0), 9, 3, 0, 0, []),
  (85, .aload_n 0, 1, false, (0), 0, 0, 0, 0, []),
  (86, .getfield 202, 3, false, (0), 9, 1, 0, 0, []),
  (89, .iload_n 2, 1, false, (0), 2, 0, 0, 0, []),
  (90, .iastore, 1, false, (0), 0, 0, 0, 0, []),
  (91, .aload_n 0, 1, false, (0), 0, 0, 0, 0, []),
  (92, .getfield 16, 3, false, (0), 9, 4, 0, 0, []),
  (95, .aload_n 0, 1, false, (0), 0, 0, 0, 0, []),
  (96, .getfield 202, 3, false, (0), 9, 1, 0, 0, []),
  (99, .iload_n 3, 1, false, (0), 3, 0, 0, 0, []),
  (100, .iastore, 1, false, (0), 0, 0, 0, 0, []),
  (101, .aload_n 0, 1, false, (0), 0, 0, 0, 0, []),
  (102, .getfield 19, 3, false, (0), 9, 5, 0, 0, []),
  (105, .aload_n 0, 1, false, (0), 0, 0, 0, 0, []),
  (106, .getfield 202, 3, false, (0), 9, 1, 0, 0, []),
  (109, .iload 4, 2, false, (0), 4, 0, 0, 0, []),
  (111, .iastore, 1, false, (0), 0, 0, 0, 0, []),
  (112, .aload_n 0, 1, false, (0), 0, 0, 0, 0, []),
  (113, .getfield 22, 3, false, (0), 9, 6, 0, 0, []),
  (116, .aload_n 0, 1, false, (0), 0, 0, 0, 0, []),
  (117, .getfield 202, 3, false, (0), 9, 1, 0, 0, []),
  (120, .iconst (1), 1, false, (1), 0, 0, 0, 0, []),
  (121, .aload_n 0, 1, false, (0), 0, 0, 0, 0, []),
  (122, .iload_n 2, 1, false, (0), 2, 0, 0, 0, []),
  (123, .invokevirtual 205, 3, false, (0), 17, 9, 2, 0, [(0, 0)]),
  (126, .iadd, 1, false, (0), 0, 0, 0, 0, []),
  (127, .aload_n 0, 1, false, (0), 0, 0, 0, 0, []),
  (128, .iload_n 3, 1, false, (0), 3, 0, 0, 0, []),
  (129, .invokevirtual 205, 3, false, (0), 17, 9, 2, 0, [(0, 0)]),
  (132, .iadd, 1, false, (0), 0, 0, 0, 0, []),
  (133, .aload_n 0, 1, false, (0), 0, 0, 0, 0, []),
  (134, .iload 4, 2, false, (0), 4, 0, 0, 0, []),
  (136, .invokevirtual 205, 3, false, (0), 17, 9, 2, 0, [(0, 0)]),
  (139, .iadd, 1, false, (0), 0, 0, 0, 0, []),
  (140, .iastore, 1, false, (0), 0, 0, 0, 0, []),
  (141, .aload_n 0, 1, false, (0), 0, 0, 0, 0, []),
  (142, .dup, 1, false, (0), 0, 0, 0, 0, []),
  (143, .getfield 202, 3, false, (0), 9, 1, 0, 0, []),
  (146, .iconst (1), 1, false, (1), 0, 0, 0, 0, []),
  (147, .iadd, 1, false, (0), 0, 0, 0, 0, []),
  (148, .putfield 202, 3, false, (0), 9, 1, 0, 0, []),
  (151, .aload_n 0, 1, false, (0), 0, 0, 0, 0, []),
  (152, .getfield 202, 3, false, (0), 9, 1, 0, 0, []),
  (155, .iconst (1), 1, false, (1), 0, 0, 0, 0, []),
  (156, .isub, 1, false, (0), 0, 0, 0, 0, []),
  (157, .ireturn, 1, false, (0), 0, 0, 0, 0, [])]
def f18 : sm_I := (⟨"TypedMillModel", "find", "(IIII)I"⟩, prog_11_method_5_code, 6, (some .int), 4, false, 9, c18)
def c19 : List sm_R := [
  (0, .iload_n 1, 1, false, (0), 1, 0, 0, 0, []),
  (1, .ifCond .lt (15), 3, false, (0), 8, 0, 0, 0, []),
  (4, .iload_n 1, 1, false, (0), 1, 0, 0, 0, []),
  (5, .aload_n 0, 1, false, (0), 0, 0, 0, 0, []),
  (6, .getfield 192, 3, false, (0), 9, 7, 0, 0, []),
  (9, .if_icmp .ge (7), 3, false, (0), 8, 0, 0, 0, []),
  (12, .iconst (1), 1, false, (1), 0, 0, 0, 0, []),
  (13, .goto (4), 3, false, (0), 9, 0, 0, 0, []),
  (16, .iconst (0), 1, true, (0), 0, 0, 0, 0, []),
  (17, .ireturn, 1, true, (0), 0, 0, 0, 0, [])]
def f19 : sm_I := (⟨"TypedMillModel", "isMade", "(I)Z"⟩, prog_11_method_6_code, 2, (some .boolean), 1, false, 9, c19)
def c20 : List sm_R := [
  (0, .iload_n 1, 1, false, (0), 1, 0, 0, 0, []),
  (1, .ifCond .ge (7), 3, false, (0), 4, 0, 0, 0, []),
  (4, .iconst (-1), 1, false, (-1), 0, 0, 0, 0, []),
  (5, .goto (9), 3, false, (0), 8, 0, 0, 0, []),
  (8, .aload_n 0, 1, false, (0), 0, 0, 0, 0, []),
  (9, .getfield 25, 3, false, (0), 9, 8, 0, 0, []),
  (12, .iload_n 1, 1, false, (0), 1, 0, 0, 0, []),
  (13, .iaload, 1, false, (0), 0, 0, 0, 0, []),
  (14, .ireturn, 1, true, (0), 0, 0, 0, 0, [])]
def f20 : sm_I := (⟨"TypedMillModel", "numberOf", "(I)I"⟩, prog_11_method_7_code, 2, (some .int), 1, false, 9, c20)
def c21 : List sm_R := [
  (0, .aload_n 0, 1, false, (0), 0, 0, 0, 0, []),
  (1, .iconst (0), 1, false, (0), 0, 0, 0, 0, []),
  (2, .putfield 199, 3, false, (0), 9, 0, 0, 0, []),
  (5, .iload_n 1, 1, false, (0), 1, 0, 0, 0, []),
  (6, .iconst (1), 1, false, (1), 0, 0, 0, 0, []),
  (7, .if_icmp .lt (8), 3, false, (0), 9, 0, 0, 0, []),
  (10, .iload_n 1, 1, false, (0), 1, 0, 0, 0, []),
  (11, .iconst (4), 1, false, (4), 0, 0, 0, 0, []),
  (12, .if_icmp .le (5), 3, false, (0), 11, 0, 0, 0, []),
  (15, .iconst (-1), 1, true, (-1), 0, 0, 0, 0, []),
  (16, .ireturn, 1, false, (0), 0, 0, 0, 0, []),
  (17, .iload_n 1, 1, false, (0), 1, 0, 0, 0, []),
  (18, .iconst (3), 1, false, (3), 0, 0, 0, 0, []),
  (19, .if_icmp .ne (7), 3, false, (0), 16, 0, 0, 0, []),
  (22, .iconst (-1), 1, false, (-1), 0, 0, 0, 0, []),
  (23, .goto (4), 3, false, (0), 17, 0, 0, 0, []),
  (26, .iload_n 3, 1, false, (0), 3, 0, 0, 0, []),
  (27, .istore 5, 2, true, (0), 5, 0, 0, 0, []),
  (29, .iload_n 1, 1, false, (0), 1, 0, 0, 0, []),
  (30, .iconst (4), 1, false, (4), 0, 0, 0, 0, []),
  (31, .if_icmp .ne (8), 3, false, (0), 23, 0, 0, 0, []),
  (34, .iload 4, 2, false, (0), 4, 0, 0, 0, []),
  (36, .goto (4), 3, false, (0), 24, 0, 0, 0, []),
  (39, .iconst (-1), 1, false, (-1), 0, 0, 0, 0, []),
  (40, .istore 6, 2, true, (0), 6, 0, 0, 0, []),
  (42, .iload_n 1, 1, false, (0), 1, 0, 0, 0, []),
  (43, .iconst (4), 1, false, (4), 0, 0, 0, 0, []),
  (44, .if_icmp .ne (54), 3, false, (0), 53, 0, 0, 0, []),
  (47, .iload_n 2, 1, false, (0), 2, 0, 0, 0, []),
  (48, .iconst (-1), 1, false, (-1), 0, 0, 0, 0, []),
  (49, .if_icmp .eq (11), 3, false, (0), 35, 0, 0, 0, []),
  (52, .aload_n 0, 1, false, (0), 0, 0, 0, 0, []),
  (53, .iload_n 2, 1, false, (0), 2, 0, 0, 0, []),
  (54, .invokevirtual 209, 3, false, (0), 19, 9, 2, 0, [(0, 0)]),
  (57, .ifCond .eq (37), 3, false, (0), 51, 0, 0, 0, []),
  (60, .iload 5, 2, true, (0), 5, 0, 0, 0, []),
  (62, .iconst (-1), 1, false, (-1), 0, 0, 0, 0, []),
  (63, .if_icmp .eq (12), 3, false, (0), 42, 0, 0, 0, []),
  (66, .aload_n 0, 1, false, (0), 0, 0, 0, 0, []),
  (67, .iload 5, 2, false, (0), 5, 0, 0, 0, []),
  (69, .invokevirtual 209, 3, false, (0), 19, 9, 2, 0, [(0, 0)]),
  (72, .ifCond .eq (22), 3, false, (0), 51, 0, 0, 0, []),
  (75, .iload 6, 2, true, (0), 6, 0, 0, 0, []),
  (77, .iconst (-1), 1, false, (-1), 0, 0, 0, 0, []),
  (78, .if_icmp .eq (12), 3, false, (0), 49, 0, 0, 0, []),
  (81, .aload_n 0, 1, false, (0), 0, 0, 0, 0, []),
  (82, .iload 6, 2, false, (0), 6, 0, 0, 0, []),
  (84, .invokevirtual 209, 3, false, (0), 19, 9, 2, 0, [(0, 0)]),
  (87, .ifCond .eq (7), 3, false, (0), 51, 0, 0, 0, []),
  (90, .iconst (1), 1, true, (1), 0, 0, 0, 0, []),
  (91, .goto (34), 3, false, (0), 67, 0, 0, 0, []),
  (94, .iconst (0), 1, true, (0), 0, 0, 0, 0, []),
  (95, .goto (30), 3, false, (0), 67, 0, 0, 0, []),
  (98, .aload_n 0, 1, false, (0), 0, 0, 0, 0, []),
  (99, .iload_n 2, 1, false, (0), 2, 0, 0, 0, []),
  (100, .invokevirtual 209, 3, false, (0), 19, 9, 2, 0, [(0, 0)]),
  (103, .ifCond .eq (21), 3, false, (0), 66, 0, 0, 0, []),
  (106, .iload_n 1, 1, false, (0), 1, 0, 0, 0, []),
  (107, .iconst (3), 1, false, (3), 0, 0, 0, 0, []),
  (108, .if_icmp .eq (12), 3, false, (0), 64, 0, 0, 0, []),
  (111, .aload_n 0, 1, false, (0), 0, 0, 0, 0, []),
  (112, .iload 5, 2, false, (0), 5, 0, 0, 0, []),
  (114, .invokevirtual 209, 3, false, (0), 19, 9, 2, 0, [(0, 0)]),
  (117, .ifCond .eq (7), 3, false, (0), 66, 0, 0, 0, []),
  (120, .iconst (1), 1, true, (1), 0, 0, 0, 0, []),
  (121, .goto (4), 3, false, (0), 67, 0, 0, 0, []),
  (124, .iconst (0), 1, true, (0), 0, 0, 0, 0, []),
  (125, .istore 7, 2, true, (0), 7, 0, 0, 0, []),
  (127, .iload 7, 2, false, (0), 7, 0, 0, 0, []),
  (129, .ifCond .ne (5), 3, false, (0), 72, 0, 0, 0, []),
  (132, .iconst (-1), 1, false, (-1), 0, 0, 0, 0, []),
  (133, .ireturn, 1, false, (0), 0, 0, 0, 0, []),
  (134, .iconst (1), 1, false, (1), 0, 0, 0, 0, []),
  (135, .istore 8, 2, false, (0), 8, 0, 0, 0, []),
  (137, .iload 8, 2, true, (0), 8, 0, 0, 0, []),
  (139, .aload_n 0, 1, false, (0), 0, 0, 0, 0, []),
  (140, .getfield 192, 3, false, (0), 9, 7, 0, 0, []),
  (143, .if_icmp .ge (58), 3, false, (0), 106, 0, 0, 0, []),
  (146, .aload_n 0, 1, false, (0), 0, 0, 0, 0, []),
  (147, .getfield 28, 3, false, (0), 9, 9, 0, 0, []),
  (150, .iload 8, 2, false, (0), 8, 0, 0, 0, []),
  (152, .iaload, 1, false, (0), 0, 0, 0, 0, []),
  (153, .iload_n 1, 1, false, (0), 1, 0, 0, 0, []),
  (154, .if_icmp .ne (41), 3, false, (0), 104, 0, 0, 0, []),
  (157, .aload_n 0, 1, false, (0), 0, 0, 0, 0, []),
  (158, .getfield 31, 3, false, (0), 9, 10, 0, 0, []),
  (161, .iload 8, 2, false, (0), 8, 0, 0, 0, []),
  (163, .iaload, 1, false, (0), 0, 0, 0, 0, []),
  (164, .iload_n 2, 1, false, (0), 2, 0, 0, 0, []),
  (165, .if_icmp .ne (30), 3, false, (0), 104, 0, 0, 0, []),
  (168, .aload_n 0, 1, false, (0), 0, 0, 0, 0, []),
  (169, .getfield 34, 3, false, (0), 9, 11, 0, 0, []),
  (172, .iload 8, 2, false, (0), 8, 0, 0, 0, []),
  (174, .iaload, 1, false, (0), 0, 0, 0, 0, []),
  (175, .iload 5, 2, false, (0), 5, 0, 0, 0, []),
  (177, .if_icmp .ne (18), 3, false, (0), 104, 0, 0, 0, []),
  (180, .aload_n 0, 1, false, (0), 0, 0, 0, 0, []),
  (181, .getfield 37, 3, false, (0), 9, 12, 0, 0, []),
  (184, .iload 8, 2, false, (0), 8, 0, 0, 0, []),
  (186, .iaload, 1, false, (0), 0, 0, 0, 0, []),
  (187, .iload 6, 2, false, (0), 6, 0, 0, 0, []),
  (189, .if_icmp .ne (6), 3, false, (0), 104, 0, 0, 0, []),
  (192, .iload 8, 2, false, (0), 8, 0, 0, 0, []),
  (194, .ireturn, 1, false, (0), 0, 0, 0, 0, []),
  (195, .iinc 8 (1), 3, true, (1), 8, 0, 0, 0, []),
  (198, .goto (-61), 3, false, (0), 74, 0, 0, 0, []),
  (201, .iconst (1), 1, false, (1), 0, 0, 0, 0, []),
  (202, .aload_n 0, 1, false, (0), 0, 0, 0, 0, []),
  (203, .aload_n 0, 1, false, (0), 0, 0, 0, 0, []),
  (204, .iload_n 2, 1, false, (0), 2, 0, 0, 0, []),
  (205, .invokevirtual 213, 3, false, (0), 20, 9, 2, 0, [(0, 0)]),
  (208, .invokevirtual 205, 3, false, (0), 17, 9, 2, 0, [(0, 0)]),
  (211, .iadd, 1, false, (0), 0, 0, 0, 0, []),
  (212, .aload_n 0, 1, false, (0), 0, 0, 0, 0, []),
  (213, .aload_n 0, 1, false, (0), 0, 0, 0, 0, []),
  (214, .iload 5, 2, false, (0), 5, 0, 0, 0, []),
  (216, .invokevirtual 213, 3, false, (0), 20, 9, 2, 0, [(0, 0)]),
  (219, .invokevirtual 205, 3, false, (0), 17, 9, 2, 0, [(0, 0)]),
  (222, .iadd, 1, false, (0), 0, 0, 0, 0, []),
  (223, .aload_n 0, 1, false, (0), 0, 0, 0, 0, []),
  (224, .aload_n 0, 1, false, (0), 0, 0, 0, 0, []),
  (225, .iload 6, 2, false, (0), 6, 0, 0, 0, []),
  (227, .invokevirtual 213, 3, false, (0), 20, 9, 2, 0, [(0, 0)]),
  (230, .invokevirtual 205, 3, false, (0), 17, 9, 2, 0, [(0, 0)]),
  (233, .iadd, 1, false, (0), 0, 0, 0, 0, []),
  (234, .bipush (30), 2, false, (30), 0, 0, 0, 0, []),
  (236, .if_icmp .gt (12), 3, false, (0), 131, 0, 0, 0, []),
  (239, .aload_n 0, 1, false, (0), 0, 0, 0, 0, []),
  (240, .getfield 192, 3, false, (0), 9, 7, 0, 0, []),
  (243, .bipush (30), 2, false, (30), 0, 0, 0, 0, []),
  (245, .if_icmp .ne (5), 3, false, (0), 133, 0, 0, 0, []),
  (248, .iconst (-1), 1, true, (-1), 0, 0, 0, 0, []),
  (249, .ireturn, 1, false, (0), 0, 0, 0, 0, []),
  (250, .aload_n 0, 1, false, (0), 0, 0, 0, 0, []),
  (251, .getfield 28, 3, false, (0), 9, 9, 0, 0, []),
  (254, .aload_n 0, 1, false, (0), 0, 0, 0, 0, []),
  (255, .getfield 192, 3, false, (0), 9, 7, 0, 0, []),
  (258, .iload_n 1, 1, false, (0), 1, 0, 0, 0, []),
  (259, .iastore, 1, false, (0), 0, 0, 0, 0, []),
  (260, .aload_n 0, 1, false, (0), 0, 0, 0, 0, []),
  (261, .getfield 31, 3, false, (0), 9, 10, 0, 0, []),
  (264, .aload_n 0, 1, false, (0), 0, 0, 0, 0, []),
  (265, .getfield 192, 3, false, (0), 9, 7, 0, 0, []),
  (268, .iload_n 2, 1, false, (0), 2, 0, 0, 0, []),
  (269, .iastore, 1, false, (0), 0, 0, 0, 0, []),
  (270, .aload_n 0, 1, false, (0), 0, 0, 0, 0, []),
  (271, .getfield 34, 3, false, (0), 9, 11, 0, 0, []),
  (274, .aload_n 0, 1, false, (0), 0, 0, 0, 0, []),
  (275, .getfield 192, 3, false, (0), 9, 7, 0, 0, []),
  (278, .iload 5, 2, false, (0), 5, 0, 0, 0, []),
  (280, .iastore, 1, false, (0), 0, 0, 0, 0, []),
  (281, .aload_n 0, 1, false, (0), 0, 0, 0, 0, []),
  (282, .getfield 37, 3, false, (0), 9, 12, 0, 0, []),
  (285, .aload_n 0, 1, false, (0), 0, 0, 0, 0, []),
  (286, .getfield 192, 3, false, (0), 9, 7, 0, 0, []),
  (289, .iload 6, 2, false, (0), 6, 0, 0, 0, []),
  (291, .iastore, 1, false, (0), 0, 0, 0, 0, []),
  (292, .aload_n 0, 1, false, (0), 0, 0, 0, 0, []),
  (293, .getfield 25, 3, false, (0), 9, 8, 0, 0, []),
  (296, .aload_n 0, 1, false, (0), 0, 0, 0, 0, []),
  (297, .getfield 192, 3, false, (0), 9, 7, 0, 0, []),
  (300, .aload_n 0, 1, false, (0), 0, 0, 0, 0, []),
  (301, .iload_n 1, 1, false, (0), 1, 0, 0, 0, []),
  (302, .aload_n 0, 1, false, (0), 0, 0, 0, 0, []),
  (303, .iload_n 2, 1, false, (0), 2, 0, 0, 0, []),
  (304, .invokevirtual 213, 3, false, (0), 20, 9, 2, 0, [(0, 0)]),
  (307, .aload_n 0, 1, false, (0), 0, 0, 0, 0, []),
  (308, .iload 5, 2, false, (0), 5, 0, 0, 0, []),
  (310, .invokevirtual 213, 3, false, (0), 20, 9, 2, 0, [(0, 0)]),
  (313, .aload_n 0, 1, false, (0), 0, 0, 0, 0, []),
  (314, .iload 6, 2, false, (0), 6, 0, 0, 0, []),
  (316, .invokevirtual 213, 3, false, (0), 20, 9, 2, 0, [(0, 0)]),
  (319, .invokevirtual 188, 3, false, (0), 18, 9, 5, 0, [(0, 0)]),
  (322, .iastore, 1, false, (0), 0, 0, 0, 0, []),
  (323, .aload_n 0, 1, false, (0), 0, 0, 0, 0, []),
  (324, .dup, 1, false, (0), 0, 0, 0, 0, []),
  (325, .getfield 192, 3, false, (0), 9, 7, 0, 0, []),
  (328, .iconst (1), 1, false, (1), 0, 0, 0, 0, []),
  (329, .iadd, 1, false, (0), 0, 0, 0, 0, []),
  (330, .putfield 192, 3, false, (0), 9, 7, 0, 0, []),
  (333, .aload_n 0, 1, false, (0), 0, 0, 0, 0, []),
  (334, .getfield 192, 3, false, (0), 9, 7, 0, 0, []),
  (337, .iconst (1), 1, false, (1), 0, 0, 0, 0, []),
  (338, .isub, 1, false, (0), 0, 0, 0, 0, []),
  (339, .ireturn, 1, false, (0), 0, 0, 0, 0, [])]
def f21 : sm_I := (⟨"TypedMillModel", "type", "(IIII)I"⟩, prog_11_method_8_code, 9, (some .int), 4, false, 9, c21)
def c22 : List sm_R := [
  (0, .aload_n 0, 1, false, (0), 0, 0, 0, 0, []),
  (1, .iconst (0), 1, false, (0), 0, 0, 0, 0, []),
  (2, .putfield 199, 3, false, (0), 9, 0, 0, 0, []),
  (5, .aload_n 0, 1, false, (0), 0, 0, 0, 0, []),
  (6, .iload_n 1, 1, false, (0), 1, 0, 0, 0, []),
  (7, .invokevirtual 209, 3, false, (0), 19, 9, 2, 0, [(0, 0)]),
  (10, .ifCond .eq (17), 3, false, (0), 15, 0, 0, 0, []),
  (13, .aload_n 0, 1, false, (0), 0, 0, 0, 0, []),
  (14, .getfield 22, 3, false, (0), 9, 6, 0, 0, []),
  (17, .aload_n 0, 1, false, (0), 0, 0, 0, 0, []),
  (18, .getfield 25, 3, false, (0), 9, 8, 0, 0, []),
  (21, .iload_n 1, 1, false, (0), 1, 0, 0, 0, []),
  (22, .iaload, 1, false, (0), 0, 0, 0, 0, []),
  (23, .iaload, 1, false, (0), 0, 0, 0, 0, []),
  (24, .goto (4), 3, false, (0), 16, 0, 0, 0, []),
  (27, .iconst (-1), 1, false, (-1), 0, 0, 0, 0, []),
  (28, .ireturn, 1, true, (0), 0, 0, 0, 0, [])]
def f22 : sm_I := (⟨"TypedMillModel", "size", "(I)I"⟩, prog_11_method_9_code, 2, (some .int), 1, false, 9, c22)
def c23 : List sm_R := [
  (0, .iload_n 0, 1, false, (0), 0, 0, 0, 0, []),
  (1, .iconst (2), 1, false, (2), 0, 0, 0, 0, []),
  (2, .if_icmp .ge (7), 3, false, (0), 5, 0, 0, 0, []),
  (5, .iconst (0), 1, false, (0), 0, 0, 0, 0, []),
  (6, .goto (29), 3, false, (0), 19, 0, 0, 0, []),
  (9, .iload_n 0, 1, false, (0), 0, 0, 0, 0, []),
  (10, .iconst (5), 1, false, (5), 0, 0, 0, 0, []),
  (11, .if_icmp .ne (7), 3, false, (0), 10, 0, 0, 0, []),
  (14, .iconst (3), 1, false, (3), 0, 0, 0, 0, []),
  (15, .goto (20), 3, false, (0), 19, 0, 0, 0, []),
  (18, .iload_n 0, 1, false, (0), 0, 0, 0, 0, []),
  (19, .bipush (6), 2, false, (6), 0, 0, 0, 0, []),
  (21, .if_icmp .eq (9), 3, false, (0), 16, 0, 0, 0, []),
  (24, .iload_n 0, 1, false, (0), 0, 0, 0, 0, []),
  (25, .bipush (8), 2, false, (8), 0, 0, 0, 0, []),
  (27, .if_icmp .le (7), 3, false, (0), 18, 0, 0, 0, []),
  (30, .iconst (1), 1, true, (1), 0, 0, 0, 0, []),
  (31, .goto (4), 3, false, (0), 19, 0, 0, 0, []),
  (34, .iconst (2), 1, false, (2), 0, 0, 0, 0, []),
  (35, .ireturn, 1, true, (0), 0, 0, 0, 0, [])]
def f23 : sm_I := (⟨"TypedMillModel", "partsOf", "(I)I"⟩, prog_11_method_10_code, 1, (some .int), 1, true, 9, c23)
def c24 : List sm_R := [
  (0, .iload_n 1, 1, false, (0), 1, 0, 0, 0, []),
  (1, .ifCond .lt (15), 3, false, (0), 8, 0, 0, 0, []),
  (4, .iload_n 1, 1, false, (0), 1, 0, 0, 0, []),
  (5, .aload_n 0, 1, false, (0), 0, 0, 0, 0, []),
  (6, .getfield 216, 3, false, (0), 9, 13, 0, 0, []),
  (9, .if_icmp .ge (7), 3, false, (0), 8, 0, 0, 0, []),
  (12, .iconst (1), 1, false, (1), 0, 0, 0, 0, []),
  (13, .goto (4), 3, false, (0), 9, 0, 0, 0, []),
  (16, .iconst (0), 1, true, (0), 0, 0, 0, 0, []),
  (17, .ireturn, 1, true, (0), 0, 0, 0, 0, [])]
def f24 : sm_I := (⟨"TypedMillModel", "isExpression", "(I)Z"⟩, prog_11_method_11_code, 2, (some .boolean), 1, false, 9, c24)
def c25 : List sm_R := [
  (0, .aload_n 0, 1, false, (0), 0, 0, 0, 0, []),
  (1, .iconst (0), 1, false, (0), 0, 0, 0, 0, []),
  (2, .putfield 199, 3, false, (0), 9, 0, 0, 0, []),
  (5, .iload_n 1, 1, false, (0), 1, 0, 0, 0, []),
  (6, .ifCond .lt (18), 3, false, (0), 12, 0, 0, 0, []),
  (9, .iload_n 1, 1, false, (0), 1, 0, 0, 0, []),
  (10, .bipush (10), 2, false, (10), 0, 0, 0, 0, []),
  (12, .if_icmp .gt (12), 3, false, (0), 12, 0, 0, 0, []),
  (15, .aload_n 0, 1, false, (0), 0, 0, 0, 0, []),
  (16, .getfield 216, 3, false, (0), 9, 13, 0, 0, []),
  (19, .bipush (40), 2, false, (40), 0, 0, 0, 0, []),
  (21, .if_icmp .ne (5), 3, false, (0), 14, 0, 0, 0, []),
  (24, .iconst (-1), 1, true, (-1), 0, 0, 0, 0, []),
  (25, .ireturn, 1, false, (0), 0, 0, 0, 0, []),
  (26, .iload_n 1, 1, false, (0), 1, 0, 0, 0, []),
  (27, .invokestatic 219, 3, false, (0), 23, 0, 1, 0, [(0, 0)]),
  (30, .istore 6, 2, false, (0), 6, 0, 0, 0, []),
  (32, .iload_n 1, 1, false, (0), 1, 0, 0, 0, []),
  (33, .iconst (1), 1, false, (1), 0, 0, 0, 0, []),
  (34, .if_icmp .ne (13), 3, false, (0), 25, 0, 0, 0, []),
  (37, .iload_n 2, 1, false, (0), 2, 0, 0, 0, []),
  (38, .ifCond .lt (38), 3, false, (0), 41, 0, 0, 0, []),
  (41, .iload_n 2, 1, false, (0), 2, 0, 0, 0, []),
  (42, .bipush (20), 2, false, (20), 0, 0, 0, 0, []),
  (44, .if_icmp .gt (32), 3, false, (0), 41, 0, 0, 0, []),
  (47, .iload_n 1, 1, true, (0), 1, 0, 0, 0, []),
  (48, .bipush (6), 2, false, (6), 0, 0, 0, 0, []),
  (50, .if_icmp .ne (28), 3, false, (0), 43, 0, 0, 0, []),
  (53, .aload_n 0, 1, false, (0), 0, 0, 0, 0, []),
  (54, .iload_n 2, 1, false, (0), 2, 0, 0, 0, []),
  (55, .invokevirtual 209, 3, false, (0), 19, 9, 2, 0, [(0, 0)]),
  (58, .ifCond .eq (18), 3, false, (0), 41, 0, 0, 0, []),
  (61, .aload_n 0, 1, false, (0), 0, 0, 0, 0, []),
  (62, .getfield 7, 3, false, (0), 9, 2, 0, 0, []),
  (65, .aload_n 0, 1, false, (0), 0, 0, 0, 0, []),
  (66, .getfield 25, 3, false, (0), 9, 8, 0, 0, []),
  (69, .iload_n 2, 1, false, (0), 2, 0, 0, 0, []),
  (70, .iaload, 1, false, (0), 0, 0, 0, 0, []),
  (71, .iaload, 1, false, (0), 0, 0, 0, 0, []),
  (72, .iconst (2), 1, false, (2), 0, 0, 0, 0, []),
  (73, .if_icmp .eq (5), 3, false, (0), 43, 0, 0, 0, []),
  (76, .iconst (-1), 1, true, (-1), 0, 0, 0, 0, []),
  (77, .ireturn, 1, false, (0), 0, 0, 0, 0, []),
  (78, .iload 6, 2, true, (0), 6, 0, 0, 0, []),
  (80, .ifCond .le (11), 3, false, (0), 49, 0, 0, 0, []),
  (83, .aload_n 0, 1, false, (0), 0, 0, 0, 0, []),
  (84, .iload_n 3, 1, false, (0), 3, 0, 0, 0, []),
  (85, .invokevirtual 222, 3, false, (0), 24, 9, 2, 0, [(0, 0)]),
  (88, .ifCond .eq (33), 3, false, (0), 63, 0, 0, 0, []),
  (91, .iload 6, 2, true, (0), 6, 0, 0, 0, []),
  (93, .iconst (1), 1, false, (1), 0, 0, 0, 0, []),
  (94, .if_icmp .le (12), 3, false, (0), 56, 0, 0, 0, []),
  (97, .aload_n 0, 1, false, (0), 0, 0, 0, 0, []),
  (98, .iload 4, 2, false, (0), 4, 0, 0, 0, []),
  (100, .invokevirtual 222, 3, false, (0), 24, 9, 2, 0, [(0, 0)]),
  (103, .ifCond .eq (18), 3, false, (0), 63, 0, 0, 0, []),
  (106, .iload 6, 2, true, (0), 6, 0, 0, 0, []),
  (108, .iconst (2), 1, false, (2), 0, 0, 0, 0, []),
  (109, .if_icmp .le (14), 3, false, (0), 65, 0, 0, 0, []),
  (112, .aload_n 0, 1, false, (0), 0, 0, 0, 0, []),
  (113, .iload 5, 2, false, (0), 5, 0, 0, 0, []),
  (115, .invokevirtual 222, 3, false, (0), 24, 9, 2, 0, [(0, 0)]),
  (118, .ifCond .ne (5), 3, false, (0), 65, 0, 0, 0, []),
  (121, .iconst (-1), 1, true, (-1), 0, 0, 0, 0, []),
  (122, .ireturn, 1, false, (0), 0, 0, 0, 0, []),
  (123, .iload 6, 2, true, (0), 6, 0, 0, 0, []),
  (125, .ifCond .le (12), 3, false, (0), 72, 0, 0, 0, []),
  (128, .aload_n 0, 1, false, (0), 0, 0, 0, 0, []),
  (129, .getfield 55, 3, false, (0), 9, 19, 0, 0, []),
  (132, .iload_n 3, 1, false, (0), 3, 0, 0, 0, []),
  (133, .iaload, 1, false, (0), 0, 0, 0, 0, []),
  (134, .goto (4), 3, false, (0), 73, 0, 0, 0, []),
  (137, .iconst (0), 1, false, (0), 0, 0, 0, 0, []),
  (138, .istore 7, 2, true, (0), 7, 0, 0, 0, []),
  (140, .iload 6, 2, false, (0), 6, 0, 0, 0, []),
  (142, .iconst (1), 1, false, (1), 0, 0, 0, 0, []),
  (143, .if_icmp .le (25), 3, false, (0), 88, 0, 0, 0, []),
  (146, .aload_n 0, 1, false, (0), 0, 0, 0, 0, []),
  (147, .getfield 55, 3, false, (0), 9, 19, 0, 0, []),
  (150, .iload 4, 2, false, (0), 4, 0, 0, 0, []),
  (152, .iaload, 1, false, (0), 0, 0, 0, 0, []),
  (153, .iload 7, 2, false, (0), 7, 0, 0, 0, []),
  (155, .if_icmp .le (13), 3, false, (0), 88, 0, 0, 0, []),
  (158, .aload_n 0, 1, false, (0), 0, 0, 0, 0, []),
  (159, .getfield 55, 3, false, (0), 9, 19, 0, 0, []),
  (162, .iload 4, 2, false, (0), 4, 0, 0, 0, []),
  (164, .iaload, 1, false, (0), 0, 0, 0, 0, []),
  (165, .goto (5), 3, false, (0), 89, 0, 0, 0, []),
  (168, .iload 7, 2, true, (0), 7, 0, 0, 0, []),
  (170, .istore 7, 2, true, (0), 7, 0, 0, 0, []),
  (172, .iload 6, 2, false, (0), 6, 0, 0, 0, []),
  (174, .iconst (2), 1, false, (2), 0, 0, 0, 0, []),
  (175, .if_icmp .le (25), 3, false, (0), 104, 0, 0, 0, []),
  (178, .aload_n 0, 1, false, (0), 0, 0, 0, 0, []),
  (179, .getfield 55, 3, false, (0), 9, 19, 0, 0, []),
  (182, .iload 5, 2, false, (0), 5, 0, 0, 0, []),
  (184, .iaload, 1, false, (0), 0, 0, 0, 0, []),
  (185, .iload 7, 2, false, (0), 7, 0, 0, 0, []),
  (187, .if_icmp .le (13), 3, false, (0), 104, 0, 0, 0, []),
  (190, .aload_n 0, 1, false, (0), 0, 0, 0, 0, []),
  (191, .getfield 55, 3, false, (0), 9, 19, 0, 0, []),
  (194, .iload 5, 2, false, (0), 5, 0, 0, 0, []),
  (196, .iaload, 1, false, (0), 0, 0, 0, 0, []),
  (197, .goto (5), 3, false, (0), 105, 0, 0, 0, []),
  (200, .iload 7, 2, true, (0), 7, 0, 0, 0, []),
  (202, .istore 7, 2, true, (0), 7, 0, 0, 0, []),
  (204, .iload 7, 2, false, (0), 7, 0, 0, 0, []),
  (206, .iconst (1), 1, false, (1), 0, 0, 0, 0, []),
  (207, .iadd, 1, false, (0), 0, 0, 0, 0, []),
  (208, .bipush (8), 2, false, (8), 0, 0, 0, 0, []),
  (210, .if_icmp .le (5), 3, false, (0), 113, 0, 0, 0, []),
  (213, .iconst (-1), 1, false, (-1), 0, 0, 0, 0, []),
  (214, .ireturn, 1, false, (0), 0, 0, 0, 0, []),
  (215, .aload_n 0, 1, false, (0), 0, 0, 0, 0, []),
  (216, .getfield 216, 3, false, (0), 9, 13, 0, 0, []),
  (219, .istore 8, 2, false, (0), 8, 0, 0, 0, []),
  (221, .aload_n 0, 1, false, (0), 0, 0, 0, 0, []),
  (222, .getfield 40, 3, false, (0), 9, 14, 0, 0, []),
  (225, .iload 8, 2, false, (0), 8, 0, 0, 0, []),
  (227, .iload_n 1, 1, false, (0), 1, 0, 0, 0, []),
  (228, .iastore, 1, false, (0), 0, 0, 0, 0, []),
  (229, .aload_n 0, 1, false, (0), 0, 0, 0, 0, []),
  (230, .getfield 43, 3, false, (0), 9, 15, 0, 0, []),
  (233, .iload 8, 2, false, (0), 8, 0, 0, 0, []),
  (235, .iload_n 2, 1, false, (0), 2, 0, 0, 0, []),
  (236, .iastore, 1, false, (0), 0, 0, 0, 0, []),
  (237, .aload_n 0, 1, false, (0), 0, 0, 0, 0, []),
  (238, .getfield 46, 3, false, (0), 9, 16, 0, 0, []),
  (241, .iload 8, 2, false, (0), 8, 0, 0, 0, []),
  (243, .iload_n 3, 1, false, (0), 3, 0, 0, 0, []),
  (244, .iastore, 1, false, (0), 0, 0, 0, 0, []),
  (245, .aload_n 0, 1, false, (0), 0, 0, 0, 0, []),
  (246, .getfield 49, 3, false, (0), 9, 17, 0, 0, []),
  (249, .iload 8, 2, false, (0), 8, 0, 0, 0, []),
  (251, .iload 4, 2, false, (0), 4, 0, 0, 0, []),
  (253, .iastore, 1, false, (0), 0, 0, 0, 0, []),
  (254, .aload_n 0, 1, false, (0), 0, 0, 0, 0, []),
  (255, .getfield 52, 3, false, (0), 9, 18, 0, 0, []),
  (258, .iload 8, 2, false, (0), 8, 0, 0, 0, []),
  (260, .iload 5, 2, false, (0), 5, 0, 0, 0, []),
  (262, .iastore, 1, false, (0), 0, 0, 0, 0, []),
  (263, .aload_n 0, 1, false, (0), 0, 0, 0, 0, []),
  (264, .getfield 55, 3, false, (0), 9, 19, 0, 0, []),
  (267, .iload 8, 2, false, (0), 8, 0, 0, 0, []),
  (269, .iload 7, 2, false, (0), 7, 0, 0, 0, []),
  (271, .iconst (1), 1, false, (1), 0, 0, 0, 0, []),
  (272, .iadd, 1, false, (0), 0, 0, 0, 0, []),
  (273, .iastore, 1, false, (0), 0, 0, 0, 0, []),
  (274, .aload_n 0, 1, false, (0), 0, 0, 0, 0, []),
  (275, .dup, 1, false, (0), 0, 0, 0, 0, []),
  (276, .getfield 216, 3, false, (0), 9, 13, 0, 0, []),
  (279, .iconst (1), 1, false, (1), 0, 0, 0, 0, []),
  (280, .iadd, 1, false, (0), 0, 0, 0, 0, []),
  (281, .putfield 216, 3, false, (0), 9, 13, 0, 0, []),
  (284, .iload 8, 2, false, (0), 8, 0, 0, 0, []),
  (286, .ireturn, 1, false, (0), 0, 0, 0, 0, [])]
def f25 : sm_I := (⟨"TypedMillModel", "make", "(IIIII)I"⟩, prog_11_method_12_code, 9, (some .int), 5, false, 9, c25)
def c26 : List sm_R := [
  (0, .aload_n 0, 1, false, (0), 0, 0, 0, 0, []),
  (1, .getfield 58, 3, false, (0), 9, 23, 0, 0, []),
  (4, .aload_n 0, 1, false, (0), 0, 0, 0, 0, []),
  (5, .getfield 225, 3, false, (0), 9, 20, 0, 0, []),
  (8, .iload_n 1, 1, false, (0), 1, 0, 0, 0, []),
  (9, .iastore, 1, false, (0), 0, 0, 0, 0, []),
  (10, .aload_n 0, 1, false, (0), 0, 0, 0, 0, []),
  (11, .getfield 61, 3, false, (0), 9, 24, 0, 0, []),
  (14, .aload_n 0, 1, false, (0), 0, 0, 0, 0, []),
  (15, .getfield 225, 3, false, (0), 9, 20, 0, 0, []),
  (18, .iconst (0), 1, false, (0), 0, 0, 0, 0, []),
  (19, .iastore, 1, false, (0), 0, 0, 0, 0, []),
  (20, .aload_n 0, 1, false, (0), 0, 0, 0, 0, []),
  (21, .dup, 1, false, (0), 0, 0, 0, 0, []),
  (22, .getfield 225, 3, false, (0), 9, 20, 0, 0, []),
  (25, .iconst (1), 1, false, (1), 0, 0, 0, 0, []),
  (26, .iadd, 1, false, (0), 0, 0, 0, 0, []),
  (27, .putfield 225, 3, false, (0), 9, 20, 0, 0, []),
  (30, .return_, 1, false, (0), 0, 0, 0, 0, [])]
def f26 : sm_I := (⟨"TypedMillModel", "begin", "(I)V"⟩, prog_11_method_13_code, 2, none, 1, false, 9, c26)
def c27 : List sm_R := [
  (0, .aload_n 0, 1, false, (0), 0, 0, 0, 0, []),
  (1, .getfield 225, 3, false, (0), 9, 20, 0, 0, []),
  (4, .iconst (1), 1, false, (1), 0, 0, 0, 0, []),
  (5, .isub, 1, false, (0), 0, 0, 0, 0, []),
  (6, .istore_n 1, 1, false, (0), 1, 0, 0, 0, []),
  (7, .aload_n 0, 1, false, (0), 0, 0, 0, 0, []),
  (8, .getfield 58, 3, false, (0), 9, 23, 0, 0, []),
  (11, .iload_n 1, 1, false, (0), 1, 0, 0, 0, []),
  (12, .iaload, 1, false, (0), 0, 0, 0, 0, []),
  (13, .istore_n 2, 1, false, (0), 2, 0, 0, 0, []),
  (14, .aload_n 0, 1, false, (0), 0, 0, 0, 0, []),
  (15, .getfield 61, 3, false, (0), 9, 24, 0, 0, []),
  (18, .iload_n 1, 1, false, (0), 1, 0, 0, 0, []),
  (19, .iaload, 1, false, (0), 0, 0, 0, 0, []),
  (20, .istore_n 3, 1, false, (0), 3, 0, 0, 0, []),
  (21, .aload_n 0, 1, false, (0), 0, 0, 0, 0, []),
  (22, .getfield 40, 3, false, (0), 9, 14, 0, 0, []),
  (25, .iload_n 2, 1, false, (0), 2, 0, 0, 0, []),
  (26, .iaload, 1, false, (0), 0, 0, 0, 0, []),
  (27, .istore 4, 2, false, (0), 4, 0, 0, 0, []),
  (29, .iload 4, 2, false, (0), 4, 0, 0, 0, []),
  (31, .invokestatic 219, 3, false, (0), 23, 0, 1, 0, [(0, 0)]),
  (34, .istore 5, 2, false, (0), 5, 0, 0, 0, []),
  (36, .aload_n 0, 1, false, (0), 0, 0, 0, 0, []),
  (37, .getfield 61, 3, false, (0), 9, 24, 0, 0, []),
  (40, .iload_n 1, 1, false, (0), 1, 0, 0, 0, []),
  (41, .dup2, 1, false, (0), 0, 0, 0, 0, []),
  (42, .iaload, 1, false, (0), 0, 0, 0, 0, []),
  (43, .iconst (1), 1, false, (1), 0, 0, 0, 0, []),
  (44, .iadd, 1, false, (0), 0, 0, 0, 0, []),
  (45, .iastore, 1, false, (0), 0, 0, 0, 0, []),
  (46, .iload_n 3, 1, false, (0), 3, 0, 0, 0, []),
  (47, .iconst (1), 1, false, (1), 0, 0, 0, 0, []),
  (48, .if_icmp .ne (64), 3, false, (0), 65, 0, 0, 0, []),
  (51, .iload 4, 2, false, (0), 4, 0, 0, 0, []),
  (53, .iconst (2), 1, false, (2), 0, 0, 0, 0, []),
  (54, .if_icmp .lt (16), 3, false, (0), 43, 0, 0, 0, []),
  (57, .iload 4, 2, false, (0), 4, 0, 0, 0, []),
  (59, .iconst (5), 1, false, (5), 0, 0, 0, 0, []),
  (60, .if_icmp .gt (10), 3, false, (0), 43, 0, 0, 0, []),
  (63, .aload_n 0, 1, false, (0), 0, 0, 0, 0, []),
  (64, .getfield 228, 3, false, (0), 9, 22, 0, 0, []),
  (67, .ifCond .ne (43), 3, false, (0), 63, 0, 0, 0, []),
  (70, .iload 4, 2, true, (0), 4, 0, 0, 0, []),
  (72, .bipush (7), 2, false, (7), 0, 0, 0, 0, []),
  (74, .if_icmp .ne (16), 3, false, (0), 53, 0, 0, 0, []),
  (77, .aload_n 0, 1, false, (0), 0, 0, 0, 0, []),
  (78, .getfield 7, 3, false, (0), 9, 2, 0, 0, []),
  (81, .aload_n 0, 1, false, (0), 0, 0, 0, 0, []),
  (82, .getfield 228, 3, false, (0), 9, 22, 0, 0, []),
  (85, .iaload, 1, false, (0), 0, 0, 0, 0, []),
  (86, .iconst (2), 1, false, (2), 0, 0, 0, 0, []),
  (87, .if_icmp .ne (23), 3, false, (0), 63, 0, 0, 0, []),
  (90, .iload 4, 2, true, (0), 4, 0, 0, 0, []),
  (92, .bipush (8), 2, false, (8), 0, 0, 0, 0, []),
  (94, .if_icmp .le (18), 3, false, (0), 65, 0, 0, 0, []),
  (97, .aload_n 0, 1, false, (0), 0, 0, 0, 0, []),
  (98, .getfield 7, 3, false, (0), 9, 2, 0, 0, []),
  (101, .aload_n 0, 1, false, (0), 0, 0, 0, 0, []),
  (102, .getfield 228, 3, false, (0), 9, 22, 0, 0, []),
  (105, .iaload, 1, false, (0), 0, 0, 0, 0, []),
  (106, .iconst (1), 1, false, (1), 0, 0, 0, 0, []),
  (107, .if_icmp .eq (5), 3, false, (0), 65, 0, 0, 0, []),
  (110, .iconst (0), 1, true, (0), 0, 0, 0, 0, []),
  (111, .ireturn, 1, false, (0), 0, 0, 0, 0, []),
  (112, .iload_n 3, 1, true, (0), 3, 0, 0, 0, []),
  (113, .iconst (1), 1, false, (1), 0, 0, 0, 0, []),
  (114, .if_icmp .ne (13), 3, false, (0), 74, 0, 0, 0, []),
  (117, .aload_n 0, 1, false, (0), 0, 0, 0, 0, []),
  (118, .getfield 64, 3, false, (0), 9, 25, 0, 0, []),
  (121, .iload_n 1, 1, false, (0), 1, 0, 0, 0, []),
  (122, .aload_n 0, 1, false, (0), 0, 0, 0, 0, []),
  (123, .getfield 228, 3, false, (0), 9, 22, 0, 0, []),
  (126, .iastore, 1, false, (0), 0, 0, 0, 0, []),
  (127, .iload_n 3, 1, true, (0), 3, 0, 0, 0, []),
  (128, .iconst (2), 1, false, (2), 0, 0, 0, 0, []),
  (129, .if_icmp .ne (13), 3, false, (0), 83, 0, 0, 0, []),
  (132, .aload_n 0, 1, false, (0), 0, 0, 0, 0, []),
  (133, .getfield 67, 3, false, (0), 9, 26, 0, 0, []),
  (136, .iload_n 1, 1, false, (0), 1, 0, 0, 0, []),
  (137, .aload_n 0, 1, false, (0), 0, 0, 0, 0, []),
  (138, .getfield 228, 3, false, (0), 9, 22, 0, 0, []),
  (141, .iastore, 1, false, (0), 0, 0, 0, 0, []),
  (142, .iload_n 3, 1, true, (0), 3, 0, 0, 0, []),
  (143, .iload 5, 2, false, (0), 5, 0, 0, 0, []),
  (145, .if_icmp .ge (106), 3, false, (0), 147, 0, 0, 0, []),
  (148, .iload 4, 2, false, (0), 4, 0, 0, 0, []),
  (150, .bipush (6), 2, false, (6), 0, 0, 0, 0, []),
  (152, .if_icmp .ne (60), 3, false, (0), 124, 0, 0, 0, []),
  (155, .aload_n 0, 1, false, (0), 0, 0, 0, 0, []),
  (156, .getfield 73, 3, false, (0), 9, 28, 0, 0, []),
  (159, .aload_n 0, 1, false, (0), 0, 0, 0, 0, []),
  (160, .getfield 231, 3, false, (0), 9, 21, 0, 0, []),
  (163, .aload_n 0, 1, false, (0), 0, 0, 0, 0, []),
  (164, .getfield 25, 3, false, (0), 9, 8, 0, 0, []),
  (167, .aload_n 0, 1, false, (0), 0, 0, 0, 0, []),
  (168, .getfield 43, 3, false, (0), 9, 15, 0, 0, []),
  (171, .iload_n 2, 1, false, (0), 2, 0, 0, 0, []),
  (172, .iaload, 1, false, (0), 0, 0, 0, 0, []),
  (173, .iaload, 1, false, (0), 0, 0, 0, 0, []),
  (174, .iastore, 1, false, (0), 0, 0, 0, 0, []),
  (175, .aload_n 0, 1, false, (0), 0, 0, 0, 0, []),
  (176, .getfield 73, 3, false, (0), 9, 28, 0, 0, []),
  (179, .aload_n 0, 1, false, (0), 0, 0, 0, 0, []),
  (180, .getfield 231, 3, false, (0), 9, 21, 0, 0, []),
  (183, .iconst (1), 1, false, (1), 0, 0, 0, 0, []),
  (184, .iadd, 1, false, (0), 0, 0, 0, 0, []),
  (185, .aload_n 0, 1, false, (0), 0, 0, 0, 0, []),
  (186, .getfield 13, 3, false, (0), 9, 3, 0, 0, []),
  (189, .aload_n 0, 1, false, (0), 0, 0, 0, 0, []),
  (190, .getfield 25, 3, false, (0), 9, 8, 0, 0, []),
  (193, .aload_n 0, 1, false, (0), 0, 0, 0, 0, []),
  (194, .getfield 43, 3, false, (0), 9, 15, 0, 0, []),
  (197, .iload_n 2, 1, false, (0), 2, 0, 0, 0, []),
  (198, .iaload, 1, false, (0), 0, 0, 0, 0, []),
  (199, .iaload, 1, false, (0), 0, 0, 0, 0, []),
  (200, .iaload, 1, false, (0), 0, 0, 0, 0, []),
  (201, .iastore, 1, false, (0), 0, 0, 0, 0, []),
  (202, .aload_n 0, 1, false, (0), 0, 0, 0, 0, []),
  (203, .dup, 1, false, (0), 0, 0, 0, 0, []),
  (204, .getfield 231, 3, false, (0), 9, 21, 0, 0, []),
  (207, .iconst (2), 1, false, (2), 0, 0, 0, 0, []),
  (208, .iadd, 1, false, (0), 0, 0, 0, 0, []),
  (209, .putfield 231, 3, false, (0), 9, 21, 0, 0, []),
  (212, .aload_n 0, 1, true, (0), 0, 0, 0, 0, []),
  (213, .iload_n 3, 1, false, (0), 3, 0, 0, 0, []),
  (214, .ifCond .ne (12), 3, false, (0), 132, 0, 0, 0, []),
  (217, .aload_n 0, 1, false, (0), 0, 0, 0, 0, []),
  (218, .getfield 46, 3, false, (0), 9, 16, 0, 0, []),
  (221, .iload_n 2, 1, false, (0), 2, 0, 0, 0, []),
  (222, .iaload, 1, false, (0), 0, 0, 0, 0, []),
  (223, .goto (23), 3, false, (0), 144, 0, 0, 0, []),
  (226, .iload_n 3, 1, false, (0), 3, 0, 0, 0, []),
  (227, .iconst (1), 1, false, (1), 0, 0, 0, 0, []),
  (228, .if_icmp .ne (12), 3, false, (0), 140, 0, 0, 0, []),
  (231, .aload_n 0, 1, false, (0), 0, 0, 0, 0, []),
  (232, .getfield 49, 3, false, (0), 9, 17, 0, 0, []),
  (235, .iload_n 2, 1, false, (0), 2, 0, 0, 0, []),
  (236, .iaload, 1, false, (0), 0, 0, 0, 0, []),
  (237, .goto (9), 3, false, (0), 144, 0, 0, 0, []),
  (240, .aload_n 0, 1, false, (0), 0, 0, 0, 0, []),
  (241, .getfield 52, 3, false, (0), 9, 18, 0, 0, []),
  (244, .iload_n 2, 1, false, (0), 2, 0, 0, 0, []),
  (245, .iaload, 1, false, (0), 0, 0, 0, 0, []),
  (246, .invokevirtual 234, 3, true, (0), 26, 9, 2, 0, []),
  (249, .iconst (1), 1, false, (1), 0, 0, 0, 0, []),
  (250, .ireturn, 1, false, (0), 0, 0, 0, 0, []),
  (251, .aload_n 0, 1, false, (0), 0, 0, 0, 0, []),
  (252, .dup, 1, false, (0), 0, 0, 0, 0, []),
  (253, .getfield 225, 3, false, (0), 9, 20, 0, 0, []),
  (256, .iconst (1), 1, false, (1), 0, 0, 0, 0, []),
  (257, .isub, 1, false, (0), 0, 0, 0, 0, []),
  (258, .putfield 225, 3, false, (0), 9, 20, 0, 0, []),
  (261, .iconst (1), 1, false, (1), 0, 0, 0, 0, []),
  (262, .istore 6, 2, false, (0), 6, 0, 0, 0, []),
  (264, .iload 4, 2, false, (0), 4, 0, 0, 0, []),
  (266, .tableswitch (276) (0) (8) #[(50), (58), (112), (112), (112), (129), (152), (210), (253)], 50, false, (0), 281, 0, 0, 0, [((0), 157), ((1), 161), ((2), 191), ((3), 191), ((4), 191), ((5), 199), ((6), 211), ((7), 244), ((8), 268)]),
  (316, .aload_n 0, 1, false, (0), 0, 0, 0, 0, []),
  (317, .iconst (0), 1, false, (0), 0, 0, 0, 0, []),
  (318, .putfield 228, 3, false, (0), 9, 22, 0, 0, []),
  (321, .goto (253), 3, false, (0), 297, 0, 0, 0, []),
  (324, .aload_n 0, 1, false, (0), 0, 0, 0, 0, []),
  (325, .getfield 43, 3, false, (0), 9, 15, 0, 0, []),
  (328, .iload_n 2, 1, false, (0), 2, 0, 0, 0, []),
  (329, .iaload, 1, false, (0), 0, 0, 0, 0, []),
  (330, .aload_n 0, 1, false, (0), 0, 0, 0, 0, []),
  (331, .getfield 231, 3, false, (0), 9, 21, 0, 0, []),
  (334, .if_icmp .ge (7), 3, false, (0), 170, 0, 0, 0, []),
  (337, .iconst (1), 1, false, (1), 0, 0, 0, 0, []),
  (338, .goto (4), 3, false, (0), 171, 0, 0, 0, []),
  (341, .iconst (0), 1, false, (0), 0, 0, 0, 0, []),
  (342, .istore 6, 2, true, (0), 6, 0, 0, 0, []),
  (344, .aload_n 0, 1, false, (0), 0, 0, 0, 0, []),
  (345, .iload 6, 2, false, (0), 6, 0, 0, 0, []),
  (347, .ifCond .eq (24), 3, false, (0), 188, 0, 0, 0, []),
  (350, .aload_n 0, 1, false, (0), 0, 0, 0, 0, []),
  (351, .getfield 73, 3, false, (0), 9, 28, 0, 0, []),
  (354, .aload_n 0, 1, false, (0), 0, 0, 0, 0, []),
  (355, .getfield 231, 3, false, (0), 9, 21, 0, 0, []),
  (358, .iconst (1), 1, false, (1), 0, 0, 0, 0, []),
  (359, .isub, 1, false, (0), 0, 0, 0, 0, []),
  (360, .aload_n 0, 1, false, (0), 0, 0, 0, 0, []),
  (361, .getfield 43, 3, false, (0), 9, 15, 0, 0, []),
  (364, .iload_n 2, 1, false, (0), 2, 0, 0, 0, []),
  (365, .iaload, 1, false, (0), 0, 0, 0, 0, []),
  (366, .isub, 1, false, (0), 0, 0, 0, 0, []),
  (367, .iaload, 1, false, (0), 0, 0, 0, 0, []),
  (368, .goto (4), 3, false, (0), 189, 0, 0, 0, []),
  (371, .iconst (0), 1, false, (0), 0, 0, 0, 0, []),
  (372, .putfield 228, 3, true, (0), 9, 22, 0, 0, []),
  (375, .goto (199), 3, false, (0), 297, 0, 0, 0, []),
  (378, .aload_n 0, 1, true, (0), 0, 0, 0, 0, []),
  (379, .getfield 228, 3, false, (0), 9, 22, 0, 0, []),
  (382, .ifCond .ne (7), 3, false, (0), 196, 0, 0, 0, []),
  (385, .iconst (1), 1, false, (1), 0, 0, 0, 0, []),
  (386, .goto (4), 3, false, (0), 197, 0, 0, 0, []),
  (389, .iconst (0), 1, false, (0), 0, 0, 0, 0, []),
  (390, .istore 6, 2, true, (0), 6, 0, 0, 0, []),
  (392, .goto (182), 3, false, (0), 297, 0, 0, 0, []),
  (395, .aload_n 0, 1, false, (0), 0, 0, 0, 0, []),
  (396, .getfield 228, 3, false, (0), 9, 22, 0, 0, []),
  (399, .aload_n 0, 1, false, (0), 0, 0, 0, 0, []),
  (400, .getfield 67, 3, false, (0), 9, 26, 0, 0, []),
  (403, .iload_n 1, 1, false, (0), 1, 0, 0, 0, []),
  (404, .iaload, 1, false, (0), 0, 0, 0, 0, []),
  (405, .if_icmp .ne (7), 3, false, (0), 208, 0, 0, 0, []),
  (408, .iconst (1), 1, false, (1), 0, 0, 0, 0, []),
  (409, .goto (4), 3, false, (0), 209, 0, 0, 0, []),
  (412, .iconst (0), 1, false, (0), 0, 0, 0, 0, []),
  (413, .istore 6, 2, true, (0), 6, 0, 0, 0, []),
  (415, .goto (159), 3, false, (0), 297, 0, 0, 0, []),
  (418, .aload_n 0, 1, false, (0), 0, 0, 0, 0, []),
  (419, .dup, 1, false, (0), 0, 0, 0, 0, []),
  (420, .getfield 231, 3, false, (0), 9, 21, 0, 0, []),
  (423, .iconst (2), 1, false, (2), 0, 0, 0, 0, []),
  (424, .isub, 1, false, (0), 0, 0, 0, 0, []),
  (425, .putfield 231, 3, false, (0), 9, 21, 0, 0, []),
  (428, .aload_n 0, 1, false, (0), 0, 0, 0, 0, []),
  (429, .getfield 228, 3, false, (0), 9, 22, 0, 0, []),
  (432, .aload_n 0, 1, false, (0), 0, 0, 0, 0, []),
  (433, .getfield 16, 3, false, (0), 9, 4, 0, 0, []),
  (436, .aload_n 0, 1, false, (0), 0, 0, 0, 0, []),
  (437, .getfield 25, 3, false, (0), 9, 8, 0, 0, []),
  (440, .aload_n 0, 1, false, (0), 0, 0, 0, 0, []),
  (441, .getfield 43, 3, false, (0), 9, 15, 0, 0, []),
  (444, .iload_n 2, 1, false, (0), 2, 0, 0, 0, []),
  (445, .iaload, 1, false, (0), 0, 0, 0, 0, []),
  (446, .iaload, 1, false, (0), 0, 0, 0, 0, []),
  (447, .iaload, 1, false, (0), 0, 0, 0, 0, []),
  (448, .if_icmp .ne (7), 3, false, (0), 232, 0, 0, 0, []),
  (451, .iconst (1), 1, false, (1), 0, 0, 0, 0, []),
  (452, .goto (4), 3, false, (0), 233, 0, 0, 0, []),
  (455, .iconst (0), 1, false, (0), 0, 0, 0, 0, []),
  (456, .istore 6, 2, true, (0), 6, 0, 0, 0, []),
  (458, .aload_n 0, 1, false, (0), 0, 0, 0, 0, []),
  (459, .aload_n 0, 1, false, (0), 0, 0, 0, 0, []),
  (460, .getfield 25, 3, false, (0), 9, 8, 0, 0, []),
  (463, .aload_n 0, 1, false, (0), 0, 0, 0, 0, []),
  (464, .getfield 43, 3, false, (0), 9, 15, 0, 0, []),
  (467, .iload_n 2, 1, false, (0), 2, 0, 0, 0, []),
  (468, .iaload, 1, false, (0), 0, 0, 0, 0, []),
  (469, .iaload, 1, false, (0), 0, 0, 0, 0, []),
  (470, .putfield 228, 3, false, (0), 9, 22, 0, 0, []),
  (473, .goto (101), 3, false, (0), 297, 0, 0, 0, []),
  (476, .aload_n 0, 1, false, (0), 0, 0, 0, 0, []),
  (477, .getfield 228, 3, false, (0), 9, 22, 0, 0, []),
  (480, .aload_n 0, 1, false, (0), 0, 0, 0, 0, []),
  (481, .getfield 13, 3, false, (0), 9, 3, 0, 0, []),
  (484, .aload_n 0, 1, false, (0), 0, 0, 0, 0, []),
  (485, .getfield 64, 3, false, (0), 9, 25, 0, 0, []),
  (488, .iload_n 1, 1, false, (0), 1, 0, 0, 0, []),
  (489, .iaload, 1, false, (0), 0, 0, 0, 0, []),
  (490, .iaload, 1, false, (0), 0, 0, 0, 0, []),
  (491, .if_icmp .ne (7), 3, false, (0), 256, 0, 0, 0, []),
  (494, .iconst (1), 1, false, (1), 0, 0, 0, 0, []),
  (495, .goto (4), 3, false, (0), 257, 0, 0, 0, []),
  (498, .iconst (0), 1, false, (0), 0, 0, 0, 0, []),
  (499, .istore 6, 2, true, (0), 6, 0, 0, 0, []),
  (501, .aload_n 0, 1, false, (0), 0, 0, 0, 0, []),
  (502, .aload_n 0, 1, false, (0), 0, 0, 0, 0, []),
  (503, .getfield 16, 3, false, (0), 9, 4, 0, 0, []),
  (506, .aload_n 0, 1, false, (0), 0, 0, 0, 0, []),
  (507, .getfield 64, 3, false, (0), 9, 25, 0, 0, []),
  (510, .iload_n 1, 1, false, (0), 1, 0, 0, 0, []),
  (511, .iaload, 1, false, (0), 0, 0, 0, 0, []),
  (512, .iaload, 1, false, (0), 0, 0, 0, 0, []),
  (513, .putfield 228, 3, false, (0), 9, 22, 0, 0, []),
  (516, .goto (58), 3, false, (0), 297, 0, 0, 0, []),
  (519, .aload_n 0, 1, false, (0), 0, 0, 0, 0, []),
  (520, .aload_n 0, 1, false, (0), 0, 0, 0, 0, []),
  (521, .iconst (1), 1, false, (1), 0, 0, 0, 0, []),
  (522, .aload_n 0, 1, false, (0), 0, 0, 0, 0, []),
  (523, .getfield 64, 3, false, (0), 9, 25, 0, 0, []),
  (526, .iload_n 1, 1, false, (0), 1, 0, 0, 0, []),
  (527, .iaload, 1, false, (0), 0, 0, 0, 0, []),
  (528, .aload_n 0, 1, false, (0), 0, 0, 0, 0, []),
  (529, .getfield 228, 3, false, (0), 9, 22, 0, 0, []),
  (532, .iconst (-1), 1, false, (-1), 0, 0, 0, 0, []),
  (533, .invokevirtual 188, 3, false, (0), 18, 9, 5, 0, [(0, 0)]),
  (536, .putfield 228, 3, false, (0), 9, 22, 0, 0, []),
  (539, .goto (35), 3, false, (0), 297, 0, 0, 0, []),
  (542, .aload_n 0, 1, false, (0), 0, 0, 0, 0, []),
  (543, .iload 4, 2, false, (0), 4, 0, 0, 0, []),
  (545, .bipush (9), 2, false, (9), 0, 0, 0, 0, []),
  (547, .if_icmp .ne (15), 3, false, (0), 291, 0, 0, 0, []),
  (550, .aload_n 0, 1, false, (0), 0, 0, 0, 0, []),
  (551, .getfield 13, 3, false, (0), 9, 3, 0, 0, []),
  (554, .aload_n 0, 1, false, (0), 0, 0, 0, 0, []),
  (555, .getfield 228, 3, false, (0), 9, 22, 0, 0, []),
  (558, .iaload, 1, false, (0), 0, 0, 0, 0, []),
  (559, .goto (12), 3, false, (0), 296, 0, 0, 0, []),
  (562, .aload_n 0, 1, false, (0), 0, 0, 0, 0, []),
  (563, .getfield 16, 3, false, (0), 9, 4, 0, 0, []),
  (566, .aload_n 0, 1, false, (0), 0, 0, 0, 0, []),
  (567, .getfield 228, 3, false, (0), 9, 22, 0, 0, []),
  (570, .iaload, 1, false, (0), 0, 0, 0, 0, []),
  (571, .putfield 228, 3, true, (0), 9, 22, 0, 0, []),
  (574, .iload 6, 2, true, (0), 6, 0, 0, 0, []),
  (576, .ireturn, 1, false, (0), 0, 0, 0, 0, [])]
def f27 : sm_I := (⟨"TypedMillModel", "typeNext", "()Z"⟩, prog_11_method_14_code, 7, (some .boolean), 0, false, 9, c27)
def c28 : List sm_R := [
  (0, .aload_n 0, 1, false, (0), 0, 0, 0, 0, []),
  (1, .iconst (0), 1, false, (0), 0, 0, 0, 0, []),
  (2, .putfield 225, 3, false, (0), 9, 20, 0, 0, []),
  (5, .aload_n 0, 1, false, (0), 0, 0, 0, 0, []),
  (6, .iconst (0), 1, false, (0), 0, 0, 0, 0, []),
  (7, .putfield 231, 3, false, (0), 9, 21, 0, 0, []),
  (10, .aload_n 0, 1, false, (0), 0, 0, 0, 0, []),
  (11, .iload_n 1, 1, false, (0), 1, 0, 0, 0, []),
  (12, .invokevirtual 234, 3, false, (0), 26, 9, 2, 0, []),
  (15, .iconst (1), 1, false, (1), 0, 0, 0, 0, []),
  (16, .istore_n 2, 1, false, (0), 2, 0, 0, 0, []),
  (17, .iload_n 2, 1, true, (0), 2, 0, 0, 0, []),
  (18, .ifCond .eq (18), 3, false, (0), 20, 0, 0, 0, []),
  (21, .aload_n 0, 1, false, (0), 0, 0, 0, 0, []),
  (22, .getfield 225, 3, false, (0), 9, 20, 0, 0, []),
  (25, .ifCond .le (11), 3, false, (0), 20, 0, 0, 0, []),
  (28, .aload_n 0, 1, false, (0), 0, 0, 0, 0, []),
  (29, .invokevirtual 238, 3, false, (0), 27, 9, 1, 0, [(0, 0)]),
  (32, .istore_n 2, 1, false, (0), 2, 0, 0, 0, []),
  (33, .goto (-16), 3, false, (0), 11, 0, 0, 0, []),
  (36, .iload_n 2, 1, true, (0), 2, 0, 0, 0, []),
  (37, .ifCond .eq (10), 3, false, (0), 25, 0, 0, 0, []),
  (40, .aload_n 0, 1, false, (0), 0, 0, 0, 0, []),
  (41, .getfield 228, 3, false, (0), 9, 22, 0, 0, []),
  (44, .goto (4), 3, false, (0), 26, 0, 0, 0, []),
  (47, .iconst (-1), 1, false, (-1), 0, 0, 0, 0, []),
  (48, .ireturn, 1, true, (0), 0, 0, 0, 0, [])]
def f28 : sm_I := (⟨"TypedMillModel", "typeOf", "(I)I"⟩, prog_11_method_15_code, 3, (some .int), 1, false, 9, c28)
def c29 : List sm_R := [
  (0, .aload_n 0, 1, false, (0), 0, 0, 0, 0, []),
  (1, .iconst (0), 1, false, (0), 0, 0, 0, 0, []),
  (2, .putfield 199, 3, false, (0), 9, 0, 0, 0, []),
  (5, .aload_n 0, 1, false, (0), 0, 0, 0, 0, []),
  (6, .iload_n 1, 1, false, (0), 1, 0, 0, 0, []),
  (7, .invokevirtual 222, 3, false, (0), 24, 9, 2, 0, [(0, 0)]),
  (10, .ifCond .eq (11), 3, false, (0), 11, 0, 0, 0, []),
  (13, .aload_n 0, 1, false, (0), 0, 0, 0, 0, []),
  (14, .iload_n 2, 1, false, (0), 2, 0, 0, 0, []),
  (15, .invokevirtual 209, 3, false, (0), 19, 9, 2, 0, [(0, 0)]),
  (18, .ifCond .ne (5), 3, false, (0), 13, 0, 0, 0, []),
  (21, .iconst (0), 1, true, (0), 0, 0, 0, 0, []),
  (22, .ireturn, 1, false, (0), 0, 0, 0, 0, []),
  (23, .aload_n 0, 1, false, (0), 0, 0, 0, 0, []),
  (24, .getfield 202, 3, false, (0), 9, 1, 0, 0, []),
  (27, .istore_n 3, 1, false, (0), 3, 0, 0, 0, []),
  (28, .aload_n 0, 1, false, (0), 0, 0, 0, 0, []),
  (29, .iload_n 1, 1, false, (0), 1, 0, 0, 0, []),
  (30, .invokevirtual 242, 3, false, (0), 28, 9, 2, 0, [(0, 0)]),
  (33, .aload_n 0, 1, false, (0), 0, 0, 0, 0, []),
  (34, .getfield 25, 3, false, (0), 9, 8, 0, 0, []),
  (37, .iload_n 2, 1, false, (0), 2, 0, 0, 0, []),
  (38, .iaload, 1, false, (0), 0, 0, 0, 0, []),
  (39, .if_icmp .ne (7), 3, false, (0), 26, 0, 0, 0, []),
  (42, .iconst (1), 1, false, (1), 0, 0, 0, 0, []),
  (43, .goto (4), 3, false, (0), 27, 0, 0, 0, []),
  (46, .iconst (0), 1, false, (0), 0, 0, 0, 0, []),
  (47, .istore 4, 2, true, (0), 4, 0, 0, 0, []),
  (49, .aload_n 0, 1, false, (0), 0, 0, 0, 0, []),
  (50, .iload_n 3, 1, false, (0), 3, 0, 0, 0, []),
  (51, .putfield 202, 3, false, (0), 9, 1, 0, 0, []),
  (54, .iload 4, 2, false, (0), 4, 0, 0, 0, []),
  (56, .ireturn, 1, false, (0), 0, 0, 0, 0, [])]
def f29 : sm_I := (⟨"TypedMillModel", "is", "(II)Z"⟩, prog_11_method_16_code, 5, (some .boolean), 2, false, 9, c29)
def c30 : List sm_R := [
  (0, .aload_n 0, 1, false, (0), 0, 0, 0, 0, []),
  (1, .getfield 202, 3, false, (0), 9, 1, 0, 0, []),
  (4, .istore_n 2, 1, false, (0), 2, 0, 0, 0, []),
  (5, .aload_n 0, 1, false, (0), 0, 0, 0, 0, []),
  (6, .iload_n 1, 1, false, (0), 1, 0, 0, 0, []),
  (7, .invokevirtual 242, 3, false, (0), 28, 9, 2, 0, [(0, 0)]),
  (10, .ifCond .ne (7), 3, false, (0), 9, 0, 0, 0, []),
  (13, .iconst (1), 1, false, (1), 0, 0, 0, 0, []),
  (14, .goto (4), 3, false, (0), 10, 0, 0, 0, []),
  (17, .iconst (0), 1, false, (0), 0, 0, 0, 0, []),
  (18, .istore_n 3, 1, true, (0), 3, 0, 0, 0, []),
  (19, .aload_n 0, 1, false, (0), 0, 0, 0, 0, []),
  (20, .iload_n 2, 1, false, (0), 2, 0, 0, 0, []),
  (21, .putfield 202, 3, false, (0), 9, 1, 0, 0, []),
  (24, .iload_n 3, 1, false, (0), 3, 0, 0, 0, []),
  (25, .ireturn, 1, false, (0), 0, 0, 0, 0, [])]
def f30 : sm_I := (⟨"TypedMillModel", "isProgram", "(I)Z"⟩, prog_11_method_17_code, 4, (some .boolean), 1, false, 9, c30)
def c31 : List sm_R := [
  (0, .aload_n 0, 1, false, (0), 0, 0, 0, 0, []),
  (1, .getfield 76, 3, false, (0), 9, 32, 0, 0, []),
  (4, .aload_n 0, 1, false, (0), 0, 0, 0, 0, []),
  (5, .getfield 245, 3, false, (0), 9, 30, 0, 0, []),
  (8, .iload_n 1, 1, false, (0), 1, 0, 0, 0, []),
  (9, .iastore, 1, false, (0), 0, 0, 0, 0, []),
  (10, .aload_n 0, 1, false, (0), 0, 0, 0, 0, []),
  (11, .getfield 79, 3, false, (0), 9, 33, 0, 0, []),
  (14, .aload_n 0, 1, false, (0), 0, 0, 0, 0, []),
  (15, .getfield 245, 3, false, (0), 9, 30, 0, 0, []),
  (18, .iload_n 2, 1, false, (0), 2, 0, 0, 0, []),
  (19, .iastore, 1, false, (0), 0, 0, 0, 0, []),
  (20, .aload_n 0, 1, false, (0), 0, 0, 0, 0, []),
  (21, .getfield 82, 3, false, (0), 9, 34, 0, 0, []),
  (24, .aload_n 0, 1, false, (0), 0, 0, 0, 0, []),
  (25, .getfield 245, 3, false, (0), 9, 30, 0, 0, []),
  (28, .iload_n 3, 1, false, (0), 3, 0, 0, 0, []),
  (29, .iastore, 1, false, (0), 0, 0, 0, 0, []),
  (30, .aload_n 0, 1, false, (0), 0, 0, 0, 0, []),
  (31, .dup, 1, false, (0), 0, 0, 0, 0, []),
  (32, .getfield 245, 3, false, (0), 9, 30, 0, 0, []),
  (35, .iconst (1), 1, false, (1), 0, 0, 0, 0, []),
  (36, .iadd, 1, false, (0), 0, 0, 0, 0, []),
  (37, .putfield 245, 3, false, (0), 9, 30, 0, 0, []),
  (40, .aload_n 0, 1, false, (0), 0, 0, 0, 0, []),
  (41, .getfield 245, 3, false, (0), 9, 30, 0, 0, []),
  (44, .iconst (1), 1, false, (1), 0, 0, 0, 0, []),
  (45, .isub, 1, false, (0), 0, 0, 0, 0, []),
  (46, .ireturn, 1, false, (0), 0, 0, 0, 0, [])]
def f31 : sm_I := (⟨"TypedMillModel", "newValue", "(III)I"⟩, prog_11_method_18_code, 4, (some .int), 3, false, 9, c31)
def c32 : List sm_R := [
  (0, .aload_n 0, 1, false, (0), 0, 0, 0, 0, []),
  (1, .getfield 85, 3, false, (0), 9, 35, 0, 0, []),
  (4, .aload_n 0, 1, false, (0), 0, 0, 0, 0, []),
  (5, .getfield 248, 3, false, (0), 9, 31, 0, 0, []),
  (8, .iload_n 1, 1, false, (0), 1, 0, 0, 0, []),
  (9, .iastore, 1, false, (0), 0, 0, 0, 0, []),
  (10, .aload_n 0, 1, false, (0), 0, 0, 0, 0, []),
  (11, .getfield 88, 3, false, (0), 9, 36, 0, 0, []),
  (14, .aload_n 0, 1, false, (0), 0, 0, 0, 0, []),
  (15, .getfield 248, 3, false, (0), 9, 31, 0, 0, []),
  (18, .iload_n 2, 1, false, (0), 2, 0, 0, 0, []),
  (19, .iastore, 1, false, (0), 0, 0, 0, 0, []),
  (20, .aload_n 0, 1, false, (0), 0, 0, 0, 0, []),
  (21, .dup, 1, false, (0), 0, 0, 0, 0, []),
  (22, .getfield 248, 3, false, (0), 9, 31, 0, 0, []),
  (25, .iconst (1), 1, false, (1), 0, 0, 0, 0, []),
  (26, .iadd, 1, false, (0), 0, 0, 0, 0, []),
  (27, .putfield 248, 3, false, (0), 9, 31, 0, 0, []),
  (30, .aload_n 0, 1, false, (0), 0, 0, 0, 0, []),
  (31, .getfield 248, 3, false, (0), 9, 31, 0, 0, []),
  (34, .iconst (1), 1, false, (1), 0, 0, 0, 0, []),
  (35, .isub, 1, false, (0), 0, 0, 0, 0, []),
  (36, .ireturn, 1, false, (0), 0, 0, 0, 0, [])]
def f32 : sm_I := (⟨"TypedMillModel", "bind", "(II)I"⟩, prog_11_method_19_code, 3, (some .int), 2, false, 9, c32)
def c33 : List sm_R := [
  (0, .aload_n 0, 1, false, (0), 0, 0, 0, 0, []),
  (1, .getfield 251, 3, false, (0), 9, 29, 0, 0, []),
  (4, .sipush (500), 3, false, (500), 0, 0, 0, 0, []),
  (7, .if_icmp .eq (12), 3, false, (0), 8, 0, 0, 0, []),
  (10, .aload_n 0, 1, false, (0), 0, 0, 0, 0, []),
  (11, .getfield 225, 3, false, (0), 9, 20, 0, 0, []),
  (14, .bipush (60), 2, false, (60), 0, 0, 0, 0, []),
  (16, .if_icmp .ne (5), 3, false, (0), 10, 0, 0, 0, []),
  (19, .iconst (0), 1, true, (0), 0, 0, 0, 0, []),
  (20, .ireturn, 1, false, (0), 0, 0, 0, 0, []),
  (21, .aload_n 0, 1, false, (0), 0, 0, 0, 0, []),
  (22, .dup, 1, false, (0), 0, 0, 0, 0, []),
  (23, .getfield 251, 3, false, (0), 9, 29, 0, 0, []),
  (26, .iconst (1), 1, false, (1), 0, 0, 0, 0, []),
  (27, .iadd, 1, false, (0), 0, 0, 0, 0, []),
  (28, .putfield 251, 3, false, (0), 9, 29, 0, 0, []),
  (31, .aload_n 0, 1, false, (0), 0, 0, 0, 0, []),
  (32, .iload_n 1, 1, false, (0), 1, 0, 0, 0, []),
  (33, .invokevirtual 234, 3, false, (0), 26, 9, 2, 0, []),
  (36, .aload_n 0, 1, false, (0), 0, 0, 0, 0, []),
  (37, .getfield 70, 3, false, (0), 9, 27, 0, 0, []),
  (40, .aload_n 0, 1, false, (0), 0, 0, 0, 0, []),
  (41, .getfield 225, 3, false, (0), 9, 20, 0, 0, []),
  (44, .iconst (1), 1, false, (1), 0, 0, 0, 0, []),
  (45, .isub, 1, false, (0), 0, 0, 0, 0, []),
  (46, .iload_n 2, 1, false, (0), 2, 0, 0, 0, []),
  (47, .iastore, 1, false, (0), 0, 0, 0, 0, []),
  (48, .iconst (1), 1, false, (1), 0, 0, 0, 0, []),
  (49, .ireturn, 1, false, (0), 0, 0, 0, 0, [])]
def f33 : sm_I := (⟨"TypedMillModel", "step", "(II)Z"⟩, prog_11_method_20_code, 3, (some .boolean), 2, false, 9, c33)
def c34 : List sm_R := [
  (0, .iload_n 0, 1, false, (0), 0, 0, 0, 0, []),
  (1, .iconst (2), 1, false, (2), 0, 0, 0, 0, []),
  (2, .if_icmp .ne (9), 3, false, (0), 7, 0, 0, 0, []),
  (5, .iload_n 1, 1, false, (0), 1, 0, 0, 0, []),
  (6, .iload_n 2, 1, false, (0), 2, 0, 0, 0, []),
  (7, .iadd, 1, false, (0), 0, 0, 0, 0, []),
  (8, .goto (17), 3, false, (0), 17, 0, 0, 0, []),
  (11, .iload_n 0, 1, false, (0), 0, 0, 0, 0, []),
  (12, .iconst (3), 1, false, (3), 0, 0, 0, 0, []),
  (13, .if_icmp .ne (9), 3, false, (0), 14, 0, 0, 0, []),
  (16, .iload_n 1, 1, false, (0), 1, 0, 0, 0, []),
  (17, .iload_n 2, 1, false, (0), 2, 0, 0, 0, []),
  (18, .isub, 1, false, (0), 0, 0, 0, 0, []),
  (19, .goto (6), 3, false, (0), 17, 0, 0, 0, []),
  (22, .iload_n 1, 1, false, (0), 1, 0, 0, 0, []),
  (23, .iload_n 2, 1, false, (0), 2, 0, 0, 0, []),
  (24, .imul, 1, false, (0), 0, 0, 0, 0, []),
  (25, .ireturn, 1, true, (0), 0, 0, 0, 0, [])]
def f34 : sm_I := (⟨"TypedMillModel", "result", "(III)I"⟩, prog_11_method_21_code, 3, (some .int), 3, true, 9, c34)
def c35 : List sm_R := [
  (0, .iload_n 2, 1, false, (0), 2, 0, 0, 0, []),
  (1, .istore_n 3, 1, false, (0), 3, 0, 0, 0, []),
  (2, .iconst (0), 1, false, (0), 0, 0, 0, 0, []),
  (3, .istore 4, 2, false, (0), 4, 0, 0, 0, []),
  (5, .iload 4, 2, true, (0), 4, 0, 0, 0, []),
  (7, .aload_n 0, 1, false, (0), 0, 0, 0, 0, []),
  (8, .getfield 43, 3, false, (0), 9, 15, 0, 0, []),
  (11, .iload_n 1, 1, false, (0), 1, 0, 0, 0, []),
  (12, .iaload, 1, false, (0), 0, 0, 0, 0, []),
  (13, .if_icmp .ge (16), 3, false, (0), 17, 0, 0, 0, []),
  (16, .aload_n 0, 1, false, (0), 0, 0, 0, 0, []),
  (17, .getfield 88, 3, false, (0), 9, 36, 0, 0, []),
  (20, .iload_n 3, 1, false, (0), 3, 0, 0, 0, []),
  (21, .iaload, 1, false, (0), 0, 0, 0, 0, []),
  (22, .istore_n 3, 1, false, (0), 3, 0, 0, 0, []),
  (23, .iinc 4 (1), 3, false, (1), 4, 0, 0, 0, []),
  (26, .goto (-21), 3, false, (0), 4, 0, 0, 0, []),
  (29, .aload_n 0, 1, false, (0), 0, 0, 0, 0, []),
  (30, .getfield 85, 3, false, (0), 9, 35, 0, 0, []),
  (33, .iload_n 3, 1, false, (0), 3, 0, 0, 0, []),
  (34, .iaload, 1, false, (0), 0, 0, 0, 0, []),
  (35, .ireturn, 1, false, (0), 0, 0, 0, 0, [])]
def f35 : sm_I := (⟨"TypedMillModel", "boundTo", "(II)I"⟩, prog_11_method_22_code, 5, (some .int), 2, false, 9, c35)
def c36 : List sm_R := [
  (0, .iload_n 1, 1, false, (0), 1, 0, 0, 0, []),
  (1, .bipush (6), 2, false, (6), 0, 0, 0, 0, []),
  (3, .if_icmp .eq (11), 3, false, (0), 7, 0, 0, 0, []),
  (6, .iload_n 3, 1, false, (0), 3, 0, 0, 0, []),
  (7, .iload_n 1, 1, false, (0), 1, 0, 0, 0, []),
  (8, .invokestatic 219, 3, false, (0), 23, 0, 1, 0, [(0, 0)]),
  (11, .if_icmp .lt (5), 3, false, (0), 9, 0, 0, 0, []),
  (14, .iconst (-1), 1, true, (-1), 0, 0, 0, 0, []),
  (15, .ireturn, 1, false, (0), 0, 0, 0, 0, []),
  (16, .iload_n 1, 1, false, (0), 1, 0, 0, 0, []),
  (17, .iconst (5), 1, false, (5), 0, 0, 0, 0, []),
  (18, .if_icmp .ne (44), 3, false, (0), 35, 0, 0, 0, []),
  (21, .iload_n 3, 1, false, (0), 3, 0, 0, 0, []),
  (22, .ifCond .le (40), 3, false, (0), 35, 0, 0, 0, []),
  (25, .iload_n 3, 1, false, (0), 3, 0, 0, 0, []),
  (26, .iconst (1), 1, false, (1), 0, 0, 0, 0, []),
  (27, .if_icmp .ne (33), 3, false, (0), 33, 0, 0, 0, []),
  (30, .aload_n 0, 1, false, (0), 0, 0, 0, 0, []),
  (31, .getfield 79, 3, false, (0), 9, 33, 0, 0, []),
  (34, .aload_n 0, 1, false, (0), 0, 0, 0, 0, []),
  (35, .getfield 228, 3, false, (0), 9, 22, 0, 0, []),
  (38, .iaload, 1, false, (0), 0, 0, 0, 0, []),
  (39, .ifCond .ne (12), 3, false, (0), 28, 0, 0, 0, []),
  (42, .aload_n 0, 1, false, (0), 0, 0, 0, 0, []),
  (43, .getfield 49, 3, false, (0), 9, 17, 0, 0, []),
  (46, .iload_n 2, 1, false, (0), 2, 0, 0, 0, []),
  (47, .iaload, 1, false, (0), 0, 0, 0, 0, []),
  (48, .goto (13), 3, false, (0), 34, 0, 0, 0, []),
  (51, .aload_n 0, 1, false, (0), 0, 0, 0, 0, []),
  (52, .getfield 52, 3, false, (0), 9, 18, 0, 0, []),
  (55, .iload_n 2, 1, false, (0), 2, 0, 0, 0, []),
  (56, .iaload, 1, false, (0), 0, 0, 0, 0, []),
  (57, .goto (4), 3, false, (0), 34, 0, 0, 0, []),
  (60, .iconst (-1), 1, false, (-1), 0, 0, 0, 0, []),
  (61, .ireturn, 1, true, (0), 0, 0, 0, 0, []),
  (62, .iload_n 3, 1, true, (0), 3, 0, 0, 0, []),
  (63, .ifCond .ne (12), 3, false, (0), 42, 0, 0, 0, []),
  (66, .aload_n 0, 1, false, (0), 0, 0, 0, 0, []),
  (67, .getfield 46, 3, false, (0), 9, 16, 0, 0, []),
  (70, .iload_n 2, 1, false, (0), 2, 0, 0, 0, []),
  (71, .iaload, 1, false, (0), 0, 0, 0, 0, []),
  (72, .goto (9), 3, false, (0), 46, 0, 0, 0, []),
  (75, .aload_n 0, 1, false, (0), 0, 0, 0, 0, []),
  (76, .getfield 49, 3, false, (0), 9, 17, 0, 0, []),
  (79, .iload_n 2, 1, false, (0), 2, 0, 0, 0, []),
  (80, .iaload, 1, false, (0), 0, 0, 0, 0, []),
  (81, .ireturn, 1, true, (0), 0, 0, 0, 0, [])]
def f36 : sm_I := (⟨"TypedMillModel", "partNext", "(III)I"⟩, prog_11_method_23_code, 4, (some .int), 3, false, 9, c36)
def c37 : List sm_R := [
  (0, .aload_n 0, 1, false, (0), 0, 0, 0, 0, []),
  (1, .getfield 225, 3, false, (0), 9, 20, 0, 0, []),
  (4, .iconst (1), 1, false, (1), 0, 0, 0, 0, []),
  (5, .isub, 1, false, (0), 0, 0, 0, 0, []),
  (6, .istore_n 1, 1, false, (0), 1, 0, 0, 0, []),
  (7, .aload_n 0, 1, false, (0), 0, 0, 0, 0, []),
  (8, .getfield 58, 3, false, (0), 9, 23, 0, 0, []),
  (11, .iload_n 1, 1, false, (0), 1, 0, 0, 0, []),
  (12, .iaload, 1, false, (0), 0, 0, 0, 0, []),
  (13, .istore_n 2, 1, false, (0), 2, 0, 0, 0, []),
  (14, .aload_n 0, 1, false, (0), 0, 0, 0, 0, []),
  (15, .getfield 61, 3, false, (0), 9, 24, 0, 0, []),
  (18, .iload_n 1, 1, false, (0), 1, 0, 0, 0, []),
  (19, .iaload, 1, false, (0), 0, 0, 0, 0, []),
  (20, .istore_n 3, 1, false, (0), 3, 0, 0, 0, []),
  (21, .aload_n 0, 1, false, (0), 0, 0, 0, 0, []),
  (22, .getfield 40, 3, false, (0), 9, 14, 0, 0, []),
  (25, .iload_n 2, 1, false, (0), 2, 0, 0, 0, []),
  (26, .iaload, 1, false, (0), 0, 0, 0, 0, []),
  (27, .istore 4, 2, false, (0), 4, 0, 0, 0, []),
  (29, .aload_n 0, 1, false, (0), 0, 0, 0, 0, []),
  (30, .getfield 70, 3, false, (0), 9, 27, 0, 0, []),
  (33, .iload_n 1, 1, false, (0), 1, 0, 0, 0, []),
  (34, .iaload, 1, false, (0), 0, 0, 0, 0, []),
  (35, .istore 5, 2, false, (0), 5, 0, 0, 0, []),
  (37, .aload_n 0, 1, false, (0), 0, 0, 0, 0, []),
  (38, .getfield 61, 3, false, (0), 9, 24, 0, 0, []),
  (41, .iload_n 1, 1, false, (0), 1, 0, 0, 0, []),
  (42, .dup2, 1, false, (0), 0, 0, 0, 0, []),
  (43, .iaload, 1, false, (0), 0, 0, 0, 0, []),
  (44, .iconst (1), 1, false, (1), 0, 0, 0, 0, []),
  (45, .iadd, 1, false, (0), 0, 0, 0, 0, []),
  (46, .iastore, 1, false, (0), 0, 0, 0, 0, []),
  (47, .aload_n 0, 1, false, (0), 0, 0, 0, 0, []),
  (48, .iload 4, 2, false, (0), 4, 0, 0, 0, []),
  (50, .iload_n 2, 1, false, (0), 2, 0, 0, 0, []),
  (51, .iload_n 3, 1, false, (0), 3, 0, 0, 0, []),
  (52, .invokevirtual 254, 3, false, (0), 36, 9, 4, 0, [(0, 0)]),
  (55, .istore 6, 2, false, (0), 6, 0, 0, 0, []),
  (57, .iload_n 3, 1, false, (0), 3, 0, 0, 0, []),
  (58, .iconst (1), 1, false, (1), 0, 0, 0, 0, []),
  (59, .if_icmp .ne (13), 3, false, (0), 48, 0, 0, 0, []),
  (62, .aload_n 0, 1, false, (0), 0, 0, 0, 0, []),
  (63, .getfield 64, 3, false, (0), 9, 25, 0, 0, []),
  (66, .iload_n 1, 1, false, (0), 1, 0, 0, 0, []),
  (67, .aload_n 0, 1, false, (0), 0, 0, 0, 0, []),
  (68, .getfield 228, 3, false, (0), 9, 22, 0, 0, []),
  (71, .iastore, 1, false, (0), 0, 0, 0, 0, []),
  (72, .iload 6, 2, true, (0), 6, 0, 0, 0, []),
  (74, .ifCond .lt (12), 3, false, (0), 55, 0, 0, 0, []),
  (77, .aload_n 0, 1, false, (0), 0, 0, 0, 0, []),
  (78, .iload 6, 2, false, (0), 6, 0, 0, 0, []),
  (80, .iload 5, 2, false, (0), 5, 0, 0, 0, []),
  (82, .invokevirtual 258, 3, false, (0), 33, 9, 3, 0, [(0, 0)]),
  (85, .ireturn, 1, false, (0), 0, 0, 0, 0, []),
  (86, .iload 4, 2, false, (0), 4, 0, 0, 0, []),
  (88, .bipush (7), 2, false, (7), 0, 0, 0, 0, []),
  (90, .if_icmp .ne (62), 3, false, (0), 93, 0, 0, 0, []),
  (93, .iload_n 3, 1, false, (0), 3, 0, 0, 0, []),
  (94, .iconst (2), 1, false, (2), 0, 0, 0, 0, []),
  (95, .if_icmp .ne (57), 3, false, (0), 93, 0, 0, 0, []),
  (98, .aload_n 0, 1, false, (0), 0, 0, 0, 0, []),
  (99, .aload_n 0, 1, false, (0), 0, 0, 0, 0, []),
  (100, .getfield 228, 3, false, (0), 9, 22, 0, 0, []),
  (103, .aload_n 0, 1, false, (0), 0, 0, 0, 0, []),
  (104, .aload_n 0, 1, false, (0), 0, 0, 0, 0, []),
  (105, .getfield 64, 3, false, (0), 9, 25, 0, 0, []),
  (108, .iload_n 1, 1, false, (0), 1, 0, 0, 0, []),
  (109, .iaload, 1, false, (0), 0, 0, 0, 0, []),
  (110, .aload_n 0, 1, false, (0), 0, 0, 0, 0, []),
  (111, .getfield 82, 3, false, (0), 9, 34, 0, 0, []),
  (114, .aload_n 0, 1, false, (0), 0, 0, 0, 0, []),
  (115, .getfield 64, 3, false, (0), 9, 25, 0, 0, []),
  (118, .iload_n 1, 1, false, (0), 1, 0, 0, 0, []),
  (119, .iaload, 1, false, (0), 0, 0, 0, 0, []),
  (120, .iaload, 1, false, (0), 0, 0, 0, 0, []),
  (121, .invokevirtual 262, 3, false, (0), 32, 9, 3, 0, [(0, 0)]),
  (124, .invokevirtual 262, 3, false, (0), 32, 9, 3, 0, [(0, 0)]),
  (127, .istore 7, 2, false, (0), 7, 0, 0, 0, []),
  (129, .aload_n 0, 1, false, (0), 0, 0, 0, 0, []),
  (130, .aload_n 0, 1, false, (0), 0, 0, 0, 0, []),
  (131, .getfield 46, 3, false, (0), 9, 16, 0, 0, []),
  (134, .aload_n 0, 1, false, (0), 0, 0, 0, 0, []),
  (135, .getfield 79, 3, false, (0), 9, 33, 0, 0, []),
  (138, .aload_n 0, 1, false, (0), 0, 0, 0, 0, []),
  (139, .getfield 64, 3, false, (0), 9, 25, 0, 0, []),
  (142, .iload_n 1, 1, false, (0), 1, 0, 0, 0, []),
  (143, .iaload, 1, false, (0), 0, 0, 0, 0, []),
  (144, .iaload, 1, false, (0), 0, 0, 0, 0, []),
  (145, .iaload, 1, false, (0), 0, 0, 0, 0, []),
  (146, .iload 7, 2, false, (0), 7, 0, 0, 0, []),
  (148, .invokevirtual 258, 3, false, (0), 33, 9, 3, 0, [(0, 0)]),
  (151, .ireturn, 1, false, (0), 0, 0, 0, 0, []),
  (152, .aload_n 0, 1, true, (0), 0, 0, 0, 0, []),
  (153, .dup, 1, false, (0), 0, 0, 0, 0, []),
  (154, .getfield 225, 3, false, (0), 9, 20, 0, 0, []),
  (157, .iconst (1), 1, false, (1), 0, 0, 0, 0, []),
  (158, .isub, 1, false, (0), 0, 0, 0, 0, []),
  (159, .putfield 225, 3, false, (0), 9, 20, 0, 0, []),
  (162, .iload 4, 2, false, (0), 4, 0, 0, 0, []),
  (164, .tableswitch (200) (0) (10) #[(60), (79), (93), (93), (93), (200), (131), (200), (146), (168), (184)], 60, false, (0), 176, 0, 0, 0, [((0), 101), ((1), 112), ((2), 119), ((3), 119), ((4), 119), ((5), 176), ((6), 140), ((7), 176), ((8), 148), ((9), 160), ((10), 168)]),
  (224, .aload_n 0, 1, false, (0), 0, 0, 0, 0, []),
  (225, .aload_n 0, 1, false, (0), 0, 0, 0, 0, []),
  (226, .iconst (0), 1, false, (0), 0, 0, 0, 0, []),
  (227, .aload_n 0, 1, false, (0), 0, 0, 0, 0, []),
  (228, .getfield 43, 3, false, (0), 9, 15, 0, 0, []),
  (231, .iload_n 2, 1, false, (0), 2, 0, 0, 0, []),
  (232, .iaload, 1, false, (0), 0, 0, 0, 0, []),
  (233, .iconst (0), 1, false, (0), 0, 0, 0, 0, []),
  (234, .invokevirtual 266, 3, false, (0), 31, 9, 4, 0, [(0, 0)]),
  (237, .putfield 228, 3, false, (0), 9, 22, 0, 0, []),
  (240, .goto (124), 3, false, (0), 176, 0, 0, 0, []),
  (243, .aload_n 0, 1, false, (0), 0, 0, 0, 0, []),
  (244, .aload_n 0, 1, false, (0), 0, 0, 0, 0, []),
  (245, .iload_n 2, 1, false, (0), 2, 0, 0, 0, []),
  (246, .iload 5, 2, false, (0), 5, 0, 0, 0, []),
  (248, .invokevirtual 269, 3, false, (0), 35, 9, 3, 0, [(0, 0)]),
  (251, .putfield 228, 3, false, (0), 9, 22, 0, 0, []),
  (254, .goto (110), 3, false, (0), 176, 0, 0, 0, []),
  (257, .aload_n 0, 1, true, (0), 0, 0, 0, 0, []),
  (258, .aload_n 0, 1, false, (0), 0, 0, 0, 0, []),
  (259, .iconst (0), 1, false, (0), 0, 0, 0, 0, []),
  (260, .iload 4, 2, false, (0), 4, 0, 0, 0, []),
  (262, .aload_n 0, 1, false, (0), 0, 0, 0, 0, []),
  (263, .getfield 79, 3, false, (0), 9, 33, 0, 0, []),
  (266, .aload_n 0, 1, false, (0), 0, 0, 0, 0, []),
  (267, .getfield 64, 3, false, (0), 9, 25, 0, 0, []),
  (270, .iload_n 1, 1, false, (0), 1, 0, 0, 0, []),
  (271, .iaload, 1, false, (0), 0, 0, 0, 0, []),
  (272, .iaload, 1, false, (0), 0, 0, 0, 0, []),
  (273, .aload_n 0, 1, false, (0), 0, 0, 0, 0, []),
  (274, .getfield 79, 3, false, (0), 9, 33, 0, 0, []),
  (277, .aload_n 0, 1, false, (0), 0, 0, 0, 0, []),
  (278, .getfield 228, 3, false, (0), 9, 22, 0, 0, []),
  (281, .iaload, 1, false, (0), 0, 0, 0, 0, []),
  (282, .invokestatic 272, 3, false, (0), 34, 0, 3, 0, [(0, 0)]),
  (285, .iconst (0), 1, false, (0), 0, 0, 0, 0, []),
  (286, .invokevirtual 266, 3, false, (0), 31, 9, 4, 0, [(0, 0)]),
  (289, .putfield 228, 3, false, (0), 9, 22, 0, 0, []),
  (292, .goto (72), 3, false, (0), 176, 0, 0, 0, []),
  (295, .aload_n 0, 1, false, (0), 0, 0, 0, 0, []),
  (296, .aload_n 0, 1, false, (0), 0, 0, 0, 0, []),
  (297, .iconst (2), 1, false, (2), 0, 0, 0, 0, []),
  (298, .iload_n 2, 1, false, (0), 2, 0, 0, 0, []),
  (299, .iload 5, 2, false, (0), 5, 0, 0, 0, []),
  (301, .invokevirtual 266, 3, false, (0), 31, 9, 4, 0, [(0, 0)]),
  (304, .putfield 228, 3, false, (0), 9, 22, 0, 0, []),
  (307, .goto (57), 3, false, (0), 176, 0, 0, 0, []),
  (310, .aload_n 0, 1, false, (0), 0, 0, 0, 0, []),
  (311, .aload_n 0, 1, false, (0), 0, 0, 0, 0, []),
  (312, .iconst (1), 1, false, (1), 0, 0, 0, 0, []),
  (313, .aload_n 0, 1, false, (0), 0, 0, 0, 0, []),
  (314, .getfield 64, 3, false, (0), 9, 25, 0, 0, []),
  (317, .iload_n 1, 1, false, (0), 1, 0, 0, 0, []),
  (318, .iaload, 1, false, (0), 0, 0, 0, 0, []),
  (319, .aload_n 0, 1, false, (0), 0, 0, 0, 0, []),
  (320, .getfield 228, 3, false, (0), 9, 22, 0, 0, []),
  (323, .invokevirtual 266, 3, false, (0), 31, 9, 4, 0, [(0, 0)]),
  (326, .putfield 228, 3, false, (0), 9, 22, 0, 0, []),
  (329, .goto (35), 3, false, (0), 176, 0, 0, 0, []),
  (332, .aload_n 0, 1, false, (0), 0, 0, 0, 0, []),
  (333, .aload_n 0, 1, false, (0), 0, 0, 0, 0, []),
  (334, .getfield 79, 3, false, (0), 9, 33, 0, 0, []),
  (337, .aload_n 0, 1, false, (0), 0, 0, 0, 0, []),
  (338, .getfield 228, 3, false, (0), 9, 22, 0, 0, []),
  (341, .iaload, 1, false, (0), 0, 0, 0, 0, []),
  (342, .putfield 228, 3, false, (0), 9, 22, 0, 0, []),
  (345, .goto (19), 3, false, (0), 176, 0, 0, 0, []),
  (348, .aload_n 0, 1, false, (0), 0, 0, 0, 0, []),
  (349, .aload_n 0, 1, false, (0), 0, 0, 0, 0, []),
  (350, .getfield 82, 3, false, (0), 9, 34, 0, 0, []),
  (353, .aload_n 0, 1, false, (0), 0, 0, 0, 0, []),
  (354, .getfield 228, 3, false, (0), 9, 22, 0, 0, []),
  (357, .iaload, 1, false, (0), 0, 0, 0, 0, []),
  (358, .putfield 228, 3, false, (0), 9, 22, 0, 0, []),
  (361, .goto (3), 3, false, (0), 176, 0, 0, 0, []),
  (364, .iconst (1), 1, true, (1), 0, 0, 0, 0, []),
  (365, .ireturn, 1, false, (0), 0, 0, 0, 0, [])]
def f37 : sm_I := (⟨"TypedMillModel", "evaluateNext", "()Z"⟩, prog_11_method_24_code, 8, (some .boolean), 0, false, 9, c37)
def c38 : List sm_R := [
  (0, .aload_n 0, 1, false, (0), 0, 0, 0, 0, []),
  (1, .iconst (0), 1, false, (0), 0, 0, 0, 0, []),
  (2, .putfield 199, 3, false, (0), 9, 0, 0, 0, []),
  (5, .aload_n 0, 1, false, (0), 0, 0, 0, 0, []),
  (6, .iload_n 1, 1, false, (0), 1, 0, 0, 0, []),
  (7, .invokevirtual 222, 3, false, (0), 24, 9, 2, 0, [(0, 0)]),
  (10, .ifCond .ne (9), 3, false, (0), 11, 0, 0, 0, []),
  (13, .aload_n 0, 1, false, (0), 0, 0, 0, 0, []),
  (14, .iconst (1), 1, false, (1), 0, 0, 0, 0, []),
  (15, .invokevirtual 275, 3, false, (0), 16, 9, 2, 0, [(0, 0)]),
  (18, .ireturn, 1, false, (0), 0, 0, 0, 0, []),
  (19, .aload_n 0, 1, false, (0), 0, 0, 0, 0, []),
  (20, .iload_n 1, 1, false, (0), 1, 0, 0, 0, []),
  (21, .invokevirtual 278, 3, false, (0), 30, 9, 2, 0, [(0, 0)]),
  (24, .ifCond .ne (9), 3, false, (0), 19, 0, 0, 0, []),
  (27, .aload_n 0, 1, false, (0), 0, 0, 0, 0, []),
  (28, .iconst (2), 1, false, (2), 0, 0, 0, 0, []),
  (29, .invokevirtual 275, 3, false, (0), 16, 9, 2, 0, [(0, 0)]),
  (32, .ireturn, 1, false, (0), 0, 0, 0, 0, []),
  (33, .aload_n 0, 1, false, (0), 0, 0, 0, 0, []),
  (34, .iconst (0), 1, false, (0), 0, 0, 0, 0, []),
  (35, .putfield 225, 3, false, (0), 9, 20, 0, 0, []),
  (38, .aload_n 0, 1, false, (0), 0, 0, 0, 0, []),
  (39, .iconst (0), 1, false, (0), 0, 0, 0, 0, []),
  (40, .putfield 251, 3, false, (0), 9, 29, 0, 0, []),
  (43, .aload_n 0, 1, false, (0), 0, 0, 0, 0, []),
  (44, .iconst (0), 1, false, (0), 0, 0, 0, 0, []),
  (45, .putfield 245, 3, false, (0), 9, 30, 0, 0, []),
  (48, .aload_n 0, 1, false, (0), 0, 0, 0, 0, []),
  (49, .iconst (0), 1, false, (0), 0, 0, 0, 0, []),
  (50, .putfield 248, 3, false, (0), 9, 31, 0, 0, []),
  (53, .aload_n 0, 1, false, (0), 0, 0, 0, 0, []),
  (54, .iload_n 1, 1, false, (0), 1, 0, 0, 0, []),
  (55, .iconst (-1), 1, false, (-1), 0, 0, 0, 0, []),
  (56, .invokevirtual 258, 3, false, (0), 33, 9, 3, 0, [(0, 0)]),
  (59, .istore_n 2, 1, false, (0), 2, 0, 0, 0, []),
  (60, .iload_n 2, 1, true, (0), 2, 0, 0, 0, []),
  (61, .ifCond .eq (18), 3, false, (0), 45, 0, 0, 0, []),
  (64, .aload_n 0, 1, false, (0), 0, 0, 0, 0, []),
  (65, .getfield 225, 3, false, (0), 9, 20, 0, 0, []),
  (68, .ifCond .le (11), 3, false, (0), 45, 0, 0, 0, []),
  (71, .aload_n 0, 1, false, (0), 0, 0, 0, 0, []),
  (72, .invokevirtual 281, 3, false, (0), 37, 9, 1, 0, [(0, 0)]),
  (75, .istore_n 2, 1, false, (0), 2, 0, 0, 0, []),
  (76, .goto (-16), 3, false, (0), 36, 0, 0, 0, []),
  (79, .iload_n 2, 1, true, (0), 2, 0, 0, 0, []),
  (80, .ifCond .eq (15), 3, false, (0), 53, 0, 0, 0, []),
  (83, .aload_n 0, 1, false, (0), 0, 0, 0, 0, []),
  (84, .getfield 79, 3, false, (0), 9, 33, 0, 0, []),
  (87, .aload_n 0, 1, false, (0), 0, 0, 0, 0, []),
  (88, .getfield 228, 3, false, (0), 9, 22, 0, 0, []),
  (91, .iaload, 1, false, (0), 0, 0, 0, 0, []),
  (92, .goto (8), 3, false, (0), 56, 0, 0, 0, []),
  (95, .aload_n 0, 1, false, (0), 0, 0, 0, 0, []),
  (96, .iconst (3), 1, false, (3), 0, 0, 0, 0, []),
  (97, .invokevirtual 275, 3, false, (0), 16, 9, 2, 0, [(0, 0)]),
  (100, .ireturn, 1, true, (0), 0, 0, 0, 0, [])]
def f38 : sm_I := (⟨"TypedMillModel", "evaluate", "(I)I"⟩, prog_11_method_25_code, 3, (some .int), 1, false, 9, c38)
def c39 : List sm_R := [
  (0, .aload_n 0, 1, false, (0), 0, 0, 0, 0, []),
  (1, .iconst (0), 1, false, (0), 0, 0, 0, 0, []),
  (2, .putfield 199, 3, false, (0), 9, 0, 0, 0, []),
  (5, .aload_n 0, 1, false, (0), 0, 0, 0, 0, []),
  (6, .getfield 251, 3, false, (0), 9, 29, 0, 0, []),
  (9, .ireturn, 1, false, (0), 0, 0, 0, 0, [])]
def f39 : sm_I := (⟨"TypedMillModel", "steps", "()I"⟩, prog_11_method_26_code, 1, (some .int), 0, false, 9, c39)
def c40 : List sm_R := [
  (0, .aload_n 0, 1, false, (0), 0, 0, 0, 0, []),
  (1, .aload_n 0, 1, false, (0), 0, 0, 0, 0, []),
  (2, .getfield 284, 3, false, (0), 9, 47, 0, 0, []),
  (5, .ifCond .ne (13), 3, false, (0), 8, 0, 0, 0, []),
  (8, .aload_n 0, 1, false, (0), 0, 0, 0, 0, []),
  (9, .getfield 288, 3, false, (0), 9, 39, 0, 0, []),
  (12, .sipush (300), 3, false, (300), 0, 0, 0, 0, []),
  (15, .if_icmp .ne (7), 3, false, (0), 10, 0, 0, 0, []),
  (18, .iconst (1), 1, true, (1), 0, 0, 0, 0, []),
  (19, .goto (4), 3, false, (0), 11, 0, 0, 0, []),
  (22, .iconst (0), 1, false, (0), 0, 0, 0, 0, []),
  (23, .putfield 284, 3, true, (0), 9, 47, 0, 0, []),
  (26, .aload_n 0, 1, false, (0), 0, 0, 0, 0, []),
  (27, .getfield 284, 3, false, (0), 9, 47, 0, 0, []),
  (30, .ifCond .eq (4), 3, false, (0), 16, 0, 0, 0, []),
  (33, .return_, 1, false, (0), 0, 0, 0, 0, []),
  (34, .aload_n 0, 1, false, (0), 0, 0, 0, 0, []),
  (35, .getfield 91, 3, false, (0), 9, 40, 0, 0, []),
  (38, .aload_n 0, 1, false, (0), 0, 0, 0, 0, []),
  (39, .getfield 288, 3, false, (0), 9, 39, 0, 0, []),
  (42, .iload_n 1, 1, false, (0), 1, 0, 0, 0, []),
  (43, .iastore, 1, false, (0), 0, 0, 0, 0, []),
  (44, .aload_n 0, 1, false, (0), 0, 0, 0, 0, []),
  (45, .getfield 94, 3, false, (0), 9, 41, 0, 0, []),
  (48, .aload_n 0, 1, false, (0), 0, 0, 0, 0, []),
  (49, .getfield 288, 3, false, (0), 9, 39, 0, 0, []),
  (52, .iload_n 2, 1, false, (0), 2, 0, 0, 0, []),
  (53, .iastore, 1, false, (0), 0, 0, 0, 0, []),
  (54, .aload_n 0, 1, false, (0), 0, 0, 0, 0, []),
  (55, .getfield 97, 3, false, (0), 9, 42, 0, 0, []),
  (58, .aload_n 0, 1, false, (0), 0, 0, 0, 0, []),
  (59, .getfield 288, 3, false, (0), 9, 39, 0, 0, []),
  (62, .iload_n 3, 1, false, (0), 3, 0, 0, 0, []),
  (63, .iastore, 1, false, (0), 0, 0, 0, 0, []),
  (64, .aload_n 0, 1, false, (0), 0, 0, 0, 0, []),
  (65, .getfield 100, 3, false, (0), 9, 43, 0, 0, []),
  (68, .aload_n 0, 1, false, (0), 0, 0, 0, 0, []),
  (69, .getfield 288, 3, false, (0), 9, 39, 0, 0, []),
  (72, .iload 4, 2, false, (0), 4, 0, 0, 0, []),
  (74, .iastore, 1, false, (0), 0, 0, 0, 0, []),
  (75, .aload_n 0, 1, false, (0), 0, 0, 0, 0, []),
  (76, .getfield 106, 3, false, (0), 9, 45, 0, 0, []),
  (79, .aload_n 0, 1, false, (0), 0, 0, 0, 0, []),
  (80, .getfield 291, 3, false, (0), 9, 54, 0, 0, []),
  (83, .dup2, 1, false, (0), 0, 0, 0, 0, []),
  (84, .iaload, 1, false, (0), 0, 0, 0, 0, []),
  (85, .iconst (1), 1, false, (1), 0, 0, 0, 0, []),
  (86, .iadd, 1, false, (0), 0, 0, 0, 0, []),
  (87, .iastore, 1, false, (0), 0, 0, 0, 0, []),
  (88, .aload_n 0, 1, false, (0), 0, 0, 0, 0, []),
  (89, .dup, 1, false, (0), 0, 0, 0, 0, []),
  (90, .getfield 288, 3, false, (0), 9, 39, 0, 0, []),
  (93, .iconst (1), 1, false, (1), 0, 0, 0, 0, []),
  (94, .iadd, 1, false, (0), 0, 0, 0, 0, []),
  (95, .putfield 288, 3, false, (0), 9, 39, 0, 0, []),
  (98, .return_, 1, false, (0), 0, 0, 0, 0, [])]
def f40 : sm_I := (⟨"TypedMillModel", "emit", "(IIII)V"⟩, prog_11_method_27_code, 5, none, 4, false, 9, c40)
def c41 : List sm_R := [
  (0, .aload_n 0, 1, false, (0), 0, 0, 0, 0, []),
  (1, .aload_n 0, 1, false, (0), 0, 0, 0, 0, []),
  (2, .getfield 284, 3, false, (0), 9, 47, 0, 0, []),
  (5, .ifCond .ne (12), 3, false, (0), 8, 0, 0, 0, []),
  (8, .aload_n 0, 1, false, (0), 0, 0, 0, 0, []),
  (9, .getfield 294, 3, false, (0), 9, 52, 0, 0, []),
  (12, .bipush (40), 2, false, (40), 0, 0, 0, 0, []),
  (14, .if_icmp .ne (7), 3, false, (0), 10, 0, 0, 0, []),
  (17, .iconst (1), 1, true, (1), 0, 0, 0, 0, []),
  (18, .goto (4), 3, false, (0), 11, 0, 0, 0, []),
  (21, .iconst (0), 1, false, (0), 0, 0, 0, 0, []),
  (22, .putfield 284, 3, true, (0), 9, 47, 0, 0, []),
  (25, .aload_n 0, 1, false, (0), 0, 0, 0, 0, []),
  (26, .dup, 1, false, (0), 0, 0, 0, 0, []),
  (27, .getfield 294, 3, false, (0), 9, 52, 0, 0, []),
  (30, .aload_n 0, 1, false, (0), 0, 0, 0, 0, []),
  (31, .getfield 284, 3, false, (0), 9, 47, 0, 0, []),
  (34, .ifCond .eq (7), 3, false, (0), 20, 0, 0, 0, []),
  (37, .iconst (0), 1, false, (0), 0, 0, 0, 0, []),
  (38, .goto (4), 3, false, (0), 21, 0, 0, 0, []),
  (41, .iconst (1), 1, false, (1), 0, 0, 0, 0, []),
  (42, .iadd, 1, true, (0), 0, 0, 0, 0, []),
  (43, .putfield 294, 3, false, (0), 9, 52, 0, 0, []),
  (46, .aload_n 0, 1, false, (0), 0, 0, 0, 0, []),
  (47, .getfield 294, 3, false, (0), 9, 52, 0, 0, []),
  (50, .iconst (1), 1, false, (1), 0, 0, 0, 0, []),
  (51, .isub, 1, false, (0), 0, 0, 0, 0, []),
  (52, .ireturn, 1, false, (0), 0, 0, 0, 0, [])]
def f41 : sm_I := (⟨"TypedMillModel", "name", "()I"⟩, prog_11_method_28_code, 1, (some .int), 0, false, 9, c41)
def c42 : List sm_R := [
  (0, .aload_n 0, 1, false, (0), 0, 0, 0, 0, []),
  (1, .iload_n 1, 1, false, (0), 1, 0, 0, 0, []),
  (2, .putfield 291, 3, false, (0), 9, 54, 0, 0, []),
  (5, .aload_n 0, 1, false, (0), 0, 0, 0, 0, []),
  (6, .getfield 103, 3, false, (0), 9, 44, 0, 0, []),
  (9, .iload_n 1, 1, false, (0), 1, 0, 0, 0, []),
  (10, .aload_n 0, 1, false, (0), 0, 0, 0, 0, []),
  (11, .getfield 288, 3, false, (0), 9, 39, 0, 0, []),
  (14, .iastore, 1, false, (0), 0, 0, 0, 0, []),
  (15, .aload_n 0, 1, false, (0), 0, 0, 0, 0, []),
  (16, .getfield 106, 3, false, (0), 9, 45, 0, 0, []),
  (19, .iload_n 1, 1, false, (0), 1, 0, 0, 0, []),
  (20, .iconst (0), 1, false, (0), 0, 0, 0, 0, []),
  (21, .iastore, 1, false, (0), 0, 0, 0, 0, []),
  (22, .aload_n 0, 1, false, (0), 0, 0, 0, 0, []),
  (23, .getfield 109, 3, false, (0), 9, 46, 0, 0, []),
  (26, .iconst (3), 1, false, (3), 0, 0, 0, 0, []),
  (27, .iload_n 1, 1, false, (0), 1, 0, 0, 0, []),
  (28, .imul, 1, false, (0), 0, 0, 0, 0, []),
  (29, .iload_n 2, 1, false, (0), 2, 0, 0, 0, []),
  (30, .iastore, 1, false, (0), 0, 0, 0, 0, []),
  (31, .aload_n 0, 1, false, (0), 0, 0, 0, 0, []),
  (32, .getfield 109, 3, false, (0), 9, 46, 0, 0, []),
  (35, .iconst (3), 1, false, (3), 0, 0, 0, 0, []),
  (36, .iload_n 1, 1, false, (0), 1, 0, 0, 0, []),
  (37, .imul, 1, false, (0), 0, 0, 0, 0, []),
  (38, .iconst (1), 1, false, (1), 0, 0, 0, 0, []),
  (39, .iadd, 1, false, (0), 0, 0, 0, 0, []),
  (40, .iload_n 3, 1, false, (0), 3, 0, 0, 0, []),
  (41, .iastore, 1, false, (0), 0, 0, 0, 0, []),
  (42, .aload_n 0, 1, false, (0), 0, 0, 0, 0, []),
  (43, .getfield 109, 3, false, (0), 9, 46, 0, 0, []),
  (46, .iconst (3), 1, false, (3), 0, 0, 0, 0, []),
  (47, .iload_n 1, 1, false, (0), 1, 0, 0, 0, []),
  (48, .imul, 1, false, (0), 0, 0, 0, 0, []),
  (49, .iconst (2), 1, false, (2), 0, 0, 0, 0, []),
  (50, .iadd, 1, false, (0), 0, 0, 0, 0, []),
  (51, .iload 4, 2, false, (0), 4, 0, 0, 0, []),
  (53, .iastore, 1, false, (0), 0, 0, 0, 0, []),
  (54, .return_, 1, false, (0), 0, 0, 0, 0, [])]
def f42 : sm_I := (⟨"TypedMillModel", "beginBlock", "(IIII)V"⟩, prog_11_method_29_code, 5, none, 4, false, 9, c42)
def c43 : List sm_R := [
  (0, .aload_n 0, 1, false, (0), 0, 0, 0, 0, []),
  (1, .getfield 124, 3, false, (0), 9, 59, 0, 0, []),
  (4, .aload_n 0, 1, false, (0), 0, 0, 0, 0, []),
  (5, .getfield 297, 3, false, (0), 9, 50, 0, 0, []),
  (8, .aload_n 0, 1, false, (0), 0, 0, 0, 0, []),
  (9, .getfield 300, 3, false, (0), 9, 51, 0, 0, []),
  (12, .iastore, 1, false, (0), 0, 0, 0, 0, []),
  (13, .aload_n 0, 1, false, (0), 0, 0, 0, 0, []),
  (14, .getfield 127, 3, false, (0), 9, 60, 0, 0, []),
  (17, .aload_n 0, 1, false, (0), 0, 0, 0, 0, []),
  (18, .getfield 297, 3, false, (0), 9, 50, 0, 0, []),
  (21, .iload_n 1, 1, false, (0), 1, 0, 0, 0, []),
  (22, .iastore, 1, false, (0), 0, 0, 0, 0, []),
  (23, .aload_n 0, 1, false, (0), 0, 0, 0, 0, []),
  (24, .getfield 133, 3, false, (0), 9, 62, 0, 0, []),
  (27, .aload_n 0, 1, false, (0), 0, 0, 0, 0, []),
  (28, .getfield 297, 3, false, (0), 9, 50, 0, 0, []),
  (31, .iload_n 2, 1, false, (0), 2, 0, 0, 0, []),
  (32, .bastore, 1, false, (0), 0, 0, 0, 0, []),
  (33, .aload_n 0, 1, false, (0), 0, 0, 0, 0, []),
  (34, .getfield 130, 3, false, (0), 9, 61, 0, 0, []),
  (37, .aload_n 0, 1, false, (0), 0, 0, 0, 0, []),
  (38, .getfield 297, 3, false, (0), 9, 50, 0, 0, []),
  (41, .aload_n 0, 1, false, (0), 0, 0, 0, 0, []),
  (42, .iconst (1), 1, false, (1), 0, 0, 0, 0, []),
  (43, .aload_n 0, 1, false, (0), 0, 0, 0, 0, []),
  (44, .getfield 130, 3, false, (0), 9, 61, 0, 0, []),
  (47, .aload_n 0, 1, false, (0), 0, 0, 0, 0, []),
  (48, .getfield 300, 3, false, (0), 9, 51, 0, 0, []),
  (51, .iaload, 1, false, (0), 0, 0, 0, 0, []),
  (52, .iload_n 1, 1, false, (0), 1, 0, 0, 0, []),
  (53, .iconst (-1), 1, false, (-1), 0, 0, 0, 0, []),
  (54, .invokevirtual 188, 3, false, (0), 18, 9, 5, 0, [(0, 0)]),
  (57, .iastore, 1, false, (0), 0, 0, 0, 0, []),
  (58, .aload_n 0, 1, false, (0), 0, 0, 0, 0, []),
  (59, .aload_n 0, 1, false, (0), 0, 0, 0, 0, []),
  (60, .getfield 297, 3, false, (0), 9, 50, 0, 0, []),
  (63, .putfield 300, 3, false, (0), 9, 51, 0, 0, []),
  (66, .aload_n 0, 1, false, (0), 0, 0, 0, 0, []),
  (67, .dup, 1, false, (0), 0, 0, 0, 0, []),
  (68, .getfield 297, 3, false, (0), 9, 50, 0, 0, []),
  (71, .iconst (1), 1, false, (1), 0, 0, 0, 0, []),
  (72, .iadd, 1, false, (0), 0, 0, 0, 0, []),
  (73, .putfield 297, 3, false, (0), 9, 50, 0, 0, []),
  (76, .return_, 1, false, (0), 0, 0, 0, 0, [])]
def f43 : sm_I := (⟨"TypedMillModel", "grow", "(IZ)V"⟩, prog_11_method_30_code, 3, none, 2, false, 9, c43)
def c44 : List sm_R := [
  (0, .aload_n 0, 1, false, (0), 0, 0, 0, 0, []),
  (1, .getfield 112, 3, false, (0), 9, 55, 0, 0, []),
  (4, .aload_n 0, 1, false, (0), 0, 0, 0, 0, []),
  (5, .getfield 303, 3, false, (0), 9, 48, 0, 0, []),
  (8, .iload_n 1, 1, false, (0), 1, 0, 0, 0, []),
  (9, .iastore, 1, false, (0), 0, 0, 0, 0, []),
  (10, .aload_n 0, 1, false, (0), 0, 0, 0, 0, []),
  (11, .getfield 115, 3, false, (0), 9, 56, 0, 0, []),
  (14, .aload_n 0, 1, false, (0), 0, 0, 0, 0, []),
  (15, .getfield 303, 3, false, (0), 9, 48, 0, 0, []),
  (18, .iload_n 2, 1, false, (0), 2, 0, 0, 0, []),
  (19, .iastore, 1, false, (0), 0, 0, 0, 0, []),
  (20, .aload_n 0, 1, false, (0), 0, 0, 0, 0, []),
  (21, .getfield 118, 3, false, (0), 9, 57, 0, 0, []),
  (24, .aload_n 0, 1, false, (0), 0, 0, 0, 0, []),
  (25, .getfield 303, 3, false, (0), 9, 48, 0, 0, []),
  (28, .iload_n 3, 1, false, (0), 3, 0, 0, 0, []),
  (29, .iastore, 1, false, (0), 0, 0, 0, 0, []),
  (30, .aload_n 0, 1, false, (0), 0, 0, 0, 0, []),
  (31, .dup, 1, false, (0), 0, 0, 0, 0, []),
  (32, .getfield 303, 3, false, (0), 9, 48, 0, 0, []),
  (35, .iconst (1), 1, false, (1), 0, 0, 0, 0, []),
  (36, .iadd, 1, false, (0), 0, 0, 0, 0, []),
  (37, .putfield 303, 3, false, (0), 9, 48, 0, 0, []),
  (40, .return_, 1, false, (0), 0, 0, 0, 0, [])]
def f44 : sm_I := (⟨"TypedMillModel", "doLater", "(III)V"⟩, prog_11_method_31_code, 4, none, 3, false, 9, c44)
def c45 : List sm_R := [
  (0, .aload_n 0, 1, false, (0), 0, 0, 0, 0, []),
  (1, .getfield 121, 3, false, (0), 9, 58, 0, 0, []),
  (4, .aload_n 0, 1, false, (0), 0, 0, 0, 0, []),
  (5, .getfield 306, 3, false, (0), 9, 49, 0, 0, []),
  (8, .iload_n 1, 1, false, (0), 1, 0, 0, 0, []),
  (9, .iastore, 1, false, (0), 0, 0, 0, 0, []),
  (10, .aload_n 0, 1, false, (0), 0, 0, 0, 0, []),
  (11, .dup, 1, false, (0), 0, 0, 0, 0, []),
  (12, .getfield 306, 3, false, (0), 9, 49, 0, 0, []),
  (15, .iconst (1), 1, false, (1), 0, 0, 0, 0, []),
  (16, .iadd, 1, false, (0), 0, 0, 0, 0, []),
  (17, .putfield 306, 3, false, (0), 9, 49, 0, 0, []),
  (20, .return_, 1, false, (0), 0, 0, 0, 0, [])]
def f45 : sm_I := (⟨"TypedMillModel", "finish", "(I)V"⟩, prog_11_method_32_code, 2, none, 1, false, 9, c45)
def c46 : List sm_R := [
  (0, .aload_n 0, 1, false, (0), 0, 0, 0, 0, []),
  (1, .dup, 1, false, (0), 0, 0, 0, 0, []),
  (2, .getfield 306, 3, false, (0), 9, 49, 0, 0, []),
  (5, .iconst (1), 1, false, (1), 0, 0, 0, 0, []),
  (6, .isub, 1, false, (0), 0, 0, 0, 0, []),
  (7, .putfield 306, 3, false, (0), 9, 49, 0, 0, []),
  (10, .aload_n 0, 1, false, (0), 0, 0, 0, 0, []),
  (11, .getfield 121, 3, false, (0), 9, 58, 0, 0, []),
  (14, .aload_n 0, 1, false, (0), 0, 0, 0, 0, []),
  (15, .getfield 306, 3, false, (0), 9, 49, 0, 0, []),
  (18, .iaload, 1, false, (0), 0, 0, 0, 0, []),
  (19, .ireturn, 1, false, (0), 0, 0, 0, 0, [])]
def f46 : sm_I := (⟨"TypedMillModel", "doneLast", "()I"⟩, prog_11_method_33_code, 1, (some .int), 0, false, 9, c46)
def c47 : List sm_R := [
  (0, .aload_n 0, 1, false, (0), 0, 0, 0, 0, []),
  (1, .iconst (4), 1, false, (4), 0, 0, 0, 0, []),
  (2, .iconst (1), 1, false, (1), 0, 0, 0, 0, []),
  (3, .iconst (1), 1, false, (1), 0, 0, 0, 0, []),
  (4, .iconst (2), 1, false, (2), 0, 0, 0, 0, []),
  (5, .invokevirtual 309, 3, false, (0), 40, 9, 5, 0, []),
  (8, .aload_n 0, 1, false, (0), 0, 0, 0, 0, []),
  (9, .aload_n 0, 1, false, (0), 0, 0, 0, 0, []),
  (10, .invokevirtual 313, 3, false, (0), 46, 9, 1, 0, [(0, 0)]),
  (13, .iload_n 1, 1, false, (0), 1, 0, 0, 0, []),
  (14, .invokevirtual 317, 3, false, (0), 43, 9, 3, 0, []),
  (17, .return_, 1, false, (0), 0, 0, 0, 0, [])]
def f47 : sm_I := (⟨"TypedMillModel", "push", "(Z)V"⟩, prog_11_method_34_code, 2, none, 1, false, 9, c47)
def c48 : List sm_R := [
  (0, .aload_n 0, 1, false, (0), 0, 0, 0, 0, []),
  (1, .iconst (5), 1, false, (5), 0, 0, 0, 0, []),
  (2, .iconst (1), 1, false, (1), 0, 0, 0, 0, []),
  (3, .iconst (1), 1, false, (1), 0, 0, 0, 0, []),
  (4, .iconst (0), 1, false, (0), 0, 0, 0, 0, []),
  (5, .invokevirtual 309, 3, false, (0), 40, 9, 5, 0, []),
  (8, .aload_n 0, 1, false, (0), 0, 0, 0, 0, []),
  (9, .aload_n 0, 1, false, (0), 0, 0, 0, 0, []),
  (10, .getfield 124, 3, false, (0), 9, 59, 0, 0, []),
  (13, .aload_n 0, 1, false, (0), 0, 0, 0, 0, []),
  (14, .getfield 300, 3, false, (0), 9, 51, 0, 0, []),
  (17, .iaload, 1, false, (0), 0, 0, 0, 0, []),
  (18, .putfield 300, 3, false, (0), 9, 51, 0, 0, []),
  (21, .return_, 1, false, (0), 0, 0, 0, 0, [])]
def f48 : sm_I := (⟨"TypedMillModel", "pop", "()V"⟩, prog_11_method_35_code, 1, none, 0, false, 9, c48)
def c49 : List sm_R := [
  (0, .iconst (0), 1, false, (0), 0, 0, 0, 0, []),
  (1, .istore_n 2, 1, false, (0), 2, 0, 0, 0, []),
  (2, .aload_n 0, 1, false, (0), 0, 0, 0, 0, []),
  (3, .getfield 300, 3, false, (0), 9, 51, 0, 0, []),
  (6, .istore_n 3, 1, false, (0), 3, 0, 0, 0, []),
  (7, .iload_n 1, 1, false, (0), 1, 0, 0, 0, []),
  (8, .istore 4, 2, false, (0), 4, 0, 0, 0, []),
  (10, .aload_n 0, 1, true, (0), 0, 0, 0, 0, []),
  (11, .getfield 133, 3, false, (0), 9, 62, 0, 0, []),
  (14, .iload_n 3, 1, false, (0), 3, 0, 0, 0, []),
  (15, .baload, 1, false, (0), 0, 0, 0, 0, []),
  (16, .ifCond .eq (8), 3, false, (0), 14, 0, 0, 0, []),
  (19, .iload 4, 2, false, (0), 4, 0, 0, 0, []),
  (21, .ifCond .le (35), 3, false, (0), 32, 0, 0, 0, []),
  (24, .iload 4, 2, true, (0), 4, 0, 0, 0, []),
  (26, .aload_n 0, 1, false, (0), 0, 0, 0, 0, []),
  (27, .getfield 133, 3, false, (0), 9, 62, 0, 0, []),
  (30, .iload_n 3, 1, false, (0), 3, 0, 0, 0, []),
  (31, .baload, 1, false, (0), 0, 0, 0, 0, []),
  (32, .ifCond .eq (7), 3, false, (0), 22, 0, 0, 0, []),
  (35, .iconst (1), 1, false, (1), 0, 0, 0, 0, []),
  (36, .goto (4), 3, false, (0), 23, 0, 0, 0, []),
  (39, .iconst (0), 1, false, (0), 0, 0, 0, 0, []),
  (40, .isub, 1, true, (0), 0, 0, 0, 0, []),
  (41, .istore 4, 2, false, (0), 4, 0, 0, 0, []),
  (43, .aload_n 0, 1, false, (0), 0, 0, 0, 0, []),
  (44, .getfield 124, 3, false, (0), 9, 59, 0, 0, []),
  (47, .iload_n 3, 1, false, (0), 3, 0, 0, 0, []),
  (48, .iaload, 1, false, (0), 0, 0, 0, 0, []),
  (49, .istore_n 3, 1, false, (0), 3, 0, 0, 0, []),
  (50, .iinc 2 (1), 3, false, (1), 2, 0, 0, 0, []),
  (53, .goto (-43), 3, false, (0), 7, 0, 0, 0, []),
  (56, .iload_n 2, 1, false, (0), 2, 0, 0, 0, []),
  (57, .ifCond .ne (11), 3, false, (0), 40, 0, 0, 0, []),
  (60, .aload_n 0, 1, false, (0), 0, 0, 0, 0, []),
  (61, .iconst (5), 1, false, (5), 0, 0, 0, 0, []),
  (62, .iconst (2), 1, false, (2), 0, 0, 0, 0, []),
  (63, .iconst (1), 1, false, (1), 0, 0, 0, 0, []),
  (64, .iconst (1), 1, false, (1), 0, 0, 0, 0, []),
  (65, .invokevirtual 309, 3, false, (0), 40, 9, 5, 0, []),
  (68, .iload_n 2, 1, true, (0), 2, 0, 0, 0, []),
  (69, .ifCond .le (42), 3, false, (0), 67, 0, 0, 0, []),
  (72, .aload_n 0, 1, false, (0), 0, 0, 0, 0, []),
  (73, .iconst (5), 1, false, (5), 0, 0, 0, 0, []),
  (74, .iconst (4), 1, false, (4), 0, 0, 0, 0, []),
  (75, .iconst (1), 1, false, (1), 0, 0, 0, 0, []),
  (76, .iconst (0), 1, false, (0), 0, 0, 0, 0, []),
  (77, .invokevirtual 309, 3, false, (0), 40, 9, 5, 0, []),
  (80, .iconst (1), 1, false, (1), 0, 0, 0, 0, []),
  (81, .istore 5, 2, false, (0), 5, 0, 0, 0, []),
  (83, .iload 5, 2, true, (0), 5, 0, 0, 0, []),
  (85, .iload_n 2, 1, false, (0), 2, 0, 0, 0, []),
  (86, .if_icmp .ge (17), 3, false, (0), 61, 0, 0, 0, []),
  (89, .aload_n 0, 1, false, (0), 0, 0, 0, 0, []),
  (90, .iconst (5), 1, false, (5), 0, 0, 0, 0, []),
  (91, .iconst (4), 1, false, (4), 0, 0, 0, 0, []),
  (92, .iconst (4), 1, false, (4), 0, 0, 0, 0, []),
  (93, .iconst (0), 1, false, (0), 0, 0, 0, 0, []),
  (94, .invokevirtual 309, 3, false, (0), 40, 9, 5, 0, []),
  (97, .iinc 5 (1), 3, false, (1), 5, 0, 0, 0, []),
  (100, .goto (-17), 3, false, (0), 50, 0, 0, 0, []),
  (103, .aload_n 0, 1, false, (0), 0, 0, 0, 0, []),
  (104, .iconst (5), 1, false, (5), 0, 0, 0, 0, []),
  (105, .iconst (2), 1, false, (2), 0, 0, 0, 0, []),
  (106, .iconst (4), 1, false, (4), 0, 0, 0, 0, []),
  (107, .iconst (1), 1, false, (1), 0, 0, 0, 0, []),
  (108, .invokevirtual 309, 3, false, (0), 40, 9, 5, 0, []),
  (111, .aload_n 0, 1, true, (0), 0, 0, 0, 0, []),
  (112, .aload_n 0, 1, false, (0), 0, 0, 0, 0, []),
  (113, .getfield 127, 3, false, (0), 9, 60, 0, 0, []),
  (116, .iload_n 3, 1, false, (0), 3, 0, 0, 0, []),
  (117, .iaload, 1, false, (0), 0, 0, 0, 0, []),
  (118, .invokevirtual 321, 3, false, (0), 45, 9, 2, 0, []),
  (121, .return_, 1, false, (0), 0, 0, 0, 0, [])]
def f49 : sm_I := (⟨"TypedMillModel", "variable", "(I)V"⟩, prog_11_method_36_code, 6, none, 1, false, 9, c49)
def c50 : List sm_R := [
  (0, .aload_n 0, 1, false, (0), 0, 0, 0, 0, []),
  (1, .invokevirtual 324, 3, false, (0), 41, 9, 1, 0, [(0, 0)]),
  (4, .istore_n 2, 1, false, (0), 2, 0, 0, 0, []),
  (5, .aload_n 0, 1, false, (0), 0, 0, 0, 0, []),
  (6, .bipush (6), 2, false, (6), 0, 0, 0, 0, []),
  (8, .iconst (4), 1, false, (4), 0, 0, 0, 0, []),
  (9, .iload_n 2, 1, false, (0), 2, 0, 0, 0, []),
  (10, .iconst (0), 1, false, (0), 0, 0, 0, 0, []),
  (11, .invokevirtual 309, 3, false, (0), 40, 9, 5, 0, []),
  (14, .aload_n 0, 1, false, (0), 0, 0, 0, 0, []),
  (15, .iconst (4), 1, false, (4), 0, 0, 0, 0, []),
  (16, .iconst (4), 1, false, (4), 0, 0, 0, 0, []),
  (17, .iconst (4), 1, false, (4), 0, 0, 0, 0, []),
  (18, .iconst (1), 1, false, (1), 0, 0, 0, 0, []),
  (19, .invokevirtual 309, 3, false, (0), 40, 9, 5, 0, []),
  (22, .aload_n 0, 1, false, (0), 0, 0, 0, 0, []),
  (23, .bipush (7), 2, false, (7), 0, 0, 0, 0, []),
  (25, .iconst (2), 1, false, (2), 0, 0, 0, 0, []),
  (26, .iconst (4), 1, false, (4), 0, 0, 0, 0, []),
  (27, .aload_n 0, 1, false, (0), 0, 0, 0, 0, []),
  (28, .getfield 25, 3, false, (0), 9, 8, 0, 0, []),
  (31, .aload_n 0, 1, false, (0), 0, 0, 0, 0, []),
  (32, .getfield 43, 3, false, (0), 9, 15, 0, 0, []),
  (35, .iload_n 1, 1, false, (0), 1, 0, 0, 0, []),
  (36, .iaload, 1, false, (0), 0, 0, 0, 0, []),
  (37, .iaload, 1, false, (0), 0, 0, 0, 0, []),
  (38, .invokevirtual 309, 3, false, (0), 40, 9, 5, 0, []),
  (41, .aload_n 0, 1, false, (0), 0, 0, 0, 0, []),
  (42, .getfield 284, 3, false, (0), 9, 47, 0, 0, []),
  (45, .ifCond .ne (46), 3, false, (0), 55, 0, 0, 0, []),
  (48, .aload_n 0, 1, false, (0), 0, 0, 0, 0, []),
  (49, .getfield 137, 3, false, (0), 9, 63, 0, 0, []),
  (52, .aload_n 0, 1, false, (0), 0, 0, 0, 0, []),
  (53, .getfield 327, 3, false, (0), 9, 53, 0, 0, []),
  (56, .iload_n 1, 1, false, (0), 1, 0, 0, 0, []),
  (57, .iastore, 1, false, (0), 0, 0, 0, 0, []),
  (58, .aload_n 0, 1, false, (0), 0, 0, 0, 0, []),
  (59, .getfield 140, 3, false, (0), 9, 64, 0, 0, []),
  (62, .aload_n 0, 1, false, (0), 0, 0, 0, 0, []),
  (63, .getfield 327, 3, false, (0), 9, 53, 0, 0, []),
  (66, .aload_n 0, 1, false, (0), 0, 0, 0, 0, []),
  (67, .getfield 300, 3, false, (0), 9, 51, 0, 0, []),
  (70, .iastore, 1, false, (0), 0, 0, 0, 0, []),
  (71, .aload_n 0, 1, false, (0), 0, 0, 0, 0, []),
  (72, .getfield 143, 3, false, (0), 9, 65, 0, 0, []),
  (75, .aload_n 0, 1, false, (0), 0, 0, 0, 0, []),
  (76, .getfield 327, 3, false, (0), 9, 53, 0, 0, []),
  (79, .iload_n 2, 1, false, (0), 2, 0, 0, 0, []),
  (80, .iastore, 1, false, (0), 0, 0, 0, 0, []),
  (81, .aload_n 0, 1, false, (0), 0, 0, 0, 0, []),
  (82, .dup, 1, false, (0), 0, 0, 0, 0, []),
  (83, .getfield 327, 3, false, (0), 9, 53, 0, 0, []),
  (86, .iconst (1), 1, false, (1), 0, 0, 0, 0, []),
  (87, .iadd, 1, false, (0), 0, 0, 0, 0, []),
  (88, .putfield 327, 3, false, (0), 9, 53, 0, 0, []),
  (91, .aload_n 0, 1, true, (0), 0, 0, 0, 0, []),
  (92, .aload_n 0, 1, false, (0), 0, 0, 0, 0, []),
  (93, .getfield 25, 3, false, (0), 9, 8, 0, 0, []),
  (96, .aload_n 0, 1, false, (0), 0, 0, 0, 0, []),
  (97, .getfield 43, 3, false, (0), 9, 15, 0, 0, []),
  (100, .iload_n 1, 1, false, (0), 1, 0, 0, 0, []),
  (101, .iaload, 1, false, (0), 0, 0, 0, 0, []),
  (102, .iaload, 1, false, (0), 0, 0, 0, 0, []),
  (103, .invokevirtual 321, 3, false, (0), 45, 9, 2, 0, []),
  (106, .return_, 1, false, (0), 0, 0, 0, 0, [])]
def f50 : sm_I := (⟨"TypedMillModel", "lambda", "(I)V"⟩, prog_11_method_37_code, 3, none, 1, false, 9, c50)
def c51 : List sm_R := [
  (0, .aload_n 0, 1, false, (0), 0, 0, 0, 0, []),
  (1, .getfield 40, 3, false, (0), 9, 14, 0, 0, []),
  (4, .iload_n 1, 1, false, (0), 1, 0, 0, 0, []),
  (5, .iaload, 1, false, (0), 0, 0, 0, 0, []),
  (6, .tableswitch (122) (0) (10) #[(58), (77), (122), (122), (122), (88), (98), (122), (122), (104), (104)], 58, false, (0), 46, 0, 0, 0, [((0), 5), ((1), 18), ((2), 46), ((3), 46), ((4), 46), ((5), 25), ((6), 31), ((7), 46), ((8), 46), ((9), 35), ((10), 35)]),
  (64, .aload_n 0, 1, false, (0), 0, 0, 0, 0, []),
  (65, .iconst (0), 1, false, (0), 0, 0, 0, 0, []),
  (66, .iconst (2), 1, false, (2), 0, 0, 0, 0, []),
  (67, .aload_n 0, 1, false, (0), 0, 0, 0, 0, []),
  (68, .getfield 43, 3, false, (0), 9, 15, 0, 0, []),
  (71, .iload_n 1, 1, false, (0), 1, 0, 0, 0, []),
  (72, .iaload, 1, false, (0), 0, 0, 0, 0, []),
  (73, .iconst (0), 1, false, (0), 0, 0, 0, 0, []),
  (74, .invokevirtual 309, 3, false, (0), 40, 9, 5, 0, []),
  (77, .aload_n 0, 1, false, (0), 0, 0, 0, 0, []),
  (78, .iconst (0), 1, false, (0), 0, 0, 0, 0, []),
  (79, .invokevirtual 321, 3, false, (0), 45, 9, 2, 0, []),
  (82, .return_, 1, false, (0), 0, 0, 0, 0, []),
  (83, .aload_n 0, 1, false, (0), 0, 0, 0, 0, []),
  (84, .aload_n 0, 1, false, (0), 0, 0, 0, 0, []),
  (85, .getfield 43, 3, false, (0), 9, 15, 0, 0, []),
  (88, .iload_n 1, 1, false, (0), 1, 0, 0, 0, []),
  (89, .iaload, 1, false, (0), 0, 0, 0, 0, []),
  (90, .invokevirtual 330, 3, false, (0), 49, 9, 2, 0, []),
  (93, .return_, 1, false, (0), 0, 0, 0, 0, []),
  (94, .aload_n 0, 1, false, (0), 0, 0, 0, 0, []),
  (95, .iconst (5), 1, false, (5), 0, 0, 0, 0, []),
  (96, .iload_n 1, 1, false, (0), 1, 0, 0, 0, []),
  (97, .iconst (0), 1, false, (0), 0, 0, 0, 0, []),
  (98, .invokevirtual 333, 3, false, (0), 44, 9, 4, 0, []),
  (101, .goto (89), 3, false, (0), 83, 0, 0, 0, []),
  (104, .aload_n 0, 1, false, (0), 0, 0, 0, 0, []),
  (105, .iload_n 1, 1, false, (0), 1, 0, 0, 0, []),
  (106, .invokevirtual 337, 3, false, (0), 50, 9, 2, 0, []),
  (109, .return_, 1, false, (0), 0, 0, 0, 0, []),
  (110, .aload_n 0, 1, true, (0), 0, 0, 0, 0, []),
  (111, .iconst (4), 1, false, (4), 0, 0, 0, 0, []),
  (112, .aload_n 0, 1, false, (0), 0, 0, 0, 0, []),
  (113, .getfield 40, 3, false, (0), 9, 14, 0, 0, []),
  (116, .iload_n 1, 1, false, (0), 1, 0, 0, 0, []),
  (117, .iaload, 1, false, (0), 0, 0, 0, 0, []),
  (118, .bipush (9), 2, false, (9), 0, 0, 0, 0, []),
  (120, .isub, 1, false, (0), 0, 0, 0, 0, []),
  (121, .iconst (0), 1, false, (0), 0, 0, 0, 0, []),
  (122, .invokevirtual 333, 3, false, (0), 44, 9, 4, 0, []),
  (125, .goto (65), 3, false, (0), 83, 0, 0, 0, []),
  (128, .aload_n 0, 1, true, (0), 0, 0, 0, 0, []),
  (129, .aload_n 0, 1, false, (0), 0, 0, 0, 0, []),
  (130, .getfield 40, 3, false, (0), 9, 14, 0, 0, []),
  (133, .iload_n 1, 1, false, (0), 1, 0, 0, 0, []),
  (134, .iaload, 1, false, (0), 0, 0, 0, 0, []),
  (135, .bipush (7), 2, false, (7), 0, 0, 0, 0, []),
  (137, .if_icmp .ne (8), 3, false, (0), 55, 0, 0, 0, []),
  (140, .bipush (8), 2, false, (8), 0, 0, 0, 0, []),
  (142, .goto (19), 3, false, (0), 64, 0, 0, 0, []),
  (145, .aload_n 0, 1, false, (0), 0, 0, 0, 0, []),
  (146, .getfield 40, 3, false, (0), 9, 14, 0, 0, []),
  (149, .iload_n 1, 1, false, (0), 1, 0, 0, 0, []),
  (150, .iaload, 1, false, (0), 0, 0, 0, 0, []),
  (151, .bipush (8), 2, false, (8), 0, 0, 0, 0, []),
  (153, .if_icmp .ne (7), 3, false, (0), 63, 0, 0, 0, []),
  (156, .iconst (3), 1, false, (3), 0, 0, 0, 0, []),
  (157, .goto (4), 3, false, (0), 64, 0, 0, 0, []),
  (160, .iconst (2), 1, false, (2), 0, 0, 0, 0, []),
  (161, .aload_n 0, 1, true, (0), 0, 0, 0, 0, []),
  (162, .getfield 40, 3, false, (0), 9, 14, 0, 0, []),
  (165, .iload_n 1, 1, false, (0), 1, 0, 0, 0, []),
  (166, .iaload, 1, false, (0), 0, 0, 0, 0, []),
  (167, .iconst (0), 1, false, (0), 0, 0, 0, 0, []),
  (168, .invokevirtual 333, 3, false, (0), 44, 9, 4, 0, []),
  (171, .aload_n 0, 1, false, (0), 0, 0, 0, 0, []),
  (172, .iconst (0), 1, false, (0), 0, 0, 0, 0, []),
  (173, .aload_n 0, 1, false, (0), 0, 0, 0, 0, []),
  (174, .getfield 49, 3, false, (0), 9, 17, 0, 0, []),
  (177, .iload_n 1, 1, false, (0), 1, 0, 0, 0, []),
  (178, .iaload, 1, false, (0), 0, 0, 0, 0, []),
  (179, .iconst (0), 1, false, (0), 0, 0, 0, 0, []),
  (180, .invokevirtual 333, 3, false, (0), 44, 9, 4, 0, []),
  (183, .aload_n 0, 1, false, (0), 0, 0, 0, 0, []),
  (184, .iconst (1), 1, false, (1), 0, 0, 0, 0, []),
  (185, .iconst (0), 1, false, (0), 0, 0, 0, 0, []),
  (186, .iconst (0), 1, false, (0), 0, 0, 0, 0, []),
  (187, .invokevirtual 333, 3, false, (0), 44, 9, 4, 0, []),
  (190, .aload_n 0, 1, true, (0), 0, 0, 0, 0, []),
  (191, .iconst (0), 1, false, (0), 0, 0, 0, 0, []),
  (192, .aload_n 0, 1, false, (0), 0, 0, 0, 0, []),
  (193, .getfield 46, 3, false, (0), 9, 16, 0, 0, []),
  (196, .iload_n 1, 1, false, (0), 1, 0, 0, 0, []),
  (197, .iaload, 1, false, (0), 0, 0, 0, 0, []),
  (198, .iconst (0), 1, false, (0), 0, 0, 0, 0, []),
  (199, .invokevirtual 333, 3, false, (0), 44, 9, 4, 0, []),
  (202, .return_, 1, false, (0), 0, 0, 0, 0, [])]
def f51 : sm_I := (⟨"TypedMillModel", "write", "(I)V"⟩, prog_11_method_38_code, 2, none, 1, false, 9, c51)
def c52 : List sm_R := [
  (0, .aload_n 0, 1, false, (0), 0, 0, 0, 0, []),
  (1, .invokevirtual 313, 3, false, (0), 46, 9, 1, 0, [(0, 0)]),
  (4, .pop, 1, false, (0), 0, 0, 0, 0, []),
  (5, .aload_n 0, 1, false, (0), 0, 0, 0, 0, []),
  (6, .getfield 16, 3, false, (0), 9, 4, 0, 0, []),
  (9, .aload_n 0, 1, false, (0), 0, 0, 0, 0, []),
  (10, .getfield 127, 3, false, (0), 9, 60, 0, 0, []),
  (13, .aload_n 0, 1, false, (0), 0, 0, 0, 0, []),
  (14, .getfield 300, 3, false, (0), 9, 51, 0, 0, []),
  (17, .iaload, 1, false, (0), 0, 0, 0, 0, []),
  (18, .iaload, 1, false, (0), 0, 0, 0, 0, []),
  (19, .istore_n 1, 1, false, (0), 1, 0, 0, 0, []),
  (20, .aload_n 0, 1, false, (0), 0, 0, 0, 0, []),
  (21, .invokevirtual 324, 3, false, (0), 41, 9, 1, 0, [(0, 0)]),
  (24, .istore_n 2, 1, false, (0), 2, 0, 0, 0, []),
  (25, .aload_n 0, 1, false, (0), 0, 0, 0, 0, []),
  (26, .bipush (6), 2, false, (6), 0, 0, 0, 0, []),
  (28, .iconst (4), 1, false, (4), 0, 0, 0, 0, []),
  (29, .iload_n 2, 1, false, (0), 2, 0, 0, 0, []),
  (30, .iconst (0), 1, false, (0), 0, 0, 0, 0, []),
  (31, .invokevirtual 309, 3, false, (0), 40, 9, 5, 0, []),
  (34, .aload_n 0, 1, false, (0), 0, 0, 0, 0, []),
  (35, .iconst (5), 1, false, (5), 0, 0, 0, 0, []),
  (36, .iconst (5), 1, false, (5), 0, 0, 0, 0, []),
  (37, .iconst (1), 1, false, (1), 0, 0, 0, 0, []),
  (38, .iconst (0), 1, false, (0), 0, 0, 0, 0, []),
  (39, .invokevirtual 309, 3, false, (0), 40, 9, 5, 0, []),
  (42, .aload_n 0, 1, false, (0), 0, 0, 0, 0, []),
  (43, .iconst (4), 1, false, (4), 0, 0, 0, 0, []),
  (44, .iconst (4), 1, false, (4), 0, 0, 0, 0, []),
  (45, .iconst (4), 1, false, (4), 0, 0, 0, 0, []),
  (46, .iconst (5), 1, false, (5), 0, 0, 0, 0, []),
  (47, .invokevirtual 309, 3, false, (0), 40, 9, 5, 0, []),
  (50, .aload_n 0, 1, false, (0), 0, 0, 0, 0, []),
  (51, .bipush (7), 2, false, (7), 0, 0, 0, 0, []),
  (53, .iconst (3), 1, false, (3), 0, 0, 0, 0, []),
  (54, .iconst (4), 1, false, (4), 0, 0, 0, 0, []),
  (55, .aload_n 0, 1, false, (0), 0, 0, 0, 0, []),
  (56, .iconst (3), 1, false, (3), 0, 0, 0, 0, []),
  (57, .iload_n 1, 1, false, (0), 1, 0, 0, 0, []),
  (58, .iconst (-1), 1, false, (-1), 0, 0, 0, 0, []),
  (59, .iconst (-1), 1, false, (-1), 0, 0, 0, 0, []),
  (60, .invokevirtual 188, 3, false, (0), 18, 9, 5, 0, [(0, 0)]),
  (63, .invokevirtual 309, 3, false, (0), 40, 9, 5, 0, []),
  (66, .aload_n 0, 1, false, (0), 0, 0, 0, 0, []),
  (67, .iconst (5), 1, false, (5), 0, 0, 0, 0, []),
  (68, .iconst (4), 1, false, (4), 0, 0, 0, 0, []),
  (69, .iconst (1), 1, false, (1), 0, 0, 0, 0, []),
  (70, .iconst (1), 1, false, (1), 0, 0, 0, 0, []),
  (71, .invokevirtual 309, 3, false, (0), 40, 9, 5, 0, []),
  (74, .aload_n 0, 1, false, (0), 0, 0, 0, 0, []),
  (75, .bipush (8), 2, false, (8), 0, 0, 0, 0, []),
  (77, .iconst (5), 1, false, (5), 0, 0, 0, 0, []),
  (78, .iconst (1), 1, false, (1), 0, 0, 0, 0, []),
  (79, .iconst (4), 1, false, (4), 0, 0, 0, 0, []),
  (80, .invokevirtual 309, 3, false, (0), 40, 9, 5, 0, []),
  (83, .aload_n 0, 1, false, (0), 0, 0, 0, 0, []),
  (84, .bipush (11), 2, false, (11), 0, 0, 0, 0, []),
  (86, .iconst (5), 1, false, (5), 0, 0, 0, 0, []),
  (87, .iconst (0), 1, false, (0), 0, 0, 0, 0, []),
  (88, .iconst (0), 1, false, (0), 0, 0, 0, 0, []),
  (89, .invokevirtual 309, 3, false, (0), 40, 9, 5, 0, []),
  (92, .aload_n 0, 1, false, (0), 0, 0, 0, 0, []),
  (93, .aload_n 0, 1, false, (0), 0, 0, 0, 0, []),
  (94, .getfield 124, 3, false, (0), 9, 59, 0, 0, []),
  (97, .aload_n 0, 1, false, (0), 0, 0, 0, 0, []),
  (98, .getfield 300, 3, false, (0), 9, 51, 0, 0, []),
  (101, .iaload, 1, false, (0), 0, 0, 0, 0, []),
  (102, .putfield 300, 3, false, (0), 9, 51, 0, 0, []),
  (105, .aload_n 0, 1, false, (0), 0, 0, 0, 0, []),
  (106, .getfield 284, 3, false, (0), 9, 47, 0, 0, []),
  (109, .ifCond .ne (19), 3, false, (0), 82, 0, 0, 0, []),
  (112, .aload_n 0, 1, false, (0), 0, 0, 0, 0, []),
  (113, .iload_n 2, 1, false, (0), 2, 0, 0, 0, []),
  (114, .aload_n 0, 1, false, (0), 0, 0, 0, 0, []),
  (115, .getfield 130, 3, false, (0), 9, 61, 0, 0, []),
  (118, .aload_n 0, 1, false, (0), 0, 0, 0, 0, []),
  (119, .getfield 300, 3, false, (0), 9, 51, 0, 0, []),
  (122, .iaload, 1, false, (0), 0, 0, 0, 0, []),
  (123, .iload_n 1, 1, false, (0), 1, 0, 0, 0, []),
  (124, .iconst (-1), 1, false, (-1), 0, 0, 0, 0, []),
  (125, .invokevirtual 340, 3, false, (0), 42, 9, 5, 0, []),
  (128, .aload_n 0, 1, true, (0), 0, 0, 0, 0, []),
  (129, .iload_n 1, 1, false, (0), 1, 0, 0, 0, []),
  (130, .invokevirtual 321, 3, false, (0), 45, 9, 2, 0, []),
  (133, .return_, 1, false, (0), 0, 0, 0, 0, [])]
def f52 : sm_I := (⟨"TypedMillModel", "call", "()V"⟩, prog_11_method_39_code, 3, none, 0, false, 9, c52)
def c53 : List sm_R := [
  (0, .aload_n 0, 1, false, (0), 0, 0, 0, 0, []),
  (1, .invokevirtual 313, 3, false, (0), 46, 9, 1, 0, [(0, 0)]),
  (4, .pop, 1, false, (0), 0, 0, 0, 0, []),
  (5, .aload_n 0, 1, false, (0), 0, 0, 0, 0, []),
  (6, .invokevirtual 324, 3, false, (0), 41, 9, 1, 0, [(0, 0)]),
  (9, .istore_n 2, 1, false, (0), 2, 0, 0, 0, []),
  (10, .aload_n 0, 1, false, (0), 0, 0, 0, 0, []),
  (11, .invokevirtual 324, 3, false, (0), 41, 9, 1, 0, [(0, 0)]),
  (14, .istore_n 3, 1, false, (0), 3, 0, 0, 0, []),
  (15, .aload_n 0, 1, false, (0), 0, 0, 0, 0, []),
  (16, .bipush (10), 2, false, (10), 0, 0, 0, 0, []),
  (18, .iconst (2), 1, false, (2), 0, 0, 0, 0, []),
  (19, .iload_n 2, 1, false, (0), 2, 0, 0, 0, []),
  (20, .iconst (0), 1, false, (0), 0, 0, 0, 0, []),
  (21, .invokevirtual 309, 3, false, (0), 40, 9, 5, 0, []),
  (24, .aload_n 0, 1, false, (0), 0, 0, 0, 0, []),
  (25, .bipush (7), 2, false, (7), 0, 0, 0, 0, []),
  (27, .iload_n 3, 1, false, (0), 3, 0, 0, 0, []),
  (28, .iconst (0), 1, false, (0), 0, 0, 0, 0, []),
  (29, .invokevirtual 333, 3, false, (0), 44, 9, 4, 0, []),
  (32, .aload_n 0, 1, false, (0), 0, 0, 0, 0, []),
  (33, .iconst (0), 1, false, (0), 0, 0, 0, 0, []),
  (34, .aload_n 0, 1, false, (0), 0, 0, 0, 0, []),
  (35, .getfield 52, 3, false, (0), 9, 18, 0, 0, []),
  (38, .iload_n 1, 1, false, (0), 1, 0, 0, 0, []),
  (39, .iaload, 1, false, (0), 0, 0, 0, 0, []),
  (40, .iconst (0), 1, false, (0), 0, 0, 0, 0, []),
  (41, .invokevirtual 333, 3, false, (0), 44, 9, 4, 0, []),
  (44, .aload_n 0, 1, false, (0), 0, 0, 0, 0, []),
  (45, .bipush (6), 2, false, (6), 0, 0, 0, 0, []),
  (47, .iload_n 2, 1, false, (0), 2, 0, 0, 0, []),
  (48, .iload_n 3, 1, false, (0), 3, 0, 0, 0, []),
  (49, .invokevirtual 333, 3, false, (0), 44, 9, 4, 0, []),
  (52, .aload_n 0, 1, false, (0), 0, 0, 0, 0, []),
  (53, .iconst (0), 1, false, (0), 0, 0, 0, 0, []),
  (54, .aload_n 0, 1, false, (0), 0, 0, 0, 0, []),
  (55, .getfield 49, 3, false, (0), 9, 17, 0, 0, []),
  (58, .iload_n 1, 1, false, (0), 1, 0, 0, 0, []),
  (59, .iaload, 1, false, (0), 0, 0, 0, 0, []),
  (60, .iconst (0), 1, false, (0), 0, 0, 0, 0, []),
  (61, .invokevirtual 333, 3, false, (0), 44, 9, 4, 0, []),
  (64, .return_, 1, false, (0), 0, 0, 0, 0, [])]
def f53 : sm_I := (⟨"TypedMillModel", "choose", "(I)V"⟩, prog_11_method_40_code, 4, none, 1, false, 9, c53)
def c54 : List sm_R := [
  (0, .aload_n 0, 1, false, (0), 0, 0, 0, 0, []),
  (1, .dup, 1, false, (0), 0, 0, 0, 0, []),
  (2, .getfield 303, 3, false, (0), 9, 48, 0, 0, []),
  (5, .iconst (1), 1, false, (1), 0, 0, 0, 0, []),
  (6, .isub, 1, false, (0), 0, 0, 0, 0, []),
  (7, .putfield 303, 3, false, (0), 9, 48, 0, 0, []),
  (10, .aload_n 0, 1, false, (0), 0, 0, 0, 0, []),
  (11, .getfield 303, 3, false, (0), 9, 48, 0, 0, []),
  (14, .istore_n 1, 1, false, (0), 1, 0, 0, 0, []),
  (15, .aload_n 0, 1, false, (0), 0, 0, 0, 0, []),
  (16, .getfield 115, 3, false, (0), 9, 56, 0, 0, []),
  (19, .iload_n 1, 1, false, (0), 1, 0, 0, 0, []),
  (20, .iaload, 1, false, (0), 0, 0, 0, 0, []),
  (21, .istore_n 2, 1, false, (0), 2, 0, 0, 0, []),
  (22, .aload_n 0, 1, false, (0), 0, 0, 0, 0, []),
  (23, .getfield 112, 3, false, (0), 9, 55, 0, 0, []),
  (26, .iload_n 1, 1, false, (0), 1, 0, 0, 0, []),
  (27, .iaload, 1, false, (0), 0, 0, 0, 0, []),
  (28, .tableswitch (291) (0) (7) #[(48), (56), (64), (99), (151), (193), (201), (246)], 48, false, (0), 161, 0, 0, 0, [((0), 19), ((1), 23), ((2), 27), ((3), 50), ((4), 82), ((5), 105), ((6), 109), ((7), 135)]),
  (76, .aload_n 0, 1, false, (0), 0, 0, 0, 0, []),
  (77, .iload_n 2, 1, false, (0), 2, 0, 0, 0, []),
  (78, .invokevirtual 343, 3, false, (0), 51, 9, 2, 0, []),
  (81, .goto (242), 3, false, (0), 163, 0, 0, 0, []),
  (84, .aload_n 0, 1, false, (0), 0, 0, 0, 0, []),
  (85, .iconst (0), 1, false, (0), 0, 0, 0, 0, []),
  (86, .invokevirtual 346, 3, false, (0), 47, 9, 2, 0, []),
  (89, .goto (234), 3, false, (0), 163, 0, 0, 0, []),
  (92, .aload_n 0, 1, false, (0), 0, 0, 0, 0, []),
  (93, .invokevirtual 313, 3, false, (0), 46, 9, 1, 0, [(0, 0)]),
  (96, .pop, 1, false, (0), 0, 0, 0, 0, []),
  (97, .aload_n 0, 1, false, (0), 0, 0, 0, 0, []),
  (98, .iconst (5), 1, false, (5), 0, 0, 0, 0, []),
  (99, .iconst (4), 1, false, (4), 0, 0, 0, 0, []),
  (100, .iconst (1), 1, false, (1), 0, 0, 0, 0, []),
  (101, .iconst (1), 1, false, (1), 0, 0, 0, 0, []),
  (102, .invokevirtual 309, 3, false, (0), 40, 9, 5, 0, []),
  (105, .aload_n 0, 1, false, (0), 0, 0, 0, 0, []),
  (106, .iload_n 2, 1, false, (0), 2, 0, 0, 0, []),
  (107, .iconst (1), 1, false, (1), 0, 0, 0, 0, []),
  (108, .isub, 1, false, (0), 0, 0, 0, 0, []),
  (109, .iconst (2), 1, false, (2), 0, 0, 0, 0, []),
  (110, .iconst (4), 1, false, (4), 0, 0, 0, 0, []),
  (111, .iconst (2), 1, false, (2), 0, 0, 0, 0, []),
  (112, .invokevirtual 309, 3, false, (0), 40, 9, 5, 0, []),
  (115, .aload_n 0, 1, false, (0), 0, 0, 0, 0, []),
  (116, .invokevirtual 350, 3, false, (0), 48, 9, 1, 0, []),
  (119, .aload_n 0, 1, false, (0), 0, 0, 0, 0, []),
  (120, .iconst (0), 1, false, (0), 0, 0, 0, 0, []),
  (121, .invokevirtual 321, 3, false, (0), 45, 9, 2, 0, []),
  (124, .goto (199), 3, false, (0), 163, 0, 0, 0, []),
  (127, .aload_n 0, 1, false, (0), 0, 0, 0, 0, []),
  (128, .invokevirtual 313, 3, false, (0), 46, 9, 1, 0, [(0, 0)]),
  (131, .istore_n 3, 1, false, (0), 3, 0, 0, 0, []),
  (132, .aload_n 0, 1, false, (0), 0, 0, 0, 0, []),
  (133, .getfield 127, 3, false, (0), 9, 60, 0, 0, []),
  (136, .aload_n 0, 1, false, (0), 0, 0, 0, 0, []),
  (137, .getfield 300, 3, false, (0), 9, 51, 0, 0, []),
  (140, .iaload, 1, false, (0), 0, 0, 0, 0, []),
  (141, .istore 4, 2, false, (0), 4, 0, 0, 0, []),
  (143, .aload_n 0, 1, false, (0), 0, 0, 0, 0, []),
  (144, .iconst (5), 1, false, (5), 0, 0, 0, 0, []),
  (145, .iconst (4), 1, false, (4), 0, 0, 0, 0, []),
  (146, .iconst (1), 1, false, (1), 0, 0, 0, 0, []),
  (147, .iconst (1), 1, false, (1), 0, 0, 0, 0, []),
  (148, .invokevirtual 309, 3, false, (0), 40, 9, 5, 0, []),
  (151, .aload_n 0, 1, false, (0), 0, 0, 0, 0, []),
  (152, .iconst (4), 1, false, (4), 0, 0, 0, 0, []),
  (153, .iconst (2), 1, false, (2), 0, 0, 0, 0, []),
  (154, .iconst (4), 1, false, (4), 0, 0, 0, 0, []),
  (155, .iconst (2), 1, false, (2), 0, 0, 0, 0, []),
  (156, .invokevirtual 309, 3, false, (0), 40, 9, 5, 0, []),
  (159, .aload_n 0, 1, false, (0), 0, 0, 0, 0, []),
  (160, .invokevirtual 350, 3, false, (0), 48, 9, 1, 0, []),
  (163, .aload_n 0, 1, false, (0), 0, 0, 0, 0, []),
  (164, .aload_n 0, 1, false, (0), 0, 0, 0, 0, []),
  (165, .iconst (1), 1, false, (1), 0, 0, 0, 0, []),
  (166, .iload 4, 2, false, (0), 4, 0, 0, 0, []),
  (168, .iload_n 3, 1, false, (0), 3, 0, 0, 0, []),
  (169, .iconst (-1), 1, false, (-1), 0, 0, 0, 0, []),
  (170, .invokevirtual 188, 3, false, (0), 18, 9, 5, 0, [(0, 0)]),
  (173, .invokevirtual 321, 3, false, (0), 45, 9, 2, 0, []),
  (176, .goto (147), 3, false, (0), 163, 0, 0, 0, []),
  (179, .aload_n 0, 1, false, (0), 0, 0, 0, 0, []),
  (180, .invokevirtual 313, 3, false, (0), 46, 9, 1, 0, [(0, 0)]),
  (183, .istore 5, 2, false, (0), 5, 0, 0, 0, []),
  (185, .aload_n 0, 1, false, (0), 0, 0, 0, 0, []),
  (186, .iconst (5), 1, false, (5), 0, 0, 0, 0, []),
  (187, .iconst (2), 1, false, (2), 0, 0, 0, 0, []),
  (188, .iconst (2), 1, false, (2), 0, 0, 0, 0, []),
  (189, .iload_n 2, 1, false, (0), 2, 0, 0, 0, []),
  (190, .invokevirtual 309, 3, false, (0), 40, 9, 5, 0, []),
  (193, .aload_n 0, 1, false, (0), 0, 0, 0, 0, []),
  (194, .iload_n 2, 1, false, (0), 2, 0, 0, 0, []),
  (195, .ifCond .ne (13), 3, false, (0), 99, 0, 0, 0, []),
  (198, .aload_n 0, 1, false, (0), 0, 0, 0, 0, []),
  (199, .getfield 13, 3, false, (0), 9, 3, 0, 0, []),
  (202, .iload 5, 2, false, (0), 5, 0, 0, 0, []),
  (204, .iaload, 1, false, (0), 0, 0, 0, 0, []),
  (205, .goto (10), 3, false, (0), 103, 0, 0, 0, []),
  (208, .aload_n 0, 1, false, (0), 0, 0, 0, 0, []),
  (209, .getfield 16, 3, false, (0), 9, 4, 0, 0, []),
  (212, .iload 5, 2, false, (0), 5, 0, 0, 0, []),
  (214, .iaload, 1, false, (0), 0, 0, 0, 0, []),
  (215, .invokevirtual 321, 3, true, (0), 45, 9, 2, 0, []),
  (218, .goto (105), 3, false, (0), 163, 0, 0, 0, []),
  (221, .aload_n 0, 1, false, (0), 0, 0, 0, 0, []),
  (222, .iload_n 2, 1, false, (0), 2, 0, 0, 0, []),
  (223, .invokevirtual 353, 3, false, (0), 53, 9, 2, 0, []),
  (226, .goto (97), 3, false, (0), 163, 0, 0, 0, []),
  (229, .aload_n 0, 1, false, (0), 0, 0, 0, 0, []),
  (230, .invokevirtual 313, 3, false, (0), 46, 9, 1, 0, [(0, 0)]),
  (233, .pop, 1, false, (0), 0, 0, 0, 0, []),
  (234, .aload_n 0, 1, false, (0), 0, 0, 0, 0, []),
  (235, .bipush (9), 2, false, (9), 0, 0, 0, 0, []),
  (237, .aload_n 0, 1, false, (0), 0, 0, 0, 0, []),
  (238, .getfield 118, 3, false, (0), 9, 57, 0, 0, []),
  (241, .iload_n 1, 1, false, (0), 1, 0, 0, 0, []),
  (242, .iaload, 1, false, (0), 0, 0, 0, 0, []),
  (243, .iconst (0), 1, false, (0), 0, 0, 0, 0, []),
  (244, .iconst (0), 1, false, (0), 0, 0, 0, 0, []),
  (245, .invokevirtual 309, 3, false, (0), 40, 9, 5, 0, []),
  (248, .aload_n 0, 1, false, (0), 0, 0, 0, 0, []),
  (249, .getfield 284, 3, false, (0), 9, 47, 0, 0, []),
  (252, .ifCond .ne (71), 3, false, (0), 163, 0, 0, 0, []),
  (255, .aload_n 0, 1, false, (0), 0, 0, 0, 0, []),
  (256, .iload_n 2, 1, false, (0), 2, 0, 0, 0, []),
  (257, .aload_n 0, 1, false, (0), 0, 0, 0, 0, []),
  (258, .getfield 130, 3, false, (0), 9, 61, 0, 0, []),
  (261, .aload_n 0, 1, false, (0), 0, 0, 0, 0, []),
  (262, .getfield 300, 3, false, (0), 9, 51, 0, 0, []),
  (265, .iaload, 1, false, (0), 0, 0, 0, 0, []),
  (266, .iconst (-1), 1, false, (-1), 0, 0, 0, 0, []),
  (267, .iconst (-1), 1, false, (-1), 0, 0, 0, 0, []),
  (268, .invokevirtual 340, 3, false, (0), 42, 9, 5, 0, []),
  (271, .goto (52), 3, false, (0), 163, 0, 0, 0, []),
  (274, .aload_n 0, 1, false, (0), 0, 0, 0, 0, []),
  (275, .bipush (9), 2, false, (9), 0, 0, 0, 0, []),
  (277, .iload_n 2, 1, false, (0), 2, 0, 0, 0, []),
  (278, .iconst (0), 1, false, (0), 0, 0, 0, 0, []),
  (279, .iconst (0), 1, false, (0), 0, 0, 0, 0, []),
  (280, .invokevirtual 309, 3, false, (0), 40, 9, 5, 0, []),
  (283, .aload_n 0, 1, false, (0), 0, 0, 0, 0, []),
  (284, .getfield 284, 3, false, (0), 9, 47, 0, 0, []),
  (287, .ifCond .ne (36), 3, false, (0), 163, 0, 0, 0, []),
  (290, .aload_n 0, 1, false, (0), 0, 0, 0, 0, []),
  (291, .iload_n 2, 1, false, (0), 2, 0, 0, 0, []),
  (292, .aload_n 0, 1, false, (0), 0, 0, 0, 0, []),
  (293, .getfield 130, 3, false, (0), 9, 61, 0, 0, []),
  (296, .aload_n 0, 1, false, (0), 0, 0, 0, 0, []),
  (297, .getfield 300, 3, false, (0), 9, 51, 0, 0, []),
  (300, .iaload, 1, false, (0), 0, 0, 0, 0, []),
  (301, .aload_n 0, 1, false, (0), 0, 0, 0, 0, []),
  (302, .getfield 121, 3, false, (0), 9, 58, 0, 0, []),
  (305, .aload_n 0, 1, false, (0), 0, 0, 0, 0, []),
  (306, .getfield 306, 3, false, (0), 9, 49, 0, 0, []),
  (309, .iconst (1), 1, false, (1), 0, 0, 0, 0, []),
  (310, .isub, 1, false, (0), 0, 0, 0, 0, []),
  (311, .iaload, 1, false, (0), 0, 0, 0, 0, []),
  (312, .iconst (-1), 1, false, (-1), 0, 0, 0, 0, []),
  (313, .invokevirtual 340, 3, false, (0), 42, 9, 5, 0, []),
  (316, .goto (7), 3, false, (0), 163, 0, 0, 0, []),
  (319, .aload_n 0, 1, false, (0), 0, 0, 0, 0, []),
  (320, .invokevirtual 356, 3, false, (0), 52, 9, 1, 0, []),
  (323, .return_, 1, true, (0), 0, 0, 0, 0, [])]
def f54 : sm_I := (⟨"TypedMillModel", "doNext", "()V"⟩, prog_11_method_41_code, 6, none, 0, false, 9, c54)
def c55 : List sm_R := [
  (0, .aload_n 0, 1, false, (0), 0, 0, 0, 0, []),
  (1, .iconst (0), 1, false, (0), 0, 0, 0, 0, []),
  (2, .putfield 303, 3, false, (0), 9, 48, 0, 0, []),
  (5, .aload_n 0, 1, false, (0), 0, 0, 0, 0, []),
  (6, .iconst (0), 1, false, (0), 0, 0, 0, 0, []),
  (7, .iload_n 1, 1, false, (0), 1, 0, 0, 0, []),
  (8, .iconst (0), 1, false, (0), 0, 0, 0, 0, []),
  (9, .invokevirtual 333, 3, false, (0), 44, 9, 4, 0, []),
  (12, .aload_n 0, 1, true, (0), 0, 0, 0, 0, []),
  (13, .getfield 303, 3, false, (0), 9, 48, 0, 0, []),
  (16, .ifCond .le (17), 3, false, (0), 17, 0, 0, 0, []),
  (19, .aload_n 0, 1, false, (0), 0, 0, 0, 0, []),
  (20, .getfield 284, 3, false, (0), 9, 47, 0, 0, []),
  (23, .ifCond .ne (10), 3, false, (0), 17, 0, 0, 0, []),
  (26, .aload_n 0, 1, false, (0), 0, 0, 0, 0, []),
  (27, .invokevirtual 359, 3, false, (0), 54, 9, 1, 0, []),
  (30, .goto (-18), 3, false, (0), 8, 0, 0, 0, []),
  (33, .return_, 1, true, (0), 0, 0, 0, 0, [])]
def f55 : sm_I := (⟨"TypedMillModel", "writeAll", "(I)V"⟩, prog_11_method_42_code, 2, none, 1, false, 9, c55)
def c56 : List sm_R := [
  (0, .aload_n 0, 1, false, (0), 0, 0, 0, 0, []),
  (1, .getfield 137, 3, false, (0), 9, 63, 0, 0, []),
  (4, .iload_n 1, 1, false, (0), 1, 0, 0, 0, []),
  (5, .iaload, 1, false, (0), 0, 0, 0, 0, []),
  (6, .istore_n 2, 1, false, (0), 2, 0, 0, 0, []),
  (7, .aload_n 0, 1, false, (0), 0, 0, 0, 0, []),
  (8, .getfield 25, 3, false, (0), 9, 8, 0, 0, []),
  (11, .aload_n 0, 1, false, (0), 0, 0, 0, 0, []),
  (12, .getfield 43, 3, false, (0), 9, 15, 0, 0, []),
  (15, .iload_n 2, 1, false, (0), 2, 0, 0, 0, []),
  (16, .iaload, 1, false, (0), 0, 0, 0, 0, []),
  (17, .iaload, 1, false, (0), 0, 0, 0, 0, []),
  (18, .istore_n 3, 1, false, (0), 3, 0, 0, 0, []),
  (19, .aload_n 0, 1, false, (0), 0, 0, 0, 0, []),
  (20, .iconst (3), 1, false, (3), 0, 0, 0, 0, []),
  (21, .aload_n 0, 1, false, (0), 0, 0, 0, 0, []),
  (22, .getfield 16, 3, false, (0), 9, 4, 0, 0, []),
  (25, .iload_n 3, 1, false, (0), 3, 0, 0, 0, []),
  (26, .iaload, 1, false, (0), 0, 0, 0, 0, []),
  (27, .iconst (-1), 1, false, (-1), 0, 0, 0, 0, []),
  (28, .iconst (-1), 1, false, (-1), 0, 0, 0, 0, []),
  (29, .invokevirtual 188, 3, false, (0), 18, 9, 5, 0, [(0, 0)]),
  (32, .istore 4, 2, false, (0), 4, 0, 0, 0, []),
  (34, .aload_n 0, 1, false, (0), 0, 0, 0, 0, []),
  (35, .aload_n 0, 1, false, (0), 0, 0, 0, 0, []),
  (36, .getfield 140, 3, false, (0), 9, 64, 0, 0, []),
  (39, .iload_n 1, 1, false, (0), 1, 0, 0, 0, []),
  (40, .iaload, 1, false, (0), 0, 0, 0, 0, []),
  (41, .putfield 300, 3, false, (0), 9, 51, 0, 0, []),
  (44, .aload_n 0, 1, false, (0), 0, 0, 0, 0, []),
  (45, .aload_n 0, 1, false, (0), 0, 0, 0, 0, []),
  (46, .getfield 143, 3, false, (0), 9, 65, 0, 0, []),
  (49, .iload_n 1, 1, false, (0), 1, 0, 0, 0, []),
  (50, .iaload, 1, false, (0), 0, 0, 0, 0, []),
  (51, .aload_n 0, 1, false, (0), 0, 0, 0, 0, []),
  (52, .getfield 130, 3, false, (0), 9, 61, 0, 0, []),
  (55, .aload_n 0, 1, false, (0), 0, 0, 0, 0, []),
  (56, .getfield 300, 3, false, (0), 9, 51, 0, 0, []),
  (59, .iaload, 1, false, (0), 0, 0, 0, 0, []),
  (60, .aload_n 0, 1, false, (0), 0, 0, 0, 0, []),
  (61, .getfield 13, 3, false, (0), 9, 3, 0, 0, []),
  (64, .iload_n 3, 1, false, (0), 3, 0, 0, 0, []),
  (65, .iaload, 1, false, (0), 0, 0, 0, 0, []),
  (66, .iload 4, 2, false, (0), 4, 0, 0, 0, []),
  (68, .invokevirtual 340, 3, false, (0), 42, 9, 5, 0, []),
  (71, .aload_n 0, 1, false, (0), 0, 0, 0, 0, []),
  (72, .bipush (6), 2, false, (6), 0, 0, 0, 0, []),
  (74, .iconst (4), 1, false, (4), 0, 0, 0, 0, []),
  (75, .aload_n 0, 1, false, (0), 0, 0, 0, 0, []),
  (76, .getfield 143, 3, false, (0), 9, 65, 0, 0, []),
  (79, .iload_n 1, 1, false, (0), 1, 0, 0, 0, []),
  (80, .iaload, 1, false, (0), 0, 0, 0, 0, []),
  (81, .iconst (0), 1, false, (0), 0, 0, 0, 0, []),
  (82, .invokevirtual 309, 3, false, (0), 40, 9, 5, 0, []),
  (85, .aload_n 0, 1, false, (0), 0, 0, 0, 0, []),
  (86, .iconst (4), 1, false, (4), 0, 0, 0, 0, []),
  (87, .iconst (4), 1, false, (4), 0, 0, 0, 0, []),
  (88, .iconst (4), 1, false, (4), 0, 0, 0, 0, []),
  (89, .iconst (1), 1, false, (1), 0, 0, 0, 0, []),
  (90, .invokevirtual 309, 3, false, (0), 40, 9, 5, 0, []),
  (93, .aload_n 0, 1, false, (0), 0, 0, 0, 0, []),
  (94, .bipush (7), 2, false, (7), 0, 0, 0, 0, []),
  (96, .iconst (4), 1, false, (4), 0, 0, 0, 0, []),
  (97, .iconst (4), 1, false, (4), 0, 0, 0, 0, []),
  (98, .iload_n 3, 1, false, (0), 3, 0, 0, 0, []),
  (99, .invokevirtual 309, 3, false, (0), 40, 9, 5, 0, []),
  (102, .aload_n 0, 1, false, (0), 0, 0, 0, 0, []),
  (103, .iconst (4), 1, false, (4), 0, 0, 0, 0, []),
  (104, .iconst (1), 1, false, (1), 0, 0, 0, 0, []),
  (105, .iconst (1), 1, false, (1), 0, 0, 0, 0, []),
  (106, .iconst (4), 1, false, (4), 0, 0, 0, 0, []),
  (107, .invokevirtual 309, 3, false, (0), 40, 9, 5, 0, []),
  (110, .aload_n 0, 1, false, (0), 0, 0, 0, 0, []),
  (111, .iload_n 3, 1, false, (0), 3, 0, 0, 0, []),
  (112, .iconst (1), 1, false, (1), 0, 0, 0, 0, []),
  (113, .invokevirtual 317, 3, false, (0), 43, 9, 3, 0, []),
  (116, .aload_n 0, 1, false, (0), 0, 0, 0, 0, []),
  (117, .iconst (4), 1, false, (4), 0, 0, 0, 0, []),
  (118, .iconst (1), 1, false, (1), 0, 0, 0, 0, []),
  (119, .iconst (1), 1, false, (1), 0, 0, 0, 0, []),
  (120, .iconst (3), 1, false, (3), 0, 0, 0, 0, []),
  (121, .invokevirtual 309, 3, false, (0), 40, 9, 5, 0, []),
  (124, .aload_n 0, 1, false, (0), 0, 0, 0, 0, []),
  (125, .iload 4, 2, false, (0), 4, 0, 0, 0, []),
  (127, .iconst (0), 1, false, (0), 0, 0, 0, 0, []),
  (128, .invokevirtual 317, 3, false, (0), 43, 9, 3, 0, []),
  (131, .aload_n 0, 1, false, (0), 0, 0, 0, 0, []),
  (132, .aload_n 0, 1, false, (0), 0, 0, 0, 0, []),
  (133, .getfield 13, 3, false, (0), 9, 3, 0, 0, []),
  (136, .iload_n 3, 1, false, (0), 3, 0, 0, 0, []),
  (137, .iaload, 1, false, (0), 0, 0, 0, 0, []),
  (138, .invokevirtual 321, 3, false, (0), 45, 9, 2, 0, []),
  (141, .aload_n 0, 1, false, (0), 0, 0, 0, 0, []),
  (142, .iconst (1), 1, false, (1), 0, 0, 0, 0, []),
  (143, .invokevirtual 346, 3, false, (0), 47, 9, 2, 0, []),
  (146, .aload_n 0, 1, false, (0), 0, 0, 0, 0, []),
  (147, .aload_n 0, 1, false, (0), 0, 0, 0, 0, []),
  (148, .getfield 46, 3, false, (0), 9, 16, 0, 0, []),
  (151, .iload_n 2, 1, false, (0), 2, 0, 0, 0, []),
  (152, .iaload, 1, false, (0), 0, 0, 0, 0, []),
  (153, .invokevirtual 362, 3, false, (0), 55, 9, 2, 0, []),
  (156, .aload_n 0, 1, false, (0), 0, 0, 0, 0, []),
  (157, .invokevirtual 313, 3, false, (0), 46, 9, 1, 0, [(0, 0)]),
  (160, .pop, 1, false, (0), 0, 0, 0, 0, []),
  (161, .aload_n 0, 1, false, (0), 0, 0, 0, 0, []),
  (162, .iconst (5), 1, false, (5), 0, 0, 0, 0, []),
  (163, .iconst (4), 1, false, (4), 0, 0, 0, 0, []),
  (164, .iconst (1), 1, false, (1), 0, 0, 0, 0, []),
  (165, .iconst (0), 1, false, (0), 0, 0, 0, 0, []),
  (166, .invokevirtual 309, 3, false, (0), 40, 9, 5, 0, []),
  (169, .aload_n 0, 1, false, (0), 0, 0, 0, 0, []),
  (170, .iconst (5), 1, false, (5), 0, 0, 0, 0, []),
  (171, .iconst (4), 1, false, (4), 0, 0, 0, 0, []),
  (172, .iconst (4), 1, false, (4), 0, 0, 0, 0, []),
  (173, .iconst (1), 1, false, (1), 0, 0, 0, 0, []),
  (174, .invokevirtual 309, 3, false, (0), 40, 9, 5, 0, []),
  (177, .aload_n 0, 1, false, (0), 0, 0, 0, 0, []),
  (178, .bipush (8), 2, false, (8), 0, 0, 0, 0, []),
  (180, .iconst (5), 1, false, (5), 0, 0, 0, 0, []),
  (181, .iconst (1), 1, false, (1), 0, 0, 0, 0, []),
  (182, .iconst (4), 1, false, (4), 0, 0, 0, 0, []),
  (183, .invokevirtual 309, 3, false, (0), 40, 9, 5, 0, []),
  (186, .aload_n 0, 1, false, (0), 0, 0, 0, 0, []),
  (187, .bipush (11), 2, false, (11), 0, 0, 0, 0, []),
  (189, .iconst (5), 1, false, (5), 0, 0, 0, 0, []),
  (190, .iconst (0), 1, false, (0), 0, 0, 0, 0, []),
  (191, .iconst (0), 1, false, (0), 0, 0, 0, 0, []),
  (192, .invokevirtual 309, 3, false, (0), 40, 9, 5, 0, []),
  (195, .return_, 1, false, (0), 0, 0, 0, 0, [])]
def f56 : sm_I := (⟨"TypedMillModel", "writeBody", "(I)V"⟩, prog_11_method_43_code, 5, none, 1, false, 9, c56)
def c57 : List sm_R := [
  (0, .aload_n 0, 1, false, (0), 0, 0, 0, 0, []),
  (1, .iconst (0), 1, false, (0), 0, 0, 0, 0, []),
  (2, .putfield 284, 3, false, (0), 9, 47, 0, 0, []),
  (5, .aload_n 0, 1, false, (0), 0, 0, 0, 0, []),
  (6, .iconst (0), 1, false, (0), 0, 0, 0, 0, []),
  (7, .putfield 288, 3, false, (0), 9, 39, 0, 0, []),
  (10, .aload_n 0, 1, false, (0), 0, 0, 0, 0, []),
  (11, .iconst (0), 1, false, (0), 0, 0, 0, 0, []),
  (12, .putfield 294, 3, false, (0), 9, 52, 0, 0, []),
  (15, .aload_n 0, 1, false, (0), 0, 0, 0, 0, []),
  (16, .iconst (0), 1, false, (0), 0, 0, 0, 0, []),
  (17, .putfield 327, 3, false, (0), 9, 53, 0, 0, []),
  (20, .aload_n 0, 1, false, (0), 0, 0, 0, 0, []),
  (21, .iconst (0), 1, false, (0), 0, 0, 0, 0, []),
  (22, .putfield 306, 3, false, (0), 9, 49, 0, 0, []),
  (25, .aload_n 0, 1, false, (0), 0, 0, 0, 0, []),
  (26, .iconst (1), 1, false, (1), 0, 0, 0, 0, []),
  (27, .putfield 297, 3, false, (0), 9, 50, 0, 0, []),
  (30, .aload_n 0, 1, false, (0), 0, 0, 0, 0, []),
  (31, .iconst (0), 1, false, (0), 0, 0, 0, 0, []),
  (32, .putfield 300, 3, false, (0), 9, 51, 0, 0, []),
  (35, .aload_n 0, 1, false, (0), 0, 0, 0, 0, []),
  (36, .getfield 130, 3, false, (0), 9, 61, 0, 0, []),
  (39, .iconst (0), 1, false, (0), 0, 0, 0, 0, []),
  (40, .iconst (0), 1, false, (0), 0, 0, 0, 0, []),
  (41, .iastore, 1, false, (0), 0, 0, 0, 0, []),
  (42, .aload_n 0, 1, false, (0), 0, 0, 0, 0, []),
  (43, .getfield 133, 3, false, (0), 9, 62, 0, 0, []),
  (46, .iconst (0), 1, false, (0), 0, 0, 0, 0, []),
  (47, .iconst (0), 1, false, (0), 0, 0, 0, 0, []),
  (48, .bastore, 1, false, (0), 0, 0, 0, 0, []),
  (49, .aload_n 0, 1, false, (0), 0, 0, 0, 0, []),
  (50, .getfield 124, 3, false, (0), 9, 59, 0, 0, []),
  (53, .iconst (0), 1, false, (0), 0, 0, 0, 0, []),
  (54, .iconst (0), 1, false, (0), 0, 0, 0, 0, []),
  (55, .iastore, 1, false, (0), 0, 0, 0, 0, []),
  (56, .aload_n 0, 1, false, (0), 0, 0, 0, 0, []),
  (57, .aload_n 0, 1, false, (0), 0, 0, 0, 0, []),
  (58, .invokevirtual 324, 3, false, (0), 41, 9, 1, 0, [(0, 0)]),
  (61, .iconst (0), 1, false, (0), 0, 0, 0, 0, []),
  (62, .iconst (-1), 1, false, (-1), 0, 0, 0, 0, []),
  (63, .iconst (-1), 1, false, (-1), 0, 0, 0, 0, []),
  (64, .invokevirtual 340, 3, false, (0), 42, 9, 5, 0, []),
  (67, .aload_n 0, 1, false, (0), 0, 0, 0, 0, []),
  (68, .iload_n 1, 1, false, (0), 1, 0, 0, 0, []),
  (69, .invokevirtual 362, 3, false, (0), 55, 9, 2, 0, []),
  (72, .aload_n 0, 1, false, (0), 0, 0, 0, 0, []),
  (73, .bipush (12), 2, false, (12), 0, 0, 0, 0, []),
  (75, .iconst (0), 1, false, (0), 0, 0, 0, 0, []),
  (76, .iconst (0), 1, false, (0), 0, 0, 0, 0, []),
  (77, .iconst (0), 1, false, (0), 0, 0, 0, 0, []),
  (78, .invokevirtual 309, 3, false, (0), 40, 9, 5, 0, []),
  (81, .iconst (0), 1, false, (0), 0, 0, 0, 0, []),
  (82, .istore_n 2, 1, false, (0), 2, 0, 0, 0, []),
  (83, .iload_n 2, 1, true, (0), 2, 0, 0, 0, []),
  (84, .aload_n 0, 1, false, (0), 0, 0, 0, 0, []),
  (85, .getfield 327, 3, false, (0), 9, 53, 0, 0, []),
  (88, .if_icmp .ge (21), 3, false, (0), 66, 0, 0, 0, []),
  (91, .aload_n 0, 1, false, (0), 0, 0, 0, 0, []),
  (92, .getfield 284, 3, false, (0), 9, 47, 0, 0, []),
  (95, .ifCond .ne (14), 3, false, (0), 66, 0, 0, 0, []),
  (98, .aload_n 0, 1, false, (0), 0, 0, 0, 0, []),
  (99, .iload_n 2, 1, false, (0), 2, 0, 0, 0, []),
  (100, .invokevirtual 365, 3, false, (0), 56, 9, 2, 0, []),
  (103, .iinc 2 (1), 3, false, (1), 2, 0, 0, 0, []),
  (106, .goto (-23), 3, false, (0), 54, 0, 0, 0, []),
  (109, .aload_n 0, 1, true, (0), 0, 0, 0, 0, []),
  (110, .getfield 284, 3, false, (0), 9, 47, 0, 0, []),
  (113, .ifCond .ne (7), 3, false, (0), 71, 0, 0, 0, []),
  (116, .iconst (1), 1, false, (1), 0, 0, 0, 0, []),
  (117, .goto (4), 3, false, (0), 72, 0, 0, 0, []),
  (120, .iconst (0), 1, false, (0), 0, 0, 0, 0, []),
  (121, .ireturn, 1, true, (0), 0, 0, 0, 0, [])]
def f57 : sm_I := (⟨"TypedMillModel", "writeProgram", "(I)Z"⟩, prog_11_method_44_code, 3, (some .boolean), 1, false, 9, c57)
def c58 : List sm_R := [
  (0, .iconst (0), 1, false, (0), 0, 0, 0, 0, []),
  (1, .istore_n 3, 1, false, (0), 3, 0, 0, 0, []),
  (2, .iload_n 3, 1, true, (0), 3, 0, 0, 0, []),
  (3, .iload_n 2, 1, false, (0), 2, 0, 0, 0, []),
  (4, .if_icmp .ge (15), 3, false, (0), 13, 0, 0, 0, []),
  (7, .aload_n 1, 1, false, (0), 1, 0, 0, 0, []),
  (8, .iload_n 3, 1, false, (0), 3, 0, 0, 0, []),
  (9, .aload_n 0, 1, false, (0), 0, 0, 0, 0, []),
  (10, .iload_n 3, 1, false, (0), 3, 0, 0, 0, []),
  (11, .iaload, 1, false, (0), 0, 0, 0, 0, []),
  (12, .iastore, 1, false, (0), 0, 0, 0, 0, []),
  (13, .iinc 3 (1), 3, false, (1), 3, 0, 0, 0, []),
  (16, .goto (-14), 3, false, (0), 2, 0, 0, 0, []),
  (19, .return_, 1, false, (0), 0, 0, 0, 0, [])]
def f58 : sm_I := (⟨"TypedMillModel", "copy", "([I[II)V"⟩, prog_11_method_45_code, 4, none, 3, true, 9, c58)
def c59 : List sm_R := [
  (0, .iload_n 1, 1, false, (0), 1, 0, 0, 0, []),
  (1, .ifCond .eq (10), 3, false, (0), 5, 0, 0, 0, []),
  (4, .aload_n 0, 1, false, (0), 0, 0, 0, 0, []),
  (5, .getfield 167, 3, false, (0), 9, 77, 0, 0, []),
  (8, .goto (7), 3, false, (0), 7, 0, 0, 0, []),
  (11, .aload_n 0, 1, false, (0), 0, 0, 0, 0, []),
  (12, .getfield 91, 3, false, (0), 9, 40, 0, 0, []),
  (15, .iload_n 1, 1, false, (0), 1, 0, 0, 0, []),
  (16, .ifCond .eq (10), 3, false, (0), 12, 0, 0, 0, []),
  (19, .aload_n 0, 1, false, (0), 0, 0, 0, 0, []),
  (20, .getfield 91, 3, false, (0), 9, 40, 0, 0, []),
  (23, .goto (7), 3, false, (0), 14, 0, 0, 0, []),
  (26, .aload_n 0, 1, false, (0), 0, 0, 0, 0, []),
  (27, .getfield 167, 3, false, (0), 9, 77, 0, 0, []),
  (30, .sipush (301), 3, false, (301), 0, 0, 0, 0, []),
  (33, .invokestatic 368, 3, false, (0), 58, 0, 3, 0, []),
  (36, .iload_n 1, 1, false, (0), 1, 0, 0, 0, []),
  (37, .ifCond .eq (10), 3, false, (0), 21, 0, 0, 0, []),
  (40, .aload_n 0, 1, false, (0), 0, 0, 0, 0, []),
  (41, .getfield 170, 3, false, (0), 9, 78, 0, 0, []),
  (44, .goto (7), 3, false, (0), 23, 0, 0, 0, []),
  (47, .aload_n 0, 1, false, (0), 0, 0, 0, 0, []),
  (48, .getfield 94, 3, false, (0), 9, 41, 0, 0, []),
  (51, .iload_n 1, 1, false, (0), 1, 0, 0, 0, []),
  (52, .ifCond .eq (10), 3, false, (0), 28, 0, 0, 0, []),
  (55, .aload_n 0, 1, false, (0), 0, 0, 0, 0, []),
  (56, .getfield 94, 3, false, (0), 9, 41, 0, 0, []),
  (59, .goto (7), 3, false, (0), 30, 0, 0, 0, []),
  (62, .aload_n 0, 1, false, (0), 0, 0, 0, 0, []),
  (63, .getfield 170, 3, false, (0), 9, 78, 0, 0, []),
  (66, .sipush (301), 3, false, (301), 0, 0, 0, 0, []),
  (69, .invokestatic 368, 3, false, (0), 58, 0, 3, 0, []),
  (72, .iload_n 1, 1, false, (0), 1, 0, 0, 0, []),
  (73, .ifCond .eq (10), 3, false, (0), 37, 0, 0, 0, []),
  (76, .aload_n 0, 1, false, (0), 0, 0, 0, 0, []),
  (77, .getfield 173, 3, false, (0), 9, 79, 0, 0, []),
  (80, .goto (7), 3, false, (0), 39, 0, 0, 0, []),
  (83, .aload_n 0, 1, false, (0), 0, 0, 0, 0, []),
  (84, .getfield 97, 3, false, (0), 9, 42, 0, 0, []),
  (87, .iload_n 1, 1, false, (0), 1, 0, 0, 0, []),
  (88, .ifCond .eq (10), 3, false, (0), 44, 0, 0, 0, []),
  (91, .aload_n 0, 1, false, (0), 0, 0, 0, 0, []),
  (92, .getfield 97, 3, false, (0), 9, 42, 0, 0, []),
  (95, .goto (7), 3, false, (0), 46, 0, 0, 0, []),
  (98, .aload_n 0, 1, false, (0), 0, 0, 0, 0, []),
  (99, .getfield 173, 3, false, (0), 9, 79, 0, 0, []),
  (102, .sipush (301), 3, false, (301), 0, 0, 0, 0, []),
  (105, .invokestatic 368, 3, false, (0), 58, 0, 3, 0, []),
  (108, .iload_n 1, 1, false, (0), 1, 0, 0, 0, []),
  (109, .ifCond .eq (10), 3, false, (0), 53, 0, 0, 0, []),
  (112, .aload_n 0, 1, false, (0), 0, 0, 0, 0, []),
  (113, .getfield 176, 3, false, (0), 9, 80, 0, 0, []),
  (116, .goto (7), 3, false, (0), 55, 0, 0, 0, []),
  (119, .aload_n 0, 1, false, (0), 0, 0, 0, 0, []),
  (120, .getfield 100, 3, false, (0), 9, 43, 0, 0, []),
  (123, .iload_n 1, 1, false, (0), 1, 0, 0, 0, []),
  (124, .ifCond .eq (10), 3, false, (0), 60, 0, 0, 0, []),
  (127, .aload_n 0, 1, false, (0), 0, 0, 0, 0, []),
  (128, .getfield 100, 3, false, (0), 9, 43, 0, 0, []),
  (131, .goto (7), 3, false, (0), 62, 0, 0, 0, []),
  (134, .aload_n 0, 1, false, (0), 0, 0, 0, 0, []),
  (135, .getfield 176, 3, false, (0), 9, 80, 0, 0, []),
  (138, .sipush (301), 3, false, (301), 0, 0, 0, 0, []),
  (141, .invokestatic 368, 3, false, (0), 58, 0, 3, 0, []),
  (144, .iload_n 1, 1, false, (0), 1, 0, 0, 0, []),
  (145, .ifCond .eq (10), 3, false, (0), 69, 0, 0, 0, []),
  (148, .aload_n 0, 1, false, (0), 0, 0, 0, 0, []),
  (149, .getfield 179, 3, false, (0), 9, 81, 0, 0, []),
  (152, .goto (7), 3, false, (0), 71, 0, 0, 0, []),
  (155, .aload_n 0, 1, false, (0), 0, 0, 0, 0, []),
  (156, .getfield 103, 3, false, (0), 9, 44, 0, 0, []),
  (159, .iload_n 1, 1, false, (0), 1, 0, 0, 0, []),
  (160, .ifCond .eq (10), 3, false, (0), 76, 0, 0, 0, []),
  (163, .aload_n 0, 1, false, (0), 0, 0, 0, 0, []),
  (164, .getfield 103, 3, false, (0), 9, 44, 0, 0, []),
  (167, .goto (7), 3, false, (0), 78, 0, 0, 0, []),
  (170, .aload_n 0, 1, false, (0), 0, 0, 0, 0, []),
  (171, .getfield 179, 3, false, (0), 9, 81, 0, 0, []),
  (174, .bipush (41), 2, false, (41), 0, 0, 0, 0, []),
  (176, .invokestatic 368, 3, false, (0), 58, 0, 3, 0, []),
  (179, .iload_n 1, 1, false, (0), 1, 0, 0, 0, []),
  (180, .ifCond .eq (10), 3, false, (0), 85, 0, 0, 0, []),
  (183, .aload_n 0, 1, false, (0), 0, 0, 0, 0, []),
  (184, .getfield 182, 3, false, (0), 9, 82, 0, 0, []),
  (187, .goto (7), 3, false, (0), 87, 0, 0, 0, []),
  (190, .aload_n 0, 1, false, (0), 0, 0, 0, 0, []),
  (191, .getfield 106, 3, false, (0), 9, 45, 0, 0, []),
  (194, .iload_n 1, 1, false, (0), 1, 0, 0, 0, []),
  (195, .ifCond .eq (10), 3, false, (0), 92, 0, 0, 0, []),
  (198, .aload_n 0, 1, false, (0), 0, 0, 0, 0, []),
  (199, .getfield 106, 3, false, (0), 9, 45, 0, 0, []),
  (202, .goto (7), 3, false, (0), 94, 0, 0, 0, []),
  (205, .aload_n 0, 1, false, (0), 0, 0, 0, 0, []),
  (206, .getfield 182, 3, false, (0), 9, 82, 0, 0, []),
  (209, .bipush (41), 2, false, (41), 0, 0, 0, 0, []),
  (211, .invokestatic 368, 3, false, (0), 58, 0, 3, 0, []),
  (214, .iload_n 1, 1, false, (0), 1, 0, 0, 0, []),
  (215, .ifCond .eq (10), 3, false, (0), 101, 0, 0, 0, []),
  (218, .aload_n 0, 1, false, (0), 0, 0, 0, 0, []),
  (219, .getfield 185, 3, false, (0), 9, 83, 0, 0, []),
  (222, .goto (7), 3, false, (0), 103, 0, 0, 0, []),
  (225, .aload_n 0, 1, false, (0), 0, 0, 0, 0, []),
  (226, .getfield 109, 3, false, (0), 9, 46, 0, 0, []),
  (229, .iload_n 1, 1, false, (0), 1, 0, 0, 0, []),
  (230, .ifCond .eq (10), 3, false, (0), 108, 0, 0, 0, []),
  (233, .aload_n 0, 1, false, (0), 0, 0, 0, 0, []),
  (234, .getfield 109, 3, false, (0), 9, 46, 0, 0, []),
  (237, .goto (7), 3, false, (0), 110, 0, 0, 0, []),
  (240, .aload_n 0, 1, false, (0), 0, 0, 0, 0, []),
  (241, .getfield 185, 3, false, (0), 9, 83, 0, 0, []),
  (244, .bipush (123), 2, false, (123), 0, 0, 0, 0, []),
  (246, .invokestatic 368, 3, false, (0), 58, 0, 3, 0, []),
  (249, .return_, 1, false, (0), 0, 0, 0, 0, [])]
def f59 : sm_I := (⟨"TypedMillModel", "keep", "(Z)V"⟩, prog_11_method_46_code, 2, none, 1, false, 9, c59)
def c79 : List sm_R := [
  (0, .aload_n 0, 1, false, (0), 0, 0, 0, 0, []),
  (1, .iconst (0), 1, false, (0), 0, 0, 0, 0, []),
  (2, .putfield 421, 3, false, (0), 9, 66, 0, 0, []),
  (5, .aload_n 0, 1, false, (0), 0, 0, 0, 0, []),
  (6, .iconst (0), 1, false, (0), 0, 0, 0, 0, []),
  (7, .putfield 424, 3, false, (0), 9, 69, 0, 0, []),
  (10, .iconst (1), 1, false, (1), 0, 0, 0, 0, []),
  (11, .istore_n 1, 1, false, (0), 1, 0, 0, 0, []),
  (12, .iload_n 1, 1, true, (0), 1, 0, 0, 0, []),
  (13, .bipush (6), 2, false, (6), 0, 0, 0, 0, []),
  (15, .if_icmp .ge (32), 3, false, (0), 28, 0, 0, 0, []),
  (18, .aload_n 0, 1, false, (0), 0, 0, 0, 0, []),
  (19, .getfield 146, 3, false, (0), 9, 70, 0, 0, []),
  (22, .iload_n 1, 1, false, (0), 1, 0, 0, 0, []),
  (23, .iload_n 1, 1, false, (0), 1, 0, 0, 0, []),
  (24, .iconst (1), 1, false, (1), 0, 0, 0, 0, []),
  (25, .if_icmp .ne (7), 3, false, (0), 19, 0, 0, 0, []),
  (28, .iconst (1), 1, false, (1), 0, 0, 0, 0, []),
  (29, .goto (4), 3, false, (0), 20, 0, 0, 0, []),
  (32, .iconst (0), 1, false, (0), 0, 0, 0, 0, []),
  (33, .iastore, 1, true, (0), 0, 0, 0, 0, []),
  (34, .aload_n 0, 1, false, (0), 0, 0, 0, 0, []),
  (35, .getfield 149, 3, false, (0), 9, 71, 0, 0, []),
  (38, .iload_n 1, 1, false, (0), 1, 0, 0, 0, []),
  (39, .iconst (0), 1, false, (0), 0, 0, 0, 0, []),
  (40, .iastore, 1, false, (0), 0, 0, 0, 0, []),
  (41, .iinc 1 (1), 3, false, (1), 1, 0, 0, 0, []),
  (44, .goto (-32), 3, false, (0), 8, 0, 0, 0, []),
  (47, .aload_n 0, 1, false, (0), 0, 0, 0, 0, []),
  (48, .iconst (0), 1, false, (0), 0, 0, 0, 0, []),
  (49, .putfield 427, 3, false, (0), 9, 67, 0, 0, []),
  (52, .aload_n 0, 1, false, (0), 0, 0, 0, 0, []),
  (53, .iconst (-1), 1, false, (-1), 0, 0, 0, 0, []),
  (54, .putfield 430, 3, false, (0), 9, 68, 0, 0, []),
  (57, .return_, 1, false, (0), 0, 0, 0, 0, [])]
def f79 : sm_I := (⟨"TypedMillModel", "restart", "()V"⟩, prog_11_method_66_code, 2, none, 0, false, 9, c79)
def c60 : List sm_R := [
  (0, .aload_n 0, 1, false, (0), 0, 0, 0, 0, []),
  (1, .iconst (0), 1, false, (0), 0, 0, 0, 0, []),
  (2, .putfield 199, 3, false, (0), 9, 0, 0, 0, []),
  (5, .aload_n 0, 1, false, (0), 0, 0, 0, 0, []),
  (6, .iload_n 1, 1, false, (0), 1, 0, 0, 0, []),
  (7, .invokevirtual 222, 3, false, (0), 24, 9, 2, 0, [(0, 0)]),
  (10, .ifCond .ne (9), 3, false, (0), 11, 0, 0, 0, []),
  (13, .aload_n 0, 1, false, (0), 0, 0, 0, 0, []),
  (14, .iconst (1), 1, false, (1), 0, 0, 0, 0, []),
  (15, .invokevirtual 275, 3, false, (0), 16, 9, 2, 0, [(0, 0)]),
  (18, .ireturn, 1, false, (0), 0, 0, 0, 0, []),
  (19, .aload_n 0, 1, false, (0), 0, 0, 0, 0, []),
  (20, .iload_n 1, 1, false, (0), 1, 0, 0, 0, []),
  (21, .invokevirtual 278, 3, false, (0), 30, 9, 2, 0, [(0, 0)]),
  (24, .ifCond .ne (9), 3, false, (0), 19, 0, 0, 0, []),
  (27, .aload_n 0, 1, false, (0), 0, 0, 0, 0, []),
  (28, .iconst (2), 1, false, (2), 0, 0, 0, 0, []),
  (29, .invokevirtual 275, 3, false, (0), 16, 9, 2, 0, [(0, 0)]),
  (32, .ireturn, 1, false, (0), 0, 0, 0, 0, []),
  (33, .aload_n 0, 1, false, (0), 0, 0, 0, 0, []),
  (34, .getfield 202, 3, false, (0), 9, 1, 0, 0, []),
  (37, .istore_n 2, 1, false, (0), 2, 0, 0, 0, []),
  (38, .aload_n 0, 1, false, (0), 0, 0, 0, 0, []),
  (39, .getfield 288, 3, false, (0), 9, 39, 0, 0, []),
  (42, .istore_n 3, 1, false, (0), 3, 0, 0, 0, []),
  (43, .aload_n 0, 1, false, (0), 0, 0, 0, 0, []),
  (44, .iconst (0), 1, false, (0), 0, 0, 0, 0, []),
  (45, .invokevirtual 372, 3, false, (0), 59, 9, 2, 0, []),
  (48, .aload_n 0, 1, false, (0), 0, 0, 0, 0, []),
  (49, .iload_n 1, 1, false, (0), 1, 0, 0, 0, []),
  (50, .invokevirtual 375, 3, false, (0), 57, 9, 2, 0, [(0, 0)]),
  (53, .ifCond .ne (24), 3, false, (0), 45, 0, 0, 0, []),
  (56, .aload_n 0, 1, false, (0), 0, 0, 0, 0, []),
  (57, .iload_n 2, 1, false, (0), 2, 0, 0, 0, []),
  (58, .putfield 202, 3, false, (0), 9, 1, 0, 0, []),
  (61, .aload_n 0, 1, false, (0), 0, 0, 0, 0, []),
  (62, .iload_n 3, 1, false, (0), 3, 0, 0, 0, []),
  (63, .putfield 288, 3, false, (0), 9, 39, 0, 0, []),
  (66, .aload_n 0, 1, false, (0), 0, 0, 0, 0, []),
  (67, .iconst (1), 1, false, (1), 0, 0, 0, 0, []),
  (68, .invokevirtual 372, 3, false, (0), 59, 9, 2, 0, []),
  (71, .aload_n 0, 1, false, (0), 0, 0, 0, 0, []),
  (72, .iconst (3), 1, false, (3), 0, 0, 0, 0, []),
  (73, .invokevirtual 275, 3, false, (0), 16, 9, 2, 0, [(0, 0)]),
  (76, .ireturn, 1, false, (0), 0, 0, 0, 0, []),
  (77, .aload_n 0, 1, false, (0), 0, 0, 0, 0, []),
  (78, .iconst (0), 1, false, (0), 0, 0, 0, 0, []),
  (79, .putfield 202, 3, false, (0), 9, 1, 0, 0, []),
  (82, .iconst (0), 1, false, (0), 0, 0, 0, 0, []),
  (83, .istore 4, 2, false, (0), 4, 0, 0, 0, []),
  (85, .iload 4, 2, true, (0), 4, 0, 0, 0, []),
  (87, .aload_n 0, 1, false, (0), 0, 0, 0, 0, []),
  (88, .getfield 192, 3, false, (0), 9, 7, 0, 0, []),
  (91, .if_icmp .ge (60), 3, false, (0), 84, 0, 0, 0, []),
  (94, .aload_n 0, 1, false, (0), 0, 0, 0, 0, []),
  (95, .getfield 25, 3, false, (0), 9, 8, 0, 0, []),
  (98, .iload 4, 2, false, (0), 4, 0, 0, 0, []),
  (100, .aload_n 0, 1, false, (0), 0, 0, 0, 0, []),
  (101, .aload_n 0, 1, false, (0), 0, 0, 0, 0, []),
  (102, .getfield 28, 3, false, (0), 9, 9, 0, 0, []),
  (105, .iload 4, 2, false, (0), 4, 0, 0, 0, []),
  (107, .iaload, 1, false, (0), 0, 0, 0, 0, []),
  (108, .aload_n 0, 1, false, (0), 0, 0, 0, 0, []),
  (109, .aload_n 0, 1, false, (0), 0, 0, 0, 0, []),
  (110, .getfield 31, 3, false, (0), 9, 10, 0, 0, []),
  (113, .iload 4, 2, false, (0), 4, 0, 0, 0, []),
  (115, .iaload, 1, false, (0), 0, 0, 0, 0, []),
  (116, .invokevirtual 213, 3, false, (0), 20, 9, 2, 0, [(0, 0)]),
  (119, .aload_n 0, 1, false, (0), 0, 0, 0, 0, []),
  (120, .aload_n 0, 1, false, (0), 0, 0, 0, 0, []),
  (121, .getfield 34, 3, false, (0), 9, 11, 0, 0, []),
  (124, .iload 4, 2, false, (0), 4, 0, 0, 0, []),
  (126, .iaload, 1, false, (0), 0, 0, 0, 0, []),
  (127, .invokevirtual 213, 3, false, (0), 20, 9, 2, 0, [(0, 0)]),
  (130, .aload_n 0, 1, false, (0), 0, 0, 0, 0, []),
  (131, .aload_n 0, 1, false, (0), 0, 0, 0, 0, []),
  (132, .getfield 37, 3, false, (0), 9, 12, 0, 0, []),
  (135, .iload 4, 2, false, (0), 4, 0, 0, 0, []),
  (137, .iaload, 1, false, (0), 0, 0, 0, 0, []),
  (138, .invokevirtual 213, 3, false, (0), 20, 9, 2, 0, [(0, 0)]),
  (141, .invokevirtual 188, 3, false, (0), 18, 9, 5, 0, [(0, 0)]),
  (144, .iastore, 1, false, (0), 0, 0, 0, 0, []),
  (145, .iinc 4 (1), 3, false, (1), 4, 0, 0, 0, []),
  (148, .goto (-63), 3, false, (0), 50, 0, 0, 0, []),
  (151, .aload_n 0, 1, false, (0), 0, 0, 0, 0, []),
  (152, .iload_n 1, 1, false, (0), 1, 0, 0, 0, []),
  (153, .invokevirtual 375, 3, false, (0), 57, 9, 2, 0, [(0, 0)]),
  (156, .pop, 1, false, (0), 0, 0, 0, 0, []),
  (157, .aload_n 0, 1, false, (0), 0, 0, 0, 0, []),
  (158, .aload_n 0, 1, false, (0), 0, 0, 0, 0, []),
  (159, .getfield 294, 3, false, (0), 9, 52, 0, 0, []),
  (162, .putfield 378, 3, false, (0), 9, 38, 0, 0, []),
  (165, .aload_n 0, 1, false, (0), 0, 0, 0, 0, []),
  (166, .iconst (1), 1, false, (1), 0, 0, 0, 0, []),
  (167, .putfield 381, 3, false, (0), 9, 37, 0, 0, []),
  (170, .aload_n 0, 1, false, (0), 0, 0, 0, 0, []),
  (171, .invokevirtual 196, 3, false, (0), 79, 9, 1, 0, []),
  (174, .aload_n 0, 1, false, (0), 0, 0, 0, 0, []),
  (175, .getfield 288, 3, false, (0), 9, 39, 0, 0, []),
  (178, .ireturn, 1, false, (0), 0, 0, 0, 0, [])]
def f60 : sm_I := (⟨"TypedMillModel", "compile", "(I)I"⟩, prog_11_method_47_code, 5, (some .int), 1, false, 9, c60)
def c61 : List sm_R := [
  (0, .aload_n 0, 1, false, (0), 0, 0, 0, 0, []),
  (1, .iconst (0), 1, false, (0), 0, 0, 0, 0, []),
  (2, .putfield 199, 3, false, (0), 9, 0, 0, 0, []),
  (5, .aload_n 0, 1, false, (0), 0, 0, 0, 0, []),
  (6, .iconst (0), 1, false, (0), 0, 0, 0, 0, []),
  (7, .putfield 378, 3, false, (0), 9, 38, 0, 0, []),
  (10, .aload_n 0, 1, false, (0), 0, 0, 0, 0, []),
  (11, .iconst (0), 1, false, (0), 0, 0, 0, 0, []),
  (12, .putfield 288, 3, false, (0), 9, 39, 0, 0, []),
  (15, .aload_n 0, 1, false, (0), 0, 0, 0, 0, []),
  (16, .iconst (0), 1, false, (0), 0, 0, 0, 0, []),
  (17, .putfield 381, 3, false, (0), 9, 37, 0, 0, []),
  (20, .aload_n 0, 1, false, (0), 0, 0, 0, 0, []),
  (21, .invokevirtual 196, 3, false, (0), 79, 9, 1, 0, []),
  (24, .return_, 1, false, (0), 0, 0, 0, 0, [])]
def f61 : sm_I := (⟨"TypedMillModel", "clear", "()V"⟩, prog_11_method_48_code, 1, none, 0, false, 9, c61)
def c62 : List sm_R := [
  (0, .iload_n 1, 1, false, (0), 1, 0, 0, 0, []),
  (1, .iconst (-1), 1, false, (-1), 0, 0, 0, 0, []),
  (2, .if_icmp .eq (11), 3, false, (0), 7, 0, 0, 0, []),
  (5, .aload_n 0, 1, false, (0), 0, 0, 0, 0, []),
  (6, .iload_n 1, 1, false, (0), 1, 0, 0, 0, []),
  (7, .invokevirtual 209, 3, false, (0), 19, 9, 2, 0, [(0, 0)]),
  (10, .ifCond .eq (7), 3, false, (0), 9, 0, 0, 0, []),
  (13, .iconst (1), 1, true, (1), 0, 0, 0, 0, []),
  (14, .goto (4), 3, false, (0), 10, 0, 0, 0, []),
  (17, .iconst (0), 1, false, (0), 0, 0, 0, 0, []),
  (18, .ireturn, 1, true, (0), 0, 0, 0, 0, [])]
def f62 : sm_I := (⟨"TypedMillModel", "isAsked", "(I)Z"⟩, prog_11_method_49_code, 2, (some .boolean), 1, false, 9, c62)
def c63 : List sm_R := [
  (0, .aload_n 0, 1, false, (0), 0, 0, 0, 0, []),
  (1, .iconst (0), 1, false, (0), 0, 0, 0, 0, []),
  (2, .putfield 199, 3, false, (0), 9, 0, 0, 0, []),
  (5, .aload_n 0, 1, false, (0), 0, 0, 0, 0, []),
  (6, .iload_n 1, 1, false, (0), 1, 0, 0, 0, []),
  (7, .invokevirtual 384, 3, false, (0), 62, 9, 2, 0, [(0, 0)]),
  (10, .ifCond .eq (35), 3, false, (0), 22, 0, 0, 0, []),
  (13, .aload_n 0, 1, false, (0), 0, 0, 0, 0, []),
  (14, .iload_n 2, 1, false, (0), 2, 0, 0, 0, []),
  (15, .invokevirtual 384, 3, false, (0), 62, 9, 2, 0, [(0, 0)]),
  (18, .ifCond .eq (27), 3, false, (0), 22, 0, 0, 0, []),
  (21, .aload_n 0, 1, false, (0), 0, 0, 0, 0, []),
  (22, .iload_n 3, 1, false, (0), 3, 0, 0, 0, []),
  (23, .invokevirtual 384, 3, false, (0), 62, 9, 2, 0, [(0, 0)]),
  (26, .ifCond .eq (19), 3, false, (0), 22, 0, 0, 0, []),
  (29, .aload_n 0, 1, false, (0), 0, 0, 0, 0, []),
  (30, .getfield 381, 3, false, (0), 9, 37, 0, 0, []),
  (33, .ifCond .ne (12), 3, false, (0), 22, 0, 0, 0, []),
  (36, .aload_n 0, 1, false, (0), 0, 0, 0, 0, []),
  (37, .getfield 378, 3, false, (0), 9, 38, 0, 0, []),
  (40, .bipush (40), 2, false, (40), 0, 0, 0, 0, []),
  (42, .if_icmp .ne (5), 3, false, (0), 24, 0, 0, 0, []),
  (45, .iconst (-1), 1, true, (-1), 0, 0, 0, 0, []),
  (46, .ireturn, 1, false, (0), 0, 0, 0, 0, []),
  (47, .aload_n 0, 1, false, (0), 0, 0, 0, 0, []),
  (48, .aload_n 0, 1, false, (0), 0, 0, 0, 0, []),
  (49, .getfield 378, 3, false, (0), 9, 38, 0, 0, []),
  (52, .aload_n 0, 1, false, (0), 0, 0, 0, 0, []),
  (53, .iload_n 1, 1, false, (0), 1, 0, 0, 0, []),
  (54, .invokevirtual 213, 3, false, (0), 20, 9, 2, 0, [(0, 0)]),
  (57, .aload_n 0, 1, false, (0), 0, 0, 0, 0, []),
  (58, .iload_n 2, 1, false, (0), 2, 0, 0, 0, []),
  (59, .invokevirtual 213, 3, false, (0), 20, 9, 2, 0, [(0, 0)]),
  (62, .aload_n 0, 1, false, (0), 0, 0, 0, 0, []),
  (63, .iload_n 3, 1, false, (0), 3, 0, 0, 0, []),
  (64, .invokevirtual 213, 3, false, (0), 20, 9, 2, 0, [(0, 0)]),
  (67, .invokevirtual 340, 3, false, (0), 42, 9, 5, 0, []),
  (70, .aload_n 0, 1, false, (0), 0, 0, 0, 0, []),
  (71, .dup, 1, false, (0), 0, 0, 0, 0, []),
  (72, .getfield 378, 3, false, (0), 9, 38, 0, 0, []),
  (75, .iconst (1), 1, false, (1), 0, 0, 0, 0, []),
  (76, .iadd, 1, false, (0), 0, 0, 0, 0, []),
  (77, .putfield 378, 3, false, (0), 9, 38, 0, 0, []),
  (80, .aload_n 0, 1, false, (0), 0, 0, 0, 0, []),
  (81, .invokevirtual 196, 3, false, (0), 79, 9, 1, 0, []),
  (84, .aload_n 0, 1, false, (0), 0, 0, 0, 0, []),
  (85, .getfield 378, 3, false, (0), 9, 38, 0, 0, []),
  (88, .iconst (1), 1, false, (1), 0, 0, 0, 0, []),
  (89, .isub, 1, false, (0), 0, 0, 0, 0, []),
  (90, .ireturn, 1, false, (0), 0, 0, 0, 0, [])]
def f63 : sm_I := (⟨"TypedMillModel", "block", "(III)I"⟩, prog_11_method_50_code, 4, (some .int), 3, false, 9, c63)
def c64 : List sm_R := [
  (0, .iload_n 0, 1, false, (0), 0, 0, 0, 0, []),
  (1, .iconst (1), 1, false, (1), 0, 0, 0, 0, []),
  (2, .if_icmp .lt (12), 3, false, (0), 8, 0, 0, 0, []),
  (5, .iload_n 0, 1, false, (0), 0, 0, 0, 0, []),
  (6, .iconst (5), 1, false, (5), 0, 0, 0, 0, []),
  (7, .if_icmp .gt (7), 3, false, (0), 8, 0, 0, 0, []),
  (10, .iconst (1), 1, false, (1), 0, 0, 0, 0, []),
  (11, .goto (4), 3, false, (0), 9, 0, 0, 0, []),
  (14, .iconst (0), 1, true, (0), 0, 0, 0, 0, []),
  (15, .ireturn, 1, true, (0), 0, 0, 0, 0, [])]
def f64 : sm_I := (⟨"TypedMillModel", "isRegister", "(I)Z"⟩, prog_11_method_51_code, 1, (some .boolean), 1, true, 9, c64)
def c65 : List sm_R := [
  (0, .iload_n 0, 1, false, (0), 0, 0, 0, 0, []),
  (1, .ifCond .lt (13), 3, false, (0), 7, 0, 0, 0, []),
  (4, .iload_n 0, 1, false, (0), 0, 0, 0, 0, []),
  (5, .bipush (40), 2, false, (40), 0, 0, 0, 0, []),
  (7, .if_icmp .ge (7), 3, false, (0), 7, 0, 0, 0, []),
  (10, .iconst (1), 1, false, (1), 0, 0, 0, 0, []),
  (11, .goto (4), 3, false, (0), 8, 0, 0, 0, []),
  (14, .iconst (0), 1, true, (0), 0, 0, 0, 0, []),
  (15, .ireturn, 1, true, (0), 0, 0, 0, 0, [])]
def f65 : sm_I := (⟨"TypedMillModel", "isBlock", "(I)Z"⟩, prog_11_method_52_code, 1, (some .boolean), 1, true, 9, c65)
def c66 : List sm_R := [
  (0, .iload_n 1, 1, false, (0), 1, 0, 0, 0, []),
  (1, .tableswitch (213) (0) (11) #[(63), (68), (68), (68), (68), (96), (127), (147), (68), (208), (127), (63)], 63, false, (0), 78, 0, 0, 0, [((0), 2), ((1), 5), ((2), 5), ((3), 5), ((4), 5), ((5), 18), ((6), 33), ((7), 43), ((8), 5), ((9), 75), ((10), 33), ((11), 2)]),
  (64, .iload_n 2, 1, true, (0), 2, 0, 0, 0, []),
  (65, .invokestatic 387, 3, false, (0), 64, 0, 1, 0, [(0, 0)]),
  (68, .ireturn, 1, false, (0), 0, 0, 0, 0, []),
  (69, .iload_n 2, 1, true, (0), 2, 0, 0, 0, []),
  (70, .invokestatic 387, 3, false, (0), 64, 0, 1, 0, [(0, 0)]),
  (73, .ifCond .eq (22), 3, false, (0), 16, 0, 0, 0, []),
  (76, .iload_n 3, 1, false, (0), 3, 0, 0, 0, []),
  (77, .invokestatic 387, 3, false, (0), 64, 0, 1, 0, [(0, 0)]),
  (80, .ifCond .eq (15), 3, false, (0), 16, 0, 0, 0, []),
  (83, .iload 4, 2, false, (0), 4, 0, 0, 0, []),
  (85, .invokestatic 387, 3, false, (0), 64, 0, 1, 0, [(0, 0)]),
  (88, .ifCond .eq (7), 3, false, (0), 16, 0, 0, 0, []),
  (91, .iconst (1), 1, false, (1), 0, 0, 0, 0, []),
  (92, .goto (4), 3, false, (0), 17, 0, 0, 0, []),
  (95, .iconst (0), 1, true, (0), 0, 0, 0, 0, []),
  (96, .ireturn, 1, true, (0), 0, 0, 0, 0, []),
  (97, .iload_n 2, 1, false, (0), 2, 0, 0, 0, []),
  (98, .invokestatic 387, 3, false, (0), 64, 0, 1, 0, [(0, 0)]),
  (101, .ifCond .eq (25), 3, false, (0), 31, 0, 0, 0, []),
  (104, .iload_n 3, 1, false, (0), 3, 0, 0, 0, []),
  (105, .invokestatic 387, 3, false, (0), 64, 0, 1, 0, [(0, 0)]),
  (108, .ifCond .eq (18), 3, false, (0), 31, 0, 0, 0, []),
  (111, .iload 4, 2, false, (0), 4, 0, 0, 0, []),
  (113, .ifCond .eq (9), 3, false, (0), 29, 0, 0, 0, []),
  (116, .iload 4, 2, false, (0), 4, 0, 0, 0, []),
  (118, .iconst (1), 1, false, (1), 0, 0, 0, 0, []),
  (119, .if_icmp .ne (7), 3, false, (0), 31, 0, 0, 0, []),
  (122, .iconst (1), 1, true, (1), 0, 0, 0, 0, []),
  (123, .goto (4), 3, false, (0), 32, 0, 0, 0, []),
  (126, .iconst (0), 1, true, (0), 0, 0, 0, 0, []),
  (127, .ireturn, 1, true, (0), 0, 0, 0, 0, []),
  (128, .iload_n 2, 1, true, (0), 2, 0, 0, 0, []),
  (129, .invokestatic 387, 3, false, (0), 64, 0, 1, 0, [(0, 0)]),
  (132, .ifCond .eq (14), 3, false, (0), 41, 0, 0, 0, []),
  (135, .iload_n 3, 1, false, (0), 3, 0, 0, 0, []),
  (136, .invokestatic 390, 3, false, (0), 65, 0, 1, 0, [(0, 0)]),
  (139, .ifCond .eq (7), 3, false, (0), 41, 0, 0, 0, []),
  (142, .iconst (1), 1, false, (1), 0, 0, 0, 0, []),
  (143, .goto (4), 3, false, (0), 42, 0, 0, 0, []),
  (146, .iconst (0), 1, true, (0), 0, 0, 0, 0, []),
  (147, .ireturn, 1, true, (0), 0, 0, 0, 0, []),
  (148, .iload_n 2, 1, false, (0), 2, 0, 0, 0, []),
  (149, .invokestatic 387, 3, false, (0), 64, 0, 1, 0, [(0, 0)]),
  (152, .ifCond .eq (55), 3, false, (0), 73, 0, 0, 0, []),
  (155, .iload_n 3, 1, false, (0), 3, 0, 0, 0, []),
  (156, .invokestatic 387, 3, false, (0), 64, 0, 1, 0, [(0, 0)]),
  (159, .ifCond .eq (48), 3, false, (0), 73, 0, 0, 0, []),
  (162, .aload_n 0, 1, false, (0), 0, 0, 0, 0, []),
  (163, .iload 4, 2, false, (0), 4, 0, 0, 0, []),
  (165, .invokevirtual 209, 3, false, (0), 19, 9, 2, 0, [(0, 0)]),
  (168, .ifCond .eq (39), 3, false, (0), 73, 0, 0, 0, []),
  (171, .aload_n 0, 1, false, (0), 0, 0, 0, 0, []),
  (172, .getfield 7, 3, false, (0), 9, 2, 0, 0, []),
  (175, .aload_n 0, 1, false, (0), 0, 0, 0, 0, []),
  (176, .getfield 25, 3, false, (0), 9, 8, 0, 0, []),
  (179, .iload 4, 2, false, (0), 4, 0, 0, 0, []),
  (181, .iaload, 1, false, (0), 0, 0, 0, 0, []),
  (182, .iaload, 1, false, (0), 0, 0, 0, 0, []),
  (183, .iconst (2), 1, false, (2), 0, 0, 0, 0, []),
  (184, .if_icmp .eq (19), 3, false, (0), 71, 0, 0, 0, []),
  (187, .aload_n 0, 1, false, (0), 0, 0, 0, 0, []),
  (188, .getfield 7, 3, false, (0), 9, 2, 0, 0, []),
  (191, .aload_n 0, 1, false, (0), 0, 0, 0, 0, []),
  (192, .getfield 25, 3, false, (0), 9, 8, 0, 0, []),
  (195, .iload 4, 2, false, (0), 4, 0, 0, 0, []),
  (197, .iaload, 1, false, (0), 0, 0, 0, 0, []),
  (198, .iaload, 1, false, (0), 0, 0, 0, 0, []),
  (199, .iconst (3), 1, false, (3), 0, 0, 0, 0, []),
  (200, .if_icmp .ne (7), 3, false, (0), 73, 0, 0, 0, []),
  (203, .iconst (1), 1, true, (1), 0, 0, 0, 0, []),
  (204, .goto (4), 3, false, (0), 74, 0, 0, 0, []),
  (207, .iconst (0), 1, true, (0), 0, 0, 0, 0, []),
  (208, .ireturn, 1, true, (0), 0, 0, 0, 0, []),
  (209, .iload_n 2, 1, false, (0), 2, 0, 0, 0, []),
  (210, .invokestatic 390, 3, false, (0), 65, 0, 1, 0, [(0, 0)]),
  (213, .ireturn, 1, false, (0), 0, 0, 0, 0, []),
  (214, .iconst (1), 1, false, (1), 0, 0, 0, 0, []),
  (215, .ireturn, 1, false, (0), 0, 0, 0, 0, [])]
def f66 : sm_I := (⟨"TypedMillModel", "fits", "(IIII)Z"⟩, prog_11_method_53_code, 5, (some .boolean), 4, false, 9, c66)
def c67 : List sm_R := [
  (0, .aload_n 0, 1, false, (0), 0, 0, 0, 0, []),
  (1, .iconst (0), 1, false, (0), 0, 0, 0, 0, []),
  (2, .putfield 199, 3, false, (0), 9, 0, 0, 0, []),
  (5, .aload_n 0, 1, false, (0), 0, 0, 0, 0, []),
  (6, .getfield 378, 3, false, (0), 9, 38, 0, 0, []),
  (9, .ifCond .eq (42), 3, false, (0), 25, 0, 0, 0, []),
  (12, .aload_n 0, 1, false, (0), 0, 0, 0, 0, []),
  (13, .getfield 381, 3, false, (0), 9, 37, 0, 0, []),
  (16, .ifCond .ne (35), 3, false, (0), 25, 0, 0, 0, []),
  (19, .iload_n 1, 1, false, (0), 1, 0, 0, 0, []),
  (20, .ifCond .lt (31), 3, false, (0), 25, 0, 0, 0, []),
  (23, .iload_n 1, 1, false, (0), 1, 0, 0, 0, []),
  (24, .bipush (12), 2, false, (12), 0, 0, 0, 0, []),
  (26, .if_icmp .gt (25), 3, false, (0), 25, 0, 0, 0, []),
  (29, .aload_n 0, 1, false, (0), 0, 0, 0, 0, []),
  (30, .iload_n 1, 1, false, (0), 1, 0, 0, 0, []),
  (31, .iload_n 2, 1, false, (0), 2, 0, 0, 0, []),
  (32, .iload_n 3, 1, false, (0), 3, 0, 0, 0, []),
  (33, .iload 4, 2, false, (0), 4, 0, 0, 0, []),
  (35, .invokevirtual 393, 3, false, (0), 66, 9, 5, 0, [(0, 0)]),
  (38, .ifCond .eq (13), 3, false, (0), 25, 0, 0, 0, []),
  (41, .aload_n 0, 1, false, (0), 0, 0, 0, 0, []),
  (42, .getfield 288, 3, false, (0), 9, 39, 0, 0, []),
  (45, .sipush (300), 3, false, (300), 0, 0, 0, 0, []),
  (48, .if_icmp .ne (5), 3, false, (0), 27, 0, 0, 0, []),
  (51, .iconst (-1), 1, true, (-1), 0, 0, 0, 0, []),
  (52, .ireturn, 1, false, (0), 0, 0, 0, 0, []),
  (53, .aload_n 0, 1, false, (0), 0, 0, 0, 0, []),
  (54, .iconst (0), 1, false, (0), 0, 0, 0, 0, []),
  (55, .putfield 284, 3, false, (0), 9, 47, 0, 0, []),
  (58, .aload_n 0, 1, false, (0), 0, 0, 0, 0, []),
  (59, .aload_n 0, 1, false, (0), 0, 0, 0, 0, []),
  (60, .getfield 378, 3, false, (0), 9, 38, 0, 0, []),
  (63, .iconst (1), 1, false, (1), 0, 0, 0, 0, []),
  (64, .isub, 1, false, (0), 0, 0, 0, 0, []),
  (65, .putfield 291, 3, false, (0), 9, 54, 0, 0, []),
  (68, .iload_n 1, 1, false, (0), 1, 0, 0, 0, []),
  (69, .bipush (12), 2, false, (12), 0, 0, 0, 0, []),
  (71, .if_icmp .ne (7), 3, false, (0), 41, 0, 0, 0, []),
  (74, .iconst (1), 1, false, (1), 0, 0, 0, 0, []),
  (75, .goto (4), 3, false, (0), 42, 0, 0, 0, []),
  (78, .iconst (0), 1, false, (0), 0, 0, 0, 0, []),
  (79, .istore 5, 2, true, (0), 5, 0, 0, 0, []),
  (81, .iload_n 1, 1, false, (0), 1, 0, 0, 0, []),
  (82, .bipush (9), 2, false, (9), 0, 0, 0, 0, []),
  (84, .if_icmp .eq (9), 3, false, (0), 49, 0, 0, 0, []),
  (87, .iload_n 1, 1, false, (0), 1, 0, 0, 0, []),
  (88, .bipush (11), 2, false, (11), 0, 0, 0, 0, []),
  (90, .if_icmp .ne (7), 3, false, (0), 51, 0, 0, 0, []),
  (93, .iconst (1), 1, true, (1), 0, 0, 0, 0, []),
  (94, .goto (4), 3, false, (0), 52, 0, 0, 0, []),
  (97, .iconst (0), 1, false, (0), 0, 0, 0, 0, []),
  (98, .istore 6, 2, true, (0), 6, 0, 0, 0, []),
  (100, .iload_n 1, 1, false, (0), 1, 0, 0, 0, []),
  (101, .ifCond .eq (15), 3, false, (0), 61, 0, 0, 0, []),
  (104, .iload_n 1, 1, false, (0), 1, 0, 0, 0, []),
  (105, .bipush (6), 2, false, (6), 0, 0, 0, 0, []),
  (107, .if_icmp .eq (9), 3, false, (0), 61, 0, 0, 0, []),
  (110, .iload_n 1, 1, false, (0), 1, 0, 0, 0, []),
  (111, .bipush (10), 2, false, (10), 0, 0, 0, 0, []),
  (113, .if_icmp .ne (7), 3, false, (0), 63, 0, 0, 0, []),
  (116, .iconst (1), 1, true, (1), 0, 0, 0, 0, []),
  (117, .goto (4), 3, false, (0), 64, 0, 0, 0, []),
  (120, .iconst (0), 1, false, (0), 0, 0, 0, 0, []),
  (121, .istore 7, 2, true, (0), 7, 0, 0, 0, []),
  (123, .aload_n 0, 1, false, (0), 0, 0, 0, 0, []),
  (124, .iload_n 1, 1, false, (0), 1, 0, 0, 0, []),
  (125, .iload 5, 2, false, (0), 5, 0, 0, 0, []),
  (127, .ifCond .eq (7), 3, false, (0), 71, 0, 0, 0, []),
  (130, .iconst (0), 1, false, (0), 0, 0, 0, 0, []),
  (131, .goto (4), 3, false, (0), 72, 0, 0, 0, []),
  (134, .iload_n 2, 1, false, (0), 2, 0, 0, 0, []),
  (135, .iload 5, 2, true, (0), 5, 0, 0, 0, []),
  (137, .ifCond .ne (8), 3, false, (0), 76, 0, 0, 0, []),
  (140, .iload 6, 2, false, (0), 6, 0, 0, 0, []),
  (142, .ifCond .eq (7), 3, false, (0), 78, 0, 0, 0, []),
  (145, .iconst (0), 1, true, (0), 0, 0, 0, 0, []),
  (146, .goto (4), 3, false, (0), 79, 0, 0, 0, []),
  (149, .iload_n 3, 1, false, (0), 3, 0, 0, 0, []),
  (150, .iload 5, 2, true, (0), 5, 0, 0, 0, []),
  (152, .ifCond .ne (13), 3, false, (0), 85, 0, 0, 0, []),
  (155, .iload 6, 2, false, (0), 6, 0, 0, 0, []),
  (157, .ifCond .ne (8), 3, false, (0), 85, 0, 0, 0, []),
  (160, .iload 7, 2, false, (0), 7, 0, 0, 0, []),
  (162, .ifCond .eq (7), 3, false, (0), 87, 0, 0, 0, []),
  (165, .iconst (0), 1, true, (0), 0, 0, 0, 0, []),
  (166, .goto (21), 3, false, (0), 96, 0, 0, 0, []),
  (169, .iload_n 1, 1, false, (0), 1, 0, 0, 0, []),
  (170, .bipush (7), 2, false, (7), 0, 0, 0, 0, []),
  (172, .if_icmp .ne (13), 3, false, (0), 95, 0, 0, 0, []),
  (175, .aload_n 0, 1, false, (0), 0, 0, 0, 0, []),
  (176, .getfield 25, 3, false, (0), 9, 8, 0, 0, []),
  (179, .iload 4, 2, false, (0), 4, 0, 0, 0, []),
  (181, .iaload, 1, false, (0), 0, 0, 0, 0, []),
  (182, .goto (5), 3, false, (0), 96, 0, 0, 0, []),
  (185, .iload 4, 2, false, (0), 4, 0, 0, 0, []),
  (187, .invokevirtual 309, 3, true, (0), 40, 9, 5, 0, []),
  (190, .aload_n 0, 1, false, (0), 0, 0, 0, 0, []),
  (191, .invokevirtual 196, 3, false, (0), 79, 9, 1, 0, []),
  (194, .aload_n 0, 1, false, (0), 0, 0, 0, 0, []),
  (195, .getfield 288, 3, false, (0), 9, 39, 0, 0, []),
  (198, .ireturn, 1, false, (0), 0, 0, 0, 0, [])]
def f67 : sm_I := (⟨"TypedMillModel", "add", "(IIII)I"⟩, prog_11_method_54_code, 8, (some .int), 4, false, 9, c67)
def c68 : List sm_R := [
  (0, .iload_n 1, 1, false, (0), 1, 0, 0, 0, []),
  (1, .ifCond .lt (48), 3, false, (0), 28, 0, 0, 0, []),
  (4, .aload_n 0, 1, false, (0), 0, 0, 0, 0, []),
  (5, .getfield 7, 3, false, (0), 9, 2, 0, 0, []),
  (8, .iload_n 1, 1, false, (0), 1, 0, 0, 0, []),
  (9, .iaload, 1, false, (0), 0, 0, 0, 0, []),
  (10, .iconst (4), 1, false, (4), 0, 0, 0, 0, []),
  (11, .if_icmp .ne (38), 3, false, (0), 28, 0, 0, 0, []),
  (14, .aload_n 0, 1, false, (0), 0, 0, 0, 0, []),
  (15, .getfield 13, 3, false, (0), 9, 3, 0, 0, []),
  (18, .iload_n 1, 1, false, (0), 1, 0, 0, 0, []),
  (19, .iaload, 1, false, (0), 0, 0, 0, 0, []),
  (20, .iload_n 2, 1, false, (0), 2, 0, 0, 0, []),
  (21, .if_icmp .ne (28), 3, false, (0), 28, 0, 0, 0, []),
  (24, .aload_n 0, 1, false, (0), 0, 0, 0, 0, []),
  (25, .getfield 16, 3, false, (0), 9, 4, 0, 0, []),
  (28, .iload_n 1, 1, false, (0), 1, 0, 0, 0, []),
  (29, .iaload, 1, false, (0), 0, 0, 0, 0, []),
  (30, .iload_n 3, 1, false, (0), 3, 0, 0, 0, []),
  (31, .if_icmp .ne (18), 3, false, (0), 28, 0, 0, 0, []),
  (34, .aload_n 0, 1, false, (0), 0, 0, 0, 0, []),
  (35, .getfield 19, 3, false, (0), 9, 5, 0, 0, []),
  (38, .iload_n 1, 1, false, (0), 1, 0, 0, 0, []),
  (39, .iaload, 1, false, (0), 0, 0, 0, 0, []),
  (40, .iload 4, 2, false, (0), 4, 0, 0, 0, []),
  (42, .if_icmp .ne (7), 3, false, (0), 28, 0, 0, 0, []),
  (45, .iconst (1), 1, false, (1), 0, 0, 0, 0, []),
  (46, .goto (4), 3, false, (0), 29, 0, 0, 0, []),
  (49, .iconst (0), 1, true, (0), 0, 0, 0, 0, []),
  (50, .ireturn, 1, true, (0), 0, 0, 0, 0, [])]
def f68 : sm_I := (⟨"TypedMillModel", "isCode", "(IIII)Z"⟩, prog_11_method_55_code, 5, (some .boolean), 4, false, 9, c68)
def c69 : List sm_R := [
  (0, .iload_n 1, 1, false, (0), 1, 0, 0, 0, []),
  (1, .ifCond .lt (13), 3, false, (0), 8, 0, 0, 0, []),
  (4, .aload_n 0, 1, false, (0), 0, 0, 0, 0, []),
  (5, .getfield 164, 3, false, (0), 9, 76, 0, 0, []),
  (8, .iconst (1), 1, false, (1), 0, 0, 0, 0, []),
  (9, .iaload, 1, false, (0), 0, 0, 0, 0, []),
  (10, .iload_n 1, 1, false, (0), 1, 0, 0, 0, []),
  (11, .if_icmp .ne (35), 3, false, (0), 26, 0, 0, 0, []),
  (14, .iload_n 2, 1, true, (0), 2, 0, 0, 0, []),
  (15, .ifCond .lt (13), 3, false, (0), 16, 0, 0, 0, []),
  (18, .aload_n 0, 1, false, (0), 0, 0, 0, 0, []),
  (19, .getfield 164, 3, false, (0), 9, 76, 0, 0, []),
  (22, .iconst (2), 1, false, (2), 0, 0, 0, 0, []),
  (23, .iaload, 1, false, (0), 0, 0, 0, 0, []),
  (24, .iload_n 2, 1, false, (0), 2, 0, 0, 0, []),
  (25, .if_icmp .ne (21), 3, false, (0), 26, 0, 0, 0, []),
  (28, .iload_n 3, 1, true, (0), 3, 0, 0, 0, []),
  (29, .ifCond .lt (13), 3, false, (0), 24, 0, 0, 0, []),
  (32, .aload_n 0, 1, false, (0), 0, 0, 0, 0, []),
  (33, .getfield 164, 3, false, (0), 9, 76, 0, 0, []),
  (36, .iconst (3), 1, false, (3), 0, 0, 0, 0, []),
  (37, .iaload, 1, false, (0), 0, 0, 0, 0, []),
  (38, .iload_n 3, 1, false, (0), 3, 0, 0, 0, []),
  (39, .if_icmp .ne (7), 3, false, (0), 26, 0, 0, 0, []),
  (42, .iconst (1), 1, true, (1), 0, 0, 0, 0, []),
  (43, .goto (4), 3, false, (0), 27, 0, 0, 0, []),
  (46, .iconst (0), 1, true, (0), 0, 0, 0, 0, []),
  (47, .ireturn, 1, true, (0), 0, 0, 0, 0, [])]
def f69 : sm_I := (⟨"TypedMillModel", "has", "(III)Z"⟩, prog_11_method_56_code, 4, (some .boolean), 3, false, 9, c69)
def c70 : List sm_R := [
  (0, .iload_n 1, 1, false, (0), 1, 0, 0, 0, []),
  (1, .aload_n 0, 1, false, (0), 0, 0, 0, 0, []),
  (2, .getfield 378, 3, false, (0), 9, 38, 0, 0, []),
  (5, .if_icmp .ge (42), 3, false, (0), 31, 0, 0, 0, []),
  (8, .aload_n 0, 1, false, (0), 0, 0, 0, 0, []),
  (9, .aload_n 0, 1, false, (0), 0, 0, 0, 0, []),
  (10, .getfield 109, 3, false, (0), 9, 46, 0, 0, []),
  (13, .iconst (3), 1, false, (3), 0, 0, 0, 0, []),
  (14, .iload_n 1, 1, false, (0), 1, 0, 0, 0, []),
  (15, .imul, 1, false, (0), 0, 0, 0, 0, []),
  (16, .iaload, 1, false, (0), 0, 0, 0, 0, []),
  (17, .aload_n 0, 1, false, (0), 0, 0, 0, 0, []),
  (18, .getfield 109, 3, false, (0), 9, 46, 0, 0, []),
  (21, .iconst (3), 1, false, (3), 0, 0, 0, 0, []),
  (22, .iload_n 1, 1, false, (0), 1, 0, 0, 0, []),
  (23, .imul, 1, false, (0), 0, 0, 0, 0, []),
  (24, .iconst (1), 1, false, (1), 0, 0, 0, 0, []),
  (25, .iadd, 1, false, (0), 0, 0, 0, 0, []),
  (26, .iaload, 1, false, (0), 0, 0, 0, 0, []),
  (27, .aload_n 0, 1, false, (0), 0, 0, 0, 0, []),
  (28, .getfield 109, 3, false, (0), 9, 46, 0, 0, []),
  (31, .iconst (3), 1, false, (3), 0, 0, 0, 0, []),
  (32, .iload_n 1, 1, false, (0), 1, 0, 0, 0, []),
  (33, .imul, 1, false, (0), 0, 0, 0, 0, []),
  (34, .iconst (2), 1, false, (2), 0, 0, 0, 0, []),
  (35, .iadd, 1, false, (0), 0, 0, 0, 0, []),
  (36, .iaload, 1, false, (0), 0, 0, 0, 0, []),
  (37, .invokevirtual 397, 3, false, (0), 69, 9, 4, 0, [(0, 0)]),
  (40, .ifCond .eq (7), 3, false, (0), 31, 0, 0, 0, []),
  (43, .iconst (1), 1, false, (1), 0, 0, 0, 0, []),
  (44, .goto (4), 3, false, (0), 32, 0, 0, 0, []),
  (47, .iconst (0), 1, true, (0), 0, 0, 0, 0, []),
  (48, .ireturn, 1, true, (0), 0, 0, 0, 0, [])]
def f70 : sm_I := (⟨"TypedMillModel", "hasBlock", "(I)Z"⟩, prog_11_method_57_code, 2, (some .boolean), 1, false, 9, c70)
def c71 : List sm_R := [
  (0, .iload_n 1, 1, false, (0), 1, 0, 0, 0, []),
  (1, .ifCond .lt (13), 3, false, (0), 8, 0, 0, 0, []),
  (4, .aload_n 0, 1, false, (0), 0, 0, 0, 0, []),
  (5, .getfield 7, 3, false, (0), 9, 2, 0, 0, []),
  (8, .iload_n 1, 1, false, (0), 1, 0, 0, 0, []),
  (9, .iaload, 1, false, (0), 0, 0, 0, 0, []),
  (10, .iconst (1), 1, false, (1), 0, 0, 0, 0, []),
  (11, .if_icmp .eq (5), 3, false, (0), 10, 0, 0, 0, []),
  (14, .iconst (0), 1, true, (0), 0, 0, 0, 0, []),
  (15, .ireturn, 1, false, (0), 0, 0, 0, 0, []),
  (16, .aload_n 0, 1, false, (0), 0, 0, 0, 0, []),
  (17, .getfield 7, 3, false, (0), 9, 2, 0, 0, []),
  (20, .iload_n 2, 1, false, (0), 2, 0, 0, 0, []),
  (21, .iaload, 1, false, (0), 0, 0, 0, 0, []),
  (22, .iconst (2), 1, false, (2), 0, 0, 0, 0, []),
  (23, .if_icmp .ne (41), 3, false, (0), 40, 0, 0, 0, []),
  (26, .aload_n 0, 1, false, (0), 0, 0, 0, 0, []),
  (27, .aload_n 0, 1, false, (0), 0, 0, 0, 0, []),
  (28, .getfield 13, 3, false, (0), 9, 3, 0, 0, []),
  (31, .iload_n 1, 1, false, (0), 1, 0, 0, 0, []),
  (32, .iaload, 1, false, (0), 0, 0, 0, 0, []),
  (33, .aload_n 0, 1, false, (0), 0, 0, 0, 0, []),
  (34, .getfield 16, 3, false, (0), 9, 4, 0, 0, []),
  (37, .iload_n 1, 1, false, (0), 1, 0, 0, 0, []),
  (38, .iaload, 1, false, (0), 0, 0, 0, 0, []),
  (39, .aload_n 0, 1, false, (0), 0, 0, 0, 0, []),
  (40, .getfield 13, 3, false, (0), 9, 3, 0, 0, []),
  (43, .iload_n 2, 1, false, (0), 2, 0, 0, 0, []),
  (44, .iaload, 1, false, (0), 0, 0, 0, 0, []),
  (45, .aload_n 0, 1, false, (0), 0, 0, 0, 0, []),
  (46, .iconst (3), 1, false, (3), 0, 0, 0, 0, []),
  (47, .aload_n 0, 1, false, (0), 0, 0, 0, 0, []),
  (48, .getfield 16, 3, false, (0), 9, 4, 0, 0, []),
  (51, .iload_n 2, 1, false, (0), 2, 0, 0, 0, []),
  (52, .iaload, 1, false, (0), 0, 0, 0, 0, []),
  (53, .iconst (-1), 1, false, (-1), 0, 0, 0, 0, []),
  (54, .iconst (-1), 1, false, (-1), 0, 0, 0, 0, []),
  (55, .invokevirtual 188, 3, false, (0), 18, 9, 5, 0, [(0, 0)]),
  (58, .invokevirtual 400, 3, false, (0), 68, 9, 5, 0, [(0, 0)]),
  (61, .goto (26), 3, false, (0), 55, 0, 0, 0, []),
  (64, .aload_n 0, 1, false, (0), 0, 0, 0, 0, []),
  (65, .aload_n 0, 1, false, (0), 0, 0, 0, 0, []),
  (66, .getfield 13, 3, false, (0), 9, 3, 0, 0, []),
  (69, .iload_n 1, 1, false, (0), 1, 0, 0, 0, []),
  (70, .iaload, 1, false, (0), 0, 0, 0, 0, []),
  (71, .aload_n 0, 1, false, (0), 0, 0, 0, 0, []),
  (72, .getfield 16, 3, false, (0), 9, 4, 0, 0, []),
  (75, .iload_n 1, 1, false, (0), 1, 0, 0, 0, []),
  (76, .iaload, 1, false, (0), 0, 0, 0, 0, []),
  (77, .aload_n 0, 1, false, (0), 0, 0, 0, 0, []),
  (78, .getfield 13, 3, false, (0), 9, 3, 0, 0, []),
  (81, .iload_n 2, 1, false, (0), 2, 0, 0, 0, []),
  (82, .iaload, 1, false, (0), 0, 0, 0, 0, []),
  (83, .iconst (-1), 1, false, (-1), 0, 0, 0, 0, []),
  (84, .invokevirtual 400, 3, false, (0), 68, 9, 5, 0, [(0, 0)]),
  (87, .ireturn, 1, true, (0), 0, 0, 0, 0, [])]
def f71 : sm_I := (⟨"TypedMillModel", "wraps", "(II)Z"⟩, prog_11_method_58_code, 3, (some .boolean), 2, false, 9, c71)
def c72 : List sm_R := [
  (0, .aload_n 0, 1, false, (0), 0, 0, 0, 0, []),
  (1, .getfield 164, 3, false, (0), 9, 76, 0, 0, []),
  (4, .aload_n 0, 1, false, (0), 0, 0, 0, 0, []),
  (5, .getfield 100, 3, false, (0), 9, 43, 0, 0, []),
  (8, .iload_n 1, 1, false, (0), 1, 0, 0, 0, []),
  (9, .iaload, 1, false, (0), 0, 0, 0, 0, []),
  (10, .iaload, 1, false, (0), 0, 0, 0, 0, []),
  (11, .istore_n 2, 1, false, (0), 2, 0, 0, 0, []),
  (12, .iload_n 2, 1, false, (0), 2, 0, 0, 0, []),
  (13, .ifCond .lt (23), 3, false, (0), 22, 0, 0, 0, []),
  (16, .aload_n 0, 1, false, (0), 0, 0, 0, 0, []),
  (17, .getfield 7, 3, false, (0), 9, 2, 0, 0, []),
  (20, .iload_n 2, 1, false, (0), 2, 0, 0, 0, []),
  (21, .iaload, 1, false, (0), 0, 0, 0, 0, []),
  (22, .iconst (2), 1, false, (2), 0, 0, 0, 0, []),
  (23, .if_icmp .eq (15), 3, false, (0), 24, 0, 0, 0, []),
  (26, .aload_n 0, 1, false, (0), 0, 0, 0, 0, []),
  (27, .getfield 7, 3, false, (0), 9, 2, 0, 0, []),
  (30, .iload_n 2, 1, false, (0), 2, 0, 0, 0, []),
  (31, .iaload, 1, false, (0), 0, 0, 0, 0, []),
  (32, .iconst (3), 1, false, (3), 0, 0, 0, 0, []),
  (33, .if_icmp .eq (5), 3, false, (0), 24, 0, 0, 0, []),
  (36, .iconst (0), 1, true, (0), 0, 0, 0, 0, []),
  (37, .ireturn, 1, false, (0), 0, 0, 0, 0, []),
  (38, .aload_n 0, 1, true, (0), 0, 0, 0, 0, []),
  (39, .iconst (5), 1, false, (5), 0, 0, 0, 0, []),
  (40, .iconst (-1), 1, false, (-1), 0, 0, 0, 0, []),
  (41, .iconst (-1), 1, false, (-1), 0, 0, 0, 0, []),
  (42, .iconst (-1), 1, false, (-1), 0, 0, 0, 0, []),
  (43, .invokevirtual 188, 3, false, (0), 18, 9, 5, 0, [(0, 0)]),
  (46, .istore_n 3, 1, false, (0), 3, 0, 0, 0, []),
  (47, .aload_n 0, 1, false, (0), 0, 0, 0, 0, []),
  (48, .getfield 164, 3, false, (0), 9, 76, 0, 0, []),
  (51, .aload_n 0, 1, false, (0), 0, 0, 0, 0, []),
  (52, .getfield 94, 3, false, (0), 9, 41, 0, 0, []),
  (55, .iload_n 1, 1, false, (0), 1, 0, 0, 0, []),
  (56, .iaload, 1, false, (0), 0, 0, 0, 0, []),
  (57, .aload_n 0, 1, false, (0), 0, 0, 0, 0, []),
  (58, .iconst (4), 1, false, (4), 0, 0, 0, 0, []),
  (59, .iload_n 3, 1, false, (0), 3, 0, 0, 0, []),
  (60, .aload_n 0, 1, false, (0), 0, 0, 0, 0, []),
  (61, .getfield 13, 3, false, (0), 9, 3, 0, 0, []),
  (64, .iload_n 2, 1, false, (0), 2, 0, 0, 0, []),
  (65, .iaload, 1, false, (0), 0, 0, 0, 0, []),
  (66, .aload_n 0, 1, false, (0), 0, 0, 0, 0, []),
  (67, .getfield 7, 3, false, (0), 9, 2, 0, 0, []),
  (70, .iload_n 2, 1, false, (0), 2, 0, 0, 0, []),
  (71, .iaload, 1, false, (0), 0, 0, 0, 0, []),
  (72, .iconst (2), 1, false, (2), 0, 0, 0, 0, []),
  (73, .if_icmp .ne (19), 3, false, (0), 60, 0, 0, 0, []),
  (76, .aload_n 0, 1, false, (0), 0, 0, 0, 0, []),
  (77, .iconst (3), 1, false, (3), 0, 0, 0, 0, []),
  (78, .aload_n 0, 1, false, (0), 0, 0, 0, 0, []),
  (79, .getfield 16, 3, false, (0), 9, 4, 0, 0, []),
  (82, .iload_n 2, 1, false, (0), 2, 0, 0, 0, []),
  (83, .iaload, 1, false, (0), 0, 0, 0, 0, []),
  (84, .iconst (-1), 1, false, (-1), 0, 0, 0, 0, []),
  (85, .iconst (-1), 1, false, (-1), 0, 0, 0, 0, []),
  (86, .invokevirtual 188, 3, false, (0), 18, 9, 5, 0, [(0, 0)]),
  (89, .goto (4), 3, false, (0), 61, 0, 0, 0, []),
  (92, .iconst (-1), 1, false, (-1), 0, 0, 0, 0, []),
  (93, .invokevirtual 188, 3, true, (0), 18, 9, 5, 0, [(0, 0)]),
  (96, .iastore, 1, false, (0), 0, 0, 0, 0, []),
  (97, .aload_n 0, 1, false, (0), 0, 0, 0, 0, []),
  (98, .getfield 164, 3, false, (0), 9, 76, 0, 0, []),
  (101, .aload_n 0, 1, false, (0), 0, 0, 0, 0, []),
  (102, .getfield 97, 3, false, (0), 9, 42, 0, 0, []),
  (105, .iload_n 1, 1, false, (0), 1, 0, 0, 0, []),
  (106, .iaload, 1, false, (0), 0, 0, 0, 0, []),
  (107, .iload_n 3, 1, false, (0), 3, 0, 0, 0, []),
  (108, .iastore, 1, false, (0), 0, 0, 0, 0, []),
  (109, .iconst (1), 1, false, (1), 0, 0, 0, 0, []),
  (110, .ireturn, 1, false, (0), 0, 0, 0, 0, [])]
def f72 : sm_I := (⟨"TypedMillModel", "opens", "(I)Z"⟩, prog_11_method_59_code, 4, (some .boolean), 1, false, 9, c72)
def c73 : List sm_R := [
  (0, .aload_n 0, 1, false, (0), 0, 0, 0, 0, []),
  (1, .getfield 94, 3, false, (0), 9, 41, 0, 0, []),
  (4, .iload_n 1, 1, false, (0), 1, 0, 0, 0, []),
  (5, .iaload, 1, false, (0), 0, 0, 0, 0, []),
  (6, .istore_n 2, 1, false, (0), 2, 0, 0, 0, []),
  (7, .aload_n 0, 1, false, (0), 0, 0, 0, 0, []),
  (8, .getfield 97, 3, false, (0), 9, 42, 0, 0, []),
  (11, .iload_n 1, 1, false, (0), 1, 0, 0, 0, []),
  (12, .iaload, 1, false, (0), 0, 0, 0, 0, []),
  (13, .istore_n 3, 1, false, (0), 3, 0, 0, 0, []),
  (14, .aload_n 0, 1, false, (0), 0, 0, 0, 0, []),
  (15, .getfield 100, 3, false, (0), 9, 43, 0, 0, []),
  (18, .iload_n 1, 1, false, (0), 1, 0, 0, 0, []),
  (19, .iaload, 1, false, (0), 0, 0, 0, 0, []),
  (20, .istore 4, 2, false, (0), 4, 0, 0, 0, []),
  (22, .aload_n 0, 1, false, (0), 0, 0, 0, 0, []),
  (23, .getfield 91, 3, false, (0), 9, 40, 0, 0, []),
  (26, .iload_n 1, 1, false, (0), 1, 0, 0, 0, []),
  (27, .iaload, 1, false, (0), 0, 0, 0, 0, []),
  (28, .tableswitch (398) (0) (11) #[(64), (73), (73), (73), (103), (151), (215), (266), (293), (299), (305), (328)], 64, false, (0), 232, 0, 0, 0, [((0), 20), ((1), 27), ((2), 27), ((3), 27), ((4), 46), ((5), 76), ((6), 115), ((7), 152), ((8), 169), ((9), 173), ((10), 177), ((11), 190)]),
  (92, .aload_n 0, 1, false, (0), 0, 0, 0, 0, []),
  (93, .getfield 164, 3, false, (0), 9, 76, 0, 0, []),
  (96, .iload_n 2, 1, false, (0), 2, 0, 0, 0, []),
  (97, .iconst (0), 1, false, (0), 0, 0, 0, 0, []),
  (98, .iastore, 1, false, (0), 0, 0, 0, 0, []),
  (99, .iconst (1), 1, false, (1), 0, 0, 0, 0, []),
  (100, .ireturn, 1, false, (0), 0, 0, 0, 0, []),
  (101, .aload_n 0, 1, true, (0), 0, 0, 0, 0, []),
  (102, .getfield 164, 3, false, (0), 9, 76, 0, 0, []),
  (105, .iload_n 3, 1, false, (0), 3, 0, 0, 0, []),
  (106, .iaload, 1, false, (0), 0, 0, 0, 0, []),
  (107, .ifCond .ne (13), 3, false, (0), 37, 0, 0, 0, []),
  (110, .aload_n 0, 1, false, (0), 0, 0, 0, 0, []),
  (111, .getfield 164, 3, false, (0), 9, 76, 0, 0, []),
  (114, .iload 4, 2, false, (0), 4, 0, 0, 0, []),
  (116, .iaload, 1, false, (0), 0, 0, 0, 0, []),
  (117, .ifCond .eq (5), 3, false, (0), 39, 0, 0, 0, []),
  (120, .iconst (0), 1, true, (0), 0, 0, 0, 0, []),
  (121, .ireturn, 1, false, (0), 0, 0, 0, 0, []),
  (122, .aload_n 0, 1, false, (0), 0, 0, 0, 0, []),
  (123, .getfield 164, 3, false, (0), 9, 76, 0, 0, []),
  (126, .iload_n 2, 1, false, (0), 2, 0, 0, 0, []),
  (127, .iconst (0), 1, false, (0), 0, 0, 0, 0, []),
  (128, .iastore, 1, false, (0), 0, 0, 0, 0, []),
  (129, .iconst (1), 1, false, (1), 0, 0, 0, 0, []),
  (130, .ireturn, 1, false, (0), 0, 0, 0, 0, []),
  (131, .aload_n 0, 1, false, (0), 0, 0, 0, 0, []),
  (132, .getfield 164, 3, false, (0), 9, 76, 0, 0, []),
  (135, .iload_n 3, 1, false, (0), 3, 0, 0, 0, []),
  (136, .iaload, 1, false, (0), 0, 0, 0, 0, []),
  (137, .ifCond .lt (13), 3, false, (0), 56, 0, 0, 0, []),
  (140, .aload_n 0, 1, false, (0), 0, 0, 0, 0, []),
  (141, .getfield 164, 3, false, (0), 9, 76, 0, 0, []),
  (144, .iload 4, 2, false, (0), 4, 0, 0, 0, []),
  (146, .iaload, 1, false, (0), 0, 0, 0, 0, []),
  (147, .ifCond .ge (5), 3, false, (0), 58, 0, 0, 0, []),
  (150, .iconst (0), 1, true, (0), 0, 0, 0, 0, []),
  (151, .ireturn, 1, false, (0), 0, 0, 0, 0, []),
  (152, .aload_n 0, 1, false, (0), 0, 0, 0, 0, []),
  (153, .getfield 164, 3, false, (0), 9, 76, 0, 0, []),
  (156, .iload_n 2, 1, false, (0), 2, 0, 0, 0, []),
  (157, .aload_n 0, 1, false, (0), 0, 0, 0, 0, []),
  (158, .iconst (1), 1, false, (1), 0, 0, 0, 0, []),
  (159, .aload_n 0, 1, false, (0), 0, 0, 0, 0, []),
  (160, .getfield 164, 3, false, (0), 9, 76, 0, 0, []),
  (163, .iload_n 3, 1, false, (0), 3, 0, 0, 0, []),
  (164, .iaload, 1, false, (0), 0, 0, 0, 0, []),
  (165, .aload_n 0, 1, false, (0), 0, 0, 0, 0, []),
  (166, .getfield 164, 3, false, (0), 9, 76, 0, 0, []),
  (169, .iload 4, 2, false, (0), 4, 0, 0, 0, []),
  (171, .iaload, 1, false, (0), 0, 0, 0, 0, []),
  (172, .iconst (-1), 1, false, (-1), 0, 0, 0, 0, []),
  (173, .invokevirtual 188, 3, false, (0), 18, 9, 5, 0, [(0, 0)]),
  (176, .iastore, 1, false, (0), 0, 0, 0, 0, []),
  (177, .iconst (1), 1, false, (1), 0, 0, 0, 0, []),
  (178, .ireturn, 1, false, (0), 0, 0, 0, 0, []),
  (179, .aload_n 0, 1, false, (0), 0, 0, 0, 0, []),
  (180, .getfield 164, 3, false, (0), 9, 76, 0, 0, []),
  (183, .iload_n 3, 1, false, (0), 3, 0, 0, 0, []),
  (184, .iaload, 1, false, (0), 0, 0, 0, 0, []),
  (185, .ifCond .lt (18), 3, false, (0), 90, 0, 0, 0, []),
  (188, .aload_n 0, 1, false, (0), 0, 0, 0, 0, []),
  (189, .getfield 7, 3, false, (0), 9, 2, 0, 0, []),
  (192, .aload_n 0, 1, false, (0), 0, 0, 0, 0, []),
  (193, .getfield 164, 3, false, (0), 9, 76, 0, 0, []),
  (196, .iload_n 3, 1, false, (0), 3, 0, 0, 0, []),
  (197, .iaload, 1, false, (0), 0, 0, 0, 0, []),
  (198, .iaload, 1, false, (0), 0, 0, 0, 0, []),
  (199, .iconst (1), 1, false, (1), 0, 0, 0, 0, []),
  (200, .if_icmp .eq (5), 3, false, (0), 92, 0, 0, 0, []),
  (203, .iconst (0), 1, true, (0), 0, 0, 0, 0, []),
  (204, .ireturn, 1, false, (0), 0, 0, 0, 0, []),
  (205, .aload_n 0, 1, false, (0), 0, 0, 0, 0, []),
  (206, .getfield 164, 3, false, (0), 9, 76, 0, 0, []),
  (209, .iload_n 2, 1, false, (0), 2, 0, 0, 0, []),
  (210, .iload 4, 2, false, (0), 4, 0, 0, 0, []),
  (212, .ifCond .ne (17), 3, false, (0), 105, 0, 0, 0, []),
  (215, .aload_n 0, 1, false, (0), 0, 0, 0, 0, []),
  (216, .getfield 13, 3, false, (0), 9, 3, 0, 0, []),
  (219, .aload_n 0, 1, false, (0), 0, 0, 0, 0, []),
  (220, .getfield 164, 3, false, (0), 9, 76, 0, 0, []),
  (223, .iload_n 3, 1, false, (0), 3, 0, 0, 0, []),
  (224, .iaload, 1, false, (0), 0, 0, 0, 0, []),
  (225, .iaload, 1, false, (0), 0, 0, 0, 0, []),
  (226, .goto (14), 3, false, (0), 112, 0, 0, 0, []),
  (229, .aload_n 0, 1, false, (0), 0, 0, 0, 0, []),
  (230, .getfield 16, 3, false, (0), 9, 4, 0, 0, []),
  (233, .aload_n 0, 1, false, (0), 0, 0, 0, 0, []),
  (234, .getfield 164, 3, false, (0), 9, 76, 0, 0, []),
  (237, .iload_n 3, 1, false, (0), 3, 0, 0, 0, []),
  (238, .iaload, 1, false, (0), 0, 0, 0, 0, []),
  (239, .iaload, 1, false, (0), 0, 0, 0, 0, []),
  (240, .iastore, 1, true, (0), 0, 0, 0, 0, []),
  (241, .iconst (1), 1, false, (1), 0, 0, 0, 0, []),
  (242, .ireturn, 1, false, (0), 0, 0, 0, 0, []),
  (243, .iload_n 3, 1, false, (0), 3, 0, 0, 0, []),
  (244, .aload_n 0, 1, false, (0), 0, 0, 0, 0, []),
  (245, .getfield 378, 3, false, (0), 9, 38, 0, 0, []),
  (248, .if_icmp .lt (5), 3, false, (0), 121, 0, 0, 0, []),
  (251, .iconst (0), 1, false, (0), 0, 0, 0, 0, []),
  (252, .ireturn, 1, false, (0), 0, 0, 0, 0, []),
  (253, .aload_n 0, 1, false, (0), 0, 0, 0, 0, []),
  (254, .getfield 164, 3, false, (0), 9, 76, 0, 0, []),
  (257, .iload_n 2, 1, false, (0), 2, 0, 0, 0, []),
  (258, .aload_n 0, 1, false, (0), 0, 0, 0, 0, []),
  (259, .iconst (4), 1, false, (4), 0, 0, 0, 0, []),
  (260, .aload_n 0, 1, false, (0), 0, 0, 0, 0, []),
  (261, .getfield 109, 3, false, (0), 9, 46, 0, 0, []),
  (264, .iconst (3), 1, false, (3), 0, 0, 0, 0, []),
  (265, .iload_n 3, 1, false, (0), 3, 0, 0, 0, []),
  (266, .imul, 1, false, (0), 0, 0, 0, 0, []),
  (267, .iaload, 1, false, (0), 0, 0, 0, 0, []),
  (268, .aload_n 0, 1, false, (0), 0, 0, 0, 0, []),
  (269, .getfield 109, 3, false, (0), 9, 46, 0, 0, []),
  (272, .iconst (3), 1, false, (3), 0, 0, 0, 0, []),
  (273, .iload_n 3, 1, false, (0), 3, 0, 0, 0, []),
  (274, .imul, 1, false, (0), 0, 0, 0, 0, []),
  (275, .iconst (1), 1, false, (1), 0, 0, 0, 0, []),
  (276, .iadd, 1, false, (0), 0, 0, 0, 0, []),
  (277, .iaload, 1, false, (0), 0, 0, 0, 0, []),
  (278, .aload_n 0, 1, false, (0), 0, 0, 0, 0, []),
  (279, .getfield 109, 3, false, (0), 9, 46, 0, 0, []),
  (282, .iconst (3), 1, false, (3), 0, 0, 0, 0, []),
  (283, .iload_n 3, 1, false, (0), 3, 0, 0, 0, []),
  (284, .imul, 1, false, (0), 0, 0, 0, 0, []),
  (285, .iconst (2), 1, false, (2), 0, 0, 0, 0, []),
  (286, .iadd, 1, false, (0), 0, 0, 0, 0, []),
  (287, .iaload, 1, false, (0), 0, 0, 0, 0, []),
  (288, .invokevirtual 188, 3, false, (0), 18, 9, 5, 0, [(0, 0)]),
  (291, .iastore, 1, false, (0), 0, 0, 0, 0, []),
  (292, .iconst (1), 1, false, (1), 0, 0, 0, 0, []),
  (293, .ireturn, 1, false, (0), 0, 0, 0, 0, []),
  (294, .aload_n 0, 1, false, (0), 0, 0, 0, 0, []),
  (295, .aload_n 0, 1, false, (0), 0, 0, 0, 0, []),
  (296, .getfield 164, 3, false, (0), 9, 76, 0, 0, []),
  (299, .iload_n 3, 1, false, (0), 3, 0, 0, 0, []),
  (300, .iaload, 1, false, (0), 0, 0, 0, 0, []),
  (301, .iload 4, 2, false, (0), 4, 0, 0, 0, []),
  (303, .invokevirtual 403, 3, false, (0), 71, 9, 3, 0, [(0, 0)]),
  (306, .ifCond .ne (5), 3, false, (0), 162, 0, 0, 0, []),
  (309, .iconst (0), 1, false, (0), 0, 0, 0, 0, []),
  (310, .ireturn, 1, false, (0), 0, 0, 0, 0, []),
  (311, .aload_n 0, 1, false, (0), 0, 0, 0, 0, []),
  (312, .getfield 164, 3, false, (0), 9, 76, 0, 0, []),
  (315, .iload_n 2, 1, false, (0), 2, 0, 0, 0, []),
  (316, .iload 4, 2, false, (0), 4, 0, 0, 0, []),
  (318, .iastore, 1, false, (0), 0, 0, 0, 0, []),
  (319, .iconst (1), 1, false, (1), 0, 0, 0, 0, []),
  (320, .ireturn, 1, false, (0), 0, 0, 0, 0, []),
  (321, .aload_n 0, 1, false, (0), 0, 0, 0, 0, []),
  (322, .iload_n 1, 1, false, (0), 1, 0, 0, 0, []),
  (323, .invokevirtual 406, 3, false, (0), 72, 9, 2, 0, [(0, 0)]),
  (326, .ireturn, 1, false, (0), 0, 0, 0, 0, []),
  (327, .aload_n 0, 1, false, (0), 0, 0, 0, 0, []),
  (328, .iload_n 2, 1, false, (0), 2, 0, 0, 0, []),
  (329, .invokevirtual 409, 3, false, (0), 70, 9, 2, 0, [(0, 0)]),
  (332, .ireturn, 1, false, (0), 0, 0, 0, 0, []),
  (333, .aload_n 0, 1, false, (0), 0, 0, 0, 0, []),
  (334, .getfield 164, 3, false, (0), 9, 76, 0, 0, []),
  (337, .iload_n 2, 1, false, (0), 2, 0, 0, 0, []),
  (338, .iaload, 1, false, (0), 0, 0, 0, 0, []),
  (339, .ifCond .ne (15), 3, false, (0), 188, 0, 0, 0, []),
  (342, .aload_n 0, 1, false, (0), 0, 0, 0, 0, []),
  (343, .iload_n 3, 1, false, (0), 3, 0, 0, 0, []),
  (344, .invokevirtual 409, 3, false, (0), 70, 9, 2, 0, [(0, 0)]),
  (347, .ifCond .eq (7), 3, false, (0), 188, 0, 0, 0, []),
  (350, .iconst (1), 1, false, (1), 0, 0, 0, 0, []),
  (351, .goto (4), 3, false, (0), 189, 0, 0, 0, []),
  (354, .iconst (0), 1, true, (0), 0, 0, 0, 0, []),
  (355, .ireturn, 1, true, (0), 0, 0, 0, 0, []),
  (356, .aload_n 0, 1, false, (0), 0, 0, 0, 0, []),
  (357, .getfield 164, 3, false, (0), 9, 76, 0, 0, []),
  (360, .iload_n 2, 1, false, (0), 2, 0, 0, 0, []),
  (361, .iaload, 1, false, (0), 0, 0, 0, 0, []),
  (362, .ifCond .lt (62), 3, false, (0), 230, 0, 0, 0, []),
  (365, .aload_n 0, 1, false, (0), 0, 0, 0, 0, []),
  (366, .getfield 7, 3, false, (0), 9, 2, 0, 0, []),
  (369, .aload_n 0, 1, false, (0), 0, 0, 0, 0, []),
  (370, .getfield 164, 3, false, (0), 9, 76, 0, 0, []),
  (373, .iload_n 2, 1, false, (0), 2, 0, 0, 0, []),
  (374, .iaload, 1, false, (0), 0, 0, 0, 0, []),
  (375, .iaload, 1, false, (0), 0, 0, 0, 0, []),
  (376, .iconst (4), 1, false, (4), 0, 0, 0, 0, []),
  (377, .if_icmp .ne (47), 3, false, (0), 230, 0, 0, 0, []),
  (380, .aload_n 0, 1, false, (0), 0, 0, 0, 0, []),
  (381, .aload_n 0, 1, false, (0), 0, 0, 0, 0, []),
  (382, .getfield 13, 3, false, (0), 9, 3, 0, 0, []),
  (385, .aload_n 0, 1, false, (0), 0, 0, 0, 0, []),
  (386, .getfield 164, 3, false, (0), 9, 76, 0, 0, []),
  (389, .iload_n 2, 1, false, (0), 2, 0, 0, 0, []),
  (390, .iaload, 1, false, (0), 0, 0, 0, 0, []),
  (391, .iaload, 1, false, (0), 0, 0, 0, 0, []),
  (392, .aload_n 0, 1, false, (0), 0, 0, 0, 0, []),
  (393, .getfield 16, 3, false, (0), 9, 4, 0, 0, []),
  (396, .aload_n 0, 1, false, (0), 0, 0, 0, 0, []),
  (397, .getfield 164, 3, false, (0), 9, 76, 0, 0, []),
  (400, .iload_n 2, 1, false, (0), 2, 0, 0, 0, []),
  (401, .iaload, 1, false, (0), 0, 0, 0, 0, []),
  (402, .iaload, 1, false, (0), 0, 0, 0, 0, []),
  (403, .aload_n 0, 1, false, (0), 0, 0, 0, 0, []),
  (404, .getfield 19, 3, false, (0), 9, 5, 0, 0, []),
  (407, .aload_n 0, 1, false, (0), 0, 0, 0, 0, []),
  (408, .getfield 164, 3, false, (0), 9, 76, 0, 0, []),
  (411, .iload_n 2, 1, false, (0), 2, 0, 0, 0, []),
  (412, .iaload, 1, false, (0), 0, 0, 0, 0, []),
  (413, .iaload, 1, false, (0), 0, 0, 0, 0, []),
  (414, .invokevirtual 397, 3, false, (0), 69, 9, 4, 0, [(0, 0)]),
  (417, .ifCond .eq (7), 3, false, (0), 230, 0, 0, 0, []),
  (420, .iconst (1), 1, false, (1), 0, 0, 0, 0, []),
  (421, .goto (4), 3, false, (0), 231, 0, 0, 0, []),
  (424, .iconst (0), 1, true, (0), 0, 0, 0, 0, []),
  (425, .ireturn, 1, true, (0), 0, 0, 0, 0, []),
  (426, .aload_n 0, 1, false, (0), 0, 0, 0, 0, []),
  (427, .getfield 164, 3, false, (0), 9, 76, 0, 0, []),
  (430, .iconst (2), 1, false, (2), 0, 0, 0, 0, []),
  (431, .iaload, 1, false, (0), 0, 0, 0, 0, []),
  (432, .ifCond .ne (7), 3, false, (0), 239, 0, 0, 0, []),
  (435, .iconst (1), 1, false, (1), 0, 0, 0, 0, []),
  (436, .goto (4), 3, false, (0), 240, 0, 0, 0, []),
  (439, .iconst (0), 1, false, (0), 0, 0, 0, 0, []),
  (440, .ireturn, 1, true, (0), 0, 0, 0, 0, [])]
def f73 : sm_I := (⟨"TypedMillModel", "isRight", "(I)Z"⟩, prog_11_method_60_code, 5, (some .boolean), 1, false, 9, c73)
def c74 : List sm_R := [
  (0, .iload_n 0, 1, false, (0), 0, 0, 0, 0, []),
  (1, .bipush (9), 2, false, (9), 0, 0, 0, 0, []),
  (3, .if_icmp .eq (15), 3, false, (0), 9, 0, 0, 0, []),
  (6, .iload_n 0, 1, false, (0), 0, 0, 0, 0, []),
  (7, .bipush (11), 2, false, (11), 0, 0, 0, 0, []),
  (9, .if_icmp .eq (9), 3, false, (0), 9, 0, 0, 0, []),
  (12, .iload_n 0, 1, false, (0), 0, 0, 0, 0, []),
  (13, .bipush (12), 2, false, (12), 0, 0, 0, 0, []),
  (15, .if_icmp .ne (7), 3, false, (0), 11, 0, 0, 0, []),
  (18, .iconst (1), 1, true, (1), 0, 0, 0, 0, []),
  (19, .goto (4), 3, false, (0), 12, 0, 0, 0, []),
  (22, .iconst (0), 1, false, (0), 0, 0, 0, 0, []),
  (23, .ireturn, 1, true, (0), 0, 0, 0, 0, [])]
def f74 : sm_I := (⟨"TypedMillModel", "isEnd", "(I)Z"⟩, prog_11_method_61_code, 1, (some .boolean), 1, true, 9, c74)
def c75 : List sm_R := [
  (0, .iconst (1), 1, false, (1), 0, 0, 0, 0, []),
  (1, .istore_n 2, 1, false, (0), 2, 0, 0, 0, []),
  (2, .iload_n 2, 1, true, (0), 2, 0, 0, 0, []),
  (3, .bipush (6), 2, false, (6), 0, 0, 0, 0, []),
  (5, .if_icmp .ge (36), 3, false, (0), 26, 0, 0, 0, []),
  (8, .aload_n 0, 1, false, (0), 0, 0, 0, 0, []),
  (9, .getfield 164, 3, false, (0), 9, 76, 0, 0, []),
  (12, .iload_n 2, 1, false, (0), 2, 0, 0, 0, []),
  (13, .iload_n 2, 1, false, (0), 2, 0, 0, 0, []),
  (14, .iconst (4), 1, false, (4), 0, 0, 0, 0, []),
  (15, .if_icmp .ge (18), 3, false, (0), 22, 0, 0, 0, []),
  (18, .aload_n 0, 1, false, (0), 0, 0, 0, 0, []),
  (19, .getfield 109, 3, false, (0), 9, 46, 0, 0, []),
  (22, .iconst (3), 1, false, (3), 0, 0, 0, 0, []),
  (23, .iload_n 1, 1, false, (0), 1, 0, 0, 0, []),
  (24, .imul, 1, false, (0), 0, 0, 0, 0, []),
  (25, .iload_n 2, 1, false, (0), 2, 0, 0, 0, []),
  (26, .iadd, 1, false, (0), 0, 0, 0, 0, []),
  (27, .iconst (1), 1, false, (1), 0, 0, 0, 0, []),
  (28, .isub, 1, false, (0), 0, 0, 0, 0, []),
  (29, .iaload, 1, false, (0), 0, 0, 0, 0, []),
  (30, .goto (4), 3, false, (0), 23, 0, 0, 0, []),
  (33, .iconst (-1), 1, false, (-1), 0, 0, 0, 0, []),
  (34, .iastore, 1, true, (0), 0, 0, 0, 0, []),
  (35, .iinc 2 (1), 3, false, (1), 2, 0, 0, 0, []),
  (38, .goto (-36), 3, false, (0), 2, 0, 0, 0, []),
  (41, .iconst (0), 1, false, (0), 0, 0, 0, 0, []),
  (42, .istore_n 2, 1, false, (0), 2, 0, 0, 0, []),
  (43, .iload_n 2, 1, true, (0), 2, 0, 0, 0, []),
  (44, .aload_n 0, 1, false, (0), 0, 0, 0, 0, []),
  (45, .getfield 106, 3, false, (0), 9, 45, 0, 0, []),
  (48, .iload_n 1, 1, false, (0), 1, 0, 0, 0, []),
  (49, .iaload, 1, false, (0), 0, 0, 0, 0, []),
  (50, .if_icmp .ge (51), 3, false, (0), 62, 0, 0, 0, []),
  (53, .iload_n 2, 1, false, (0), 2, 0, 0, 0, []),
  (54, .ifCond .le (24), 3, false, (0), 49, 0, 0, 0, []),
  (57, .aload_n 0, 1, false, (0), 0, 0, 0, 0, []),
  (58, .getfield 91, 3, false, (0), 9, 40, 0, 0, []),
  (61, .aload_n 0, 1, false, (0), 0, 0, 0, 0, []),
  (62, .getfield 103, 3, false, (0), 9, 44, 0, 0, []),
  (65, .iload_n 1, 1, false, (0), 1, 0, 0, 0, []),
  (66, .iaload, 1, false, (0), 0, 0, 0, 0, []),
  (67, .iload_n 2, 1, false, (0), 2, 0, 0, 0, []),
  (68, .iadd, 1, false, (0), 0, 0, 0, 0, []),
  (69, .iconst (1), 1, false, (1), 0, 0, 0, 0, []),
  (70, .isub, 1, false, (0), 0, 0, 0, 0, []),
  (71, .iaload, 1, false, (0), 0, 0, 0, 0, []),
  (72, .invokestatic 412, 3, false, (0), 74, 0, 1, 0, [(0, 0)]),
  (75, .ifCond .ne (18), 3, false, (0), 58, 0, 0, 0, []),
  (78, .aload_n 0, 1, true, (0), 0, 0, 0, 0, []),
  (79, .aload_n 0, 1, false, (0), 0, 0, 0, 0, []),
  (80, .getfield 103, 3, false, (0), 9, 44, 0, 0, []),
  (83, .iload_n 1, 1, false, (0), 1, 0, 0, 0, []),
  (84, .iaload, 1, false, (0), 0, 0, 0, 0, []),
  (85, .iload_n 2, 1, false, (0), 2, 0, 0, 0, []),
  (86, .iadd, 1, false, (0), 0, 0, 0, 0, []),
  (87, .invokevirtual 415, 3, false, (0), 73, 9, 2, 0, [(0, 0)]),
  (90, .ifCond .ne (5), 3, false, (0), 60, 0, 0, 0, []),
  (93, .iload_n 2, 1, true, (0), 2, 0, 0, 0, []),
  (94, .ireturn, 1, false, (0), 0, 0, 0, 0, []),
  (95, .iinc 2 (1), 3, false, (1), 2, 0, 0, 0, []),
  (98, .goto (-55), 3, false, (0), 28, 0, 0, 0, []),
  (101, .aload_n 0, 1, false, (0), 0, 0, 0, 0, []),
  (102, .getfield 106, 3, false, (0), 9, 45, 0, 0, []),
  (105, .iload_n 1, 1, false, (0), 1, 0, 0, 0, []),
  (106, .iaload, 1, false, (0), 0, 0, 0, 0, []),
  (107, .ifCond .le (33), 3, false, (0), 85, 0, 0, 0, []),
  (110, .aload_n 0, 1, false, (0), 0, 0, 0, 0, []),
  (111, .getfield 91, 3, false, (0), 9, 40, 0, 0, []),
  (114, .aload_n 0, 1, false, (0), 0, 0, 0, 0, []),
  (115, .getfield 103, 3, false, (0), 9, 44, 0, 0, []),
  (118, .iload_n 1, 1, false, (0), 1, 0, 0, 0, []),
  (119, .iaload, 1, false, (0), 0, 0, 0, 0, []),
  (120, .aload_n 0, 1, false, (0), 0, 0, 0, 0, []),
  (121, .getfield 106, 3, false, (0), 9, 45, 0, 0, []),
  (124, .iload_n 1, 1, false, (0), 1, 0, 0, 0, []),
  (125, .iaload, 1, false, (0), 0, 0, 0, 0, []),
  (126, .iadd, 1, false, (0), 0, 0, 0, 0, []),
  (127, .iconst (1), 1, false, (1), 0, 0, 0, 0, []),
  (128, .isub, 1, false, (0), 0, 0, 0, 0, []),
  (129, .iaload, 1, false, (0), 0, 0, 0, 0, []),
  (130, .invokestatic 412, 3, false, (0), 74, 0, 1, 0, [(0, 0)]),
  (133, .ifCond .eq (7), 3, false, (0), 85, 0, 0, 0, []),
  (136, .iconst (-1), 1, false, (-1), 0, 0, 0, 0, []),
  (137, .goto (9), 3, false, (0), 89, 0, 0, 0, []),
  (140, .aload_n 0, 1, true, (0), 0, 0, 0, 0, []),
  (141, .getfield 106, 3, false, (0), 9, 45, 0, 0, []),
  (144, .iload_n 1, 1, false, (0), 1, 0, 0, 0, []),
  (145, .iaload, 1, false, (0), 0, 0, 0, 0, []),
  (146, .ireturn, 1, true, (0), 0, 0, 0, 0, [])]
def f75 : sm_I := (⟨"TypedMillModel", "checkBlock", "(I)I"⟩, prog_11_method_62_code, 3, (some .int), 1, false, 9, c75)
def c76 : List sm_R := [
  (0, .aload_n 0, 1, false, (0), 0, 0, 0, 0, []),
  (1, .iconst (0), 1, false, (0), 0, 0, 0, 0, []),
  (2, .putfield 199, 3, false, (0), 9, 0, 0, 0, []),
  (5, .aload_n 0, 1, false, (0), 0, 0, 0, 0, []),
  (6, .getfield 378, 3, false, (0), 9, 38, 0, 0, []),
  (9, .ifCond .eq (30), 3, false, (0), 21, 0, 0, 0, []),
  (12, .aload_n 0, 1, false, (0), 0, 0, 0, 0, []),
  (13, .getfield 109, 3, false, (0), 9, 46, 0, 0, []),
  (16, .iconst (0), 1, false, (0), 0, 0, 0, 0, []),
  (17, .iaload, 1, false, (0), 0, 0, 0, 0, []),
  (18, .ifCond .gt (21), 3, false, (0), 21, 0, 0, 0, []),
  (21, .aload_n 0, 1, false, (0), 0, 0, 0, 0, []),
  (22, .getfield 109, 3, false, (0), 9, 46, 0, 0, []),
  (25, .iconst (1), 1, false, (1), 0, 0, 0, 0, []),
  (26, .iaload, 1, false, (0), 0, 0, 0, 0, []),
  (27, .ifCond .ge (12), 3, false, (0), 21, 0, 0, 0, []),
  (30, .aload_n 0, 1, false, (0), 0, 0, 0, 0, []),
  (31, .getfield 109, 3, false, (0), 9, 46, 0, 0, []),
  (34, .iconst (2), 1, false, (2), 0, 0, 0, 0, []),
  (35, .iaload, 1, false, (0), 0, 0, 0, 0, []),
  (36, .ifCond .lt (5), 3, false, (0), 23, 0, 0, 0, []),
  (39, .iconst (0), 1, true, (0), 0, 0, 0, 0, []),
  (40, .ireturn, 1, false, (0), 0, 0, 0, 0, []),
  (41, .aload_n 0, 1, false, (0), 0, 0, 0, 0, []),
  (42, .getfield 202, 3, false, (0), 9, 1, 0, 0, []),
  (45, .istore_n 1, 1, false, (0), 1, 0, 0, 0, []),
  (46, .iconst (-1), 1, false, (-1), 0, 0, 0, 0, []),
  (47, .istore_n 2, 1, false, (0), 2, 0, 0, 0, []),
  (48, .iconst (0), 1, false, (0), 0, 0, 0, 0, []),
  (49, .istore_n 3, 1, false, (0), 3, 0, 0, 0, []),
  (50, .iload_n 3, 1, true, (0), 3, 0, 0, 0, []),
  (51, .aload_n 0, 1, false, (0), 0, 0, 0, 0, []),
  (52, .getfield 378, 3, false, (0), 9, 38, 0, 0, []),
  (55, .if_icmp .ge (43), 3, false, (0), 55, 0, 0, 0, []),
  (58, .iload_n 2, 1, false, (0), 2, 0, 0, 0, []),
  (59, .ifCond .ge (39), 3, false, (0), 55, 0, 0, 0, []),
  (62, .aload_n 0, 1, false, (0), 0, 0, 0, 0, []),
  (63, .iload_n 3, 1, false, (0), 3, 0, 0, 0, []),
  (64, .invokevirtual 418, 3, false, (0), 75, 9, 2, 0, [(0, 0)]),
  (67, .istore 4, 2, false, (0), 4, 0, 0, 0, []),
  (69, .iload 4, 2, false, (0), 4, 0, 0, 0, []),
  (71, .ifCond .ge (7), 3, false, (0), 44, 0, 0, 0, []),
  (74, .iconst (-1), 1, false, (-1), 0, 0, 0, 0, []),
  (75, .goto (11), 3, false, (0), 49, 0, 0, 0, []),
  (78, .sipush (1000), 3, false, (1000), 0, 0, 0, 0, []),
  (81, .iload_n 3, 1, false, (0), 3, 0, 0, 0, []),
  (82, .imul, 1, false, (0), 0, 0, 0, 0, []),
  (83, .iload 4, 2, false, (0), 4, 0, 0, 0, []),
  (85, .iadd, 1, false, (0), 0, 0, 0, 0, []),
  (86, .istore_n 2, 1, true, (0), 2, 0, 0, 0, []),
  (87, .aload_n 0, 1, false, (0), 0, 0, 0, 0, []),
  (88, .iload_n 1, 1, false, (0), 1, 0, 0, 0, []),
  (89, .putfield 202, 3, false, (0), 9, 1, 0, 0, []),
  (92, .iinc 3 (1), 3, false, (1), 3, 0, 0, 0, []),
  (95, .goto (-45), 3, false, (0), 30, 0, 0, 0, []),
  (98, .iload_n 2, 1, true, (0), 2, 0, 0, 0, []),
  (99, .ireturn, 1, false, (0), 0, 0, 0, 0, [])]
def f76 : sm_I := (⟨"TypedMillModel", "check", "()I"⟩, prog_11_method_63_code, 5, (some .int), 0, false, 9, c76)
def c77 : List sm_R := [
  (0, .aload_n 0, 1, false, (0), 0, 0, 0, 0, []),
  (1, .iconst (0), 1, false, (0), 0, 0, 0, 0, []),
  (2, .putfield 199, 3, false, (0), 9, 0, 0, 0, []),
  (5, .iload_n 1, 1, false, (0), 1, 0, 0, 0, []),
  (6, .ifCond .lt (11), 3, false, (0), 9, 0, 0, 0, []),
  (9, .iload_n 1, 1, false, (0), 1, 0, 0, 0, []),
  (10, .aload_n 0, 1, false, (0), 0, 0, 0, 0, []),
  (11, .getfield 288, 3, false, (0), 9, 39, 0, 0, []),
  (14, .if_icmp .lt (5), 3, false, (0), 11, 0, 0, 0, []),
  (17, .iconst (-1), 1, true, (-1), 0, 0, 0, 0, []),
  (18, .ireturn, 1, false, (0), 0, 0, 0, 0, []),
  (19, .iload_n 2, 1, false, (0), 2, 0, 0, 0, []),
  (20, .ifCond .ne (12), 3, false, (0), 18, 0, 0, 0, []),
  (23, .aload_n 0, 1, false, (0), 0, 0, 0, 0, []),
  (24, .getfield 91, 3, false, (0), 9, 40, 0, 0, []),
  (27, .iload_n 1, 1, false, (0), 1, 0, 0, 0, []),
  (28, .iaload, 1, false, (0), 0, 0, 0, 0, []),
  (29, .goto (71), 3, false, (0), 57, 0, 0, 0, []),
  (32, .iload_n 2, 1, false, (0), 2, 0, 0, 0, []),
  (33, .iconst (1), 1, false, (1), 0, 0, 0, 0, []),
  (34, .if_icmp .ne (12), 3, false, (0), 26, 0, 0, 0, []),
  (37, .aload_n 0, 1, false, (0), 0, 0, 0, 0, []),
  (38, .getfield 94, 3, false, (0), 9, 41, 0, 0, []),
  (41, .iload_n 1, 1, false, (0), 1, 0, 0, 0, []),
  (42, .iaload, 1, false, (0), 0, 0, 0, 0, []),
  (43, .goto (57), 3, false, (0), 57, 0, 0, 0, []),
  (46, .iload_n 2, 1, false, (0), 2, 0, 0, 0, []),
  (47, .iconst (2), 1, false, (2), 0, 0, 0, 0, []),
  (48, .if_icmp .ne (12), 3, false, (0), 34, 0, 0, 0, []),
  (51, .aload_n 0, 1, false, (0), 0, 0, 0, 0, []),
  (52, .getfield 97, 3, false, (0), 9, 42, 0, 0, []),
  (55, .iload_n 1, 1, false, (0), 1, 0, 0, 0, []),
  (56, .iaload, 1, false, (0), 0, 0, 0, 0, []),
  (57, .goto (43), 3, false, (0), 57, 0, 0, 0, []),
  (60, .iload_n 2, 1, false, (0), 2, 0, 0, 0, []),
  (61, .iconst (3), 1, false, (3), 0, 0, 0, 0, []),
  (62, .if_icmp .ne (37), 3, false, (0), 56, 0, 0, 0, []),
  (65, .aload_n 0, 1, false, (0), 0, 0, 0, 0, []),
  (66, .getfield 91, 3, false, (0), 9, 40, 0, 0, []),
  (69, .iload_n 1, 1, false, (0), 1, 0, 0, 0, []),
  (70, .iaload, 1, false, (0), 0, 0, 0, 0, []),
  (71, .bipush (7), 2, false, (7), 0, 0, 0, 0, []),
  (73, .if_icmp .ne (17), 3, false, (0), 51, 0, 0, 0, []),
  (76, .aload_n 0, 1, false, (0), 0, 0, 0, 0, []),
  (77, .getfield 22, 3, false, (0), 9, 6, 0, 0, []),
  (80, .aload_n 0, 1, false, (0), 0, 0, 0, 0, []),
  (81, .getfield 100, 3, false, (0), 9, 43, 0, 0, []),
  (84, .iload_n 1, 1, false, (0), 1, 0, 0, 0, []),
  (85, .iaload, 1, false, (0), 0, 0, 0, 0, []),
  (86, .iaload, 1, false, (0), 0, 0, 0, 0, []),
  (87, .goto (13), 3, false, (0), 57, 0, 0, 0, []),
  (90, .aload_n 0, 1, false, (0), 0, 0, 0, 0, []),
  (91, .getfield 100, 3, false, (0), 9, 43, 0, 0, []),
  (94, .iload_n 1, 1, false, (0), 1, 0, 0, 0, []),
  (95, .iaload, 1, false, (0), 0, 0, 0, 0, []),
  (96, .goto (4), 3, false, (0), 57, 0, 0, 0, []),
  (99, .iconst (-1), 1, false, (-1), 0, 0, 0, 0, []),
  (100, .ireturn, 1, true, (0), 0, 0, 0, 0, [])]
def f77 : sm_I := (⟨"TypedMillModel", "instruction", "(II)I"⟩, prog_11_method_64_code, 3, (some .int), 2, false, 9, c77)
def c78 : List sm_R := [
  (0, .aload_n 0, 1, false, (0), 0, 0, 0, 0, []),
  (1, .iconst (0), 1, false, (0), 0, 0, 0, 0, []),
  (2, .putfield 199, 3, false, (0), 9, 0, 0, 0, []),
  (5, .iload_n 1, 1, false, (0), 1, 0, 0, 0, []),
  (6, .ifCond .lt (20), 3, false, (0), 14, 0, 0, 0, []),
  (9, .iload_n 1, 1, false, (0), 1, 0, 0, 0, []),
  (10, .aload_n 0, 1, false, (0), 0, 0, 0, 0, []),
  (11, .getfield 378, 3, false, (0), 9, 38, 0, 0, []),
  (14, .if_icmp .ge (12), 3, false, (0), 14, 0, 0, 0, []),
  (17, .iload_n 2, 1, false, (0), 2, 0, 0, 0, []),
  (18, .ifCond .lt (8), 3, false, (0), 14, 0, 0, 0, []),
  (21, .iload_n 2, 1, false, (0), 2, 0, 0, 0, []),
  (22, .iconst (4), 1, false, (4), 0, 0, 0, 0, []),
  (23, .if_icmp .le (5), 3, false, (0), 16, 0, 0, 0, []),
  (26, .iconst (-1), 1, true, (-1), 0, 0, 0, 0, []),
  (27, .ireturn, 1, false, (0), 0, 0, 0, 0, []),
  (28, .iload_n 2, 1, false, (0), 2, 0, 0, 0, []),
  (29, .ifCond .ne (12), 3, false, (0), 23, 0, 0, 0, []),
  (32, .aload_n 0, 1, false, (0), 0, 0, 0, 0, []),
  (33, .getfield 103, 3, false, (0), 9, 44, 0, 0, []),
  (36, .iload_n 1, 1, false, (0), 1, 0, 0, 0, []),
  (37, .iaload, 1, false, (0), 0, 0, 0, 0, []),
  (38, .goto (33), 3, false, (0), 43, 0, 0, 0, []),
  (41, .iload_n 2, 1, false, (0), 2, 0, 0, 0, []),
  (42, .iconst (1), 1, false, (1), 0, 0, 0, 0, []),
  (43, .if_icmp .ne (12), 3, false, (0), 31, 0, 0, 0, []),
  (46, .aload_n 0, 1, false, (0), 0, 0, 0, 0, []),
  (47, .getfield 106, 3, false, (0), 9, 45, 0, 0, []),
  (50, .iload_n 1, 1, false, (0), 1, 0, 0, 0, []),
  (51, .iaload, 1, false, (0), 0, 0, 0, 0, []),
  (52, .goto (19), 3, false, (0), 43, 0, 0, 0, []),
  (55, .aload_n 0, 1, false, (0), 0, 0, 0, 0, []),
  (56, .aload_n 0, 1, false, (0), 0, 0, 0, 0, []),
  (57, .getfield 109, 3, false, (0), 9, 46, 0, 0, []),
  (60, .iconst (3), 1, false, (3), 0, 0, 0, 0, []),
  (61, .iload_n 1, 1, false, (0), 1, 0, 0, 0, []),
  (62, .imul, 1, false, (0), 0, 0, 0, 0, []),
  (63, .iload_n 2, 1, false, (0), 2, 0, 0, 0, []),
  (64, .iadd, 1, false, (0), 0, 0, 0, 0, []),
  (65, .iconst (2), 1, false, (2), 0, 0, 0, 0, []),
  (66, .isub, 1, false, (0), 0, 0, 0, 0, []),
  (67, .iaload, 1, false, (0), 0, 0, 0, 0, []),
  (68, .invokevirtual 205, 3, false, (0), 17, 9, 2, 0, [(0, 0)]),
  (71, .ireturn, 1, true, (0), 0, 0, 0, 0, [])]
def f78 : sm_I := (⟨"TypedMillModel", "look", "(II)I"⟩, prog_11_method_65_code, 3, (some .int), 2, false, 9, c78)
def c80 : List sm_R := [
  (0, .aload_n 0, 1, false, (0), 0, 0, 0, 0, []),
  (1, .getfield 146, 3, false, (0), 9, 70, 0, 0, []),
  (4, .iload_n 1, 1, false, (0), 1, 0, 0, 0, []),
  (5, .iload_n 2, 1, false, (0), 2, 0, 0, 0, []),
  (6, .iastore, 1, false, (0), 0, 0, 0, 0, []),
  (7, .aload_n 0, 1, false, (0), 0, 0, 0, 0, []),
  (8, .getfield 149, 3, false, (0), 9, 71, 0, 0, []),
  (11, .iload_n 1, 1, false, (0), 1, 0, 0, 0, []),
  (12, .iload_n 3, 1, false, (0), 3, 0, 0, 0, []),
  (13, .iastore, 1, false, (0), 0, 0, 0, 0, []),
  (14, .return_, 1, false, (0), 0, 0, 0, 0, [])]
def f80 : sm_I := (⟨"TypedMillModel", "put", "(III)V"⟩, prog_11_method_67_code, 4, none, 3, false, 9, c80)
def c81 : List sm_R := [
  (0, .iload_n 1, 1, false, (0), 1, 0, 0, 0, []),
  (1, .aload_n 0, 1, false, (0), 0, 0, 0, 0, []),
  (2, .getfield 378, 3, false, (0), 9, 38, 0, 0, []),
  (5, .if_icmp .lt (5), 3, false, (0), 6, 0, 0, 0, []),
  (8, .iconst (0), 1, false, (0), 0, 0, 0, 0, []),
  (9, .ireturn, 1, false, (0), 0, 0, 0, 0, []),
  (10, .aload_n 0, 1, false, (0), 0, 0, 0, 0, []),
  (11, .aload_n 0, 1, false, (0), 0, 0, 0, 0, []),
  (12, .getfield 103, 3, false, (0), 9, 44, 0, 0, []),
  (15, .iload_n 1, 1, false, (0), 1, 0, 0, 0, []),
  (16, .iaload, 1, false, (0), 0, 0, 0, 0, []),
  (17, .putfield 427, 3, false, (0), 9, 67, 0, 0, []),
  (20, .aload_n 0, 1, false, (0), 0, 0, 0, 0, []),
  (21, .aload_n 0, 1, false, (0), 0, 0, 0, 0, []),
  (22, .getfield 103, 3, false, (0), 9, 44, 0, 0, []),
  (25, .iload_n 1, 1, false, (0), 1, 0, 0, 0, []),
  (26, .iaload, 1, false, (0), 0, 0, 0, 0, []),
  (27, .aload_n 0, 1, false, (0), 0, 0, 0, 0, []),
  (28, .getfield 106, 3, false, (0), 9, 45, 0, 0, []),
  (31, .iload_n 1, 1, false, (0), 1, 0, 0, 0, []),
  (32, .iaload, 1, false, (0), 0, 0, 0, 0, []),
  (33, .iadd, 1, false, (0), 0, 0, 0, 0, []),
  (34, .putfield 430, 3, false, (0), 9, 68, 0, 0, []),
  (37, .iconst (1), 1, false, (1), 0, 0, 0, 0, []),
  (38, .ireturn, 1, false, (0), 0, 0, 0, 0, [])]
def f81 : sm_I := (⟨"TypedMillModel", "go", "(I)Z"⟩, prog_11_method_68_code, 2, (some .boolean), 1, false, 9, c81)
def c82 : List sm_R := [
  (0, .aload_n 0, 1, false, (0), 0, 0, 0, 0, []),
  (1, .getfield 146, 3, false, (0), 9, 70, 0, 0, []),
  (4, .iload_n 3, 1, false, (0), 3, 0, 0, 0, []),
  (5, .iaload, 1, false, (0), 0, 0, 0, 0, []),
  (6, .iconst (1), 1, false, (1), 0, 0, 0, 0, []),
  (7, .if_icmp .ne (14), 3, false, (0), 12, 0, 0, 0, []),
  (10, .aload_n 0, 1, false, (0), 0, 0, 0, 0, []),
  (11, .getfield 146, 3, false, (0), 9, 70, 0, 0, []),
  (14, .iload 4, 2, false, (0), 4, 0, 0, 0, []),
  (16, .iaload, 1, false, (0), 0, 0, 0, 0, []),
  (17, .iconst (1), 1, false, (1), 0, 0, 0, 0, []),
  (18, .if_icmp .eq (5), 3, false, (0), 14, 0, 0, 0, []),
  (21, .iconst (0), 1, true, (0), 0, 0, 0, 0, []),
  (22, .ireturn, 1, false, (0), 0, 0, 0, 0, []),
  (23, .aload_n 0, 1, false, (0), 0, 0, 0, 0, []),
  (24, .iload_n 2, 1, false, (0), 2, 0, 0, 0, []),
  (25, .iconst (1), 1, false, (1), 0, 0, 0, 0, []),
  (26, .iload_n 1, 1, false, (0), 1, 0, 0, 0, []),
  (27, .iconst (1), 1, false, (1), 0, 0, 0, 0, []),
  (28, .iadd, 1, false, (0), 0, 0, 0, 0, []),
  (29, .aload_n 0, 1, false, (0), 0, 0, 0, 0, []),
  (30, .getfield 149, 3, false, (0), 9, 71, 0, 0, []),
  (33, .iload_n 3, 1, false, (0), 3, 0, 0, 0, []),
  (34, .iaload, 1, false, (0), 0, 0, 0, 0, []),
  (35, .aload_n 0, 1, false, (0), 0, 0, 0, 0, []),
  (36, .getfield 149, 3, false, (0), 9, 71, 0, 0, []),
  (39, .iload 4, 2, false, (0), 4, 0, 0, 0, []),
  (41, .iaload, 1, false, (0), 0, 0, 0, 0, []),
  (42, .invokestatic 272, 3, false, (0), 34, 0, 3, 0, [(0, 0)]),
  (45, .invokevirtual 433, 3, false, (0), 80, 9, 4, 0, []),
  (48, .iconst (1), 1, false, (1), 0, 0, 0, 0, []),
  (49, .ireturn, 1, false, (0), 0, 0, 0, 0, [])]
def f82 : sm_I := (⟨"TypedMillModel", "calculate", "(IIII)Z"⟩, prog_11_method_69_code, 5, (some .boolean), 4, false, 9, c82)
def c83 : List sm_R := [
  (0, .aload_n 0, 1, false, (0), 0, 0, 0, 0, []),
  (1, .getfield 146, 3, false, (0), 9, 70, 0, 0, []),
  (4, .iload_n 2, 1, false, (0), 2, 0, 0, 0, []),
  (5, .iaload, 1, false, (0), 0, 0, 0, 0, []),
  (6, .ifCond .eq (12), 3, false, (0), 10, 0, 0, 0, []),
  (9, .aload_n 0, 1, false, (0), 0, 0, 0, 0, []),
  (10, .getfield 146, 3, false, (0), 9, 70, 0, 0, []),
  (13, .iload_n 3, 1, false, (0), 3, 0, 0, 0, []),
  (14, .iaload, 1, false, (0), 0, 0, 0, 0, []),
  (15, .ifCond .ne (5), 3, false, (0), 12, 0, 0, 0, []),
  (18, .iconst (0), 1, true, (0), 0, 0, 0, 0, []),
  (19, .ireturn, 1, false, (0), 0, 0, 0, 0, []),
  (20, .aload_n 0, 1, false, (0), 0, 0, 0, 0, []),
  (21, .getfield 424, 3, false, (0), 9, 69, 0, 0, []),
  (24, .sipush (400), 3, false, (400), 0, 0, 0, 0, []),
  (27, .if_icmp .ne (10), 3, false, (0), 21, 0, 0, 0, []),
  (30, .aload_n 0, 1, false, (0), 0, 0, 0, 0, []),
  (31, .iconst (3), 1, false, (3), 0, 0, 0, 0, []),
  (32, .putfield 421, 3, false, (0), 9, 66, 0, 0, []),
  (35, .iconst (0), 1, false, (0), 0, 0, 0, 0, []),
  (36, .ireturn, 1, false, (0), 0, 0, 0, 0, []),
  (37, .aload_n 0, 1, false, (0), 0, 0, 0, 0, []),
  (38, .getfield 152, 3, false, (0), 9, 72, 0, 0, []),
  (41, .aload_n 0, 1, false, (0), 0, 0, 0, 0, []),
  (42, .getfield 424, 3, false, (0), 9, 69, 0, 0, []),
  (45, .aload_n 0, 1, false, (0), 0, 0, 0, 0, []),
  (46, .getfield 146, 3, false, (0), 9, 70, 0, 0, []),
  (49, .iload_n 2, 1, false, (0), 2, 0, 0, 0, []),
  (50, .iaload, 1, false, (0), 0, 0, 0, 0, []),
  (51, .iastore, 1, false, (0), 0, 0, 0, 0, []),
  (52, .aload_n 0, 1, false, (0), 0, 0, 0, 0, []),
  (53, .getfield 155, 3, false, (0), 9, 73, 0, 0, []),
  (56, .aload_n 0, 1, false, (0), 0, 0, 0, 0, []),
  (57, .getfield 424, 3, false, (0), 9, 69, 0, 0, []),
  (60, .aload_n 0, 1, false, (0), 0, 0, 0, 0, []),
  (61, .getfield 149, 3, false, (0), 9, 71, 0, 0, []),
  (64, .iload_n 2, 1, false, (0), 2, 0, 0, 0, []),
  (65, .iaload, 1, false, (0), 0, 0, 0, 0, []),
  (66, .iastore, 1, false, (0), 0, 0, 0, 0, []),
  (67, .aload_n 0, 1, false, (0), 0, 0, 0, 0, []),
  (68, .getfield 158, 3, false, (0), 9, 74, 0, 0, []),
  (71, .aload_n 0, 1, false, (0), 0, 0, 0, 0, []),
  (72, .getfield 424, 3, false, (0), 9, 69, 0, 0, []),
  (75, .aload_n 0, 1, false, (0), 0, 0, 0, 0, []),
  (76, .getfield 146, 3, false, (0), 9, 70, 0, 0, []),
  (79, .iload_n 3, 1, false, (0), 3, 0, 0, 0, []),
  (80, .iaload, 1, false, (0), 0, 0, 0, 0, []),
  (81, .iastore, 1, false, (0), 0, 0, 0, 0, []),
  (82, .aload_n 0, 1, false, (0), 0, 0, 0, 0, []),
  (83, .getfield 161, 3, false, (0), 9, 75, 0, 0, []),
  (86, .aload_n 0, 1, false, (0), 0, 0, 0, 0, []),
  (87, .getfield 424, 3, false, (0), 9, 69, 0, 0, []),
  (90, .aload_n 0, 1, false, (0), 0, 0, 0, 0, []),
  (91, .getfield 149, 3, false, (0), 9, 71, 0, 0, []),
  (94, .iload_n 3, 1, false, (0), 3, 0, 0, 0, []),
  (95, .iaload, 1, false, (0), 0, 0, 0, 0, []),
  (96, .iastore, 1, false, (0), 0, 0, 0, 0, []),
  (97, .aload_n 0, 1, false, (0), 0, 0, 0, 0, []),
  (98, .dup, 1, false, (0), 0, 0, 0, 0, []),
  (99, .getfield 424, 3, false, (0), 9, 69, 0, 0, []),
  (102, .iconst (1), 1, false, (1), 0, 0, 0, 0, []),
  (103, .iadd, 1, false, (0), 0, 0, 0, 0, []),
  (104, .putfield 424, 3, false, (0), 9, 69, 0, 0, []),
  (107, .aload_n 0, 1, false, (0), 0, 0, 0, 0, []),
  (108, .iload_n 1, 1, false, (0), 1, 0, 0, 0, []),
  (109, .iconst (3), 1, false, (3), 0, 0, 0, 0, []),
  (110, .aload_n 0, 1, false, (0), 0, 0, 0, 0, []),
  (111, .getfield 424, 3, false, (0), 9, 69, 0, 0, []),
  (114, .iconst (1), 1, false, (1), 0, 0, 0, 0, []),
  (115, .isub, 1, false, (0), 0, 0, 0, 0, []),
  (116, .invokevirtual 433, 3, false, (0), 80, 9, 4, 0, []),
  (119, .iconst (1), 1, false, (1), 0, 0, 0, 0, []),
  (120, .ireturn, 1, false, (0), 0, 0, 0, 0, [])]
def f83 : sm_I := (⟨"TypedMillModel", "newPair", "(III)Z"⟩, prog_11_method_70_code, 4, (some .boolean), 3, false, 9, c83)
def c84 : List sm_R := [
  (0, .aload_n 0, 1, false, (0), 0, 0, 0, 0, []),
  (1, .getfield 149, 3, false, (0), 9, 71, 0, 0, []),
  (4, .iload_n 3, 1, false, (0), 3, 0, 0, 0, []),
  (5, .iaload, 1, false, (0), 0, 0, 0, 0, []),
  (6, .istore 4, 2, false, (0), 4, 0, 0, 0, []),
  (8, .aload_n 0, 1, false, (0), 0, 0, 0, 0, []),
  (9, .getfield 146, 3, false, (0), 9, 70, 0, 0, []),
  (12, .iload_n 3, 1, false, (0), 3, 0, 0, 0, []),
  (13, .iaload, 1, false, (0), 0, 0, 0, 0, []),
  (14, .iconst (4), 1, false, (4), 0, 0, 0, 0, []),
  (15, .if_icmp .ne (14), 3, false, (0), 17, 0, 0, 0, []),
  (18, .aload_n 0, 1, false, (0), 0, 0, 0, 0, []),
  (19, .getfield 152, 3, false, (0), 9, 72, 0, 0, []),
  (22, .iload 4, 2, false, (0), 4, 0, 0, 0, []),
  (24, .iaload, 1, false, (0), 0, 0, 0, 0, []),
  (25, .iconst (2), 1, false, (2), 0, 0, 0, 0, []),
  (26, .if_icmp .eq (5), 3, false, (0), 19, 0, 0, 0, []),
  (29, .iconst (0), 1, true, (0), 0, 0, 0, 0, []),
  (30, .ireturn, 1, false, (0), 0, 0, 0, 0, []),
  (31, .aload_n 0, 1, false, (0), 0, 0, 0, 0, []),
  (32, .iload_n 1, 1, false, (0), 1, 0, 0, 0, []),
  (33, .iconst (2), 1, false, (2), 0, 0, 0, 0, []),
  (34, .aload_n 0, 1, false, (0), 0, 0, 0, 0, []),
  (35, .getfield 155, 3, false, (0), 9, 73, 0, 0, []),
  (38, .iload 4, 2, false, (0), 4, 0, 0, 0, []),
  (40, .iaload, 1, false, (0), 0, 0, 0, 0, []),
  (41, .invokevirtual 433, 3, false, (0), 80, 9, 4, 0, []),
  (44, .aload_n 0, 1, false, (0), 0, 0, 0, 0, []),
  (45, .iload_n 2, 1, false, (0), 2, 0, 0, 0, []),
  (46, .aload_n 0, 1, false, (0), 0, 0, 0, 0, []),
  (47, .getfield 158, 3, false, (0), 9, 74, 0, 0, []),
  (50, .iload 4, 2, false, (0), 4, 0, 0, 0, []),
  (52, .iaload, 1, false, (0), 0, 0, 0, 0, []),
  (53, .aload_n 0, 1, false, (0), 0, 0, 0, 0, []),
  (54, .getfield 161, 3, false, (0), 9, 75, 0, 0, []),
  (57, .iload 4, 2, false, (0), 4, 0, 0, 0, []),
  (59, .iaload, 1, false, (0), 0, 0, 0, 0, []),
  (60, .invokevirtual 433, 3, false, (0), 80, 9, 4, 0, []),
  (63, .iconst (1), 1, false, (1), 0, 0, 0, 0, []),
  (64, .ireturn, 1, false, (0), 0, 0, 0, 0, [])]
def f84 : sm_I := (⟨"TypedMillModel", "open", "(III)Z"⟩, prog_11_method_71_code, 5, (some .boolean), 3, false, 9, c84)
def c85 : List sm_R := [
  (0, .aload_n 0, 1, false, (0), 0, 0, 0, 0, []),
  (1, .getfield 94, 3, false, (0), 9, 41, 0, 0, []),
  (4, .iload_n 1, 1, false, (0), 1, 0, 0, 0, []),
  (5, .iaload, 1, false, (0), 0, 0, 0, 0, []),
  (6, .istore_n 2, 1, false, (0), 2, 0, 0, 0, []),
  (7, .aload_n 0, 1, false, (0), 0, 0, 0, 0, []),
  (8, .getfield 97, 3, false, (0), 9, 42, 0, 0, []),
  (11, .iload_n 1, 1, false, (0), 1, 0, 0, 0, []),
  (12, .iaload, 1, false, (0), 0, 0, 0, 0, []),
  (13, .istore_n 3, 1, false, (0), 3, 0, 0, 0, []),
  (14, .aload_n 0, 1, false, (0), 0, 0, 0, 0, []),
  (15, .getfield 100, 3, false, (0), 9, 43, 0, 0, []),
  (18, .iload_n 1, 1, false, (0), 1, 0, 0, 0, []),
  (19, .iaload, 1, false, (0), 0, 0, 0, 0, []),
  (20, .istore 4, 2, false, (0), 4, 0, 0, 0, []),
  (22, .aload_n 0, 1, false, (0), 0, 0, 0, 0, []),
  (23, .iload_n 1, 1, false, (0), 1, 0, 0, 0, []),
  (24, .iconst (1), 1, false, (1), 0, 0, 0, 0, []),
  (25, .iadd, 1, false, (0), 0, 0, 0, 0, []),
  (26, .putfield 427, 3, false, (0), 9, 67, 0, 0, []),
  (29, .aload_n 0, 1, false, (0), 0, 0, 0, 0, []),
  (30, .getfield 91, 3, false, (0), 9, 40, 0, 0, []),
  (33, .iload_n 1, 1, false, (0), 1, 0, 0, 0, []),
  (34, .iaload, 1, false, (0), 0, 0, 0, 0, []),
  (35, .tableswitch (277) (0) (11) #[(61), (70), (70), (70), (85), (94), (165), (174), (200), (209), (215), (248)], 61, false, (0), 159, 0, 0, 0, [((0), 25), ((1), 32), ((2), 32), ((3), 32), ((4), 42), ((5), 48), ((6), 88), ((7), 95), ((8), 113), ((9), 119), ((10), 123), ((11), 142)]),
  (96, .aload_n 0, 1, false, (0), 0, 0, 0, 0, []),
  (97, .iload_n 2, 1, false, (0), 2, 0, 0, 0, []),
  (98, .iconst (1), 1, false, (1), 0, 0, 0, 0, []),
  (99, .iload_n 3, 1, false, (0), 3, 0, 0, 0, []),
  (100, .invokevirtual 433, 3, false, (0), 80, 9, 4, 0, []),
  (103, .iconst (1), 1, false, (1), 0, 0, 0, 0, []),
  (104, .ireturn, 1, false, (0), 0, 0, 0, 0, []),
  (105, .aload_n 0, 1, true, (0), 0, 0, 0, 0, []),
  (106, .aload_n 0, 1, false, (0), 0, 0, 0, 0, []),
  (107, .getfield 91, 3, false, (0), 9, 40, 0, 0, []),
  (110, .iload_n 1, 1, false, (0), 1, 0, 0, 0, []),
  (111, .iaload, 1, false, (0), 0, 0, 0, 0, []),
  (112, .iload_n 2, 1, false, (0), 2, 0, 0, 0, []),
  (113, .iload_n 3, 1, false, (0), 3, 0, 0, 0, []),
  (114, .iload 4, 2, false, (0), 4, 0, 0, 0, []),
  (116, .invokevirtual 436, 3, false, (0), 82, 9, 5, 0, [(0, 0)]),
  (119, .ireturn, 1, false, (0), 0, 0, 0, 0, []),
  (120, .aload_n 0, 1, false, (0), 0, 0, 0, 0, []),
  (121, .iload_n 2, 1, false, (0), 2, 0, 0, 0, []),
  (122, .iload_n 3, 1, false, (0), 3, 0, 0, 0, []),
  (123, .iload 4, 2, false, (0), 4, 0, 0, 0, []),
  (125, .invokevirtual 439, 3, false, (0), 83, 9, 4, 0, [(0, 0)]),
  (128, .ireturn, 1, false, (0), 0, 0, 0, 0, []),
  (129, .aload_n 0, 1, false, (0), 0, 0, 0, 0, []),
  (130, .getfield 149, 3, false, (0), 9, 71, 0, 0, []),
  (133, .iload_n 3, 1, false, (0), 3, 0, 0, 0, []),
  (134, .iaload, 1, false, (0), 0, 0, 0, 0, []),
  (135, .istore 5, 2, false, (0), 5, 0, 0, 0, []),
  (137, .aload_n 0, 1, false, (0), 0, 0, 0, 0, []),
  (138, .getfield 146, 3, false, (0), 9, 70, 0, 0, []),
  (141, .iload_n 3, 1, false, (0), 3, 0, 0, 0, []),
  (142, .iaload, 1, false, (0), 0, 0, 0, 0, []),
  (143, .iconst (3), 1, false, (3), 0, 0, 0, 0, []),
  (144, .if_icmp .eq (5), 3, false, (0), 61, 0, 0, 0, []),
  (147, .iconst (0), 1, false, (0), 0, 0, 0, 0, []),
  (148, .ireturn, 1, false, (0), 0, 0, 0, 0, []),
  (149, .aload_n 0, 1, false, (0), 0, 0, 0, 0, []),
  (150, .iload_n 2, 1, false, (0), 2, 0, 0, 0, []),
  (151, .iload 4, 2, false, (0), 4, 0, 0, 0, []),
  (153, .ifCond .ne (13), 3, false, (0), 70, 0, 0, 0, []),
  (156, .aload_n 0, 1, false, (0), 0, 0, 0, 0, []),
  (157, .getfield 152, 3, false, (0), 9, 72, 0, 0, []),
  (160, .iload 5, 2, false, (0), 5, 0, 0, 0, []),
  (162, .iaload, 1, false, (0), 0, 0, 0, 0, []),
  (163, .goto (10), 3, false, (0), 74, 0, 0, 0, []),
  (166, .aload_n 0, 1, false, (0), 0, 0, 0, 0, []),
  (167, .getfield 158, 3, false, (0), 9, 74, 0, 0, []),
  (170, .iload 5, 2, false, (0), 5, 0, 0, 0, []),
  (172, .iaload, 1, false, (0), 0, 0, 0, 0, []),
  (173, .iload 4, 2, true, (0), 4, 0, 0, 0, []),
  (175, .ifCond .ne (13), 3, false, (0), 81, 0, 0, 0, []),
  (178, .aload_n 0, 1, false, (0), 0, 0, 0, 0, []),
  (179, .getfield 155, 3, false, (0), 9, 73, 0, 0, []),
  (182, .iload 5, 2, false, (0), 5, 0, 0, 0, []),
  (184, .iaload, 1, false, (0), 0, 0, 0, 0, []),
  (185, .goto (10), 3, false, (0), 85, 0, 0, 0, []),
  (188, .aload_n 0, 1, false, (0), 0, 0, 0, 0, []),
  (189, .getfield 161, 3, false, (0), 9, 75, 0, 0, []),
  (192, .iload 5, 2, false, (0), 5, 0, 0, 0, []),
  (194, .iaload, 1, false, (0), 0, 0, 0, 0, []),
  (195, .invokevirtual 433, 3, true, (0), 80, 9, 4, 0, []),
  (198, .iconst (1), 1, false, (1), 0, 0, 0, 0, []),
  (199, .ireturn, 1, false, (0), 0, 0, 0, 0, []),
  (200, .aload_n 0, 1, false, (0), 0, 0, 0, 0, []),
  (201, .iload_n 2, 1, false, (0), 2, 0, 0, 0, []),
  (202, .iconst (2), 1, false, (2), 0, 0, 0, 0, []),
  (203, .iload_n 3, 1, false, (0), 3, 0, 0, 0, []),
  (204, .invokevirtual 433, 3, false, (0), 80, 9, 4, 0, []),
  (207, .iconst (1), 1, false, (1), 0, 0, 0, 0, []),
  (208, .ireturn, 1, false, (0), 0, 0, 0, 0, []),
  (209, .aload_n 0, 1, false, (0), 0, 0, 0, 0, []),
  (210, .getfield 146, 3, false, (0), 9, 70, 0, 0, []),
  (213, .iload_n 3, 1, false, (0), 3, 0, 0, 0, []),
  (214, .iaload, 1, false, (0), 0, 0, 0, 0, []),
  (215, .iconst (3), 1, false, (3), 0, 0, 0, 0, []),
  (216, .if_icmp .eq (5), 3, false, (0), 103, 0, 0, 0, []),
  (219, .iconst (0), 1, false, (0), 0, 0, 0, 0, []),
  (220, .ireturn, 1, false, (0), 0, 0, 0, 0, []),
  (221, .aload_n 0, 1, false, (0), 0, 0, 0, 0, []),
  (222, .iload_n 2, 1, false, (0), 2, 0, 0, 0, []),
  (223, .iconst (4), 1, false, (4), 0, 0, 0, 0, []),
  (224, .aload_n 0, 1, false, (0), 0, 0, 0, 0, []),
  (225, .getfield 149, 3, false, (0), 9, 71, 0, 0, []),
  (228, .iload_n 3, 1, false, (0), 3, 0, 0, 0, []),
  (229, .iaload, 1, false, (0), 0, 0, 0, 0, []),
  (230, .invokevirtual 433, 3, false, (0), 80, 9, 4, 0, []),
  (233, .iconst (1), 1, false, (1), 0, 0, 0, 0, []),
  (234, .ireturn, 1, false, (0), 0, 0, 0, 0, []),
  (235, .aload_n 0, 1, false, (0), 0, 0, 0, 0, []),
  (236, .iload_n 2, 1, false, (0), 2, 0, 0, 0, []),
  (237, .iload_n 3, 1, false, (0), 3, 0, 0, 0, []),
  (238, .iload 4, 2, false, (0), 4, 0, 0, 0, []),
  (240, .invokevirtual 442, 3, false, (0), 84, 9, 4, 0, [(0, 0)]),
  (243, .ireturn, 1, false, (0), 0, 0, 0, 0, []),
  (244, .aload_n 0, 1, false, (0), 0, 0, 0, 0, []),
  (245, .iload_n 2, 1, false, (0), 2, 0, 0, 0, []),
  (246, .invokevirtual 445, 3, false, (0), 81, 9, 2, 0, [(0, 0)]),
  (249, .ireturn, 1, false, (0), 0, 0, 0, 0, []),
  (250, .aload_n 0, 1, false, (0), 0, 0, 0, 0, []),
  (251, .getfield 146, 3, false, (0), 9, 70, 0, 0, []),
  (254, .iload_n 2, 1, false, (0), 2, 0, 0, 0, []),
  (255, .iaload, 1, false, (0), 0, 0, 0, 0, []),
  (256, .iconst (1), 1, false, (1), 0, 0, 0, 0, []),
  (257, .if_icmp .ne (24), 3, false, (0), 140, 0, 0, 0, []),
  (260, .aload_n 0, 1, false, (0), 0, 0, 0, 0, []),
  (261, .getfield 149, 3, false, (0), 9, 71, 0, 0, []),
  (264, .iload_n 2, 1, false, (0), 2, 0, 0, 0, []),
  (265, .iaload, 1, false, (0), 0, 0, 0, 0, []),
  (266, .ifCond .eq (11), 3, false, (0), 138, 0, 0, 0, []),
  (269, .aload_n 0, 1, false, (0), 0, 0, 0, 0, []),
  (270, .iload_n 3, 1, false, (0), 3, 0, 0, 0, []),
  (271, .invokevirtual 445, 3, false, (0), 81, 9, 2, 0, [(0, 0)]),
  (274, .ifCond .eq (7), 3, false, (0), 140, 0, 0, 0, []),
  (277, .iconst (1), 1, true, (1), 0, 0, 0, 0, []),
  (278, .goto (4), 3, false, (0), 141, 0, 0, 0, []),
  (281, .iconst (0), 1, true, (0), 0, 0, 0, 0, []),
  (282, .ireturn, 1, true, (0), 0, 0, 0, 0, []),
  (283, .aload_n 0, 1, false, (0), 0, 0, 0, 0, []),
  (284, .getfield 146, 3, false, (0), 9, 70, 0, 0, []),
  (287, .iload_n 2, 1, false, (0), 2, 0, 0, 0, []),
  (288, .iaload, 1, false, (0), 0, 0, 0, 0, []),
  (289, .iconst (2), 1, false, (2), 0, 0, 0, 0, []),
  (290, .if_icmp .ne (20), 3, false, (0), 157, 0, 0, 0, []),
  (293, .aload_n 0, 1, false, (0), 0, 0, 0, 0, []),
  (294, .aload_n 0, 1, false, (0), 0, 0, 0, 0, []),
  (295, .getfield 149, 3, false, (0), 9, 71, 0, 0, []),
  (298, .iload_n 2, 1, false, (0), 2, 0, 0, 0, []),
  (299, .iaload, 1, false, (0), 0, 0, 0, 0, []),
  (300, .invokevirtual 445, 3, false, (0), 81, 9, 2, 0, [(0, 0)]),
  (303, .ifCond .eq (7), 3, false, (0), 157, 0, 0, 0, []),
  (306, .iconst (1), 1, false, (1), 0, 0, 0, 0, []),
  (307, .goto (4), 3, false, (0), 158, 0, 0, 0, []),
  (310, .iconst (0), 1, true, (0), 0, 0, 0, 0, []),
  (311, .ireturn, 1, true, (0), 0, 0, 0, 0, []),
  (312, .aload_n 0, 1, false, (0), 0, 0, 0, 0, []),
  (313, .iconst (1), 1, false, (1), 0, 0, 0, 0, []),
  (314, .putfield 421, 3, false, (0), 9, 66, 0, 0, []),
  (317, .iconst (1), 1, false, (1), 0, 0, 0, 0, []),
  (318, .ireturn, 1, false, (0), 0, 0, 0, 0, [])]
def f85 : sm_I := (⟨"TypedMillModel", "doIt", "(I)Z"⟩, prog_11_method_72_code, 6, (some .boolean), 1, false, 9, c85)
def c86 : List sm_R := [
  (0, .aload_n 0, 1, false, (0), 0, 0, 0, 0, []),
  (1, .iconst (0), 1, false, (0), 0, 0, 0, 0, []),
  (2, .putfield 199, 3, false, (0), 9, 0, 0, 0, []),
  (5, .iload_n 1, 1, false, (0), 1, 0, 0, 0, []),
  (6, .ifCond .lt (10), 3, false, (0), 8, 0, 0, 0, []),
  (9, .iload_n 1, 1, false, (0), 1, 0, 0, 0, []),
  (10, .sipush (1000), 3, false, (1000), 0, 0, 0, 0, []),
  (13, .if_icmp .le (5), 3, false, (0), 10, 0, 0, 0, []),
  (16, .iconst (-1), 1, true, (-1), 0, 0, 0, 0, []),
  (17, .ireturn, 1, false, (0), 0, 0, 0, 0, []),
  (18, .iconst (0), 1, false, (0), 0, 0, 0, 0, []),
  (19, .istore_n 2, 1, false, (0), 2, 0, 0, 0, []),
  (20, .iload_n 2, 1, true, (0), 2, 0, 0, 0, []),
  (21, .iload_n 1, 1, false, (0), 1, 0, 0, 0, []),
  (22, .if_icmp .ge (116), 3, false, (0), 72, 0, 0, 0, []),
  (25, .aload_n 0, 1, false, (0), 0, 0, 0, 0, []),
  (26, .getfield 421, 3, false, (0), 9, 66, 0, 0, []),
  (29, .ifCond .ne (109), 3, false, (0), 72, 0, 0, 0, []),
  (32, .aload_n 0, 1, false, (0), 0, 0, 0, 0, []),
  (33, .getfield 430, 3, false, (0), 9, 68, 0, 0, []),
  (36, .ifCond .ge (16), 3, false, (0), 28, 0, 0, 0, []),
  (39, .aload_n 0, 1, false, (0), 0, 0, 0, 0, []),
  (40, .iconst (0), 1, false, (0), 0, 0, 0, 0, []),
  (41, .invokevirtual 445, 3, false, (0), 81, 9, 2, 0, [(0, 0)]),
  (44, .ifCond .ne (8), 3, false, (0), 28, 0, 0, 0, []),
  (47, .aload_n 0, 1, false, (0), 0, 0, 0, 0, []),
  (48, .iconst (0), 1, false, (0), 0, 0, 0, 0, []),
  (49, .putfield 430, 3, false, (0), 9, 68, 0, 0, []),
  (52, .aload_n 0, 1, true, (0), 0, 0, 0, 0, []),
  (53, .getfield 427, 3, false, (0), 9, 67, 0, 0, []),
  (56, .istore_n 3, 1, false, (0), 3, 0, 0, 0, []),
  (57, .iload_n 3, 1, false, (0), 3, 0, 0, 0, []),
  (58, .aload_n 0, 1, false, (0), 0, 0, 0, 0, []),
  (59, .getfield 430, 3, false, (0), 9, 68, 0, 0, []),
  (62, .if_icmp .ge (15), 3, false, (0), 41, 0, 0, 0, []),
  (65, .aload_n 0, 1, false, (0), 0, 0, 0, 0, []),
  (66, .iload_n 3, 1, false, (0), 3, 0, 0, 0, []),
  (67, .invokevirtual 448, 3, false, (0), 85, 9, 2, 0, [(0, 0)]),
  (70, .ifCond .eq (7), 3, false, (0), 41, 0, 0, 0, []),
  (73, .iconst (1), 1, false, (1), 0, 0, 0, 0, []),
  (74, .goto (4), 3, false, (0), 42, 0, 0, 0, []),
  (77, .iconst (0), 1, true, (0), 0, 0, 0, 0, []),
  (78, .istore 4, 2, true, (0), 4, 0, 0, 0, []),
  (80, .iload_n 2, 1, false, (0), 2, 0, 0, 0, []),
  (81, .iload 4, 2, false, (0), 4, 0, 0, 0, []),
  (83, .ifCond .eq (7), 3, false, (0), 48, 0, 0, 0, []),
  (86, .iconst (1), 1, false, (1), 0, 0, 0, 0, []),
  (87, .goto (4), 3, false, (0), 49, 0, 0, 0, []),
  (90, .iconst (0), 1, false, (0), 0, 0, 0, 0, []),
  (91, .iadd, 1, true, (0), 0, 0, 0, 0, []),
  (92, .istore_n 2, 1, false, (0), 2, 0, 0, 0, []),
  (93, .aload_n 0, 1, false, (0), 0, 0, 0, 0, []),
  (94, .iload 4, 2, false, (0), 4, 0, 0, 0, []),
  (96, .ifCond .eq (10), 3, false, (0), 57, 0, 0, 0, []),
  (99, .aload_n 0, 1, false, (0), 0, 0, 0, 0, []),
  (100, .getfield 427, 3, false, (0), 9, 67, 0, 0, []),
  (103, .goto (4), 3, false, (0), 58, 0, 0, 0, []),
  (106, .iload_n 3, 1, false, (0), 3, 0, 0, 0, []),
  (107, .putfield 427, 3, true, (0), 9, 67, 0, 0, []),
  (110, .aload_n 0, 1, false, (0), 0, 0, 0, 0, []),
  (111, .iload 4, 2, false, (0), 4, 0, 0, 0, []),
  (113, .ifCond .ne (11), 3, false, (0), 66, 0, 0, 0, []),
  (116, .aload_n 0, 1, false, (0), 0, 0, 0, 0, []),
  (117, .getfield 421, 3, false, (0), 9, 66, 0, 0, []),
  (120, .iconst (3), 1, false, (3), 0, 0, 0, 0, []),
  (121, .if_icmp .ne (10), 3, false, (0), 69, 0, 0, 0, []),
  (124, .aload_n 0, 1, true, (0), 0, 0, 0, 0, []),
  (125, .getfield 421, 3, false, (0), 9, 66, 0, 0, []),
  (128, .goto (4), 3, false, (0), 70, 0, 0, 0, []),
  (131, .iconst (2), 1, false, (2), 0, 0, 0, 0, []),
  (132, .putfield 421, 3, true, (0), 9, 66, 0, 0, []),
  (135, .goto (-115), 3, false, (0), 12, 0, 0, 0, []),
  (138, .iload_n 2, 1, true, (0), 2, 0, 0, 0, []),
  (139, .ireturn, 1, false, (0), 0, 0, 0, 0, [])]
def f86 : sm_I := (⟨"TypedMillModel", "run", "(I)I"⟩, prog_11_method_73_code, 5, (some .int), 1, false, 9, c86)
def c87 : List sm_R := [
  (0, .aload_n 0, 1, false, (0), 0, 0, 0, 0, []),
  (1, .iconst (0), 1, false, (0), 0, 0, 0, 0, []),
  (2, .putfield 199, 3, false, (0), 9, 0, 0, 0, []),
  (5, .aload_n 0, 1, false, (0), 0, 0, 0, 0, []),
  (6, .getfield 421, 3, false, (0), 9, 66, 0, 0, []),
  (9, .ireturn, 1, false, (0), 0, 0, 0, 0, [])]
def f87 : sm_I := (⟨"TypedMillModel", "state", "()I"⟩, prog_11_method_74_code, 1, (some .int), 0, false, 9, c87)
def c88 : List sm_R := [
  (0, .aload_n 0, 1, false, (0), 0, 0, 0, 0, []),
  (1, .iconst (0), 1, false, (0), 0, 0, 0, 0, []),
  (2, .putfield 199, 3, false, (0), 9, 0, 0, 0, []),
  (5, .iload_n 1, 1, false, (0), 1, 0, 0, 0, []),
  (6, .invokestatic 387, 3, false, (0), 64, 0, 1, 0, [(0, 0)]),
  (9, .ifCond .eq (12), 3, false, (0), 11, 0, 0, 0, []),
  (12, .iload_n 2, 1, false, (0), 2, 0, 0, 0, []),
  (13, .ifCond .lt (8), 3, false, (0), 11, 0, 0, 0, []),
  (16, .iload_n 2, 1, false, (0), 2, 0, 0, 0, []),
  (17, .iconst (1), 1, false, (1), 0, 0, 0, 0, []),
  (18, .if_icmp .le (5), 3, false, (0), 13, 0, 0, 0, []),
  (21, .iconst (-1), 1, true, (-1), 0, 0, 0, 0, []),
  (22, .ireturn, 1, false, (0), 0, 0, 0, 0, []),
  (23, .iload_n 2, 1, false, (0), 2, 0, 0, 0, []),
  (24, .ifCond .ne (12), 3, false, (0), 20, 0, 0, 0, []),
  (27, .aload_n 0, 1, false, (0), 0, 0, 0, 0, []),
  (28, .getfield 146, 3, false, (0), 9, 70, 0, 0, []),
  (31, .iload_n 1, 1, false, (0), 1, 0, 0, 0, []),
  (32, .iaload, 1, false, (0), 0, 0, 0, 0, []),
  (33, .goto (9), 3, false, (0), 24, 0, 0, 0, []),
  (36, .aload_n 0, 1, false, (0), 0, 0, 0, 0, []),
  (37, .getfield 149, 3, false, (0), 9, 71, 0, 0, []),
  (40, .iload_n 1, 1, false, (0), 1, 0, 0, 0, []),
  (41, .iaload, 1, false, (0), 0, 0, 0, 0, []),
  (42, .ireturn, 1, true, (0), 0, 0, 0, 0, [])]
def f88 : sm_I := (⟨"TypedMillModel", "register", "(II)I"⟩, prog_11_method_75_code, 3, (some .int), 2, false, 9, c88)
end
section
/-! the tables of links and methods: by program -/
def smLF : sm_L4 := [(0, 10, 0, 0), (0, 19, 0, 1), (0, 37, 0, 3), (0, 120, 4, 8), (0, 67, 0, 7), (0, 60, 0, 6), (0, 149, 8, 13), (0, 152, 8, 11), (0, 145, 8, 6), (0, 135, 8, 14), (0, 53, 0, 5), (0, 180, 7, 10), (0, 124, 1, 7), (0, 28, 0, 2), (9, 199, 9, 0), (9, 22, 9, 6), (9, 202, 9, 1), (9, 7, 9, 2), (9, 13, 9, 3), (9, 16, 9, 4), (9, 19, 9, 5), (9, 192, 9, 7), (9, 25, 9, 8), (9, 28, 9, 9), (9, 31, 9, 10), (9, 34, 9, 11), (9, 37, 9, 12), (9, 216, 9, 13), (9, 55, 9, 19), (9, 40, 9, 14), (9, 43, 9, 15), (9, 46, 9, 16), (9, 49, 9, 17), (9, 52, 9, 18), (9, 58, 9, 23), (9, 225, 9, 20), (9, 61, 9, 24), (9, 228, 9, 22), (9, 64, 9, 25), (9, 67, 9, 26), (9, 73, 9, 28), (9, 231, 9, 21), (9, 76, 9, 32), (9, 245, 9, 30), (9, 79, 9, 33), (9, 82, 9, 34), (9, 85, 9, 35), (9, 248, 9, 31), (9, 88, 9, 36), (9, 251, 9, 29), (9, 70, 9, 27), (9, 284, 9, 47), (9, 288, 9, 39), (9, 91, 9, 40), (9, 94, 9, 41), (9, 97, 9, 42), (9, 100, 9, 43), (9, 106, 9, 45), (9, 291, 9, 54), (9, 294, 9, 52), (9, 103, 9, 44), (9, 109, 9, 46), (9, 124, 9, 59), (9, 297, 9, 50), (9, 300, 9, 51), (9, 127, 9, 60), (9, 133, 9, 62), (9, 130, 9, 61), (9, 112, 9, 55), (9, 303, 9, 48), (9, 115, 9, 56), (9, 118, 9, 57), (9, 121, 9, 58), (9, 306, 9, 49), (9, 137, 9, 63), (9, 327, 9, 53), (9, 140, 9, 64), (9, 143, 9, 65), (9, 167, 9, 77), (9, 170, 9, 78), (9, 173, 9, 79), (9, 176, 9, 80), (9, 179, 9, 81), (9, 182, 9, 82), (9, 185, 9, 83), (9, 378, 9, 38), (9, 381, 9, 37), (9, 164, 9, 76), (9, 421, 9, 66), (9, 424, 9, 69), (9, 146, 9, 70), (9, 149, 9, 71), (9, 427, 9, 67), (9, 430, 9, 68), (9, 152, 9, 72), (9, 155, 9, 73), (9, 158, 9, 74), (9, 161, 9, 75), (6, 21, 6, 2), (6, 29, 8, 11), (6, 17, 6, 0), (6, 33, 1, 7), (6, 11, 6, 1), (6, 69, 8, 1), (6, 75, 8, 2), (6, 78, 8, 3), (6, 81, 8, 4), (8, 47, 8, 6), (8, 50, 8, 11), (8, 39, 8, 12), (8, 53, 8, 13), (8, 57, 8, 15), (8, 27, 8, 7), (8, 30, 8, 8), (8, 33, 8, 9), (8, 36, 8, 10), (8, 43, 8, 0), (8, 11, 8, 1), (8, 15, 8, 2), (8, 18, 8, 3), (8, 21, 8, 4), (8, 24, 8, 5), (5, 43, 5, 10), (5, 50, 5, 9), (5, 54, 5, 5), (5, 72, 8, 15), (5, 24, 5, 6), (5, 27, 5, 7), (5, 30, 5, 8), (5, 80, 8, 13), (5, 37, 5, 1), (5, 83, 2, 0), (5, 88, 2, 1), (5, 20, 5, 4), (5, 17, 5, 3), (5, 33, 5, 0), (5, 13, 5, 2), (5, 114, 2, 2), (5, 117, 2, 3), (5, 134, 2, 4), (4, 31, 4, 4), (4, 35, 4, 7), (4, 38, 4, 8), (4, 41, 4, 9), (4, 15, 4, 2), (4, 27, 4, 0), (4, 49, 2, 0), (4, 52, 2, 1), (4, 11, 4, 1), (4, 18, 4, 3), (4, 21, 4, 5), (4, 24, 4, 6), (4, 74, 2, 2), (4, 77, 2, 3), (4, 80, 2, 4), (2, 30, 2, 6), (2, 11, 2, 0), (2, 15, 2, 1), (2, 18, 2, 2), (2, 21, 2, 3), (2, 24, 2, 4), (2, 27, 2, 5), (7, 32, 7, 7), (7, 36, 7, 8), (7, 40, 7, 9), (7, 43, 7, 6), (7, 46, 7, 10), (7, 11, 7, 0), (7, 17, 7, 1), (7, 70, 8, 2), (7, 73, 8, 3), (7, 76, 8, 4), (7, 79, 8, 1), (7, 20, 7, 2), (7, 23, 7, 3), (7, 26, 7, 4), (7, 29, 7, 5), (1, 43, 1, 7), (1, 11, 1, 0), (1, 15, 1, 1), (1, 18, 1, 2), (1, 21, 1, 3), (1, 24, 1, 4), (1, 27, 1, 5), (1, 30, 1, 6), (3, 25, 3, 3), (3, 21, 3, 1), (3, 33, 2, 0), (3, 38, 2, 1), (3, 11, 3, 2), (3, 59, 2, 2), (3, 62, 2, 3), (3, 65, 2, 4), (3, 17, 3, 0)]
def smLP : sm_L4 := [(9, 199, 9, 0), (9, 202, 9, 1), (9, 192, 9, 7), (9, 216, 9, 13), (9, 225, 9, 20), (9, 231, 9, 21), (9, 228, 9, 22), (9, 245, 9, 30), (9, 248, 9, 31), (9, 251, 9, 29), (9, 284, 9, 47), (9, 288, 9, 39), (9, 294, 9, 52), (9, 291, 9, 54), (9, 300, 9, 51), (9, 297, 9, 50), (9, 303, 9, 48), (9, 306, 9, 49), (9, 327, 9, 53), (9, 378, 9, 38), (9, 381, 9, 37), (9, 421, 9, 66), (9, 424, 9, 69), (9, 427, 9, 67), (9, 430, 9, 68), (6, 21, 6, 2), (8, 47, 8, 6), (8, 50, 8, 11), (8, 39, 8, 12), (8, 53, 8, 13), (8, 57, 8, 15), (5, 43, 5, 10), (5, 50, 5, 9), (5, 54, 5, 5), (5, 80, 8, 13), (4, 31, 4, 4), (4, 35, 4, 7), (4, 38, 4, 8), (4, 41, 4, 9), (2, 30, 2, 6), (7, 32, 7, 7), (7, 36, 7, 8), (7, 40, 7, 9), (7, 43, 7, 6), (7, 46, 7, 10), (1, 43, 1, 7), (3, 25, 3, 3)]
def smLM : sm_L3 := [(0, 78, 150), (0, 82, 158), (0, 86, 151), (0, 90, 156), (0, 94, 152), (0, 97, 136), (0, 100, 135), (0, 101, 14), (0, 146, 103), (0, 74, 138), (0, 155, 108), (0, 159, 109), (0, 163, 111), (0, 167, 113), (0, 131, 89), (0, 170, 114), (0, 174, 115), (0, 177, 139), (0, 183, 140), (0, 186, 164), (0, 138, 160), (9, 205, 17), (9, 209, 19), (9, 213, 20), (9, 188, 18), (9, 222, 24), (9, 234, 26), (9, 238, 27), (9, 242, 28), (9, 254, 36), (9, 258, 33), (9, 262, 32), (9, 266, 31), (9, 269, 35), (9, 275, 16), (9, 278, 30), (9, 281, 37), (9, 309, 40), (9, 313, 46), (9, 317, 43), (9, 321, 45), (9, 324, 41), (9, 330, 49), (9, 333, 44), (9, 337, 50), (9, 340, 42), (9, 343, 51), (9, 346, 47), (9, 350, 48), (9, 353, 53), (9, 356, 52), (9, 359, 54), (9, 362, 55), (9, 365, 56), (9, 372, 59), (9, 375, 57), (9, 196, 79), (9, 384, 62), (9, 393, 66), (9, 397, 69), (9, 400, 68), (9, 403, 71), (9, 406, 72), (9, 409, 70), (9, 415, 73), (9, 418, 75), (9, 433, 80), (9, 436, 82), (9, 439, 83), (9, 442, 84), (9, 445, 81), (9, 448, 85), (6, 25, 90), (6, 38, 91), (6, 42, 160), (6, 46, 107), (6, 50, 104), (6, 60, 105), (6, 63, 106), (6, 66, 93), (6, 84, 94), (6, 88, 159), (6, 92, 152), (6, 95, 153), (6, 98, 154), (6, 101, 95), (6, 104, 97), (6, 107, 99), (6, 111, 100), (6, 114, 101), (6, 117, 96), (6, 120, 155), (6, 123, 98), (6, 126, 157), (6, 130, 102), (8, 60, 104), (8, 64, 110), (8, 68, 156), (8, 77, 112), (8, 81, 152), (5, 47, 103), (5, 57, 108), (5, 61, 109), (5, 65, 117), (5, 69, 113), (5, 76, 124), (5, 91, 118), (5, 94, 122), (5, 97, 123), (5, 100, 125), (5, 103, 121), (5, 107, 119), (5, 110, 154), (5, 120, 126), (5, 127, 159), (5, 131, 153), (4, 45, 128), (4, 55, 129), (4, 58, 130), (4, 62, 131), (4, 65, 132), (4, 68, 133), (4, 71, 134), (2, 37, 137), (2, 41, 135), (7, 55, 141), (7, 59, 106), (7, 63, 142), (7, 67, 105), (7, 82, 143), (7, 86, 144), (7, 90, 145), (7, 93, 146), (7, 96, 147), (7, 99, 148), (7, 102, 149), (7, 106, 104), (1, 47, 150), (1, 39, 159), (1, 51, 156), (1, 58, 161), (1, 62, 162), (3, 29, 165), (3, 41, 167), (3, 44, 168), (3, 47, 169), (3, 50, 170), (3, 53, 171), (3, 56, 166), (3, 68, 153), (3, 71, 154), (3, 74, 152), (3, 77, 159)]
def smLN : sm_L3 := [(9, 219, 23), (9, 272, 34), (9, 368, 58), (9, 387, 64), (9, 390, 65), (9, 412, 74), (6, 54, 173), (6, 72, 92), (5, 124, 120), (2, 45, 172), (7, 49, 173), (1, 55, 163)]
def smLS : sm_L3 := [(8, 74, 1000), (2, 34, 1001)]
def smP : List sm_I := [f0, f1, f2, f3, f4, f5, f6, f7, f8, f9, f10, f11, f12, f13, f14, f15, f16, f17, f18, f19, f20, f21, f22, f23, f24, f25, f26, f27, f28, f29, f30, f31, f32, f33, f34, f35, f36, f37, f38, f39, f40, f41, f42, f43, f44, f45, f46, f47, f48, f49, f50, f51, f52, f53, f54, f55, f56, f57, f58, f59, f60, f61, f62, f63, f64, f65, f66, f67, f68, f69, f70, f71, f72, f73, f74, f75, f76, f77, f78, f79, f80, f81, f82, f83, f84, f85, f86, f87, f88, f89, f90, f91, f92, f93, f94, f95, f96, f97, f98, f99, f100, f101, f102, f103, f104, f105, f106, f107, f108, f109, f110, f111, f112, f113, f114, f115, f116, f117, f118, f119, f120, f121, f122, f123, f124, f125, f126, f127, f128, f129, f130, f131, f132, f133, f134, f135, f136, f137, f138, f139, f140, f141, f142, f143, f144, f145, f146, f147, f148, f149, f150, f151, f152, f153, f154, f155, f156, f157, f158, f159, f160, f161, f162, f163, f164, f165, f166, f167, f168, f169, f170, f171, f172, f173]
def smT : List Cond := lw_tbl.filter goodWord
theorem smT_in {w : Cond} (h : w ∈ smT) : w ∈ lw_tbl := (List.mem_filter.mp h).1
theorem sm_memr {ws : List Cond} (ps : List Nat) (hp : ws = ps.filterMap (fun i => lw_tbl[i]?)) (hg : ws.all goodWord = true) : ∀ w ∈ ws, w ∈ smT := by
  intro w hw
  have h1 := List.all_eq_true.mp hg w hw
  rw [hp] at hw
  obtain ⟨i, -, hi⟩ := List.mem_filterMap.mp hw
  exact List.mem_filter.mpr ⟨List.mem_of_getElem? hi, h1⟩
theorem sm_mem1 {w : Cond} (i : Nat) (h : lw_tbl[i]? = some w) (hg : goodWord w = true) : w ∈ smT := List.mem_filter.mpr ⟨List.mem_of_getElem? h, hg⟩
theorem sm_good : ∀ w ∈ smT, goodWord w = true := fun _ h => (List.mem_filter.mp h).2
theorem uw0 : ∀ w ∈ u_ws "TypedMill" tF0 9, w ∈ smT := sm_memr [468, 470, 472, 474, 476, 478, 480, 482, 484] (by decide +kernel) (by decide +kernel)
def tY0 : Nat → FieldType := fun k => [.object "TypedMill$Types", .object "TypedMill$Expressions", .object "TypedMill$Typing", .object "TypedMill$Evaluator", .object "TypedMill$CodeWriter", .object "TypedMill$Checker", .object "TypedMill$Machine", .object "TypedMill$Code", .object "TypedMill$Code"].getD k .int
theorem tY0_ok : ∀ k, k < 9 → parseFieldDescriptor (tF0 k).2.2.1 = some (tY0 k) := by decide +kernel
theorem nm0 : ∀ a, a < 9 → ∀ b, b < 9 → a ≠ b → (tF0 a).2.1 ≠ (tF0 b).2.1 := by decide +kernel
theorem uw1 : ∀ w ∈ u_ws "TypedMill$Types" tF1 8, w ∈ smT := sm_memr [168, 170, 172, 174, 176, 178, 180, 182] (by decide +kernel) (by decide +kernel)
def tY1 : Nat → FieldType := fun k => [.array .int, .array .int, .array .int, .array .int, .array .int, .array .int, .array .int, .int].getD k .int
theorem tY1_ok : ∀ k, k < 8 → parseFieldDescriptor (tF1 k).2.2.1 = some (tY1 k) := by decide +kernel
theorem nm1 : ∀ a, a < 8 → ∀ b, b < 8 → a ≠ b → (tF1 a).2.1 ≠ (tF1 b).2.1 := by decide +kernel
theorem uw2 : ∀ w ∈ u_ws "TypedMill$Expressions" tF2 7, w ∈ smT := sm_memr [214, 216, 218, 220, 222, 224, 226] (by decide +kernel) (by decide +kernel)
def tY2 : Nat → FieldType := fun k => [.array .int, .array .int, .array .int, .array .int, .array .int, .array .int, .int].getD k .int
theorem tY2_ok : ∀ k, k < 7 → parseFieldDescriptor (tF2 k).2.2.1 = some (tY2 k) := by decide +kernel
theorem nm2 : ∀ a, a < 7 → ∀ b, b < 7 → a ≠ b → (tF2 a).2.1 ≠ (tF2 b).2.1 := by decide +kernel
theorem uw3 : ∀ w ∈ u_ws "TypedMill$Typing" tF3 4, w ∈ smT := sm_memr [239, 241, 243, 245] (by decide +kernel) (by decide +kernel)
def tY3 : Nat → FieldType := fun k => [.object "TypedMill$Types", .object "TypedMill$Expressions", .array .int, .int].getD k .int
theorem tY3_ok : ∀ k, k < 4 → parseFieldDescriptor (tF3 k).2.2.1 = some (tY3 k) := by decide +kernel
theorem nm3 : ∀ a, a < 4 → ∀ b, b < 4 → a ≠ b → (tF3 a).2.1 ≠ (tF3 b).2.1 := by decide +kernel
theorem uw4 : ∀ w ∈ u_ws "TypedMill$Evaluator" tF4 10, w ∈ smT := sm_memr [266, 268, 270, 272, 274, 276, 278, 280, 282, 284] (by decide +kernel) (by decide +kernel)
def tY4 : Nat → FieldType := fun k => [.object "TypedMill$Expressions", .array .int, .array .int, .array .int, .int, .array .int, .array .int, .int, .int, .boolean].getD k .int
theorem tY4_ok : ∀ k, k < 10 → parseFieldDescriptor (tF4 k).2.2.1 = some (tY4 k) := by decide +kernel
theorem nm4 : ∀ a, a < 10 → ∀ b, b < 10 → a ≠ b → (tF4 a).2.1 ≠ (tF4 b).2.1 := by decide +kernel
theorem uw5 : ∀ w ∈ u_ws "TypedMill$CodeWriter" tF5 11, w ∈ smT := sm_memr [304, 306, 308, 310, 312, 314, 316, 318, 320, 322, 324] (by decide +kernel) (by decide +kernel)
def tY5 : Nat → FieldType := fun k => [.object "TypedMill$Types", .object "TypedMill$Expressions", .array .int, .array .int, .array .boolean, .int, .array .int, .array .int, .array .int, .int, .object "TypedMill$Code"].getD k .int
theorem tY5_ok : ∀ k, k < 11 → parseFieldDescriptor (tF5 k).2.2.1 = some (tY5 k) := by decide +kernel
theorem nm5 : ∀ a, a < 11 → ∀ b, b < 11 → a ≠ b → (tF5 a).2.1 ≠ (tF5 b).2.1 := by decide +kernel
theorem uw6 : ∀ w ∈ u_ws "TypedMill$Checker" tF6 3, w ∈ smT := sm_memr [337, 339, 341] (by decide +kernel) (by decide +kernel)
def tY6 : Nat → FieldType := fun k => [.object "TypedMill$Types", .array .int, .object "TypedMill$Code"].getD k .int
theorem tY6_ok : ∀ k, k < 3 → parseFieldDescriptor (tF6 k).2.2.1 = some (tY6 k) := by decide +kernel
theorem nm6 : ∀ a, a < 3 → ∀ b, b < 3 → a ≠ b → (tF6 a).2.1 ≠ (tF6 b).2.1 := by decide +kernel
theorem uw7 : ∀ w ∈ u_ws "TypedMill$Machine" tF7 11, w ∈ smT := sm_memr [362, 364, 366, 368, 370, 372, 374, 376, 378, 380, 382] (by decide +kernel) (by decide +kernel)
def tY7 : Nat → FieldType := fun k => [.array .int, .array .int, .array .int, .array .int, .array .int, .array .int, .int, .object "TypedMill$Code", .int, .int, .int].getD k .int
theorem tY7_ok : ∀ k, k < 11 → parseFieldDescriptor (tF7 k).2.2.1 = some (tY7 k) := by decide +kernel
theorem nm7 : ∀ a, a < 11 → ∀ b, b < 11 → a ≠ b → (tF7 a).2.1 ≠ (tF7 b).2.1 := by decide +kernel
theorem uw8 : ∀ w ∈ u_ws "TypedMill$Code" tF8 16, w ∈ smT := sm_memr [421, 423, 425, 427, 429, 431, 433, 435, 437, 439, 441, 443, 445, 447, 449, 451] (by decide +kernel) (by decide +kernel)
def tY8 : Nat → FieldType := fun k => [.object "TypedMill$Types", .array .int, .array .int, .array .int, .array .int, .array .int, .int, .array .int, .array .int, .array .int, .array .int, .int, .int, .boolean, .int, .boolean].getD k .int
theorem tY8_ok : ∀ k, k < 16 → parseFieldDescriptor (tF8 k).2.2.1 = some (tY8 k) := by decide +kernel
theorem nm8 : ∀ a, a < 16 → ∀ b, b < 16 → a ≠ b → (tF8 a).2.1 ≠ (tF8 b).2.1 := by decide +kernel
theorem uw9 : ∀ w ∈ u_ws "TypedMillModel" tF9 84, w ∈ smT := sm_memr [1113, 1115, 1117, 1119, 1121, 1123, 1125, 1127, 1129, 1131, 1133, 1135, 1137, 1139, 1141, 1143, 1145, 1147, 1149, 1151, 1153, 1155, 1157, 1159, 1161, 1163, 1165, 1167, 1169, 1171, 1173, 1175, 1177, 1179, 1181, 1183, 1185, 1187, 1189, 1191, 1193, 1195, 1197, 1199, 1201, 1203, 1205, 1207, 1209, 1211, 1213, 1215, 1217, 1219, 1221, 1223, 1225, 1227, 1229, 1231, 1233, 1235, 1237, 1239, 1241, 1243, 1245, 1247, 1249, 1251, 1253, 1255, 1257, 1259, 1261, 1263, 1265, 1267, 1269, 1271, 1273, 1275, 1277, 1279] (by decide +kernel) (by decide +kernel)
def tY9 : Nat → FieldType := fun k => [.int, .int, .array .int, .array .int, .array .int, .array .int, .array .int, .int, .array .int, .array .int, .array .int, .array .int, .array .int, .int, .array .int, .array .int, .array .int, .array .int, .array .int, .array .int, .int, .int, .int, .array .int, .array .int, .array .int, .array .int, .array .int, .array .int, .int, .int, .int, .array .int, .array .int, .array .int, .array .int, .array .int, .boolean, .int, .int, .array .int, .array .int, .array .int, .array .int, .array .int, .array .int, .array .int, .boolean, .int, .int, .int, .int, .int, .int, .int, .array .int, .array .int, .array .int, .array .int, .array .int, .array .int, .array .int, .array .boolean, .array .int, .array .int, .array .int, .int, .int, .int, .int, .array .int, .array .int, .array .int, .array .int, .array .int, .array .int, .array .int, .array .int, .array .int, .array .int, .array .int, .array .int, .array .int, .array .int].getD k .int
theorem tY9_ok : ∀ k, k < 84 → parseFieldDescriptor (tF9 k).2.2.1 = some (tY9 k) := by decide +kernel
theorem nm9 : ∀ a, a < 84 → ∀ b, b < 84 → a ≠ b → (tF9 a).2.1 ≠ (tF9 b).2.1 := by decide +kernel
theorem sm_vCls (ci : Nat) (C : String) (T : u_T) (N : Nat) (h : smCl[ci]? = some (C, T, N)) : (∀ w ∈ u_ws C T N, w ∈ smT) ∧ (∃ ty : Nat → FieldType, ∀ k, k < N → parseFieldDescriptor (T k).2.2.1 = some (ty k)) ∧ ∀ a, a < N → ∀ b, b < N → a ≠ b → (T a).2.1 ≠ (T b).2.1 := by
  match ci, h with
  | 0, h => cases h; exact ⟨uw0, ⟨tY0, tY0_ok⟩, nm0⟩
  | 1, h => cases h; exact ⟨uw1, ⟨tY1, tY1_ok⟩, nm1⟩
  | 2, h => cases h; exact ⟨uw2, ⟨tY2, tY2_ok⟩, nm2⟩
  | 3, h => cases h; exact ⟨uw3, ⟨tY3, tY3_ok⟩, nm3⟩
  | 4, h => cases h; exact ⟨uw4, ⟨tY4, tY4_ok⟩, nm4⟩
  | 5, h => cases h; exact ⟨uw5, ⟨tY5, tY5_ok⟩, nm5⟩
  | 6, h => cases h; exact ⟨uw6, ⟨tY6, tY6_ok⟩, nm6⟩
  | 7, h => cases h; exact ⟨uw7, ⟨tY7, tY7_ok⟩, nm7⟩
  | 8, h => cases h; exact ⟨uw8, ⟨tY8, tY8_ok⟩, nm8⟩
  | 9, h => cases h; exact ⟨uw9, ⟨tY9, tY9_ok⟩, nm9⟩
def sm_lfw (q : Nat × Nat × Nat × Nat) : Cond := match smCl[q.2.2.1]? with
  | some (C, T, _) => .fieldLink (smNm q.1) q.2.1 C (T q.2.2.2).2.1 (T q.2.2.2).2.2.1
  | none => .initialized ""
def sm_lfk (q : Nat × Nat × Nat × Nat) : Bool := match smCl[q.2.2.1]? with
  | some (C, T, N) => decide (q.2.2.2 < N) && decide ((T q.2.2.2).1 = C)
  | none => false
def smLF_0 : sm_L4 := [(0, 10, 0, 0), (0, 19, 0, 1), (0, 37, 0, 3), (0, 120, 4, 8), (0, 67, 0, 7), (0, 60, 0, 6), (0, 149, 8, 13), (0, 152, 8, 11), (0, 145, 8, 6), (0, 135, 8, 14), (0, 53, 0, 5), (0, 180, 7, 10), (0, 124, 1, 7), (0, 28, 0, 2), (9, 199, 9, 0), (9, 22, 9, 6), (9, 202, 9, 1), (9, 7, 9, 2), (9, 13, 9, 3), (9, 16, 9, 4), (9, 19, 9, 5), (9, 192, 9, 7), (9, 25, 9, 8), (9, 28, 9, 9), (9, 31, 9, 10), (9, 34, 9, 11), (9, 37, 9, 12), (9, 216, 9, 13), (9, 55, 9, 19), (9, 40, 9, 14), (9, 43, 9, 15), (9, 46, 9, 16), (9, 49, 9, 17), (9, 52, 9, 18), (9, 58, 9, 23), (9, 225, 9, 20), (9, 61, 9, 24), (9, 228, 9, 22), (9, 64, 9, 25), (9, 67, 9, 26), (9, 73, 9, 28), (9, 231, 9, 21), (9, 76, 9, 32), (9, 245, 9, 30), (9, 79, 9, 33), (9, 82, 9, 34), (9, 85, 9, 35), (9, 248, 9, 31), (9, 88, 9, 36), (9, 251, 9, 29), (9, 70, 9, 27), (9, 284, 9, 47), (9, 288, 9, 39), (9, 91, 9, 40), (9, 94, 9, 41), (9, 97, 9, 42), (9, 100, 9, 43), (9, 106, 9, 45), (9, 291, 9, 54), (9, 294, 9, 52)]
theorem sm_lf0 : ∀ w ∈ smLF_0.map sm_lfw, w ∈ smT := sm_memr [459, 460, 462, 263, 466, 465, 417, 413, 406, 418, 464, 361, 167, 461, 1029, 1035, 1030, 1031, 1032, 1033, 1034, 1036, 1037, 1038, 1039, 1040, 1041, 1042, 1048, 1043, 1044, 1045, 1046, 1047, 1052, 1049, 1053, 1051, 1054, 1055, 1057, 1050, 1061, 1059, 1062, 1063, 1064, 1060, 1065, 1058, 1056, 1076, 1068, 1069, 1070, 1071, 1072, 1074, 1083, 1081] (by decide +kernel) (by decide +kernel)
def smLF_1 : sm_L4 := [(9, 103, 9, 44), (9, 109, 9, 46), (9, 124, 9, 59), (9, 297, 9, 50), (9, 300, 9, 51), (9, 127, 9, 60), (9, 133, 9, 62), (9, 130, 9, 61), (9, 112, 9, 55), (9, 303, 9, 48), (9, 115, 9, 56), (9, 118, 9, 57), (9, 121, 9, 58), (9, 306, 9, 49), (9, 137, 9, 63), (9, 327, 9, 53), (9, 140, 9, 64), (9, 143, 9, 65), (9, 167, 9, 77), (9, 170, 9, 78), (9, 173, 9, 79), (9, 176, 9, 80), (9, 179, 9, 81), (9, 182, 9, 82), (9, 185, 9, 83), (9, 378, 9, 38), (9, 381, 9, 37), (9, 164, 9, 76), (9, 421, 9, 66), (9, 424, 9, 69), (9, 146, 9, 70), (9, 149, 9, 71), (9, 427, 9, 67), (9, 430, 9, 68), (9, 152, 9, 72), (9, 155, 9, 73), (9, 158, 9, 74), (9, 161, 9, 75), (6, 21, 6, 2), (6, 29, 8, 11), (6, 17, 6, 0), (6, 33, 1, 7), (6, 11, 6, 1), (6, 69, 8, 1), (6, 75, 8, 2), (6, 78, 8, 3), (6, 81, 8, 4), (8, 47, 8, 6), (8, 50, 8, 11), (8, 39, 8, 12), (8, 53, 8, 13), (8, 57, 8, 15), (8, 27, 8, 7), (8, 30, 8, 8), (8, 33, 8, 9), (8, 36, 8, 10), (8, 43, 8, 0), (8, 11, 8, 1), (8, 15, 8, 2), (8, 18, 8, 3)]
theorem sm_lf1 : ∀ w ∈ smLF_1.map sm_lfw, w ∈ smT := sm_memr [1073, 1075, 1088, 1079, 1080, 1089, 1091, 1090, 1084, 1077, 1085, 1086, 1087, 1078, 1092, 1082, 1093, 1094, 1106, 1107, 1108, 1109, 1110, 1111, 1112, 1067, 1066, 1105, 1095, 1098, 1099, 1100, 1096, 1097, 1101, 1102, 1103, 1104, 336, 412, 334, 166, 335, 393, 397, 400, 403, 405, 411, 414, 415, 419, 407, 408, 409, 410, 391, 392, 395, 398] (by decide +kernel) (by decide +kernel)
def smLF_2 : sm_L4 := [(8, 21, 8, 4), (8, 24, 8, 5), (5, 43, 5, 10), (5, 50, 5, 9), (5, 54, 5, 5), (5, 72, 8, 15), (5, 24, 5, 6), (5, 27, 5, 7), (5, 30, 5, 8), (5, 80, 8, 13), (5, 37, 5, 1), (5, 83, 2, 0), (5, 88, 2, 1), (5, 20, 5, 4), (5, 17, 5, 3), (5, 33, 5, 0), (5, 13, 5, 2), (5, 114, 2, 2), (5, 117, 2, 3), (5, 134, 2, 4), (4, 31, 4, 4), (4, 35, 4, 7), (4, 38, 4, 8), (4, 41, 4, 9), (4, 15, 4, 2), (4, 27, 4, 0), (4, 49, 2, 0), (4, 52, 2, 1), (4, 11, 4, 1), (4, 18, 4, 3), (4, 21, 4, 5), (4, 24, 4, 6), (4, 74, 2, 2), (4, 77, 2, 3), (4, 80, 2, 4), (2, 30, 2, 6), (2, 11, 2, 0), (2, 15, 2, 1), (2, 18, 2, 2), (2, 21, 2, 3), (2, 24, 2, 4), (2, 27, 2, 5), (7, 32, 7, 7), (7, 36, 7, 8), (7, 40, 7, 9), (7, 43, 7, 6), (7, 46, 7, 10), (7, 11, 7, 0), (7, 17, 7, 1), (7, 70, 8, 2), (7, 73, 8, 3), (7, 76, 8, 4), (7, 79, 8, 1), (7, 20, 7, 2), (7, 23, 7, 3), (7, 26, 7, 4), (7, 29, 7, 5), (1, 43, 1, 7), (1, 11, 1, 0), (1, 15, 1, 1)]
theorem sm_lf2 : ∀ w ∈ smLF_2.map sm_lfw, w ∈ smT := sm_memr [401, 404, 303, 302, 298, 420, 299, 300, 301, 416, 294, 194, 198, 297, 296, 293, 295, 202, 206, 211, 258, 261, 262, 264, 256, 254, 195, 199, 255, 257, 259, 260, 203, 207, 210, 213, 192, 196, 200, 204, 208, 212, 357, 358, 359, 356, 360, 350, 351, 396, 399, 402, 394, 352, 353, 354, 355, 165, 158, 159] (by decide +kernel) (by decide +kernel)
def smLF_3 : sm_L4 := [(1, 18, 1, 2), (1, 21, 1, 3), (1, 24, 1, 4), (1, 27, 1, 5), (1, 30, 1, 6), (3, 25, 3, 3), (3, 21, 3, 1), (3, 33, 2, 0), (3, 38, 2, 1), (3, 11, 3, 2), (3, 59, 2, 2), (3, 62, 2, 3), (3, 65, 2, 4), (3, 17, 3, 0)]
theorem sm_lf3 : ∀ w ∈ smLF_3.map sm_lfw, w ∈ smT := sm_memr [160, 161, 162, 163, 164, 238, 236, 193, 197, 237, 201, 205, 209, 235] (by decide +kernel) (by decide +kernel)
theorem sm_lf_all : smLF = smLF_0 ++ smLF_1 ++ smLF_2 ++ smLF_3 := by decide +kernel
theorem sm_lfk_all : smLF.all sm_lfk = true := by decide +kernel
theorem sm_lf_in {q : Nat × Nat × Nat × Nat} (h : q ∈ smLF) : sm_lfw q ∈ smT := by
  rw [sm_lf_all] at h
  simp only [List.mem_append] at h
  rcases h with ((h | h) | h) | h
  · exact sm_lf0 _ (List.mem_map_of_mem h)
  · exact sm_lf1 _ (List.mem_map_of_mem h)
  · exact sm_lf2 _ (List.mem_map_of_mem h)
  · exact sm_lf3 _ (List.mem_map_of_mem h)
theorem sm_vLF (o i ci k : Nat) (h : (o, i, ci, k) ∈ smLF) : ∃ (C : String) (T : u_T) (N : Nat), smCl[ci]? = some (C, T, N) ∧ k < N ∧ Cond.fieldLink (smNm o) i C (T k).2.1 (T k).2.2.1 ∈ smT ∧ (T k).1 = C := by
  have h1 := sm_lf_in h
  have h2 := List.all_eq_true.mp sm_lfk_all _ h
  unfold sm_lfw at h1
  unfold sm_lfk at h2
  try dsimp only at h1 h2
  cases hc : smCl[ci]? with
  | none => rw [hc] at h2; cases h2
  | some x =>
    obtain ⟨C, T, N⟩ := x
    rw [hc] at h1 h2
    simp only [Bool.and_eq_true, decide_eq_true_eq] at h2
    exact ⟨C, T, N, rfl, h2.1, h1, h2.2⟩
def sm_lpk (q : Nat × Nat × Nat × Nat) : Bool := decide (q ∈ smLF) && match smCl[q.2.2.1]? with
  | some (_, T, _) => !(T q.2.2.2).2.2.2
  | none => true
theorem sm_lpk_all : smLP.all sm_lpk = true := by decide +kernel
theorem sm_vLP (o i ci k : Nat) (h : (o, i, ci, k) ∈ smLP) : (o, i, ci, k) ∈ smLF ∧ ∀ (C : String) (T : u_T) (N : Nat), smCl[ci]? = some (C, T, N) → (T k).2.2.2 = false := by
  have h2 := List.all_eq_true.mp sm_lpk_all _ h
  unfold sm_lpk at h2
  rw [Bool.and_eq_true] at h2
  refine ⟨of_decide_eq_true h2.1, fun C T N hc => ?_⟩
  have h3 := h2.2
  try dsimp only at h3
  rw [hc] at h3
  simpa using h3
def sm_my (x : Nat) : MethodName := match smP[x]? with
  | some g => g.1
  | none => ⟨"", "", ""⟩
def smLM_0 : sm_L3 := [(0, 78, 150), (0, 82, 158), (0, 86, 151), (0, 90, 156), (0, 94, 152), (0, 97, 136), (0, 100, 135), (0, 101, 14), (0, 146, 103), (0, 74, 138), (0, 155, 108), (0, 159, 109), (0, 163, 111), (0, 167, 113), (0, 131, 89), (0, 170, 114), (0, 174, 115), (0, 177, 139), (0, 183, 140), (0, 186, 164), (0, 138, 160), (9, 205, 17), (9, 209, 19), (9, 213, 20), (9, 188, 18), (9, 222, 24), (9, 234, 26), (9, 238, 27), (9, 242, 28), (9, 254, 36), (9, 258, 33), (9, 262, 32), (9, 266, 31), (9, 269, 35), (9, 275, 16), (9, 278, 30), (9, 281, 37), (9, 309, 40), (9, 313, 46), (9, 317, 43)]
theorem sm_lm0 : (∀ w ∈ smLM_0.map (fun q => Cond.methodLink (smNm q.1) q.2.1 (sm_my q.2.2)), w ∈ smT) ∧ (∀ w ∈ smLM_0.map (fun q => Cond.instanceMethod (sm_my q.2.2)), w ∈ smT) ∧ (∀ w ∈ smLM_0.map (fun q => Cond.selects (sm_my q.2.2).cls (sm_my q.2.2) (sm_my q.2.2)), w ∈ smT) := ⟨sm_memr [491, 495, 499, 508, 513, 517, 538, 539, 597, 454, 605, 609, 626, 637, 645, 731, 739, 747, 798, 543, 585, 1021, 1290, 1294, 1017, 1309, 1321, 1325, 1317, 1349, 1341, 1353, 1357, 1361, 1333, 1337, 1345, 1411, 1431, 1435] (by decide +kernel) (by decide +kernel), sm_memr [492, 496, 500, 151, 514, 518, 528, 541, 598, 455, 606, 610, 627, 638, 646, 732, 740, 748, 799, 544, 586, 1023, 1292, 1296, 1019, 1311, 1323, 1327, 1319, 1351, 1343, 1355, 1359, 1363, 1335, 1339, 1347, 1413, 1433, 1437] (by decide +kernel) (by decide +kernel), sm_memr [493, 497, 501, 152, 515, 519, 529, 3, 599, 456, 607, 611, 628, 639, 647, 733, 741, 749, 800, 545, 587, 52, 54, 55, 51, 56, 58, 59, 57, 64, 62, 65, 66, 67, 60, 61, 63, 76, 81, 82] (by decide +kernel) (by decide +kernel)⟩
def smLM_1 : sm_L3 := [(9, 321, 45), (9, 324, 41), (9, 330, 49), (9, 333, 44), (9, 337, 50), (9, 340, 42), (9, 343, 51), (9, 346, 47), (9, 350, 48), (9, 353, 53), (9, 356, 52), (9, 359, 54), (9, 362, 55), (9, 365, 56), (9, 372, 59), (9, 375, 57), (9, 196, 79), (9, 384, 62), (9, 393, 66), (9, 397, 69), (9, 400, 68), (9, 403, 71), (9, 406, 72), (9, 409, 70), (9, 415, 73), (9, 418, 75), (9, 433, 80), (9, 436, 82), (9, 439, 83), (9, 442, 84), (9, 445, 81), (9, 448, 85), (6, 25, 90), (6, 38, 91), (6, 42, 160), (6, 46, 107), (6, 50, 104), (6, 60, 105), (6, 63, 106), (6, 66, 93)]
theorem sm_lm1 : (∀ w ∈ smLM_1.map (fun q => Cond.methodLink (smNm q.1) q.2.1 (sm_my q.2.2)), w ∈ smT) ∧ (∀ w ∈ smLM_1.map (fun q => Cond.instanceMethod (sm_my q.2.2)), w ∈ smT) ∧ (∀ w ∈ smLM_1.map (fun q => Cond.selects (sm_my q.2.2).cls (sm_my q.2.2) (sm_my q.2.2)), w ∈ smT) := ⟨sm_memr [1415, 1387, 1419, 1399, 1423, 1391, 1407, 1427, 1439, 1443, 1447, 1403, 1395, 1451, 1376, 1383, 1025, 1463, 1471, 1512, 1500, 1496, 1504, 1508, 1492, 1485, 1536, 1540, 1544, 1548, 1528, 1532, 649, 658, 726, 653, 657, 663, 667, 671] (by decide +kernel) (by decide +kernel), sm_memr [1417, 1389, 1421, 1401, 1425, 1393, 1409, 1429, 1441, 1445, 1449, 1405, 1397, 1453, 1378, 1385, 1027, 1465, 1473, 1514, 1502, 1498, 1506, 1510, 1494, 1487, 1538, 1542, 1546, 1550, 1530, 1534, 651, 660, 586, 654, 614, 664, 668, 673] (by decide +kernel) (by decide +kernel), sm_memr [77, 70, 78, 73, 79, 71, 75, 80, 83, 84, 85, 74, 72, 86, 68, 69, 53, 87, 88, 95, 92, 91, 93, 94, 90, 89, 98, 99, 100, 101, 96, 97, 13, 14, 587, 655, 615, 665, 669, 15] (by decide +kernel) (by decide +kernel)⟩
def smLM_2 : sm_L3 := [(6, 84, 94), (6, 88, 159), (6, 92, 152), (6, 95, 153), (6, 98, 154), (6, 101, 95), (6, 104, 97), (6, 107, 99), (6, 111, 100), (6, 114, 101), (6, 117, 96), (6, 120, 155), (6, 123, 98), (6, 126, 157), (6, 130, 102), (8, 60, 104), (8, 64, 110), (8, 68, 156), (8, 77, 112), (8, 81, 152), (5, 47, 103), (5, 57, 108), (5, 61, 109), (5, 65, 117), (5, 69, 113), (5, 76, 124), (5, 91, 118), (5, 94, 122), (5, 97, 123), (5, 100, 125), (5, 103, 121), (5, 107, 119), (5, 110, 154), (5, 120, 126), (5, 127, 159), (5, 131, 153), (4, 45, 128), (4, 55, 129), (4, 58, 130), (4, 62, 131)]
theorem sm_lm2 : (∀ w ∈ smLM_2.map (fun q => Cond.methodLink (smNm q.1) q.2.1 (sm_my q.2.2)), w ∈ smT) ∧ (∀ w ∈ smLM_2.map (fun q => Cond.instanceMethod (sm_my q.2.2)), w ∈ smT) ∧ (∀ w ∈ smLM_2.map (fun q => Cond.selects (sm_my q.2.2).cls (sm_my q.2.2) (sm_my q.2.2)), w ∈ smT) := ⟨sm_memr [675, 679, 680, 681, 682, 683, 687, 703, 711, 719, 691, 695, 699, 707, 715, 613, 617, 621, 632, 636, 950, 951, 952, 953, 957, 992, 958, 963, 967, 971, 980, 985, 962, 975, 979, 984, 895, 899, 903, 907] (by decide +kernel) (by decide +kernel), sm_memr [677, 140, 514, 560, 564, 685, 689, 705, 713, 721, 693, 696, 701, 708, 717, 614, 619, 151, 634, 514, 598, 606, 610, 955, 638, 994, 960, 965, 969, 973, 982, 987, 564, 977, 140, 560, 897, 901, 905, 909] (by decide +kernel) (by decide +kernel), sm_memr [16, 141, 515, 561, 565, 17, 18, 21, 22, 24, 19, 697, 20, 709, 23, 615, 11, 152, 12, 515, 599, 607, 611, 42, 639, 50, 43, 44, 45, 46, 48, 49, 565, 47, 141, 561, 35, 36, 37, 38] (by decide +kernel) (by decide +kernel)⟩
def smLM_3 : sm_L3 := [(4, 65, 132), (4, 68, 133), (4, 71, 134), (2, 37, 137), (2, 41, 135), (7, 55, 141), (7, 59, 106), (7, 63, 142), (7, 67, 105), (7, 82, 143), (7, 86, 144), (7, 90, 145), (7, 93, 146), (7, 96, 147), (7, 99, 148), (7, 102, 149), (7, 106, 104), (1, 47, 150), (1, 39, 159), (1, 51, 156), (1, 58, 161), (1, 62, 162), (3, 29, 165), (3, 41, 167), (3, 44, 168), (3, 47, 169), (3, 50, 170), (3, 53, 171), (3, 56, 166), (3, 68, 153), (3, 71, 154), (3, 74, 152), (3, 77, 159)]
theorem sm_lm3 : (∀ w ∈ smLM_3.map (fun q => Cond.methodLink (smNm q.1) q.2.1 (sm_my q.2.2)), w ∈ smT) ∧ (∀ w ∈ smLM_3.map (fun q => Cond.instanceMethod (sm_my q.2.2)), w ∈ smT) ∧ (∀ w ∈ smLM_3.map (fun q => Cond.selects (sm_my q.2.2).cls (sm_my q.2.2) (sm_my q.2.2)), w ∈ smT) := ⟨sm_memr [911, 915, 919, 523, 527, 751, 755, 756, 760, 761, 765, 769, 773, 777, 781, 786, 785, 503, 139, 150, 146, 154, 547, 551, 555, 567, 572, 577, 581, 559, 563, 571, 576] (by decide +kernel) (by decide +kernel), sm_memr [913, 917, 921, 525, 528, 753, 668, 758, 664, 763, 767, 771, 775, 779, 783, 788, 614, 492, 140, 151, 148, 156, 549, 553, 557, 569, 574, 579, 583, 560, 564, 514, 140] (by decide +kernel) (by decide +kernel), sm_memr [39, 40, 41, 2, 529, 25, 669, 26, 665, 27, 28, 29, 30, 31, 32, 33, 615, 493, 141, 152, 0, 1, 4, 5, 6, 7, 8, 9, 10, 561, 565, 515, 141] (by decide +kernel) (by decide +kernel)⟩
theorem sm_lm_all : smLM = smLM_0 ++ smLM_1 ++ smLM_2 ++ smLM_3 := by decide +kernel
def sm_lmk (q : Nat × Nat × Nat) : Bool := match smP[q.2.2]? with
  | some g => (match smCl[sm_Io g]? with
    | some (C, _, _) => decide (C = (sm_Iy g).cls)
    | none => false)
  | none => false
theorem sm_lmk_all : smLM.all sm_lmk = true := by decide +kernel
theorem sm_lm_in {q : Nat × Nat × Nat} (h : q ∈ smLM) : Cond.methodLink (smNm q.1) q.2.1 (sm_my q.2.2) ∈ smT ∧ Cond.instanceMethod (sm_my q.2.2) ∈ smT ∧ Cond.selects (sm_my q.2.2).cls (sm_my q.2.2) (sm_my q.2.2) ∈ smT := by
  rw [sm_lm_all] at h
  simp only [List.mem_append] at h
  rcases h with ((h | h) | h) | h
  · exact ⟨sm_lm0.1 _ (List.mem_map.mpr ⟨q, h, rfl⟩), sm_lm0.2.1 _ (List.mem_map.mpr ⟨q, h, rfl⟩), sm_lm0.2.2 _ (List.mem_map.mpr ⟨q, h, rfl⟩)⟩
  · exact ⟨sm_lm1.1 _ (List.mem_map.mpr ⟨q, h, rfl⟩), sm_lm1.2.1 _ (List.mem_map.mpr ⟨q, h, rfl⟩), sm_lm1.2.2 _ (List.mem_map.mpr ⟨q, h, rfl⟩)⟩
  · exact ⟨sm_lm2.1 _ (List.mem_map.mpr ⟨q, h, rfl⟩), sm_lm2.2.1 _ (List.mem_map.mpr ⟨q, h, rfl⟩), sm_lm2.2.2 _ (List.mem_map.mpr ⟨q, h, rfl⟩)⟩
  · exact ⟨sm_lm3.1 _ (List.mem_map.mpr ⟨q, h, rfl⟩), sm_lm3.2.1 _ (List.mem_map.mpr ⟨q, h, rfl⟩), sm_lm3.2.2 _ (List.mem_map.mpr ⟨q, h, rfl⟩)⟩
theorem sm_vLM (o i x : Nat) (h : (o, i, x) ∈ smLM) : ∃ g : sm_I, smP[x]? = some g ∧ Cond.methodLink (smNm o) i (sm_Iy g) ∈ smT ∧ Cond.instanceMethod (sm_Iy g) ∈ smT ∧ Cond.selects (sm_Iy g).cls (sm_Iy g) (sm_Iy g) ∈ smT ∧ (∃ (T : u_T) (N : Nat), smCl[sm_Io g]? = some ((sm_Iy g).cls, T, N)) := by
  have h1 := sm_lm_in h
  have h2 := List.all_eq_true.mp sm_lmk_all _ h
  unfold sm_lmk at h2
  try dsimp only at h1 h2
  cases hc : smP[x]? with
  | none => rw [hc] at h2; cases h2
  | some g =>
    rw [hc] at h2
    have e : sm_my x = sm_Iy g := by unfold sm_my; rw [hc]
    rw [e] at h1
    try dsimp only at h2
    cases hk : smCl[sm_Io g]? with
    | none => rw [hk] at h2; cases h2
    | some z =>
      obtain ⟨C, T, N⟩ := z
      rw [hk] at h2
      have h3 : C = (sm_Iy g).cls := of_decide_eq_true h2
      exact ⟨g, rfl, h1.1, h1.2.1, h1.2.2, T, N, by rw [h3] at hk; exact hk⟩
theorem sm_lnw : (∀ w ∈ smLN.map (fun q => Cond.methodLink (smNm q.1) q.2.1 (sm_my q.2.2)), w ∈ smT) ∧ (∀ w ∈ smLN.map (fun q => Cond.static (sm_my q.2.2)), w ∈ smT) := ⟨sm_memr [1306, 1365, 1380, 1475, 1478, 1489, 662, 723, 989, 531, 458, 143] (by decide +kernel) (by decide +kernel), sm_memr [1307, 1366, 1381, 1476, 1479, 1490, 137, 724, 990, 532, 137, 144] (by decide +kernel) (by decide +kernel)⟩
theorem sm_lnk_all : smLN.all (fun q => (smP[q.2.2]?).isSome) = true := by decide +kernel
theorem sm_vLN (o i x : Nat) (h : (o, i, x) ∈ smLN) : ∃ g : sm_I, smP[x]? = some g ∧ Cond.methodLink (smNm o) i (sm_Iy g) ∈ smT ∧ Cond.static (sm_Iy g) ∈ smT := by
  have h1 := sm_lnw.1 _ (List.mem_map.mpr ⟨_, h, rfl⟩)
  have h3 := sm_lnw.2 _ (List.mem_map.mpr ⟨_, h, rfl⟩)
  have h2 := List.all_eq_true.mp sm_lnk_all _ h
  try dsimp only at h1 h2 h3
  cases hc : smP[x]? with
  | none => rw [hc] at h2; cases h2
  | some g =>
    have e : sm_my x = sm_Iy g := by unfold sm_my; rw [hc]
    rw [e] at h1 h3
    exact ⟨g, rfl, h1, h3⟩
theorem sm_vLS (o i x : Nat) (h : (o, i, x) ∈ smLS) : ∃ q ∈ smSa, q.1 = x ∧ 0 < x ∧ Cond.fieldLink (smNm o) i q.2.1.1 q.2.1.2 "[I" ∈ smT := by
  simp only [smLS, List.mem_cons, List.not_mem_nil, or_false, Prod.mk.injEq] at h
  rcases h with ⟨rfl, rfl, rfl⟩ | ⟨rfl, rfl, rfl⟩
  · exact ⟨_, List.mem_cons_self, rfl, by decide, sm_mem1 630 (by decide +kernel) (by decide +kernel)⟩
  · exact ⟨_, List.mem_cons_of_mem _ List.mem_cons_self, rfl, by decide, sm_mem1 521 (by decide +kernel) (by decide +kernel)⟩
def sm_shf (T : u_T) (k a : Nat) : Bool := (decide (a ≠ 0) || decide ((T k).2.2.1 = "I")) && (decide (a ≠ 3) || decide ((T k).2.2.1 = "Z")) && (decide (a ≠ 2) || (match parseFieldDescriptor (T k).2.2.1 with
  | some (.object _) => true
  | _ => false))
def sm_shg (T : u_T) (fs : List (Nat × Nat)) (k : Nat) : Bool := match fs[k]? with
  | some (a, _) => sm_shf T k a
  | none => true
def sm_sho (c : Nat) (fs : List (Nat × Nat)) : Bool := match smCl[c]? with
  | some (_, T, N) => decide (fs.length = N) && (List.range fs.length).all (sm_shg T fs)
  | none => false
def sm_sh1 (h : sm_Sh) : Bool := match h with
  | (0, _, _) => true
  | (1, _, _) => true
  | (2, c, fs) => sm_sho c fs
  | _ => false
def sm_shk (sh : List sm_Sh) : Bool := sh.all sm_sh1
def sm_shd (sh : List sm_Sh) : List (Nat × Nat × Nat) := (List.range sh.length).flatMap (fun i => match sh[i]? with
  | some (2, _, fs) => (List.range fs.length).filterMap (fun k => match fs[k]? with
    | some (2, b) => some (b, i, k)
    | _ => none)
  | _ => [])
def sm_shu (sh : List sm_Sh) : Bool := (sm_shd sh).all (fun p => (sm_shd sh).all (fun q => decide (p.1 ≠ q.1) || decide (p = q)))
theorem sm_shd_in {sh : List sm_Sh} {i c k b : Nat} {fs : List (Nat × Nat)} (h : sh[i]? = some (2, c, fs)) (hk : fs[k]? = some (2, b)) : (b, i, k) ∈ sm_shd sh := by
  refine List.mem_flatMap.mpr ⟨i, List.mem_range.mpr (List.getElem?_eq_some_iff.mp h).1, ?_⟩
  rw [h]
  refine List.mem_filterMap.mpr ⟨k, List.mem_range.mpr (List.getElem?_eq_some_iff.mp hk).1, ?_⟩
  rw [hk]
  rfl
theorem sm_vSh {sh : List sm_Sh} (h1 : sm_shk sh = true) (h2 : sm_shu sh = true) : (∀ (i c : Nat) (fs : List (Nat × Nat)), sh[i]? = some (2, c, fs) → ∃ (C : String) (T : u_T) (N : Nat), smCl[c]? = some (C, T, N) ∧ fs.length = N ∧ ∀ (k a b : Nat), fs[k]? = some (a, b) → (a = 0 → (T k).2.2.1 = "I") ∧ (a = 3 → (T k).2.2.1 = "Z") ∧ (a = 2 → (∃ C' : String, parseFieldDescriptor (T k).2.2.1 = some (.object C')) ∧ ∀ (i' c' : Nat) (fs' : List (Nat × Nat)) (k' : Nat), sh[i']? = some (2, c', fs') → fs'[k']? = some (2, b) → i' = i ∧ k' = k)) ∧ (∀ (i : Nat) (h : sm_Sh), sh[i]? = some h → h.1 = 0 ∨ h.1 = 1 ∨ h.1 = 2) := by
  constructor
  · intro i c fs h
    have h3 : sm_sho c fs = true := List.all_eq_true.mp h1 _ (List.mem_of_getElem? h)
    unfold sm_sho at h3
    cases hc : smCl[c]? with
    | none => rw [hc] at h3; cases h3
    | some z =>
      obtain ⟨C, T, N⟩ := z
      rw [hc] at h3
      have h3 : (decide (fs.length = N) && (List.range fs.length).all (sm_shg T fs)) = true := h3
      rw [Bool.and_eq_true] at h3
      refine ⟨C, T, N, rfl, of_decide_eq_true h3.1, fun k a b hk => ?_⟩
      have h4 := List.all_eq_true.mp h3.2 k (List.mem_range.mpr (List.getElem?_eq_some_iff.mp hk).1)
      unfold sm_shg at h4
      rw [hk] at h4
      have h4 : sm_shf T k a = true := h4
      unfold sm_shf at h4
      rw [Bool.and_eq_true, Bool.and_eq_true] at h4
      obtain ⟨⟨h5, h6⟩, h7⟩ := h4
      refine ⟨fun e => ?_, fun e => ?_, fun e => ⟨?_, fun i' c' fs' k' hi' hk' => ?_⟩⟩
      · subst e; simpa using h5
      · subst e; simpa using h6
      · subst e
        have h8 : (match parseFieldDescriptor (T k).2.2.1 with
          | some (.object _) => true
          | _ => false) = true := by simpa using h7
        split at h8
        · rename_i C' he
          exact ⟨C', he⟩
        · cases h8
      · subst e
        have h9 := List.all_eq_true.mp (List.all_eq_true.mp h2 _ (sm_shd_in h hk)) _ (sm_shd_in hi' hk')
        simp at h9
        exact ⟨h9.1.symm, h9.2.symm⟩
  · intro i h hi
    have h3 : sm_sh1 h = true := List.all_eq_true.mp h1 _ (List.mem_of_getElem? hi)
    obtain ⟨a, c, fs⟩ := h
    match a, h3 with
    | 0, _ => exact Or.inl rfl
    | 1, _ => exact Or.inr (Or.inl rfl)
    | 2, _ => exact Or.inr (Or.inr rfl)
    | _ + 3, h3 => cases h3
def sm_PQ (g : sm_I) : Prop := Cond.code (sm_Iy g) (sm_Ib g) (sm_Il g) (sm_Ir g) ∈ smT ∧ Cond.initialized (sm_Iy g).cls ∈ smT ∧ smNm (sm_Io g) = (sm_Iy g).cls ∧ ((sm_Iy g).cls ≠ "java/lang/invoke/MethodHandle" ∧ (sm_Iy g).cls ≠ "java/lang/invoke/VarHandle" ∧ (parseMethodDescriptor (sm_Iy g).desc).map (fun d => d.parameters.length) = some (sm_In g)) ∧ sm_Il g + 19 ≤ 64 ∧ (sm_Ir g = none ∨ sm_Ir g = some .int ∨ sm_Ir g = some .boolean) ∧ sm_okm smP smLF smLP smLM smLN smLS g = true
end
section
/-! each method's rows are as its bytes have them: by program -/
theorem pq0 : sm_PQ f0 := ⟨sm_mem1 490 (by decide +kernel) (by decide +kernel), sm_mem1 103 (by decide +kernel) (by decide +kernel), by decide +kernel, ⟨by decide +kernel, by decide +kernel, by decide +kernel⟩, by decide, Or.inr (Or.inl rfl), by decide +kernel⟩
theorem pq1 : sm_PQ f1 := ⟨sm_mem1 507 (by decide +kernel) (by decide +kernel), sm_mem1 103 (by decide +kernel) (by decide +kernel), by decide +kernel, ⟨by decide +kernel, by decide +kernel, by decide +kernel⟩, by decide, Or.inr (Or.inl rfl), by decide +kernel⟩
theorem pq2 : sm_PQ f2 := ⟨sm_mem1 512 (by decide +kernel) (by decide +kernel), sm_mem1 103 (by decide +kernel) (by decide +kernel), by decide +kernel, ⟨by decide +kernel, by decide +kernel, by decide +kernel⟩, by decide, Or.inr (Or.inl rfl), by decide +kernel⟩
theorem pq3 : sm_PQ f3 := ⟨sm_mem1 537 (by decide +kernel) (by decide +kernel), sm_mem1 103 (by decide +kernel) (by decide +kernel), by decide +kernel, ⟨by decide +kernel, by decide +kernel, by decide +kernel⟩, by decide, Or.inr (Or.inr rfl), by decide +kernel⟩
theorem pq4 : sm_PQ f4 := ⟨sm_mem1 592 (by decide +kernel) (by decide +kernel), sm_mem1 103 (by decide +kernel) (by decide +kernel), by decide +kernel, ⟨by decide +kernel, by decide +kernel, by decide +kernel⟩, by decide, Or.inr (Or.inl rfl), by decide +kernel⟩
theorem pq5 : sm_PQ f5 := ⟨sm_mem1 596 (by decide +kernel) (by decide +kernel), sm_mem1 103 (by decide +kernel) (by decide +kernel), by decide +kernel, ⟨by decide +kernel, by decide +kernel, by decide +kernel⟩, by decide, Or.inl rfl, by decide +kernel⟩
theorem pq6 : sm_PQ f6 := ⟨sm_mem1 604 (by decide +kernel) (by decide +kernel), sm_mem1 103 (by decide +kernel) (by decide +kernel), by decide +kernel, ⟨by decide +kernel, by decide +kernel, by decide +kernel⟩, by decide, Or.inr (Or.inl rfl), by decide +kernel⟩
theorem pq7 : sm_PQ f7 := ⟨sm_mem1 625 (by decide +kernel) (by decide +kernel), sm_mem1 103 (by decide +kernel) (by decide +kernel), by decide +kernel, ⟨by decide +kernel, by decide +kernel, by decide +kernel⟩, by decide, Or.inr (Or.inl rfl), by decide +kernel⟩
theorem pq8 : sm_PQ f8 := ⟨sm_mem1 644 (by decide +kernel) (by decide +kernel), sm_mem1 103 (by decide +kernel) (by decide +kernel), by decide +kernel, ⟨by decide +kernel, by decide +kernel, by decide +kernel⟩, by decide, Or.inr (Or.inl rfl), by decide +kernel⟩
theorem pq9 : sm_PQ f9 := ⟨sm_mem1 730 (by decide +kernel) (by decide +kernel), sm_mem1 103 (by decide +kernel) (by decide +kernel), by decide +kernel, ⟨by decide +kernel, by decide +kernel, by decide +kernel⟩, by decide, Or.inr (Or.inl rfl), by decide +kernel⟩
theorem pq10 : sm_PQ f10 := ⟨sm_mem1 738 (by decide +kernel) (by decide +kernel), sm_mem1 103 (by decide +kernel) (by decide +kernel), by decide +kernel, ⟨by decide +kernel, by decide +kernel, by decide +kernel⟩, by decide, Or.inr (Or.inl rfl), by decide +kernel⟩
theorem pq11 : sm_PQ f11 := ⟨sm_mem1 746 (by decide +kernel) (by decide +kernel), sm_mem1 103 (by decide +kernel) (by decide +kernel), by decide +kernel, ⟨by decide +kernel, by decide +kernel, by decide +kernel⟩, by decide, Or.inr (Or.inl rfl), by decide +kernel⟩
theorem pq12 : sm_PQ f12 := ⟨sm_mem1 793 (by decide +kernel) (by decide +kernel), sm_mem1 103 (by decide +kernel) (by decide +kernel), by decide +kernel, ⟨by decide +kernel, by decide +kernel, by decide +kernel⟩, by decide, Or.inr (Or.inl rfl), by decide +kernel⟩
theorem pq13 : sm_PQ f13 := ⟨sm_mem1 797 (by decide +kernel) (by decide +kernel), sm_mem1 103 (by decide +kernel) (by decide +kernel), by decide +kernel, ⟨by decide +kernel, by decide +kernel, by decide +kernel⟩, by decide, Or.inr (Or.inl rfl), by decide +kernel⟩
theorem pq14 : sm_PQ f14 := ⟨sm_mem1 542 (by decide +kernel) (by decide +kernel), sm_mem1 103 (by decide +kernel) (by decide +kernel), by decide +kernel, ⟨by decide +kernel, by decide +kernel, by decide +kernel⟩, by decide, Or.inr (Or.inl rfl), by decide +kernel⟩
theorem pq89 : sm_PQ f89 := ⟨sm_mem1 648 (by decide +kernel) (by decide +kernel), sm_mem1 110 (by decide +kernel) (by decide +kernel), by decide +kernel, ⟨by decide +kernel, by decide +kernel, by decide +kernel⟩, by decide, Or.inr (Or.inl rfl), by decide +kernel⟩
theorem pq90 : sm_PQ f90 := ⟨sm_mem1 652 (by decide +kernel) (by decide +kernel), sm_mem1 110 (by decide +kernel) (by decide +kernel), by decide +kernel, ⟨by decide +kernel, by decide +kernel, by decide +kernel⟩, by decide, Or.inr (Or.inr rfl), by decide +kernel⟩
theorem pq91 : sm_PQ f91 := ⟨sm_mem1 661 (by decide +kernel) (by decide +kernel), sm_mem1 110 (by decide +kernel) (by decide +kernel), by decide +kernel, ⟨by decide +kernel, by decide +kernel, by decide +kernel⟩, by decide, Or.inr (Or.inl rfl), by decide +kernel⟩
theorem pq92 : sm_PQ f92 := ⟨sm_mem1 725 (by decide +kernel) (by decide +kernel), sm_mem1 110 (by decide +kernel) (by decide +kernel), by decide +kernel, ⟨by decide +kernel, by decide +kernel, by decide +kernel⟩, by decide, Or.inr (Or.inr rfl), by decide +kernel⟩
theorem pq93 : sm_PQ f93 := ⟨sm_mem1 674 (by decide +kernel) (by decide +kernel), sm_mem1 110 (by decide +kernel) (by decide +kernel), by decide +kernel, ⟨by decide +kernel, by decide +kernel, by decide +kernel⟩, by decide, Or.inr (Or.inr rfl), by decide +kernel⟩
theorem pq94 : sm_PQ f94 := ⟨sm_mem1 678 (by decide +kernel) (by decide +kernel), sm_mem1 110 (by decide +kernel) (by decide +kernel), by decide +kernel, ⟨by decide +kernel, by decide +kernel, by decide +kernel⟩, by decide, Or.inr (Or.inr rfl), by decide +kernel⟩
theorem pq95 : sm_PQ f95 := ⟨sm_mem1 686 (by decide +kernel) (by decide +kernel), sm_mem1 110 (by decide +kernel) (by decide +kernel), by decide +kernel, ⟨by decide +kernel, by decide +kernel, by decide +kernel⟩, by decide, Or.inr (Or.inl rfl), by decide +kernel⟩
theorem pq96 : sm_PQ f96 := ⟨sm_mem1 694 (by decide +kernel) (by decide +kernel), sm_mem1 110 (by decide +kernel) (by decide +kernel), by decide +kernel, ⟨by decide +kernel, by decide +kernel, by decide +kernel⟩, by decide, Or.inr (Or.inl rfl), by decide +kernel⟩
theorem pq97 : sm_PQ f97 := ⟨sm_mem1 690 (by decide +kernel) (by decide +kernel), sm_mem1 110 (by decide +kernel) (by decide +kernel), by decide +kernel, ⟨by decide +kernel, by decide +kernel, by decide +kernel⟩, by decide, Or.inr (Or.inr rfl), by decide +kernel⟩
theorem pq98 : sm_PQ f98 := ⟨sm_mem1 702 (by decide +kernel) (by decide +kernel), sm_mem1 110 (by decide +kernel) (by decide +kernel), by decide +kernel, ⟨by decide +kernel, by decide +kernel, by decide +kernel⟩, by decide, Or.inr (Or.inr rfl), by decide +kernel⟩
theorem pq99 : sm_PQ f99 := ⟨sm_mem1 706 (by decide +kernel) (by decide +kernel), sm_mem1 110 (by decide +kernel) (by decide +kernel), by decide +kernel, ⟨by decide +kernel, by decide +kernel, by decide +kernel⟩, by decide, Or.inr (Or.inr rfl), by decide +kernel⟩
theorem pq100 : sm_PQ f100 := ⟨sm_mem1 714 (by decide +kernel) (by decide +kernel), sm_mem1 110 (by decide +kernel) (by decide +kernel), by decide +kernel, ⟨by decide +kernel, by decide +kernel, by decide +kernel⟩, by decide, Or.inr (Or.inr rfl), by decide +kernel⟩
theorem pq101 : sm_PQ f101 := ⟨sm_mem1 722 (by decide +kernel) (by decide +kernel), sm_mem1 110 (by decide +kernel) (by decide +kernel), by decide +kernel, ⟨by decide +kernel, by decide +kernel, by decide +kernel⟩, by decide, Or.inr (Or.inr rfl), by decide +kernel⟩
theorem pq102 : sm_PQ f102 := ⟨sm_mem1 718 (by decide +kernel) (by decide +kernel), sm_mem1 110 (by decide +kernel) (by decide +kernel), by decide +kernel, ⟨by decide +kernel, by decide +kernel, by decide +kernel⟩, by decide, Or.inr (Or.inr rfl), by decide +kernel⟩
theorem pq103 : sm_PQ f103 := ⟨sm_mem1 600 (by decide +kernel) (by decide +kernel), sm_mem1 112 (by decide +kernel) (by decide +kernel), by decide +kernel, ⟨by decide +kernel, by decide +kernel, by decide +kernel⟩, by decide, Or.inl rfl, by decide +kernel⟩
theorem pq104 : sm_PQ f104 := ⟨sm_mem1 616 (by decide +kernel) (by decide +kernel), sm_mem1 112 (by decide +kernel) (by decide +kernel), by decide +kernel, ⟨by decide +kernel, by decide +kernel, by decide +kernel⟩, by decide, Or.inr (Or.inr rfl), by decide +kernel⟩
theorem pq105 : sm_PQ f105 := ⟨sm_mem1 666 (by decide +kernel) (by decide +kernel), sm_mem1 112 (by decide +kernel) (by decide +kernel), by decide +kernel, ⟨by decide +kernel, by decide +kernel, by decide +kernel⟩, by decide, Or.inr (Or.inl rfl), by decide +kernel⟩
theorem pq106 : sm_PQ f106 := ⟨sm_mem1 670 (by decide +kernel) (by decide +kernel), sm_mem1 112 (by decide +kernel) (by decide +kernel), by decide +kernel, ⟨by decide +kernel, by decide +kernel, by decide +kernel⟩, by decide, Or.inr (Or.inl rfl), by decide +kernel⟩
theorem pq107 : sm_PQ f107 := ⟨sm_mem1 656 (by decide +kernel) (by decide +kernel), sm_mem1 112 (by decide +kernel) (by decide +kernel), by decide +kernel, ⟨by decide +kernel, by decide +kernel, by decide +kernel⟩, by decide, Or.inr (Or.inl rfl), by decide +kernel⟩
theorem pq108 : sm_PQ f108 := ⟨sm_mem1 608 (by decide +kernel) (by decide +kernel), sm_mem1 112 (by decide +kernel) (by decide +kernel), by decide +kernel, ⟨by decide +kernel, by decide +kernel, by decide +kernel⟩, by decide, Or.inr (Or.inl rfl), by decide +kernel⟩
theorem pq109 : sm_PQ f109 := ⟨sm_mem1 612 (by decide +kernel) (by decide +kernel), sm_mem1 112 (by decide +kernel) (by decide +kernel), by decide +kernel, ⟨by decide +kernel, by decide +kernel, by decide +kernel⟩, by decide, Or.inl rfl, by decide +kernel⟩
theorem pq110 : sm_PQ f110 := ⟨sm_mem1 620 (by decide +kernel) (by decide +kernel), sm_mem1 112 (by decide +kernel) (by decide +kernel), by decide +kernel, ⟨by decide +kernel, by decide +kernel, by decide +kernel⟩, by decide, Or.inl rfl, by decide +kernel⟩
theorem pq111 : sm_PQ f111 := ⟨sm_mem1 629 (by decide +kernel) (by decide +kernel), sm_mem1 112 (by decide +kernel) (by decide +kernel), by decide +kernel, ⟨by decide +kernel, by decide +kernel, by decide +kernel⟩, by decide, Or.inr (Or.inr rfl), by decide +kernel⟩
theorem pq112 : sm_PQ f112 := ⟨sm_mem1 635 (by decide +kernel) (by decide +kernel), sm_mem1 112 (by decide +kernel) (by decide +kernel), by decide +kernel, ⟨by decide +kernel, by decide +kernel, by decide +kernel⟩, by decide, Or.inr (Or.inr rfl), by decide +kernel⟩
theorem pq113 : sm_PQ f113 := ⟨sm_mem1 640 (by decide +kernel) (by decide +kernel), sm_mem1 112 (by decide +kernel) (by decide +kernel), by decide +kernel, ⟨by decide +kernel, by decide +kernel, by decide +kernel⟩, by decide, Or.inl rfl, by decide +kernel⟩
theorem pq114 : sm_PQ f114 := ⟨sm_mem1 734 (by decide +kernel) (by decide +kernel), sm_mem1 112 (by decide +kernel) (by decide +kernel), by decide +kernel, ⟨by decide +kernel, by decide +kernel, by decide +kernel⟩, by decide, Or.inr (Or.inl rfl), by decide +kernel⟩
theorem pq115 : sm_PQ f115 := ⟨sm_mem1 742 (by decide +kernel) (by decide +kernel), sm_mem1 112 (by decide +kernel) (by decide +kernel), by decide +kernel, ⟨by decide +kernel, by decide +kernel, by decide +kernel⟩, by decide, Or.inr (Or.inl rfl), by decide +kernel⟩
theorem pq116 : sm_PQ f116 := ⟨sm_mem1 949 (by decide +kernel) (by decide +kernel), sm_mem1 109 (by decide +kernel) (by decide +kernel), by decide +kernel, ⟨by decide +kernel, by decide +kernel, by decide +kernel⟩, by decide, Or.inr (Or.inr rfl), by decide +kernel⟩
theorem pq117 : sm_PQ f117 := ⟨sm_mem1 956 (by decide +kernel) (by decide +kernel), sm_mem1 109 (by decide +kernel) (by decide +kernel), by decide +kernel, ⟨by decide +kernel, by decide +kernel, by decide +kernel⟩, by decide, Or.inr (Or.inl rfl), by decide +kernel⟩
theorem pq118 : sm_PQ f118 := ⟨sm_mem1 961 (by decide +kernel) (by decide +kernel), sm_mem1 109 (by decide +kernel) (by decide +kernel), by decide +kernel, ⟨by decide +kernel, by decide +kernel, by decide +kernel⟩, by decide, Or.inr (Or.inl rfl), by decide +kernel⟩
theorem pq119 : sm_PQ f119 := ⟨sm_mem1 988 (by decide +kernel) (by decide +kernel), sm_mem1 109 (by decide +kernel) (by decide +kernel), by decide +kernel, ⟨by decide +kernel, by decide +kernel, by decide +kernel⟩, by decide, Or.inr (Or.inl rfl), by decide +kernel⟩
theorem pq120 : sm_PQ f120 := ⟨sm_mem1 991 (by decide +kernel) (by decide +kernel), sm_mem1 109 (by decide +kernel) (by decide +kernel), by decide +kernel, ⟨by decide +kernel, by decide +kernel, by decide +kernel⟩, by decide, Or.inr (Or.inl rfl), by decide +kernel⟩
theorem pq121 : sm_PQ f121 := ⟨sm_mem1 983 (by decide +kernel) (by decide +kernel), sm_mem1 109 (by decide +kernel) (by decide +kernel), by decide +kernel, ⟨by decide +kernel, by decide +kernel, by decide +kernel⟩, by decide, Or.inr (Or.inl rfl), by decide +kernel⟩
theorem pq122 : sm_PQ f122 := ⟨sm_mem1 966 (by decide +kernel) (by decide +kernel), sm_mem1 109 (by decide +kernel) (by decide +kernel), by decide +kernel, ⟨by decide +kernel, by decide +kernel, by decide +kernel⟩, by decide, Or.inr (Or.inl rfl), by decide +kernel⟩
theorem pq123 : sm_PQ f123 := ⟨sm_mem1 970 (by decide +kernel) (by decide +kernel), sm_mem1 109 (by decide +kernel) (by decide +kernel), by decide +kernel, ⟨by decide +kernel, by decide +kernel, by decide +kernel⟩, by decide, Or.inr (Or.inl rfl), by decide +kernel⟩
theorem pq124 : sm_PQ f124 := ⟨sm_mem1 995 (by decide +kernel) (by decide +kernel), sm_mem1 109 (by decide +kernel) (by decide +kernel), by decide +kernel, ⟨by decide +kernel, by decide +kernel, by decide +kernel⟩, by decide, Or.inl rfl, by decide +kernel⟩
theorem pq125 : sm_PQ f125 := ⟨sm_mem1 974 (by decide +kernel) (by decide +kernel), sm_mem1 109 (by decide +kernel) (by decide +kernel), by decide +kernel, ⟨by decide +kernel, by decide +kernel, by decide +kernel⟩, by decide, Or.inr (Or.inl rfl), by decide +kernel⟩
theorem pq126 : sm_PQ f126 := ⟨sm_mem1 978 (by decide +kernel) (by decide +kernel), sm_mem1 109 (by decide +kernel) (by decide +kernel), by decide +kernel, ⟨by decide +kernel, by decide +kernel, by decide +kernel⟩, by decide, Or.inr (Or.inl rfl), by decide +kernel⟩
theorem pq127 : sm_PQ f127 := ⟨sm_mem1 894 (by decide +kernel) (by decide +kernel), sm_mem1 108 (by decide +kernel) (by decide +kernel), by decide +kernel, ⟨by decide +kernel, by decide +kernel, by decide +kernel⟩, by decide, Or.inr (Or.inl rfl), by decide +kernel⟩
theorem pq128 : sm_PQ f128 := ⟨sm_mem1 898 (by decide +kernel) (by decide +kernel), sm_mem1 108 (by decide +kernel) (by decide +kernel), by decide +kernel, ⟨by decide +kernel, by decide +kernel, by decide +kernel⟩, by decide, Or.inr (Or.inl rfl), by decide +kernel⟩
theorem pq129 : sm_PQ f129 := ⟨sm_mem1 902 (by decide +kernel) (by decide +kernel), sm_mem1 108 (by decide +kernel) (by decide +kernel), by decide +kernel, ⟨by decide +kernel, by decide +kernel, by decide +kernel⟩, by decide, Or.inr (Or.inl rfl), by decide +kernel⟩
theorem pq130 : sm_PQ f130 := ⟨sm_mem1 906 (by decide +kernel) (by decide +kernel), sm_mem1 108 (by decide +kernel) (by decide +kernel), by decide +kernel, ⟨by decide +kernel, by decide +kernel, by decide +kernel⟩, by decide, Or.inr (Or.inl rfl), by decide +kernel⟩
theorem pq131 : sm_PQ f131 := ⟨sm_mem1 910 (by decide +kernel) (by decide +kernel), sm_mem1 108 (by decide +kernel) (by decide +kernel), by decide +kernel, ⟨by decide +kernel, by decide +kernel, by decide +kernel⟩, by decide, Or.inr (Or.inl rfl), by decide +kernel⟩
theorem pq132 : sm_PQ f132 := ⟨sm_mem1 914 (by decide +kernel) (by decide +kernel), sm_mem1 108 (by decide +kernel) (by decide +kernel), by decide +kernel, ⟨by decide +kernel, by decide +kernel, by decide +kernel⟩, by decide, Or.inr (Or.inl rfl), by decide +kernel⟩
theorem pq133 : sm_PQ f133 := ⟨sm_mem1 918 (by decide +kernel) (by decide +kernel), sm_mem1 108 (by decide +kernel) (by decide +kernel), by decide +kernel, ⟨by decide +kernel, by decide +kernel, by decide +kernel⟩, by decide, Or.inr (Or.inl rfl), by decide +kernel⟩
theorem pq134 : sm_PQ f134 := ⟨sm_mem1 922 (by decide +kernel) (by decide +kernel), sm_mem1 108 (by decide +kernel) (by decide +kernel), by decide +kernel, ⟨by decide +kernel, by decide +kernel, by decide +kernel⟩, by decide, Or.inr (Or.inl rfl), by decide +kernel⟩
theorem pq135 : sm_PQ f135 := ⟨sm_mem1 530 (by decide +kernel) (by decide +kernel), sm_mem1 106 (by decide +kernel) (by decide +kernel), by decide +kernel, ⟨by decide +kernel, by decide +kernel, by decide +kernel⟩, by decide, Or.inr (Or.inr rfl), by decide +kernel⟩
theorem pq136 : sm_PQ f136 := ⟨sm_mem1 520 (by decide +kernel) (by decide +kernel), sm_mem1 106 (by decide +kernel) (by decide +kernel), by decide +kernel, ⟨by decide +kernel, by decide +kernel, by decide +kernel⟩, by decide, Or.inr (Or.inl rfl), by decide +kernel⟩
theorem pq137 : sm_PQ f137 := ⟨sm_mem1 526 (by decide +kernel) (by decide +kernel), sm_mem1 106 (by decide +kernel) (by decide +kernel), by decide +kernel, ⟨by decide +kernel, by decide +kernel, by decide +kernel⟩, by decide, Or.inr (Or.inl rfl), by decide +kernel⟩
theorem pq138 : sm_PQ f138 := ⟨sm_mem1 457 (by decide +kernel) (by decide +kernel), sm_mem1 111 (by decide +kernel) (by decide +kernel), by decide +kernel, ⟨by decide +kernel, by decide +kernel, by decide +kernel⟩, by decide, Or.inl rfl, by decide +kernel⟩
theorem pq139 : sm_PQ f139 := ⟨sm_mem1 750 (by decide +kernel) (by decide +kernel), sm_mem1 111 (by decide +kernel) (by decide +kernel), by decide +kernel, ⟨by decide +kernel, by decide +kernel, by decide +kernel⟩, by decide, Or.inr (Or.inl rfl), by decide +kernel⟩
theorem pq140 : sm_PQ f140 := ⟨sm_mem1 801 (by decide +kernel) (by decide +kernel), sm_mem1 111 (by decide +kernel) (by decide +kernel), by decide +kernel, ⟨by decide +kernel, by decide +kernel, by decide +kernel⟩, by decide, Or.inr (Or.inl rfl), by decide +kernel⟩
theorem pq141 : sm_PQ f141 := ⟨sm_mem1 754 (by decide +kernel) (by decide +kernel), sm_mem1 111 (by decide +kernel) (by decide +kernel), by decide +kernel, ⟨by decide +kernel, by decide +kernel, by decide +kernel⟩, by decide, Or.inr (Or.inr rfl), by decide +kernel⟩
theorem pq142 : sm_PQ f142 := ⟨sm_mem1 759 (by decide +kernel) (by decide +kernel), sm_mem1 111 (by decide +kernel) (by decide +kernel), by decide +kernel, ⟨by decide +kernel, by decide +kernel, by decide +kernel⟩, by decide, Or.inr (Or.inr rfl), by decide +kernel⟩
theorem pq143 : sm_PQ f143 := ⟨sm_mem1 764 (by decide +kernel) (by decide +kernel), sm_mem1 111 (by decide +kernel) (by decide +kernel), by decide +kernel, ⟨by decide +kernel, by decide +kernel, by decide +kernel⟩, by decide, Or.inr (Or.inr rfl), by decide +kernel⟩
theorem pq144 : sm_PQ f144 := ⟨sm_mem1 768 (by decide +kernel) (by decide +kernel), sm_mem1 111 (by decide +kernel) (by decide +kernel), by decide +kernel, ⟨by decide +kernel, by decide +kernel, by decide +kernel⟩, by decide, Or.inr (Or.inr rfl), by decide +kernel⟩
theorem pq145 : sm_PQ f145 := ⟨sm_mem1 772 (by decide +kernel) (by decide +kernel), sm_mem1 111 (by decide +kernel) (by decide +kernel), by decide +kernel, ⟨by decide +kernel, by decide +kernel, by decide +kernel⟩, by decide, Or.inr (Or.inr rfl), by decide +kernel⟩
theorem pq146 : sm_PQ f146 := ⟨sm_mem1 776 (by decide +kernel) (by decide +kernel), sm_mem1 111 (by decide +kernel) (by decide +kernel), by decide +kernel, ⟨by decide +kernel, by decide +kernel, by decide +kernel⟩, by decide, Or.inr (Or.inr rfl), by decide +kernel⟩
theorem pq147 : sm_PQ f147 := ⟨sm_mem1 780 (by decide +kernel) (by decide +kernel), sm_mem1 111 (by decide +kernel) (by decide +kernel), by decide +kernel, ⟨by decide +kernel, by decide +kernel, by decide +kernel⟩, by decide, Or.inr (Or.inr rfl), by decide +kernel⟩
theorem pq148 : sm_PQ f148 := ⟨sm_mem1 784 (by decide +kernel) (by decide +kernel), sm_mem1 111 (by decide +kernel) (by decide +kernel), by decide +kernel, ⟨by decide +kernel, by decide +kernel, by decide +kernel⟩, by decide, Or.inr (Or.inr rfl), by decide +kernel⟩
theorem pq149 : sm_PQ f149 := ⟨sm_mem1 789 (by decide +kernel) (by decide +kernel), sm_mem1 111 (by decide +kernel) (by decide +kernel), by decide +kernel, ⟨by decide +kernel, by decide +kernel, by decide +kernel⟩, by decide, Or.inr (Or.inr rfl), by decide +kernel⟩
theorem pq150 : sm_PQ f150 := ⟨sm_mem1 494 (by decide +kernel) (by decide +kernel), sm_mem1 104 (by decide +kernel) (by decide +kernel), by decide +kernel, ⟨by decide +kernel, by decide +kernel, by decide +kernel⟩, by decide, Or.inr (Or.inr rfl), by decide +kernel⟩
theorem pq151 : sm_PQ f151 := ⟨sm_mem1 502 (by decide +kernel) (by decide +kernel), sm_mem1 104 (by decide +kernel) (by decide +kernel), by decide +kernel, ⟨by decide +kernel, by decide +kernel, by decide +kernel⟩, by decide, Or.inr (Or.inr rfl), by decide +kernel⟩
theorem pq152 : sm_PQ f152 := ⟨sm_mem1 516 (by decide +kernel) (by decide +kernel), sm_mem1 104 (by decide +kernel) (by decide +kernel), by decide +kernel, ⟨by decide +kernel, by decide +kernel, by decide +kernel⟩, by decide, Or.inr (Or.inl rfl), by decide +kernel⟩
theorem pq153 : sm_PQ f153 := ⟨sm_mem1 562 (by decide +kernel) (by decide +kernel), sm_mem1 104 (by decide +kernel) (by decide +kernel), by decide +kernel, ⟨by decide +kernel, by decide +kernel, by decide +kernel⟩, by decide, Or.inr (Or.inl rfl), by decide +kernel⟩
theorem pq154 : sm_PQ f154 := ⟨sm_mem1 566 (by decide +kernel) (by decide +kernel), sm_mem1 104 (by decide +kernel) (by decide +kernel), by decide +kernel, ⟨by decide +kernel, by decide +kernel, by decide +kernel⟩, by decide, Or.inr (Or.inl rfl), by decide +kernel⟩
theorem pq155 : sm_PQ f155 := ⟨sm_mem1 698 (by decide +kernel) (by decide +kernel), sm_mem1 104 (by decide +kernel) (by decide +kernel), by decide +kernel, ⟨by decide +kernel, by decide +kernel, by decide +kernel⟩, by decide, Or.inr (Or.inl rfl), by decide +kernel⟩
theorem pq156 : sm_PQ f156 := ⟨sm_mem1 153 (by decide +kernel) (by decide +kernel), sm_mem1 104 (by decide +kernel) (by decide +kernel), by decide +kernel, ⟨by decide +kernel, by decide +kernel, by decide +kernel⟩, by decide, Or.inr (Or.inl rfl), by decide +kernel⟩
theorem pq157 : sm_PQ f157 := ⟨sm_mem1 710 (by decide +kernel) (by decide +kernel), sm_mem1 104 (by decide +kernel) (by decide +kernel), by decide +kernel, ⟨by decide +kernel, by decide +kernel, by decide +kernel⟩, by decide, Or.inr (Or.inl rfl), by decide +kernel⟩
theorem pq158 : sm_PQ f158 := ⟨sm_mem1 498 (by decide +kernel) (by decide +kernel), sm_mem1 104 (by decide +kernel) (by decide +kernel), by decide +kernel, ⟨by decide +kernel, by decide +kernel, by decide +kernel⟩, by decide, Or.inr (Or.inl rfl), by decide +kernel⟩
theorem pq159 : sm_PQ f159 := ⟨sm_mem1 142 (by decide +kernel) (by decide +kernel), sm_mem1 104 (by decide +kernel) (by decide +kernel), by decide +kernel, ⟨by decide +kernel, by decide +kernel, by decide +kernel⟩, by decide, Or.inr (Or.inl rfl), by decide +kernel⟩
theorem pq160 : sm_PQ f160 := ⟨sm_mem1 588 (by decide +kernel) (by decide +kernel), sm_mem1 104 (by decide +kernel) (by decide +kernel), by decide +kernel, ⟨by decide +kernel, by decide +kernel, by decide +kernel⟩, by decide, Or.inl rfl, by decide +kernel⟩
theorem pq161 : sm_PQ f161 := ⟨sm_mem1 149 (by decide +kernel) (by decide +kernel), sm_mem1 104 (by decide +kernel) (by decide +kernel), by decide +kernel, ⟨by decide +kernel, by decide +kernel, by decide +kernel⟩, by decide, Or.inr (Or.inl rfl), by decide +kernel⟩
theorem pq162 : sm_PQ f162 := ⟨sm_mem1 157 (by decide +kernel) (by decide +kernel), sm_mem1 104 (by decide +kernel) (by decide +kernel), by decide +kernel, ⟨by decide +kernel, by decide +kernel, by decide +kernel⟩, by decide, Or.inl rfl, by decide +kernel⟩
theorem pq163 : sm_PQ f163 := ⟨sm_mem1 145 (by decide +kernel) (by decide +kernel), sm_mem1 104 (by decide +kernel) (by decide +kernel), by decide +kernel, ⟨by decide +kernel, by decide +kernel, by decide +kernel⟩, by decide, Or.inr (Or.inl rfl), by decide +kernel⟩
theorem pq164 : sm_PQ f164 := ⟨sm_mem1 546 (by decide +kernel) (by decide +kernel), sm_mem1 107 (by decide +kernel) (by decide +kernel), by decide +kernel, ⟨by decide +kernel, by decide +kernel, by decide +kernel⟩, by decide, Or.inr (Or.inl rfl), by decide +kernel⟩
theorem pq165 : sm_PQ f165 := ⟨sm_mem1 550 (by decide +kernel) (by decide +kernel), sm_mem1 107 (by decide +kernel) (by decide +kernel), by decide +kernel, ⟨by decide +kernel, by decide +kernel, by decide +kernel⟩, by decide, Or.inr (Or.inl rfl), by decide +kernel⟩
theorem pq166 : sm_PQ f166 := ⟨sm_mem1 584 (by decide +kernel) (by decide +kernel), sm_mem1 107 (by decide +kernel) (by decide +kernel), by decide +kernel, ⟨by decide +kernel, by decide +kernel, by decide +kernel⟩, by decide, Or.inr (Or.inl rfl), by decide +kernel⟩
theorem pq167 : sm_PQ f167 := ⟨sm_mem1 554 (by decide +kernel) (by decide +kernel), sm_mem1 107 (by decide +kernel) (by decide +kernel), by decide +kernel, ⟨by decide +kernel, by decide +kernel, by decide +kernel⟩, by decide, Or.inr (Or.inl rfl), by decide +kernel⟩
theorem pq168 : sm_PQ f168 := ⟨sm_mem1 558 (by decide +kernel) (by decide +kernel), sm_mem1 107 (by decide +kernel) (by decide +kernel), by decide +kernel, ⟨by decide +kernel, by decide +kernel, by decide +kernel⟩, by decide, Or.inr (Or.inl rfl), by decide +kernel⟩
theorem pq169 : sm_PQ f169 := ⟨sm_mem1 570 (by decide +kernel) (by decide +kernel), sm_mem1 107 (by decide +kernel) (by decide +kernel), by decide +kernel, ⟨by decide +kernel, by decide +kernel, by decide +kernel⟩, by decide, Or.inr (Or.inl rfl), by decide +kernel⟩
theorem pq170 : sm_PQ f170 := ⟨sm_mem1 575 (by decide +kernel) (by decide +kernel), sm_mem1 107 (by decide +kernel) (by decide +kernel), by decide +kernel, ⟨by decide +kernel, by decide +kernel, by decide +kernel⟩, by decide, Or.inr (Or.inl rfl), by decide +kernel⟩
theorem pq171 : sm_PQ f171 := ⟨sm_mem1 580 (by decide +kernel) (by decide +kernel), sm_mem1 107 (by decide +kernel) (by decide +kernel), by decide +kernel, ⟨by decide +kernel, by decide +kernel, by decide +kernel⟩, by decide, Or.inr (Or.inl rfl), by decide +kernel⟩
theorem pq172 : sm_PQ f172 := ⟨sm_mem1 533 (by decide +kernel) (by decide +kernel), sm_mem1 114 (by decide +kernel) (by decide +kernel), by decide +kernel, ⟨by decide +kernel, by decide +kernel, by decide +kernel⟩, by decide, Or.inr (Or.inl rfl), by decide +kernel⟩
theorem pq173 : sm_PQ f173 := ⟨sm_mem1 138 (by decide +kernel) (by decide +kernel), sm_mem1 105 (by decide +kernel) (by decide +kernel), by decide +kernel, ⟨by decide +kernel, by decide +kernel, by decide +kernel⟩, by decide, Or.inl rfl, by decide +kernel⟩
end
section
/-! each method's rows are as its bytes have them: by program -/
theorem pq15 : sm_PQ f15 := ⟨sm_mem1 1285 (by decide +kernel) (by decide +kernel), sm_mem1 113 (by decide +kernel) (by decide +kernel), by decide +kernel, ⟨by decide +kernel, by decide +kernel, by decide +kernel⟩, by decide, Or.inr (Or.inl rfl), by decide +kernel⟩
theorem pq16 : sm_PQ f16 := ⟨sm_mem1 1336 (by decide +kernel) (by decide +kernel), sm_mem1 113 (by decide +kernel) (by decide +kernel), by decide +kernel, ⟨by decide +kernel, by decide +kernel, by decide +kernel⟩, by decide, Or.inr (Or.inl rfl), by decide +kernel⟩
theorem pq17 : sm_PQ f17 := ⟨sm_mem1 1024 (by decide +kernel) (by decide +kernel), sm_mem1 113 (by decide +kernel) (by decide +kernel), by decide +kernel, ⟨by decide +kernel, by decide +kernel, by decide +kernel⟩, by decide, Or.inr (Or.inl rfl), by decide +kernel⟩
theorem pq18 : sm_PQ f18 := ⟨sm_mem1 1020 (by decide +kernel) (by decide +kernel), sm_mem1 113 (by decide +kernel) (by decide +kernel), by decide +kernel, ⟨by decide +kernel, by decide +kernel, by decide +kernel⟩, by decide, Or.inr (Or.inl rfl), by decide +kernel⟩
theorem pq19 : sm_PQ f19 := ⟨sm_mem1 1293 (by decide +kernel) (by decide +kernel), sm_mem1 113 (by decide +kernel) (by decide +kernel), by decide +kernel, ⟨by decide +kernel, by decide +kernel, by decide +kernel⟩, by decide, Or.inr (Or.inr rfl), by decide +kernel⟩
theorem pq20 : sm_PQ f20 := ⟨sm_mem1 1297 (by decide +kernel) (by decide +kernel), sm_mem1 113 (by decide +kernel) (by decide +kernel), by decide +kernel, ⟨by decide +kernel, by decide +kernel, by decide +kernel⟩, by decide, Or.inr (Or.inl rfl), by decide +kernel⟩
theorem pq21 : sm_PQ f21 := ⟨sm_mem1 1289 (by decide +kernel) (by decide +kernel), sm_mem1 113 (by decide +kernel) (by decide +kernel), by decide +kernel, ⟨by decide +kernel, by decide +kernel, by decide +kernel⟩, by decide, Or.inr (Or.inl rfl), by decide +kernel⟩
theorem pq22 : sm_PQ f22 := ⟨sm_mem1 1301 (by decide +kernel) (by decide +kernel), sm_mem1 113 (by decide +kernel) (by decide +kernel), by decide +kernel, ⟨by decide +kernel, by decide +kernel, by decide +kernel⟩, by decide, Or.inr (Or.inl rfl), by decide +kernel⟩
theorem pq23 : sm_PQ f23 := ⟨sm_mem1 1308 (by decide +kernel) (by decide +kernel), sm_mem1 113 (by decide +kernel) (by decide +kernel), by decide +kernel, ⟨by decide +kernel, by decide +kernel, by decide +kernel⟩, by decide, Or.inr (Or.inl rfl), by decide +kernel⟩
theorem pq24 : sm_PQ f24 := ⟨sm_mem1 1312 (by decide +kernel) (by decide +kernel), sm_mem1 113 (by decide +kernel) (by decide +kernel), by decide +kernel, ⟨by decide +kernel, by decide +kernel, by decide +kernel⟩, by decide, Or.inr (Or.inr rfl), by decide +kernel⟩
theorem pq25 : sm_PQ f25 := ⟨sm_mem1 1305 (by decide +kernel) (by decide +kernel), sm_mem1 113 (by decide +kernel) (by decide +kernel), by decide +kernel, ⟨by decide +kernel, by decide +kernel, by decide +kernel⟩, by decide, Or.inr (Or.inl rfl), by decide +kernel⟩
theorem pq26 : sm_PQ f26 := ⟨sm_mem1 1324 (by decide +kernel) (by decide +kernel), sm_mem1 113 (by decide +kernel) (by decide +kernel), by decide +kernel, ⟨by decide +kernel, by decide +kernel, by decide +kernel⟩, by decide, Or.inl rfl, by decide +kernel⟩
theorem pq27 : sm_PQ f27 := ⟨sm_mem1 1328 (by decide +kernel) (by decide +kernel), sm_mem1 113 (by decide +kernel) (by decide +kernel), by decide +kernel, ⟨by decide +kernel, by decide +kernel, by decide +kernel⟩, by decide, Or.inr (Or.inr rfl), by decide +kernel⟩
theorem pq28 : sm_PQ f28 := ⟨sm_mem1 1320 (by decide +kernel) (by decide +kernel), sm_mem1 113 (by decide +kernel) (by decide +kernel), by decide +kernel, ⟨by decide +kernel, by decide +kernel, by decide +kernel⟩, by decide, Or.inr (Or.inl rfl), by decide +kernel⟩
theorem pq29 : sm_PQ f29 := ⟨sm_mem1 1316 (by decide +kernel) (by decide +kernel), sm_mem1 113 (by decide +kernel) (by decide +kernel), by decide +kernel, ⟨by decide +kernel, by decide +kernel, by decide +kernel⟩, by decide, Or.inr (Or.inr rfl), by decide +kernel⟩
theorem pq30 : sm_PQ f30 := ⟨sm_mem1 1340 (by decide +kernel) (by decide +kernel), sm_mem1 113 (by decide +kernel) (by decide +kernel), by decide +kernel, ⟨by decide +kernel, by decide +kernel, by decide +kernel⟩, by decide, Or.inr (Or.inr rfl), by decide +kernel⟩
theorem pq31 : sm_PQ f31 := ⟨sm_mem1 1360 (by decide +kernel) (by decide +kernel), sm_mem1 113 (by decide +kernel) (by decide +kernel), by decide +kernel, ⟨by decide +kernel, by decide +kernel, by decide +kernel⟩, by decide, Or.inr (Or.inl rfl), by decide +kernel⟩
theorem pq32 : sm_PQ f32 := ⟨sm_mem1 1356 (by decide +kernel) (by decide +kernel), sm_mem1 113 (by decide +kernel) (by decide +kernel), by decide +kernel, ⟨by decide +kernel, by decide +kernel, by decide +kernel⟩, by decide, Or.inr (Or.inl rfl), by decide +kernel⟩
theorem pq33 : sm_PQ f33 := ⟨sm_mem1 1344 (by decide +kernel) (by decide +kernel), sm_mem1 113 (by decide +kernel) (by decide +kernel), by decide +kernel, ⟨by decide +kernel, by decide +kernel, by decide +kernel⟩, by decide, Or.inr (Or.inr rfl), by decide +kernel⟩
theorem pq34 : sm_PQ f34 := ⟨sm_mem1 1367 (by decide +kernel) (by decide +kernel), sm_mem1 113 (by decide +kernel) (by decide +kernel), by decide +kernel, ⟨by decide +kernel, by decide +kernel, by decide +kernel⟩, by decide, Or.inr (Or.inl rfl), by decide +kernel⟩
theorem pq35 : sm_PQ f35 := ⟨sm_mem1 1364 (by decide +kernel) (by decide +kernel), sm_mem1 113 (by decide +kernel) (by decide +kernel), by decide +kernel, ⟨by decide +kernel, by decide +kernel, by decide +kernel⟩, by decide, Or.inr (Or.inl rfl), by decide +kernel⟩
theorem pq36 : sm_PQ f36 := ⟨sm_mem1 1352 (by decide +kernel) (by decide +kernel), sm_mem1 113 (by decide +kernel) (by decide +kernel), by decide +kernel, ⟨by decide +kernel, by decide +kernel, by decide +kernel⟩, by decide, Or.inr (Or.inl rfl), by decide +kernel⟩
theorem pq37 : sm_PQ f37 := ⟨sm_mem1 1348 (by decide +kernel) (by decide +kernel), sm_mem1 113 (by decide +kernel) (by decide +kernel), by decide +kernel, ⟨by decide +kernel, by decide +kernel, by decide +kernel⟩, by decide, Or.inr (Or.inr rfl), by decide +kernel⟩
theorem pq38 : sm_PQ f38 := ⟨sm_mem1 1332 (by decide +kernel) (by decide +kernel), sm_mem1 113 (by decide +kernel) (by decide +kernel), by decide +kernel, ⟨by decide +kernel, by decide +kernel, by decide +kernel⟩, by decide, Or.inr (Or.inl rfl), by decide +kernel⟩
theorem pq39 : sm_PQ f39 := ⟨sm_mem1 1371 (by decide +kernel) (by decide +kernel), sm_mem1 113 (by decide +kernel) (by decide +kernel), by decide +kernel, ⟨by decide +kernel, by decide +kernel, by decide +kernel⟩, by decide, Or.inr (Or.inl rfl), by decide +kernel⟩
theorem pq40 : sm_PQ f40 := ⟨sm_mem1 1414 (by decide +kernel) (by decide +kernel), sm_mem1 113 (by decide +kernel) (by decide +kernel), by decide +kernel, ⟨by decide +kernel, by decide +kernel, by decide +kernel⟩, by decide, Or.inl rfl, by decide +kernel⟩
theorem pq41 : sm_PQ f41 := ⟨sm_mem1 1390 (by decide +kernel) (by decide +kernel), sm_mem1 113 (by decide +kernel) (by decide +kernel), by decide +kernel, ⟨by decide +kernel, by decide +kernel, by decide +kernel⟩, by decide, Or.inr (Or.inl rfl), by decide +kernel⟩
theorem pq42 : sm_PQ f42 := ⟨sm_mem1 1394 (by decide +kernel) (by decide +kernel), sm_mem1 113 (by decide +kernel) (by decide +kernel), by decide +kernel, ⟨by decide +kernel, by decide +kernel, by decide +kernel⟩, by decide, Or.inl rfl, by decide +kernel⟩
theorem pq43 : sm_PQ f43 := ⟨sm_mem1 1438 (by decide +kernel) (by decide +kernel), sm_mem1 113 (by decide +kernel) (by decide +kernel), by decide +kernel, ⟨by decide +kernel, by decide +kernel, by decide +kernel⟩, by decide, Or.inl rfl, by decide +kernel⟩
theorem pq44 : sm_PQ f44 := ⟨sm_mem1 1402 (by decide +kernel) (by decide +kernel), sm_mem1 113 (by decide +kernel) (by decide +kernel), by decide +kernel, ⟨by decide +kernel, by decide +kernel, by decide +kernel⟩, by decide, Or.inl rfl, by decide +kernel⟩
theorem pq45 : sm_PQ f45 := ⟨sm_mem1 1418 (by decide +kernel) (by decide +kernel), sm_mem1 113 (by decide +kernel) (by decide +kernel), by decide +kernel, ⟨by decide +kernel, by decide +kernel, by decide +kernel⟩, by decide, Or.inl rfl, by decide +kernel⟩
theorem pq46 : sm_PQ f46 := ⟨sm_mem1 1434 (by decide +kernel) (by decide +kernel), sm_mem1 113 (by decide +kernel) (by decide +kernel), by decide +kernel, ⟨by decide +kernel, by decide +kernel, by decide +kernel⟩, by decide, Or.inr (Or.inl rfl), by decide +kernel⟩
theorem pq47 : sm_PQ f47 := ⟨sm_mem1 1430 (by decide +kernel) (by decide +kernel), sm_mem1 113 (by decide +kernel) (by decide +kernel), by decide +kernel, ⟨by decide +kernel, by decide +kernel, by decide +kernel⟩, by decide, Or.inl rfl, by decide +kernel⟩
theorem pq48 : sm_PQ f48 := ⟨sm_mem1 1442 (by decide +kernel) (by decide +kernel), sm_mem1 113 (by decide +kernel) (by decide +kernel), by decide +kernel, ⟨by decide +kernel, by decide +kernel, by decide +kernel⟩, by decide, Or.inl rfl, by decide +kernel⟩
theorem pq49 : sm_PQ f49 := ⟨sm_mem1 1422 (by decide +kernel) (by decide +kernel), sm_mem1 113 (by decide +kernel) (by decide +kernel), by decide +kernel, ⟨by decide +kernel, by decide +kernel, by decide +kernel⟩, by decide, Or.inl rfl, by decide +kernel⟩
theorem pq50 : sm_PQ f50 := ⟨sm_mem1 1426 (by decide +kernel) (by decide +kernel), sm_mem1 113 (by decide +kernel) (by decide +kernel), by decide +kernel, ⟨by decide +kernel, by decide +kernel, by decide +kernel⟩, by decide, Or.inl rfl, by decide +kernel⟩
theorem pq51 : sm_PQ f51 := ⟨sm_mem1 1410 (by decide +kernel) (by decide +kernel), sm_mem1 113 (by decide +kernel) (by decide +kernel), by decide +kernel, ⟨by decide +kernel, by decide +kernel, by decide +kernel⟩, by decide, Or.inl rfl, by decide +kernel⟩
theorem pq52 : sm_PQ f52 := ⟨sm_mem1 1450 (by decide +kernel) (by decide +kernel), sm_mem1 113 (by decide +kernel) (by decide +kernel), by decide +kernel, ⟨by decide +kernel, by decide +kernel, by decide +kernel⟩, by decide, Or.inl rfl, by decide +kernel⟩
theorem pq53 : sm_PQ f53 := ⟨sm_mem1 1446 (by decide +kernel) (by decide +kernel), sm_mem1 113 (by decide +kernel) (by decide +kernel), by decide +kernel, ⟨by decide +kernel, by decide +kernel, by decide +kernel⟩, by decide, Or.inl rfl, by decide +kernel⟩
theorem pq54 : sm_PQ f54 := ⟨sm_mem1 1406 (by decide +kernel) (by decide +kernel), sm_mem1 113 (by decide +kernel) (by decide +kernel), by decide +kernel, ⟨by decide +kernel, by decide +kernel, by decide +kernel⟩, by decide, Or.inl rfl, by decide +kernel⟩
theorem pq55 : sm_PQ f55 := ⟨sm_mem1 1398 (by decide +kernel) (by decide +kernel), sm_mem1 113 (by decide +kernel) (by decide +kernel), by decide +kernel, ⟨by decide +kernel, by decide +kernel, by decide +kernel⟩, by decide, Or.inl rfl, by decide +kernel⟩
theorem pq56 : sm_PQ f56 := ⟨sm_mem1 1454 (by decide +kernel) (by decide +kernel), sm_mem1 113 (by decide +kernel) (by decide +kernel), by decide +kernel, ⟨by decide +kernel, by decide +kernel, by decide +kernel⟩, by decide, Or.inl rfl, by decide +kernel⟩
theorem pq57 : sm_PQ f57 := ⟨sm_mem1 1386 (by decide +kernel) (by decide +kernel), sm_mem1 113 (by decide +kernel) (by decide +kernel), by decide +kernel, ⟨by decide +kernel, by decide +kernel, by decide +kernel⟩, by decide, Or.inr (Or.inr rfl), by decide +kernel⟩
theorem pq58 : sm_PQ f58 := ⟨sm_mem1 1382 (by decide +kernel) (by decide +kernel), sm_mem1 113 (by decide +kernel) (by decide +kernel), by decide +kernel, ⟨by decide +kernel, by decide +kernel, by decide +kernel⟩, by decide, Or.inl rfl, by decide +kernel⟩
theorem pq59 : sm_PQ f59 := ⟨sm_mem1 1379 (by decide +kernel) (by decide +kernel), sm_mem1 113 (by decide +kernel) (by decide +kernel), by decide +kernel, ⟨by decide +kernel, by decide +kernel, by decide +kernel⟩, by decide, Or.inl rfl, by decide +kernel⟩
theorem pq60 : sm_PQ f60 := ⟨sm_mem1 1375 (by decide +kernel) (by decide +kernel), sm_mem1 113 (by decide +kernel) (by decide +kernel), by decide +kernel, ⟨by decide +kernel, by decide +kernel, by decide +kernel⟩, by decide, Or.inr (Or.inl rfl), by decide +kernel⟩
theorem pq61 : sm_PQ f61 := ⟨sm_mem1 1458 (by decide +kernel) (by decide +kernel), sm_mem1 113 (by decide +kernel) (by decide +kernel), by decide +kernel, ⟨by decide +kernel, by decide +kernel, by decide +kernel⟩, by decide, Or.inl rfl, by decide +kernel⟩
theorem pq62 : sm_PQ f62 := ⟨sm_mem1 1466 (by decide +kernel) (by decide +kernel), sm_mem1 113 (by decide +kernel) (by decide +kernel), by decide +kernel, ⟨by decide +kernel, by decide +kernel, by decide +kernel⟩, by decide, Or.inr (Or.inr rfl), by decide +kernel⟩
theorem pq63 : sm_PQ f63 := ⟨sm_mem1 1462 (by decide +kernel) (by decide +kernel), sm_mem1 113 (by decide +kernel) (by decide +kernel), by decide +kernel, ⟨by decide +kernel, by decide +kernel, by decide +kernel⟩, by decide, Or.inr (Or.inl rfl), by decide +kernel⟩
theorem pq64 : sm_PQ f64 := ⟨sm_mem1 1477 (by decide +kernel) (by decide +kernel), sm_mem1 113 (by decide +kernel) (by decide +kernel), by decide +kernel, ⟨by decide +kernel, by decide +kernel, by decide +kernel⟩, by decide, Or.inr (Or.inr rfl), by decide +kernel⟩
theorem pq65 : sm_PQ f65 := ⟨sm_mem1 1480 (by decide +kernel) (by decide +kernel), sm_mem1 113 (by decide +kernel) (by decide +kernel), by decide +kernel, ⟨by decide +kernel, by decide +kernel, by decide +kernel⟩, by decide, Or.inr (Or.inr rfl), by decide +kernel⟩
theorem pq66 : sm_PQ f66 := ⟨sm_mem1 1474 (by decide +kernel) (by decide +kernel), sm_mem1 113 (by decide +kernel) (by decide +kernel), by decide +kernel, ⟨by decide +kernel, by decide +kernel, by decide +kernel⟩, by decide, Or.inr (Or.inr rfl), by decide +kernel⟩
theorem pq67 : sm_PQ f67 := ⟨sm_mem1 1470 (by decide +kernel) (by decide +kernel), sm_mem1 113 (by decide +kernel) (by decide +kernel), by decide +kernel, ⟨by decide +kernel, by decide +kernel, by decide +kernel⟩, by decide, Or.inr (Or.inl rfl), by decide +kernel⟩
theorem pq68 : sm_PQ f68 := ⟨sm_mem1 1503 (by decide +kernel) (by decide +kernel), sm_mem1 113 (by decide +kernel) (by decide +kernel), by decide +kernel, ⟨by decide +kernel, by decide +kernel, by decide +kernel⟩, by decide, Or.inr (Or.inr rfl), by decide +kernel⟩
theorem pq69 : sm_PQ f69 := ⟨sm_mem1 1515 (by decide +kernel) (by decide +kernel), sm_mem1 113 (by decide +kernel) (by decide +kernel), by decide +kernel, ⟨by decide +kernel, by decide +kernel, by decide +kernel⟩, by decide, Or.inr (Or.inr rfl), by decide +kernel⟩
theorem pq70 : sm_PQ f70 := ⟨sm_mem1 1511 (by decide +kernel) (by decide +kernel), sm_mem1 113 (by decide +kernel) (by decide +kernel), by decide +kernel, ⟨by decide +kernel, by decide +kernel, by decide +kernel⟩, by decide, Or.inr (Or.inr rfl), by decide +kernel⟩
theorem pq71 : sm_PQ f71 := ⟨sm_mem1 1499 (by decide +kernel) (by decide +kernel), sm_mem1 113 (by decide +kernel) (by decide +kernel), by decide +kernel, ⟨by decide +kernel, by decide +kernel, by decide +kernel⟩, by decide, Or.inr (Or.inr rfl), by decide +kernel⟩
theorem pq72 : sm_PQ f72 := ⟨sm_mem1 1507 (by decide +kernel) (by decide +kernel), sm_mem1 113 (by decide +kernel) (by decide +kernel), by decide +kernel, ⟨by decide +kernel, by decide +kernel, by decide +kernel⟩, by decide, Or.inr (Or.inr rfl), by decide +kernel⟩
theorem pq73 : sm_PQ f73 := ⟨sm_mem1 1495 (by decide +kernel) (by decide +kernel), sm_mem1 113 (by decide +kernel) (by decide +kernel), by decide +kernel, ⟨by decide +kernel, by decide +kernel, by decide +kernel⟩, by decide, Or.inr (Or.inr rfl), by decide +kernel⟩
theorem pq74 : sm_PQ f74 := ⟨sm_mem1 1491 (by decide +kernel) (by decide +kernel), sm_mem1 113 (by decide +kernel) (by decide +kernel), by decide +kernel, ⟨by decide +kernel, by decide +kernel, by decide +kernel⟩, by decide, Or.inr (Or.inr rfl), by decide +kernel⟩
theorem pq75 : sm_PQ f75 := ⟨sm_mem1 1488 (by decide +kernel) (by decide +kernel), sm_mem1 113 (by decide +kernel) (by decide +kernel), by decide +kernel, ⟨by decide +kernel, by decide +kernel, by decide +kernel⟩, by decide, Or.inr (Or.inl rfl), by decide +kernel⟩
theorem pq76 : sm_PQ f76 := ⟨sm_mem1 1484 (by decide +kernel) (by decide +kernel), sm_mem1 113 (by decide +kernel) (by decide +kernel), by decide +kernel, ⟨by decide +kernel, by decide +kernel, by decide +kernel⟩, by decide, Or.inr (Or.inl rfl), by decide +kernel⟩
theorem pq77 : sm_PQ f77 := ⟨sm_mem1 1519 (by decide +kernel) (by decide +kernel), sm_mem1 113 (by decide +kernel) (by decide +kernel), by decide +kernel, ⟨by decide +kernel, by decide +kernel, by decide +kernel⟩, by decide, Or.inr (Or.inl rfl), by decide +kernel⟩
theorem pq78 : sm_PQ f78 := ⟨sm_mem1 1523 (by decide +kernel) (by decide +kernel), sm_mem1 113 (by decide +kernel) (by decide +kernel), by decide +kernel, ⟨by decide +kernel, by decide +kernel, by decide +kernel⟩, by decide, Or.inr (Or.inl rfl), by decide +kernel⟩
theorem pq79 : sm_PQ f79 := ⟨sm_mem1 1028 (by decide +kernel) (by decide +kernel), sm_mem1 113 (by decide +kernel) (by decide +kernel), by decide +kernel, ⟨by decide +kernel, by decide +kernel, by decide +kernel⟩, by decide, Or.inl rfl, by decide +kernel⟩
theorem pq80 : sm_PQ f80 := ⟨sm_mem1 1539 (by decide +kernel) (by decide +kernel), sm_mem1 113 (by decide +kernel) (by decide +kernel), by decide +kernel, ⟨by decide +kernel, by decide +kernel, by decide +kernel⟩, by decide, Or.inl rfl, by decide +kernel⟩
theorem pq81 : sm_PQ f81 := ⟨sm_mem1 1531 (by decide +kernel) (by decide +kernel), sm_mem1 113 (by decide +kernel) (by decide +kernel), by decide +kernel, ⟨by decide +kernel, by decide +kernel, by decide +kernel⟩, by decide, Or.inr (Or.inr rfl), by decide +kernel⟩
theorem pq82 : sm_PQ f82 := ⟨sm_mem1 1543 (by decide +kernel) (by decide +kernel), sm_mem1 113 (by decide +kernel) (by decide +kernel), by decide +kernel, ⟨by decide +kernel, by decide +kernel, by decide +kernel⟩, by decide, Or.inr (Or.inr rfl), by decide +kernel⟩
theorem pq83 : sm_PQ f83 := ⟨sm_mem1 1547 (by decide +kernel) (by decide +kernel), sm_mem1 113 (by decide +kernel) (by decide +kernel), by decide +kernel, ⟨by decide +kernel, by decide +kernel, by decide +kernel⟩, by decide, Or.inr (Or.inr rfl), by decide +kernel⟩
theorem pq84 : sm_PQ f84 := ⟨sm_mem1 1551 (by decide +kernel) (by decide +kernel), sm_mem1 113 (by decide +kernel) (by decide +kernel), by decide +kernel, ⟨by decide +kernel, by decide +kernel, by decide +kernel⟩, by decide, Or.inr (Or.inr rfl), by decide +kernel⟩
theorem pq85 : sm_PQ f85 := ⟨sm_mem1 1535 (by decide +kernel) (by decide +kernel), sm_mem1 113 (by decide +kernel) (by decide +kernel), by decide +kernel, ⟨by decide +kernel, by decide +kernel, by decide +kernel⟩, by decide, Or.inr (Or.inr rfl), by decide +kernel⟩
theorem pq86 : sm_PQ f86 := ⟨sm_mem1 1527 (by decide +kernel) (by decide +kernel), sm_mem1 113 (by decide +kernel) (by decide +kernel), by decide +kernel, ⟨by decide +kernel, by decide +kernel, by decide +kernel⟩, by decide, Or.inr (Or.inl rfl), by decide +kernel⟩
theorem pq87 : sm_PQ f87 := ⟨sm_mem1 1555 (by decide +kernel) (by decide +kernel), sm_mem1 113 (by decide +kernel) (by decide +kernel), by decide +kernel, ⟨by decide +kernel, by decide +kernel, by decide +kernel⟩, by decide, Or.inr (Or.inl rfl), by decide +kernel⟩
theorem pq88 : sm_PQ f88 := ⟨sm_mem1 1559 (by decide +kernel) (by decide +kernel), sm_mem1 113 (by decide +kernel) (by decide +kernel), by decide +kernel, ⟨by decide +kernel, by decide +kernel, by decide +kernel⟩, by decide, Or.inr (Or.inl rfl), by decide +kernel⟩
end
section
/-! the tables are good -/
theorem pqs0 : ∀ g ∈ [f0, f1, f2, f3, f4, f5, f6, f7, f8, f9, f10, f11, f12, f13, f14, f15], sm_PQ g := List.forall_mem_cons.mpr ⟨pq0, List.forall_mem_cons.mpr ⟨pq1, List.forall_mem_cons.mpr ⟨pq2, List.forall_mem_cons.mpr ⟨pq3, List.forall_mem_cons.mpr ⟨pq4, List.forall_mem_cons.mpr ⟨pq5, List.forall_mem_cons.mpr ⟨pq6, List.forall_mem_cons.mpr ⟨pq7, List.forall_mem_cons.mpr ⟨pq8, List.forall_mem_cons.mpr ⟨pq9, List.forall_mem_cons.mpr ⟨pq10, List.forall_mem_cons.mpr ⟨pq11, List.forall_mem_cons.mpr ⟨pq12, List.forall_mem_cons.mpr ⟨pq13, List.forall_mem_cons.mpr ⟨pq14, List.forall_mem_cons.mpr ⟨pq15, fun _ h => absurd h List.not_mem_nil⟩⟩⟩⟩⟩⟩⟩⟩⟩⟩⟩⟩⟩⟩⟩⟩
theorem pqs1 : ∀ g ∈ [f16, f17, f18, f19, f20, f21, f22, f23, f24, f25, f26, f27, f28, f29, f30, f31], sm_PQ g := List.forall_mem_cons.mpr ⟨pq16, List.forall_mem_cons.mpr ⟨pq17, List.forall_mem_cons.mpr ⟨pq18, List.forall_mem_cons.mpr ⟨pq19, List.forall_mem_cons.mpr ⟨pq20, List.forall_mem_cons.mpr ⟨pq21, List.forall_mem_cons.mpr ⟨pq22, List.forall_mem_cons.mpr ⟨pq23, List.forall_mem_cons.mpr ⟨pq24, List.forall_mem_cons.mpr ⟨pq25, List.forall_mem_cons.mpr ⟨pq26, List.forall_mem_cons.mpr ⟨pq27, List.forall_mem_cons.mpr ⟨pq28, List.forall_mem_cons.mpr ⟨pq29, List.forall_mem_cons.mpr ⟨pq30, List.forall_mem_cons.mpr ⟨pq31, fun _ h => absurd h List.not_mem_nil⟩⟩⟩⟩⟩⟩⟩⟩⟩⟩⟩⟩⟩⟩⟩⟩
theorem pqs2 : ∀ g ∈ [f32, f33, f34, f35, f36, f37, f38, f39, f40, f41, f42, f43, f44, f45, f46, f47], sm_PQ g := List.forall_mem_cons.mpr ⟨pq32, List.forall_mem_cons.mpr ⟨pq33, List.forall_mem_cons.mpr ⟨pq34, List.forall_mem_cons.mpr ⟨pq35, List.forall_mem_cons.mpr ⟨pq36, List.forall_mem_cons.mpr ⟨pq37, List.forall_mem_cons.mpr ⟨pq38, List.forall_mem_cons.mpr ⟨pq39, List.forall_mem_cons.mpr ⟨pq40, List.forall_mem_cons.mpr ⟨pq41, List.forall_mem_cons.mpr ⟨pq42, List.forall_mem_cons.mpr ⟨pq43, List.forall_mem_cons.mpr ⟨pq44, List.forall_mem_cons.mpr ⟨pq45, List.forall_mem_cons.mpr ⟨pq46, List.forall_mem_cons.mpr ⟨pq47, fun _ h => absurd h List.not_mem_nil⟩⟩⟩⟩⟩⟩⟩⟩⟩⟩⟩⟩⟩⟩⟩⟩
theorem pqs3 : ∀ g ∈ [f48, f49, f50, f51, f52, f53, f54, f55, f56, f57, f58, f59, f60, f61, f62, f63], sm_PQ g := List.forall_mem_cons.mpr ⟨pq48, List.forall_mem_cons.mpr ⟨pq49, List.forall_mem_cons.mpr ⟨pq50, List.forall_mem_cons.mpr ⟨pq51, List.forall_mem_cons.mpr ⟨pq52, List.forall_mem_cons.mpr ⟨pq53, List.forall_mem_cons.mpr ⟨pq54, List.forall_mem_cons.mpr ⟨pq55, List.forall_mem_cons.mpr ⟨pq56, List.forall_mem_cons.mpr ⟨pq57, List.forall_mem_cons.mpr ⟨pq58, List.forall_mem_cons.mpr ⟨pq59, List.forall_mem_cons.mpr ⟨pq60, List.forall_mem_cons.mpr ⟨pq61, List.forall_mem_cons.mpr ⟨pq62, List.forall_mem_cons.mpr ⟨pq63, fun _ h => absurd h List.not_mem_nil⟩⟩⟩⟩⟩⟩⟩⟩⟩⟩⟩⟩⟩⟩⟩⟩
theorem pqs4 : ∀ g ∈ [f64, f65, f66, f67, f68, f69, f70, f71, f72, f73, f74, f75, f76, f77, f78, f79], sm_PQ g := List.forall_mem_cons.mpr ⟨pq64, List.forall_mem_cons.mpr ⟨pq65, List.forall_mem_cons.mpr ⟨pq66, List.forall_mem_cons.mpr ⟨pq67, List.forall_mem_cons.mpr ⟨pq68, List.forall_mem_cons.mpr ⟨pq69, List.forall_mem_cons.mpr ⟨pq70, List.forall_mem_cons.mpr ⟨pq71, List.forall_mem_cons.mpr ⟨pq72, List.forall_mem_cons.mpr ⟨pq73, List.forall_mem_cons.mpr ⟨pq74, List.forall_mem_cons.mpr ⟨pq75, List.forall_mem_cons.mpr ⟨pq76, List.forall_mem_cons.mpr ⟨pq77, List.forall_mem_cons.mpr ⟨pq78, List.forall_mem_cons.mpr ⟨pq79, fun _ h => absurd h List.not_mem_nil⟩⟩⟩⟩⟩⟩⟩⟩⟩⟩⟩⟩⟩⟩⟩⟩
theorem pqs5 : ∀ g ∈ [f80, f81, f82, f83, f84, f85, f86, f87, f88, f89, f90, f91, f92, f93, f94, f95], sm_PQ g := List.forall_mem_cons.mpr ⟨pq80, List.forall_mem_cons.mpr ⟨pq81, List.forall_mem_cons.mpr ⟨pq82, List.forall_mem_cons.mpr ⟨pq83, List.forall_mem_cons.mpr ⟨pq84, List.forall_mem_cons.mpr ⟨pq85, List.forall_mem_cons.mpr ⟨pq86, List.forall_mem_cons.mpr ⟨pq87, List.forall_mem_cons.mpr ⟨pq88, List.forall_mem_cons.mpr ⟨pq89, List.forall_mem_cons.mpr ⟨pq90, List.forall_mem_cons.mpr ⟨pq91, List.forall_mem_cons.mpr ⟨pq92, List.forall_mem_cons.mpr ⟨pq93, List.forall_mem_cons.mpr ⟨pq94, List.forall_mem_cons.mpr ⟨pq95, fun _ h => absurd h List.not_mem_nil⟩⟩⟩⟩⟩⟩⟩⟩⟩⟩⟩⟩⟩⟩⟩⟩
theorem pqs6 : ∀ g ∈ [f96, f97, f98, f99, f100, f101, f102, f103, f104, f105, f106, f107, f108, f109, f110, f111], sm_PQ g := List.forall_mem_cons.mpr ⟨pq96, List.forall_mem_cons.mpr ⟨pq97, List.forall_mem_cons.mpr ⟨pq98, List.forall_mem_cons.mpr ⟨pq99, List.forall_mem_cons.mpr ⟨pq100, List.forall_mem_cons.mpr ⟨pq101, List.forall_mem_cons.mpr ⟨pq102, List.forall_mem_cons.mpr ⟨pq103, List.forall_mem_cons.mpr ⟨pq104, List.forall_mem_cons.mpr ⟨pq105, List.forall_mem_cons.mpr ⟨pq106, List.forall_mem_cons.mpr ⟨pq107, List.forall_mem_cons.mpr ⟨pq108, List.forall_mem_cons.mpr ⟨pq109, List.forall_mem_cons.mpr ⟨pq110, List.forall_mem_cons.mpr ⟨pq111, fun _ h => absurd h List.not_mem_nil⟩⟩⟩⟩⟩⟩⟩⟩⟩⟩⟩⟩⟩⟩⟩⟩
theorem pqs7 : ∀ g ∈ [f112, f113, f114, f115, f116, f117, f118, f119, f120, f121, f122, f123, f124, f125, f126, f127], sm_PQ g := List.forall_mem_cons.mpr ⟨pq112, List.forall_mem_cons.mpr ⟨pq113, List.forall_mem_cons.mpr ⟨pq114, List.forall_mem_cons.mpr ⟨pq115, List.forall_mem_cons.mpr ⟨pq116, List.forall_mem_cons.mpr ⟨pq117, List.forall_mem_cons.mpr ⟨pq118, List.forall_mem_cons.mpr ⟨pq119, List.forall_mem_cons.mpr ⟨pq120, List.forall_mem_cons.mpr ⟨pq121, List.forall_mem_cons.mpr ⟨pq122, List.forall_mem_cons.mpr ⟨pq123, List.forall_mem_cons.mpr ⟨pq124, List.forall_mem_cons.mpr ⟨pq125, List.forall_mem_cons.mpr ⟨pq126, List.forall_mem_cons.mpr ⟨pq127, fun _ h => absurd h List.not_mem_nil⟩⟩⟩⟩⟩⟩⟩⟩⟩⟩⟩⟩⟩⟩⟩⟩
theorem pqs8 : ∀ g ∈ [f128, f129, f130, f131, f132, f133, f134, f135, f136, f137, f138, f139, f140, f141, f142, f143], sm_PQ g := List.forall_mem_cons.mpr ⟨pq128, List.forall_mem_cons.mpr ⟨pq129, List.forall_mem_cons.mpr ⟨pq130, List.forall_mem_cons.mpr ⟨pq131, List.forall_mem_cons.mpr ⟨pq132, List.forall_mem_cons.mpr ⟨pq133, List.forall_mem_cons.mpr ⟨pq134, List.forall_mem_cons.mpr ⟨pq135, List.forall_mem_cons.mpr ⟨pq136, List.forall_mem_cons.mpr ⟨pq137, List.forall_mem_cons.mpr ⟨pq138, List.forall_mem_cons.mpr ⟨pq139, List.forall_mem_cons.mpr ⟨pq140, List.forall_mem_cons.mpr ⟨pq141, List.forall_mem_cons.mpr ⟨pq142, List.forall_mem_cons.mpr ⟨pq143, fun _ h => absurd h List.not_mem_nil⟩⟩⟩⟩⟩⟩⟩⟩⟩⟩⟩⟩⟩⟩⟩⟩
theorem pqs9 : ∀ g ∈ [f144, f145, f146, f147, f148, f149, f150, f151, f152, f153, f154, f155, f156, f157, f158, f159], sm_PQ g := List.forall_mem_cons.mpr ⟨pq144, List.forall_mem_cons.mpr ⟨pq145, List.forall_mem_cons.mpr ⟨pq146, List.forall_mem_cons.mpr ⟨pq147, List.forall_mem_cons.mpr ⟨pq148, List.forall_mem_cons.mpr ⟨pq149, List.forall_mem_cons.mpr ⟨pq150, List.forall_mem_cons.mpr ⟨pq151, List.forall_mem_cons.mpr ⟨pq152, List.forall_mem_cons.mpr ⟨pq153, List.forall_mem_cons.mpr ⟨pq154, List.forall_mem_cons.mpr ⟨pq155, List.forall_mem_cons.mpr ⟨pq156, List.forall_mem_cons.mpr ⟨pq157, List.forall_mem_cons.mpr ⟨pq158, List.forall_mem_cons.mpr ⟨pq159, fun _ h => absurd h List.not_mem_nil⟩⟩⟩⟩⟩⟩⟩⟩⟩⟩⟩⟩⟩⟩⟩⟩
theorem pqs10 : ∀ g ∈ [f160, f161, f162, f163, f164, f165, f166, f167, f168, f169, f170, f171, f172, f173], sm_PQ g := List.forall_mem_cons.mpr ⟨pq160, List.forall_mem_cons.mpr ⟨pq161, List.forall_mem_cons.mpr ⟨pq162, List.forall_mem_cons.mpr ⟨pq163, List.forall_mem_cons.mpr ⟨pq164, List.forall_mem_cons.mpr ⟨pq165, List.forall_mem_cons.mpr ⟨pq166, List.forall_mem_cons.mpr ⟨pq167, List.forall_mem_cons.mpr ⟨pq168, List.forall_mem_cons.mpr ⟨pq169, List.forall_mem_cons.mpr ⟨pq170, List.forall_mem_cons.mpr ⟨pq171, List.forall_mem_cons.mpr ⟨pq172, List.forall_mem_cons.mpr ⟨pq173, fun _ h => absurd h List.not_mem_nil⟩⟩⟩⟩⟩⟩⟩⟩⟩⟩⟩⟩⟩⟩
theorem pqs : ∀ g ∈ smP, sm_PQ g := by
  show ∀ g ∈ [f0, f1, f2, f3, f4, f5, f6, f7, f8, f9, f10, f11, f12, f13, f14, f15] ++ ([f16, f17, f18, f19, f20, f21, f22, f23, f24, f25, f26, f27, f28, f29, f30, f31] ++ ([f32, f33, f34, f35, f36, f37, f38, f39, f40, f41, f42, f43, f44, f45, f46, f47] ++ ([f48, f49, f50, f51, f52, f53, f54, f55, f56, f57, f58, f59, f60, f61, f62, f63] ++ ([f64, f65, f66, f67, f68, f69, f70, f71, f72, f73, f74, f75, f76, f77, f78, f79] ++ ([f80, f81, f82, f83, f84, f85, f86, f87, f88, f89, f90, f91, f92, f93, f94, f95] ++ ([f96, f97, f98, f99, f100, f101, f102, f103, f104, f105, f106, f107, f108, f109, f110, f111] ++ ([f112, f113, f114, f115, f116, f117, f118, f119, f120, f121, f122, f123, f124, f125, f126, f127] ++ ([f128, f129, f130, f131, f132, f133, f134, f135, f136, f137, f138, f139, f140, f141, f142, f143] ++ ([f144, f145, f146, f147, f148, f149, f150, f151, f152, f153, f154, f155, f156, f157, f158, f159] ++ ([f160, f161, f162, f163, f164, f165, f166, f167, f168, f169, f170, f171, f172, f173])))))))))), sm_PQ g
  exact List.forall_mem_append.mpr ⟨pqs0, List.forall_mem_append.mpr ⟨pqs1, List.forall_mem_append.mpr ⟨pqs2, List.forall_mem_append.mpr ⟨pqs3, List.forall_mem_append.mpr ⟨pqs4, List.forall_mem_append.mpr ⟨pqs5, List.forall_mem_append.mpr ⟨pqs6, List.forall_mem_append.mpr ⟨pqs7, List.forall_mem_append.mpr ⟨pqs8, List.forall_mem_append.mpr ⟨pqs9, pqs10⟩⟩⟩⟩⟩⟩⟩⟩⟩⟩
theorem sm_V_of {sh : List sm_Sh} (h1 : sm_shk sh = true) (h2 : sm_shu sh = true) : sm_V smT smCl smP smNm smLF smLP smLM smLN smLS smSa sh :=
  ⟨sm_good, sm_vCls, sm_vLF, sm_vLP, sm_vLM, sm_vLN, fun _ g h => pqs g (List.mem_of_getElem? h), sm_vLS, (sm_vSh h1 h2).1, (sm_vSh h1 h2).2, by decide⟩
theorem smVC : sm_V smT smCl smP smNm smLF smLP smLM smLN smLS smSa shC := sm_V_of (by decide +kernel) (by decide +kernel)
theorem smVT : sm_V smT smCl smP smNm smLF smLP smLM smLN smLS smSa shT := sm_V_of (by decide +kernel) (by decide +kernel)
theorem smVM : sm_V smT smCl smP smNm smLF smLP smLM smLN smLS smSa shM := sm_V_of (by decide +kernel) (by decide +kernel)
end
section
/-! the methods as functions: by program -/
noncomputable def jT_has_17 (s0 : Int32) (D : sm_D) (M : sm_M) : Option sm_S :=
  (sm_bo s0 (some (s0, D, M)))
noncomputable def jT_has_16 (D : sm_D) (M : sm_M) : Option sm_S :=
  (jT_has_17 (0 : Int32) D M)
noncomputable def jT_has (l1 : Int32) (D : sm_D) (M : sm_M) : Option sm_S :=
  (if l1 < (0 : Int32) then (jT_has_16 D M) else (if l1 < (M 1 7) then (jT_has_17 (1 : Int32) D M) else (jT_has_16 D M)))
noncomputable def jT_sizeOf_22 (s0 : Int32) (D : sm_D) (M : sm_M) : Option sm_S :=
  (some (s0, D, M))
noncomputable def jT_sizeOf_21 (D : sm_D) (M : sm_M) : Option sm_S :=
  (jT_sizeOf_22 (0 : Int32) D M)
noncomputable def jT_sizeOf (l1 : Int32) (D : sm_D) (M : sm_M) : Option sm_S :=
  (if l1 < (0 : Int32) then (jT_sizeOf_21 D M) else (if l1 < (M 1 7) then (sm_ck l1 800 (jT_sizeOf_22 (M 6 (Int32.toNatClampNeg l1)) D M)) else (jT_sizeOf_21 D M)))
noncomputable def jT_bucket (l0 l1 l2 l3 : Int32) (D : sm_D) (M : sm_M) : Option sm_S :=
  (some (((((((((l0 * (31 : Int32)) + l1) * (37 : Int32)) + l2) * (41 : Int32)) + l3) ^^^ ((Int32.toUInt32 ((((((l0 * (31 : Int32)) + l1) * (37 : Int32)) + l2) * (41 : Int32)) + l3) >>> (Int32.toUInt32 (7 : Int32) &&& Int32.toUInt32 31)).toInt32)) &&& (127 : Int32)), D, M))
noncomputable def jT_search_75 (l2 l3 l4 l5 l6 l7 : Int32) (D : sm_D) (M : sm_M) : Option ((Int32 × Int32 × Int32 × Int32 × Int32 × Int32 × sm_M) ⊕ sm_S) :=
  (sm_ck l6 800 (sm_dq D D (some (.inl (l2, l3, l4, l5, (M 8 (Int32.toNatClampNeg l6)), (l7 + (1 : Int32)), M)))))
noncomputable def jT_search_90 (D : sm_D) (M : sm_M) : Option sm_S :=
  (some ((-1 : Int32), D, M))
noncomputable def jT_search_11_c (l2 l3 l4 l5 l6 l7 : Int32) (D : sm_D) (M : sm_M) : Option ((Int32 × Int32 × Int32 × Int32 × Int32 × Int32 × sm_M) ⊕ sm_S) :=
  (if l7 < (M 1 7) then (if l6 = (-1 : Int32) then (sm_inr (jT_search_90 D M)) else (sm_ck l6 800 (if (M 2 (Int32.toNatClampNeg l6)) = l2 then (sm_ck l6 800 (if (M 3 (Int32.toNatClampNeg l6)) = l3 then (sm_ck l6 800 (if (M 4 (Int32.toNatClampNeg l6)) = l4 then (sm_ck l6 800 (if (M 5 (Int32.toNatClampNeg l6)) = l5 then (some (.inr (l6, D, M))) else (jT_search_75 l2 l3 l4 l5 l6 l7 D M))) else (jT_search_75 l2 l3 l4 l5 l6 l7 D M))) else (jT_search_75 l2 l3 l4 l5 l6 l7 D M))) else (jT_search_75 l2 l3 l4 l5 l6 l7 D M)))) else (sm_inr (jT_search_90 D M)))
noncomputable def jT_search_11_b (D : sm_D) (s : Int32 × Int32 × Int32 × Int32 × Int32 × Int32 × sm_M) : Option ((Int32 × Int32 × Int32 × Int32 × Int32 × Int32 × sm_M) ⊕ sm_S) := jT_search_11_c s.1 s.2.1 s.2.2.1 s.2.2.2.1 s.2.2.2.2.1 s.2.2.2.2.2.1 D s.2.2.2.2.2.2
noncomputable def jT_search_11 (l2 l3 l4 l5 l6 l7 : Int32) (D : sm_D) (M : sm_M) : Option sm_S := sm_lp (jT_search_11_b D) (l2, l3, l4, l5, l6, l7, M)
noncomputable def jT_search (l1 l2 l3 l4 l5 : Int32) (D : sm_D) (M : sm_M) : Option sm_S :=
  (sm_ck l1 128 (jT_search_11 l2 l3 l4 l5 (M 7 (Int32.toNatClampNeg l1)) (0 : Int32) D M))
noncomputable def jT_append (l1 l2 l3 l4 l5 : Int32) (D : sm_D) (M : sm_M) : Option sm_S :=
  (sm_ck (M 1 7) 800 (sm_ck ((sm_up M 2 (Int32.toNatClampNeg (M 1 7)) l2) 1 7) 800 (sm_ck ((sm_up (sm_up M 2 (Int32.toNatClampNeg (M 1 7)) l2) 3 (Int32.toNatClampNeg ((sm_up M 2 (Int32.toNatClampNeg (M 1 7)) l2) 1 7)) l3) 1 7) 800 (sm_ck ((sm_up (sm_up (sm_up M 2 (Int32.toNatClampNeg (M 1 7)) l2) 3 (Int32.toNatClampNeg ((sm_up M 2 (Int32.toNatClampNeg (M 1 7)) l2) 1 7)) l3) 4 (Int32.toNatClampNeg ((sm_up (sm_up M 2 (Int32.toNatClampNeg (M 1 7)) l2) 3 (Int32.toNatClampNeg ((sm_up M 2 (Int32.toNatClampNeg (M 1 7)) l2) 1 7)) l3) 1 7)) l4) 1 7) 800 (sm_ck l1 128 (sm_ck ((sm_up (sm_up (sm_up (sm_up M 2 (Int32.toNatClampNeg (M 1 7)) l2) 3 (Int32.toNatClampNeg ((sm_up M 2 (Int32.toNatClampNeg (M 1 7)) l2) 1 7)) l3) 4 (Int32.toNatClampNeg ((sm_up (sm_up M 2 (Int32.toNatClampNeg (M 1 7)) l2) 3 (Int32.toNatClampNeg ((sm_up M 2 (Int32.toNatClampNeg (M 1 7)) l2) 1 7)) l3) 1 7)) l4) 5 (Int32.toNatClampNeg ((sm_up (sm_up (sm_up M 2 (Int32.toNatClampNeg (M 1 7)) l2) 3 (Int32.toNatClampNeg ((sm_up M 2 (Int32.toNatClampNeg (M 1 7)) l2) 1 7)) l3) 4 (Int32.toNatClampNeg ((sm_up (sm_up M 2 (Int32.toNatClampNeg (M 1 7)) l2) 3 (Int32.toNatClampNeg ((sm_up M 2 (Int32.toNatClampNeg (M 1 7)) l2) 1 7)) l3) 1 7)) l4) 1 7)) l5) 1 7) 800 (sm_ck l1 128 (some ((0 : Int32), D, (sm_up (sm_up (sm_up (sm_up (sm_up (sm_up (sm_up M 2 (Int32.toNatClampNeg (M 1 7)) l2) 3 (Int32.toNatClampNeg ((sm_up M 2 (Int32.toNatClampNeg (M 1 7)) l2) 1 7)) l3) 4 (Int32.toNatClampNeg ((sm_up (sm_up M 2 (Int32.toNatClampNeg (M 1 7)) l2) 3 (Int32.toNatClampNeg ((sm_up M 2 (Int32.toNatClampNeg (M 1 7)) l2) 1 7)) l3) 1 7)) l4) 5 (Int32.toNatClampNeg ((sm_up (sm_up (sm_up M 2 (Int32.toNatClampNeg (M 1 7)) l2) 3 (Int32.toNatClampNeg ((sm_up M 2 (Int32.toNatClampNeg (M 1 7)) l2) 1 7)) l3) 4 (Int32.toNatClampNeg ((sm_up (sm_up M 2 (Int32.toNatClampNeg (M 1 7)) l2) 3 (Int32.toNatClampNeg ((sm_up M 2 (Int32.toNatClampNeg (M 1 7)) l2) 1 7)) l3) 1 7)) l4) 1 7)) l5) 8 (Int32.toNatClampNeg ((sm_up (sm_up (sm_up (sm_up M 2 (Int32.toNatClampNeg (M 1 7)) l2) 3 (Int32.toNatClampNeg ((sm_up M 2 (Int32.toNatClampNeg (M 1 7)) l2) 1 7)) l3) 4 (Int32.toNatClampNeg ((sm_up (sm_up M 2 (Int32.toNatClampNeg (M 1 7)) l2) 3 (Int32.toNatClampNeg ((sm_up M 2 (Int32.toNatClampNeg (M 1 7)) l2) 1 7)) l3) 1 7)) l4) 5 (Int32.toNatClampNeg ((sm_up (sm_up (sm_up M 2 (Int32.toNatClampNeg (M 1 7)) l2) 3 (Int32.toNatClampNeg ((sm_up M 2 (Int32.toNatClampNeg (M 1 7)) l2) 1 7)) l3) 4 (Int32.toNatClampNeg ((sm_up (sm_up M 2 (Int32.toNatClampNeg (M 1 7)) l2) 3 (Int32.toNatClampNeg ((sm_up M 2 (Int32.toNatClampNeg (M 1 7)) l2) 1 7)) l3) 1 7)) l4) 1 7)) l5) 1 7)) ((sm_up (sm_up (sm_up (sm_up M 2 (Int32.toNatClampNeg (M 1 7)) l2) 3 (Int32.toNatClampNeg ((sm_up M 2 (Int32.toNatClampNeg (M 1 7)) l2) 1 7)) l3) 4 (Int32.toNatClampNeg ((sm_up (sm_up M 2 (Int32.toNatClampNeg (M 1 7)) l2) 3 (Int32.toNatClampNeg ((sm_up M 2 (Int32.toNatClampNeg (M 1 7)) l2) 1 7)) l3) 1 7)) l4) 5 (Int32.toNatClampNeg ((sm_up (sm_up (sm_up M 2 (Int32.toNatClampNeg (M 1 7)) l2) 3 (Int32.toNatClampNeg ((sm_up M 2 (Int32.toNatClampNeg (M 1 7)) l2) 1 7)) l3) 4 (Int32.toNatClampNeg ((sm_up (sm_up M 2 (Int32.toNatClampNeg (M 1 7)) l2) 3 (Int32.toNatClampNeg ((sm_up M 2 (Int32.toNatClampNeg (M 1 7)) l2) 1 7)) l3) 1 7)) l4) 1 7)) l5) 7 (Int32.toNatClampNeg l1))) 7 (Int32.toNatClampNeg l1) ((sm_up (sm_up (sm_up (sm_up (sm_up M 2 (Int32.toNatClampNeg (M 1 7)) l2) 3 (Int32.toNatClampNeg ((sm_up M 2 (Int32.toNatClampNeg (M 1 7)) l2) 1 7)) l3) 4 (Int32.toNatClampNeg ((sm_up (sm_up M 2 (Int32.toNatClampNeg (M 1 7)) l2) 3 (Int32.toNatClampNeg ((sm_up M 2 (Int32.toNatClampNeg (M 1 7)) l2) 1 7)) l3) 1 7)) l4) 5 (Int32.toNatClampNeg ((sm_up (sm_up (sm_up M 2 (Int32.toNatClampNeg (M 1 7)) l2) 3 (Int32.toNatClampNeg ((sm_up M 2 (Int32.toNatClampNeg (M 1 7)) l2) 1 7)) l3) 4 (Int32.toNatClampNeg ((sm_up (sm_up M 2 (Int32.toNatClampNeg (M 1 7)) l2) 3 (Int32.toNatClampNeg ((sm_up M 2 (Int32.toNatClampNeg (M 1 7)) l2) 1 7)) l3) 1 7)) l4) 1 7)) l5) 8 (Int32.toNatClampNeg ((sm_up (sm_up (sm_up (sm_up M 2 (Int32.toNatClampNeg (M 1 7)) l2) 3 (Int32.toNatClampNeg ((sm_up M 2 (Int32.toNatClampNeg (M 1 7)) l2) 1 7)) l3) 4 (Int32.toNatClampNeg ((sm_up (sm_up M 2 (Int32.toNatClampNeg (M 1 7)) l2) 3 (Int32.toNatClampNeg ((sm_up M 2 (Int32.toNatClampNeg (M 1 7)) l2) 1 7)) l3) 1 7)) l4) 5 (Int32.toNatClampNeg ((sm_up (sm_up (sm_up M 2 (Int32.toNatClampNeg (M 1 7)) l2) 3 (Int32.toNatClampNeg ((sm_up M 2 (Int32.toNatClampNeg (M 1 7)) l2) 1 7)) l3) 4 (Int32.toNatClampNeg ((sm_up (sm_up M 2 (Int32.toNatClampNeg (M 1 7)) l2) 3 (Int32.toNatClampNeg ((sm_up M 2 (Int32.toNatClampNeg (M 1 7)) l2) 1 7)) l3) 1 7)) l4) 1 7)) l5) 1 7)) ((sm_up (sm_up (sm_up (sm_up M 2 (Int32.toNatClampNeg (M 1 7)) l2) 3 (Int32.toNatClampNeg ((sm_up M 2 (Int32.toNatClampNeg (M 1 7)) l2) 1 7)) l3) 4 (Int32.toNatClampNeg ((sm_up (sm_up M 2 (Int32.toNatClampNeg (M 1 7)) l2) 3 (Int32.toNatClampNeg ((sm_up M 2 (Int32.toNatClampNeg (M 1 7)) l2) 1 7)) l3) 1 7)) l4) 5 (Int32.toNatClampNeg ((sm_up (sm_up (sm_up M 2 (Int32.toNatClampNeg (M 1 7)) l2) 3 (Int32.toNatClampNeg ((sm_up M 2 (Int32.toNatClampNeg (M 1 7)) l2) 1 7)) l3) 4 (Int32.toNatClampNeg ((sm_up (sm_up M 2 (Int32.toNatClampNeg (M 1 7)) l2) 3 (Int32.toNatClampNeg ((sm_up M 2 (Int32.toNatClampNeg (M 1 7)) l2) 1 7)) l3) 1 7)) l4) 1 7)) l5) 7 (Int32.toNatClampNeg l1))) 1 7)) 1 7 (((sm_up (sm_up (sm_up (sm_up (sm_up (sm_up M 2 (Int32.toNatClampNeg (M 1 7)) l2) 3 (Int32.toNatClampNeg ((sm_up M 2 (Int32.toNatClampNeg (M 1 7)) l2) 1 7)) l3) 4 (Int32.toNatClampNeg ((sm_up (sm_up M 2 (Int32.toNatClampNeg (M 1 7)) l2) 3 (Int32.toNatClampNeg ((sm_up M 2 (Int32.toNatClampNeg (M 1 7)) l2) 1 7)) l3) 1 7)) l4) 5 (Int32.toNatClampNeg ((sm_up (sm_up (sm_up M 2 (Int32.toNatClampNeg (M 1 7)) l2) 3 (Int32.toNatClampNeg ((sm_up M 2 (Int32.toNatClampNeg (M 1 7)) l2) 1 7)) l3) 4 (Int32.toNatClampNeg ((sm_up (sm_up M 2 (Int32.toNatClampNeg (M 1 7)) l2) 3 (Int32.toNatClampNeg ((sm_up M 2 (Int32.toNatClampNeg (M 1 7)) l2) 1 7)) l3) 1 7)) l4) 1 7)) l5) 8 (Int32.toNatClampNeg ((sm_up (sm_up (sm_up (sm_up M 2 (Int32.toNatClampNeg (M 1 7)) l2) 3 (Int32.toNatClampNeg ((sm_up M 2 (Int32.toNatClampNeg (M 1 7)) l2) 1 7)) l3) 4 (Int32.toNatClampNeg ((sm_up (sm_up M 2 (Int32.toNatClampNeg (M 1 7)) l2) 3 (Int32.toNatClampNeg ((sm_up M 2 (Int32.toNatClampNeg (M 1 7)) l2) 1 7)) l3) 1 7)) l4) 5 (Int32.toNatClampNeg ((sm_up (sm_up (sm_up M 2 (Int32.toNatClampNeg (M 1 7)) l2) 3 (Int32.toNatClampNeg ((sm_up M 2 (Int32.toNatClampNeg (M 1 7)) l2) 1 7)) l3) 4 (Int32.toNatClampNeg ((sm_up (sm_up M 2 (Int32.toNatClampNeg (M 1 7)) l2) 3 (Int32.toNatClampNeg ((sm_up M 2 (Int32.toNatClampNeg (M 1 7)) l2) 1 7)) l3) 1 7)) l4) 1 7)) l5) 1 7)) ((sm_up (sm_up (sm_up (sm_up M 2 (Int32.toNatClampNeg (M 1 7)) l2) 3 (Int32.toNatClampNeg ((sm_up M 2 (Int32.toNatClampNeg (M 1 7)) l2) 1 7)) l3) 4 (Int32.toNatClampNeg ((sm_up (sm_up M 2 (Int32.toNatClampNeg (M 1 7)) l2) 3 (Int32.toNatClampNeg ((sm_up M 2 (Int32.toNatClampNeg (M 1 7)) l2) 1 7)) l3) 1 7)) l4) 5 (Int32.toNatClampNeg ((sm_up (sm_up (sm_up M 2 (Int32.toNatClampNeg (M 1 7)) l2) 3 (Int32.toNatClampNeg ((sm_up M 2 (Int32.toNatClampNeg (M 1 7)) l2) 1 7)) l3) 4 (Int32.toNatClampNeg ((sm_up (sm_up M 2 (Int32.toNatClampNeg (M 1 7)) l2) 3 (Int32.toNatClampNeg ((sm_up M 2 (Int32.toNatClampNeg (M 1 7)) l2) 1 7)) l3) 1 7)) l4) 1 7)) l5) 7 (Int32.toNatClampNeg l1))) 7 (Int32.toNatClampNeg l1) ((sm_up (sm_up (sm_up (sm_up (sm_up M 2 (Int32.toNatClampNeg (M 1 7)) l2) 3 (Int32.toNatClampNeg ((sm_up M 2 (Int32.toNatClampNeg (M 1 7)) l2) 1 7)) l3) 4 (Int32.toNatClampNeg ((sm_up (sm_up M 2 (Int32.toNatClampNeg (M 1 7)) l2) 3 (Int32.toNatClampNeg ((sm_up M 2 (Int32.toNatClampNeg (M 1 7)) l2) 1 7)) l3) 1 7)) l4) 5 (Int32.toNatClampNeg ((sm_up (sm_up (sm_up M 2 (Int32.toNatClampNeg (M 1 7)) l2) 3 (Int32.toNatClampNeg ((sm_up M 2 (Int32.toNatClampNeg (M 1 7)) l2) 1 7)) l3) 4 (Int32.toNatClampNeg ((sm_up (sm_up M 2 (Int32.toNatClampNeg (M 1 7)) l2) 3 (Int32.toNatClampNeg ((sm_up M 2 (Int32.toNatClampNeg (M 1 7)) l2) 1 7)) l3) 1 7)) l4) 1 7)) l5) 8 (Int32.toNatClampNeg ((sm_up (sm_up (sm_up (sm_up M 2 (Int32.toNatClampNeg (M 1 7)) l2) 3 (Int32.toNatClampNeg ((sm_up M 2 (Int32.toNatClampNeg (M 1 7)) l2) 1 7)) l3) 4 (Int32.toNatClampNeg ((sm_up (sm_up M 2 (Int32.toNatClampNeg (M 1 7)) l2) 3 (Int32.toNatClampNeg ((sm_up M 2 (Int32.toNatClampNeg (M 1 7)) l2) 1 7)) l3) 1 7)) l4) 5 (Int32.toNatClampNeg ((sm_up (sm_up (sm_up M 2 (Int32.toNatClampNeg (M 1 7)) l2) 3 (Int32.toNatClampNeg ((sm_up M 2 (Int32.toNatClampNeg (M 1 7)) l2) 1 7)) l3) 4 (Int32.toNatClampNeg ((sm_up (sm_up M 2 (Int32.toNatClampNeg (M 1 7)) l2) 3 (Int32.toNatClampNeg ((sm_up M 2 (Int32.toNatClampNeg (M 1 7)) l2) 1 7)) l3) 1 7)) l4) 1 7)) l5) 1 7)) ((sm_up (sm_up (sm_up (sm_up M 2 (Int32.toNatClampNeg (M 1 7)) l2) 3 (Int32.toNatClampNeg ((sm_up M 2 (Int32.toNatClampNeg (M 1 7)) l2) 1 7)) l3) 4 (Int32.toNatClampNeg ((sm_up (sm_up M 2 (Int32.toNatClampNeg (M 1 7)) l2) 3 (Int32.toNatClampNeg ((sm_up M 2 (Int32.toNatClampNeg (M 1 7)) l2) 1 7)) l3) 1 7)) l4) 5 (Int32.toNatClampNeg ((sm_up (sm_up (sm_up M 2 (Int32.toNatClampNeg (M 1 7)) l2) 3 (Int32.toNatClampNeg ((sm_up M 2 (Int32.toNatClampNeg (M 1 7)) l2) 1 7)) l3) 4 (Int32.toNatClampNeg ((sm_up (sm_up M 2 (Int32.toNatClampNeg (M 1 7)) l2) 3 (Int32.toNatClampNeg ((sm_up M 2 (Int32.toNatClampNeg (M 1 7)) l2) 1 7)) l3) 1 7)) l4) 1 7)) l5) 7 (Int32.toNatClampNeg l1))) 1 7)) 1 7) + (1 : Int32))))))))))))
noncomputable def jT_find_39 (l6 : Int32) (D : sm_D) (M : sm_M) : Option sm_S :=
  (some (l6, D, M))
noncomputable def jT_find (l1 l2 l3 l4 : Int32) (D : sm_D) (M : sm_M) : Option sm_S :=
  (sm_bi (jT_bucket l1 l2 l3 l4 D M) (fun x1 E1 M1 => sm_dq E1 D (sm_bi (jT_search x1 l1 l2 l3 l4 D M1) (fun x2 E2 M2 => sm_dq E2 D (if x2 = (-1 : Int32) then (if (M2 1 7) = (800 : Int32) then (jT_find_39 x2 D M2) else (sm_bi (jT_sizeOf l2 D M2) (fun x3 E3 M3 => sm_dq E3 D (sm_bi (jT_sizeOf l3 D M3) (fun x4 E4 M4 => sm_dq E4 D (sm_bi (jT_sizeOf l4 D M4) (fun x5 E5 M5 => sm_dq E5 D (sm_ck (M2 1 7) 800 (sm_bi (jT_append x1 l1 l2 l3 l4 D (sm_up M5 6 (Int32.toNatClampNeg (M2 1 7)) ((((1 : Int32) + x3) + x4) + x5))) (fun x6 E6 M6 => sm_dq E6 D (some (((M6 1 7) - (1 : Int32)), D, M6)))))))))))) else (jT_find_39 x2 D M2))))))
noncomputable def jT_keep_56 (l1 l2 l3 l4 : Int32) (D : sm_D) (M : sm_M) : Option sm_S :=
  (sm_bi (jT_bucket l1 l2 l3 l4 D M) (fun x1 E1 M1 => sm_dq E1 D (sm_bi (jT_search x1 l1 l2 l3 l4 D M1) (fun x2 E2 M2 => sm_dq E2 D (some (x2, D, M2))))))
noncomputable def jT_keep_30 (l1 l2 l3 l4 s0 : Int32) (D : sm_D) (M : sm_M) : Option sm_S :=
  (if s0 = (0 : Int32) then (jT_keep_56 l1 l2 l3 l4 D M) else (if (M 1 7) < (30 : Int32) then (sm_bi (jT_find l1 l2 l3 l4 D M) (fun x1 E1 M1 => sm_dq E1 D (some (x1, D, M1)))) else (jT_keep_56 l1 l2 l3 l4 D M)))
noncomputable def jT_keep (l1 l2 l3 l4 : Int32) (D : sm_D) (M : sm_M) : Option sm_S :=
  (sm_bi (jT_sizeOf l2 D M) (fun x1 E1 M1 => sm_dq E1 D (sm_bi (jT_sizeOf l3 D M1) (fun x2 E2 M2 => sm_dq E2 D (sm_bi (jT_sizeOf l4 D M2) (fun x3 E3 M3 => sm_dq E3 D (if (30 : Int32) < ((((1 : Int32) + x1) + x2) + x3) then (jT_keep_30 l1 l2 l3 l4 (0 : Int32) D M3) else (jT_keep_30 l1 l2 l3 l4 (1 : Int32) D M3))))))))
noncomputable def jT_canAsk_44 (s0 : Int32) (D : sm_D) (M : sm_M) : Option sm_S :=
  (sm_bo s0 (some (s0, D, M)))
noncomputable def jT_canAsk_39 (D : sm_D) (M : sm_M) : Option sm_S :=
  (jT_canAsk_44 (1 : Int32) D M)
noncomputable def jT_canAsk_43 (D : sm_D) (M : sm_M) : Option sm_S :=
  (jT_canAsk_44 (0 : Int32) D M)
noncomputable def jT_canAsk_26 (l3 : Int32) (D : sm_D) (M : sm_M) : Option sm_S :=
  (if l3 = (-1 : Int32) then (jT_canAsk_39 D M) else (sm_bi (jT_has l3 D M) (fun x1 E1 M1 => sm_dq E1 D (if x1 = (0 : Int32) then (jT_canAsk_43 D M1) else (jT_canAsk_39 D M1)))))
noncomputable def jT_canAsk_13 (l2 l3 : Int32) (D : sm_D) (M : sm_M) : Option sm_S :=
  (if l2 = (-1 : Int32) then (jT_canAsk_26 l3 D M) else (sm_bi (jT_has l2 D M) (fun x1 E1 M1 => sm_dq E1 D (if x1 = (0 : Int32) then (jT_canAsk_43 D M1) else (jT_canAsk_26 l3 D M1)))))
noncomputable def jT_canAsk (l1 l2 l3 : Int32) (D : sm_D) (M : sm_M) : Option sm_S :=
  (if l1 = (-1 : Int32) then (jT_canAsk_13 l2 l3 D M) else (sm_bi (jT_has l1 D M) (fun x1 E1 M1 => sm_dq E1 D (if x1 = (0 : Int32) then (jT_canAsk_43 D M1) else (jT_canAsk_13 l2 l3 D M1)))))
noncomputable def jA_type_69 (s0 : Int32) (D : sm_D) (M : sm_M) : Option sm_S :=
  (some (s0, D, M))
noncomputable def jA_type_68 (D : sm_D) (M : sm_M) : Option sm_S :=
  (jA_type_69 (-1 : Int32) D M)
noncomputable def jA_type_32 (l1 l2 l3 : Int32) (D : sm_D) (M : sm_M) : Option sm_S :=
  (sm_bi (jT_has l2 D M) (fun x1 E1 M1 => sm_dq E1 D (if x1 = (0 : Int32) then (jA_type_68 D M1) else (sm_bi (jT_has l3 D M1) (fun x2 E2 M2 => sm_dq E2 D (if x2 = (0 : Int32) then (jA_type_68 D M2) else (sm_bi (jT_keep l1 l2 l3 (-1 : Int32) D M2) (fun x3 E3 M3 => sm_dq E3 D (jA_type_69 x3 D M3)))))))))
noncomputable def jA_type_96 (s0 : Int32) (D : sm_D) (M : sm_M) : Option sm_S :=
  (some (s0, D, M))
noncomputable def jA_type_127 (s0 : Int32) (D : sm_D) (M : sm_M) : Option sm_S :=
  (some (s0, D, M))
noncomputable def jA_type (l1 l2 l3 l4 : Int32) (D : sm_D) (M : sm_M) : Option sm_S :=
  (if l1 = (1 : Int32) then (jA_type_32 l1 l2 l3 D M) else (if l1 = (2 : Int32) then (jA_type_32 l1 l2 l3 D M) else (if l1 = (3 : Int32) then (sm_bi (jT_has l2 D M) (fun x3 E3 M3 => sm_dq E3 D (if x3 = (0 : Int32) then (jA_type_96 (-1 : Int32) D M3) else (sm_bi (jT_keep l1 l2 (-1 : Int32) (-1 : Int32) D M3) (fun x4 E4 M4 => sm_dq E4 D (jA_type_96 x4 D M4)))))) else (if l1 = (4 : Int32) then (sm_bi (jT_canAsk l2 l3 l4 D M) (fun x1 E1 M1 => sm_dq E1 D (if x1 = (0 : Int32) then (jA_type_127 (-1 : Int32) D M1) else (sm_bi (jT_keep l1 l2 l3 l4 D M1) (fun x2 E2 M2 => sm_dq E2 D (jA_type_127 x2 D M2)))))) else (some ((-1 : Int32), D, M))))))
noncomputable def jA_size_23 (s0 : Int32) (D : sm_D) (M : sm_M) : Option sm_S :=
  (some (s0, D, M))
noncomputable def jA_size (l1 : Int32) (D : sm_D) (M : sm_M) : Option sm_S :=
  (sm_bi (jT_has l1 D M) (fun x1 E1 M1 => sm_dq E1 D (if x1 = (0 : Int32) then (jA_size_23 (-1 : Int32) D M1) else (sm_bi (jT_sizeOf l1 D M1) (fun x2 E2 M2 => sm_dq E2 D (jA_size_23 x2 D M2))))))
noncomputable def jT_kindOf_18 (s0 : Int32) (D : sm_D) (M : sm_M) : Option sm_S :=
  (some (s0, D, M))
noncomputable def jT_kindOf (l1 : Int32) (D : sm_D) (M : sm_M) : Option sm_S :=
  (sm_bi (jT_has l1 D M) (fun x1 E1 M1 => sm_dq E1 D (if x1 = (0 : Int32) then (jT_kindOf_18 (-1 : Int32) D M1) else (sm_ck l1 800 (jT_kindOf_18 (M1 2 (Int32.toNatClampNeg l1)) D M1)))))
noncomputable def jE_has_17 (s0 : Int32) (D : sm_D) (M : sm_M) : Option sm_S :=
  (sm_bo s0 (some (s0, D, M)))
noncomputable def jE_has_16 (D : sm_D) (M : sm_M) : Option sm_S :=
  (jE_has_17 (0 : Int32) D M)
noncomputable def jE_has (l1 : Int32) (D : sm_D) (M : sm_M) : Option sm_S :=
  (if l1 < (0 : Int32) then (jE_has_16 D M) else (if l1 < (M 9 6) then (jE_has_17 (1 : Int32) D M) else (jE_has_16 D M)))
noncomputable def jX_max_10 (s0 : Int32) (D : sm_D) (M : sm_M) : Option sm_S :=
  (some (s0, D, M))
noncomputable def jX_max (l0 l1 : Int32) (D : sm_D) (M : sm_M) : Option sm_S :=
  (if l0 < l1 then (jX_max_10 l1 D M) else (jX_max_10 l0 D M))
noncomputable def jE_heightOver_33 (l1 l2 l3 l4 l5 l6 s0 : Int32) (D : sm_D) (M : sm_M) : Option ((Int32 × Int32 × Int32 × Int32 × Int32 × Int32 × sm_M) ⊕ sm_S) :=
  (sm_bi (jE_has s0 D M) (fun x1 E1 M1 => sm_dq E1 D (if x1 = (0 : Int32) then (some (.inr ((-1 : Int32), D, M1))) else (sm_ck s0 40 (sm_bi (jX_max l5 (M1 15 (Int32.toNatClampNeg s0)) D M1) (fun x2 E2 M2 => sm_dq E2 D (sm_dq D D (some (.inl (l1, l2, l3, l4, x2, (l6 + (1 : Int32)), M2))))))))))
noncomputable def jE_heightOver_6_c (l1 l2 l3 l4 l5 l6 : Int32) (D : sm_D) (M : sm_M) : Option ((Int32 × Int32 × Int32 × Int32 × Int32 × Int32 × sm_M) ⊕ sm_S) :=
  (if l6 < l1 then (if l6 = (0 : Int32) then (jE_heightOver_33 l1 l2 l3 l4 l5 l6 l2 D M) else (if l6 = (1 : Int32) then (jE_heightOver_33 l1 l2 l3 l4 l5 l6 l3 D M) else (jE_heightOver_33 l1 l2 l3 l4 l5 l6 l4 D M))) else (some (.inr ((l5 + (1 : Int32)), D, M))))
noncomputable def jE_heightOver_6_b (D : sm_D) (s : Int32 × Int32 × Int32 × Int32 × Int32 × Int32 × sm_M) : Option ((Int32 × Int32 × Int32 × Int32 × Int32 × Int32 × sm_M) ⊕ sm_S) := jE_heightOver_6_c s.1 s.2.1 s.2.2.1 s.2.2.2.1 s.2.2.2.2.1 s.2.2.2.2.2.1 D s.2.2.2.2.2.2
noncomputable def jE_heightOver_6 (l1 l2 l3 l4 l5 l6 : Int32) (D : sm_D) (M : sm_M) : Option sm_S := sm_lp (jE_heightOver_6_b D) (l1, l2, l3, l4, l5, l6, M)
noncomputable def jE_heightOver (l1 l2 l3 l4 : Int32) (D : sm_D) (M : sm_M) : Option sm_S :=
  (jE_heightOver_6 l1 l2 l3 l4 (0 : Int32) (0 : Int32) D M)
noncomputable def jE_keep_19 (D : sm_D) (M : sm_M) : Option sm_S :=
  (some ((-1 : Int32), D, M))
noncomputable def jE_keep_36 (D : sm_D) (M : sm_M) : Option sm_S :=
  (some ((-1 : Int32), D, M))
noncomputable def jE_keep_67 (D : sm_D) (M : sm_M) : Option sm_S :=
  (some ((-1 : Int32), D, M))
noncomputable def jE_keep_38 (l1 l2 l3 l4 l5 : Int32) (D : sm_D) (M : sm_M) : Option sm_S :=
  (sm_ck l1 11 (sm_bi (jE_heightOver (sm_tab tPARTS (Int32.toNatClampNeg l1)) l3 l4 l5 D M) (fun x1 E1 M1 => sm_dq E1 D (if x1 = (-1 : Int32) then (jE_keep_67 D M1) else (if (8 : Int32) < x1 then (jE_keep_67 D M1) else (sm_ck (M1 9 6) 40 (sm_ck ((sm_up M1 10 (Int32.toNatClampNeg (M1 9 6)) l1) 9 6) 40 (sm_ck ((sm_up (sm_up M1 10 (Int32.toNatClampNeg (M1 9 6)) l1) 11 (Int32.toNatClampNeg ((sm_up M1 10 (Int32.toNatClampNeg (M1 9 6)) l1) 9 6)) l2) 9 6) 40 (sm_ck ((sm_up (sm_up (sm_up M1 10 (Int32.toNatClampNeg (M1 9 6)) l1) 11 (Int32.toNatClampNeg ((sm_up M1 10 (Int32.toNatClampNeg (M1 9 6)) l1) 9 6)) l2) 12 (Int32.toNatClampNeg ((sm_up (sm_up M1 10 (Int32.toNatClampNeg (M1 9 6)) l1) 11 (Int32.toNatClampNeg ((sm_up M1 10 (Int32.toNatClampNeg (M1 9 6)) l1) 9 6)) l2) 9 6)) l3) 9 6) 40 (sm_ck ((sm_up (sm_up (sm_up (sm_up M1 10 (Int32.toNatClampNeg (M1 9 6)) l1) 11 (Int32.toNatClampNeg ((sm_up M1 10 (Int32.toNatClampNeg (M1 9 6)) l1) 9 6)) l2) 12 (Int32.toNatClampNeg ((sm_up (sm_up M1 10 (Int32.toNatClampNeg (M1 9 6)) l1) 11 (Int32.toNatClampNeg ((sm_up M1 10 (Int32.toNatClampNeg (M1 9 6)) l1) 9 6)) l2) 9 6)) l3) 13 (Int32.toNatClampNeg ((sm_up (sm_up (sm_up M1 10 (Int32.toNatClampNeg (M1 9 6)) l1) 11 (Int32.toNatClampNeg ((sm_up M1 10 (Int32.toNatClampNeg (M1 9 6)) l1) 9 6)) l2) 12 (Int32.toNatClampNeg ((sm_up (sm_up M1 10 (Int32.toNatClampNeg (M1 9 6)) l1) 11 (Int32.toNatClampNeg ((sm_up M1 10 (Int32.toNatClampNeg (M1 9 6)) l1) 9 6)) l2) 9 6)) l3) 9 6)) l4) 9 6) 40 (sm_ck ((sm_up (sm_up (sm_up (sm_up (sm_up M1 10 (Int32.toNatClampNeg (M1 9 6)) l1) 11 (Int32.toNatClampNeg ((sm_up M1 10 (Int32.toNatClampNeg (M1 9 6)) l1) 9 6)) l2) 12 (Int32.toNatClampNeg ((sm_up (sm_up M1 10 (Int32.toNatClampNeg (M1 9 6)) l1) 11 (Int32.toNatClampNeg ((sm_up M1 10 (Int32.toNatClampNeg (M1 9 6)) l1) 9 6)) l2) 9 6)) l3) 13 (Int32.toNatClampNeg ((sm_up (sm_up (sm_up M1 10 (Int32.toNatClampNeg (M1 9 6)) l1) 11 (Int32.toNatClampNeg ((sm_up M1 10 (Int32.toNatClampNeg (M1 9 6)) l1) 9 6)) l2) 12 (Int32.toNatClampNeg ((sm_up (sm_up M1 10 (Int32.toNatClampNeg (M1 9 6)) l1) 11 (Int32.toNatClampNeg ((sm_up M1 10 (Int32.toNatClampNeg (M1 9 6)) l1) 9 6)) l2) 9 6)) l3) 9 6)) l4) 14 (Int32.toNatClampNeg ((sm_up (sm_up (sm_up (sm_up M1 10 (Int32.toNatClampNeg (M1 9 6)) l1) 11 (Int32.toNatClampNeg ((sm_up M1 10 (Int32.toNatClampNeg (M1 9 6)) l1) 9 6)) l2) 12 (Int32.toNatClampNeg ((sm_up (sm_up M1 10 (Int32.toNatClampNeg (M1 9 6)) l1) 11 (Int32.toNatClampNeg ((sm_up M1 10 (Int32.toNatClampNeg (M1 9 6)) l1) 9 6)) l2) 9 6)) l3) 13 (Int32.toNatClampNeg ((sm_up (sm_up (sm_up M1 10 (Int32.toNatClampNeg (M1 9 6)) l1) 11 (Int32.toNatClampNeg ((sm_up M1 10 (Int32.toNatClampNeg (M1 9 6)) l1) 9 6)) l2) 12 (Int32.toNatClampNeg ((sm_up (sm_up M1 10 (Int32.toNatClampNeg (M1 9 6)) l1) 11 (Int32.toNatClampNeg ((sm_up M1 10 (Int32.toNatClampNeg (M1 9 6)) l1) 9 6)) l2) 9 6)) l3) 9 6)) l4) 9 6)) l5) 9 6) 40 (some ((((sm_up (sm_up (sm_up (sm_up (sm_up (sm_up (sm_up M1 10 (Int32.toNatClampNeg (M1 9 6)) l1) 11 (Int32.toNatClampNeg ((sm_up M1 10 (Int32.toNatClampNeg (M1 9 6)) l1) 9 6)) l2) 12 (Int32.toNatClampNeg ((sm_up (sm_up M1 10 (Int32.toNatClampNeg (M1 9 6)) l1) 11 (Int32.toNatClampNeg ((sm_up M1 10 (Int32.toNatClampNeg (M1 9 6)) l1) 9 6)) l2) 9 6)) l3) 13 (Int32.toNatClampNeg ((sm_up (sm_up (sm_up M1 10 (Int32.toNatClampNeg (M1 9 6)) l1) 11 (Int32.toNatClampNeg ((sm_up M1 10 (Int32.toNatClampNeg (M1 9 6)) l1) 9 6)) l2) 12 (Int32.toNatClampNeg ((sm_up (sm_up M1 10 (Int32.toNatClampNeg (M1 9 6)) l1) 11 (Int32.toNatClampNeg ((sm_up M1 10 (Int32.toNatClampNeg (M1 9 6)) l1) 9 6)) l2) 9 6)) l3) 9 6)) l4) 14 (Int32.toNatClampNeg ((sm_up (sm_up (sm_up (sm_up M1 10 (Int32.toNatClampNeg (M1 9 6)) l1) 11 (Int32.toNatClampNeg ((sm_up M1 10 (Int32.toNatClampNeg (M1 9 6)) l1) 9 6)) l2) 12 (Int32.toNatClampNeg ((sm_up (sm_up M1 10 (Int32.toNatClampNeg (M1 9 6)) l1) 11 (Int32.toNatClampNeg ((sm_up M1 10 (Int32.toNatClampNeg (M1 9 6)) l1) 9 6)) l2) 9 6)) l3) 13 (Int32.toNatClampNeg ((sm_up (sm_up (sm_up M1 10 (Int32.toNatClampNeg (M1 9 6)) l1) 11 (Int32.toNatClampNeg ((sm_up M1 10 (Int32.toNatClampNeg (M1 9 6)) l1) 9 6)) l2) 12 (Int32.toNatClampNeg ((sm_up (sm_up M1 10 (Int32.toNatClampNeg (M1 9 6)) l1) 11 (Int32.toNatClampNeg ((sm_up M1 10 (Int32.toNatClampNeg (M1 9 6)) l1) 9 6)) l2) 9 6)) l3) 9 6)) l4) 9 6)) l5) 15 (Int32.toNatClampNeg ((sm_up (sm_up (sm_up (sm_up (sm_up M1 10 (Int32.toNatClampNeg (M1 9 6)) l1) 11 (Int32.toNatClampNeg ((sm_up M1 10 (Int32.toNatClampNeg (M1 9 6)) l1) 9 6)) l2) 12 (Int32.toNatClampNeg ((sm_up (sm_up M1 10 (Int32.toNatClampNeg (M1 9 6)) l1) 11 (Int32.toNatClampNeg ((sm_up M1 10 (Int32.toNatClampNeg (M1 9 6)) l1) 9 6)) l2) 9 6)) l3) 13 (Int32.toNatClampNeg ((sm_up (sm_up (sm_up M1 10 (Int32.toNatClampNeg (M1 9 6)) l1) 11 (Int32.toNatClampNeg ((sm_up M1 10 (Int32.toNatClampNeg (M1 9 6)) l1) 9 6)) l2) 12 (Int32.toNatClampNeg ((sm_up (sm_up M1 10 (Int32.toNatClampNeg (M1 9 6)) l1) 11 (Int32.toNatClampNeg ((sm_up M1 10 (Int32.toNatClampNeg (M1 9 6)) l1) 9 6)) l2) 9 6)) l3) 9 6)) l4) 14 (Int32.toNatClampNeg ((sm_up (sm_up (sm_up (sm_up M1 10 (Int32.toNatClampNeg (M1 9 6)) l1) 11 (Int32.toNatClampNeg ((sm_up M1 10 (Int32.toNatClampNeg (M1 9 6)) l1) 9 6)) l2) 12 (Int32.toNatClampNeg ((sm_up (sm_up M1 10 (Int32.toNatClampNeg (M1 9 6)) l1) 11 (Int32.toNatClampNeg ((sm_up M1 10 (Int32.toNatClampNeg (M1 9 6)) l1) 9 6)) l2) 9 6)) l3) 13 (Int32.toNatClampNeg ((sm_up (sm_up (sm_up M1 10 (Int32.toNatClampNeg (M1 9 6)) l1) 11 (Int32.toNatClampNeg ((sm_up M1 10 (Int32.toNatClampNeg (M1 9 6)) l1) 9 6)) l2) 12 (Int32.toNatClampNeg ((sm_up (sm_up M1 10 (Int32.toNatClampNeg (M1 9 6)) l1) 11 (Int32.toNatClampNeg ((sm_up M1 10 (Int32.toNatClampNeg (M1 9 6)) l1) 9 6)) l2) 9 6)) l3) 9 6)) l4) 9 6)) l5) 9 6)) x1) 9 6 (((sm_up (sm_up (sm_up (sm_up (sm_up (sm_up M1 10 (Int32.toNatClampNeg (M1 9 6)) l1) 11 (Int32.toNatClampNeg ((sm_up M1 10 (Int32.toNatClampNeg (M1 9 6)) l1) 9 6)) l2) 12 (Int32.toNatClampNeg ((sm_up (sm_up M1 10 (Int32.toNatClampNeg (M1 9 6)) l1) 11 (Int32.toNatClampNeg ((sm_up M1 10 (Int32.toNatClampNeg (M1 9 6)) l1) 9 6)) l2) 9 6)) l3) 13 (Int32.toNatClampNeg ((sm_up (sm_up (sm_up M1 10 (Int32.toNatClampNeg (M1 9 6)) l1) 11 (Int32.toNatClampNeg ((sm_up M1 10 (Int32.toNatClampNeg (M1 9 6)) l1) 9 6)) l2) 12 (Int32.toNatClampNeg ((sm_up (sm_up M1 10 (Int32.toNatClampNeg (M1 9 6)) l1) 11 (Int32.toNatClampNeg ((sm_up M1 10 (Int32.toNatClampNeg (M1 9 6)) l1) 9 6)) l2) 9 6)) l3) 9 6)) l4) 14 (Int32.toNatClampNeg ((sm_up (sm_up (sm_up (sm_up M1 10 (Int32.toNatClampNeg (M1 9 6)) l1) 11 (Int32.toNatClampNeg ((sm_up M1 10 (Int32.toNatClampNeg (M1 9 6)) l1) 9 6)) l2) 12 (Int32.toNatClampNeg ((sm_up (sm_up M1 10 (Int32.toNatClampNeg (M1 9 6)) l1) 11 (Int32.toNatClampNeg ((sm_up M1 10 (Int32.toNatClampNeg (M1 9 6)) l1) 9 6)) l2) 9 6)) l3) 13 (Int32.toNatClampNeg ((sm_up (sm_up (sm_up M1 10 (Int32.toNatClampNeg (M1 9 6)) l1) 11 (Int32.toNatClampNeg ((sm_up M1 10 (Int32.toNatClampNeg (M1 9 6)) l1) 9 6)) l2) 12 (Int32.toNatClampNeg ((sm_up (sm_up M1 10 (Int32.toNatClampNeg (M1 9 6)) l1) 11 (Int32.toNatClampNeg ((sm_up M1 10 (Int32.toNatClampNeg (M1 9 6)) l1) 9 6)) l2) 9 6)) l3) 9 6)) l4) 9 6)) l5) 15 (Int32.toNatClampNeg ((sm_up (sm_up (sm_up (sm_up (sm_up M1 10 (Int32.toNatClampNeg (M1 9 6)) l1) 11 (Int32.toNatClampNeg ((sm_up M1 10 (Int32.toNatClampNeg (M1 9 6)) l1) 9 6)) l2) 12 (Int32.toNatClampNeg ((sm_up (sm_up M1 10 (Int32.toNatClampNeg (M1 9 6)) l1) 11 (Int32.toNatClampNeg ((sm_up M1 10 (Int32.toNatClampNeg (M1 9 6)) l1) 9 6)) l2) 9 6)) l3) 13 (Int32.toNatClampNeg ((sm_up (sm_up (sm_up M1 10 (Int32.toNatClampNeg (M1 9 6)) l1) 11 (Int32.toNatClampNeg ((sm_up M1 10 (Int32.toNatClampNeg (M1 9 6)) l1) 9 6)) l2) 12 (Int32.toNatClampNeg ((sm_up (sm_up M1 10 (Int32.toNatClampNeg (M1 9 6)) l1) 11 (Int32.toNatClampNeg ((sm_up M1 10 (Int32.toNatClampNeg (M1 9 6)) l1) 9 6)) l2) 9 6)) l3) 9 6)) l4) 14 (Int32.toNatClampNeg ((sm_up (sm_up (sm_up (sm_up M1 10 (Int32.toNatClampNeg (M1 9 6)) l1) 11 (Int32.toNatClampNeg ((sm_up M1 10 (Int32.toNatClampNeg (M1 9 6)) l1) 9 6)) l2) 12 (Int32.toNatClampNeg ((sm_up (sm_up M1 10 (Int32.toNatClampNeg (M1 9 6)) l1) 11 (Int32.toNatClampNeg ((sm_up M1 10 (Int32.toNatClampNeg (M1 9 6)) l1) 9 6)) l2) 9 6)) l3) 13 (Int32.toNatClampNeg ((sm_up (sm_up (sm_up M1 10 (Int32.toNatClampNeg (M1 9 6)) l1) 11 (Int32.toNatClampNeg ((sm_up M1 10 (Int32.toNatClampNeg (M1 9 6)) l1) 9 6)) l2) 12 (Int32.toNatClampNeg ((sm_up (sm_up M1 10 (Int32.toNatClampNeg (M1 9 6)) l1) 11 (Int32.toNatClampNeg ((sm_up M1 10 (Int32.toNatClampNeg (M1 9 6)) l1) 9 6)) l2) 9 6)) l3) 9 6)) l4) 9 6)) l5) 9 6)) x1) 9 6) + (1 : Int32))) 9 6) - (1 : Int32)), D, (sm_up (sm_up (sm_up (sm_up (sm_up (sm_up (sm_up M1 10 (Int32.toNatClampNeg (M1 9 6)) l1) 11 (Int32.toNatClampNeg ((sm_up M1 10 (Int32.toNatClampNeg (M1 9 6)) l1) 9 6)) l2) 12 (Int32.toNatClampNeg ((sm_up (sm_up M1 10 (Int32.toNatClampNeg (M1 9 6)) l1) 11 (Int32.toNatClampNeg ((sm_up M1 10 (Int32.toNatClampNeg (M1 9 6)) l1) 9 6)) l2) 9 6)) l3) 13 (Int32.toNatClampNeg ((sm_up (sm_up (sm_up M1 10 (Int32.toNatClampNeg (M1 9 6)) l1) 11 (Int32.toNatClampNeg ((sm_up M1 10 (Int32.toNatClampNeg (M1 9 6)) l1) 9 6)) l2) 12 (Int32.toNatClampNeg ((sm_up (sm_up M1 10 (Int32.toNatClampNeg (M1 9 6)) l1) 11 (Int32.toNatClampNeg ((sm_up M1 10 (Int32.toNatClampNeg (M1 9 6)) l1) 9 6)) l2) 9 6)) l3) 9 6)) l4) 14 (Int32.toNatClampNeg ((sm_up (sm_up (sm_up (sm_up M1 10 (Int32.toNatClampNeg (M1 9 6)) l1) 11 (Int32.toNatClampNeg ((sm_up M1 10 (Int32.toNatClampNeg (M1 9 6)) l1) 9 6)) l2) 12 (Int32.toNatClampNeg ((sm_up (sm_up M1 10 (Int32.toNatClampNeg (M1 9 6)) l1) 11 (Int32.toNatClampNeg ((sm_up M1 10 (Int32.toNatClampNeg (M1 9 6)) l1) 9 6)) l2) 9 6)) l3) 13 (Int32.toNatClampNeg ((sm_up (sm_up (sm_up M1 10 (Int32.toNatClampNeg (M1 9 6)) l1) 11 (Int32.toNatClampNeg ((sm_up M1 10 (Int32.toNatClampNeg (M1 9 6)) l1) 9 6)) l2) 12 (Int32.toNatClampNeg ((sm_up (sm_up M1 10 (Int32.toNatClampNeg (M1 9 6)) l1) 11 (Int32.toNatClampNeg ((sm_up M1 10 (Int32.toNatClampNeg (M1 9 6)) l1) 9 6)) l2) 9 6)) l3) 9 6)) l4) 9 6)) l5) 15 (Int32.toNatClampNeg ((sm_up (sm_up (sm_up (sm_up (sm_up M1 10 (Int32.toNatClampNeg (M1 9 6)) l1) 11 (Int32.toNatClampNeg ((sm_up M1 10 (Int32.toNatClampNeg (M1 9 6)) l1) 9 6)) l2) 12 (Int32.toNatClampNeg ((sm_up (sm_up M1 10 (Int32.toNatClampNeg (M1 9 6)) l1) 11 (Int32.toNatClampNeg ((sm_up M1 10 (Int32.toNatClampNeg (M1 9 6)) l1) 9 6)) l2) 9 6)) l3) 13 (Int32.toNatClampNeg ((sm_up (sm_up (sm_up M1 10 (Int32.toNatClampNeg (M1 9 6)) l1) 11 (Int32.toNatClampNeg ((sm_up M1 10 (Int32.toNatClampNeg (M1 9 6)) l1) 9 6)) l2) 12 (Int32.toNatClampNeg ((sm_up (sm_up M1 10 (Int32.toNatClampNeg (M1 9 6)) l1) 11 (Int32.toNatClampNeg ((sm_up M1 10 (Int32.toNatClampNeg (M1 9 6)) l1) 9 6)) l2) 9 6)) l3) 9 6)) l4) 14 (Int32.toNatClampNeg ((sm_up (sm_up (sm_up (sm_up M1 10 (Int32.toNatClampNeg (M1 9 6)) l1) 11 (Int32.toNatClampNeg ((sm_up M1 10 (Int32.toNatClampNeg (M1 9 6)) l1) 9 6)) l2) 12 (Int32.toNatClampNeg ((sm_up (sm_up M1 10 (Int32.toNatClampNeg (M1 9 6)) l1) 11 (Int32.toNatClampNeg ((sm_up M1 10 (Int32.toNatClampNeg (M1 9 6)) l1) 9 6)) l2) 9 6)) l3) 13 (Int32.toNatClampNeg ((sm_up (sm_up (sm_up M1 10 (Int32.toNatClampNeg (M1 9 6)) l1) 11 (Int32.toNatClampNeg ((sm_up M1 10 (Int32.toNatClampNeg (M1 9 6)) l1) 9 6)) l2) 12 (Int32.toNatClampNeg ((sm_up (sm_up M1 10 (Int32.toNatClampNeg (M1 9 6)) l1) 11 (Int32.toNatClampNeg ((sm_up M1 10 (Int32.toNatClampNeg (M1 9 6)) l1) 9 6)) l2) 9 6)) l3) 9 6)) l4) 9 6)) l5) 9 6)) x1) 9 6 (((sm_up (sm_up (sm_up (sm_up (sm_up (sm_up M1 10 (Int32.toNatClampNeg (M1 9 6)) l1) 11 (Int32.toNatClampNeg ((sm_up M1 10 (Int32.toNatClampNeg (M1 9 6)) l1) 9 6)) l2) 12 (Int32.toNatClampNeg ((sm_up (sm_up M1 10 (Int32.toNatClampNeg (M1 9 6)) l1) 11 (Int32.toNatClampNeg ((sm_up M1 10 (Int32.toNatClampNeg (M1 9 6)) l1) 9 6)) l2) 9 6)) l3) 13 (Int32.toNatClampNeg ((sm_up (sm_up (sm_up M1 10 (Int32.toNatClampNeg (M1 9 6)) l1) 11 (Int32.toNatClampNeg ((sm_up M1 10 (Int32.toNatClampNeg (M1 9 6)) l1) 9 6)) l2) 12 (Int32.toNatClampNeg ((sm_up (sm_up M1 10 (Int32.toNatClampNeg (M1 9 6)) l1) 11 (Int32.toNatClampNeg ((sm_up M1 10 (Int32.toNatClampNeg (M1 9 6)) l1) 9 6)) l2) 9 6)) l3) 9 6)) l4) 14 (Int32.toNatClampNeg ((sm_up (sm_up (sm_up (sm_up M1 10 (Int32.toNatClampNeg (M1 9 6)) l1) 11 (Int32.toNatClampNeg ((sm_up M1 10 (Int32.toNatClampNeg (M1 9 6)) l1) 9 6)) l2) 12 (Int32.toNatClampNeg ((sm_up (sm_up M1 10 (Int32.toNatClampNeg (M1 9 6)) l1) 11 (Int32.toNatClampNeg ((sm_up M1 10 (Int32.toNatClampNeg (M1 9 6)) l1) 9 6)) l2) 9 6)) l3) 13 (Int32.toNatClampNeg ((sm_up (sm_up (sm_up M1 10 (Int32.toNatClampNeg (M1 9 6)) l1) 11 (Int32.toNatClampNeg ((sm_up M1 10 (Int32.toNatClampNeg (M1 9 6)) l1) 9 6)) l2) 12 (Int32.toNatClampNeg ((sm_up (sm_up M1 10 (Int32.toNatClampNeg (M1 9 6)) l1) 11 (Int32.toNatClampNeg ((sm_up M1 10 (Int32.toNatClampNeg (M1 9 6)) l1) 9 6)) l2) 9 6)) l3) 9 6)) l4) 9 6)) l5) 15 (Int32.toNatClampNeg ((sm_up (sm_up (sm_up (sm_up (sm_up M1 10 (Int32.toNatClampNeg (M1 9 6)) l1) 11 (Int32.toNatClampNeg ((sm_up M1 10 (Int32.toNatClampNeg (M1 9 6)) l1) 9 6)) l2) 12 (Int32.toNatClampNeg ((sm_up (sm_up M1 10 (Int32.toNatClampNeg (M1 9 6)) l1) 11 (Int32.toNatClampNeg ((sm_up M1 10 (Int32.toNatClampNeg (M1 9 6)) l1) 9 6)) l2) 9 6)) l3) 13 (Int32.toNatClampNeg ((sm_up (sm_up (sm_up M1 10 (Int32.toNatClampNeg (M1 9 6)) l1) 11 (Int32.toNatClampNeg ((sm_up M1 10 (Int32.toNatClampNeg (M1 9 6)) l1) 9 6)) l2) 12 (Int32.toNatClampNeg ((sm_up (sm_up M1 10 (Int32.toNatClampNeg (M1 9 6)) l1) 11 (Int32.toNatClampNeg ((sm_up M1 10 (Int32.toNatClampNeg (M1 9 6)) l1) 9 6)) l2) 9 6)) l3) 9 6)) l4) 14 (Int32.toNatClampNeg ((sm_up (sm_up (sm_up (sm_up M1 10 (Int32.toNatClampNeg (M1 9 6)) l1) 11 (Int32.toNatClampNeg ((sm_up M1 10 (Int32.toNatClampNeg (M1 9 6)) l1) 9 6)) l2) 12 (Int32.toNatClampNeg ((sm_up (sm_up M1 10 (Int32.toNatClampNeg (M1 9 6)) l1) 11 (Int32.toNatClampNeg ((sm_up M1 10 (Int32.toNatClampNeg (M1 9 6)) l1) 9 6)) l2) 9 6)) l3) 13 (Int32.toNatClampNeg ((sm_up (sm_up (sm_up M1 10 (Int32.toNatClampNeg (M1 9 6)) l1) 11 (Int32.toNatClampNeg ((sm_up M1 10 (Int32.toNatClampNeg (M1 9 6)) l1) 9 6)) l2) 12 (Int32.toNatClampNeg ((sm_up (sm_up M1 10 (Int32.toNatClampNeg (M1 9 6)) l1) 11 (Int32.toNatClampNeg ((sm_up M1 10 (Int32.toNatClampNeg (M1 9 6)) l1) 9 6)) l2) 9 6)) l3) 9 6)) l4) 9 6)) l5) 9 6)) x1) 9 6) + (1 : Int32))))))))))))))))
noncomputable def jE_keep (l1 l2 l3 l4 l5 : Int32) (D : sm_D) (M : sm_M) : Option sm_S :=
  (if (M 9 6) = (40 : Int32) then (jE_keep_19 D M) else (if l1 < (0 : Int32) then (jE_keep_19 D M) else (if (10 : Int32) < l1 then (jE_keep_19 D M) else (if l1 = (1 : Int32) then (if l2 < (0 : Int32) then (jE_keep_36 D M) else (if (20 : Int32) < l2 then (jE_keep_36 D M) else (jE_keep_38 l1 l2 l3 l4 l5 D M))) else (jE_keep_38 l1 l2 l3 l4 l5 D M)))))
noncomputable def jA_make_20 (l1 l2 l3 l4 l5 : Int32) (D : sm_D) (M : sm_M) : Option sm_S :=
  (sm_bi (jE_keep l1 l2 l3 l4 l5 D M) (fun x1 E1 M1 => sm_dq E1 D (some (x1, D, M1))))
noncomputable def jA_make (l1 l2 l3 l4 l5 : Int32) (D : sm_D) (M : sm_M) : Option sm_S :=
  (if l1 = (6 : Int32) then (sm_bi (jT_kindOf l2 D M) (fun x1 E1 M1 => sm_dq E1 D (if x1 = (2 : Int32) then (jA_make_20 l1 l2 l3 l4 l5 D M1) else (some ((-1 : Int32), D, M1))))) else (jA_make_20 l1 l2 l3 l4 l5 D M))
noncomputable def jY_ofChoice_59 (rec : Int32 → sm_D → sm_M → Option sm_S) (s0 : Int32) (D : sm_D) (M : sm_M) : Option sm_S :=
  (some (s0, D, M))
noncomputable def jY_ofChoice_58 (rec : Int32 → sm_D → sm_M → Option sm_S) (D : sm_D) (M : sm_M) : Option sm_S :=
  (jY_ofChoice_59 rec (-1 : Int32) D M)
noncomputable def jY_ofChoice (rec : Int32 → sm_D → sm_M → Option sm_S) (l1 : Int32) (D : sm_D) (M : sm_M) : Option sm_S :=
  (sm_ck l1 40 (sm_bi (rec (M 12 (Int32.toNatClampNeg l1)) D M) (fun x1 E1 M1 => sm_dq E1 D (if x1 = (0 : Int32) then (sm_ck l1 40 (sm_bi (rec (M1 13 (Int32.toNatClampNeg l1)) D M1) (fun x2 E2 M2 => sm_dq E2 D (if x2 = (-1 : Int32) then (jY_ofChoice_58 rec D M2) else (sm_ck l1 40 (sm_bi (rec (M2 14 (Int32.toNatClampNeg l1)) D M2) (fun x3 E3 M3 => sm_dq E3 D (if x3 = x2 then (jY_ofChoice_59 rec x2 D M3) else (jY_ofChoice_58 rec D M3))))))))) else (some ((-1 : Int32), D, M1))))))
noncomputable def jT_firstOf_18 (s0 : Int32) (D : sm_D) (M : sm_M) : Option sm_S :=
  (some (s0, D, M))
noncomputable def jT_firstOf (l1 : Int32) (D : sm_D) (M : sm_M) : Option sm_S :=
  (sm_bi (jT_has l1 D M) (fun x1 E1 M1 => sm_dq E1 D (if x1 = (0 : Int32) then (jT_firstOf_18 (-1 : Int32) D M1) else (sm_ck l1 800 (jT_firstOf_18 (M1 3 (Int32.toNatClampNeg l1)) D M1)))))
noncomputable def jT_secondOf_18 (s0 : Int32) (D : sm_D) (M : sm_M) : Option sm_S :=
  (some (s0, D, M))
noncomputable def jT_secondOf (l1 : Int32) (D : sm_D) (M : sm_M) : Option sm_S :=
  (sm_bi (jT_has l1 D M) (fun x1 E1 M1 => sm_dq E1 D (if x1 = (0 : Int32) then (jT_secondOf_18 (-1 : Int32) D M1) else (sm_ck l1 800 (jT_secondOf_18 (M1 4 (Int32.toNatClampNeg l1)) D M1)))))
noncomputable def jY_ofLambda_106 (rec : Int32 → sm_D → sm_M → Option sm_S) (s0 : Int32) (D : sm_D) (M : sm_M) : Option sm_S :=
  (some (s0, D, M))
noncomputable def jY_ofLambda (rec : Int32 → sm_D → sm_M → Option sm_S) (l1 : Int32) (D : sm_D) (M : sm_M) : Option sm_S :=
  (if (nI 16) < ((M 16 3) + (2 : Int32)) then (some ((-1 : Int32), D, M)) else (sm_ck l1 40 (sm_ck (M 16 3) 16 (sm_bi (jT_firstOf (M 11 (Int32.toNatClampNeg l1)) D (sm_up M 17 (Int32.toNatClampNeg (M 16 3)) (M 11 (Int32.toNatClampNeg l1)))) (fun x1 E1 M1 => sm_dq E1 D (sm_ck (((sm_up M 17 (Int32.toNatClampNeg (M 16 3)) (M 11 (Int32.toNatClampNeg l1))) 16 3) + (1 : Int32)) 16 (sm_ck l1 40 (sm_bi (rec ((sm_up (sm_up M1 17 (Int32.toNatClampNeg (((sm_up M 17 (Int32.toNatClampNeg (M 16 3)) (M 11 (Int32.toNatClampNeg l1))) 16 3) + (1 : Int32))) x1) 16 3 (((sm_up M1 17 (Int32.toNatClampNeg (((sm_up M 17 (Int32.toNatClampNeg (M 16 3)) (M 11 (Int32.toNatClampNeg l1))) 16 3) + (1 : Int32))) x1) 16 3) + (2 : Int32))) 12 (Int32.toNatClampNeg l1)) D (sm_up (sm_up M1 17 (Int32.toNatClampNeg (((sm_up M 17 (Int32.toNatClampNeg (M 16 3)) (M 11 (Int32.toNatClampNeg l1))) 16 3) + (1 : Int32))) x1) 16 3 (((sm_up M1 17 (Int32.toNatClampNeg (((sm_up M 17 (Int32.toNatClampNeg (M 16 3)) (M 11 (Int32.toNatClampNeg l1))) 16 3) + (1 : Int32))) x1) 16 3) + (2 : Int32)))) (fun x2 E2 M2 => sm_dq E2 D (sm_bi (jT_secondOf (M 11 (Int32.toNatClampNeg l1)) D (sm_up M2 16 3 ((M2 16 3) - (2 : Int32)))) (fun x3 E3 M3 => sm_dq E3 D (if x2 = x3 then (jY_ofLambda_106 rec (M 11 (Int32.toNatClampNeg l1)) D M3) else (jY_ofLambda_106 rec (-1 : Int32) D M3)))))))))))))
noncomputable def jY_ofCall_64 (rec : Int32 → sm_D → sm_M → Option sm_S) (s0 : Int32) (D : sm_D) (M : sm_M) : Option sm_S :=
  (some (s0, D, M))
noncomputable def jY_ofCall (rec : Int32 → sm_D → sm_M → Option sm_S) (l1 : Int32) (D : sm_D) (M : sm_M) : Option sm_S :=
  (sm_ck l1 40 (sm_bi (rec (M 12 (Int32.toNatClampNeg l1)) D M) (fun x1 E1 M1 => sm_dq E1 D (sm_bi (jT_kindOf x1 D M1) (fun x2 E2 M2 => sm_dq E2 D (if x2 = (2 : Int32) then (sm_ck l1 40 (sm_bi (rec (M2 13 (Int32.toNatClampNeg l1)) D M2) (fun x3 E3 M3 => sm_dq E3 D (sm_bi (jT_firstOf x1 D M3) (fun x4 E4 M4 => sm_dq E4 D (if x3 = x4 then (sm_bi (jT_secondOf x1 D M4) (fun x5 E5 M5 => sm_dq E5 D (jY_ofCall_64 rec x5 D M5))) else (jY_ofCall_64 rec (-1 : Int32) D M4))))))) else (some ((-1 : Int32), D, M2))))))))
noncomputable def jY_ofPair_55 (rec : Int32 → sm_D → sm_M → Option sm_S) (s0 : Int32) (D : sm_D) (M : sm_M) : Option sm_S :=
  (some (s0, D, M))
noncomputable def jY_ofPair (rec : Int32 → sm_D → sm_M → Option sm_S) (l1 : Int32) (D : sm_D) (M : sm_M) : Option sm_S :=
  (sm_ck l1 40 (sm_bi (rec (M 12 (Int32.toNatClampNeg l1)) D M) (fun x1 E1 M1 => sm_dq E1 D (if x1 = (-1 : Int32) then (some ((-1 : Int32), D, M1)) else (sm_ck l1 40 (sm_bi (rec (M1 13 (Int32.toNatClampNeg l1)) D M1) (fun x2 E2 M2 => sm_dq E2 D (if x2 = (-1 : Int32) then (jY_ofPair_55 rec (-1 : Int32) D M2) else (sm_bi (jT_find (1 : Int32) x1 x2 (-1 : Int32) D M2) (fun x3 E3 M3 => sm_dq E3 D (jY_ofPair_55 rec x3 D M3)))))))))))
noncomputable def jY_ofPart_61 (rec : Int32 → sm_D → sm_M → Option sm_S) (s0 : Int32) (D : sm_D) (M : sm_M) : Option sm_S :=
  (some (s0, D, M))
noncomputable def jY_ofPart (rec : Int32 → sm_D → sm_M → Option sm_S) (l1 : Int32) (D : sm_D) (M : sm_M) : Option sm_S :=
  (sm_ck l1 40 (sm_bi (rec (M 12 (Int32.toNatClampNeg l1)) D M) (fun x1 E1 M1 => sm_dq E1 D (sm_bi (jT_kindOf x1 D M1) (fun x2 E2 M2 => sm_dq E2 D (if x2 = (1 : Int32) then (sm_ck l1 40 (if (M2 10 (Int32.toNatClampNeg l1)) = (9 : Int32) then (sm_bi (jT_firstOf x1 D M2) (fun x4 E4 M4 => sm_dq E4 D (jY_ofPart_61 rec x4 D M4))) else (sm_bi (jT_secondOf x1 D M2) (fun x3 E3 M3 => sm_dq E3 D (jY_ofPart_61 rec x3 D M3))))) else (some ((-1 : Int32), D, M2))))))))
noncomputable def jY_ofReckoning_47 (rec : Int32 → sm_D → sm_M → Option sm_S) (s0 : Int32) (D : sm_D) (M : sm_M) : Option sm_S :=
  (some (s0, D, M))
noncomputable def jY_ofReckoning_37 (rec : Int32 → sm_D → sm_M → Option sm_S) (s0 : Int32) (D : sm_D) (M : sm_M) : Option sm_S :=
  (if s0 = (0 : Int32) then (jY_ofReckoning_47 rec (-1 : Int32) D M) else (jY_ofReckoning_47 rec (0 : Int32) D M))
noncomputable def jY_ofReckoning_36 (rec : Int32 → sm_D → sm_M → Option sm_S) (D : sm_D) (M : sm_M) : Option sm_S :=
  (jY_ofReckoning_37 rec (0 : Int32) D M)
noncomputable def jY_ofReckoning (rec : Int32 → sm_D → sm_M → Option sm_S) (l1 : Int32) (D : sm_D) (M : sm_M) : Option sm_S :=
  (sm_ck l1 40 (sm_bi (rec (M 12 (Int32.toNatClampNeg l1)) D M) (fun x1 E1 M1 => sm_dq E1 D (if x1 = (0 : Int32) then (sm_ck l1 40 (sm_bi (rec (M1 13 (Int32.toNatClampNeg l1)) D M1) (fun x2 E2 M2 => sm_dq E2 D (if x2 = (0 : Int32) then (jY_ofReckoning_37 rec (1 : Int32) D M2) else (jY_ofReckoning_36 rec D M2))))) else (jY_ofReckoning_36 rec D M1)))))
noncomputable def jY_find_111 (rec : Int32 → sm_D → sm_M → Option sm_S) (s0 : Int32) (D : sm_D) (M : sm_M) : Option sm_S :=
  (some (s0, D, M))
noncomputable def jY_find_136 (rec : Int32 → sm_D → sm_M → Option sm_S) (l1 : Int32) (D : sm_D) (M : sm_M) : Option sm_S :=
  (sm_bi (jY_ofPart rec l1 D M) (fun x1 E1 M1 => sm_dq E1 D (some (x1, D, M1))))
noncomputable def jY_find_142 (rec : Int32 → sm_D → sm_M → Option sm_S) (l1 : Int32) (D : sm_D) (M : sm_M) : Option sm_S :=
  (sm_bi (jY_ofReckoning rec l1 D M) (fun x1 E1 M1 => sm_dq E1 D (some (x1, D, M1))))
noncomputable def jY_find0 (rec : Int32 → sm_D → sm_M → Option sm_S) (l1 : Int32) (D : sm_D) (M : sm_M) : Option sm_S :=
  (sm_ck l1 40 (if (M 10 (Int32.toNatClampNeg l1)) = (0 : Int32) then (some ((0 : Int32), D, M)) else (if (M 10 (Int32.toNatClampNeg l1)) = (1 : Int32) then (sm_ck l1 40 (if (M 11 (Int32.toNatClampNeg l1)) < (M 16 3) then (sm_ck l1 40 (sm_ck (((M 16 3) - (1 : Int32)) - (M 11 (Int32.toNatClampNeg l1))) 16 (jY_find_111 rec (M 17 (Int32.toNatClampNeg (((M 16 3) - (1 : Int32)) - (M 11 (Int32.toNatClampNeg l1))))) D M))) else (jY_find_111 rec (-1 : Int32) D M))) else (if (M 10 (Int32.toNatClampNeg l1)) = (2 : Int32) then (jY_find_142 rec l1 D M) else (if (M 10 (Int32.toNatClampNeg l1)) = (3 : Int32) then (jY_find_142 rec l1 D M) else (if (M 10 (Int32.toNatClampNeg l1)) = (4 : Int32) then (jY_find_142 rec l1 D M) else (if (M 10 (Int32.toNatClampNeg l1)) = (5 : Int32) then (sm_bi (jY_ofChoice rec l1 D M) (fun x4 E4 M4 => sm_dq E4 D (some (x4, D, M4)))) else (if (M 10 (Int32.toNatClampNeg l1)) = (6 : Int32) then (sm_bi (jY_ofLambda rec l1 D M) (fun x3 E3 M3 => sm_dq E3 D (some (x3, D, M3)))) else (if (M 10 (Int32.toNatClampNeg l1)) = (7 : Int32) then (sm_bi (jY_ofCall rec l1 D M) (fun x2 E2 M2 => sm_dq E2 D (some (x2, D, M2)))) else (if (M 10 (Int32.toNatClampNeg l1)) = (8 : Int32) then (sm_bi (jY_ofPair rec l1 D M) (fun x1 E1 M1 => sm_dq E1 D (some (x1, D, M1)))) else (if (M 10 (Int32.toNatClampNeg l1)) = (9 : Int32) then (jY_find_136 rec l1 D M) else (if (M 10 (Int32.toNatClampNeg l1)) = (10 : Int32) then (jY_find_136 rec l1 D M) else (jY_find_142 rec l1 D M)))))))))))))
noncomputable def jY_find : Nat → Int32 → sm_D → sm_M → Option sm_S
  | 0 => fun _ _ _ => none
  | n + 1 => jY_find0 (jY_find n)
noncomputable def jY_typeWhereNothingIsBound (l1 : Int32) (D : sm_D) (M : sm_M) : Option sm_S :=
  (sm_bi (jY_find 8 l1 D (sm_up M 16 3 (0 : Int32))) (fun x1 E1 M1 => sm_dq E1 D (some (x1, D, M1))))
noncomputable def jT_forgetFrom_0_c (l1 : Int32) (D : sm_D) (M : sm_M) : Option ((Int32 × sm_M) ⊕ sm_S) :=
  (if l1 < (M 1 7) then (sm_ck ((sm_up M 1 7 ((M 1 7) - (1 : Int32))) 1 7) 800 (sm_ck ((sm_up M 1 7 ((M 1 7) - (1 : Int32))) 1 7) 800 (sm_ck ((sm_up M 1 7 ((M 1 7) - (1 : Int32))) 1 7) 800 (sm_ck ((sm_up M 1 7 ((M 1 7) - (1 : Int32))) 1 7) 800 (sm_bi (jT_bucket ((sm_up M 1 7 ((M 1 7) - (1 : Int32))) 2 (Int32.toNatClampNeg ((sm_up M 1 7 ((M 1 7) - (1 : Int32))) 1 7))) ((sm_up M 1 7 ((M 1 7) - (1 : Int32))) 3 (Int32.toNatClampNeg ((sm_up M 1 7 ((M 1 7) - (1 : Int32))) 1 7))) ((sm_up M 1 7 ((M 1 7) - (1 : Int32))) 4 (Int32.toNatClampNeg ((sm_up M 1 7 ((M 1 7) - (1 : Int32))) 1 7))) ((sm_up M 1 7 ((M 1 7) - (1 : Int32))) 5 (Int32.toNatClampNeg ((sm_up M 1 7 ((M 1 7) - (1 : Int32))) 1 7))) D (sm_up M 1 7 ((M 1 7) - (1 : Int32)))) (fun x1 E1 M1 => sm_dq E1 D (sm_ck (M1 1 7) 800 (sm_ck x1 128 (sm_dq D D (some (.inl (l1, (sm_up M1 7 (Int32.toNatClampNeg x1) (M1 8 (Int32.toNatClampNeg (M1 1 7)))))))))))))))) else (some (.inr ((0 : Int32), D, M))))
noncomputable def jT_forgetFrom_0_b (D : sm_D) (s : Int32 × sm_M) : Option ((Int32 × sm_M) ⊕ sm_S) := jT_forgetFrom_0_c s.1 D s.2
noncomputable def jT_forgetFrom_0 (l1 : Int32) (D : sm_D) (M : sm_M) : Option sm_S := sm_lp (jT_forgetFrom_0_b D) (l1, M)
noncomputable def jT_forgetFrom (l1 : Int32) (D : sm_D) (M : sm_M) : Option sm_S := jT_forgetFrom_0 l1 D M
noncomputable def jA_typeOf (l1 : Int32) (D : sm_D) (M : sm_M) : Option sm_S :=
  (sm_bi (jY_typeWhereNothingIsBound l1 D M) (fun x1 E1 M1 => sm_dq E1 D (sm_bi (jT_forgetFrom (M 1 7) D M1) (fun x2 E2 M2 => sm_dq E2 D (some (x1, D, M2))))))
noncomputable def jA_is_36 (s0 : Int32) (D : sm_D) (M : sm_M) : Option sm_S :=
  (sm_bo s0 (some (s0, D, M)))
noncomputable def jA_is_35 (D : sm_D) (M : sm_M) : Option sm_S :=
  (jA_is_36 (0 : Int32) D M)
noncomputable def jA_is (l1 l2 : Int32) (D : sm_D) (M : sm_M) : Option sm_S :=
  (sm_bi (jE_has l1 D M) (fun x1 E1 M1 => sm_dq E1 D (if x1 = (0 : Int32) then (jA_is_35 D M1) else (sm_bi (jT_has l2 D M1) (fun x2 E2 M2 => sm_dq E2 D (if x2 = (0 : Int32) then (jA_is_35 D M2) else (sm_bi (jA_typeOf l1 D M2) (fun x3 E3 M3 => sm_dq E3 D (if x3 = l2 then (jA_is_36 (1 : Int32) D M3) else (jA_is_35 D M3))))))))))
noncomputable def jA_steps (D : sm_D) (M : sm_M) : Option sm_S :=
  (some ((M 18 8), D, M))
noncomputable def jC_wipe (p : Nat) (D : sm_D) (M : sm_M) : Option sm_S :=
  (sm_bo (0 : Int32) (sm_bo (0 : Int32) (some ((0 : Int32), D, (sm_up (sm_up (sm_up (sm_up (sm_up M p 6 (0 : Int32)) p 11 (0 : Int32)) p 12 (-1 : Int32)) p 13 (0 : Int32)) p 15 (0 : Int32))))))
noncomputable def jX_fill_5_c (p L : Nat) (l1 l2 l3 : Int32) (D : sm_D) (M : sm_M) : Option ((Int32 × Int32 × Int32 × sm_M) ⊕ sm_S) :=
  (if l2 < l3 then (sm_ck l2 L (sm_eqp p p (sm_dq D D (some (.inl (l1, (l2 + (1 : Int32)), l3, (sm_up M p (Int32.toNatClampNeg l2) l1))))))) else (some (.inr ((0 : Int32), D, M))))
noncomputable def jX_fill_5_b (p L : Nat) (D : sm_D) (s : Int32 × Int32 × Int32 × sm_M) : Option ((Int32 × Int32 × Int32 × sm_M) ⊕ sm_S) := jX_fill_5_c p L s.1 s.2.1 s.2.2.1 D s.2.2.2
noncomputable def jX_fill_5 (p L : Nat) (l1 l2 l3 : Int32) (D : sm_D) (M : sm_M) : Option sm_S := sm_lp (jX_fill_5_b p L D) (l1, l2, l3, M)
noncomputable def jX_fill (p L : Nat) (l1 : Int32) (D : sm_D) (M : sm_M) : Option sm_S :=
  (sm_eqp p p (jX_fill_5 p L l1 (0 : Int32) (nI L) D M))
noncomputable def jM_begin (p d0 d1 d2 d3 d4 : Nat) (M : sm_M) : Option sm_S :=
  (sm_bi (sm_ga [34, 6] gF (jX_fill 34 6 (0 : Int32) [d0, d1, p, d3, d4] (sm_up (sm_up (sm_up (sm_up M 33 8 (0 : Int32)) 33 9 (0 : Int32)) 33 6 (0 : Int32)) 33 10 (0 : Int32)))) (fun x1 E1 M1 => sm_dq E1 [d0, d1, p, d3, d4] (sm_bi (sm_ga [35, 6] gF (jX_fill 35 6 (0 : Int32) [d0, d1, p, d3, d4] M1)) (fun x2 E2 M2 => sm_dq E2 [d0, d1, p, d3, d4] (sm_ck (1 : Int32) 6 (some ((0 : Int32), [d0, d1, p, d3, d4], (sm_up M2 34 (Int32.toNatClampNeg (1 : Int32)) (1 : Int32)))))))))
noncomputable def jA_clear (d0 d1 d2 d3 d4 : Nat) (M : sm_M) : Option sm_S :=
  (sm_bi (sm_ga [d0] gC (jC_wipe d0 [d0, d1, d2, d3, d4] M)) (fun x1 E1 M1 => sm_dq E1 [d0, d1, d2, d3, d4] (sm_bi (sm_ga [d0] gC (jM_begin d0 d0 d1 d2 d3 d4 M1)) (fun x2 E2 M2 => sm_dq E2 [d0, d1, d0, d3, d4] (some ((0 : Int32), [d0, d1, d0, d3, d4], M2))))))
noncomputable def jC_reserve (p : Nat) (D : sm_D) (M : sm_M) : Option sm_S :=
  (if (M p 11) = (40 : Int32) then (sm_bo (1 : Int32) (some ((-1 : Int32), D, (sm_up M p 15 (1 : Int32))))) else (sm_ck (M p 11) 40 (some ((((sm_up (sm_up M (p + 7) (Int32.toNatClampNeg (M p 11)) (0 : Int32)) p 11 (((sm_up M (p + 7) (Int32.toNatClampNeg (M p 11)) (0 : Int32)) p 11) + (1 : Int32))) p 11) - (1 : Int32)), D, (sm_up (sm_up M (p + 7) (Int32.toNatClampNeg (M p 11)) (0 : Int32)) p 11 (((sm_up M (p + 7) (Int32.toNatClampNeg (M p 11)) (0 : Int32)) p 11) + (1 : Int32)))))))
noncomputable def jC_hasBlock_17 (p : Nat) (s0 : Int32) (D : sm_D) (M : sm_M) : Option sm_S :=
  (sm_bo s0 (some (s0, D, M)))
noncomputable def jC_hasBlock_16 (p : Nat) (D : sm_D) (M : sm_M) : Option sm_S :=
  (jC_hasBlock_17 p (0 : Int32) D M)
noncomputable def jC_hasBlock (p : Nat) (l1 : Int32) (D : sm_D) (M : sm_M) : Option sm_S :=
  (if l1 < (0 : Int32) then (jC_hasBlock_16 p D M) else (if l1 < (M p 11) then (jC_hasBlock_17 p (1 : Int32) D M) else (jC_hasBlock_16 p D M)))
noncomputable def jC_ask (p : Nat) (l1 l2 : Int32) (D : sm_D) (M : sm_M) : Option sm_S :=
  (sm_ck l1 120 (sm_bi (jT_sizeOf l2 D (sm_up M (p + 8) (Int32.toNatClampNeg l1) l2)) (fun x1 E1 M1 => sm_dq E1 D (sm_ck l1 120 (some ((0 : Int32), D, (sm_up M1 (p + 9) (Int32.toNatClampNeg l1) x1)))))))
noncomputable def jC_open (p : Nat) (l1 l2 l3 l4 : Int32) (D : sm_D) (M : sm_M) : Option sm_S :=
  (sm_bi (sm_ga [p] gC (jC_hasBlock p l1 D M)) (fun x1 E1 M1 => sm_dq E1 D (if x1 = (0 : Int32) then (some ((0 : Int32), D, M1)) else (sm_ck l1 40 (sm_bi (sm_ga [p] gC (jC_ask p ((3 : Int32) * l1) l2 D (sm_up (sm_up M1 p 12 l1) (p + 6) (Int32.toNatClampNeg l1) ((sm_up M1 p 12 l1) p 6)))) (fun x2 E2 M2 => sm_dq E2 D (sm_bi (sm_ga [p] gC (jC_ask p (((3 : Int32) * l1) + (1 : Int32)) l3 D M2)) (fun x3 E3 M3 => sm_dq E3 D (sm_bi (sm_ga [p] gC (jC_ask p (((3 : Int32) * l1) + (2 : Int32)) l4 D M3)) (fun x4 E4 M4 => sm_dq E4 D (some ((0 : Int32), D, M4))))))))))))
noncomputable def jA_block_35 (d0 d1 d2 d3 d4 : Nat) (M : sm_M) : Option sm_S :=
  (some ((-1 : Int32), [d0, d1, d2, d3, d4], M))
noncomputable def jA_block (d0 d1 d2 d3 d4 : Nat) (l1 l2 l3 : Int32) (M : sm_M) : Option sm_S :=
  (if (M d0 13) = (0 : Int32) then (if (M d0 11) = (40 : Int32) then (sm_dq [d0, d1, d2, d3, d4] [d0, d1, d2, d3, d4] (jA_block_35 d0 d1 d2 d3 d4 M)) else (sm_bi (jT_canAsk l1 l2 l3 [d0, d1, d2, d3, d4] M) (fun x1 E1 M1 => sm_dq E1 [d0, d1, d2, d3, d4] (if x1 = (0 : Int32) then (sm_dq [d0, d1, d2, d3, d4] [d0, d1, d2, d3, d4] (jA_block_35 d0 d1 d2 d3 d4 M1)) else (sm_bi (sm_ga [d0] gC (jC_reserve d0 [d0, d1, d2, d3, d4] M1)) (fun x2 E2 M2 => sm_dq E2 [d0, d1, d2, d3, d4] (sm_bi (sm_ga [d0] gC (jC_open d0 x2 l1 l2 l3 [d0, d1, d2, d3, d4] M2)) (fun x3 E3 M3 => sm_dq E3 [d0, d1, d2, d3, d4] (sm_bi (sm_ga [d0] gC (jM_begin d0 d0 d1 d2 d3 d4 M3)) (fun x4 E4 M4 => sm_dq E4 [d0, d1, d0, d3, d4] (some (x2, [d0, d1, d0, d3, d4], M4)))))))))))) else (sm_dq [d0, d1, d2, d3, d4] [d0, d1, d2, d3, d4] (jA_block_35 d0 d1 d2 d3 d4 M)))
noncomputable def jC_fits_47 (p : Nat) (s0 : Int32) (D : sm_D) (M : sm_M) : Option sm_S :=
  (sm_bo s0 (some (s0, D, M)))
noncomputable def jC_fits_46 (p : Nat) (D : sm_D) (M : sm_M) : Option sm_S :=
  (jC_fits_47 p (0 : Int32) D M)
noncomputable def jC_fits_63 (p : Nat) (s0 : Int32) (D : sm_D) (M : sm_M) : Option sm_S :=
  (sm_bo s0 (some (s0, D, M)))
noncomputable def jC_fits_62 (p : Nat) (D : sm_D) (M : sm_M) : Option sm_S :=
  (jC_fits_63 p (0 : Int32) D M)
noncomputable def jC_fits_78 (p : Nat) (s0 : Int32) (D : sm_D) (M : sm_M) : Option sm_S :=
  (sm_bo s0 (some (s0, D, M)))
noncomputable def jC_fits_73 (p : Nat) (D : sm_D) (M : sm_M) : Option sm_S :=
  (jC_fits_78 p (1 : Int32) D M)
noncomputable def jC_fits_108 (p : Nat) (s0 : Int32) (D : sm_D) (M : sm_M) : Option sm_S :=
  (sm_bo s0 (some (s0, D, M)))
noncomputable def jC_fits_103 (p : Nat) (D : sm_D) (M : sm_M) : Option sm_S :=
  (jC_fits_108 p (1 : Int32) D M)
noncomputable def jC_fits (p : Nat) (l1 l2 : Int32) (D : sm_D) (M : sm_M) : Option sm_S :=
  (if l1 = (2 : Int32) then (if l2 < (1 : Int32) then (jC_fits_46 p D M) else (if (5 : Int32) < l2 then (jC_fits_46 p D M) else (jC_fits_47 p (1 : Int32) D M))) else (if l1 = (3 : Int32) then (if l2 < (0 : Int32) then (jC_fits_62 p D M) else (if l2 < (40 : Int32) then (jC_fits_63 p (1 : Int32) D M) else (jC_fits_62 p D M))) else (if l1 = (4 : Int32) then (if l2 = (0 : Int32) then (jC_fits_73 p D M) else (if l2 = (1 : Int32) then (jC_fits_73 p D M) else (jC_fits_78 p (0 : Int32) D M))) else (if l1 = (5 : Int32) then (sm_bi (jT_kindOf l2 D M) (fun x1 E1 M1 => sm_dq E1 D (if x1 = (2 : Int32) then (jC_fits_103 p D M1) else (sm_bi (jT_kindOf l2 D M1) (fun x2 E2 M2 => sm_dq E2 D (if x2 = (3 : Int32) then (jC_fits_103 p D M2) else (jC_fits_108 p (0 : Int32) D M2))))))) else (sm_bo (1 : Int32) (some ((1 : Int32), D, M)))))))
noncomputable def jC_takes_10 (p : Nat) (D : sm_D) (M : sm_M) : Option sm_S :=
  (sm_bo (0 : Int32) (some ((0 : Int32), D, M)))
noncomputable def jC_takes_69 (p : Nat) (s0 : Int32) (D : sm_D) (M : sm_M) : Option sm_S :=
  (sm_bo s0 (some (s0, D, M)))
noncomputable def jC_takes_68 (p : Nat) (D : sm_D) (M : sm_M) : Option sm_S :=
  (jC_takes_69 p (0 : Int32) D M)
noncomputable def jC_takes (p : Nat) (l1 l2 l3 l4 : Int32) (D : sm_D) (M : sm_M) : Option sm_S :=
  (if l1 < (0 : Int32) then (jC_takes_10 p D M) else (if (12 : Int32) < l1 then (jC_takes_10 p D M) else (sm_ck ((3 : Int32) * l1) 39 (sm_bi (sm_ga [p] gC (jC_fits p (sm_tab tFORM (Int32.toNatClampNeg ((3 : Int32) * l1))) l2 D M)) (fun x1 E1 M1 => sm_dq E1 D (if x1 = (0 : Int32) then (jC_takes_68 p D M1) else (sm_ck (((3 : Int32) * l1) + (1 : Int32)) 39 (sm_bi (sm_ga [p] gC (jC_fits p (sm_tab tFORM (Int32.toNatClampNeg (((3 : Int32) * l1) + (1 : Int32)))) l3 D M1)) (fun x2 E2 M2 => sm_dq E2 D (if x2 = (0 : Int32) then (jC_takes_68 p D M2) else (sm_ck (((3 : Int32) * l1) + (2 : Int32)) 39 (sm_bi (sm_ga [p] gC (jC_fits p (sm_tab tFORM (Int32.toNatClampNeg (((3 : Int32) * l1) + (2 : Int32)))) l4 D M2)) (fun x3 E3 M3 => sm_dq E3 D (if x3 = (0 : Int32) then (jC_takes_68 p D M3) else (jC_takes_69 p (1 : Int32) D M3)))))))))))))))
noncomputable def jC_put_21 (p : Nat) (D : sm_D) (M : sm_M) : Option sm_S :=
  (sm_bo (1 : Int32) (some ((0 : Int32), D, (sm_up M p 15 (1 : Int32)))))
noncomputable def jC_put_151 (p : Nat) (s1 s2 : Int32) (D : sm_D) (M : sm_M) : Option sm_S :=
  (sm_ck s1 300 (sm_ck ((sm_up (sm_up M (p + 5) (Int32.toNatClampNeg s1) s2) p 6 (((sm_up M (p + 5) (Int32.toNatClampNeg s1) s2) p 6) + (1 : Int32))) p 12) 40 (sm_ck ((sm_up (sm_up M (p + 5) (Int32.toNatClampNeg s1) s2) p 6 (((sm_up M (p + 5) (Int32.toNatClampNeg s1) s2) p 6) + (1 : Int32))) p 12) 40 (some ((0 : Int32), D, (sm_up (sm_up (sm_up M (p + 5) (Int32.toNatClampNeg s1) s2) p 6 (((sm_up M (p + 5) (Int32.toNatClampNeg s1) s2) p 6) + (1 : Int32))) (p + 7) (Int32.toNatClampNeg ((sm_up (sm_up M (p + 5) (Int32.toNatClampNeg s1) s2) p 6 (((sm_up M (p + 5) (Int32.toNatClampNeg s1) s2) p 6) + (1 : Int32))) p 12)) (((sm_up (sm_up M (p + 5) (Int32.toNatClampNeg s1) s2) p 6 (((sm_up M (p + 5) (Int32.toNatClampNeg s1) s2) p 6) + (1 : Int32))) (p + 7) (Int32.toNatClampNeg ((sm_up (sm_up M (p + 5) (Int32.toNatClampNeg s1) s2) p 6 (((sm_up M (p + 5) (Int32.toNatClampNeg s1) s2) p 6) + (1 : Int32))) p 12))) + (1 : Int32))))))))
noncomputable def jC_put_115 (p : Nat) (l1 l4 s1 s2 : Int32) (D : sm_D) (M : sm_M) : Option sm_S :=
  (sm_ck s1 300 (if l1 = (7 : Int32) then (sm_bi (jT_sizeOf l4 D (sm_up M (p + 4) (Int32.toNatClampNeg s1) s2)) (fun x1 E1 M1 => sm_dq E1 D (sm_eqp p p (sm_eqp (p + 5) (p + 5) (jC_put_151 p ((sm_up M (p + 4) (Int32.toNatClampNeg s1) s2) p 6) x1 D M1))))) else (sm_ck ((sm_up M (p + 4) (Int32.toNatClampNeg s1) s2) p 6) 300 (sm_eqp p p (sm_eqp (p + 5) (p + 5) (jC_put_151 p ((sm_up M (p + 4) (Int32.toNatClampNeg s1) s2) p 6) ((sm_up M (p + 4) (Int32.toNatClampNeg s1) s2) (p + 4) (Int32.toNatClampNeg ((sm_up M (p + 4) (Int32.toNatClampNeg s1) s2) p 6))) D (sm_up M (p + 4) (Int32.toNatClampNeg s1) s2)))))))
noncomputable def jC_put_89 (p : Nat) (l1 l4 l5 s1 s2 : Int32) (D : sm_D) (M : sm_M) : Option sm_S :=
  (sm_ck s1 300 (sm_ck (l5 + (2 : Int32)) 39 (if (sm_tab tFORM (Int32.toNatClampNeg (l5 + (2 : Int32)))) = (0 : Int32) then (sm_eqp p p (sm_eqp (p + 4) (p + 4) (jC_put_115 p l1 l4 ((sm_up M (p + 3) (Int32.toNatClampNeg s1) s2) p 6) (0 : Int32) D (sm_up M (p + 3) (Int32.toNatClampNeg s1) s2)))) else (sm_eqp p p (sm_eqp (p + 4) (p + 4) (jC_put_115 p l1 l4 ((sm_up M (p + 3) (Int32.toNatClampNeg s1) s2) p 6) l4 D (sm_up M (p + 3) (Int32.toNatClampNeg s1) s2)))))))
noncomputable def jC_put_64 (p : Nat) (l1 l3 l4 l5 s1 s2 : Int32) (D : sm_D) (M : sm_M) : Option sm_S :=
  (sm_ck s1 300 (sm_ck (l5 + (1 : Int32)) 39 (if (sm_tab tFORM (Int32.toNatClampNeg (l5 + (1 : Int32)))) = (0 : Int32) then (sm_eqp p p (sm_eqp (p + 3) (p + 3) (jC_put_89 p l1 l4 l5 ((sm_up M (p + 2) (Int32.toNatClampNeg s1) s2) p 6) (0 : Int32) D (sm_up M (p + 2) (Int32.toNatClampNeg s1) s2)))) else (sm_eqp p p (sm_eqp (p + 3) (p + 3) (jC_put_89 p l1 l4 l5 ((sm_up M (p + 2) (Int32.toNatClampNeg s1) s2) p 6) l3 D (sm_up M (p + 2) (Int32.toNatClampNeg s1) s2)))))))
noncomputable def jC_put (p : Nat) (l1 l2 l3 l4 : Int32) (D : sm_D) (M : sm_M) : Option sm_S :=
  (if (M p 6) = (300 : Int32) then (sm_eqp p p (jC_put_21 p D M)) else (sm_bi (sm_ga [p] gC (jC_hasBlock p (M p 12) D M)) (fun x1 E1 M1 => sm_dq E1 D (if x1 = (0 : Int32) then (sm_eqp p p (jC_put_21 p D M1)) else (sm_ck (M1 p 6) 300 (sm_ck ((3 : Int32) * l1) 39 (if (sm_tab tFORM (Int32.toNatClampNeg ((3 : Int32) * l1))) = (0 : Int32) then (sm_eqp p p (sm_eqp (p + 2) (p + 2) (jC_put_64 p l1 l3 l4 ((3 : Int32) * l1) ((sm_up M1 (p + 1) (Int32.toNatClampNeg (M1 p 6)) l1) p 6) (0 : Int32) D (sm_up M1 (p + 1) (Int32.toNatClampNeg (M1 p 6)) l1)))) else (sm_eqp p p (sm_eqp (p + 2) (p + 2) (jC_put_64 p l1 l3 l4 ((3 : Int32) * l1) ((sm_up M1 (p + 1) (Int32.toNatClampNeg (M1 p 6)) l1) p 6) l2 D (sm_up M1 (p + 1) (Int32.toNatClampNeg (M1 p 6)) l1)))))))))))
noncomputable def jA_add_33 (d0 d1 d2 d3 d4 : Nat) (M : sm_M) : Option sm_S :=
  (some ((-1 : Int32), [d0, d1, d2, d3, d4], M))
noncomputable def jA_add (d0 d1 d2 d3 d4 : Nat) (l1 l2 l3 l4 : Int32) (M : sm_M) : Option sm_S :=
  (if (M d0 13) = (0 : Int32) then (if (M d0 11) = (0 : Int32) then (sm_dq [d0, d1, d2, d3, d4] [d0, d1, d2, d3, d4] (jA_add_33 d0 d1 d2 d3 d4 M)) else (if (M d0 6) = (300 : Int32) then (sm_dq [d0, d1, d2, d3, d4] [d0, d1, d2, d3, d4] (jA_add_33 d0 d1 d2 d3 d4 M)) else (sm_bi (sm_ga [d0] gC (jC_takes d0 l1 l2 l3 l4 [d0, d1, d2, d3, d4] M)) (fun x1 E1 M1 => sm_dq E1 [d0, d1, d2, d3, d4] (if x1 = (0 : Int32) then (some ((-1 : Int32), [d0, d1, d2, d3, d4], M1)) else (sm_bi (sm_ga [d0] gC (jC_put d0 l1 l2 l3 l4 [d0, d1, d2, d3, d4] M1)) (fun x2 E2 M2 => sm_dq E2 [d0, d1, d2, d3, d4] (sm_bi (sm_ga [d0] gC (jM_begin d0 d0 d1 d2 d3 d4 M2)) (fun x3 E3 M3 => sm_dq E3 [d0, d1, d0, d3, d4] (some ((M3 d0 6), [d0, d1, d0, d3, d4], M3))))))))))) else (sm_dq [d0, d1, d2, d3, d4] [d0, d1, d2, d3, d4] (jA_add_33 d0 d1 d2 d3 d4 M)))
noncomputable def jC_askedType_44 (p : Nat) (s0 : Int32) (D : sm_D) (M : sm_M) : Option sm_S :=
  (some (s0, D, M))
noncomputable def jC_askedType_23 (p : Nat) (l1 l2 s0 : Int32) (D : sm_D) (M : sm_M) : Option sm_S :=
  (if s0 = (0 : Int32) then (jC_askedType_44 p (-1 : Int32) D M) else (sm_ck ((((3 : Int32) * l1) + l2) - (1 : Int32)) 120 (jC_askedType_44 p (M (p + 8) (Int32.toNatClampNeg ((((3 : Int32) * l1) + l2) - (1 : Int32)))) D M)))
noncomputable def jC_askedType_22 (p : Nat) (l1 l2 : Int32) (D : sm_D) (M : sm_M) : Option sm_S :=
  (sm_eqp p p (jC_askedType_23 p l1 l2 (0 : Int32) D M))
noncomputable def jC_askedType (p : Nat) (l1 l2 : Int32) (D : sm_D) (M : sm_M) : Option sm_S :=
  (sm_bi (sm_ga [p] gC (jC_hasBlock p l1 D M)) (fun x1 E1 M1 => sm_dq E1 D (if x1 = (0 : Int32) then (sm_eqp p p (jC_askedType_22 p l1 l2 D M1)) else (if l2 < (1 : Int32) then (sm_eqp p p (jC_askedType_22 p l1 l2 D M1)) else (if (3 : Int32) < l2 then (sm_eqp p p (jC_askedType_22 p l1 l2 D M1)) else (sm_eqp p p (jC_askedType_23 p l1 l2 (1 : Int32) D M1)))))))
noncomputable def jK_beginsRight_61 (d0 d1 d2 d3 d4 : Nat) (s0 : Int32) (M : sm_M) : Option sm_S :=
  (sm_bo s0 (some (s0, [d0, d1, d2, d3, d4], M)))
noncomputable def jK_beginsRight_60 (d0 d1 d2 d3 d4 : Nat) (M : sm_M) : Option sm_S :=
  (sm_dq [d0, d1, d2, d3, d4] [d0, d1, d2, d3, d4] (jK_beginsRight_61 d0 d1 d2 d3 d4 (0 : Int32) M))
noncomputable def jK_beginsRight_30 (d0 d1 d2 d3 d4 : Nat) (M : sm_M) : Option sm_S :=
  (sm_bi (sm_ga [d3] gC (jC_askedType d3 (0 : Int32) (2 : Int32) [d0, d1, d2, d3, d4] M)) (fun x1 E1 M1 => sm_dq E1 [d0, d1, d2, d3, d4] (if x1 = (-1 : Int32) then (sm_bi (sm_ga [d3] gC (jC_askedType d3 (0 : Int32) (3 : Int32) [d0, d1, d2, d3, d4] M1)) (fun x2 E2 M2 => sm_dq E2 [d0, d1, d2, d3, d4] (if x2 = (-1 : Int32) then (sm_dq [d0, d1, d2, d3, d4] [d0, d1, d2, d3, d4] (jK_beginsRight_61 d0 d1 d2 d3 d4 (1 : Int32) M2)) else (sm_dq [d0, d1, d2, d3, d4] [d0, d1, d2, d3, d4] (jK_beginsRight_60 d0 d1 d2 d3 d4 M2))))) else (sm_dq [d0, d1, d2, d3, d4] [d0, d1, d2, d3, d4] (jK_beginsRight_60 d0 d1 d2 d3 d4 M1)))))
noncomputable def jK_beginsRight (d0 d1 d2 d3 d4 : Nat) (M : sm_M) : Option sm_S :=
  (sm_bi (sm_ga [d3] gC (jC_askedType d3 (0 : Int32) (1 : Int32) [d0, d1, d2, d3, d4] M)) (fun x1 E1 M1 => sm_dq E1 [d0, d1, d2, d3, d4] (sm_bi (sm_ga [d3] gC (jC_hasBlock d3 (0 : Int32) [d0, d1, d2, d3, d4] M1)) (fun x2 E2 M2 => sm_dq E2 [d0, d1, d2, d3, d4] (if x2 = (0 : Int32) then (sm_dq [d0, d1, d2, d3, d4] [d0, d1, d2, d3, d4] (jK_beginsRight_60 d0 d1 d2 d3 d4 M2)) else (if x1 = (-1 : Int32) then (sm_dq [d0, d1, d2, d3, d4] [d0, d1, d2, d3, d4] (jK_beginsRight_30 d0 d1 d2 d3 d4 M2)) else (if x1 = (0 : Int32) then (sm_dq [d0, d1, d2, d3, d4] [d0, d1, d2, d3, d4] (jK_beginsRight_30 d0 d1 d2 d3 d4 M2)) else (sm_dq [d0, d1, d2, d3, d4] [d0, d1, d2, d3, d4] (jK_beginsRight_60 d0 d1 d2 d3 d4 M2)))))))))
noncomputable def jC_startOf_18 (p : Nat) (s0 : Int32) (D : sm_D) (M : sm_M) : Option sm_S :=
  (some (s0, D, M))
noncomputable def jC_startOf (p : Nat) (l1 : Int32) (D : sm_D) (M : sm_M) : Option sm_S :=
  (sm_bi (sm_ga [p] gC (jC_hasBlock p l1 D M)) (fun x1 E1 M1 => sm_dq E1 D (if x1 = (0 : Int32) then (jC_startOf_18 p (0 : Int32) D M1) else (sm_ck l1 40 (jC_startOf_18 p (M1 (p + 6) (Int32.toNatClampNeg l1)) D M1)))))
noncomputable def jC_lengthOf_18 (p : Nat) (s0 : Int32) (D : sm_D) (M : sm_M) : Option sm_S :=
  (some (s0, D, M))
noncomputable def jC_lengthOf (p : Nat) (l1 : Int32) (D : sm_D) (M : sm_M) : Option sm_S :=
  (sm_bi (sm_ga [p] gC (jC_hasBlock p l1 D M)) (fun x1 E1 M1 => sm_dq E1 D (if x1 = (0 : Int32) then (jC_lengthOf_18 p (0 : Int32) D M1) else (sm_ck l1 40 (jC_lengthOf_18 p (M1 (p + 7) (Int32.toNatClampNeg l1)) D M1)))))
noncomputable def jK_gets (l1 l2 : Int32) (D : sm_D) (M : sm_M) : Option sm_S :=
  (sm_ck l1 6 (sm_bo (1 : Int32) (some ((1 : Int32), D, (sm_up M 32 (Int32.toNatClampNeg l1) l2)))))
noncomputable def jK_typeOfBlock (d0 d1 d2 d3 d4 : Nat) (l1 : Int32) (M : sm_M) : Option sm_S :=
  (sm_bi (sm_ga [d3] gC (jC_askedType d3 l1 (1 : Int32) [d0, d1, d2, d3, d4] M)) (fun x1 E1 M1 => sm_dq E1 [d0, d1, d2, d3, d4] (sm_bi (sm_ga [d3] gC (jC_askedType d3 l1 (2 : Int32) [d0, d1, d2, d3, d4] M1)) (fun x2 E2 M2 => sm_dq E2 [d0, d1, d2, d3, d4] (sm_bi (sm_ga [d3] gC (jC_askedType d3 l1 (3 : Int32) [d0, d1, d2, d3, d4] M2)) (fun x3 E3 M3 => sm_dq E3 [d0, d1, d2, d3, d4] (sm_bi (jT_find (4 : Int32) x1 x2 x3 [d0, d1, d2, d3, d4] M3) (fun x4 E4 M4 => sm_dq E4 [d0, d1, d2, d3, d4] (some (x4, [d0, d1, d2, d3, d4], M4))))))))))
noncomputable def jK_taken (l1 : Int32) (D : sm_D) (M : sm_M) : Option sm_S :=
  (sm_bi (jT_firstOf l1 D M) (fun x1 E1 M1 => sm_dq E1 D (some (x1, D, M1))))
noncomputable def jT_thirdOf_18 (s0 : Int32) (D : sm_D) (M : sm_M) : Option sm_S :=
  (some (s0, D, M))
noncomputable def jT_thirdOf (l1 : Int32) (D : sm_D) (M : sm_M) : Option sm_S :=
  (sm_bi (jT_has l1 D M) (fun x1 E1 M1 => sm_dq E1 D (if x1 = (0 : Int32) then (jT_thirdOf_18 (-1 : Int32) D M1) else (sm_ck l1 800 (jT_thirdOf_18 (M1 5 (Int32.toNatClampNeg l1)) D M1)))))
noncomputable def jK_waitsFor_22 (s0 : Int32) (D : sm_D) (M : sm_M) : Option sm_S :=
  (sm_bo s0 (some (s0, D, M)))
noncomputable def jK_waitsFor_59 (s0 : Int32) (D : sm_D) (M : sm_M) : Option sm_S :=
  (sm_bo s0 (some (s0, D, M)))
noncomputable def jK_waitsFor_58 (D : sm_D) (M : sm_M) : Option sm_S :=
  (jK_waitsFor_59 (0 : Int32) D M)
noncomputable def jK_waitsFor (l1 l2 : Int32) (D : sm_D) (M : sm_M) : Option sm_S :=
  (sm_bi (jT_kindOf l2 D M) (fun x1 E1 M1 => sm_dq E1 D (if x1 = (3 : Int32) then (if l1 = (-1 : Int32) then (jK_waitsFor_22 (1 : Int32) D M1) else (jK_waitsFor_22 (0 : Int32) D M1)) else (sm_bi (jT_kindOf l1 D M1) (fun x2 E2 M2 => sm_dq E2 D (if x2 = (3 : Int32) then (sm_bi (jT_firstOf l1 D M2) (fun x3 E3 M3 => sm_dq E3 D (sm_bi (jT_secondOf l2 D M3) (fun x4 E4 M4 => sm_dq E4 D (if x3 = x4 then (jK_waitsFor_59 (1 : Int32) D M4) else (jK_waitsFor_58 D M4)))))) else (jK_waitsFor_58 D M2)))))))
noncomputable def jK_canWrap_54 (D : sm_D) (M : sm_M) : Option sm_S :=
  (sm_bo (0 : Int32) (some ((0 : Int32), D, M)))
noncomputable def jK_canWrap_93 (s0 : Int32) (D : sm_D) (M : sm_M) : Option sm_S :=
  (sm_bo s0 (some (s0, D, M)))
noncomputable def jK_canWrap_92 (D : sm_D) (M : sm_M) : Option sm_S :=
  (jK_canWrap_93 (0 : Int32) D M)
noncomputable def jK_canWrap (l1 l2 : Int32) (D : sm_D) (M : sm_M) : Option sm_S :=
  (sm_bi (jT_kindOf l1 D M) (fun x1 E1 M1 => sm_dq E1 D (if x1 = (1 : Int32) then (sm_bi (jT_firstOf l1 D M1) (fun x2 E2 M2 => sm_dq E2 D (sm_bi (jT_kindOf x2 D M2) (fun x3 E3 M3 => sm_dq E3 D (if x3 = (4 : Int32) then (sm_bi (jT_firstOf x2 D M3) (fun x4 E4 M4 => sm_dq E4 D (sm_bi (jT_secondOf l1 D M4) (fun x5 E5 M5 => sm_dq E5 D (if x4 = x5 then (sm_bi (jT_secondOf x2 D M5) (fun x6 E6 M6 => sm_dq E6 D (sm_bi (jK_taken l2 D M6) (fun x7 E7 M7 => sm_dq E7 D (if x6 = x7 then (sm_bi (jT_thirdOf x2 D M7) (fun x8 E8 M8 => sm_dq E8 D (sm_bi (jK_waitsFor x8 l2 D M8) (fun x9 E9 M9 => sm_dq E9 D (if x9 = (0 : Int32) then (jK_canWrap_92 D M9) else (jK_canWrap_93 (1 : Int32) D M9)))))) else (jK_canWrap_92 D M7)))))) else (jK_canWrap_54 D M5)))))) else (jK_canWrap_54 D M3)))))) else (sm_bo (0 : Int32) (some ((0 : Int32), D, M1))))))
noncomputable def jT_hidden (D : sm_D) (M : sm_M) : Option sm_S :=
  (sm_bi (jT_find (5 : Int32) (M 1 7) (-1 : Int32) (-1 : Int32) D M) (fun x1 E1 M1 => sm_dq E1 D (some (x1, D, M1))))
noncomputable def jK_opens_116 (s0 : Int32) (D : sm_D) (M : sm_M) : Option sm_S :=
  (sm_bo s0 (some (s0, D, M)))
noncomputable def jK_opens_115 (D : sm_D) (M : sm_M) : Option sm_S :=
  (jK_opens_116 (0 : Int32) D M)
noncomputable def jK_opens_74 (l1 l2 l3 l5 s0 : Int32) (D : sm_D) (M : sm_M) : Option sm_S :=
  (sm_bi (jK_taken l3 D M) (fun x1 E1 M1 => sm_dq E1 D (sm_bi (jT_find (4 : Int32) l5 x1 s0 D M1) (fun x2 E2 M2 => sm_dq E2 D (sm_bi (jK_gets l1 x2 D M2) (fun x3 E3 M3 => sm_dq E3 D (if x3 = (0 : Int32) then (jK_opens_115 D M3) else (sm_bi (jK_gets l2 l5 D M3) (fun x4 E4 M4 => sm_dq E4 D (if x4 = (0 : Int32) then (jK_opens_115 D M4) else (jK_opens_116 (1 : Int32) D M4)))))))))))
noncomputable def jK_opens_38 (l1 l2 l3 l4 : Int32) (D : sm_D) (M : sm_M) : Option sm_S :=
  (sm_bi (jT_hidden D M) (fun x1 E1 M1 => sm_dq E1 D (if l4 = (0 : Int32) then (jK_opens_74 l1 l2 l3 x1 (-1 : Int32) D M1) else (sm_bi (jT_secondOf l3 D M1) (fun x2 E2 M2 => sm_dq E2 D (sm_bi (jT_find (3 : Int32) x2 (-1 : Int32) (-1 : Int32) D M2) (fun x3 E3 M3 => sm_dq E3 D (jK_opens_74 l1 l2 l3 x1 x3 D M3))))))))
noncomputable def jK_opens_17 (l1 l2 l3 s0 : Int32) (D : sm_D) (M : sm_M) : Option sm_S :=
  (if s0 = (0 : Int32) then (sm_bi (jT_kindOf l3 D M) (fun x1 E1 M1 => sm_dq E1 D (if x1 = (3 : Int32) then (jK_opens_38 l1 l2 l3 s0 D M1) else (sm_bo (0 : Int32) (some ((0 : Int32), D, M1)))))) else (jK_opens_38 l1 l2 l3 s0 D M))
noncomputable def jK_opens (l1 l2 l3 : Int32) (D : sm_D) (M : sm_M) : Option sm_S :=
  (sm_bi (jT_kindOf l3 D M) (fun x1 E1 M1 => sm_dq E1 D (if x1 = (2 : Int32) then (jK_opens_17 l1 l2 l3 (1 : Int32) D M1) else (jK_opens_17 l1 l2 l3 (0 : Int32) D M1))))
noncomputable def jK_canGive_20 (s0 : Int32) (D : sm_D) (M : sm_M) : Option sm_S :=
  (sm_bo s0 (some (s0, D, M)))
noncomputable def jK_canGive_15 (D : sm_D) (M : sm_M) : Option sm_S :=
  (jK_canGive_20 (1 : Int32) D M)
noncomputable def jK_canGive (l1 l2 : Int32) (D : sm_D) (M : sm_M) : Option sm_S :=
  (if l2 = (-1 : Int32) then (jK_canGive_15 D M) else (sm_ck l1 6 (if (M 32 (Int32.toNatClampNeg l1)) = l2 then (jK_canGive_15 D M) else (jK_canGive_20 (0 : Int32) D M))))
noncomputable def jK_canEnter_67 (d0 d1 d2 d3 d4 : Nat) (s0 : Int32) (M : sm_M) : Option sm_S :=
  (sm_bo s0 (some (s0, [d0, d1, d2, d3, d4], M)))
noncomputable def jK_canEnter_66 (d0 d1 d2 d3 d4 : Nat) (M : sm_M) : Option sm_S :=
  (sm_dq [d0, d1, d2, d3, d4] [d0, d1, d2, d3, d4] (jK_canEnter_67 d0 d1 d2 d3 d4 (0 : Int32) M))
noncomputable def jK_canEnter (d0 d1 d2 d3 d4 : Nat) (l1 : Int32) (M : sm_M) : Option sm_S :=
  (sm_bi (sm_ga [d3] gC (jC_hasBlock d3 l1 [d0, d1, d2, d3, d4] M)) (fun x1 E1 M1 => sm_dq E1 [d0, d1, d2, d3, d4] (if x1 = (0 : Int32) then (sm_dq [d0, d1, d2, d3, d4] [d0, d1, d2, d3, d4] (jK_canEnter_66 d0 d1 d2 d3 d4 M1)) else (sm_bi (sm_ga [d3] gC (jC_askedType d3 l1 (1 : Int32) [d0, d1, d2, d3, d4] M1)) (fun x2 E2 M2 => sm_dq E2 [d0, d1, d2, d3, d4] (sm_bi (jK_canGive (1 : Int32) x2 [d0, d1, d2, d3, d4] M2) (fun x3 E3 M3 => sm_dq E3 [d0, d1, d2, d3, d4] (if x3 = (0 : Int32) then (sm_dq [d0, d1, d2, d3, d4] [d0, d1, d2, d3, d4] (jK_canEnter_66 d0 d1 d2 d3 d4 M3)) else (sm_bi (sm_ga [d3] gC (jC_askedType d3 l1 (2 : Int32) [d0, d1, d2, d3, d4] M3)) (fun x4 E4 M4 => sm_dq E4 [d0, d1, d2, d3, d4] (sm_bi (jK_canGive (2 : Int32) x4 [d0, d1, d2, d3, d4] M4) (fun x5 E5 M5 => sm_dq E5 [d0, d1, d2, d3, d4] (if x5 = (0 : Int32) then (sm_dq [d0, d1, d2, d3, d4] [d0, d1, d2, d3, d4] (jK_canEnter_66 d0 d1 d2 d3 d4 M5)) else (sm_bi (sm_ga [d3] gC (jC_askedType d3 l1 (3 : Int32) [d0, d1, d2, d3, d4] M5)) (fun x6 E6 M6 => sm_dq E6 [d0, d1, d2, d3, d4] (sm_bi (jK_canGive (3 : Int32) x6 [d0, d1, d2, d3, d4] M6) (fun x7 E7 M7 => sm_dq E7 [d0, d1, d2, d3, d4] (if x7 = (0 : Int32) then (sm_dq [d0, d1, d2, d3, d4] [d0, d1, d2, d3, d4] (jK_canEnter_66 d0 d1 d2 d3 d4 M7)) else (sm_dq [d0, d1, d2, d3, d4] [d0, d1, d2, d3, d4] (jK_canEnter_67 d0 d1 d2 d3 d4 (1 : Int32) M7))))))))))))))))))))
noncomputable def jK_canGo_53 (s0 : Int32) (D : sm_D) (M : sm_M) : Option sm_S :=
  (sm_bo s0 (some (s0, D, M)))
noncomputable def jK_canGo_52 (D : sm_D) (M : sm_M) : Option sm_S :=
  (jK_canGo_53 (0 : Int32) D M)
noncomputable def jK_canGo (l1 : Int32) (D : sm_D) (M : sm_M) : Option sm_S :=
  (sm_bi (jT_firstOf l1 D M) (fun x1 E1 M1 => sm_dq E1 D (sm_bi (jK_canGive (1 : Int32) x1 D M1) (fun x2 E2 M2 => sm_dq E2 D (if x2 = (0 : Int32) then (jK_canGo_52 D M2) else (sm_bi (jT_secondOf l1 D M2) (fun x3 E3 M3 => sm_dq E3 D (sm_bi (jK_canGive (2 : Int32) x3 D M3) (fun x4 E4 M4 => sm_dq E4 D (if x4 = (0 : Int32) then (jK_canGo_52 D M4) else (sm_bi (jT_thirdOf l1 D M4) (fun x5 E5 M5 => sm_dq E5 D (sm_bi (jK_canGive (3 : Int32) x5 D M5) (fun x6 E6 M6 => sm_dq E6 D (if x6 = (0 : Int32) then (jK_canGo_52 D M6) else (jK_canGo_53 (1 : Int32) D M6))))))))))))))))
noncomputable def jK_isRight_144 (d0 d1 d2 d3 d4 : Nat) (s0 : Int32) (M : sm_M) : Option sm_S :=
  (sm_bo s0 (some (s0, [d0, d1, d2, d3, d4], M)))
noncomputable def jK_isRight_143 (d0 d1 d2 d3 d4 : Nat) (M : sm_M) : Option sm_S :=
  (sm_dq [d0, d1, d2, d3, d4] [d0, d1, d2, d3, d4] (jK_isRight_144 d0 d1 d2 d3 d4 (0 : Int32) M))
noncomputable def jK_isRight_111 (d0 d1 d2 d3 d4 : Nat) (l2 l3 l4 : Int32) (M : sm_M) : Option sm_S :=
  (sm_ck l3 6 (if (M 32 (Int32.toNatClampNeg l3)) = (0 : Int32) then (sm_ck l4 6 (if (M 32 (Int32.toNatClampNeg l4)) = (0 : Int32) then (sm_bi (jK_gets l2 (0 : Int32) [d0, d1, d2, d3, d4] M) (fun x1 E1 M1 => sm_dq E1 [d0, d1, d2, d3, d4] (if x1 = (0 : Int32) then (sm_dq [d0, d1, d2, d3, d4] [d0, d1, d2, d3, d4] (jK_isRight_143 d0 d1 d2 d3 d4 M1)) else (sm_dq [d0, d1, d2, d3, d4] [d0, d1, d2, d3, d4] (jK_isRight_144 d0 d1 d2 d3 d4 (1 : Int32) M1))))) else (sm_dq [d0, d1, d2, d3, d4] [d0, d1, d2, d3, d4] (jK_isRight_143 d0 d1 d2 d3 d4 M)))) else (sm_dq [d0, d1, d2, d3, d4] [d0, d1, d2, d3, d4] (jK_isRight_143 d0 d1 d2 d3 d4 M))))
noncomputable def jK_isRight_201 (d0 d1 d2 d3 d4 : Nat) (s0 : Int32) (M : sm_M) : Option sm_S :=
  (sm_bo s0 (some (s0, [d0, d1, d2, d3, d4], M)))
noncomputable def jK_isRight_200 (d0 d1 d2 d3 d4 : Nat) (M : sm_M) : Option sm_S :=
  (sm_dq [d0, d1, d2, d3, d4] [d0, d1, d2, d3, d4] (jK_isRight_201 d0 d1 d2 d3 d4 (0 : Int32) M))
noncomputable def jK_isRight_266 (d0 d1 d2 d3 d4 : Nat) (s0 : Int32) (M : sm_M) : Option sm_S :=
  (sm_bo s0 (some (s0, [d0, d1, d2, d3, d4], M)))
noncomputable def jK_isRight_265 (d0 d1 d2 d3 d4 : Nat) (M : sm_M) : Option sm_S :=
  (sm_dq [d0, d1, d2, d3, d4] [d0, d1, d2, d3, d4] (jK_isRight_266 d0 d1 d2 d3 d4 (0 : Int32) M))
noncomputable def jK_isRight_255 (d0 d1 d2 d3 d4 : Nat) (s1 s2 : Int32) (M : sm_M) : Option sm_S :=
  (sm_bi (jK_gets s1 s2 [d0, d1, d2, d3, d4] M) (fun x1 E1 M1 => sm_dq E1 [d0, d1, d2, d3, d4] (if x1 = (0 : Int32) then (sm_dq [d0, d1, d2, d3, d4] [d0, d1, d2, d3, d4] (jK_isRight_265 d0 d1 d2 d3 d4 M1)) else (sm_dq [d0, d1, d2, d3, d4] [d0, d1, d2, d3, d4] (jK_isRight_266 d0 d1 d2 d3 d4 (1 : Int32) M1)))))
noncomputable def jK_isRight_296 (d0 d1 d2 d3 d4 : Nat) (s0 : Int32) (M : sm_M) : Option sm_S :=
  (sm_bo s0 (some (s0, [d0, d1, d2, d3, d4], M)))
noncomputable def jK_isRight_295 (d0 d1 d2 d3 d4 : Nat) (M : sm_M) : Option sm_S :=
  (sm_dq [d0, d1, d2, d3, d4] [d0, d1, d2, d3, d4] (jK_isRight_296 d0 d1 d2 d3 d4 (0 : Int32) M))
noncomputable def jK_isRight_327 (d0 d1 d2 d3 d4 : Nat) (s0 : Int32) (M : sm_M) : Option sm_S :=
  (sm_bo s0 (some (s0, [d0, d1, d2, d3, d4], M)))
noncomputable def jK_isRight_326 (d0 d1 d2 d3 d4 : Nat) (M : sm_M) : Option sm_S :=
  (sm_dq [d0, d1, d2, d3, d4] [d0, d1, d2, d3, d4] (jK_isRight_327 d0 d1 d2 d3 d4 (0 : Int32) M))
noncomputable def jK_isRight_370 (d0 d1 d2 d3 d4 : Nat) (s0 : Int32) (M : sm_M) : Option sm_S :=
  (sm_bo s0 (some (s0, [d0, d1, d2, d3, d4], M)))
noncomputable def jK_isRight_369 (d0 d1 d2 d3 d4 : Nat) (M : sm_M) : Option sm_S :=
  (sm_dq [d0, d1, d2, d3, d4] [d0, d1, d2, d3, d4] (jK_isRight_370 d0 d1 d2 d3 d4 (0 : Int32) M))
noncomputable def jK_isRight_406 (d0 d1 d2 d3 d4 : Nat) (s0 : Int32) (M : sm_M) : Option sm_S :=
  (sm_bo s0 (some (s0, [d0, d1, d2, d3, d4], M)))
noncomputable def jK_isRight_405 (d0 d1 d2 d3 d4 : Nat) (M : sm_M) : Option sm_S :=
  (sm_dq [d0, d1, d2, d3, d4] [d0, d1, d2, d3, d4] (jK_isRight_406 d0 d1 d2 d3 d4 (0 : Int32) M))
noncomputable def jK_isRight_421 (d0 d1 d2 d3 d4 : Nat) (s0 : Int32) (M : sm_M) : Option sm_S :=
  (sm_bo s0 (some (s0, [d0, d1, d2, d3, d4], M)))
noncomputable def jK_isRight (d0 d1 d2 d3 d4 : Nat) (l1 : Int32) (M : sm_M) : Option sm_S :=
  (sm_ck l1 300 (sm_ck l1 300 (sm_ck l1 300 (sm_ck l1 300 (if (M (d3 + 1) (Int32.toNatClampNeg l1)) = (0 : Int32) then (sm_bi (jK_gets (M (d3 + 2) (Int32.toNatClampNeg l1)) (0 : Int32) [d0, d1, d2, d3, d4] M) (fun x16 E16 M16 => sm_dq E16 [d0, d1, d2, d3, d4] (sm_bo x16 (some (x16, [d0, d1, d2, d3, d4], M16))))) else (if (M (d3 + 1) (Int32.toNatClampNeg l1)) = (1 : Int32) then (sm_dq [d0, d1, d2, d3, d4] [d0, d1, d2, d3, d4] (jK_isRight_111 d0 d1 d2 d3 d4 (M (d3 + 2) (Int32.toNatClampNeg l1)) (M (d3 + 3) (Int32.toNatClampNeg l1)) (M (d3 + 4) (Int32.toNatClampNeg l1)) M)) else (if (M (d3 + 1) (Int32.toNatClampNeg l1)) = (2 : Int32) then (sm_dq [d0, d1, d2, d3, d4] [d0, d1, d2, d3, d4] (jK_isRight_111 d0 d1 d2 d3 d4 (M (d3 + 2) (Int32.toNatClampNeg l1)) (M (d3 + 3) (Int32.toNatClampNeg l1)) (M (d3 + 4) (Int32.toNatClampNeg l1)) M)) else (if (M (d3 + 1) (Int32.toNatClampNeg l1)) = (3 : Int32) then (sm_dq [d0, d1, d2, d3, d4] [d0, d1, d2, d3, d4] (jK_isRight_111 d0 d1 d2 d3 d4 (M (d3 + 2) (Int32.toNatClampNeg l1)) (M (d3 + 3) (Int32.toNatClampNeg l1)) (M (d3 + 4) (Int32.toNatClampNeg l1)) M)) else (if (M (d3 + 1) (Int32.toNatClampNeg l1)) = (4 : Int32) then (sm_ck (M (d3 + 3) (Int32.toNatClampNeg l1)) 6 (if (M 32 (Int32.toNatClampNeg (M (d3 + 3) (Int32.toNatClampNeg l1)))) = (-1 : Int32) then (sm_dq [d0, d1, d2, d3, d4] [d0, d1, d2, d3, d4] (jK_isRight_200 d0 d1 d2 d3 d4 M)) else (sm_ck (M (d3 + 4) (Int32.toNatClampNeg l1)) 6 (if (M 32 (Int32.toNatClampNeg (M (d3 + 4) (Int32.toNatClampNeg l1)))) = (-1 : Int32) then (sm_dq [d0, d1, d2, d3, d4] [d0, d1, d2, d3, d4] (jK_isRight_200 d0 d1 d2 d3 d4 M)) else (sm_ck (M (d3 + 3) (Int32.toNatClampNeg l1)) 6 (sm_ck (M (d3 + 4) (Int32.toNatClampNeg l1)) 6 (sm_bi (jT_find (1 : Int32) (M 32 (Int32.toNatClampNeg (M (d3 + 3) (Int32.toNatClampNeg l1)))) (M 32 (Int32.toNatClampNeg (M (d3 + 4) (Int32.toNatClampNeg l1)))) (-1 : Int32) [d0, d1, d2, d3, d4] M) (fun x14 E14 M14 => sm_dq E14 [d0, d1, d2, d3, d4] (sm_bi (jK_gets (M (d3 + 2) (Int32.toNatClampNeg l1)) x14 [d0, d1, d2, d3, d4] M14) (fun x15 E15 M15 => sm_dq E15 [d0, d1, d2, d3, d4] (if x15 = (0 : Int32) then (sm_dq [d0, d1, d2, d3, d4] [d0, d1, d2, d3, d4] (jK_isRight_200 d0 d1 d2 d3 d4 M15)) else (sm_dq [d0, d1, d2, d3, d4] [d0, d1, d2, d3, d4] (jK_isRight_201 d0 d1 d2 d3 d4 (1 : Int32) M15))))))))))))) else (if (M (d3 + 1) (Int32.toNatClampNeg l1)) = (5 : Int32) then (sm_ck (M (d3 + 3) (Int32.toNatClampNeg l1)) 6 (sm_bi (jT_kindOf (M 32 (Int32.toNatClampNeg (M (d3 + 3) (Int32.toNatClampNeg l1)))) [d0, d1, d2, d3, d4] M) (fun x11 E11 M11 => sm_dq E11 [d0, d1, d2, d3, d4] (if x11 = (1 : Int32) then (if (M (d3 + 4) (Int32.toNatClampNeg l1)) = (0 : Int32) then (sm_ck (M (d3 + 3) (Int32.toNatClampNeg l1)) 6 (sm_bi (jT_firstOf (M11 32 (Int32.toNatClampNeg (M (d3 + 3) (Int32.toNatClampNeg l1)))) [d0, d1, d2, d3, d4] M11) (fun x13 E13 M13 => sm_dq E13 [d0, d1, d2, d3, d4] (sm_dq [d0, d1, d2, d3, d4] [d0, d1, d2, d3, d4] (jK_isRight_255 d0 d1 d2 d3 d4 (M (d3 + 2) (Int32.toNatClampNeg l1)) x13 M13))))) else (sm_ck (M (d3 + 3) (Int32.toNatClampNeg l1)) 6 (sm_bi (jT_secondOf (M11 32 (Int32.toNatClampNeg (M (d3 + 3) (Int32.toNatClampNeg l1)))) [d0, d1, d2, d3, d4] M11) (fun x12 E12 M12 => sm_dq E12 [d0, d1, d2, d3, d4] (sm_dq [d0, d1, d2, d3, d4] [d0, d1, d2, d3, d4] (jK_isRight_255 d0 d1 d2 d3 d4 (M (d3 + 2) (Int32.toNatClampNeg l1)) x12 M12)))))) else (sm_dq [d0, d1, d2, d3, d4] [d0, d1, d2, d3, d4] (jK_isRight_265 d0 d1 d2 d3 d4 M11)))))) else (if (M (d3 + 1) (Int32.toNatClampNeg l1)) = (6 : Int32) then (sm_bi (sm_ga [d3] gC (jC_hasBlock d3 (M (d3 + 3) (Int32.toNatClampNeg l1)) [d0, d1, d2, d3, d4] M)) (fun x8 E8 M8 => sm_dq E8 [d0, d1, d2, d3, d4] (if x8 = (0 : Int32) then (sm_dq [d0, d1, d2, d3, d4] [d0, d1, d2, d3, d4] (jK_isRight_295 d0 d1 d2 d3 d4 M8)) else (sm_bi (jK_typeOfBlock d0 d1 d2 d3 d4 (M (d3 + 3) (Int32.toNatClampNeg l1)) M8) (fun x9 E9 M9 => sm_dq E9 [d0, d1, d2, d3, d4] (sm_bi (jK_gets (M (d3 + 2) (Int32.toNatClampNeg l1)) x9 [d0, d1, d2, d3, d4] M9) (fun x10 E10 M10 => sm_dq E10 [d0, d1, d2, d3, d4] (if x10 = (0 : Int32) then (sm_dq [d0, d1, d2, d3, d4] [d0, d1, d2, d3, d4] (jK_isRight_295 d0 d1 d2 d3 d4 M10)) else (sm_dq [d0, d1, d2, d3, d4] [d0, d1, d2, d3, d4] (jK_isRight_296 d0 d1 d2 d3 d4 (1 : Int32) M10)))))))))) else (if (M (d3 + 1) (Int32.toNatClampNeg l1)) = (7 : Int32) then (sm_ck (M (d3 + 3) (Int32.toNatClampNeg l1)) 6 (sm_bi (jK_canWrap (M 32 (Int32.toNatClampNeg (M (d3 + 3) (Int32.toNatClampNeg l1)))) (M (d3 + 4) (Int32.toNatClampNeg l1)) [d0, d1, d2, d3, d4] M) (fun x6 E6 M6 => sm_dq E6 [d0, d1, d2, d3, d4] (if x6 = (0 : Int32) then (sm_dq [d0, d1, d2, d3, d4] [d0, d1, d2, d3, d4] (jK_isRight_326 d0 d1 d2 d3 d4 M6)) else (sm_bi (jK_gets (M (d3 + 2) (Int32.toNatClampNeg l1)) (M (d3 + 4) (Int32.toNatClampNeg l1)) [d0, d1, d2, d3, d4] M6) (fun x7 E7 M7 => sm_dq E7 [d0, d1, d2, d3, d4] (if x7 = (0 : Int32) then (sm_dq [d0, d1, d2, d3, d4] [d0, d1, d2, d3, d4] (jK_isRight_326 d0 d1 d2 d3 d4 M7)) else (sm_dq [d0, d1, d2, d3, d4] [d0, d1, d2, d3, d4] (jK_isRight_327 d0 d1 d2 d3 d4 (1 : Int32) M7))))))))) else (if (M (d3 + 1) (Int32.toNatClampNeg l1)) = (8 : Int32) then (sm_ck (M (d3 + 4) (Int32.toNatClampNeg l1)) 6 (sm_bi (jK_opens (M (d3 + 2) (Int32.toNatClampNeg l1)) (M (d3 + 3) (Int32.toNatClampNeg l1)) (M 32 (Int32.toNatClampNeg (M (d3 + 4) (Int32.toNatClampNeg l1)))) [d0, d1, d2, d3, d4] M) (fun x5 E5 M5 => sm_dq E5 [d0, d1, d2, d3, d4] (sm_bo x5 (some (x5, [d0, d1, d2, d3, d4], M5)))))) else (if (M (d3 + 1) (Int32.toNatClampNeg l1)) = (9 : Int32) then (sm_bi (jK_canEnter d0 d1 d2 d3 d4 (M (d3 + 2) (Int32.toNatClampNeg l1)) M) (fun x4 E4 M4 => sm_dq E4 [d0, d1, d2, d3, d4] (sm_bo x4 (some (x4, [d0, d1, d2, d3, d4], M4))))) else (if (M (d3 + 1) (Int32.toNatClampNeg l1)) = (10 : Int32) then (sm_ck (M (d3 + 2) (Int32.toNatClampNeg l1)) 6 (if (M 32 (Int32.toNatClampNeg (M (d3 + 2) (Int32.toNatClampNeg l1)))) = (0 : Int32) then (sm_bi (jK_canEnter d0 d1 d2 d3 d4 (M (d3 + 3) (Int32.toNatClampNeg l1)) M) (fun x3 E3 M3 => sm_dq E3 [d0, d1, d2, d3, d4] (if x3 = (0 : Int32) then (sm_dq [d0, d1, d2, d3, d4] [d0, d1, d2, d3, d4] (jK_isRight_369 d0 d1 d2 d3 d4 M3)) else (sm_dq [d0, d1, d2, d3, d4] [d0, d1, d2, d3, d4] (jK_isRight_370 d0 d1 d2 d3 d4 (1 : Int32) M3))))) else (sm_dq [d0, d1, d2, d3, d4] [d0, d1, d2, d3, d4] (jK_isRight_369 d0 d1 d2 d3 d4 M)))) else (if (M (d3 + 1) (Int32.toNatClampNeg l1)) = (11 : Int32) then (sm_ck (M (d3 + 2) (Int32.toNatClampNeg l1)) 6 (sm_bi (jT_kindOf (M 32 (Int32.toNatClampNeg (M (d3 + 2) (Int32.toNatClampNeg l1)))) [d0, d1, d2, d3, d4] M) (fun x1 E1 M1 => sm_dq E1 [d0, d1, d2, d3, d4] (if x1 = (4 : Int32) then (sm_ck (M (d3 + 2) (Int32.toNatClampNeg l1)) 6 (sm_bi (jK_canGo (M1 32 (Int32.toNatClampNeg (M (d3 + 2) (Int32.toNatClampNeg l1)))) [d0, d1, d2, d3, d4] M1) (fun x2 E2 M2 => sm_dq E2 [d0, d1, d2, d3, d4] (if x2 = (0 : Int32) then (sm_dq [d0, d1, d2, d3, d4] [d0, d1, d2, d3, d4] (jK_isRight_405 d0 d1 d2 d3 d4 M2)) else (sm_dq [d0, d1, d2, d3, d4] [d0, d1, d2, d3, d4] (jK_isRight_406 d0 d1 d2 d3 d4 (1 : Int32) M2)))))) else (sm_dq [d0, d1, d2, d3, d4] [d0, d1, d2, d3, d4] (jK_isRight_405 d0 d1 d2 d3 d4 M1)))))) else (sm_ck (2 : Int32) 6 (if (M 32 (Int32.toNatClampNeg (2 : Int32))) = (0 : Int32) then (sm_dq [d0, d1, d2, d3, d4] [d0, d1, d2, d3, d4] (jK_isRight_421 d0 d1 d2 d3 d4 (1 : Int32) M)) else (sm_dq [d0, d1, d2, d3, d4] [d0, d1, d2, d3, d4] (jK_isRight_421 d0 d1 d2 d3 d4 (0 : Int32) M))))))))))))))))))))
noncomputable def jK_ends_23 (s0 : Int32) (D : sm_D) (M : sm_M) : Option sm_S :=
  (sm_bo s0 (some (s0, D, M)))
noncomputable def jK_ends_18 (D : sm_D) (M : sm_M) : Option sm_S :=
  (jK_ends_23 (1 : Int32) D M)
noncomputable def jK_ends (l0 : Int32) (D : sm_D) (M : sm_M) : Option sm_S :=
  (if l0 = (9 : Int32) then (jK_ends_18 D M) else (if l0 = (11 : Int32) then (jK_ends_18 D M) else (if l0 = (12 : Int32) then (jK_ends_18 D M) else (jK_ends_23 (0 : Int32) D M))))
noncomputable def jK_firstWrong_82 (d0 d1 d2 d3 d4 : Nat) (l5 : Int32) (M : sm_M) : Option sm_S :=
  (some (l5, [d0, d1, d2, d3, d4], M))
noncomputable def jK_firstWrong_118 (d0 d1 d2 d3 d4 : Nat) (s0 : Int32) (M : sm_M) : Option sm_S :=
  (some (s0, [d0, d1, d2, d3, d4], M))
noncomputable def jK_firstWrong_60_c (d0 d1 d2 d3 d4 : Nat) (l2 l3 l4 l5 : Int32) (M : sm_M) : Option ((Int32 × Int32 × Int32 × Int32 × sm_M) ⊕ sm_S) :=
  (if l5 < l3 then (if l4 = (0 : Int32) then (sm_bi (sm_ga [d3] gC (jK_isRight d0 d1 d2 d3 d4 (l2 + l5) M)) (fun x1 E1 M1 => sm_dq E1 [d0, d1, d2, d3, d4] (if x1 = (0 : Int32) then (sm_dq [d0, d1, d2, d3, d4] [d0, d1, d2, d3, d4] (sm_inr (jK_firstWrong_82 d0 d1 d2 d3 d4 l5 M1))) else (sm_ck (l2 + l5) 300 (sm_bi (jK_ends (M1 (d3 + 1) (Int32.toNatClampNeg (l2 + l5))) [d0, d1, d2, d3, d4] M1) (fun x2 E2 M2 => sm_dq E2 [d0, d1, d2, d3, d4] (sm_dq [d0, d1, d2, d3, d4] [d0, d1, d2, d3, d4] (some (.inl (l2, l3, x2, (l5 + (1 : Int32)), M2)))))))))) else (sm_dq [d0, d1, d2, d3, d4] [d0, d1, d2, d3, d4] (sm_inr (jK_firstWrong_82 d0 d1 d2 d3 d4 l5 M)))) else (if l4 = (0 : Int32) then (sm_dq [d0, d1, d2, d3, d4] [d0, d1, d2, d3, d4] (sm_inr (jK_firstWrong_118 d0 d1 d2 d3 d4 l3 M))) else (sm_dq [d0, d1, d2, d3, d4] [d0, d1, d2, d3, d4] (sm_inr (jK_firstWrong_118 d0 d1 d2 d3 d4 (-1 : Int32) M)))))
noncomputable def jK_firstWrong_60_b (d0 d1 d2 d3 d4 : Nat) (s : Int32 × Int32 × Int32 × Int32 × sm_M) : Option ((Int32 × Int32 × Int32 × Int32 × sm_M) ⊕ sm_S) := jK_firstWrong_60_c d0 d1 d2 d3 d4 s.1 s.2.1 s.2.2.1 s.2.2.2.1 s.2.2.2.2
noncomputable def jK_firstWrong_60 (d0 d1 d2 d3 d4 : Nat) (l2 l3 l4 l5 : Int32) (M : sm_M) : Option sm_S := sm_lp (jK_firstWrong_60_b d0 d1 d2 d3 d4) (l2, l3, l4, l5, M)
noncomputable def jK_firstWrong_10_c (d0 d1 d2 d3 d4 : Nat) (l1 l2 : Int32) (M : sm_M) : Option ((Int32 × Int32 × sm_M) ⊕ sm_S) :=
  (if (3 : Int32) < l2 then (sm_bi (sm_ga [d3] gC (jC_startOf d3 l1 [d0, d1, d2, d3, d4] M)) (fun x1 E1 M1 => sm_dq E1 [d0, d1, d2, d3, d4] (sm_bi (sm_ga [d3] gC (jC_lengthOf d3 l1 [d0, d1, d2, d3, d4] M1)) (fun x2 E2 M2 => sm_dq E2 [d0, d1, d2, d3, d4] (sm_dq [d0, d1, d2, d3, d4] [d0, d1, d2, d3, d4] (sm_inr (jK_firstWrong_60 d0 d1 d2 d3 d4 x1 x2 (0 : Int32) (0 : Int32) M2))))))) else (sm_bi (sm_ga [d3] gC (jC_askedType d3 l1 l2 [d0, d1, d2, d3, d4] M)) (fun x3 E3 M3 => sm_dq E3 [d0, d1, d2, d3, d4] (sm_ck l2 6 (sm_dq [d0, d1, d2, d3, d4] [d0, d1, d2, d3, d4] (some (.inl (l1, (l2 + (1 : Int32)), (sm_up M3 32 (Int32.toNatClampNeg l2) x3)))))))))
noncomputable def jK_firstWrong_10_b (d0 d1 d2 d3 d4 : Nat) (s : Int32 × Int32 × sm_M) : Option ((Int32 × Int32 × sm_M) ⊕ sm_S) := jK_firstWrong_10_c d0 d1 d2 d3 d4 s.1 s.2.1 s.2.2
noncomputable def jK_firstWrong_10 (d0 d1 d2 d3 d4 : Nat) (l1 l2 : Int32) (M : sm_M) : Option sm_S := sm_lp (jK_firstWrong_10_b d0 d1 d2 d3 d4) (l1, l2, M)
noncomputable def jK_firstWrong (d0 d1 d2 d3 d4 : Nat) (l1 : Int32) (M : sm_M) : Option sm_S :=
  (sm_bi (sm_ga [32, 6] gF (jX_fill 32 6 (-1 : Int32) [d0, d1, d2, d3, d4] M)) (fun x1 E1 M1 => sm_dq E1 [d0, d1, d2, d3, d4] (sm_dq [d0, d1, d2, d3, d4] [d0, d1, d2, d3, d4] (jK_firstWrong_10 d0 d1 d2 d3 d4 l1 (1 : Int32) M1))))
noncomputable def jK_verdictOn_16_c (p d0 d1 d2 d3 d4 : Nat) (l2 : Int32) (M : sm_M) : Option ((Int32 × sm_M) ⊕ sm_S) :=
  (if l2 < (M p 11) then (sm_bi (sm_ga [p] gC (jK_firstWrong d0 d1 d2 p d4 l2 M)) (fun x1 E1 M1 => sm_dq E1 [d0, d1, d2, p, d4] (sm_bi (jT_forgetFrom (M 1 7) [d0, d1, d2, p, d4] M1) (fun x2 E2 M2 => sm_dq E2 [d0, d1, d2, p, d4] (if x1 = (-1 : Int32) then (sm_dq [d0, d1, d2, p, d4] [d0, d1, d2, p, d4] (some (.inl ((l2 + (1 : Int32)), M2)))) else (some (.inr ((((1000 : Int32) * l2) + x1), [d0, d1, d2, p, d4], M2)))))))) else (some (.inr ((-1 : Int32), [d0, d1, d2, p, d4], M))))
noncomputable def jK_verdictOn_16_b (p d0 d1 d2 d3 d4 : Nat) (s : Int32 × sm_M) : Option ((Int32 × sm_M) ⊕ sm_S) := jK_verdictOn_16_c p d0 d1 d2 d3 d4 s.1 s.2
noncomputable def jK_verdictOn_16 (p d0 d1 d2 d3 d4 : Nat) (l2 : Int32) (M : sm_M) : Option sm_S := sm_lp (jK_verdictOn_16_b p d0 d1 d2 d3 d4) (l2, M)
noncomputable def jK_verdictOn (p d0 d1 d2 d3 d4 : Nat) (M : sm_M) : Option sm_S :=
  (sm_bi (jK_beginsRight d0 d1 d2 p d4 M) (fun x1 E1 M1 => sm_dq E1 [d0, d1, d2, p, d4] (if x1 = (0 : Int32) then (some ((0 : Int32), [d0, d1, d2, p, d4], M1)) else (sm_dq [d0, d1, d2, p, d4] [d0, d1, d2, p, d4] (jK_verdictOn_16 p d0 d1 d2 d3 d4 (0 : Int32) M1)))))
noncomputable def jA_check (d0 d1 d2 d3 d4 : Nat) (M : sm_M) : Option sm_S :=
  (if (M d0 13) = (0 : Int32) then (sm_bi (sm_ga [d0] gC (jK_verdictOn d0 d0 d1 d2 d3 d4 M)) (fun x1 E1 M1 => sm_dq E1 [d0, d1, d2, d0, d4] (some (x1, [d0, d1, d2, d0, d4], M1)))) else (some ((M d0 14), [d0, d1, d2, d3, d4], M)))
noncomputable def jC_tellInstruction_12 (p : Nat) (D : sm_D) (M : sm_M) : Option sm_S :=
  (some ((-1 : Int32), D, M))
noncomputable def jC_tellInstruction (p : Nat) (l1 l2 : Int32) (D : sm_D) (M : sm_M) : Option sm_S :=
  (if l1 < (0 : Int32) then (jC_tellInstruction_12 p D M) else (if l1 < (M p 6) then (if l2 = (0 : Int32) then (sm_ck l1 300 (some ((M (p + 1) (Int32.toNatClampNeg l1)), D, M))) else (if l2 = (1 : Int32) then (sm_ck l1 300 (some ((M (p + 2) (Int32.toNatClampNeg l1)), D, M))) else (if l2 = (2 : Int32) then (sm_ck l1 300 (some ((M (p + 3) (Int32.toNatClampNeg l1)), D, M))) else (if l2 = (3 : Int32) then (sm_ck l1 300 (some ((M (p + 5) (Int32.toNatClampNeg l1)), D, M))) else (some ((-1 : Int32), D, M)))))) else (jC_tellInstruction_12 p D M)))
noncomputable def jA_instruction (d0 d1 d2 d3 d4 : Nat) (l1 l2 : Int32) (M : sm_M) : Option sm_S :=
  (sm_bi (sm_ga [d0] gC (jC_tellInstruction d0 l1 l2 [d0, d1, d2, d3, d4] M)) (fun x1 E1 M1 => sm_dq E1 [d0, d1, d2, d3, d4] (some (x1, [d0, d1, d2, d3, d4], M1))))
noncomputable def jC_tellBlock_58 (p : Nat) (l1 l2 : Int32) (D : sm_D) (M : sm_M) : Option sm_S :=
  (sm_ck ((((3 : Int32) * l1) + l2) - (2 : Int32)) 120 (some ((M (p + 9) (Int32.toNatClampNeg ((((3 : Int32) * l1) + l2) - (2 : Int32)))), D, M)))
noncomputable def jC_tellBlock (p : Nat) (l1 l2 : Int32) (D : sm_D) (M : sm_M) : Option sm_S :=
  (sm_bi (sm_ga [p] gC (jC_hasBlock p l1 D M)) (fun x1 E1 M1 => sm_dq E1 D (if x1 = (0 : Int32) then (some ((-1 : Int32), D, M1)) else (if l2 = (0 : Int32) then (sm_ck l1 40 (some ((M1 (p + 6) (Int32.toNatClampNeg l1)), D, M1))) else (if l2 = (1 : Int32) then (sm_ck l1 40 (some ((M1 (p + 7) (Int32.toNatClampNeg l1)), D, M1))) else (if l2 = (2 : Int32) then (sm_eqp p p (jC_tellBlock_58 p l1 l2 D M1)) else (if l2 = (3 : Int32) then (sm_eqp p p (jC_tellBlock_58 p l1 l2 D M1)) else (if l2 = (4 : Int32) then (sm_eqp p p (jC_tellBlock_58 p l1 l2 D M1)) else (some ((-1 : Int32), D, M1))))))))))
noncomputable def jA_look (d0 d1 d2 d3 d4 : Nat) (l1 l2 : Int32) (M : sm_M) : Option sm_S :=
  (sm_bi (sm_ga [d0] gC (jC_tellBlock d0 l1 l2 [d0, d1, d2, d3, d4] M)) (fun x1 E1 M1 => sm_dq E1 [d0, d1, d2, d3, d4] (some (x1, [d0, d1, d2, d3, d4], M1))))
noncomputable def jM_stop (l1 : Int32) (D : sm_D) (M : sm_M) : Option sm_S :=
  (sm_bo (0 : Int32) (some ((0 : Int32), D, (sm_up M 33 10 l1))))
noncomputable def jM_become (l1 l2 l3 : Int32) (D : sm_D) (M : sm_M) : Option sm_S :=
  (sm_ck l1 6 (sm_ck l1 6 (sm_bo (1 : Int32) (some ((1 : Int32), D, (sm_up (sm_up (sm_up M 34 (Int32.toNatClampNeg l1) l2) 35 (Int32.toNatClampNeg l1) l3) 33 9 (((sm_up (sm_up M 34 (Int32.toNatClampNeg l1) l2) 35 (Int32.toNatClampNeg l1) l3) 33 9) + (1 : Int32))))))))
noncomputable def jM_reckon_21 (D : sm_D) (M : sm_M) : Option sm_S :=
  (sm_bi (jM_stop (2 : Int32) D M) (fun x1 E1 M1 => sm_dq E1 D (sm_bo x1 (some (x1, D, M1)))))
noncomputable def jM_reckon (l1 l2 l3 l4 : Int32) (D : sm_D) (M : sm_M) : Option sm_S :=
  (sm_ck l3 6 (if (M 34 (Int32.toNatClampNeg l3)) = (1 : Int32) then (sm_ck l4 6 (if (M 34 (Int32.toNatClampNeg l4)) = (1 : Int32) then (if l1 = (1 : Int32) then (sm_ck l3 6 (sm_ck l4 6 (sm_bi (jM_become l2 (1 : Int32) ((M 35 (Int32.toNatClampNeg l3)) + (M 35 (Int32.toNatClampNeg l4))) D M) (fun x3 E3 M3 => sm_dq E3 D (sm_bo x3 (some (x3, D, M3))))))) else (if l1 = (2 : Int32) then (sm_ck l3 6 (sm_ck l4 6 (sm_bi (jM_become l2 (1 : Int32) ((M 35 (Int32.toNatClampNeg l3)) - (M 35 (Int32.toNatClampNeg l4))) D M) (fun x2 E2 M2 => sm_dq E2 D (sm_bo x2 (some (x2, D, M2))))))) else (sm_ck l3 6 (sm_ck l4 6 (sm_bi (jM_become l2 (1 : Int32) ((M 35 (Int32.toNatClampNeg l3)) * (M 35 (Int32.toNatClampNeg l4))) D M) (fun x1 E1 M1 => sm_dq E1 D (sm_bo x1 (some (x1, D, M1))))))))) else (jM_reckon_21 D M))) else (jM_reckon_21 D M)))
noncomputable def jM_pair_18 (D : sm_D) (M : sm_M) : Option sm_S :=
  (sm_bi (jM_stop (2 : Int32) D M) (fun x1 E1 M1 => sm_dq E1 D (sm_bo x1 (some (x1, D, M1)))))
noncomputable def jM_pair (l1 l2 l3 : Int32) (D : sm_D) (M : sm_M) : Option sm_S :=
  (sm_ck l2 6 (if (M 34 (Int32.toNatClampNeg l2)) = (0 : Int32) then (jM_pair_18 D M) else (sm_ck l3 6 (if (M 34 (Int32.toNatClampNeg l3)) = (0 : Int32) then (jM_pair_18 D M) else (if (M 33 6) = (400 : Int32) then (sm_bi (jM_stop (3 : Int32) D M) (fun x2 E2 M2 => sm_dq E2 D (sm_bo x2 (some (x2, D, M2))))) else (sm_ck l2 6 (sm_ck (M 33 6) 400 (sm_ck l2 6 (sm_ck ((sm_up M 36 (Int32.toNatClampNeg (M 33 6)) (M 34 (Int32.toNatClampNeg l2))) 33 6) 400 (sm_ck l3 6 (sm_ck ((sm_up (sm_up M 36 (Int32.toNatClampNeg (M 33 6)) (M 34 (Int32.toNatClampNeg l2))) 37 (Int32.toNatClampNeg ((sm_up M 36 (Int32.toNatClampNeg (M 33 6)) (M 34 (Int32.toNatClampNeg l2))) 33 6)) ((sm_up M 36 (Int32.toNatClampNeg (M 33 6)) (M 34 (Int32.toNatClampNeg l2))) 35 (Int32.toNatClampNeg l2))) 33 6) 400 (sm_ck l3 6 (sm_ck ((sm_up (sm_up (sm_up M 36 (Int32.toNatClampNeg (M 33 6)) (M 34 (Int32.toNatClampNeg l2))) 37 (Int32.toNatClampNeg ((sm_up M 36 (Int32.toNatClampNeg (M 33 6)) (M 34 (Int32.toNatClampNeg l2))) 33 6)) ((sm_up M 36 (Int32.toNatClampNeg (M 33 6)) (M 34 (Int32.toNatClampNeg l2))) 35 (Int32.toNatClampNeg l2))) 38 (Int32.toNatClampNeg ((sm_up (sm_up M 36 (Int32.toNatClampNeg (M 33 6)) (M 34 (Int32.toNatClampNeg l2))) 37 (Int32.toNatClampNeg ((sm_up M 36 (Int32.toNatClampNeg (M 33 6)) (M 34 (Int32.toNatClampNeg l2))) 33 6)) ((sm_up M 36 (Int32.toNatClampNeg (M 33 6)) (M 34 (Int32.toNatClampNeg l2))) 35 (Int32.toNatClampNeg l2))) 33 6)) ((sm_up (sm_up M 36 (Int32.toNatClampNeg (M 33 6)) (M 34 (Int32.toNatClampNeg l2))) 37 (Int32.toNatClampNeg ((sm_up M 36 (Int32.toNatClampNeg (M 33 6)) (M 34 (Int32.toNatClampNeg l2))) 33 6)) ((sm_up M 36 (Int32.toNatClampNeg (M 33 6)) (M 34 (Int32.toNatClampNeg l2))) 35 (Int32.toNatClampNeg l2))) 34 (Int32.toNatClampNeg l3))) 33 6) 400 (sm_bi (jM_become l1 (3 : Int32) (((sm_up (sm_up (sm_up (sm_up (sm_up M 36 (Int32.toNatClampNeg (M 33 6)) (M 34 (Int32.toNatClampNeg l2))) 37 (Int32.toNatClampNeg ((sm_up M 36 (Int32.toNatClampNeg (M 33 6)) (M 34 (Int32.toNatClampNeg l2))) 33 6)) ((sm_up M 36 (Int32.toNatClampNeg (M 33 6)) (M 34 (Int32.toNatClampNeg l2))) 35 (Int32.toNatClampNeg l2))) 38 (Int32.toNatClampNeg ((sm_up (sm_up M 36 (Int32.toNatClampNeg (M 33 6)) (M 34 (Int32.toNatClampNeg l2))) 37 (Int32.toNatClampNeg ((sm_up M 36 (Int32.toNatClampNeg (M 33 6)) (M 34 (Int32.toNatClampNeg l2))) 33 6)) ((sm_up M 36 (Int32.toNatClampNeg (M 33 6)) (M 34 (Int32.toNatClampNeg l2))) 35 (Int32.toNatClampNeg l2))) 33 6)) ((sm_up (sm_up M 36 (Int32.toNatClampNeg (M 33 6)) (M 34 (Int32.toNatClampNeg l2))) 37 (Int32.toNatClampNeg ((sm_up M 36 (Int32.toNatClampNeg (M 33 6)) (M 34 (Int32.toNatClampNeg l2))) 33 6)) ((sm_up M 36 (Int32.toNatClampNeg (M 33 6)) (M 34 (Int32.toNatClampNeg l2))) 35 (Int32.toNatClampNeg l2))) 34 (Int32.toNatClampNeg l3))) 39 (Int32.toNatClampNeg ((sm_up (sm_up (sm_up M 36 (Int32.toNatClampNeg (M 33 6)) (M 34 (Int32.toNatClampNeg l2))) 37 (Int32.toNatClampNeg ((sm_up M 36 (Int32.toNatClampNeg (M 33 6)) (M 34 (Int32.toNatClampNeg l2))) 33 6)) ((sm_up M 36 (Int32.toNatClampNeg (M 33 6)) (M 34 (Int32.toNatClampNeg l2))) 35 (Int32.toNatClampNeg l2))) 38 (Int32.toNatClampNeg ((sm_up (sm_up M 36 (Int32.toNatClampNeg (M 33 6)) (M 34 (Int32.toNatClampNeg l2))) 37 (Int32.toNatClampNeg ((sm_up M 36 (Int32.toNatClampNeg (M 33 6)) (M 34 (Int32.toNatClampNeg l2))) 33 6)) ((sm_up M 36 (Int32.toNatClampNeg (M 33 6)) (M 34 (Int32.toNatClampNeg l2))) 35 (Int32.toNatClampNeg l2))) 33 6)) ((sm_up (sm_up M 36 (Int32.toNatClampNeg (M 33 6)) (M 34 (Int32.toNatClampNeg l2))) 37 (Int32.toNatClampNeg ((sm_up M 36 (Int32.toNatClampNeg (M 33 6)) (M 34 (Int32.toNatClampNeg l2))) 33 6)) ((sm_up M 36 (Int32.toNatClampNeg (M 33 6)) (M 34 (Int32.toNatClampNeg l2))) 35 (Int32.toNatClampNeg l2))) 34 (Int32.toNatClampNeg l3))) 33 6)) ((sm_up (sm_up (sm_up M 36 (Int32.toNatClampNeg (M 33 6)) (M 34 (Int32.toNatClampNeg l2))) 37 (Int32.toNatClampNeg ((sm_up M 36 (Int32.toNatClampNeg (M 33 6)) (M 34 (Int32.toNatClampNeg l2))) 33 6)) ((sm_up M 36 (Int32.toNatClampNeg (M 33 6)) (M 34 (Int32.toNatClampNeg l2))) 35 (Int32.toNatClampNeg l2))) 38 (Int32.toNatClampNeg ((sm_up (sm_up M 36 (Int32.toNatClampNeg (M 33 6)) (M 34 (Int32.toNatClampNeg l2))) 37 (Int32.toNatClampNeg ((sm_up M 36 (Int32.toNatClampNeg (M 33 6)) (M 34 (Int32.toNatClampNeg l2))) 33 6)) ((sm_up M 36 (Int32.toNatClampNeg (M 33 6)) (M 34 (Int32.toNatClampNeg l2))) 35 (Int32.toNatClampNeg l2))) 33 6)) ((sm_up (sm_up M 36 (Int32.toNatClampNeg (M 33 6)) (M 34 (Int32.toNatClampNeg l2))) 37 (Int32.toNatClampNeg ((sm_up M 36 (Int32.toNatClampNeg (M 33 6)) (M 34 (Int32.toNatClampNeg l2))) 33 6)) ((sm_up M 36 (Int32.toNatClampNeg (M 33 6)) (M 34 (Int32.toNatClampNeg l2))) 35 (Int32.toNatClampNeg l2))) 34 (Int32.toNatClampNeg l3))) 35 (Int32.toNatClampNeg l3))) 33 6 (((sm_up (sm_up (sm_up (sm_up M 36 (Int32.toNatClampNeg (M 33 6)) (M 34 (Int32.toNatClampNeg l2))) 37 (Int32.toNatClampNeg ((sm_up M 36 (Int32.toNatClampNeg (M 33 6)) (M 34 (Int32.toNatClampNeg l2))) 33 6)) ((sm_up M 36 (Int32.toNatClampNeg (M 33 6)) (M 34 (Int32.toNatClampNeg l2))) 35 (Int32.toNatClampNeg l2))) 38 (Int32.toNatClampNeg ((sm_up (sm_up M 36 (Int32.toNatClampNeg (M 33 6)) (M 34 (Int32.toNatClampNeg l2))) 37 (Int32.toNatClampNeg ((sm_up M 36 (Int32.toNatClampNeg (M 33 6)) (M 34 (Int32.toNatClampNeg l2))) 33 6)) ((sm_up M 36 (Int32.toNatClampNeg (M 33 6)) (M 34 (Int32.toNatClampNeg l2))) 35 (Int32.toNatClampNeg l2))) 33 6)) ((sm_up (sm_up M 36 (Int32.toNatClampNeg (M 33 6)) (M 34 (Int32.toNatClampNeg l2))) 37 (Int32.toNatClampNeg ((sm_up M 36 (Int32.toNatClampNeg (M 33 6)) (M 34 (Int32.toNatClampNeg l2))) 33 6)) ((sm_up M 36 (Int32.toNatClampNeg (M 33 6)) (M 34 (Int32.toNatClampNeg l2))) 35 (Int32.toNatClampNeg l2))) 34 (Int32.toNatClampNeg l3))) 39 (Int32.toNatClampNeg ((sm_up (sm_up (sm_up M 36 (Int32.toNatClampNeg (M 33 6)) (M 34 (Int32.toNatClampNeg l2))) 37 (Int32.toNatClampNeg ((sm_up M 36 (Int32.toNatClampNeg (M 33 6)) (M 34 (Int32.toNatClampNeg l2))) 33 6)) ((sm_up M 36 (Int32.toNatClampNeg (M 33 6)) (M 34 (Int32.toNatClampNeg l2))) 35 (Int32.toNatClampNeg l2))) 38 (Int32.toNatClampNeg ((sm_up (sm_up M 36 (Int32.toNatClampNeg (M 33 6)) (M 34 (Int32.toNatClampNeg l2))) 37 (Int32.toNatClampNeg ((sm_up M 36 (Int32.toNatClampNeg (M 33 6)) (M 34 (Int32.toNatClampNeg l2))) 33 6)) ((sm_up M 36 (Int32.toNatClampNeg (M 33 6)) (M 34 (Int32.toNatClampNeg l2))) 35 (Int32.toNatClampNeg l2))) 33 6)) ((sm_up (sm_up M 36 (Int32.toNatClampNeg (M 33 6)) (M 34 (Int32.toNatClampNeg l2))) 37 (Int32.toNatClampNeg ((sm_up M 36 (Int32.toNatClampNeg (M 33 6)) (M 34 (Int32.toNatClampNeg l2))) 33 6)) ((sm_up M 36 (Int32.toNatClampNeg (M 33 6)) (M 34 (Int32.toNatClampNeg l2))) 35 (Int32.toNatClampNeg l2))) 34 (Int32.toNatClampNeg l3))) 33 6)) ((sm_up (sm_up (sm_up M 36 (Int32.toNatClampNeg (M 33 6)) (M 34 (Int32.toNatClampNeg l2))) 37 (Int32.toNatClampNeg ((sm_up M 36 (Int32.toNatClampNeg (M 33 6)) (M 34 (Int32.toNatClampNeg l2))) 33 6)) ((sm_up M 36 (Int32.toNatClampNeg (M 33 6)) (M 34 (Int32.toNatClampNeg l2))) 35 (Int32.toNatClampNeg l2))) 38 (Int32.toNatClampNeg ((sm_up (sm_up M 36 (Int32.toNatClampNeg (M 33 6)) (M 34 (Int32.toNatClampNeg l2))) 37 (Int32.toNatClampNeg ((sm_up M 36 (Int32.toNatClampNeg (M 33 6)) (M 34 (Int32.toNatClampNeg l2))) 33 6)) ((sm_up M 36 (Int32.toNatClampNeg (M 33 6)) (M 34 (Int32.toNatClampNeg l2))) 35 (Int32.toNatClampNeg l2))) 33 6)) ((sm_up (sm_up M 36 (Int32.toNatClampNeg (M 33 6)) (M 34 (Int32.toNatClampNeg l2))) 37 (Int32.toNatClampNeg ((sm_up M 36 (Int32.toNatClampNeg (M 33 6)) (M 34 (Int32.toNatClampNeg l2))) 33 6)) ((sm_up M 36 (Int32.toNatClampNeg (M 33 6)) (M 34 (Int32.toNatClampNeg l2))) 35 (Int32.toNatClampNeg l2))) 34 (Int32.toNatClampNeg l3))) 35 (Int32.toNatClampNeg l3))) 33 6) + (1 : Int32))) 33 6) - (1 : Int32)) D (sm_up (sm_up (sm_up (sm_up (sm_up M 36 (Int32.toNatClampNeg (M 33 6)) (M 34 (Int32.toNatClampNeg l2))) 37 (Int32.toNatClampNeg ((sm_up M 36 (Int32.toNatClampNeg (M 33 6)) (M 34 (Int32.toNatClampNeg l2))) 33 6)) ((sm_up M 36 (Int32.toNatClampNeg (M 33 6)) (M 34 (Int32.toNatClampNeg l2))) 35 (Int32.toNatClampNeg l2))) 38 (Int32.toNatClampNeg ((sm_up (sm_up M 36 (Int32.toNatClampNeg (M 33 6)) (M 34 (Int32.toNatClampNeg l2))) 37 (Int32.toNatClampNeg ((sm_up M 36 (Int32.toNatClampNeg (M 33 6)) (M 34 (Int32.toNatClampNeg l2))) 33 6)) ((sm_up M 36 (Int32.toNatClampNeg (M 33 6)) (M 34 (Int32.toNatClampNeg l2))) 35 (Int32.toNatClampNeg l2))) 33 6)) ((sm_up (sm_up M 36 (Int32.toNatClampNeg (M 33 6)) (M 34 (Int32.toNatClampNeg l2))) 37 (Int32.toNatClampNeg ((sm_up M 36 (Int32.toNatClampNeg (M 33 6)) (M 34 (Int32.toNatClampNeg l2))) 33 6)) ((sm_up M 36 (Int32.toNatClampNeg (M 33 6)) (M 34 (Int32.toNatClampNeg l2))) 35 (Int32.toNatClampNeg l2))) 34 (Int32.toNatClampNeg l3))) 39 (Int32.toNatClampNeg ((sm_up (sm_up (sm_up M 36 (Int32.toNatClampNeg (M 33 6)) (M 34 (Int32.toNatClampNeg l2))) 37 (Int32.toNatClampNeg ((sm_up M 36 (Int32.toNatClampNeg (M 33 6)) (M 34 (Int32.toNatClampNeg l2))) 33 6)) ((sm_up M 36 (Int32.toNatClampNeg (M 33 6)) (M 34 (Int32.toNatClampNeg l2))) 35 (Int32.toNatClampNeg l2))) 38 (Int32.toNatClampNeg ((sm_up (sm_up M 36 (Int32.toNatClampNeg (M 33 6)) (M 34 (Int32.toNatClampNeg l2))) 37 (Int32.toNatClampNeg ((sm_up M 36 (Int32.toNatClampNeg (M 33 6)) (M 34 (Int32.toNatClampNeg l2))) 33 6)) ((sm_up M 36 (Int32.toNatClampNeg (M 33 6)) (M 34 (Int32.toNatClampNeg l2))) 35 (Int32.toNatClampNeg l2))) 33 6)) ((sm_up (sm_up M 36 (Int32.toNatClampNeg (M 33 6)) (M 34 (Int32.toNatClampNeg l2))) 37 (Int32.toNatClampNeg ((sm_up M 36 (Int32.toNatClampNeg (M 33 6)) (M 34 (Int32.toNatClampNeg l2))) 33 6)) ((sm_up M 36 (Int32.toNatClampNeg (M 33 6)) (M 34 (Int32.toNatClampNeg l2))) 35 (Int32.toNatClampNeg l2))) 34 (Int32.toNatClampNeg l3))) 33 6)) ((sm_up (sm_up (sm_up M 36 (Int32.toNatClampNeg (M 33 6)) (M 34 (Int32.toNatClampNeg l2))) 37 (Int32.toNatClampNeg ((sm_up M 36 (Int32.toNatClampNeg (M 33 6)) (M 34 (Int32.toNatClampNeg l2))) 33 6)) ((sm_up M 36 (Int32.toNatClampNeg (M 33 6)) (M 34 (Int32.toNatClampNeg l2))) 35 (Int32.toNatClampNeg l2))) 38 (Int32.toNatClampNeg ((sm_up (sm_up M 36 (Int32.toNatClampNeg (M 33 6)) (M 34 (Int32.toNatClampNeg l2))) 37 (Int32.toNatClampNeg ((sm_up M 36 (Int32.toNatClampNeg (M 33 6)) (M 34 (Int32.toNatClampNeg l2))) 33 6)) ((sm_up M 36 (Int32.toNatClampNeg (M 33 6)) (M 34 (Int32.toNatClampNeg l2))) 35 (Int32.toNatClampNeg l2))) 33 6)) ((sm_up (sm_up M 36 (Int32.toNatClampNeg (M 33 6)) (M 34 (Int32.toNatClampNeg l2))) 37 (Int32.toNatClampNeg ((sm_up M 36 (Int32.toNatClampNeg (M 33 6)) (M 34 (Int32.toNatClampNeg l2))) 33 6)) ((sm_up M 36 (Int32.toNatClampNeg (M 33 6)) (M 34 (Int32.toNatClampNeg l2))) 35 (Int32.toNatClampNeg l2))) 34 (Int32.toNatClampNeg l3))) 35 (Int32.toNatClampNeg l3))) 33 6 (((sm_up (sm_up (sm_up (sm_up M 36 (Int32.toNatClampNeg (M 33 6)) (M 34 (Int32.toNatClampNeg l2))) 37 (Int32.toNatClampNeg ((sm_up M 36 (Int32.toNatClampNeg (M 33 6)) (M 34 (Int32.toNatClampNeg l2))) 33 6)) ((sm_up M 36 (Int32.toNatClampNeg (M 33 6)) (M 34 (Int32.toNatClampNeg l2))) 35 (Int32.toNatClampNeg l2))) 38 (Int32.toNatClampNeg ((sm_up (sm_up M 36 (Int32.toNatClampNeg (M 33 6)) (M 34 (Int32.toNatClampNeg l2))) 37 (Int32.toNatClampNeg ((sm_up M 36 (Int32.toNatClampNeg (M 33 6)) (M 34 (Int32.toNatClampNeg l2))) 33 6)) ((sm_up M 36 (Int32.toNatClampNeg (M 33 6)) (M 34 (Int32.toNatClampNeg l2))) 35 (Int32.toNatClampNeg l2))) 33 6)) ((sm_up (sm_up M 36 (Int32.toNatClampNeg (M 33 6)) (M 34 (Int32.toNatClampNeg l2))) 37 (Int32.toNatClampNeg ((sm_up M 36 (Int32.toNatClampNeg (M 33 6)) (M 34 (Int32.toNatClampNeg l2))) 33 6)) ((sm_up M 36 (Int32.toNatClampNeg (M 33 6)) (M 34 (Int32.toNatClampNeg l2))) 35 (Int32.toNatClampNeg l2))) 34 (Int32.toNatClampNeg l3))) 39 (Int32.toNatClampNeg ((sm_up (sm_up (sm_up M 36 (Int32.toNatClampNeg (M 33 6)) (M 34 (Int32.toNatClampNeg l2))) 37 (Int32.toNatClampNeg ((sm_up M 36 (Int32.toNatClampNeg (M 33 6)) (M 34 (Int32.toNatClampNeg l2))) 33 6)) ((sm_up M 36 (Int32.toNatClampNeg (M 33 6)) (M 34 (Int32.toNatClampNeg l2))) 35 (Int32.toNatClampNeg l2))) 38 (Int32.toNatClampNeg ((sm_up (sm_up M 36 (Int32.toNatClampNeg (M 33 6)) (M 34 (Int32.toNatClampNeg l2))) 37 (Int32.toNatClampNeg ((sm_up M 36 (Int32.toNatClampNeg (M 33 6)) (M 34 (Int32.toNatClampNeg l2))) 33 6)) ((sm_up M 36 (Int32.toNatClampNeg (M 33 6)) (M 34 (Int32.toNatClampNeg l2))) 35 (Int32.toNatClampNeg l2))) 33 6)) ((sm_up (sm_up M 36 (Int32.toNatClampNeg (M 33 6)) (M 34 (Int32.toNatClampNeg l2))) 37 (Int32.toNatClampNeg ((sm_up M 36 (Int32.toNatClampNeg (M 33 6)) (M 34 (Int32.toNatClampNeg l2))) 33 6)) ((sm_up M 36 (Int32.toNatClampNeg (M 33 6)) (M 34 (Int32.toNatClampNeg l2))) 35 (Int32.toNatClampNeg l2))) 34 (Int32.toNatClampNeg l3))) 33 6)) ((sm_up (sm_up (sm_up M 36 (Int32.toNatClampNeg (M 33 6)) (M 34 (Int32.toNatClampNeg l2))) 37 (Int32.toNatClampNeg ((sm_up M 36 (Int32.toNatClampNeg (M 33 6)) (M 34 (Int32.toNatClampNeg l2))) 33 6)) ((sm_up M 36 (Int32.toNatClampNeg (M 33 6)) (M 34 (Int32.toNatClampNeg l2))) 35 (Int32.toNatClampNeg l2))) 38 (Int32.toNatClampNeg ((sm_up (sm_up M 36 (Int32.toNatClampNeg (M 33 6)) (M 34 (Int32.toNatClampNeg l2))) 37 (Int32.toNatClampNeg ((sm_up M 36 (Int32.toNatClampNeg (M 33 6)) (M 34 (Int32.toNatClampNeg l2))) 33 6)) ((sm_up M 36 (Int32.toNatClampNeg (M 33 6)) (M 34 (Int32.toNatClampNeg l2))) 35 (Int32.toNatClampNeg l2))) 33 6)) ((sm_up (sm_up M 36 (Int32.toNatClampNeg (M 33 6)) (M 34 (Int32.toNatClampNeg l2))) 37 (Int32.toNatClampNeg ((sm_up M 36 (Int32.toNatClampNeg (M 33 6)) (M 34 (Int32.toNatClampNeg l2))) 33 6)) ((sm_up M 36 (Int32.toNatClampNeg (M 33 6)) (M 34 (Int32.toNatClampNeg l2))) 35 (Int32.toNatClampNeg l2))) 34 (Int32.toNatClampNeg l3))) 35 (Int32.toNatClampNeg l3))) 33 6) + (1 : Int32)))) (fun x1 E1 M1 => sm_dq E1 D (sm_bo x1 (some (x1, D, M1))))))))))))))))))
noncomputable def jM_load_69 (s0 : Int32) (D : sm_D) (M : sm_M) : Option sm_S :=
  (sm_bo s0 (some (s0, D, M)))
noncomputable def jM_load (l1 l2 l3 : Int32) (D : sm_D) (M : sm_M) : Option sm_S :=
  (sm_ck l2 6 (if (M 34 (Int32.toNatClampNeg l2)) = (3 : Int32) then (sm_ck l2 6 (if l3 = (0 : Int32) then (sm_ck (M 35 (Int32.toNatClampNeg l2)) 400 (sm_ck (M 35 (Int32.toNatClampNeg l2)) 400 (sm_bi (jM_become l1 (M 36 (Int32.toNatClampNeg (M 35 (Int32.toNatClampNeg l2)))) (M 37 (Int32.toNatClampNeg (M 35 (Int32.toNatClampNeg l2)))) D M) (fun x2 E2 M2 => sm_dq E2 D (jM_load_69 x2 D M2))))) else (sm_ck (M 35 (Int32.toNatClampNeg l2)) 400 (sm_ck (M 35 (Int32.toNatClampNeg l2)) 400 (sm_bi (jM_become l1 (M 38 (Int32.toNatClampNeg (M 35 (Int32.toNatClampNeg l2)))) (M 39 (Int32.toNatClampNeg (M 35 (Int32.toNatClampNeg l2)))) D M) (fun x1 E1 M1 => sm_dq E1 D (jM_load_69 x1 D M1))))))) else (sm_bi (jM_stop (2 : Int32) D M) (fun x3 E3 M3 => sm_dq E3 D (sm_bo x3 (some (x3, D, M3)))))))
noncomputable def jM_unwrap_25 (D : sm_D) (M : sm_M) : Option sm_S :=
  (sm_bi (jM_stop (2 : Int32) D M) (fun x1 E1 M1 => sm_dq E1 D (sm_bo x1 (some (x1, D, M1)))))
noncomputable def jM_unwrap (l1 l2 l3 : Int32) (D : sm_D) (M : sm_M) : Option sm_S :=
  (sm_ck l3 6 (if (M 34 (Int32.toNatClampNeg l3)) = (4 : Int32) then (sm_ck l3 6 (sm_ck (M 35 (Int32.toNatClampNeg l3)) 400 (if (M 36 (Int32.toNatClampNeg (M 35 (Int32.toNatClampNeg l3)))) = (2 : Int32) then (sm_ck l3 6 (sm_ck l1 6 (sm_ck (M 35 (Int32.toNatClampNeg l3)) 400 (sm_ck l1 6 (sm_ck (M 35 (Int32.toNatClampNeg l3)) 400 (sm_ck (M 35 (Int32.toNatClampNeg l3)) 400 (sm_bi (jM_become l2 ((sm_up (sm_up M 34 (Int32.toNatClampNeg l1) (2 : Int32)) 35 (Int32.toNatClampNeg l1) ((sm_up M 34 (Int32.toNatClampNeg l1) (2 : Int32)) 37 (Int32.toNatClampNeg (M 35 (Int32.toNatClampNeg l3))))) 38 (Int32.toNatClampNeg (M 35 (Int32.toNatClampNeg l3)))) ((sm_up (sm_up M 34 (Int32.toNatClampNeg l1) (2 : Int32)) 35 (Int32.toNatClampNeg l1) ((sm_up M 34 (Int32.toNatClampNeg l1) (2 : Int32)) 37 (Int32.toNatClampNeg (M 35 (Int32.toNatClampNeg l3))))) 39 (Int32.toNatClampNeg (M 35 (Int32.toNatClampNeg l3)))) D (sm_up (sm_up M 34 (Int32.toNatClampNeg l1) (2 : Int32)) 35 (Int32.toNatClampNeg l1) ((sm_up M 34 (Int32.toNatClampNeg l1) (2 : Int32)) 37 (Int32.toNatClampNeg (M 35 (Int32.toNatClampNeg l3)))))) (fun x1 E1 M1 => sm_dq E1 D (sm_bo x1 (some (x1, D, M1))))))))))) else (jM_unwrap_25 D M)))) else (jM_unwrap_25 D M)))
noncomputable def jM_enter (d0 d1 d2 d3 d4 : Nat) (l1 : Int32) (M : sm_M) : Option sm_S :=
  (sm_bi (sm_ga [d2] gC (jC_hasBlock d2 l1 [d0, d1, d2, d3, d4] M)) (fun x1 E1 M1 => sm_dq E1 [d0, d1, d2, d3, d4] (if x1 = (0 : Int32) then (sm_bi (jM_stop (2 : Int32) [d0, d1, d2, d3, d4] M1) (fun x2 E2 M2 => sm_dq E2 [d0, d1, d2, d3, d4] (sm_bo x2 (some (x2, [d0, d1, d2, d3, d4], M2))))) else (sm_bo (1 : Int32) (some ((1 : Int32), [d0, d1, d2, d3, d4], (sm_up (sm_up M1 33 8 l1) 33 9 (0 : Int32))))))))
noncomputable def jM_branch (d0 d1 d2 d3 d4 : Nat) (l1 l2 : Int32) (M : sm_M) : Option sm_S :=
  (sm_ck l1 6 (if (M 34 (Int32.toNatClampNeg l1)) = (1 : Int32) then (sm_ck l1 6 (if (M 35 (Int32.toNatClampNeg l1)) = (0 : Int32) then (sm_bo (1 : Int32) (some ((1 : Int32), [d0, d1, d2, d3, d4], (sm_up M 33 9 ((M 33 9) + (1 : Int32)))))) else (sm_bi (jM_enter d0 d1 d2 d3 d4 l2 M) (fun x1 E1 M1 => sm_dq E1 [d0, d1, d2, d3, d4] (sm_bo x1 (some (x1, [d0, d1, d2, d3, d4], M1))))))) else (sm_bi (jM_stop (2 : Int32) [d0, d1, d2, d3, d4] M) (fun x2 E2 M2 => sm_dq E2 [d0, d1, d2, d3, d4] (sm_bo x2 (some (x2, [d0, d1, d2, d3, d4], M2)))))))
noncomputable def jM_perform_152 (d0 d1 d2 d3 d4 : Nat) (l1 l2 l3 l4 : Int32) (M : sm_M) : Option sm_S :=
  (sm_ck l1 300 (sm_bi (jM_reckon (M (d2 + 1) (Int32.toNatClampNeg l1)) l2 l3 l4 [d0, d1, d2, d3, d4] M) (fun x1 E1 M1 => sm_dq E1 [d0, d1, d2, d3, d4] (sm_bo x1 (some (x1, [d0, d1, d2, d3, d4], M1))))))
noncomputable def jM_perform_226 (d0 d1 d2 d3 d4 : Nat) (s0 : Int32) (M : sm_M) : Option sm_S :=
  (sm_bo s0 (some (s0, [d0, d1, d2, d3, d4], M)))
noncomputable def jM_perform_277 (d0 d1 d2 d3 d4 : Nat) (s0 : Int32) (M : sm_M) : Option sm_S :=
  (sm_bo s0 (some (s0, [d0, d1, d2, d3, d4], M)))
noncomputable def jM_perform (d0 d1 d2 d3 d4 : Nat) (M : sm_M) : Option sm_S :=
  (sm_bi (sm_ga [d2] gC (jC_lengthOf d2 (M 33 8) [d0, d1, d2, d3, d4] M)) (fun x1 E1 M1 => sm_dq E1 [d0, d1, d2, d3, d4] (if (M 33 9) < x1 then (sm_bi (sm_ga [d2] gC (jC_startOf d2 (M1 33 8) [d0, d1, d2, d3, d4] M1)) (fun x2 E2 M2 => sm_dq E2 [d0, d1, d2, d3, d4] (sm_ck (x2 + (M2 33 9)) 300 (sm_ck (x2 + (M2 33 9)) 300 (sm_ck (x2 + (M2 33 9)) 300 (sm_ck (x2 + (M2 33 9)) 300 (if (M2 (d2 + 1) (Int32.toNatClampNeg (x2 + (M2 33 9)))) = (0 : Int32) then (sm_bi (jM_become (M2 (d2 + 2) (Int32.toNatClampNeg (x2 + (M2 33 9)))) (1 : Int32) (M2 (d2 + 3) (Int32.toNatClampNeg (x2 + (M2 33 9)))) [d0, d1, d2, d3, d4] M2) (fun x13 E13 M13 => sm_dq E13 [d0, d1, d2, d3, d4] (sm_bo x13 (some (x13, [d0, d1, d2, d3, d4], M13))))) else (if (M2 (d2 + 1) (Int32.toNatClampNeg (x2 + (M2 33 9)))) = (1 : Int32) then (sm_dq [d0, d1, d2, d3, d4] [d0, d1, d2, d3, d4] (jM_perform_152 d0 d1 d2 d3 d4 (x2 + (M2 33 9)) (M2 (d2 + 2) (Int32.toNatClampNeg (x2 + (M2 33 9)))) (M2 (d2 + 3) (Int32.toNatClampNeg (x2 + (M2 33 9)))) (M2 (d2 + 4) (Int32.toNatClampNeg (x2 + (M2 33 9)))) M2)) else (if (M2 (d2 + 1) (Int32.toNatClampNeg (x2 + (M2 33 9)))) = (2 : Int32) then (sm_dq [d0, d1, d2, d3, d4] [d0, d1, d2, d3, d4] (jM_perform_152 d0 d1 d2 d3 d4 (x2 + (M2 33 9)) (M2 (d2 + 2) (Int32.toNatClampNeg (x2 + (M2 33 9)))) (M2 (d2 + 3) (Int32.toNatClampNeg (x2 + (M2 33 9)))) (M2 (d2 + 4) (Int32.toNatClampNeg (x2 + (M2 33 9)))) M2)) else (if (M2 (d2 + 1) (Int32.toNatClampNeg (x2 + (M2 33 9)))) = (3 : Int32) then (sm_dq [d0, d1, d2, d3, d4] [d0, d1, d2, d3, d4] (jM_perform_152 d0 d1 d2 d3 d4 (x2 + (M2 33 9)) (M2 (d2 + 2) (Int32.toNatClampNeg (x2 + (M2 33 9)))) (M2 (d2 + 3) (Int32.toNatClampNeg (x2 + (M2 33 9)))) (M2 (d2 + 4) (Int32.toNatClampNeg (x2 + (M2 33 9)))) M2)) else (if (M2 (d2 + 1) (Int32.toNatClampNeg (x2 + (M2 33 9)))) = (4 : Int32) then (sm_bi (jM_pair (M2 (d2 + 2) (Int32.toNatClampNeg (x2 + (M2 33 9)))) (M2 (d2 + 3) (Int32.toNatClampNeg (x2 + (M2 33 9)))) (M2 (d2 + 4) (Int32.toNatClampNeg (x2 + (M2 33 9)))) [d0, d1, d2, d3, d4] M2) (fun x12 E12 M12 => sm_dq E12 [d0, d1, d2, d3, d4] (sm_bo x12 (some (x12, [d0, d1, d2, d3, d4], M12))))) else (if (M2 (d2 + 1) (Int32.toNatClampNeg (x2 + (M2 33 9)))) = (5 : Int32) then (sm_bi (jM_load (M2 (d2 + 2) (Int32.toNatClampNeg (x2 + (M2 33 9)))) (M2 (d2 + 3) (Int32.toNatClampNeg (x2 + (M2 33 9)))) (M2 (d2 + 4) (Int32.toNatClampNeg (x2 + (M2 33 9)))) [d0, d1, d2, d3, d4] M2) (fun x11 E11 M11 => sm_dq E11 [d0, d1, d2, d3, d4] (sm_bo x11 (some (x11, [d0, d1, d2, d3, d4], M11))))) else (if (M2 (d2 + 1) (Int32.toNatClampNeg (x2 + (M2 33 9)))) = (6 : Int32) then (sm_bi (jM_become (M2 (d2 + 2) (Int32.toNatClampNeg (x2 + (M2 33 9)))) (2 : Int32) (M2 (d2 + 3) (Int32.toNatClampNeg (x2 + (M2 33 9)))) [d0, d1, d2, d3, d4] M2) (fun x10 E10 M10 => sm_dq E10 [d0, d1, d2, d3, d4] (sm_bo x10 (some (x10, [d0, d1, d2, d3, d4], M10))))) else (if (M2 (d2 + 1) (Int32.toNatClampNeg (x2 + (M2 33 9)))) = (7 : Int32) then (sm_ck (M2 (d2 + 3) (Int32.toNatClampNeg (x2 + (M2 33 9)))) 6 (if (M2 34 (Int32.toNatClampNeg (M2 (d2 + 3) (Int32.toNatClampNeg (x2 + (M2 33 9)))))) = (3 : Int32) then (sm_ck (M2 (d2 + 3) (Int32.toNatClampNeg (x2 + (M2 33 9)))) 6 (sm_bi (jM_become (M2 (d2 + 2) (Int32.toNatClampNeg (x2 + (M2 33 9)))) (4 : Int32) (M2 35 (Int32.toNatClampNeg (M2 (d2 + 3) (Int32.toNatClampNeg (x2 + (M2 33 9)))))) [d0, d1, d2, d3, d4] M2) (fun x9 E9 M9 => sm_dq E9 [d0, d1, d2, d3, d4] (sm_dq [d0, d1, d2, d3, d4] [d0, d1, d2, d3, d4] (jM_perform_226 d0 d1 d2 d3 d4 x9 M9))))) else (sm_bi (jM_stop (2 : Int32) [d0, d1, d2, d3, d4] M2) (fun x8 E8 M8 => sm_dq E8 [d0, d1, d2, d3, d4] (sm_dq [d0, d1, d2, d3, d4] [d0, d1, d2, d3, d4] (jM_perform_226 d0 d1 d2 d3 d4 x8 M8)))))) else (if (M2 (d2 + 1) (Int32.toNatClampNeg (x2 + (M2 33 9)))) = (8 : Int32) then (sm_bi (jM_unwrap (M2 (d2 + 2) (Int32.toNatClampNeg (x2 + (M2 33 9)))) (M2 (d2 + 3) (Int32.toNatClampNeg (x2 + (M2 33 9)))) (M2 (d2 + 4) (Int32.toNatClampNeg (x2 + (M2 33 9)))) [d0, d1, d2, d3, d4] M2) (fun x7 E7 M7 => sm_dq E7 [d0, d1, d2, d3, d4] (sm_bo x7 (some (x7, [d0, d1, d2, d3, d4], M7))))) else (if (M2 (d2 + 1) (Int32.toNatClampNeg (x2 + (M2 33 9)))) = (9 : Int32) then (sm_bi (jM_enter d0 d1 d2 d3 d4 (M2 (d2 + 2) (Int32.toNatClampNeg (x2 + (M2 33 9)))) M2) (fun x6 E6 M6 => sm_dq E6 [d0, d1, d2, d3, d4] (sm_bo x6 (some (x6, [d0, d1, d2, d3, d4], M6))))) else (if (M2 (d2 + 1) (Int32.toNatClampNeg (x2 + (M2 33 9)))) = (10 : Int32) then (sm_bi (jM_branch d0 d1 d2 d3 d4 (M2 (d2 + 2) (Int32.toNatClampNeg (x2 + (M2 33 9)))) (M2 (d2 + 3) (Int32.toNatClampNeg (x2 + (M2 33 9)))) M2) (fun x5 E5 M5 => sm_dq E5 [d0, d1, d2, d3, d4] (sm_bo x5 (some (x5, [d0, d1, d2, d3, d4], M5))))) else (if (M2 (d2 + 1) (Int32.toNatClampNeg (x2 + (M2 33 9)))) = (11 : Int32) then (sm_ck (M2 (d2 + 2) (Int32.toNatClampNeg (x2 + (M2 33 9)))) 6 (if (M2 34 (Int32.toNatClampNeg (M2 (d2 + 2) (Int32.toNatClampNeg (x2 + (M2 33 9)))))) = (2 : Int32) then (sm_ck (M2 (d2 + 2) (Int32.toNatClampNeg (x2 + (M2 33 9)))) 6 (sm_bi (jM_enter d0 d1 d2 d3 d4 (M2 35 (Int32.toNatClampNeg (M2 (d2 + 2) (Int32.toNatClampNeg (x2 + (M2 33 9)))))) M2) (fun x4 E4 M4 => sm_dq E4 [d0, d1, d2, d3, d4] (sm_dq [d0, d1, d2, d3, d4] [d0, d1, d2, d3, d4] (jM_perform_277 d0 d1 d2 d3 d4 x4 M4))))) else (sm_bi (jM_stop (2 : Int32) [d0, d1, d2, d3, d4] M2) (fun x3 E3 M3 => sm_dq E3 [d0, d1, d2, d3, d4] (sm_dq [d0, d1, d2, d3, d4] [d0, d1, d2, d3, d4] (jM_perform_277 d0 d1 d2 d3 d4 x3 M3)))))) else (sm_bo (1 : Int32) (some ((1 : Int32), [d0, d1, d2, d3, d4], (sm_up M2 33 10 (1 : Int32))))))))))))))))))))))) else (sm_bi (jM_stop (2 : Int32) [d0, d1, d2, d3, d4] M1) (fun x14 E14 M14 => sm_dq E14 [d0, d1, d2, d3, d4] (sm_bo x14 (some (x14, [d0, d1, d2, d3, d4], M14))))))))
noncomputable def jM_goOn_29 (d0 d1 d2 d3 d4 : Nat) (l1 l3 s0 s1 : Int32) (M : sm_M) : Option ((Int32 × Int32 × Int32 × sm_M) ⊕ sm_S) :=
  (sm_dq [d0, d1, d2, d3, d4] [d0, d1, d2, d3, d4] (some (.inl (l1, (s0 + s1), (l3 + (1 : Int32)), M))))
noncomputable def jM_goOn_37 (d0 d1 d2 d3 d4 : Nat) (l2 : Int32) (M : sm_M) : Option sm_S :=
  (some (l2, [d0, d1, d2, d3, d4], M))
noncomputable def jM_goOn_4_c (d0 d1 d2 d3 d4 : Nat) (l1 l2 l3 : Int32) (M : sm_M) : Option ((Int32 × Int32 × Int32 × sm_M) ⊕ sm_S) :=
  (if l3 < l1 then (if (M 33 10) = (0 : Int32) then (sm_bi (sm_ga [d2] gC (jM_perform d0 d1 d2 d3 d4 M)) (fun x1 E1 M1 => sm_dq E1 [d0, d1, d2, d3, d4] (if x1 = (0 : Int32) then (sm_dq [d0, d1, d2, d3, d4] [d0, d1, d2, d3, d4] (jM_goOn_29 d0 d1 d2 d3 d4 l1 l3 l2 (0 : Int32) M1)) else (sm_dq [d0, d1, d2, d3, d4] [d0, d1, d2, d3, d4] (jM_goOn_29 d0 d1 d2 d3 d4 l1 l3 l2 (1 : Int32) M1))))) else (sm_dq [d0, d1, d2, d3, d4] [d0, d1, d2, d3, d4] (sm_inr (jM_goOn_37 d0 d1 d2 d3 d4 l2 M)))) else (sm_dq [d0, d1, d2, d3, d4] [d0, d1, d2, d3, d4] (sm_inr (jM_goOn_37 d0 d1 d2 d3 d4 l2 M))))
noncomputable def jM_goOn_4_b (d0 d1 d2 d3 d4 : Nat) (s : Int32 × Int32 × Int32 × sm_M) : Option ((Int32 × Int32 × Int32 × sm_M) ⊕ sm_S) := jM_goOn_4_c d0 d1 d2 d3 d4 s.1 s.2.1 s.2.2.1 s.2.2.2
noncomputable def jM_goOn_4 (d0 d1 d2 d3 d4 : Nat) (l1 l2 l3 : Int32) (M : sm_M) : Option sm_S := sm_lp (jM_goOn_4_b d0 d1 d2 d3 d4) (l1, l2, l3, M)
noncomputable def jM_goOn (d0 d1 d2 d3 d4 : Nat) (l1 : Int32) (M : sm_M) : Option sm_S :=
  (sm_dq [d0, d1, d2, d3, d4] [d0, d1, d2, d3, d4] (jM_goOn_4 d0 d1 d2 d3 d4 l1 (0 : Int32) (0 : Int32) M))
noncomputable def jA_run_23 (d0 d1 d2 d3 d4 : Nat) (s0 : Int32) (M : sm_M) : Option sm_S :=
  (some (s0, [d0, d1, d2, d3, d4], M))
noncomputable def jA_run_11 (d0 d1 d2 d3 d4 : Nat) (M : sm_M) : Option sm_S :=
  (sm_dq [d0, d1, d2, d3, d4] [d0, d1, d2, d3, d4] (jA_run_23 d0 d1 d2 d3 d4 (-1 : Int32) M))
noncomputable def jA_run (d0 d1 d2 d3 d4 : Nat) (l1 : Int32) (M : sm_M) : Option sm_S :=
  (if l1 < (0 : Int32) then (sm_dq [d0, d1, d2, d3, d4] [d0, d1, d2, d3, d4] (jA_run_11 d0 d1 d2 d3 d4 M)) else (if (1000 : Int32) < l1 then (sm_dq [d0, d1, d2, d3, d4] [d0, d1, d2, d3, d4] (jA_run_11 d0 d1 d2 d3 d4 M)) else (sm_bi (jM_goOn d0 d1 d2 d3 d4 l1 M) (fun x1 E1 M1 => sm_dq E1 [d0, d1, d2, d3, d4] (sm_dq [d0, d1, d2, d3, d4] [d0, d1, d2, d3, d4] (jA_run_23 d0 d1 d2 d3 d4 x1 M1))))))
noncomputable def jA_state (D : sm_D) (M : sm_M) : Option sm_S :=
  (some ((M 33 10), D, M))
noncomputable def jM_tellRegister_19 (D : sm_D) (M : sm_M) : Option sm_S :=
  (some ((-1 : Int32), D, M))
noncomputable def jM_tellRegister_40 (s0 : Int32) (D : sm_D) (M : sm_M) : Option sm_S :=
  (some (s0, D, M))
noncomputable def jM_tellRegister (l1 l2 : Int32) (D : sm_D) (M : sm_M) : Option sm_S :=
  (if l1 < (1 : Int32) then (jM_tellRegister_19 D M) else (if (5 : Int32) < l1 then (jM_tellRegister_19 D M) else (if l2 < (0 : Int32) then (jM_tellRegister_19 D M) else (if (1 : Int32) < l2 then (jM_tellRegister_19 D M) else (if l2 = (0 : Int32) then (sm_ck l1 6 (jM_tellRegister_40 (M 34 (Int32.toNatClampNeg l1)) D M)) else (sm_ck l1 6 (jM_tellRegister_40 (M 35 (Int32.toNatClampNeg l1)) D M)))))))
noncomputable def jA_register (l1 l2 : Int32) (D : sm_D) (M : sm_M) : Option sm_S :=
  (sm_bi (jM_tellRegister l1 l2 D M) (fun x1 E1 M1 => sm_dq E1 D (some (x1, D, M1))))
noncomputable def jW_writeVariable_51 (d0 d1 d2 d3 d4 : Nat) (l3 l5 s0 s1 : Int32) (M : sm_M) : Option ((Int32 × Int32 × Int32 × sm_M) ⊕ sm_S) :=
  (sm_ck l3 301 (sm_dq [d0, d1, d2, d3, d4] [d0, d1, d2, d3, d4] (some (.inl ((M 26 (Int32.toNatClampNeg l3)), (s0 - s1), (l5 + (1 : Int32)), M)))))
noncomputable def jW_writeVariable_35 (d0 d1 d2 d3 d4 : Nat) (l3 l4 l5 : Int32) (M : sm_M) : Option ((Int32 × Int32 × Int32 × sm_M) ⊕ sm_S) :=
  (sm_ck l3 301 (if (M 27 (Int32.toNatClampNeg l3)) = (0 : Int32) then (sm_dq [d0, d1, d2, d3, d4] [d0, d1, d2, d3, d4] (jW_writeVariable_51 d0 d1 d2 d3 d4 l3 l5 l4 (0 : Int32) M)) else (sm_dq [d0, d1, d2, d3, d4] [d0, d1, d2, d3, d4] (jW_writeVariable_51 d0 d1 d2 d3 d4 l3 l5 l4 (1 : Int32) M))))
noncomputable def jW_writeVariable_135 (d0 d1 d2 d3 d4 : Nat) (l3 : Int32) (M : sm_M) : Option sm_S :=
  (sm_ck l3 301 (sm_bi (jT_secondOf (M 25 (Int32.toNatClampNeg l3)) [d0, d1, d2, d3, d4] M) (fun x1 E1 M1 => sm_dq E1 [d0, d1, d2, d3, d4] (some (x1, [d0, d1, d2, d3, d4], M1)))))
noncomputable def jW_writeVariable_100_c (d0 d1 d2 d3 d4 : Nat) (l3 l5 l6 : Int32) (M : sm_M) : Option ((Int32 × Int32 × Int32 × sm_M) ⊕ sm_S) :=
  (if l6 < l5 then (sm_bi (sm_ga [d4] gC (jC_put d4 (5 : Int32) (4 : Int32) (4 : Int32) (0 : Int32) [d0, d1, d2, d3, d4] M)) (fun x2 E2 M2 => sm_dq E2 [d0, d1, d2, d3, d4] (sm_dq [d0, d1, d2, d3, d4] [d0, d1, d2, d3, d4] (some (.inl (l3, l5, (l6 + (1 : Int32)), M2)))))) else (sm_bi (sm_ga [d4] gC (jC_put d4 (5 : Int32) (2 : Int32) (4 : Int32) (1 : Int32) [d0, d1, d2, d3, d4] M)) (fun x1 E1 M1 => sm_dq E1 [d0, d1, d2, d3, d4] (sm_dq [d0, d1, d2, d3, d4] [d0, d1, d2, d3, d4] (sm_inr (jW_writeVariable_135 d0 d1 d2 d3 d4 l3 M1))))))
noncomputable def jW_writeVariable_100_b (d0 d1 d2 d3 d4 : Nat) (s : Int32 × Int32 × Int32 × sm_M) : Option ((Int32 × Int32 × Int32 × sm_M) ⊕ sm_S) := jW_writeVariable_100_c d0 d1 d2 d3 d4 s.1 s.2.1 s.2.2.1 s.2.2.2
noncomputable def jW_writeVariable_100 (d0 d1 d2 d3 d4 : Nat) (l3 l5 l6 : Int32) (M : sm_M) : Option sm_S := sm_lp (jW_writeVariable_100_b d0 d1 d2 d3 d4) (l3, l5, l6, M)
noncomputable def jW_writeVariable_67 (d0 d1 d2 d3 d4 : Nat) (l3 l5 : Int32) (M : sm_M) : Option sm_S :=
  (if l5 = (0 : Int32) then (sm_bi (sm_ga [d4] gC (jC_put d4 (5 : Int32) (2 : Int32) (1 : Int32) (1 : Int32) [d0, d1, d2, d3, d4] M)) (fun x2 E2 M2 => sm_dq E2 [d0, d1, d2, d3, d4] (sm_dq [d0, d1, d2, d3, d4] [d0, d1, d2, d3, d4] (jW_writeVariable_135 d0 d1 d2 d3 d4 l3 M2)))) else (sm_bi (sm_ga [d4] gC (jC_put d4 (5 : Int32) (4 : Int32) (1 : Int32) (0 : Int32) [d0, d1, d2, d3, d4] M)) (fun x1 E1 M1 => sm_dq E1 [d0, d1, d2, d3, d4] (sm_dq [d0, d1, d2, d3, d4] [d0, d1, d2, d3, d4] (jW_writeVariable_100 d0 d1 d2 d3 d4 l3 l5 (1 : Int32) M1)))))
noncomputable def jW_writeVariable_8_c (d0 d1 d2 d3 d4 : Nat) (l3 l4 l5 : Int32) (M : sm_M) : Option ((Int32 × Int32 × Int32 × sm_M) ⊕ sm_S) :=
  (if l5 < (M 24 5) then (if (0 : Int32) < l3 then (if (0 : Int32) < l4 then (sm_dq [d0, d1, d2, d3, d4] [d0, d1, d2, d3, d4] (jW_writeVariable_35 d0 d1 d2 d3 d4 l3 l4 l5 M)) else (sm_ck l3 301 (if (M 27 (Int32.toNatClampNeg l3)) = (0 : Int32) then (sm_dq [d0, d1, d2, d3, d4] [d0, d1, d2, d3, d4] (jW_writeVariable_35 d0 d1 d2 d3 d4 l3 l4 l5 M)) else (sm_dq [d0, d1, d2, d3, d4] [d0, d1, d2, d3, d4] (sm_inr (jW_writeVariable_67 d0 d1 d2 d3 d4 l3 l5 M)))))) else (sm_dq [d0, d1, d2, d3, d4] [d0, d1, d2, d3, d4] (sm_inr (jW_writeVariable_67 d0 d1 d2 d3 d4 l3 l5 M)))) else (sm_dq [d0, d1, d2, d3, d4] [d0, d1, d2, d3, d4] (sm_inr (jW_writeVariable_67 d0 d1 d2 d3 d4 l3 l5 M))))
noncomputable def jW_writeVariable_8_b (d0 d1 d2 d3 d4 : Nat) (s : Int32 × Int32 × Int32 × sm_M) : Option ((Int32 × Int32 × Int32 × sm_M) ⊕ sm_S) := jW_writeVariable_8_c d0 d1 d2 d3 d4 s.1 s.2.1 s.2.2.1 s.2.2.2
noncomputable def jW_writeVariable_8 (d0 d1 d2 d3 d4 : Nat) (l3 l4 l5 : Int32) (M : sm_M) : Option sm_S := sm_lp (jW_writeVariable_8_b d0 d1 d2 d3 d4) (l3, l4, l5, M)
noncomputable def jW_writeVariable (d0 d1 d2 d3 d4 : Nat) (l1 l2 : Int32) (M : sm_M) : Option sm_S :=
  (sm_dq [d0, d1, d2, d3, d4] [d0, d1, d2, d3, d4] (jW_writeVariable_8 d0 d1 d2 d3 d4 l2 l1 (0 : Int32) M))
noncomputable def jW_writeChoice (rec : Nat → Nat → Nat → Nat → Nat → Int32 → Int32 → sm_M → Option sm_S) (d0 d1 d2 d3 d4 : Nat) (l1 l2 : Int32) (M : sm_M) : Option sm_S :=
  (sm_ck l2 301 (sm_ck l1 40 (sm_bi (sm_ga [d4] gC (rec d0 d1 d2 d3 d4 (M 12 (Int32.toNatClampNeg l1)) l2 M)) (fun x1 E1 M1 => sm_dq E1 [d0, d1, d2, d3, d4] (sm_bi (sm_ga [d4] gC (jC_reserve d4 [d0, d1, d2, d3, d4] M1)) (fun x2 E2 M2 => sm_dq E2 [d0, d1, d2, d3, d4] (sm_bi (sm_ga [d4] gC (jC_reserve d4 [d0, d1, d2, d3, d4] M2)) (fun x3 E3 M3 => sm_dq E3 [d0, d1, d2, d3, d4] (sm_bi (sm_ga [d4] gC (jC_put d4 (10 : Int32) (2 : Int32) x2 (0 : Int32) [d0, d1, d2, d3, d4] M3)) (fun x4 E4 M4 => sm_dq E4 [d0, d1, d2, d3, d4] (sm_ck l1 40 (sm_bi (sm_ga [d4] gC (rec d0 d1 d2 d3 d4 (M4 13 (Int32.toNatClampNeg l1)) l2 M4)) (fun x5 E5 M5 => sm_dq E5 [d0, d1, d2, d3, d4] (sm_bi (sm_ga [d4] gC (jC_put d4 (9 : Int32) x3 (0 : Int32) (0 : Int32) [d0, d1, d2, d3, d4] M5)) (fun x6 E6 M6 => sm_dq E6 [d0, d1, d2, d3, d4] (sm_bi (sm_ga [d4] gC (jC_open d4 x2 (M 25 (Int32.toNatClampNeg l2)) (-1 : Int32) (-1 : Int32) [d0, d1, d2, d3, d4] M6)) (fun x7 E7 M7 => sm_dq E7 [d0, d1, d2, d3, d4] (sm_ck l1 40 (sm_bi (sm_ga [d4] gC (rec d0 d1 d2 d3 d4 (M7 14 (Int32.toNatClampNeg l1)) l2 M7)) (fun x8 E8 M8 => sm_dq E8 [d0, d1, d2, d3, d4] (sm_bi (sm_ga [d4] gC (jC_put d4 (9 : Int32) x3 (0 : Int32) (0 : Int32) [d0, d1, d2, d3, d4] M8)) (fun x9 E9 M9 => sm_dq E9 [d0, d1, d2, d3, d4] (sm_bi (sm_ga [d4] gC (jC_open d4 x3 (M 25 (Int32.toNatClampNeg l2)) x5 (-1 : Int32) [d0, d1, d2, d3, d4] M9)) (fun x10 E10 M10 => sm_dq E10 [d0, d1, d2, d3, d4] (some (x5, [d0, d1, d2, d3, d4], M10))))))))))))))))))))))))))
noncomputable def jW_writeLambda_58 (d0 d1 d2 d3 d4 : Nat) (l1 l3 : Int32) (M : sm_M) : Option sm_S :=
  (sm_bi (sm_ga [d4] gC (jC_put d4 (6 : Int32) (4 : Int32) l3 (0 : Int32) [d0, d1, d2, d3, d4] M)) (fun x1 E1 M1 => sm_dq E1 [d0, d1, d2, d3, d4] (sm_bi (sm_ga [d4] gC (jC_put d4 (4 : Int32) (4 : Int32) (4 : Int32) (1 : Int32) [d0, d1, d2, d3, d4] M1)) (fun x2 E2 M2 => sm_dq E2 [d0, d1, d2, d3, d4] (sm_ck l1 40 (sm_bi (sm_ga [d4] gC (jC_put d4 (7 : Int32) (2 : Int32) (4 : Int32) (M2 11 (Int32.toNatClampNeg l1)) [d0, d1, d2, d3, d4] M2)) (fun x3 E3 M3 => sm_dq E3 [d0, d1, d2, d3, d4] (sm_ck l1 40 (some ((M3 11 (Int32.toNatClampNeg l1)), [d0, d1, d2, d3, d4], M3))))))))))
noncomputable def jW_writeLambda (d0 d1 d2 d3 d4 : Nat) (l1 l2 : Int32) (M : sm_M) : Option sm_S :=
  (sm_bi (sm_ga [d4] gC (jC_reserve d4 [d0, d1, d2, d3, d4] M)) (fun x1 E1 M1 => sm_dq E1 [d0, d1, d2, d3, d4] (if (M1 d4 15) = (0 : Int32) then (sm_ck (M1 24 9) 40 (sm_ck ((sm_up M1 28 (Int32.toNatClampNeg (M1 24 9)) l1) 24 9) 40 (sm_ck ((sm_up (sm_up M1 28 (Int32.toNatClampNeg (M1 24 9)) l1) 29 (Int32.toNatClampNeg ((sm_up M1 28 (Int32.toNatClampNeg (M1 24 9)) l1) 24 9)) l2) 24 9) 40 (sm_dq [d0, d1, d2, d3, d4] [d0, d1, d2, d3, d4] (jW_writeLambda_58 d0 d1 d2 d3 d4 l1 x1 (sm_up (sm_up (sm_up (sm_up M1 28 (Int32.toNatClampNeg (M1 24 9)) l1) 29 (Int32.toNatClampNeg ((sm_up M1 28 (Int32.toNatClampNeg (M1 24 9)) l1) 24 9)) l2) 30 (Int32.toNatClampNeg ((sm_up (sm_up M1 28 (Int32.toNatClampNeg (M1 24 9)) l1) 29 (Int32.toNatClampNeg ((sm_up M1 28 (Int32.toNatClampNeg (M1 24 9)) l1) 24 9)) l2) 24 9)) x1) 24 9 (((sm_up (sm_up (sm_up M1 28 (Int32.toNatClampNeg (M1 24 9)) l1) 29 (Int32.toNatClampNeg ((sm_up M1 28 (Int32.toNatClampNeg (M1 24 9)) l1) 24 9)) l2) 30 (Int32.toNatClampNeg ((sm_up (sm_up M1 28 (Int32.toNatClampNeg (M1 24 9)) l1) 29 (Int32.toNatClampNeg ((sm_up M1 28 (Int32.toNatClampNeg (M1 24 9)) l1) 24 9)) l2) 24 9)) x1) 24 9) + (1 : Int32)))))))) else (sm_dq [d0, d1, d2, d3, d4] [d0, d1, d2, d3, d4] (jW_writeLambda_58 d0 d1 d2 d3 d4 l1 x1 M1)))))
noncomputable def jW_extend_20 (d0 d1 d2 d3 d4 : Nat) (l1 : Int32) (M : sm_M) : Option sm_S :=
  (some (l1, [d0, d1, d2, d3, d4], M))
noncomputable def jW_extend (d0 d1 d2 d3 d4 : Nat) (l1 l2 l3 : Int32) (M : sm_M) : Option sm_S :=
  (if (M d4 15) = (0 : Int32) then (if (M 24 5) = (301 : Int32) then (sm_dq [d0, d1, d2, d3, d4] [d0, d1, d2, d3, d4] (jW_extend_20 d0 d1 d2 d3 d4 l1 M)) else (sm_ck l1 301 (sm_bi (jT_find (1 : Int32) (M 25 (Int32.toNatClampNeg l1)) l2 (-1 : Int32) [d0, d1, d2, d3, d4] M) (fun x1 E1 M1 => sm_dq E1 [d0, d1, d2, d3, d4] (sm_ck (M 24 5) 301 (sm_ck ((sm_up M1 25 (Int32.toNatClampNeg (M 24 5)) x1) 24 5) 301 (sm_ck ((sm_up (sm_up M1 25 (Int32.toNatClampNeg (M 24 5)) x1) 26 (Int32.toNatClampNeg ((sm_up M1 25 (Int32.toNatClampNeg (M 24 5)) x1) 24 5)) l1) 24 5) 301 (sm_bo l3 (some ((((sm_up (sm_up (sm_up (sm_up M1 25 (Int32.toNatClampNeg (M 24 5)) x1) 26 (Int32.toNatClampNeg ((sm_up M1 25 (Int32.toNatClampNeg (M 24 5)) x1) 24 5)) l1) 27 (Int32.toNatClampNeg ((sm_up (sm_up M1 25 (Int32.toNatClampNeg (M 24 5)) x1) 26 (Int32.toNatClampNeg ((sm_up M1 25 (Int32.toNatClampNeg (M 24 5)) x1) 24 5)) l1) 24 5)) l3) 24 5 (((sm_up (sm_up (sm_up M1 25 (Int32.toNatClampNeg (M 24 5)) x1) 26 (Int32.toNatClampNeg ((sm_up M1 25 (Int32.toNatClampNeg (M 24 5)) x1) 24 5)) l1) 27 (Int32.toNatClampNeg ((sm_up (sm_up M1 25 (Int32.toNatClampNeg (M 24 5)) x1) 26 (Int32.toNatClampNeg ((sm_up M1 25 (Int32.toNatClampNeg (M 24 5)) x1) 24 5)) l1) 24 5)) l3) 24 5) + (1 : Int32))) 24 5) - (1 : Int32)), [d0, d1, d2, d3, d4], (sm_up (sm_up (sm_up (sm_up M1 25 (Int32.toNatClampNeg (M 24 5)) x1) 26 (Int32.toNatClampNeg ((sm_up M1 25 (Int32.toNatClampNeg (M 24 5)) x1) 24 5)) l1) 27 (Int32.toNatClampNeg ((sm_up (sm_up M1 25 (Int32.toNatClampNeg (M 24 5)) x1) 26 (Int32.toNatClampNeg ((sm_up M1 25 (Int32.toNatClampNeg (M 24 5)) x1) 24 5)) l1) 24 5)) l3) 24 5 (((sm_up (sm_up (sm_up M1 25 (Int32.toNatClampNeg (M 24 5)) x1) 26 (Int32.toNatClampNeg ((sm_up M1 25 (Int32.toNatClampNeg (M 24 5)) x1) 24 5)) l1) 27 (Int32.toNatClampNeg ((sm_up (sm_up M1 25 (Int32.toNatClampNeg (M 24 5)) x1) 26 (Int32.toNatClampNeg ((sm_up M1 25 (Int32.toNatClampNeg (M 24 5)) x1) 24 5)) l1) 24 5)) l3) 24 5) + (1 : Int32))))))))))))) else (sm_dq [d0, d1, d2, d3, d4] [d0, d1, d2, d3, d4] (jW_extend_20 d0 d1 d2 d3 d4 l1 M)))
noncomputable def jW_writeCall (rec : Nat → Nat → Nat → Nat → Nat → Int32 → Int32 → sm_M → Option sm_S) (d0 d1 d2 d3 d4 : Nat) (l1 l2 : Int32) (M : sm_M) : Option sm_S :=
  (sm_ck l1 40 (sm_bi (sm_ga [d4] gC (rec d0 d1 d2 d3 d4 (M 12 (Int32.toNatClampNeg l1)) l2 M)) (fun x1 E1 M1 => sm_dq E1 [d0, d1, d2, d3, d4] (sm_bi (jT_secondOf x1 [d0, d1, d2, d3, d4] M1) (fun x2 E2 M2 => sm_dq E2 [d0, d1, d2, d3, d4] (sm_bi (sm_ga [d4] gC (jC_put d4 (4 : Int32) (1 : Int32) (1 : Int32) (2 : Int32) [d0, d1, d2, d3, d4] M2)) (fun x3 E3 M3 => sm_dq E3 [d0, d1, d2, d3, d4] (sm_ck l1 40 (sm_bi (sm_ga [d4] gC (jW_extend d0 d1 d2 d3 d4 l2 x1 (0 : Int32) M3)) (fun x4 E4 M4 => sm_dq E4 [d0, d1, d2, d3, d4] (sm_bi (sm_ga [d4] gC (rec d0 d1 d2 d3 d4 (M3 13 (Int32.toNatClampNeg l1)) x4 M4)) (fun x5 E5 M5 => sm_dq E5 [d0, d1, d2, d3, d4] (sm_bi (sm_ga [d4] gC (jC_reserve d4 [d0, d1, d2, d3, d4] M5)) (fun x6 E6 M6 => sm_dq E6 [d0, d1, d2, d3, d4] (sm_bi (sm_ga [d4] gC (jC_put d4 (6 : Int32) (4 : Int32) x6 (0 : Int32) [d0, d1, d2, d3, d4] M6)) (fun x7 E7 M7 => sm_dq E7 [d0, d1, d2, d3, d4] (sm_bi (sm_ga [d4] gC (jC_put d4 (5 : Int32) (5 : Int32) (1 : Int32) (0 : Int32) [d0, d1, d2, d3, d4] M7)) (fun x8 E8 M8 => sm_dq E8 [d0, d1, d2, d3, d4] (sm_bi (sm_ga [d4] gC (jC_put d4 (4 : Int32) (4 : Int32) (4 : Int32) (5 : Int32) [d0, d1, d2, d3, d4] M8)) (fun x9 E9 M9 => sm_dq E9 [d0, d1, d2, d3, d4] (sm_bi (jT_find (3 : Int32) x2 (-1 : Int32) (-1 : Int32) [d0, d1, d2, d3, d4] M9) (fun x10 E10 M10 => sm_dq E10 [d0, d1, d2, d3, d4] (sm_bi (sm_ga [d4] gC (jC_put d4 (7 : Int32) (3 : Int32) (4 : Int32) x10 [d0, d1, d2, d3, d4] M10)) (fun x11 E11 M11 => sm_dq E11 [d0, d1, d2, d3, d4] (sm_bi (sm_ga [d4] gC (jC_put d4 (5 : Int32) (4 : Int32) (1 : Int32) (1 : Int32) [d0, d1, d2, d3, d4] M11)) (fun x12 E12 M12 => sm_dq E12 [d0, d1, d2, d3, d4] (sm_bi (sm_ga [d4] gC (jC_put d4 (8 : Int32) (5 : Int32) (1 : Int32) (4 : Int32) [d0, d1, d2, d3, d4] M12)) (fun x13 E13 M13 => sm_dq E13 [d0, d1, d2, d3, d4] (sm_bi (sm_ga [d4] gC (jC_put d4 (11 : Int32) (5 : Int32) (0 : Int32) (0 : Int32) [d0, d1, d2, d3, d4] M13)) (fun x14 E14 M14 => sm_dq E14 [d0, d1, d2, d3, d4] (sm_ck l2 301 (sm_bi (sm_ga [d4] gC (jC_open d4 x6 (M14 25 (Int32.toNatClampNeg l2)) x2 (-1 : Int32) [d0, d1, d2, d3, d4] M14)) (fun x15 E15 M15 => sm_dq E15 [d0, d1, d2, d3, d4] (some (x2, [d0, d1, d2, d3, d4], M15)))))))))))))))))))))))))))))))))))
noncomputable def jW_writePart_52 (rec : Nat → Nat → Nat → Nat → Nat → Int32 → Int32 → sm_M → Option sm_S) (d0 d1 d2 d3 d4 : Nat) (s0 : Int32) (M : sm_M) : Option sm_S :=
  (some (s0, [d0, d1, d2, d3, d4], M))
noncomputable def jW_writePart (rec : Nat → Nat → Nat → Nat → Nat → Int32 → Int32 → sm_M → Option sm_S) (d0 d1 d2 d3 d4 : Nat) (l1 l2 l3 : Int32) (M : sm_M) : Option sm_S :=
  (sm_ck l1 40 (sm_bi (sm_ga [d4] gC (rec d0 d1 d2 d3 d4 (M 12 (Int32.toNatClampNeg l1)) l2 M)) (fun x1 E1 M1 => sm_dq E1 [d0, d1, d2, d3, d4] (sm_bi (sm_ga [d4] gC (jC_put d4 (5 : Int32) (2 : Int32) (2 : Int32) l3 [d0, d1, d2, d3, d4] M1)) (fun x2 E2 M2 => sm_dq E2 [d0, d1, d2, d3, d4] (if l3 = (0 : Int32) then (sm_bi (jT_firstOf x1 [d0, d1, d2, d3, d4] M2) (fun x4 E4 M4 => sm_dq E4 [d0, d1, d2, d3, d4] (sm_dq [d0, d1, d2, d3, d4] [d0, d1, d2, d3, d4] (jW_writePart_52 rec d0 d1 d2 d3 d4 x4 M4)))) else (sm_bi (jT_secondOf x1 [d0, d1, d2, d3, d4] M2) (fun x3 E3 M3 => sm_dq E3 [d0, d1, d2, d3, d4] (sm_dq [d0, d1, d2, d3, d4] [d0, d1, d2, d3, d4] (jW_writePart_52 rec d0 d1 d2 d3 d4 x3 M3))))))))))
noncomputable def jW_operationFor (l0 : Int32) (D : sm_D) (M : sm_M) : Option sm_S :=
  (if l0 = (2 : Int32) then (some ((1 : Int32), D, M)) else (if l0 = (3 : Int32) then (some ((2 : Int32), D, M)) else (if l0 = (4 : Int32) then (some ((3 : Int32), D, M)) else (some ((4 : Int32), D, M)))))
noncomputable def jW_writeTwo_134 (rec : Nat → Nat → Nat → Nat → Nat → Int32 → Int32 → sm_M → Option sm_S) (d0 d1 d2 d3 d4 : Nat) (s0 : Int32) (M : sm_M) : Option sm_S :=
  (some (s0, [d0, d1, d2, d3, d4], M))
noncomputable def jW_writeTwo_111 (rec : Nat → Nat → Nat → Nat → Nat → Int32 → Int32 → sm_M → Option sm_S) (d0 d1 d2 d3 d4 : Nat) (l3 l4 s0 : Int32) (M : sm_M) : Option sm_S :=
  (if s0 = (0 : Int32) then (sm_dq [d0, d1, d2, d3, d4] [d0, d1, d2, d3, d4] (jW_writeTwo_134 rec d0 d1 d2 d3 d4 (0 : Int32) M)) else (sm_bi (jT_find (1 : Int32) l3 l4 (-1 : Int32) [d0, d1, d2, d3, d4] M) (fun x1 E1 M1 => sm_dq E1 [d0, d1, d2, d3, d4] (sm_dq [d0, d1, d2, d3, d4] [d0, d1, d2, d3, d4] (jW_writeTwo_134 rec d0 d1 d2 d3 d4 x1 M1)))))
noncomputable def jW_writeTwo (rec : Nat → Nat → Nat → Nat → Nat → Int32 → Int32 → sm_M → Option sm_S) (d0 d1 d2 d3 d4 : Nat) (l1 l2 : Int32) (M : sm_M) : Option sm_S :=
  (sm_ck l1 40 (sm_bi (sm_ga [d4] gC (rec d0 d1 d2 d3 d4 (M 12 (Int32.toNatClampNeg l1)) l2 M)) (fun x1 E1 M1 => sm_dq E1 [d0, d1, d2, d3, d4] (sm_bi (sm_ga [d4] gC (jC_put d4 (4 : Int32) (1 : Int32) (1 : Int32) (2 : Int32) [d0, d1, d2, d3, d4] M1)) (fun x2 E2 M2 => sm_dq E2 [d0, d1, d2, d3, d4] (sm_ck l1 40 (sm_bi (sm_ga [d4] gC (jW_extend d0 d1 d2 d3 d4 l2 x1 (0 : Int32) M2)) (fun x3 E3 M3 => sm_dq E3 [d0, d1, d2, d3, d4] (sm_bi (sm_ga [d4] gC (rec d0 d1 d2 d3 d4 (M2 13 (Int32.toNatClampNeg l1)) x3 M3)) (fun x4 E4 M4 => sm_dq E4 [d0, d1, d2, d3, d4] (sm_bi (sm_ga [d4] gC (jC_put d4 (5 : Int32) (4 : Int32) (1 : Int32) (1 : Int32) [d0, d1, d2, d3, d4] M4)) (fun x5 E5 M5 => sm_dq E5 [d0, d1, d2, d3, d4] (sm_ck l1 40 (sm_bi (jW_operationFor (M5 10 (Int32.toNatClampNeg l1)) [d0, d1, d2, d3, d4] M5) (fun x6 E6 M6 => sm_dq E6 [d0, d1, d2, d3, d4] (sm_bi (sm_ga [d4] gC (jC_put d4 x6 (2 : Int32) (4 : Int32) (2 : Int32) [d0, d1, d2, d3, d4] M6)) (fun x7 E7 M7 => sm_dq E7 [d0, d1, d2, d3, d4] (sm_bi (sm_ga [d4] gC (jC_put d4 (5 : Int32) (1 : Int32) (1 : Int32) (0 : Int32) [d0, d1, d2, d3, d4] M7)) (fun x8 E8 M8 => sm_dq E8 [d0, d1, d2, d3, d4] (sm_ck l1 40 (if (M8 10 (Int32.toNatClampNeg l1)) = (8 : Int32) then (sm_dq [d0, d1, d2, d3, d4] [d0, d1, d2, d3, d4] (jW_writeTwo_111 rec d0 d1 d2 d3 d4 x1 x4 (1 : Int32) M8)) else (sm_dq [d0, d1, d2, d3, d4] [d0, d1, d2, d3, d4] (jW_writeTwo_111 rec d0 d1 d2 d3 d4 x1 x4 (0 : Int32) M8)))))))))))))))))))))))
noncomputable def jW_write_153 (rec : Nat → Nat → Nat → Nat → Nat → Int32 → Int32 → sm_M → Option sm_S) (d0 d1 d2 d3 d4 : Nat) (l1 l2 : Int32) (M : sm_M) : Option sm_S :=
  (sm_bi (jW_writeTwo rec d0 d1 d2 d3 d4 l1 l2 M) (fun x1 E1 M1 => sm_dq E1 [d0, d1, d2, d3, d4] (some (x1, [d0, d1, d2, d3, d4], M1))))
noncomputable def jW_write0 (rec : Nat → Nat → Nat → Nat → Nat → Int32 → Int32 → sm_M → Option sm_S) (d0 d1 d2 d3 d4 : Nat) (l1 l2 : Int32) (M : sm_M) : Option sm_S :=
  (if (M d4 15) = (0 : Int32) then (sm_ck l1 40 (if (M 10 (Int32.toNatClampNeg l1)) = (0 : Int32) then (sm_ck l1 40 (sm_bi (sm_ga [d4] gC (jC_put d4 (0 : Int32) (2 : Int32) (M 11 (Int32.toNatClampNeg l1)) (0 : Int32) [d0, d1, d2, d3, d4] M)) (fun x7 E7 M7 => sm_dq E7 [d0, d1, d2, d3, d4] (some ((0 : Int32), [d0, d1, d2, d3, d4], M7))))) else (if (M 10 (Int32.toNatClampNeg l1)) = (1 : Int32) then (sm_ck l1 40 (sm_bi (jW_writeVariable d0 d1 d2 d3 d4 (M 11 (Int32.toNatClampNeg l1)) l2 M) (fun x6 E6 M6 => sm_dq E6 [d0, d1, d2, d3, d4] (some (x6, [d0, d1, d2, d3, d4], M6))))) else (if (M 10 (Int32.toNatClampNeg l1)) = (2 : Int32) then (sm_dq [d0, d1, d2, d3, d4] [d0, d1, d2, d3, d4] (jW_write_153 rec d0 d1 d2 d3 d4 l1 l2 M)) else (if (M 10 (Int32.toNatClampNeg l1)) = (3 : Int32) then (sm_dq [d0, d1, d2, d3, d4] [d0, d1, d2, d3, d4] (jW_write_153 rec d0 d1 d2 d3 d4 l1 l2 M)) else (if (M 10 (Int32.toNatClampNeg l1)) = (4 : Int32) then (sm_dq [d0, d1, d2, d3, d4] [d0, d1, d2, d3, d4] (jW_write_153 rec d0 d1 d2 d3 d4 l1 l2 M)) else (if (M 10 (Int32.toNatClampNeg l1)) = (5 : Int32) then (sm_bi (jW_writeChoice rec d0 d1 d2 d3 d4 l1 l2 M) (fun x5 E5 M5 => sm_dq E5 [d0, d1, d2, d3, d4] (some (x5, [d0, d1, d2, d3, d4], M5)))) else (if (M 10 (Int32.toNatClampNeg l1)) = (6 : Int32) then (sm_bi (sm_ga [d4] gC (jW_writeLambda d0 d1 d2 d3 d4 l1 l2 M)) (fun x4 E4 M4 => sm_dq E4 [d0, d1, d2, d3, d4] (some (x4, [d0, d1, d2, d3, d4], M4)))) else (if (M 10 (Int32.toNatClampNeg l1)) = (7 : Int32) then (sm_bi (jW_writeCall rec d0 d1 d2 d3 d4 l1 l2 M) (fun x3 E3 M3 => sm_dq E3 [d0, d1, d2, d3, d4] (some (x3, [d0, d1, d2, d3, d4], M3)))) else (if (M 10 (Int32.toNatClampNeg l1)) = (8 : Int32) then (sm_dq [d0, d1, d2, d3, d4] [d0, d1, d2, d3, d4] (jW_write_153 rec d0 d1 d2 d3 d4 l1 l2 M)) else (if (M 10 (Int32.toNatClampNeg l1)) = (9 : Int32) then (sm_bi (jW_writePart rec d0 d1 d2 d3 d4 l1 l2 (0 : Int32) M) (fun x2 E2 M2 => sm_dq E2 [d0, d1, d2, d3, d4] (some (x2, [d0, d1, d2, d3, d4], M2)))) else (if (M 10 (Int32.toNatClampNeg l1)) = (10 : Int32) then (sm_bi (jW_writePart rec d0 d1 d2 d3 d4 l1 l2 (1 : Int32) M) (fun x1 E1 M1 => sm_dq E1 [d0, d1, d2, d3, d4] (some (x1, [d0, d1, d2, d3, d4], M1)))) else (sm_dq [d0, d1, d2, d3, d4] [d0, d1, d2, d3, d4] (jW_write_153 rec d0 d1 d2 d3 d4 l1 l2 M)))))))))))))) else (some ((0 : Int32), [d0, d1, d2, d3, d4], M)))
noncomputable def jW_write : Nat → Nat → Nat → Nat → Nat → Nat → Int32 → Int32 → sm_M → Option sm_S
  | 0 => fun _ _ _ _ _ _ _ _ => none
  | n + 1 => jW_write0 (jW_write n)
noncomputable def jW_writeBody (d0 d1 d2 d3 d4 : Nat) (l1 l2 l3 : Int32) (M : sm_M) : Option sm_S :=
  (sm_ck l1 40 (sm_bi (jT_firstOf (M 11 (Int32.toNatClampNeg l1)) [d0, d1, d2, d3, d4] M) (fun x1 E1 M1 => sm_dq E1 [d0, d1, d2, d3, d4] (sm_bi (jT_secondOf (M 11 (Int32.toNatClampNeg l1)) [d0, d1, d2, d3, d4] M1) (fun x2 E2 M2 => sm_dq E2 [d0, d1, d2, d3, d4] (sm_bi (jT_find (3 : Int32) x2 (-1 : Int32) (-1 : Int32) [d0, d1, d2, d3, d4] M2) (fun x3 E3 M3 => sm_dq E3 [d0, d1, d2, d3, d4] (sm_ck l2 301 (sm_bi (sm_ga [d4] gC (jC_open d4 l3 (M3 25 (Int32.toNatClampNeg l2)) x1 x3 [d0, d1, d2, d3, d4] M3)) (fun x4 E4 M4 => sm_dq E4 [d0, d1, d2, d3, d4] (sm_bi (sm_ga [d4] gC (jC_put d4 (6 : Int32) (4 : Int32) l3 (0 : Int32) [d0, d1, d2, d3, d4] M4)) (fun x5 E5 M5 => sm_dq E5 [d0, d1, d2, d3, d4] (sm_bi (sm_ga [d4] gC (jC_put d4 (4 : Int32) (4 : Int32) (4 : Int32) (1 : Int32) [d0, d1, d2, d3, d4] M5)) (fun x6 E6 M6 => sm_dq E6 [d0, d1, d2, d3, d4] (sm_bi (sm_ga [d4] gC (jC_put d4 (7 : Int32) (4 : Int32) (4 : Int32) (M 11 (Int32.toNatClampNeg l1)) [d0, d1, d2, d3, d4] M6)) (fun x7 E7 M7 => sm_dq E7 [d0, d1, d2, d3, d4] (sm_bi (sm_ga [d4] gC (jC_put d4 (4 : Int32) (1 : Int32) (1 : Int32) (4 : Int32) [d0, d1, d2, d3, d4] M7)) (fun x8 E8 M8 => sm_dq E8 [d0, d1, d2, d3, d4] (sm_bi (sm_ga [d4] gC (jW_extend d0 d1 d2 d3 d4 l2 (M 11 (Int32.toNatClampNeg l1)) (1 : Int32) M8)) (fun x9 E9 M9 => sm_dq E9 [d0, d1, d2, d3, d4] (sm_bi (sm_ga [d4] gC (jC_put d4 (4 : Int32) (1 : Int32) (1 : Int32) (3 : Int32) [d0, d1, d2, d3, d4] M9)) (fun x10 E10 M10 => sm_dq E10 [d0, d1, d2, d3, d4] (sm_bi (sm_ga [d4] gC (jW_extend d0 d1 d2 d3 d4 x9 x3 (0 : Int32) M10)) (fun x11 E11 M11 => sm_dq E11 [d0, d1, d2, d3, d4] (sm_bi (sm_ga [d4] gC (jC_put d4 (4 : Int32) (1 : Int32) (1 : Int32) (2 : Int32) [d0, d1, d2, d3, d4] M11)) (fun x12 E12 M12 => sm_dq E12 [d0, d1, d2, d3, d4] (sm_ck l1 40 (sm_bi (sm_ga [d4] gC (jW_extend d0 d1 d2 d3 d4 x11 x1 (1 : Int32) M12)) (fun x13 E13 M13 => sm_dq E13 [d0, d1, d2, d3, d4] (sm_bi (sm_ga [d4] gC (jW_write 8 d0 d1 d2 d3 d4 (M12 12 (Int32.toNatClampNeg l1)) x13 M13)) (fun x14 E14 M14 => sm_dq E14 [d0, d1, d2, d3, d4] (sm_bi (sm_ga [d4] gC (jC_put d4 (5 : Int32) (4 : Int32) (1 : Int32) (0 : Int32) [d0, d1, d2, d3, d4] M14)) (fun x15 E15 M15 => sm_dq E15 [d0, d1, d2, d3, d4] (sm_bi (sm_ga [d4] gC (jC_put d4 (5 : Int32) (4 : Int32) (4 : Int32) (1 : Int32) [d0, d1, d2, d3, d4] M15)) (fun x16 E16 M16 => sm_dq E16 [d0, d1, d2, d3, d4] (sm_bi (sm_ga [d4] gC (jC_put d4 (8 : Int32) (5 : Int32) (1 : Int32) (4 : Int32) [d0, d1, d2, d3, d4] M16)) (fun x17 E17 M17 => sm_dq E17 [d0, d1, d2, d3, d4] (sm_bi (sm_ga [d4] gC (jC_put d4 (11 : Int32) (5 : Int32) (0 : Int32) (0 : Int32) [d0, d1, d2, d3, d4] M17)) (fun x18 E18 M18 => sm_dq E18 [d0, d1, d2, d3, d4] (some ((0 : Int32), [d0, d1, d2, d3, d4], M18)))))))))))))))))))))))))))))))))))))))))
noncomputable def jW_translate_125 (p d0 d1 d2 d3 d4 : Nat) (s1 : Int32) (M : sm_M) : Option sm_S :=
  (sm_bo s1 (sm_bo ((sm_up M p 13 s1) p 13) (some (((sm_up M p 13 s1) p 13), [d0, d1, d2, d3, p], (sm_up M p 13 s1)))))
noncomputable def jW_translate_106 (p d0 d1 d2 d3 d4 : Nat) (M : sm_M) : Option sm_S :=
  (if (M p 15) = (0 : Int32) then (sm_eqp p p (sm_dq [d0, d1, d2, d3, p] [d0, d1, d2, d3, p] (jW_translate_125 p d0 d1 d2 d3 d4 (1 : Int32) M))) else (sm_eqp p p (sm_dq [d0, d1, d2, d3, p] [d0, d1, d2, d3, p] (jW_translate_125 p d0 d1 d2 d3 d4 (0 : Int32) M))))
noncomputable def jW_translate_60_c (p d0 d1 d2 d3 d4 : Nat) (l3 : Int32) (M : sm_M) : Option ((Int32 × sm_M) ⊕ sm_S) :=
  (if l3 < (M 24 9) then (if (M p 15) = (0 : Int32) then (sm_ck l3 40 (sm_ck l3 40 (sm_ck l3 40 (sm_bi (jW_writeBody d0 d1 d2 d3 p (M 28 (Int32.toNatClampNeg l3)) (M 29 (Int32.toNatClampNeg l3)) (M 30 (Int32.toNatClampNeg l3)) M) (fun x1 E1 M1 => sm_dq E1 [d0, d1, d2, d3, p] (sm_dq [d0, d1, d2, d3, p] [d0, d1, d2, d3, p] (some (.inl ((l3 + (1 : Int32)), M1))))))))) else (sm_dq [d0, d1, d2, d3, p] [d0, d1, d2, d3, p] (sm_inr (jW_translate_106 p d0 d1 d2 d3 d4 M)))) else (sm_dq [d0, d1, d2, d3, p] [d0, d1, d2, d3, p] (sm_inr (jW_translate_106 p d0 d1 d2 d3 d4 M))))
noncomputable def jW_translate_60_b (p d0 d1 d2 d3 d4 : Nat) (s : Int32 × sm_M) : Option ((Int32 × sm_M) ⊕ sm_S) := jW_translate_60_c p d0 d1 d2 d3 d4 s.1 s.2
noncomputable def jW_translate_60 (p d0 d1 d2 d3 d4 : Nat) (l3 : Int32) (M : sm_M) : Option sm_S := sm_lp (jW_translate_60_b p d0 d1 d2 d3 d4) (l3, M)
noncomputable def jW_translate (p d0 d1 d2 d3 d4 : Nat) (l1 : Int32) (M : sm_M) : Option sm_S :=
  (sm_bi (sm_ga [p] gC (jC_wipe p [d0, d1, d2, d3, p] M)) (fun x1 E1 M1 => sm_dq E1 [d0, d1, d2, d3, p] (sm_bi (sm_ga [p] gC (jC_reserve p [d0, d1, d2, d3, p] (sm_up (sm_up M1 24 9 (0 : Int32)) 24 5 (1 : Int32)))) (fun x2 E2 M2 => sm_dq E2 [d0, d1, d2, d3, p] (sm_bi (sm_ga [p] gC (jC_open p x2 (0 : Int32) (-1 : Int32) (-1 : Int32) [d0, d1, d2, d3, p] M2)) (fun x3 E3 M3 => sm_dq E3 [d0, d1, d2, d3, p] (sm_bi (sm_ga [p] gC (jW_write 8 d0 d1 d2 d3 p l1 (0 : Int32) M3)) (fun x4 E4 M4 => sm_dq E4 [d0, d1, d2, d3, p] (sm_bi (sm_ga [p] gC (jC_put p (12 : Int32) (0 : Int32) (0 : Int32) (0 : Int32) [d0, d1, d2, d3, p] M4)) (fun x5 E5 M5 => sm_dq E5 [d0, d1, d2, d3, p] (sm_dq [d0, d1, d2, d3, p] [d0, d1, d2, d3, p] (jW_translate_60 p d0 d1 d2 d3 d4 (0 : Int32) M5))))))))))))
noncomputable def jV_value (l1 l2 l3 : Int32) (D : sm_D) (M : sm_M) : Option sm_S :=
  (if (M 18 4) = (500 : Int32) then (some ((0 : Int32), D, M)) else (sm_ck (M 18 4) 500 (sm_ck ((sm_up M 19 (Int32.toNatClampNeg (M 18 4)) l1) 18 4) 500 (sm_ck ((sm_up (sm_up M 19 (Int32.toNatClampNeg (M 18 4)) l1) 20 (Int32.toNatClampNeg ((sm_up M 19 (Int32.toNatClampNeg (M 18 4)) l1) 18 4)) l2) 18 4) 500 (some ((((sm_up (sm_up (sm_up (sm_up M 19 (Int32.toNatClampNeg (M 18 4)) l1) 20 (Int32.toNatClampNeg ((sm_up M 19 (Int32.toNatClampNeg (M 18 4)) l1) 18 4)) l2) 21 (Int32.toNatClampNeg ((sm_up (sm_up M 19 (Int32.toNatClampNeg (M 18 4)) l1) 20 (Int32.toNatClampNeg ((sm_up M 19 (Int32.toNatClampNeg (M 18 4)) l1) 18 4)) l2) 18 4)) l3) 18 4 (((sm_up (sm_up (sm_up M 19 (Int32.toNatClampNeg (M 18 4)) l1) 20 (Int32.toNatClampNeg ((sm_up M 19 (Int32.toNatClampNeg (M 18 4)) l1) 18 4)) l2) 21 (Int32.toNatClampNeg ((sm_up (sm_up M 19 (Int32.toNatClampNeg (M 18 4)) l1) 20 (Int32.toNatClampNeg ((sm_up M 19 (Int32.toNatClampNeg (M 18 4)) l1) 18 4)) l2) 18 4)) l3) 18 4) + (1 : Int32))) 18 4) - (1 : Int32)), D, (sm_up (sm_up (sm_up (sm_up M 19 (Int32.toNatClampNeg (M 18 4)) l1) 20 (Int32.toNatClampNeg ((sm_up M 19 (Int32.toNatClampNeg (M 18 4)) l1) 18 4)) l2) 21 (Int32.toNatClampNeg ((sm_up (sm_up M 19 (Int32.toNatClampNeg (M 18 4)) l1) 20 (Int32.toNatClampNeg ((sm_up M 19 (Int32.toNatClampNeg (M 18 4)) l1) 18 4)) l2) 18 4)) l3) 18 4 (((sm_up (sm_up (sm_up M 19 (Int32.toNatClampNeg (M 18 4)) l1) 20 (Int32.toNatClampNeg ((sm_up M 19 (Int32.toNatClampNeg (M 18 4)) l1) 18 4)) l2) 21 (Int32.toNatClampNeg ((sm_up (sm_up M 19 (Int32.toNatClampNeg (M 18 4)) l1) 20 (Int32.toNatClampNeg ((sm_up M 19 (Int32.toNatClampNeg (M 18 4)) l1) 18 4)) l2) 18 4)) l3) 18 4) + (1 : Int32)))))))))
noncomputable def jV_ofVariable_62 (s0 : Int32) (D : sm_D) (M : sm_M) : Option sm_S :=
  (some (s0, D, M))
noncomputable def jV_ofVariable_34 (l1 l3 : Int32) (D : sm_D) (M : sm_M) : Option sm_S :=
  (if l3 = (-1 : Int32) then (some ((0 : Int32), D, M)) else (sm_nz (2 : Int32) (if (l1 - l1 / (2 : Int32) * (2 : Int32)) = (0 : Int32) then (sm_ck l3 166 (jV_ofVariable_62 (M 23 (Int32.toNatClampNeg l3)) D M)) else (sm_ck l3 166 (jV_ofVariable_62 (M 22 (Int32.toNatClampNeg l3)) D M)))))
noncomputable def jV_ofVariable_5_c (l1 l3 l4 : Int32) (D : sm_D) (M : sm_M) : Option ((Int32 × Int32 × Int32 × sm_M) ⊕ sm_S) :=
  (if (1 : Int32) < l4 then (if l3 = (-1 : Int32) then (sm_inr (jV_ofVariable_34 l1 l3 D M)) else (sm_ck l3 166 (sm_ck (M 22 (Int32.toNatClampNeg l3)) 500 (sm_dq D D (some (.inl (l1, (M 21 (Int32.toNatClampNeg (M 22 (Int32.toNatClampNeg l3)))), (l4 + (-2 : Int32)), M))))))) else (sm_inr (jV_ofVariable_34 l1 l3 D M)))
noncomputable def jV_ofVariable_5_b (D : sm_D) (s : Int32 × Int32 × Int32 × sm_M) : Option ((Int32 × Int32 × Int32 × sm_M) ⊕ sm_S) := jV_ofVariable_5_c s.1 s.2.1 s.2.2.1 D s.2.2.2
noncomputable def jV_ofVariable_5 (l1 l3 l4 : Int32) (D : sm_D) (M : sm_M) : Option sm_S := sm_lp (jV_ofVariable_5_b D) (l1, l3, l4, M)
noncomputable def jV_ofVariable (l1 l2 : Int32) (D : sm_D) (M : sm_M) : Option sm_S :=
  (jV_ofVariable_5 l1 l2 l1 D M)
noncomputable def jV_ofChoice_59 (rec : Int32 → Int32 → Int32 → sm_D → sm_M → Option sm_S) (l2 l3 s0 : Int32) (D : sm_D) (M : sm_M) : Option sm_S :=
  (sm_bi (rec s0 l2 (l3 + (1 : Int32)) D M) (fun x1 E1 M1 => sm_dq E1 D (some (x1, D, M1))))
noncomputable def jV_ofChoice (rec : Int32 → Int32 → Int32 → sm_D → sm_M → Option sm_S) (l1 l2 l3 : Int32) (D : sm_D) (M : sm_M) : Option sm_S :=
  (sm_ck l1 40 (sm_bi (rec (M 12 (Int32.toNatClampNeg l1)) l2 (l3 + (1 : Int32)) D M) (fun x1 E1 M1 => sm_dq E1 D (if (M1 18 9) = (0 : Int32) then (sm_ck x1 500 (if (M1 20 (Int32.toNatClampNeg x1)) = (0 : Int32) then (sm_ck l1 40 (jV_ofChoice_59 rec l2 l3 (M1 13 (Int32.toNatClampNeg l1)) D M1)) else (sm_ck l1 40 (jV_ofChoice_59 rec l2 l3 (M1 14 (Int32.toNatClampNeg l1)) D M1)))) else (some ((0 : Int32), D, M1))))))
noncomputable def jV_ofCall_66 (rec : Int32 → Int32 → Int32 → sm_D → sm_M → Option sm_S) (D : sm_D) (M : sm_M) : Option sm_S :=
  (some ((0 : Int32), D, M))
noncomputable def jV_ofCall (rec : Int32 → Int32 → Int32 → sm_D → sm_M → Option sm_S) (l1 l2 l3 : Int32) (D : sm_D) (M : sm_M) : Option sm_S :=
  (sm_ck l1 40 (sm_bi (rec (M 12 (Int32.toNatClampNeg l1)) l2 (l3 + (1 : Int32)) D M) (fun x1 E1 M1 => sm_dq E1 D (sm_ck l1 40 (sm_bi (rec (M1 13 (Int32.toNatClampNeg l1)) l2 (l3 + (1 : Int32)) D M1) (fun x2 E2 M2 => sm_dq E2 D (if (M2 18 9) = (0 : Int32) then (sm_ck x1 500 (if (M2 19 (Int32.toNatClampNeg x1)) = (2 : Int32) then (if (M2 18 7) = (166 : Int32) then (jV_ofCall_66 rec D M2) else (sm_ck (M2 18 7) 166 (sm_ck (M2 18 7) 166 (sm_ck x1 500 (sm_ck ((sm_up (sm_up (sm_up M2 18 7 ((M2 18 7) + (1 : Int32))) 22 (Int32.toNatClampNeg (M2 18 7)) x1) 23 (Int32.toNatClampNeg (M2 18 7)) x2) 20 (Int32.toNatClampNeg x1)) 40 (sm_bi (rec ((sm_up (sm_up (sm_up M2 18 7 ((M2 18 7) + (1 : Int32))) 22 (Int32.toNatClampNeg (M2 18 7)) x1) 23 (Int32.toNatClampNeg (M2 18 7)) x2) 12 (Int32.toNatClampNeg ((sm_up (sm_up (sm_up M2 18 7 ((M2 18 7) + (1 : Int32))) 22 (Int32.toNatClampNeg (M2 18 7)) x1) 23 (Int32.toNatClampNeg (M2 18 7)) x2) 20 (Int32.toNatClampNeg x1)))) (M2 18 7) (l3 + (1 : Int32)) D (sm_up (sm_up (sm_up M2 18 7 ((M2 18 7) + (1 : Int32))) 22 (Int32.toNatClampNeg (M2 18 7)) x1) 23 (Int32.toNatClampNeg (M2 18 7)) x2)) (fun x3 E3 M3 => sm_dq E3 D (some (x3, D, M3))))))))) else (jV_ofCall_66 rec D M2))) else (jV_ofCall_66 rec D M2))))))))
noncomputable def jV_ofPart_37 (rec : Int32 → Int32 → Int32 → sm_D → sm_M → Option sm_S) (D : sm_D) (M : sm_M) : Option sm_S :=
  (some ((0 : Int32), D, M))
noncomputable def jV_ofPart_70 (rec : Int32 → Int32 → Int32 → sm_D → sm_M → Option sm_S) (s0 : Int32) (D : sm_D) (M : sm_M) : Option sm_S :=
  (some (s0, D, M))
noncomputable def jV_ofPart (rec : Int32 → Int32 → Int32 → sm_D → sm_M → Option sm_S) (l1 l2 l3 : Int32) (D : sm_D) (M : sm_M) : Option sm_S :=
  (sm_ck l1 40 (sm_bi (rec (M 12 (Int32.toNatClampNeg l1)) l2 (l3 + (1 : Int32)) D M) (fun x1 E1 M1 => sm_dq E1 D (if (M1 18 9) = (0 : Int32) then (sm_ck x1 500 (if (M1 19 (Int32.toNatClampNeg x1)) = (1 : Int32) then (sm_ck l1 40 (if (M1 10 (Int32.toNatClampNeg l1)) = (9 : Int32) then (sm_ck x1 500 (jV_ofPart_70 rec (M1 20 (Int32.toNatClampNeg x1)) D M1)) else (sm_ck x1 500 (jV_ofPart_70 rec (M1 21 (Int32.toNatClampNeg x1)) D M1)))) else (jV_ofPart_37 rec D M1))) else (jV_ofPart_37 rec D M1)))))
noncomputable def jV_ofTwo (rec : Int32 → Int32 → Int32 → sm_D → sm_M → Option sm_S) (l1 l2 l3 : Int32) (D : sm_D) (M : sm_M) : Option sm_S :=
  (sm_ck l1 40 (sm_bi (rec (M 12 (Int32.toNatClampNeg l1)) l2 (l3 + (1 : Int32)) D M) (fun x1 E1 M1 => sm_dq E1 D (sm_ck l1 40 (sm_bi (rec (M1 13 (Int32.toNatClampNeg l1)) l2 (l3 + (1 : Int32)) D M1) (fun x2 E2 M2 => sm_dq E2 D (if (M2 18 9) = (0 : Int32) then (sm_ck l1 40 (if (M2 10 (Int32.toNatClampNeg l1)) = (2 : Int32) then (sm_ck x1 500 (sm_ck x2 500 (sm_bi (jV_value (0 : Int32) ((M2 20 (Int32.toNatClampNeg x1)) + (M2 20 (Int32.toNatClampNeg x2))) (0 : Int32) D M2) (fun x6 E6 M6 => sm_dq E6 D (some (x6, D, M6)))))) else (if (M2 10 (Int32.toNatClampNeg l1)) = (3 : Int32) then (sm_ck x1 500 (sm_ck x2 500 (sm_bi (jV_value (0 : Int32) ((M2 20 (Int32.toNatClampNeg x1)) - (M2 20 (Int32.toNatClampNeg x2))) (0 : Int32) D M2) (fun x5 E5 M5 => sm_dq E5 D (some (x5, D, M5)))))) else (if (M2 10 (Int32.toNatClampNeg l1)) = (4 : Int32) then (sm_ck x1 500 (sm_ck x2 500 (sm_bi (jV_value (0 : Int32) ((M2 20 (Int32.toNatClampNeg x1)) * (M2 20 (Int32.toNatClampNeg x2))) (0 : Int32) D M2) (fun x4 E4 M4 => sm_dq E4 D (some (x4, D, M4)))))) else (sm_bi (jV_value (1 : Int32) x1 x2 D M2) (fun x3 E3 M3 => sm_dq E3 D (some (x3, D, M3)))))))) else (some ((0 : Int32), D, M2)))))))))
noncomputable def jV_find_23 (rec : Int32 → Int32 → Int32 → sm_D → sm_M → Option sm_S) (D : sm_D) (M : sm_M) : Option sm_S :=
  (sm_bo (1 : Int32) (some ((0 : Int32), D, (sm_up M 18 9 (1 : Int32)))))
noncomputable def jV_find_163 (rec : Int32 → Int32 → Int32 → sm_D → sm_M → Option sm_S) (l1 l2 l3 : Int32) (D : sm_D) (M : sm_M) : Option sm_S :=
  (sm_bi (jV_ofPart rec l1 l2 l3 D M) (fun x1 E1 M1 => sm_dq E1 D (some (x1, D, M1))))
noncomputable def jV_find_171 (rec : Int32 → Int32 → Int32 → sm_D → sm_M → Option sm_S) (l1 l2 l3 : Int32) (D : sm_D) (M : sm_M) : Option sm_S :=
  (sm_bi (jV_ofTwo rec l1 l2 l3 D M) (fun x1 E1 M1 => sm_dq E1 D (some (x1, D, M1))))
noncomputable def jV_find0 (rec : Int32 → Int32 → Int32 → sm_D → sm_M → Option sm_S) (l1 l2 l3 : Int32) (D : sm_D) (M : sm_M) : Option sm_S :=
  (if (M 18 9) = (0 : Int32) then (if (M 18 8) = (500 : Int32) then (jV_find_23 rec D M) else (if (60 : Int32) < l3 then (jV_find_23 rec D M) else (sm_ck l1 40 (if ((sm_up M 18 8 ((M 18 8) + (1 : Int32))) 10 (Int32.toNatClampNeg l1)) = (0 : Int32) then (sm_ck l1 40 (sm_bi (jV_value (0 : Int32) ((sm_up M 18 8 ((M 18 8) + (1 : Int32))) 11 (Int32.toNatClampNeg l1)) (0 : Int32) D (sm_up M 18 8 ((M 18 8) + (1 : Int32)))) (fun x5 E5 M5 => sm_dq E5 D (some (x5, D, M5))))) else (if ((sm_up M 18 8 ((M 18 8) + (1 : Int32))) 10 (Int32.toNatClampNeg l1)) = (1 : Int32) then (sm_ck l1 40 (sm_bi (jV_ofVariable ((sm_up M 18 8 ((M 18 8) + (1 : Int32))) 11 (Int32.toNatClampNeg l1)) l2 D (sm_up M 18 8 ((M 18 8) + (1 : Int32)))) (fun x4 E4 M4 => sm_dq E4 D (some (x4, D, M4))))) else (if ((sm_up M 18 8 ((M 18 8) + (1 : Int32))) 10 (Int32.toNatClampNeg l1)) = (2 : Int32) then (jV_find_171 rec l1 l2 l3 D (sm_up M 18 8 ((M 18 8) + (1 : Int32)))) else (if ((sm_up M 18 8 ((M 18 8) + (1 : Int32))) 10 (Int32.toNatClampNeg l1)) = (3 : Int32) then (jV_find_171 rec l1 l2 l3 D (sm_up M 18 8 ((M 18 8) + (1 : Int32)))) else (if ((sm_up M 18 8 ((M 18 8) + (1 : Int32))) 10 (Int32.toNatClampNeg l1)) = (4 : Int32) then (jV_find_171 rec l1 l2 l3 D (sm_up M 18 8 ((M 18 8) + (1 : Int32)))) else (if ((sm_up M 18 8 ((M 18 8) + (1 : Int32))) 10 (Int32.toNatClampNeg l1)) = (5 : Int32) then (sm_bi (jV_ofChoice rec l1 l2 l3 D (sm_up M 18 8 ((M 18 8) + (1 : Int32)))) (fun x3 E3 M3 => sm_dq E3 D (some (x3, D, M3)))) else (if ((sm_up M 18 8 ((M 18 8) + (1 : Int32))) 10 (Int32.toNatClampNeg l1)) = (6 : Int32) then (sm_bi (jV_value (2 : Int32) l1 l2 D (sm_up M 18 8 ((M 18 8) + (1 : Int32)))) (fun x2 E2 M2 => sm_dq E2 D (some (x2, D, M2)))) else (if ((sm_up M 18 8 ((M 18 8) + (1 : Int32))) 10 (Int32.toNatClampNeg l1)) = (7 : Int32) then (sm_bi (jV_ofCall rec l1 l2 l3 D (sm_up M 18 8 ((M 18 8) + (1 : Int32)))) (fun x1 E1 M1 => sm_dq E1 D (some (x1, D, M1)))) else (if ((sm_up M 18 8 ((M 18 8) + (1 : Int32))) 10 (Int32.toNatClampNeg l1)) = (8 : Int32) then (jV_find_171 rec l1 l2 l3 D (sm_up M 18 8 ((M 18 8) + (1 : Int32)))) else (if ((sm_up M 18 8 ((M 18 8) + (1 : Int32))) 10 (Int32.toNatClampNeg l1)) = (9 : Int32) then (jV_find_163 rec l1 l2 l3 D (sm_up M 18 8 ((M 18 8) + (1 : Int32)))) else (if ((sm_up M 18 8 ((M 18 8) + (1 : Int32))) 10 (Int32.toNatClampNeg l1)) = (10 : Int32) then (jV_find_163 rec l1 l2 l3 D (sm_up M 18 8 ((M 18 8) + (1 : Int32)))) else (jV_find_171 rec l1 l2 l3 D (sm_up M 18 8 ((M 18 8) + (1 : Int32)))))))))))))))))) else (jV_find_23 rec D M))
noncomputable def jV_find : Nat → Int32 → Int32 → Int32 → sm_D → sm_M → Option sm_S
  | 0 => fun _ _ _ _ _ => none
  | n + 1 => jV_find0 (jV_find n)
noncomputable def jV_answerOf_45 (s0 : Int32) (D : sm_D) (M : sm_M) : Option sm_S :=
  (some (s0, D, M))
noncomputable def jV_answerOf (l1 : Int32) (D : sm_D) (M : sm_M) : Option sm_S :=
  (sm_bo (0 : Int32) (sm_bi (jV_find 61 l1 (-1 : Int32) (1 : Int32) D (sm_up (sm_up (sm_up (sm_up M 18 4 (0 : Int32)) 18 7 (0 : Int32)) 18 8 (0 : Int32)) 18 9 (0 : Int32))) (fun x1 E1 M1 => sm_dq E1 D (if (M1 18 9) = (0 : Int32) then (sm_ck x1 500 (jV_answerOf_45 (M1 20 (Int32.toNatClampNeg x1)) D M1)) else (jV_answerOf_45 (0 : Int32) D M1)))))
end
section
/-! the methods as functions: by program -/
noncomputable def jR_thrown (D : sm_D) (M : sm_M) : Option sm_S :=
  (some ((M 1 0), D, M))
noncomputable def jR_refuse (l1 : Int32) (D : sm_D) (M : sm_M) : Option sm_S :=
  (some ((0 : Int32), D, (sm_up M 1 0 l1)))
noncomputable def jR_sizeOf_14 (s0 : Int32) (D : sm_D) (M : sm_M) : Option sm_S :=
  (some (s0, D, M))
noncomputable def jR_sizeOf (l1 : Int32) (D : sm_D) (M : sm_M) : Option sm_S :=
  (if l1 < (0 : Int32) then (jR_sizeOf_14 (0 : Int32) D M) else (sm_ck l1 3000 (jR_sizeOf_14 (M 6 (Int32.toNatClampNeg l1)) D M)))
noncomputable def jR_find_65 (l1 l2 l3 l4 l5 : Int32) (D : sm_D) (M : sm_M) : Option ((Int32 × Int32 × Int32 × Int32 × Int32 × sm_M) ⊕ sm_S) :=
  (sm_dq D D (some (.inl (l1, l2, l3, l4, (l5 + (1 : Int32)), M))))
noncomputable def jR_find_71 (l1 l2 l3 l4 : Int32) (D : sm_D) (M : sm_M) : Option sm_S :=
  (sm_ck (M 1 1) 3000 (sm_ck ((sm_up M 2 (Int32.toNatClampNeg (M 1 1)) l1) 1 1) 3000 (sm_ck ((sm_up (sm_up M 2 (Int32.toNatClampNeg (M 1 1)) l1) 3 (Int32.toNatClampNeg ((sm_up M 2 (Int32.toNatClampNeg (M 1 1)) l1) 1 1)) l2) 1 1) 3000 (sm_ck ((sm_up (sm_up (sm_up M 2 (Int32.toNatClampNeg (M 1 1)) l1) 3 (Int32.toNatClampNeg ((sm_up M 2 (Int32.toNatClampNeg (M 1 1)) l1) 1 1)) l2) 4 (Int32.toNatClampNeg ((sm_up (sm_up M 2 (Int32.toNatClampNeg (M 1 1)) l1) 3 (Int32.toNatClampNeg ((sm_up M 2 (Int32.toNatClampNeg (M 1 1)) l1) 1 1)) l2) 1 1)) l3) 1 1) 3000 (sm_bi (jR_sizeOf l2 D (sm_up (sm_up (sm_up (sm_up M 2 (Int32.toNatClampNeg (M 1 1)) l1) 3 (Int32.toNatClampNeg ((sm_up M 2 (Int32.toNatClampNeg (M 1 1)) l1) 1 1)) l2) 4 (Int32.toNatClampNeg ((sm_up (sm_up M 2 (Int32.toNatClampNeg (M 1 1)) l1) 3 (Int32.toNatClampNeg ((sm_up M 2 (Int32.toNatClampNeg (M 1 1)) l1) 1 1)) l2) 1 1)) l3) 5 (Int32.toNatClampNeg ((sm_up (sm_up (sm_up M 2 (Int32.toNatClampNeg (M 1 1)) l1) 3 (Int32.toNatClampNeg ((sm_up M 2 (Int32.toNatClampNeg (M 1 1)) l1) 1 1)) l2) 4 (Int32.toNatClampNeg ((sm_up (sm_up M 2 (Int32.toNatClampNeg (M 1 1)) l1) 3 (Int32.toNatClampNeg ((sm_up M 2 (Int32.toNatClampNeg (M 1 1)) l1) 1 1)) l2) 1 1)) l3) 1 1)) l4)) (fun x1 E1 M1 => sm_dq E1 D (sm_bi (jR_sizeOf l3 D M1) (fun x2 E2 M2 => sm_dq E2 D (sm_bi (jR_sizeOf l4 D M2) (fun x3 E3 M3 => sm_dq E3 D (sm_ck ((sm_up (sm_up (sm_up (sm_up M 2 (Int32.toNatClampNeg (M 1 1)) l1) 3 (Int32.toNatClampNeg ((sm_up M 2 (Int32.toNatClampNeg (M 1 1)) l1) 1 1)) l2) 4 (Int32.toNatClampNeg ((sm_up (sm_up M 2 (Int32.toNatClampNeg (M 1 1)) l1) 3 (Int32.toNatClampNeg ((sm_up M 2 (Int32.toNatClampNeg (M 1 1)) l1) 1 1)) l2) 1 1)) l3) 5 (Int32.toNatClampNeg ((sm_up (sm_up (sm_up M 2 (Int32.toNatClampNeg (M 1 1)) l1) 3 (Int32.toNatClampNeg ((sm_up M 2 (Int32.toNatClampNeg (M 1 1)) l1) 1 1)) l2) 4 (Int32.toNatClampNeg ((sm_up (sm_up M 2 (Int32.toNatClampNeg (M 1 1)) l1) 3 (Int32.toNatClampNeg ((sm_up M 2 (Int32.toNatClampNeg (M 1 1)) l1) 1 1)) l2) 1 1)) l3) 1 1)) l4) 1 1) 3000 (some ((((sm_up (sm_up M3 6 (Int32.toNatClampNeg ((sm_up (sm_up (sm_up (sm_up M 2 (Int32.toNatClampNeg (M 1 1)) l1) 3 (Int32.toNatClampNeg ((sm_up M 2 (Int32.toNatClampNeg (M 1 1)) l1) 1 1)) l2) 4 (Int32.toNatClampNeg ((sm_up (sm_up M 2 (Int32.toNatClampNeg (M 1 1)) l1) 3 (Int32.toNatClampNeg ((sm_up M 2 (Int32.toNatClampNeg (M 1 1)) l1) 1 1)) l2) 1 1)) l3) 5 (Int32.toNatClampNeg ((sm_up (sm_up (sm_up M 2 (Int32.toNatClampNeg (M 1 1)) l1) 3 (Int32.toNatClampNeg ((sm_up M 2 (Int32.toNatClampNeg (M 1 1)) l1) 1 1)) l2) 4 (Int32.toNatClampNeg ((sm_up (sm_up M 2 (Int32.toNatClampNeg (M 1 1)) l1) 3 (Int32.toNatClampNeg ((sm_up M 2 (Int32.toNatClampNeg (M 1 1)) l1) 1 1)) l2) 1 1)) l3) 1 1)) l4) 1 1)) ((((1 : Int32) + x1) + x2) + x3)) 1 1 (((sm_up M3 6 (Int32.toNatClampNeg ((sm_up (sm_up (sm_up (sm_up M 2 (Int32.toNatClampNeg (M 1 1)) l1) 3 (Int32.toNatClampNeg ((sm_up M 2 (Int32.toNatClampNeg (M 1 1)) l1) 1 1)) l2) 4 (Int32.toNatClampNeg ((sm_up (sm_up M 2 (Int32.toNatClampNeg (M 1 1)) l1) 3 (Int32.toNatClampNeg ((sm_up M 2 (Int32.toNatClampNeg (M 1 1)) l1) 1 1)) l2) 1 1)) l3) 5 (Int32.toNatClampNeg ((sm_up (sm_up (sm_up M 2 (Int32.toNatClampNeg (M 1 1)) l1) 3 (Int32.toNatClampNeg ((sm_up M 2 (Int32.toNatClampNeg (M 1 1)) l1) 1 1)) l2) 4 (Int32.toNatClampNeg ((sm_up (sm_up M 2 (Int32.toNatClampNeg (M 1 1)) l1) 3 (Int32.toNatClampNeg ((sm_up M 2 (Int32.toNatClampNeg (M 1 1)) l1) 1 1)) l2) 1 1)) l3) 1 1)) l4) 1 1)) ((((1 : Int32) + x1) + x2) + x3)) 1 1) + (1 : Int32))) 1 1) - (1 : Int32)), D, (sm_up (sm_up M3 6 (Int32.toNatClampNeg ((sm_up (sm_up (sm_up (sm_up M 2 (Int32.toNatClampNeg (M 1 1)) l1) 3 (Int32.toNatClampNeg ((sm_up M 2 (Int32.toNatClampNeg (M 1 1)) l1) 1 1)) l2) 4 (Int32.toNatClampNeg ((sm_up (sm_up M 2 (Int32.toNatClampNeg (M 1 1)) l1) 3 (Int32.toNatClampNeg ((sm_up M 2 (Int32.toNatClampNeg (M 1 1)) l1) 1 1)) l2) 1 1)) l3) 5 (Int32.toNatClampNeg ((sm_up (sm_up (sm_up M 2 (Int32.toNatClampNeg (M 1 1)) l1) 3 (Int32.toNatClampNeg ((sm_up M 2 (Int32.toNatClampNeg (M 1 1)) l1) 1 1)) l2) 4 (Int32.toNatClampNeg ((sm_up (sm_up M 2 (Int32.toNatClampNeg (M 1 1)) l1) 3 (Int32.toNatClampNeg ((sm_up M 2 (Int32.toNatClampNeg (M 1 1)) l1) 1 1)) l2) 1 1)) l3) 1 1)) l4) 1 1)) ((((1 : Int32) + x1) + x2) + x3)) 1 1 (((sm_up M3 6 (Int32.toNatClampNeg ((sm_up (sm_up (sm_up (sm_up M 2 (Int32.toNatClampNeg (M 1 1)) l1) 3 (Int32.toNatClampNeg ((sm_up M 2 (Int32.toNatClampNeg (M 1 1)) l1) 1 1)) l2) 4 (Int32.toNatClampNeg ((sm_up (sm_up M 2 (Int32.toNatClampNeg (M 1 1)) l1) 3 (Int32.toNatClampNeg ((sm_up M 2 (Int32.toNatClampNeg (M 1 1)) l1) 1 1)) l2) 1 1)) l3) 5 (Int32.toNatClampNeg ((sm_up (sm_up (sm_up M 2 (Int32.toNatClampNeg (M 1 1)) l1) 3 (Int32.toNatClampNeg ((sm_up M 2 (Int32.toNatClampNeg (M 1 1)) l1) 1 1)) l2) 4 (Int32.toNatClampNeg ((sm_up (sm_up M 2 (Int32.toNatClampNeg (M 1 1)) l1) 3 (Int32.toNatClampNeg ((sm_up M 2 (Int32.toNatClampNeg (M 1 1)) l1) 1 1)) l2) 1 1)) l3) 1 1)) l4) 1 1)) ((((1 : Int32) + x1) + x2) + x3)) 1 1) + (1 : Int32))))))))))))))))
noncomputable def jR_find_3_c (l1 l2 l3 l4 l5 : Int32) (D : sm_D) (M : sm_M) : Option ((Int32 × Int32 × Int32 × Int32 × Int32 × sm_M) ⊕ sm_S) :=
  (if l5 < (M 1 1) then (if l1 = (5 : Int32) then (sm_inr (jR_find_71 l1 l2 l3 l4 D M)) else (sm_ck l5 3000 (if (M 2 (Int32.toNatClampNeg l5)) = l1 then (sm_ck l5 3000 (if (M 3 (Int32.toNatClampNeg l5)) = l2 then (sm_ck l5 3000 (if (M 4 (Int32.toNatClampNeg l5)) = l3 then (sm_ck l5 3000 (if (M 5 (Int32.toNatClampNeg l5)) = l4 then (some (.inr (l5, D, M))) else (jR_find_65 l1 l2 l3 l4 l5 D M))) else (jR_find_65 l1 l2 l3 l4 l5 D M))) else (jR_find_65 l1 l2 l3 l4 l5 D M))) else (jR_find_65 l1 l2 l3 l4 l5 D M)))) else (sm_inr (jR_find_71 l1 l2 l3 l4 D M)))
noncomputable def jR_find_3_b (D : sm_D) (s : Int32 × Int32 × Int32 × Int32 × Int32 × sm_M) : Option ((Int32 × Int32 × Int32 × Int32 × Int32 × sm_M) ⊕ sm_S) := jR_find_3_c s.1 s.2.1 s.2.2.1 s.2.2.2.1 s.2.2.2.2.1 D s.2.2.2.2.2
noncomputable def jR_find_3 (l1 l2 l3 l4 l5 : Int32) (D : sm_D) (M : sm_M) : Option sm_S := sm_lp (jR_find_3_b D) (l1, l2, l3, l4, l5, M)
noncomputable def jR_find (l1 l2 l3 l4 : Int32) (D : sm_D) (M : sm_M) : Option sm_S :=
  (jR_find_3 l1 l2 l3 l4 (0 : Int32) D M)
noncomputable def jR_isMade_17 (s0 : Int32) (D : sm_D) (M : sm_M) : Option sm_S :=
  (sm_bo s0 (some (s0, D, M)))
noncomputable def jR_isMade_16 (D : sm_D) (M : sm_M) : Option sm_S :=
  (jR_isMade_17 (0 : Int32) D M)
noncomputable def jR_isMade (l1 : Int32) (D : sm_D) (M : sm_M) : Option sm_S :=
  (if l1 < (0 : Int32) then (jR_isMade_16 D M) else (if l1 < (M 1 7) then (jR_isMade_17 (1 : Int32) D M) else (jR_isMade_16 D M)))
noncomputable def jR_numberOf_14 (s0 : Int32) (D : sm_D) (M : sm_M) : Option sm_S :=
  (some (s0, D, M))
noncomputable def jR_numberOf (l1 : Int32) (D : sm_D) (M : sm_M) : Option sm_S :=
  (if l1 < (0 : Int32) then (jR_numberOf_14 (-1 : Int32) D M) else (sm_ck l1 30 (jR_numberOf_14 (M 7 (Int32.toNatClampNeg l1)) D M)))
noncomputable def jR_type_15 (D : sm_D) (M : sm_M) : Option sm_S :=
  (some ((-1 : Int32), D, M))
noncomputable def jR_type_195 (l1 l2 l5 l6 l8 : Int32) (D : sm_D) (M : sm_M) : Option ((Int32 × Int32 × Int32 × Int32 × Int32 × sm_M) ⊕ sm_S) :=
  (sm_dq D D (some (.inl (l1, l2, l5, l6, (l8 + (1 : Int32)), M))))
noncomputable def jR_type_248 (D : sm_D) (M : sm_M) : Option sm_S :=
  (some ((-1 : Int32), D, M))
noncomputable def jR_type_137_c (l1 l2 l5 l6 l8 : Int32) (D : sm_D) (M : sm_M) : Option ((Int32 × Int32 × Int32 × Int32 × Int32 × sm_M) ⊕ sm_S) :=
  (if l8 < (M 1 7) then (sm_ck l8 30 (if (M 8 (Int32.toNatClampNeg l8)) = l1 then (sm_ck l8 30 (if (M 9 (Int32.toNatClampNeg l8)) = l2 then (sm_ck l8 30 (if (M 10 (Int32.toNatClampNeg l8)) = l5 then (sm_ck l8 30 (if (M 11 (Int32.toNatClampNeg l8)) = l6 then (some (.inr (l8, D, M))) else (jR_type_195 l1 l2 l5 l6 l8 D M))) else (jR_type_195 l1 l2 l5 l6 l8 D M))) else (jR_type_195 l1 l2 l5 l6 l8 D M))) else (jR_type_195 l1 l2 l5 l6 l8 D M))) else (sm_bi (jR_numberOf l2 D M) (fun x1 E1 M1 => sm_dq E1 D (sm_bi (jR_sizeOf x1 D M1) (fun x2 E2 M2 => sm_dq E2 D (sm_bi (jR_numberOf l5 D M2) (fun x3 E3 M3 => sm_dq E3 D (sm_bi (jR_sizeOf x3 D M3) (fun x4 E4 M4 => sm_dq E4 D (sm_bi (jR_numberOf l6 D M4) (fun x5 E5 M5 => sm_dq E5 D (sm_bi (jR_sizeOf x5 D M5) (fun x6 E6 M6 => sm_dq E6 D (if (30 : Int32) < ((((1 : Int32) + x2) + x4) + x6) then (sm_inr (jR_type_248 D M6)) else (if (M6 1 7) = (30 : Int32) then (sm_inr (jR_type_248 D M6)) else (sm_ck (M6 1 7) 30 (sm_ck ((sm_up M6 8 (Int32.toNatClampNeg (M6 1 7)) l1) 1 7) 30 (sm_ck ((sm_up (sm_up M6 8 (Int32.toNatClampNeg (M6 1 7)) l1) 9 (Int32.toNatClampNeg ((sm_up M6 8 (Int32.toNatClampNeg (M6 1 7)) l1) 1 7)) l2) 1 7) 30 (sm_ck ((sm_up (sm_up (sm_up M6 8 (Int32.toNatClampNeg (M6 1 7)) l1) 9 (Int32.toNatClampNeg ((sm_up M6 8 (Int32.toNatClampNeg (M6 1 7)) l1) 1 7)) l2) 10 (Int32.toNatClampNeg ((sm_up (sm_up M6 8 (Int32.toNatClampNeg (M6 1 7)) l1) 9 (Int32.toNatClampNeg ((sm_up M6 8 (Int32.toNatClampNeg (M6 1 7)) l1) 1 7)) l2) 1 7)) l5) 1 7) 30 (sm_bi (jR_numberOf l2 D (sm_up (sm_up (sm_up (sm_up M6 8 (Int32.toNatClampNeg (M6 1 7)) l1) 9 (Int32.toNatClampNeg ((sm_up M6 8 (Int32.toNatClampNeg (M6 1 7)) l1) 1 7)) l2) 10 (Int32.toNatClampNeg ((sm_up (sm_up M6 8 (Int32.toNatClampNeg (M6 1 7)) l1) 9 (Int32.toNatClampNeg ((sm_up M6 8 (Int32.toNatClampNeg (M6 1 7)) l1) 1 7)) l2) 1 7)) l5) 11 (Int32.toNatClampNeg ((sm_up (sm_up (sm_up M6 8 (Int32.toNatClampNeg (M6 1 7)) l1) 9 (Int32.toNatClampNeg ((sm_up M6 8 (Int32.toNatClampNeg (M6 1 7)) l1) 1 7)) l2) 10 (Int32.toNatClampNeg ((sm_up (sm_up M6 8 (Int32.toNatClampNeg (M6 1 7)) l1) 9 (Int32.toNatClampNeg ((sm_up M6 8 (Int32.toNatClampNeg (M6 1 7)) l1) 1 7)) l2) 1 7)) l5) 1 7)) l6)) (fun x7 E7 M7 => sm_dq E7 D (sm_bi (jR_numberOf l5 D M7) (fun x8 E8 M8 => sm_dq E8 D (sm_bi (jR_numberOf l6 D M8) (fun x9 E9 M9 => sm_dq E9 D (sm_bi (jR_find l1 x7 x8 x9 D M9) (fun x10 E10 M10 => sm_dq E10 D (sm_ck ((sm_up (sm_up (sm_up (sm_up M6 8 (Int32.toNatClampNeg (M6 1 7)) l1) 9 (Int32.toNatClampNeg ((sm_up M6 8 (Int32.toNatClampNeg (M6 1 7)) l1) 1 7)) l2) 10 (Int32.toNatClampNeg ((sm_up (sm_up M6 8 (Int32.toNatClampNeg (M6 1 7)) l1) 9 (Int32.toNatClampNeg ((sm_up M6 8 (Int32.toNatClampNeg (M6 1 7)) l1) 1 7)) l2) 1 7)) l5) 11 (Int32.toNatClampNeg ((sm_up (sm_up (sm_up M6 8 (Int32.toNatClampNeg (M6 1 7)) l1) 9 (Int32.toNatClampNeg ((sm_up M6 8 (Int32.toNatClampNeg (M6 1 7)) l1) 1 7)) l2) 10 (Int32.toNatClampNeg ((sm_up (sm_up M6 8 (Int32.toNatClampNeg (M6 1 7)) l1) 9 (Int32.toNatClampNeg ((sm_up M6 8 (Int32.toNatClampNeg (M6 1 7)) l1) 1 7)) l2) 1 7)) l5) 1 7)) l6) 1 7) 30 (some (.inr ((((sm_up (sm_up M10 7 (Int32.toNatClampNeg ((sm_up (sm_up (sm_up (sm_up M6 8 (Int32.toNatClampNeg (M6 1 7)) l1) 9 (Int32.toNatClampNeg ((sm_up M6 8 (Int32.toNatClampNeg (M6 1 7)) l1) 1 7)) l2) 10 (Int32.toNatClampNeg ((sm_up (sm_up M6 8 (Int32.toNatClampNeg (M6 1 7)) l1) 9 (Int32.toNatClampNeg ((sm_up M6 8 (Int32.toNatClampNeg (M6 1 7)) l1) 1 7)) l2) 1 7)) l5) 11 (Int32.toNatClampNeg ((sm_up (sm_up (sm_up M6 8 (Int32.toNatClampNeg (M6 1 7)) l1) 9 (Int32.toNatClampNeg ((sm_up M6 8 (Int32.toNatClampNeg (M6 1 7)) l1) 1 7)) l2) 10 (Int32.toNatClampNeg ((sm_up (sm_up M6 8 (Int32.toNatClampNeg (M6 1 7)) l1) 9 (Int32.toNatClampNeg ((sm_up M6 8 (Int32.toNatClampNeg (M6 1 7)) l1) 1 7)) l2) 1 7)) l5) 1 7)) l6) 1 7)) x10) 1 7 (((sm_up M10 7 (Int32.toNatClampNeg ((sm_up (sm_up (sm_up (sm_up M6 8 (Int32.toNatClampNeg (M6 1 7)) l1) 9 (Int32.toNatClampNeg ((sm_up M6 8 (Int32.toNatClampNeg (M6 1 7)) l1) 1 7)) l2) 10 (Int32.toNatClampNeg ((sm_up (sm_up M6 8 (Int32.toNatClampNeg (M6 1 7)) l1) 9 (Int32.toNatClampNeg ((sm_up M6 8 (Int32.toNatClampNeg (M6 1 7)) l1) 1 7)) l2) 1 7)) l5) 11 (Int32.toNatClampNeg ((sm_up (sm_up (sm_up M6 8 (Int32.toNatClampNeg (M6 1 7)) l1) 9 (Int32.toNatClampNeg ((sm_up M6 8 (Int32.toNatClampNeg (M6 1 7)) l1) 1 7)) l2) 10 (Int32.toNatClampNeg ((sm_up (sm_up M6 8 (Int32.toNatClampNeg (M6 1 7)) l1) 9 (Int32.toNatClampNeg ((sm_up M6 8 (Int32.toNatClampNeg (M6 1 7)) l1) 1 7)) l2) 1 7)) l5) 1 7)) l6) 1 7)) x10) 1 7) + (1 : Int32))) 1 7) - (1 : Int32)), D, (sm_up (sm_up M10 7 (Int32.toNatClampNeg ((sm_up (sm_up (sm_up (sm_up M6 8 (Int32.toNatClampNeg (M6 1 7)) l1) 9 (Int32.toNatClampNeg ((sm_up M6 8 (Int32.toNatClampNeg (M6 1 7)) l1) 1 7)) l2) 10 (Int32.toNatClampNeg ((sm_up (sm_up M6 8 (Int32.toNatClampNeg (M6 1 7)) l1) 9 (Int32.toNatClampNeg ((sm_up M6 8 (Int32.toNatClampNeg (M6 1 7)) l1) 1 7)) l2) 1 7)) l5) 11 (Int32.toNatClampNeg ((sm_up (sm_up (sm_up M6 8 (Int32.toNatClampNeg (M6 1 7)) l1) 9 (Int32.toNatClampNeg ((sm_up M6 8 (Int32.toNatClampNeg (M6 1 7)) l1) 1 7)) l2) 10 (Int32.toNatClampNeg ((sm_up (sm_up M6 8 (Int32.toNatClampNeg (M6 1 7)) l1) 9 (Int32.toNatClampNeg ((sm_up M6 8 (Int32.toNatClampNeg (M6 1 7)) l1) 1 7)) l2) 1 7)) l5) 1 7)) l6) 1 7)) x10) 1 7 (((sm_up M10 7 (Int32.toNatClampNeg ((sm_up (sm_up (sm_up (sm_up M6 8 (Int32.toNatClampNeg (M6 1 7)) l1) 9 (Int32.toNatClampNeg ((sm_up M6 8 (Int32.toNatClampNeg (M6 1 7)) l1) 1 7)) l2) 10 (Int32.toNatClampNeg ((sm_up (sm_up M6 8 (Int32.toNatClampNeg (M6 1 7)) l1) 9 (Int32.toNatClampNeg ((sm_up M6 8 (Int32.toNatClampNeg (M6 1 7)) l1) 1 7)) l2) 1 7)) l5) 11 (Int32.toNatClampNeg ((sm_up (sm_up (sm_up M6 8 (Int32.toNatClampNeg (M6 1 7)) l1) 9 (Int32.toNatClampNeg ((sm_up M6 8 (Int32.toNatClampNeg (M6 1 7)) l1) 1 7)) l2) 10 (Int32.toNatClampNeg ((sm_up (sm_up M6 8 (Int32.toNatClampNeg (M6 1 7)) l1) 9 (Int32.toNatClampNeg ((sm_up M6 8 (Int32.toNatClampNeg (M6 1 7)) l1) 1 7)) l2) 1 7)) l5) 1 7)) l6) 1 7)) x10) 1 7) + (1 : Int32))))))))))))))))))))))))))))))))))
noncomputable def jR_type_137_b (D : sm_D) (s : Int32 × Int32 × Int32 × Int32 × Int32 × sm_M) : Option ((Int32 × Int32 × Int32 × Int32 × Int32 × sm_M) ⊕ sm_S) := jR_type_137_c s.1 s.2.1 s.2.2.1 s.2.2.2.1 s.2.2.2.2.1 D s.2.2.2.2.2
noncomputable def jR_type_137 (l1 l2 l5 l6 l8 : Int32) (D : sm_D) (M : sm_M) : Option sm_S := sm_lp (jR_type_137_b D) (l1, l2, l5, l6, l8, M)
noncomputable def jR_type_125 (l1 l2 l5 l6 s0 : Int32) (D : sm_D) (M : sm_M) : Option sm_S :=
  (if s0 = (0 : Int32) then (some ((-1 : Int32), D, M)) else (jR_type_137 l1 l2 l5 l6 (1 : Int32) D M))
noncomputable def jR_type_90 (l1 l2 l5 l6 : Int32) (D : sm_D) (M : sm_M) : Option sm_S :=
  (jR_type_125 l1 l2 l5 l6 (1 : Int32) D M)
noncomputable def jR_type_94 (l1 l2 l5 l6 : Int32) (D : sm_D) (M : sm_M) : Option sm_S :=
  (jR_type_125 l1 l2 l5 l6 (0 : Int32) D M)
noncomputable def jR_type_75 (l1 l2 l5 l6 : Int32) (D : sm_D) (M : sm_M) : Option sm_S :=
  (if l6 = (-1 : Int32) then (jR_type_90 l1 l2 l5 l6 D M) else (sm_bi (jR_isMade l6 D M) (fun x1 E1 M1 => sm_dq E1 D (if x1 = (0 : Int32) then (jR_type_94 l1 l2 l5 l6 D M1) else (jR_type_90 l1 l2 l5 l6 D M1)))))
noncomputable def jR_type_60 (l1 l2 l5 l6 : Int32) (D : sm_D) (M : sm_M) : Option sm_S :=
  (if l5 = (-1 : Int32) then (jR_type_75 l1 l2 l5 l6 D M) else (sm_bi (jR_isMade l5 D M) (fun x1 E1 M1 => sm_dq E1 D (if x1 = (0 : Int32) then (jR_type_94 l1 l2 l5 l6 D M1) else (jR_type_75 l1 l2 l5 l6 D M1)))))
noncomputable def jR_type_120 (l1 l2 l5 l6 : Int32) (D : sm_D) (M : sm_M) : Option sm_S :=
  (jR_type_125 l1 l2 l5 l6 (1 : Int32) D M)
noncomputable def jR_type_124 (l1 l2 l5 l6 : Int32) (D : sm_D) (M : sm_M) : Option sm_S :=
  (jR_type_125 l1 l2 l5 l6 (0 : Int32) D M)
noncomputable def jR_type_40 (l1 l2 l5 s0 : Int32) (D : sm_D) (M : sm_M) : Option sm_S :=
  (if l1 = (4 : Int32) then (if l2 = (-1 : Int32) then (jR_type_60 l1 l2 l5 s0 D M) else (sm_bi (jR_isMade l2 D M) (fun x3 E3 M3 => sm_dq E3 D (if x3 = (0 : Int32) then (jR_type_94 l1 l2 l5 s0 D M3) else (jR_type_60 l1 l2 l5 s0 D M3))))) else (sm_bi (jR_isMade l2 D M) (fun x1 E1 M1 => sm_dq E1 D (if x1 = (0 : Int32) then (jR_type_124 l1 l2 l5 s0 D M1) else (if l1 = (3 : Int32) then (jR_type_120 l1 l2 l5 s0 D M1) else (sm_bi (jR_isMade l5 D M1) (fun x2 E2 M2 => sm_dq E2 D (if x2 = (0 : Int32) then (jR_type_124 l1 l2 l5 s0 D M2) else (jR_type_120 l1 l2 l5 s0 D M2)))))))))
noncomputable def jR_type_27 (l1 l2 l4 s0 : Int32) (D : sm_D) (M : sm_M) : Option sm_S :=
  (if l1 = (4 : Int32) then (jR_type_40 l1 l2 s0 l4 D M) else (jR_type_40 l1 l2 s0 (-1 : Int32) D M))
noncomputable def jR_type (l1 l2 l3 l4 : Int32) (D : sm_D) (M : sm_M) : Option sm_S :=
  (if l1 < (1 : Int32) then (jR_type_15 D (sm_up M 1 0 (0 : Int32))) else (if (4 : Int32) < l1 then (jR_type_15 D (sm_up M 1 0 (0 : Int32))) else (if l1 = (3 : Int32) then (jR_type_27 l1 l2 l4 (-1 : Int32) D (sm_up M 1 0 (0 : Int32))) else (jR_type_27 l1 l2 l4 l3 D (sm_up M 1 0 (0 : Int32))))))
noncomputable def jR_size_28 (s0 : Int32) (D : sm_D) (M : sm_M) : Option sm_S :=
  (some (s0, D, M))
noncomputable def jR_size (l1 : Int32) (D : sm_D) (M : sm_M) : Option sm_S :=
  (sm_bi (jR_isMade l1 D (sm_up M 1 0 (0 : Int32))) (fun x1 E1 M1 => sm_dq E1 D (if x1 = (0 : Int32) then (jR_size_28 (-1 : Int32) D M1) else (sm_ck l1 30 (sm_ck (M1 7 (Int32.toNatClampNeg l1)) 3000 (jR_size_28 (M1 6 (Int32.toNatClampNeg (M1 7 (Int32.toNatClampNeg l1)))) D M1))))))
noncomputable def jR_partsOf_35 (s0 : Int32) (D : sm_D) (M : sm_M) : Option sm_S :=
  (some (s0, D, M))
noncomputable def jR_partsOf_30 (D : sm_D) (M : sm_M) : Option sm_S :=
  (jR_partsOf_35 (1 : Int32) D M)
noncomputable def jR_partsOf (l0 : Int32) (D : sm_D) (M : sm_M) : Option sm_S :=
  (if l0 < (2 : Int32) then (jR_partsOf_35 (0 : Int32) D M) else (if l0 = (5 : Int32) then (jR_partsOf_35 (3 : Int32) D M) else (if l0 = (6 : Int32) then (jR_partsOf_30 D M) else (if (8 : Int32) < l0 then (jR_partsOf_30 D M) else (jR_partsOf_35 (2 : Int32) D M)))))
noncomputable def jR_isExpression_17 (s0 : Int32) (D : sm_D) (M : sm_M) : Option sm_S :=
  (sm_bo s0 (some (s0, D, M)))
noncomputable def jR_isExpression_16 (D : sm_D) (M : sm_M) : Option sm_S :=
  (jR_isExpression_17 (0 : Int32) D M)
noncomputable def jR_isExpression (l1 : Int32) (D : sm_D) (M : sm_M) : Option sm_S :=
  (if l1 < (0 : Int32) then (jR_isExpression_16 D M) else (if l1 < (M 1 13) then (jR_isExpression_17 (1 : Int32) D M) else (jR_isExpression_16 D M)))
noncomputable def jR_make_24 (D : sm_D) (M : sm_M) : Option sm_S :=
  (some ((-1 : Int32), D, M))
noncomputable def jR_make_76 (D : sm_D) (M : sm_M) : Option sm_S :=
  (some ((-1 : Int32), D, M))
noncomputable def jR_make_121 (D : sm_D) (M : sm_M) : Option sm_S :=
  (some ((-1 : Int32), D, M))
noncomputable def jR_make_202 (l1 l2 l3 l4 l5 s0 : Int32) (D : sm_D) (M : sm_M) : Option sm_S :=
  (if (8 : Int32) < (s0 + (1 : Int32)) then (some ((-1 : Int32), D, M)) else (sm_ck (M 1 13) 40 (sm_ck (M 1 13) 40 (sm_ck (M 1 13) 40 (sm_ck (M 1 13) 40 (sm_ck (M 1 13) 40 (sm_ck (M 1 13) 40 (some ((M 1 13), D, (sm_up (sm_up (sm_up (sm_up (sm_up (sm_up (sm_up M 12 (Int32.toNatClampNeg (M 1 13)) l1) 13 (Int32.toNatClampNeg (M 1 13)) l2) 14 (Int32.toNatClampNeg (M 1 13)) l3) 15 (Int32.toNatClampNeg (M 1 13)) l4) 16 (Int32.toNatClampNeg (M 1 13)) l5) 17 (Int32.toNatClampNeg (M 1 13)) (s0 + (1 : Int32))) 1 13 (((sm_up (sm_up (sm_up (sm_up (sm_up (sm_up M 12 (Int32.toNatClampNeg (M 1 13)) l1) 13 (Int32.toNatClampNeg (M 1 13)) l2) 14 (Int32.toNatClampNeg (M 1 13)) l3) 15 (Int32.toNatClampNeg (M 1 13)) l4) 16 (Int32.toNatClampNeg (M 1 13)) l5) 17 (Int32.toNatClampNeg (M 1 13)) (s0 + (1 : Int32))) 1 13) + (1 : Int32))))))))))))
noncomputable def jR_make_200 (l1 l2 l3 l4 l5 l7 : Int32) (D : sm_D) (M : sm_M) : Option sm_S :=
  (jR_make_202 l1 l2 l3 l4 l5 l7 D M)
noncomputable def jR_make_170 (l1 l2 l3 l4 l5 l6 s0 : Int32) (D : sm_D) (M : sm_M) : Option sm_S :=
  (if (2 : Int32) < l6 then (sm_ck l5 40 (if s0 < (M 17 (Int32.toNatClampNeg l5)) then (sm_ck l5 40 (jR_make_202 l1 l2 l3 l4 l5 (M 17 (Int32.toNatClampNeg l5)) D M)) else (jR_make_200 l1 l2 l3 l4 l5 s0 D M))) else (jR_make_200 l1 l2 l3 l4 l5 s0 D M))
noncomputable def jR_make_168 (l1 l2 l3 l4 l5 l6 l7 : Int32) (D : sm_D) (M : sm_M) : Option sm_S :=
  (jR_make_170 l1 l2 l3 l4 l5 l6 l7 D M)
noncomputable def jR_make_138 (l1 l2 l3 l4 l5 l6 s0 : Int32) (D : sm_D) (M : sm_M) : Option sm_S :=
  (if (1 : Int32) < l6 then (sm_ck l4 40 (if s0 < (M 17 (Int32.toNatClampNeg l4)) then (sm_ck l4 40 (jR_make_170 l1 l2 l3 l4 l5 l6 (M 17 (Int32.toNatClampNeg l4)) D M)) else (jR_make_168 l1 l2 l3 l4 l5 l6 s0 D M))) else (jR_make_168 l1 l2 l3 l4 l5 l6 s0 D M))
noncomputable def jR_make_123 (l1 l2 l3 l4 l5 l6 : Int32) (D : sm_D) (M : sm_M) : Option sm_S :=
  (if (0 : Int32) < l6 then (sm_ck l3 40 (jR_make_138 l1 l2 l3 l4 l5 l6 (M 17 (Int32.toNatClampNeg l3)) D M)) else (jR_make_138 l1 l2 l3 l4 l5 l6 (0 : Int32) D M))
noncomputable def jR_make_106 (l1 l2 l3 l4 l5 l6 : Int32) (D : sm_D) (M : sm_M) : Option sm_S :=
  (if (2 : Int32) < l6 then (sm_bi (jR_isExpression l5 D M) (fun x1 E1 M1 => sm_dq E1 D (if x1 = (0 : Int32) then (jR_make_121 D M1) else (jR_make_123 l1 l2 l3 l4 l5 l6 D M1)))) else (jR_make_123 l1 l2 l3 l4 l5 l6 D M))
noncomputable def jR_make_91 (l1 l2 l3 l4 l5 l6 : Int32) (D : sm_D) (M : sm_M) : Option sm_S :=
  (if (1 : Int32) < l6 then (sm_bi (jR_isExpression l4 D M) (fun x1 E1 M1 => sm_dq E1 D (if x1 = (0 : Int32) then (jR_make_121 D M1) else (jR_make_106 l1 l2 l3 l4 l5 l6 D M1)))) else (jR_make_106 l1 l2 l3 l4 l5 l6 D M))
noncomputable def jR_make_78 (l1 l2 l3 l4 l5 l6 : Int32) (D : sm_D) (M : sm_M) : Option sm_S :=
  (if (0 : Int32) < l6 then (sm_bi (jR_isExpression l3 D M) (fun x1 E1 M1 => sm_dq E1 D (if x1 = (0 : Int32) then (jR_make_121 D M1) else (jR_make_91 l1 l2 l3 l4 l5 l6 D M1)))) else (jR_make_91 l1 l2 l3 l4 l5 l6 D M))
noncomputable def jR_make_47 (l1 l2 l3 l4 l5 l6 : Int32) (D : sm_D) (M : sm_M) : Option sm_S :=
  (if l1 = (6 : Int32) then (sm_bi (jR_isMade l2 D M) (fun x1 E1 M1 => sm_dq E1 D (if x1 = (0 : Int32) then (jR_make_76 D M1) else (sm_ck l2 30 (sm_ck (M1 7 (Int32.toNatClampNeg l2)) 3000 (if (M1 2 (Int32.toNatClampNeg (M1 7 (Int32.toNatClampNeg l2)))) = (2 : Int32) then (jR_make_78 l1 l2 l3 l4 l5 l6 D M1) else (jR_make_76 D M1))))))) else (jR_make_78 l1 l2 l3 l4 l5 l6 D M))
noncomputable def jR_make (l1 l2 l3 l4 l5 : Int32) (D : sm_D) (M : sm_M) : Option sm_S :=
  (if l1 < (0 : Int32) then (jR_make_24 D (sm_up M 1 0 (0 : Int32))) else (if (10 : Int32) < l1 then (jR_make_24 D (sm_up M 1 0 (0 : Int32))) else (if ((sm_up M 1 0 (0 : Int32)) 1 13) = (40 : Int32) then (jR_make_24 D (sm_up M 1 0 (0 : Int32))) else (sm_bi (jR_partsOf l1 D (sm_up M 1 0 (0 : Int32))) (fun x1 E1 M1 => sm_dq E1 D (if l1 = (1 : Int32) then (if l2 < (0 : Int32) then (jR_make_76 D M1) else (if (20 : Int32) < l2 then (jR_make_76 D M1) else (jR_make_47 l1 l2 l3 l4 l5 x1 D M1))) else (jR_make_47 l1 l2 l3 l4 l5 x1 D M1)))))))
noncomputable def jR_begin (l1 : Int32) (D : sm_D) (M : sm_M) : Option sm_S :=
  (sm_ck (M 1 20) 64 (sm_ck ((sm_up M 18 (Int32.toNatClampNeg (M 1 20)) l1) 1 20) 64 (some ((0 : Int32), D, (sm_up (sm_up (sm_up M 18 (Int32.toNatClampNeg (M 1 20)) l1) 19 (Int32.toNatClampNeg ((sm_up M 18 (Int32.toNatClampNeg (M 1 20)) l1) 1 20)) (0 : Int32)) 1 20 (((sm_up (sm_up M 18 (Int32.toNatClampNeg (M 1 20)) l1) 19 (Int32.toNatClampNeg ((sm_up M 18 (Int32.toNatClampNeg (M 1 20)) l1) 1 20)) (0 : Int32)) 1 20) + (1 : Int32)))))))
noncomputable def jR_typeNext_110 (D : sm_D) (M : sm_M) : Option sm_S :=
  (sm_bo (0 : Int32) (some ((0 : Int32), D, M)))
noncomputable def jR_typeNext_246 (s1 : Int32) (D : sm_D) (M : sm_M) : Option sm_S :=
  (sm_bi (jR_begin s1 D M) (fun x1 E1 M1 => sm_dq E1 D (sm_bo (1 : Int32) (some ((1 : Int32), D, M1)))))
noncomputable def jR_typeNext_212 (l2 l3 : Int32) (D : sm_D) (M : sm_M) : Option sm_S :=
  (if l3 = (0 : Int32) then (sm_ck l2 40 (jR_typeNext_246 (M 14 (Int32.toNatClampNeg l2)) D M)) else (if l3 = (1 : Int32) then (sm_ck l2 40 (jR_typeNext_246 (M 15 (Int32.toNatClampNeg l2)) D M)) else (sm_ck l2 40 (jR_typeNext_246 (M 16 (Int32.toNatClampNeg l2)) D M))))
noncomputable def jR_typeNext_574 (l6 : Int32) (D : sm_D) (M : sm_M) : Option sm_S :=
  (sm_bo l6 (some (l6, D, M)))
noncomputable def jR_typeNext_372 (l6 s1 : Int32) (D : sm_D) (M : sm_M) : Option sm_S :=
  (jR_typeNext_574 l6 D (sm_up M 1 22 s1))
noncomputable def jR_typeNext_342 (l2 s0 : Int32) (D : sm_D) (M : sm_M) : Option sm_S :=
  (if s0 = (0 : Int32) then (jR_typeNext_372 s0 (0 : Int32) D M) else (sm_ck l2 40 (sm_ck (((M 1 21) - (1 : Int32)) - (M 13 (Int32.toNatClampNeg l2))) 32 (jR_typeNext_372 s0 (M 23 (Int32.toNatClampNeg (((M 1 21) - (1 : Int32)) - (M 13 (Int32.toNatClampNeg l2))))) D M))))
noncomputable def jR_typeNext_390 (s0 : Int32) (D : sm_D) (M : sm_M) : Option sm_S :=
  (jR_typeNext_574 s0 D M)
noncomputable def jR_typeNext_378 (D : sm_D) (M : sm_M) : Option sm_S :=
  (if (M 1 22) = (0 : Int32) then (jR_typeNext_390 (1 : Int32) D M) else (jR_typeNext_390 (0 : Int32) D M))
noncomputable def jR_typeNext_413 (s0 : Int32) (D : sm_D) (M : sm_M) : Option sm_S :=
  (jR_typeNext_574 s0 D M)
noncomputable def jR_typeNext_456 (l2 s0 : Int32) (D : sm_D) (M : sm_M) : Option sm_S :=
  (sm_ck l2 40 (sm_ck (M 13 (Int32.toNatClampNeg l2)) 30 (jR_typeNext_574 s0 D (sm_up M 1 22 (M 7 (Int32.toNatClampNeg (M 13 (Int32.toNatClampNeg l2))))))))
noncomputable def jR_typeNext_499 (l1 s0 : Int32) (D : sm_D) (M : sm_M) : Option sm_S :=
  (sm_ck l1 64 (sm_ck (M 20 (Int32.toNatClampNeg l1)) 3000 (jR_typeNext_574 s0 D (sm_up M 1 22 (M 4 (Int32.toNatClampNeg (M 20 (Int32.toNatClampNeg l1))))))))
noncomputable def jR_typeNext_571 (l6 s1 : Int32) (D : sm_D) (M : sm_M) : Option sm_S :=
  (jR_typeNext_574 l6 D (sm_up M 1 22 s1))
noncomputable def jR_typeNext_142 (l1 l2 l3 l4 l5 : Int32) (D : sm_D) (M : sm_M) : Option sm_S :=
  (if l3 < l5 then (if l4 = (6 : Int32) then (sm_ck l2 40 (sm_ck (M 13 (Int32.toNatClampNeg l2)) 30 (sm_ck (M 1 21) 32 (sm_ck l2 40 (sm_ck ((sm_up M 23 (Int32.toNatClampNeg (M 1 21)) (M 7 (Int32.toNatClampNeg (M 13 (Int32.toNatClampNeg l2))))) 13 (Int32.toNatClampNeg l2)) 30 (sm_ck ((sm_up M 23 (Int32.toNatClampNeg (M 1 21)) (M 7 (Int32.toNatClampNeg (M 13 (Int32.toNatClampNeg l2))))) 7 (Int32.toNatClampNeg ((sm_up M 23 (Int32.toNatClampNeg (M 1 21)) (M 7 (Int32.toNatClampNeg (M 13 (Int32.toNatClampNeg l2))))) 13 (Int32.toNatClampNeg l2)))) 3000 (sm_ck (((sm_up M 23 (Int32.toNatClampNeg (M 1 21)) (M 7 (Int32.toNatClampNeg (M 13 (Int32.toNatClampNeg l2))))) 1 21) + (1 : Int32)) 32 (jR_typeNext_212 l2 l3 D (sm_up (sm_up (sm_up M 23 (Int32.toNatClampNeg (M 1 21)) (M 7 (Int32.toNatClampNeg (M 13 (Int32.toNatClampNeg l2))))) 23 (Int32.toNatClampNeg (((sm_up M 23 (Int32.toNatClampNeg (M 1 21)) (M 7 (Int32.toNatClampNeg (M 13 (Int32.toNatClampNeg l2))))) 1 21) + (1 : Int32))) ((sm_up M 23 (Int32.toNatClampNeg (M 1 21)) (M 7 (Int32.toNatClampNeg (M 13 (Int32.toNatClampNeg l2))))) 3 (Int32.toNatClampNeg ((sm_up M 23 (Int32.toNatClampNeg (M 1 21)) (M 7 (Int32.toNatClampNeg (M 13 (Int32.toNatClampNeg l2))))) 7 (Int32.toNatClampNeg ((sm_up M 23 (Int32.toNatClampNeg (M 1 21)) (M 7 (Int32.toNatClampNeg (M 13 (Int32.toNatClampNeg l2))))) 13 (Int32.toNatClampNeg l2))))))) 1 21 (((sm_up (sm_up M 23 (Int32.toNatClampNeg (M 1 21)) (M 7 (Int32.toNatClampNeg (M 13 (Int32.toNatClampNeg l2))))) 23 (Int32.toNatClampNeg (((sm_up M 23 (Int32.toNatClampNeg (M 1 21)) (M 7 (Int32.toNatClampNeg (M 13 (Int32.toNatClampNeg l2))))) 1 21) + (1 : Int32))) ((sm_up M 23 (Int32.toNatClampNeg (M 1 21)) (M 7 (Int32.toNatClampNeg (M 13 (Int32.toNatClampNeg l2))))) 3 (Int32.toNatClampNeg ((sm_up M 23 (Int32.toNatClampNeg (M 1 21)) (M 7 (Int32.toNatClampNeg (M 13 (Int32.toNatClampNeg l2))))) 7 (Int32.toNatClampNeg ((sm_up M 23 (Int32.toNatClampNeg (M 1 21)) (M 7 (Int32.toNatClampNeg (M 13 (Int32.toNatClampNeg l2))))) 13 (Int32.toNatClampNeg l2))))))) 1 21) + (2 : Int32))))))))))) else (jR_typeNext_212 l2 l3 D M)) else (if l4 = (0 : Int32) then (jR_typeNext_574 (1 : Int32) D (sm_up (sm_up M 1 20 ((M 1 20) - (1 : Int32))) 1 22 (0 : Int32))) else (if l4 = (1 : Int32) then (sm_ck l2 40 (if ((sm_up M 1 20 ((M 1 20) - (1 : Int32))) 13 (Int32.toNatClampNeg l2)) < ((sm_up M 1 20 ((M 1 20) - (1 : Int32))) 1 21) then (jR_typeNext_342 l2 (1 : Int32) D (sm_up M 1 20 ((M 1 20) - (1 : Int32)))) else (jR_typeNext_342 l2 (0 : Int32) D (sm_up M 1 20 ((M 1 20) - (1 : Int32)))))) else (if l4 = (2 : Int32) then (jR_typeNext_378 D (sm_up M 1 20 ((M 1 20) - (1 : Int32)))) else (if l4 = (3 : Int32) then (jR_typeNext_378 D (sm_up M 1 20 ((M 1 20) - (1 : Int32)))) else (if l4 = (4 : Int32) then (jR_typeNext_378 D (sm_up M 1 20 ((M 1 20) - (1 : Int32)))) else (if l4 = (5 : Int32) then (sm_ck l1 64 (if ((sm_up M 1 20 ((M 1 20) - (1 : Int32))) 1 22) = ((sm_up M 1 20 ((M 1 20) - (1 : Int32))) 21 (Int32.toNatClampNeg l1)) then (jR_typeNext_413 (1 : Int32) D (sm_up M 1 20 ((M 1 20) - (1 : Int32)))) else (jR_typeNext_413 (0 : Int32) D (sm_up M 1 20 ((M 1 20) - (1 : Int32)))))) else (if l4 = (6 : Int32) then (sm_ck l2 40 (sm_ck ((sm_up (sm_up M 1 20 ((M 1 20) - (1 : Int32))) 1 21 (((sm_up M 1 20 ((M 1 20) - (1 : Int32))) 1 21) - (2 : Int32))) 13 (Int32.toNatClampNeg l2)) 30 (sm_ck ((sm_up (sm_up M 1 20 ((M 1 20) - (1 : Int32))) 1 21 (((sm_up M 1 20 ((M 1 20) - (1 : Int32))) 1 21) - (2 : Int32))) 7 (Int32.toNatClampNeg ((sm_up (sm_up M 1 20 ((M 1 20) - (1 : Int32))) 1 21 (((sm_up M 1 20 ((M 1 20) - (1 : Int32))) 1 21) - (2 : Int32))) 13 (Int32.toNatClampNeg l2)))) 3000 (if ((sm_up (sm_up M 1 20 ((M 1 20) - (1 : Int32))) 1 21 (((sm_up M 1 20 ((M 1 20) - (1 : Int32))) 1 21) - (2 : Int32))) 1 22) = ((sm_up (sm_up M 1 20 ((M 1 20) - (1 : Int32))) 1 21 (((sm_up M 1 20 ((M 1 20) - (1 : Int32))) 1 21) - (2 : Int32))) 4 (Int32.toNatClampNeg ((sm_up (sm_up M 1 20 ((M 1 20) - (1 : Int32))) 1 21 (((sm_up M 1 20 ((M 1 20) - (1 : Int32))) 1 21) - (2 : Int32))) 7 (Int32.toNatClampNeg ((sm_up (sm_up M 1 20 ((M 1 20) - (1 : Int32))) 1 21 (((sm_up M 1 20 ((M 1 20) - (1 : Int32))) 1 21) - (2 : Int32))) 13 (Int32.toNatClampNeg l2)))))) then (jR_typeNext_456 l2 (1 : Int32) D (sm_up (sm_up M 1 20 ((M 1 20) - (1 : Int32))) 1 21 (((sm_up M 1 20 ((M 1 20) - (1 : Int32))) 1 21) - (2 : Int32)))) else (jR_typeNext_456 l2 (0 : Int32) D (sm_up (sm_up M 1 20 ((M 1 20) - (1 : Int32))) 1 21 (((sm_up M 1 20 ((M 1 20) - (1 : Int32))) 1 21) - (2 : Int32)))))))) else (if l4 = (7 : Int32) then (sm_ck l1 64 (sm_ck ((sm_up M 1 20 ((M 1 20) - (1 : Int32))) 20 (Int32.toNatClampNeg l1)) 3000 (if ((sm_up M 1 20 ((M 1 20) - (1 : Int32))) 1 22) = ((sm_up M 1 20 ((M 1 20) - (1 : Int32))) 3 (Int32.toNatClampNeg ((sm_up M 1 20 ((M 1 20) - (1 : Int32))) 20 (Int32.toNatClampNeg l1)))) then (jR_typeNext_499 l1 (1 : Int32) D (sm_up M 1 20 ((M 1 20) - (1 : Int32)))) else (jR_typeNext_499 l1 (0 : Int32) D (sm_up M 1 20 ((M 1 20) - (1 : Int32))))))) else (if l4 = (8 : Int32) then (sm_ck l1 64 (sm_bi (jR_find (1 : Int32) ((sm_up M 1 20 ((M 1 20) - (1 : Int32))) 20 (Int32.toNatClampNeg l1)) ((sm_up M 1 20 ((M 1 20) - (1 : Int32))) 1 22) (-1 : Int32) D (sm_up M 1 20 ((M 1 20) - (1 : Int32)))) (fun x1 E1 M1 => sm_dq E1 D (jR_typeNext_574 (1 : Int32) D (sm_up M1 1 22 x1))))) else (if l4 = (9 : Int32) then (sm_ck ((sm_up M 1 20 ((M 1 20) - (1 : Int32))) 1 22) 3000 (jR_typeNext_571 (1 : Int32) ((sm_up M 1 20 ((M 1 20) - (1 : Int32))) 3 (Int32.toNatClampNeg ((sm_up M 1 20 ((M 1 20) - (1 : Int32))) 1 22))) D (sm_up M 1 20 ((M 1 20) - (1 : Int32))))) else (sm_ck ((sm_up M 1 20 ((M 1 20) - (1 : Int32))) 1 22) 3000 (jR_typeNext_571 (1 : Int32) ((sm_up M 1 20 ((M 1 20) - (1 : Int32))) 4 (Int32.toNatClampNeg ((sm_up M 1 20 ((M 1 20) - (1 : Int32))) 1 22))) D (sm_up M 1 20 ((M 1 20) - (1 : Int32))))))))))))))))
noncomputable def jR_typeNext_127 (l1 l2 l3 l4 l5 : Int32) (D : sm_D) (M : sm_M) : Option sm_S :=
  (if l3 = (2 : Int32) then (sm_ck l1 64 (jR_typeNext_142 l1 l2 l3 l4 l5 D (sm_up M 21 (Int32.toNatClampNeg l1) (M 1 22)))) else (jR_typeNext_142 l1 l2 l3 l4 l5 D M))
noncomputable def jR_typeNext_112 (l1 l2 l3 l4 l5 : Int32) (D : sm_D) (M : sm_M) : Option sm_S :=
  (if l3 = (1 : Int32) then (sm_ck l1 64 (jR_typeNext_127 l1 l2 l3 l4 l5 D (sm_up M 20 (Int32.toNatClampNeg l1) (M 1 22)))) else (jR_typeNext_127 l1 l2 l3 l4 l5 D M))
noncomputable def jR_typeNext_90 (l1 l2 l3 l4 l5 : Int32) (D : sm_D) (M : sm_M) : Option sm_S :=
  (if (8 : Int32) < l4 then (sm_ck (M 1 22) 3000 (if (M 2 (Int32.toNatClampNeg (M 1 22))) = (1 : Int32) then (jR_typeNext_112 l1 l2 l3 l4 l5 D M) else (jR_typeNext_110 D M))) else (jR_typeNext_112 l1 l2 l3 l4 l5 D M))
noncomputable def jR_typeNext_70 (l1 l2 l3 l4 l5 : Int32) (D : sm_D) (M : sm_M) : Option sm_S :=
  (if l4 = (7 : Int32) then (sm_ck (M 1 22) 3000 (if (M 2 (Int32.toNatClampNeg (M 1 22))) = (2 : Int32) then (jR_typeNext_90 l1 l2 l3 l4 l5 D M) else (jR_typeNext_110 D M))) else (jR_typeNext_90 l1 l2 l3 l4 l5 D M))
noncomputable def jR_typeNext (D : sm_D) (M : sm_M) : Option sm_S :=
  (sm_ck ((M 1 20) - (1 : Int32)) 64 (sm_ck ((M 1 20) - (1 : Int32)) 64 (sm_ck (M 18 (Int32.toNatClampNeg ((M 1 20) - (1 : Int32)))) 40 (sm_bi (jR_partsOf (M 12 (Int32.toNatClampNeg (M 18 (Int32.toNatClampNeg ((M 1 20) - (1 : Int32)))))) D M) (fun x1 E1 M1 => sm_dq E1 D (sm_ck ((M 1 20) - (1 : Int32)) 64 (sm_ck ((M 1 20) - (1 : Int32)) 64 (if (M 19 (Int32.toNatClampNeg ((M 1 20) - (1 : Int32)))) = (1 : Int32) then (if (M 12 (Int32.toNatClampNeg (M 18 (Int32.toNatClampNeg ((M 1 20) - (1 : Int32)))))) < (2 : Int32) then (jR_typeNext_70 ((M 1 20) - (1 : Int32)) (M 18 (Int32.toNatClampNeg ((M 1 20) - (1 : Int32)))) (M 19 (Int32.toNatClampNeg ((M 1 20) - (1 : Int32)))) (M 12 (Int32.toNatClampNeg (M 18 (Int32.toNatClampNeg ((M 1 20) - (1 : Int32)))))) x1 D (sm_up M1 19 (Int32.toNatClampNeg ((M 1 20) - (1 : Int32))) ((M1 19 (Int32.toNatClampNeg ((M 1 20) - (1 : Int32)))) + (1 : Int32)))) else (if (5 : Int32) < (M 12 (Int32.toNatClampNeg (M 18 (Int32.toNatClampNeg ((M 1 20) - (1 : Int32)))))) then (jR_typeNext_70 ((M 1 20) - (1 : Int32)) (M 18 (Int32.toNatClampNeg ((M 1 20) - (1 : Int32)))) (M 19 (Int32.toNatClampNeg ((M 1 20) - (1 : Int32)))) (M 12 (Int32.toNatClampNeg (M 18 (Int32.toNatClampNeg ((M 1 20) - (1 : Int32)))))) x1 D (sm_up M1 19 (Int32.toNatClampNeg ((M 1 20) - (1 : Int32))) ((M1 19 (Int32.toNatClampNeg ((M 1 20) - (1 : Int32)))) + (1 : Int32)))) else (if ((sm_up M1 19 (Int32.toNatClampNeg ((M 1 20) - (1 : Int32))) ((M1 19 (Int32.toNatClampNeg ((M 1 20) - (1 : Int32)))) + (1 : Int32))) 1 22) = (0 : Int32) then (jR_typeNext_70 ((M 1 20) - (1 : Int32)) (M 18 (Int32.toNatClampNeg ((M 1 20) - (1 : Int32)))) (M 19 (Int32.toNatClampNeg ((M 1 20) - (1 : Int32)))) (M 12 (Int32.toNatClampNeg (M 18 (Int32.toNatClampNeg ((M 1 20) - (1 : Int32)))))) x1 D (sm_up M1 19 (Int32.toNatClampNeg ((M 1 20) - (1 : Int32))) ((M1 19 (Int32.toNatClampNeg ((M 1 20) - (1 : Int32)))) + (1 : Int32)))) else (jR_typeNext_110 D (sm_up M1 19 (Int32.toNatClampNeg ((M 1 20) - (1 : Int32))) ((M1 19 (Int32.toNatClampNeg ((M 1 20) - (1 : Int32)))) + (1 : Int32))))))) else (jR_typeNext_112 ((M 1 20) - (1 : Int32)) (M 18 (Int32.toNatClampNeg ((M 1 20) - (1 : Int32)))) (M 19 (Int32.toNatClampNeg ((M 1 20) - (1 : Int32)))) (M 12 (Int32.toNatClampNeg (M 18 (Int32.toNatClampNeg ((M 1 20) - (1 : Int32)))))) x1 D (sm_up M1 19 (Int32.toNatClampNeg ((M 1 20) - (1 : Int32))) ((M1 19 (Int32.toNatClampNeg ((M 1 20) - (1 : Int32)))) + (1 : Int32))))))))))))
noncomputable def jR_typeOf_48 (s0 : Int32) (D : sm_D) (M : sm_M) : Option sm_S :=
  (some (s0, D, M))
noncomputable def jR_typeOf_36 (l2 : Int32) (D : sm_D) (M : sm_M) : Option sm_S :=
  (if l2 = (0 : Int32) then (jR_typeOf_48 (-1 : Int32) D M) else (jR_typeOf_48 (M 1 22) D M))
noncomputable def jR_typeOf_17_c (l2 : Int32) (D : sm_D) (M : sm_M) : Option ((Int32 × sm_M) ⊕ sm_S) :=
  (if l2 = (0 : Int32) then (sm_inr (jR_typeOf_36 l2 D M)) else (if (0 : Int32) < (M 1 20) then (sm_bi (jR_typeNext D M) (fun x1 E1 M1 => sm_dq E1 D (sm_dq D D (some (.inl (x1, M1)))))) else (sm_inr (jR_typeOf_36 l2 D M))))
noncomputable def jR_typeOf_17_b (D : sm_D) (s : Int32 × sm_M) : Option ((Int32 × sm_M) ⊕ sm_S) := jR_typeOf_17_c s.1 D s.2
noncomputable def jR_typeOf_17 (l2 : Int32) (D : sm_D) (M : sm_M) : Option sm_S := sm_lp (jR_typeOf_17_b D) (l2, M)
noncomputable def jR_typeOf (l1 : Int32) (D : sm_D) (M : sm_M) : Option sm_S :=
  (sm_bi (jR_begin l1 D (sm_up (sm_up M 1 20 (0 : Int32)) 1 21 (0 : Int32))) (fun x1 E1 M1 => sm_dq E1 D (jR_typeOf_17 (1 : Int32) D M1)))
noncomputable def jR_is_21 (D : sm_D) (M : sm_M) : Option sm_S :=
  (sm_bo (0 : Int32) (some ((0 : Int32), D, M)))
noncomputable def jR_is_47 (l3 s0 : Int32) (D : sm_D) (M : sm_M) : Option sm_S :=
  (sm_bo s0 (some (s0, D, (sm_up M 1 1 l3))))
noncomputable def jR_is (l1 l2 : Int32) (D : sm_D) (M : sm_M) : Option sm_S :=
  (sm_bi (jR_isExpression l1 D (sm_up M 1 0 (0 : Int32))) (fun x1 E1 M1 => sm_dq E1 D (if x1 = (0 : Int32) then (jR_is_21 D M1) else (sm_bi (jR_isMade l2 D M1) (fun x2 E2 M2 => sm_dq E2 D (if x2 = (0 : Int32) then (jR_is_21 D M2) else (sm_bi (jR_typeOf l1 D M2) (fun x3 E3 M3 => sm_dq E3 D (sm_ck l2 30 (if x3 = (M3 7 (Int32.toNatClampNeg l2)) then (jR_is_47 (M2 1 1) (1 : Int32) D M3) else (jR_is_47 (M2 1 1) (0 : Int32) D M3)))))))))))
noncomputable def jR_isProgram_18 (l2 s0 : Int32) (D : sm_D) (M : sm_M) : Option sm_S :=
  (sm_bo s0 (some (s0, D, (sm_up M 1 1 l2))))
noncomputable def jR_isProgram (l1 : Int32) (D : sm_D) (M : sm_M) : Option sm_S :=
  (sm_bi (jR_typeOf l1 D M) (fun x1 E1 M1 => sm_dq E1 D (if x1 = (0 : Int32) then (jR_isProgram_18 (M 1 1) (1 : Int32) D M1) else (jR_isProgram_18 (M 1 1) (0 : Int32) D M1))))
noncomputable def jR_newValue (l1 l2 l3 : Int32) (D : sm_D) (M : sm_M) : Option sm_S :=
  (sm_ck (M 1 30) 600 (sm_ck ((sm_up M 24 (Int32.toNatClampNeg (M 1 30)) l1) 1 30) 600 (sm_ck ((sm_up (sm_up M 24 (Int32.toNatClampNeg (M 1 30)) l1) 25 (Int32.toNatClampNeg ((sm_up M 24 (Int32.toNatClampNeg (M 1 30)) l1) 1 30)) l2) 1 30) 600 (some ((((sm_up (sm_up (sm_up (sm_up M 24 (Int32.toNatClampNeg (M 1 30)) l1) 25 (Int32.toNatClampNeg ((sm_up M 24 (Int32.toNatClampNeg (M 1 30)) l1) 1 30)) l2) 26 (Int32.toNatClampNeg ((sm_up (sm_up M 24 (Int32.toNatClampNeg (M 1 30)) l1) 25 (Int32.toNatClampNeg ((sm_up M 24 (Int32.toNatClampNeg (M 1 30)) l1) 1 30)) l2) 1 30)) l3) 1 30 (((sm_up (sm_up (sm_up M 24 (Int32.toNatClampNeg (M 1 30)) l1) 25 (Int32.toNatClampNeg ((sm_up M 24 (Int32.toNatClampNeg (M 1 30)) l1) 1 30)) l2) 26 (Int32.toNatClampNeg ((sm_up (sm_up M 24 (Int32.toNatClampNeg (M 1 30)) l1) 25 (Int32.toNatClampNeg ((sm_up M 24 (Int32.toNatClampNeg (M 1 30)) l1) 1 30)) l2) 1 30)) l3) 1 30) + (1 : Int32))) 1 30) - (1 : Int32)), D, (sm_up (sm_up (sm_up (sm_up M 24 (Int32.toNatClampNeg (M 1 30)) l1) 25 (Int32.toNatClampNeg ((sm_up M 24 (Int32.toNatClampNeg (M 1 30)) l1) 1 30)) l2) 26 (Int32.toNatClampNeg ((sm_up (sm_up M 24 (Int32.toNatClampNeg (M 1 30)) l1) 25 (Int32.toNatClampNeg ((sm_up M 24 (Int32.toNatClampNeg (M 1 30)) l1) 1 30)) l2) 1 30)) l3) 1 30 (((sm_up (sm_up (sm_up M 24 (Int32.toNatClampNeg (M 1 30)) l1) 25 (Int32.toNatClampNeg ((sm_up M 24 (Int32.toNatClampNeg (M 1 30)) l1) 1 30)) l2) 26 (Int32.toNatClampNeg ((sm_up (sm_up M 24 (Int32.toNatClampNeg (M 1 30)) l1) 25 (Int32.toNatClampNeg ((sm_up M 24 (Int32.toNatClampNeg (M 1 30)) l1) 1 30)) l2) 1 30)) l3) 1 30) + (1 : Int32))))))))
noncomputable def jR_bind (l1 l2 : Int32) (D : sm_D) (M : sm_M) : Option sm_S :=
  (sm_ck (M 1 31) 1200 (sm_ck ((sm_up M 27 (Int32.toNatClampNeg (M 1 31)) l1) 1 31) 1200 (some ((((sm_up (sm_up (sm_up M 27 (Int32.toNatClampNeg (M 1 31)) l1) 28 (Int32.toNatClampNeg ((sm_up M 27 (Int32.toNatClampNeg (M 1 31)) l1) 1 31)) l2) 1 31 (((sm_up (sm_up M 27 (Int32.toNatClampNeg (M 1 31)) l1) 28 (Int32.toNatClampNeg ((sm_up M 27 (Int32.toNatClampNeg (M 1 31)) l1) 1 31)) l2) 1 31) + (1 : Int32))) 1 31) - (1 : Int32)), D, (sm_up (sm_up (sm_up M 27 (Int32.toNatClampNeg (M 1 31)) l1) 28 (Int32.toNatClampNeg ((sm_up M 27 (Int32.toNatClampNeg (M 1 31)) l1) 1 31)) l2) 1 31 (((sm_up (sm_up M 27 (Int32.toNatClampNeg (M 1 31)) l1) 28 (Int32.toNatClampNeg ((sm_up M 27 (Int32.toNatClampNeg (M 1 31)) l1) 1 31)) l2) 1 31) + (1 : Int32)))))))
noncomputable def jR_step_19 (D : sm_D) (M : sm_M) : Option sm_S :=
  (sm_bo (0 : Int32) (some ((0 : Int32), D, M)))
noncomputable def jR_step (l1 l2 : Int32) (D : sm_D) (M : sm_M) : Option sm_S :=
  (if (M 1 29) = (500 : Int32) then (jR_step_19 D M) else (if (M 1 20) = (60 : Int32) then (jR_step_19 D M) else (sm_bi (jR_begin l1 D (sm_up M 1 29 ((M 1 29) + (1 : Int32)))) (fun x1 E1 M1 => sm_dq E1 D (sm_ck ((M1 1 20) - (1 : Int32)) 64 (sm_bo (1 : Int32) (some ((1 : Int32), D, (sm_up M1 22 (Int32.toNatClampNeg ((M1 1 20) - (1 : Int32))) l2)))))))))
noncomputable def jR_result_25 (s0 : Int32) (D : sm_D) (M : sm_M) : Option sm_S :=
  (some (s0, D, M))
noncomputable def jR_result (l0 l1 l2 : Int32) (D : sm_D) (M : sm_M) : Option sm_S :=
  (if l0 = (2 : Int32) then (jR_result_25 (l1 + l2) D M) else (if l0 = (3 : Int32) then (jR_result_25 (l1 - l2) D M) else (jR_result_25 (l1 * l2) D M)))
noncomputable def jR_boundTo_5_c (l1 l3 l4 : Int32) (D : sm_D) (M : sm_M) : Option ((Int32 × Int32 × Int32 × sm_M) ⊕ sm_S) :=
  (sm_ck l1 40 (if l4 < (M 13 (Int32.toNatClampNeg l1)) then (sm_ck l3 1200 (sm_dq D D (some (.inl (l1, (M 28 (Int32.toNatClampNeg l3)), (l4 + (1 : Int32)), M))))) else (sm_ck l3 1200 (some (.inr ((M 27 (Int32.toNatClampNeg l3)), D, M))))))
noncomputable def jR_boundTo_5_b (D : sm_D) (s : Int32 × Int32 × Int32 × sm_M) : Option ((Int32 × Int32 × Int32 × sm_M) ⊕ sm_S) := jR_boundTo_5_c s.1 s.2.1 s.2.2.1 D s.2.2.2
noncomputable def jR_boundTo_5 (l1 l3 l4 : Int32) (D : sm_D) (M : sm_M) : Option sm_S := sm_lp (jR_boundTo_5_b D) (l1, l3, l4, M)
noncomputable def jR_boundTo (l1 l2 : Int32) (D : sm_D) (M : sm_M) : Option sm_S :=
  (jR_boundTo_5 l1 l2 (0 : Int32) D M)
noncomputable def jR_partNext_14 (D : sm_D) (M : sm_M) : Option sm_S :=
  (some ((-1 : Int32), D, M))
noncomputable def jR_partNext_61 (s0 : Int32) (D : sm_D) (M : sm_M) : Option sm_S :=
  (some (s0, D, M))
noncomputable def jR_partNext_81 (s0 : Int32) (D : sm_D) (M : sm_M) : Option sm_S :=
  (some (s0, D, M))
noncomputable def jR_partNext_62 (l2 l3 : Int32) (D : sm_D) (M : sm_M) : Option sm_S :=
  (if l3 = (0 : Int32) then (sm_ck l2 40 (jR_partNext_81 (M 14 (Int32.toNatClampNeg l2)) D M)) else (sm_ck l2 40 (jR_partNext_81 (M 15 (Int32.toNatClampNeg l2)) D M)))
noncomputable def jR_partNext (l1 l2 l3 : Int32) (D : sm_D) (M : sm_M) : Option sm_S :=
  (if l1 = (6 : Int32) then (jR_partNext_14 D M) else (sm_bi (jR_partsOf l1 D M) (fun x1 E1 M1 => sm_dq E1 D (if l3 < x1 then (if l1 = (5 : Int32) then (if (0 : Int32) < l3 then (if l3 = (1 : Int32) then (sm_ck (M1 1 22) 600 (if (M1 25 (Int32.toNatClampNeg (M1 1 22))) = (0 : Int32) then (sm_ck l2 40 (jR_partNext_61 (M1 15 (Int32.toNatClampNeg l2)) D M1)) else (sm_ck l2 40 (jR_partNext_61 (M1 16 (Int32.toNatClampNeg l2)) D M1)))) else (jR_partNext_61 (-1 : Int32) D M1)) else (jR_partNext_62 l2 l3 D M1)) else (jR_partNext_62 l2 l3 D M1)) else (jR_partNext_14 D M1)))))
noncomputable def jR_evaluateNext_364 (D : sm_D) (M : sm_M) : Option sm_S :=
  (sm_bo (1 : Int32) (some ((1 : Int32), D, M)))
noncomputable def jR_evaluateNext_257 (l1 l4 : Int32) (D : sm_D) (M : sm_M) : Option sm_S :=
  (sm_ck l1 64 (sm_ck (M 20 (Int32.toNatClampNeg l1)) 600 (sm_ck (M 1 22) 600 (sm_bi (jR_result l4 (M 25 (Int32.toNatClampNeg (M 20 (Int32.toNatClampNeg l1)))) (M 25 (Int32.toNatClampNeg (M 1 22))) D M) (fun x1 E1 M1 => sm_dq E1 D (sm_bi (jR_newValue (0 : Int32) x1 (0 : Int32) D M1) (fun x2 E2 M2 => sm_dq E2 D (jR_evaluateNext_364 D (sm_up M2 1 22 x2)))))))))
noncomputable def jR_evaluateNext_152 (l1 l2 l4 l5 : Int32) (D : sm_D) (M : sm_M) : Option sm_S :=
  (if l4 = (0 : Int32) then (sm_ck l2 40 (sm_bi (jR_newValue (0 : Int32) ((sm_up M 1 20 ((M 1 20) - (1 : Int32))) 13 (Int32.toNatClampNeg l2)) (0 : Int32) D (sm_up M 1 20 ((M 1 20) - (1 : Int32)))) (fun x4 E4 M4 => sm_dq E4 D (jR_evaluateNext_364 D (sm_up M4 1 22 x4))))) else (if l4 = (1 : Int32) then (sm_bi (jR_boundTo l2 l5 D (sm_up M 1 20 ((M 1 20) - (1 : Int32)))) (fun x3 E3 M3 => sm_dq E3 D (jR_evaluateNext_364 D (sm_up M3 1 22 x3)))) else (if l4 = (2 : Int32) then (jR_evaluateNext_257 l1 l4 D (sm_up M 1 20 ((M 1 20) - (1 : Int32)))) else (if l4 = (3 : Int32) then (jR_evaluateNext_257 l1 l4 D (sm_up M 1 20 ((M 1 20) - (1 : Int32)))) else (if l4 = (4 : Int32) then (jR_evaluateNext_257 l1 l4 D (sm_up M 1 20 ((M 1 20) - (1 : Int32)))) else (if l4 = (5 : Int32) then (jR_evaluateNext_364 D (sm_up M 1 20 ((M 1 20) - (1 : Int32)))) else (if l4 = (6 : Int32) then (sm_bi (jR_newValue (2 : Int32) l2 l5 D (sm_up M 1 20 ((M 1 20) - (1 : Int32)))) (fun x2 E2 M2 => sm_dq E2 D (jR_evaluateNext_364 D (sm_up M2 1 22 x2)))) else (if l4 = (7 : Int32) then (jR_evaluateNext_364 D (sm_up M 1 20 ((M 1 20) - (1 : Int32)))) else (if l4 = (8 : Int32) then (sm_ck l1 64 (sm_bi (jR_newValue (1 : Int32) ((sm_up M 1 20 ((M 1 20) - (1 : Int32))) 20 (Int32.toNatClampNeg l1)) ((sm_up M 1 20 ((M 1 20) - (1 : Int32))) 1 22) D (sm_up M 1 20 ((M 1 20) - (1 : Int32)))) (fun x1 E1 M1 => sm_dq E1 D (jR_evaluateNext_364 D (sm_up M1 1 22 x1))))) else (if l4 = (9 : Int32) then (sm_ck ((sm_up M 1 20 ((M 1 20) - (1 : Int32))) 1 22) 600 (jR_evaluateNext_364 D (sm_up (sm_up M 1 20 ((M 1 20) - (1 : Int32))) 1 22 ((sm_up M 1 20 ((M 1 20) - (1 : Int32))) 25 (Int32.toNatClampNeg ((sm_up M 1 20 ((M 1 20) - (1 : Int32))) 1 22)))))) else (if l4 = (10 : Int32) then (sm_ck ((sm_up M 1 20 ((M 1 20) - (1 : Int32))) 1 22) 600 (jR_evaluateNext_364 D (sm_up (sm_up M 1 20 ((M 1 20) - (1 : Int32))) 1 22 ((sm_up M 1 20 ((M 1 20) - (1 : Int32))) 26 (Int32.toNatClampNeg ((sm_up M 1 20 ((M 1 20) - (1 : Int32))) 1 22)))))) else (jR_evaluateNext_364 D (sm_up M 1 20 ((M 1 20) - (1 : Int32)))))))))))))))
noncomputable def jR_evaluateNext_72 (l1 l2 l3 l4 l5 l6 : Int32) (D : sm_D) (M : sm_M) : Option sm_S :=
  (if l6 < (0 : Int32) then (if l4 = (7 : Int32) then (if l3 = (2 : Int32) then (sm_ck l1 64 (sm_ck l1 64 (sm_ck (M 20 (Int32.toNatClampNeg l1)) 600 (sm_bi (jR_bind (M 20 (Int32.toNatClampNeg l1)) (M 26 (Int32.toNatClampNeg (M 20 (Int32.toNatClampNeg l1)))) D M) (fun x1 E1 M1 => sm_dq E1 D (sm_bi (jR_bind (M 1 22) x1 D M1) (fun x2 E2 M2 => sm_dq E2 D (sm_ck l1 64 (sm_ck (M2 20 (Int32.toNatClampNeg l1)) 600 (sm_ck (M2 25 (Int32.toNatClampNeg (M2 20 (Int32.toNatClampNeg l1)))) 40 (sm_bi (jR_step (M2 14 (Int32.toNatClampNeg (M2 25 (Int32.toNatClampNeg (M2 20 (Int32.toNatClampNeg l1)))))) x2 D M2) (fun x3 E3 M3 => sm_dq E3 D (sm_bo x3 (some (x3, D, M3))))))))))))))) else (jR_evaluateNext_152 l1 l2 l4 l5 D M)) else (jR_evaluateNext_152 l1 l2 l4 l5 D M)) else (sm_bi (jR_step l6 l5 D M) (fun x4 E4 M4 => sm_dq E4 D (sm_bo x4 (some (x4, D, M4))))))
noncomputable def jR_evaluateNext (D : sm_D) (M : sm_M) : Option sm_S :=
  (sm_ck ((M 1 20) - (1 : Int32)) 64 (sm_ck ((M 1 20) - (1 : Int32)) 64 (sm_ck (M 18 (Int32.toNatClampNeg ((M 1 20) - (1 : Int32)))) 40 (sm_ck ((M 1 20) - (1 : Int32)) 64 (sm_ck ((M 1 20) - (1 : Int32)) 64 (sm_ck ((M 1 20) - (1 : Int32)) 64 (sm_bi (jR_partNext (M 12 (Int32.toNatClampNeg (M 18 (Int32.toNatClampNeg ((M 1 20) - (1 : Int32)))))) (M 18 (Int32.toNatClampNeg ((M 1 20) - (1 : Int32)))) (M 19 (Int32.toNatClampNeg ((M 1 20) - (1 : Int32)))) D (sm_up M 19 (Int32.toNatClampNeg ((M 1 20) - (1 : Int32))) ((M 19 (Int32.toNatClampNeg ((M 1 20) - (1 : Int32)))) + (1 : Int32)))) (fun x1 E1 M1 => sm_dq E1 D (if (M 19 (Int32.toNatClampNeg ((M 1 20) - (1 : Int32)))) = (1 : Int32) then (sm_ck ((M 1 20) - (1 : Int32)) 64 (jR_evaluateNext_72 ((M 1 20) - (1 : Int32)) (M 18 (Int32.toNatClampNeg ((M 1 20) - (1 : Int32)))) (M 19 (Int32.toNatClampNeg ((M 1 20) - (1 : Int32)))) (M 12 (Int32.toNatClampNeg (M 18 (Int32.toNatClampNeg ((M 1 20) - (1 : Int32)))))) (M 22 (Int32.toNatClampNeg ((M 1 20) - (1 : Int32)))) x1 D (sm_up M1 20 (Int32.toNatClampNeg ((M 1 20) - (1 : Int32))) (M1 1 22)))) else (jR_evaluateNext_72 ((M 1 20) - (1 : Int32)) (M 18 (Int32.toNatClampNeg ((M 1 20) - (1 : Int32)))) (M 19 (Int32.toNatClampNeg ((M 1 20) - (1 : Int32)))) (M 12 (Int32.toNatClampNeg (M 18 (Int32.toNatClampNeg ((M 1 20) - (1 : Int32)))))) (M 22 (Int32.toNatClampNeg ((M 1 20) - (1 : Int32)))) x1 D M1))))))))))
noncomputable def jR_evaluate_100 (s0 : Int32) (D : sm_D) (M : sm_M) : Option sm_S :=
  (some (s0, D, M))
noncomputable def jR_evaluate_79 (l2 : Int32) (D : sm_D) (M : sm_M) : Option sm_S :=
  (if l2 = (0 : Int32) then (sm_bi (jR_refuse (3 : Int32) D M) (fun x1 E1 M1 => sm_dq E1 D (jR_evaluate_100 x1 D M1))) else (sm_ck (M 1 22) 600 (jR_evaluate_100 (M 25 (Int32.toNatClampNeg (M 1 22))) D M)))
noncomputable def jR_evaluate_60_c (l2 : Int32) (D : sm_D) (M : sm_M) : Option ((Int32 × sm_M) ⊕ sm_S) :=
  (if l2 = (0 : Int32) then (sm_inr (jR_evaluate_79 l2 D M)) else (if (0 : Int32) < (M 1 20) then (sm_bi (jR_evaluateNext D M) (fun x1 E1 M1 => sm_dq E1 D (sm_dq D D (some (.inl (x1, M1)))))) else (sm_inr (jR_evaluate_79 l2 D M))))
noncomputable def jR_evaluate_60_b (D : sm_D) (s : Int32 × sm_M) : Option ((Int32 × sm_M) ⊕ sm_S) := jR_evaluate_60_c s.1 D s.2
noncomputable def jR_evaluate_60 (l2 : Int32) (D : sm_D) (M : sm_M) : Option sm_S := sm_lp (jR_evaluate_60_b D) (l2, M)
noncomputable def jR_evaluate (l1 : Int32) (D : sm_D) (M : sm_M) : Option sm_S :=
  (sm_bi (jR_isExpression l1 D (sm_up M 1 0 (0 : Int32))) (fun x1 E1 M1 => sm_dq E1 D (if x1 = (0 : Int32) then (sm_bi (jR_refuse (1 : Int32) D M1) (fun x5 E5 M5 => sm_dq E5 D (some (x5, D, M5)))) else (sm_bi (jR_isProgram l1 D M1) (fun x2 E2 M2 => sm_dq E2 D (if x2 = (0 : Int32) then (sm_bi (jR_refuse (2 : Int32) D M2) (fun x4 E4 M4 => sm_dq E4 D (some (x4, D, M4)))) else (sm_bi (jR_step l1 (-1 : Int32) D (sm_up (sm_up (sm_up (sm_up M2 1 20 (0 : Int32)) 1 29 (0 : Int32)) 1 30 (0 : Int32)) 1 31 (0 : Int32))) (fun x3 E3 M3 => sm_dq E3 D (jR_evaluate_60 x3 D M3)))))))))
noncomputable def jR_steps (D : sm_D) (M : sm_M) : Option sm_S :=
  (some (((sm_up M 1 0 (0 : Int32)) 1 29), D, (sm_up M 1 0 (0 : Int32))))
noncomputable def jR_emit_23 (l1 l2 l3 l4 s1 : Int32) (D : sm_D) (M : sm_M) : Option sm_S :=
  (sm_bo s1 (if ((sm_up M 1 47 s1) 1 47) = (0 : Int32) then (sm_ck ((sm_up M 1 47 s1) 1 39) 301 (sm_ck ((sm_up (sm_up M 1 47 s1) 29 (Int32.toNatClampNeg ((sm_up M 1 47 s1) 1 39)) l1) 1 39) 301 (sm_ck ((sm_up (sm_up (sm_up M 1 47 s1) 29 (Int32.toNatClampNeg ((sm_up M 1 47 s1) 1 39)) l1) 30 (Int32.toNatClampNeg ((sm_up (sm_up M 1 47 s1) 29 (Int32.toNatClampNeg ((sm_up M 1 47 s1) 1 39)) l1) 1 39)) l2) 1 39) 301 (sm_ck ((sm_up (sm_up (sm_up (sm_up M 1 47 s1) 29 (Int32.toNatClampNeg ((sm_up M 1 47 s1) 1 39)) l1) 30 (Int32.toNatClampNeg ((sm_up (sm_up M 1 47 s1) 29 (Int32.toNatClampNeg ((sm_up M 1 47 s1) 1 39)) l1) 1 39)) l2) 31 (Int32.toNatClampNeg ((sm_up (sm_up (sm_up M 1 47 s1) 29 (Int32.toNatClampNeg ((sm_up M 1 47 s1) 1 39)) l1) 30 (Int32.toNatClampNeg ((sm_up (sm_up M 1 47 s1) 29 (Int32.toNatClampNeg ((sm_up M 1 47 s1) 1 39)) l1) 1 39)) l2) 1 39)) l3) 1 39) 301 (sm_ck ((sm_up (sm_up (sm_up (sm_up (sm_up M 1 47 s1) 29 (Int32.toNatClampNeg ((sm_up M 1 47 s1) 1 39)) l1) 30 (Int32.toNatClampNeg ((sm_up (sm_up M 1 47 s1) 29 (Int32.toNatClampNeg ((sm_up M 1 47 s1) 1 39)) l1) 1 39)) l2) 31 (Int32.toNatClampNeg ((sm_up (sm_up (sm_up M 1 47 s1) 29 (Int32.toNatClampNeg ((sm_up M 1 47 s1) 1 39)) l1) 30 (Int32.toNatClampNeg ((sm_up (sm_up M 1 47 s1) 29 (Int32.toNatClampNeg ((sm_up M 1 47 s1) 1 39)) l1) 1 39)) l2) 1 39)) l3) 32 (Int32.toNatClampNeg ((sm_up (sm_up (sm_up (sm_up M 1 47 s1) 29 (Int32.toNatClampNeg ((sm_up M 1 47 s1) 1 39)) l1) 30 (Int32.toNatClampNeg ((sm_up (sm_up M 1 47 s1) 29 (Int32.toNatClampNeg ((sm_up M 1 47 s1) 1 39)) l1) 1 39)) l2) 31 (Int32.toNatClampNeg ((sm_up (sm_up (sm_up M 1 47 s1) 29 (Int32.toNatClampNeg ((sm_up M 1 47 s1) 1 39)) l1) 30 (Int32.toNatClampNeg ((sm_up (sm_up M 1 47 s1) 29 (Int32.toNatClampNeg ((sm_up M 1 47 s1) 1 39)) l1) 1 39)) l2) 1 39)) l3) 1 39)) l4) 1 54) 41 (sm_ck ((sm_up (sm_up (sm_up (sm_up (sm_up M 1 47 s1) 29 (Int32.toNatClampNeg ((sm_up M 1 47 s1) 1 39)) l1) 30 (Int32.toNatClampNeg ((sm_up (sm_up M 1 47 s1) 29 (Int32.toNatClampNeg ((sm_up M 1 47 s1) 1 39)) l1) 1 39)) l2) 31 (Int32.toNatClampNeg ((sm_up (sm_up (sm_up M 1 47 s1) 29 (Int32.toNatClampNeg ((sm_up M 1 47 s1) 1 39)) l1) 30 (Int32.toNatClampNeg ((sm_up (sm_up M 1 47 s1) 29 (Int32.toNatClampNeg ((sm_up M 1 47 s1) 1 39)) l1) 1 39)) l2) 1 39)) l3) 32 (Int32.toNatClampNeg ((sm_up (sm_up (sm_up (sm_up M 1 47 s1) 29 (Int32.toNatClampNeg ((sm_up M 1 47 s1) 1 39)) l1) 30 (Int32.toNatClampNeg ((sm_up (sm_up M 1 47 s1) 29 (Int32.toNatClampNeg ((sm_up M 1 47 s1) 1 39)) l1) 1 39)) l2) 31 (Int32.toNatClampNeg ((sm_up (sm_up (sm_up M 1 47 s1) 29 (Int32.toNatClampNeg ((sm_up M 1 47 s1) 1 39)) l1) 30 (Int32.toNatClampNeg ((sm_up (sm_up M 1 47 s1) 29 (Int32.toNatClampNeg ((sm_up M 1 47 s1) 1 39)) l1) 1 39)) l2) 1 39)) l3) 1 39)) l4) 1 54) 41 (some ((0 : Int32), D, (sm_up (sm_up (sm_up (sm_up (sm_up (sm_up (sm_up M 1 47 s1) 29 (Int32.toNatClampNeg ((sm_up M 1 47 s1) 1 39)) l1) 30 (Int32.toNatClampNeg ((sm_up (sm_up M 1 47 s1) 29 (Int32.toNatClampNeg ((sm_up M 1 47 s1) 1 39)) l1) 1 39)) l2) 31 (Int32.toNatClampNeg ((sm_up (sm_up (sm_up M 1 47 s1) 29 (Int32.toNatClampNeg ((sm_up M 1 47 s1) 1 39)) l1) 30 (Int32.toNatClampNeg ((sm_up (sm_up M 1 47 s1) 29 (Int32.toNatClampNeg ((sm_up M 1 47 s1) 1 39)) l1) 1 39)) l2) 1 39)) l3) 32 (Int32.toNatClampNeg ((sm_up (sm_up (sm_up (sm_up M 1 47 s1) 29 (Int32.toNatClampNeg ((sm_up M 1 47 s1) 1 39)) l1) 30 (Int32.toNatClampNeg ((sm_up (sm_up M 1 47 s1) 29 (Int32.toNatClampNeg ((sm_up M 1 47 s1) 1 39)) l1) 1 39)) l2) 31 (Int32.toNatClampNeg ((sm_up (sm_up (sm_up M 1 47 s1) 29 (Int32.toNatClampNeg ((sm_up M 1 47 s1) 1 39)) l1) 30 (Int32.toNatClampNeg ((sm_up (sm_up M 1 47 s1) 29 (Int32.toNatClampNeg ((sm_up M 1 47 s1) 1 39)) l1) 1 39)) l2) 1 39)) l3) 1 39)) l4) 34 (Int32.toNatClampNeg ((sm_up (sm_up (sm_up (sm_up (sm_up M 1 47 s1) 29 (Int32.toNatClampNeg ((sm_up M 1 47 s1) 1 39)) l1) 30 (Int32.toNatClampNeg ((sm_up (sm_up M 1 47 s1) 29 (Int32.toNatClampNeg ((sm_up M 1 47 s1) 1 39)) l1) 1 39)) l2) 31 (Int32.toNatClampNeg ((sm_up (sm_up (sm_up M 1 47 s1) 29 (Int32.toNatClampNeg ((sm_up M 1 47 s1) 1 39)) l1) 30 (Int32.toNatClampNeg ((sm_up (sm_up M 1 47 s1) 29 (Int32.toNatClampNeg ((sm_up M 1 47 s1) 1 39)) l1) 1 39)) l2) 1 39)) l3) 32 (Int32.toNatClampNeg ((sm_up (sm_up (sm_up (sm_up M 1 47 s1) 29 (Int32.toNatClampNeg ((sm_up M 1 47 s1) 1 39)) l1) 30 (Int32.toNatClampNeg ((sm_up (sm_up M 1 47 s1) 29 (Int32.toNatClampNeg ((sm_up M 1 47 s1) 1 39)) l1) 1 39)) l2) 31 (Int32.toNatClampNeg ((sm_up (sm_up (sm_up M 1 47 s1) 29 (Int32.toNatClampNeg ((sm_up M 1 47 s1) 1 39)) l1) 30 (Int32.toNatClampNeg ((sm_up (sm_up M 1 47 s1) 29 (Int32.toNatClampNeg ((sm_up M 1 47 s1) 1 39)) l1) 1 39)) l2) 1 39)) l3) 1 39)) l4) 1 54)) (((sm_up (sm_up (sm_up (sm_up (sm_up M 1 47 s1) 29 (Int32.toNatClampNeg ((sm_up M 1 47 s1) 1 39)) l1) 30 (Int32.toNatClampNeg ((sm_up (sm_up M 1 47 s1) 29 (Int32.toNatClampNeg ((sm_up M 1 47 s1) 1 39)) l1) 1 39)) l2) 31 (Int32.toNatClampNeg ((sm_up (sm_up (sm_up M 1 47 s1) 29 (Int32.toNatClampNeg ((sm_up M 1 47 s1) 1 39)) l1) 30 (Int32.toNatClampNeg ((sm_up (sm_up M 1 47 s1) 29 (Int32.toNatClampNeg ((sm_up M 1 47 s1) 1 39)) l1) 1 39)) l2) 1 39)) l3) 32 (Int32.toNatClampNeg ((sm_up (sm_up (sm_up (sm_up M 1 47 s1) 29 (Int32.toNatClampNeg ((sm_up M 1 47 s1) 1 39)) l1) 30 (Int32.toNatClampNeg ((sm_up (sm_up M 1 47 s1) 29 (Int32.toNatClampNeg ((sm_up M 1 47 s1) 1 39)) l1) 1 39)) l2) 31 (Int32.toNatClampNeg ((sm_up (sm_up (sm_up M 1 47 s1) 29 (Int32.toNatClampNeg ((sm_up M 1 47 s1) 1 39)) l1) 30 (Int32.toNatClampNeg ((sm_up (sm_up M 1 47 s1) 29 (Int32.toNatClampNeg ((sm_up M 1 47 s1) 1 39)) l1) 1 39)) l2) 1 39)) l3) 1 39)) l4) 34 (Int32.toNatClampNeg ((sm_up (sm_up (sm_up (sm_up (sm_up M 1 47 s1) 29 (Int32.toNatClampNeg ((sm_up M 1 47 s1) 1 39)) l1) 30 (Int32.toNatClampNeg ((sm_up (sm_up M 1 47 s1) 29 (Int32.toNatClampNeg ((sm_up M 1 47 s1) 1 39)) l1) 1 39)) l2) 31 (Int32.toNatClampNeg ((sm_up (sm_up (sm_up M 1 47 s1) 29 (Int32.toNatClampNeg ((sm_up M 1 47 s1) 1 39)) l1) 30 (Int32.toNatClampNeg ((sm_up (sm_up M 1 47 s1) 29 (Int32.toNatClampNeg ((sm_up M 1 47 s1) 1 39)) l1) 1 39)) l2) 1 39)) l3) 32 (Int32.toNatClampNeg ((sm_up (sm_up (sm_up (sm_up M 1 47 s1) 29 (Int32.toNatClampNeg ((sm_up M 1 47 s1) 1 39)) l1) 30 (Int32.toNatClampNeg ((sm_up (sm_up M 1 47 s1) 29 (Int32.toNatClampNeg ((sm_up M 1 47 s1) 1 39)) l1) 1 39)) l2) 31 (Int32.toNatClampNeg ((sm_up (sm_up (sm_up M 1 47 s1) 29 (Int32.toNatClampNeg ((sm_up M 1 47 s1) 1 39)) l1) 30 (Int32.toNatClampNeg ((sm_up (sm_up M 1 47 s1) 29 (Int32.toNatClampNeg ((sm_up M 1 47 s1) 1 39)) l1) 1 39)) l2) 1 39)) l3) 1 39)) l4) 1 54))) + (1 : Int32))) 1 39 (((sm_up (sm_up (sm_up (sm_up (sm_up (sm_up M 1 47 s1) 29 (Int32.toNatClampNeg ((sm_up M 1 47 s1) 1 39)) l1) 30 (Int32.toNatClampNeg ((sm_up (sm_up M 1 47 s1) 29 (Int32.toNatClampNeg ((sm_up M 1 47 s1) 1 39)) l1) 1 39)) l2) 31 (Int32.toNatClampNeg ((sm_up (sm_up (sm_up M 1 47 s1) 29 (Int32.toNatClampNeg ((sm_up M 1 47 s1) 1 39)) l1) 30 (Int32.toNatClampNeg ((sm_up (sm_up M 1 47 s1) 29 (Int32.toNatClampNeg ((sm_up M 1 47 s1) 1 39)) l1) 1 39)) l2) 1 39)) l3) 32 (Int32.toNatClampNeg ((sm_up (sm_up (sm_up (sm_up M 1 47 s1) 29 (Int32.toNatClampNeg ((sm_up M 1 47 s1) 1 39)) l1) 30 (Int32.toNatClampNeg ((sm_up (sm_up M 1 47 s1) 29 (Int32.toNatClampNeg ((sm_up M 1 47 s1) 1 39)) l1) 1 39)) l2) 31 (Int32.toNatClampNeg ((sm_up (sm_up (sm_up M 1 47 s1) 29 (Int32.toNatClampNeg ((sm_up M 1 47 s1) 1 39)) l1) 30 (Int32.toNatClampNeg ((sm_up (sm_up M 1 47 s1) 29 (Int32.toNatClampNeg ((sm_up M 1 47 s1) 1 39)) l1) 1 39)) l2) 1 39)) l3) 1 39)) l4) 34 (Int32.toNatClampNeg ((sm_up (sm_up (sm_up (sm_up (sm_up M 1 47 s1) 29 (Int32.toNatClampNeg ((sm_up M 1 47 s1) 1 39)) l1) 30 (Int32.toNatClampNeg ((sm_up (sm_up M 1 47 s1) 29 (Int32.toNatClampNeg ((sm_up M 1 47 s1) 1 39)) l1) 1 39)) l2) 31 (Int32.toNatClampNeg ((sm_up (sm_up (sm_up M 1 47 s1) 29 (Int32.toNatClampNeg ((sm_up M 1 47 s1) 1 39)) l1) 30 (Int32.toNatClampNeg ((sm_up (sm_up M 1 47 s1) 29 (Int32.toNatClampNeg ((sm_up M 1 47 s1) 1 39)) l1) 1 39)) l2) 1 39)) l3) 32 (Int32.toNatClampNeg ((sm_up (sm_up (sm_up (sm_up M 1 47 s1) 29 (Int32.toNatClampNeg ((sm_up M 1 47 s1) 1 39)) l1) 30 (Int32.toNatClampNeg ((sm_up (sm_up M 1 47 s1) 29 (Int32.toNatClampNeg ((sm_up M 1 47 s1) 1 39)) l1) 1 39)) l2) 31 (Int32.toNatClampNeg ((sm_up (sm_up (sm_up M 1 47 s1) 29 (Int32.toNatClampNeg ((sm_up M 1 47 s1) 1 39)) l1) 30 (Int32.toNatClampNeg ((sm_up (sm_up M 1 47 s1) 29 (Int32.toNatClampNeg ((sm_up M 1 47 s1) 1 39)) l1) 1 39)) l2) 1 39)) l3) 1 39)) l4) 1 54)) (((sm_up (sm_up (sm_up (sm_up (sm_up M 1 47 s1) 29 (Int32.toNatClampNeg ((sm_up M 1 47 s1) 1 39)) l1) 30 (Int32.toNatClampNeg ((sm_up (sm_up M 1 47 s1) 29 (Int32.toNatClampNeg ((sm_up M 1 47 s1) 1 39)) l1) 1 39)) l2) 31 (Int32.toNatClampNeg ((sm_up (sm_up (sm_up M 1 47 s1) 29 (Int32.toNatClampNeg ((sm_up M 1 47 s1) 1 39)) l1) 30 (Int32.toNatClampNeg ((sm_up (sm_up M 1 47 s1) 29 (Int32.toNatClampNeg ((sm_up M 1 47 s1) 1 39)) l1) 1 39)) l2) 1 39)) l3) 32 (Int32.toNatClampNeg ((sm_up (sm_up (sm_up (sm_up M 1 47 s1) 29 (Int32.toNatClampNeg ((sm_up M 1 47 s1) 1 39)) l1) 30 (Int32.toNatClampNeg ((sm_up (sm_up M 1 47 s1) 29 (Int32.toNatClampNeg ((sm_up M 1 47 s1) 1 39)) l1) 1 39)) l2) 31 (Int32.toNatClampNeg ((sm_up (sm_up (sm_up M 1 47 s1) 29 (Int32.toNatClampNeg ((sm_up M 1 47 s1) 1 39)) l1) 30 (Int32.toNatClampNeg ((sm_up (sm_up M 1 47 s1) 29 (Int32.toNatClampNeg ((sm_up M 1 47 s1) 1 39)) l1) 1 39)) l2) 1 39)) l3) 1 39)) l4) 34 (Int32.toNatClampNeg ((sm_up (sm_up (sm_up (sm_up (sm_up M 1 47 s1) 29 (Int32.toNatClampNeg ((sm_up M 1 47 s1) 1 39)) l1) 30 (Int32.toNatClampNeg ((sm_up (sm_up M 1 47 s1) 29 (Int32.toNatClampNeg ((sm_up M 1 47 s1) 1 39)) l1) 1 39)) l2) 31 (Int32.toNatClampNeg ((sm_up (sm_up (sm_up M 1 47 s1) 29 (Int32.toNatClampNeg ((sm_up M 1 47 s1) 1 39)) l1) 30 (Int32.toNatClampNeg ((sm_up (sm_up M 1 47 s1) 29 (Int32.toNatClampNeg ((sm_up M 1 47 s1) 1 39)) l1) 1 39)) l2) 1 39)) l3) 32 (Int32.toNatClampNeg ((sm_up (sm_up (sm_up (sm_up M 1 47 s1) 29 (Int32.toNatClampNeg ((sm_up M 1 47 s1) 1 39)) l1) 30 (Int32.toNatClampNeg ((sm_up (sm_up M 1 47 s1) 29 (Int32.toNatClampNeg ((sm_up M 1 47 s1) 1 39)) l1) 1 39)) l2) 31 (Int32.toNatClampNeg ((sm_up (sm_up (sm_up M 1 47 s1) 29 (Int32.toNatClampNeg ((sm_up M 1 47 s1) 1 39)) l1) 30 (Int32.toNatClampNeg ((sm_up (sm_up M 1 47 s1) 29 (Int32.toNatClampNeg ((sm_up M 1 47 s1) 1 39)) l1) 1 39)) l2) 1 39)) l3) 1 39)) l4) 1 54))) + (1 : Int32))) 1 39) + (1 : Int32))))))))))) else (some ((0 : Int32), D, (sm_up M 1 47 s1)))))
noncomputable def jR_emit_18 (l1 l2 l3 l4 : Int32) (D : sm_D) (M : sm_M) : Option sm_S :=
  (jR_emit_23 l1 l2 l3 l4 (1 : Int32) D M)
noncomputable def jR_emit (l1 l2 l3 l4 : Int32) (D : sm_D) (M : sm_M) : Option sm_S :=
  (if (M 1 47) = (0 : Int32) then (if (M 1 39) = (300 : Int32) then (jR_emit_18 l1 l2 l3 l4 D M) else (jR_emit_23 l1 l2 l3 l4 (0 : Int32) D M)) else (jR_emit_18 l1 l2 l3 l4 D M))
noncomputable def jR_name_42 (s1 s2 : Int32) (D : sm_D) (M : sm_M) : Option sm_S :=
  (some ((((sm_up M 1 52 (s1 + s2)) 1 52) - (1 : Int32)), D, (sm_up M 1 52 (s1 + s2))))
noncomputable def jR_name_22 (s1 : Int32) (D : sm_D) (M : sm_M) : Option sm_S :=
  (sm_bo s1 (if ((sm_up M 1 47 s1) 1 47) = (0 : Int32) then (jR_name_42 ((sm_up M 1 47 s1) 1 52) (1 : Int32) D (sm_up M 1 47 s1)) else (jR_name_42 ((sm_up M 1 47 s1) 1 52) (0 : Int32) D (sm_up M 1 47 s1))))
noncomputable def jR_name_17 (D : sm_D) (M : sm_M) : Option sm_S :=
  (jR_name_22 (1 : Int32) D M)
noncomputable def jR_name (D : sm_D) (M : sm_M) : Option sm_S :=
  (if (M 1 47) = (0 : Int32) then (if (M 1 52) = (40 : Int32) then (jR_name_17 D M) else (jR_name_22 (0 : Int32) D M)) else (jR_name_17 D M))
noncomputable def jR_beginBlock (l1 l2 l3 l4 : Int32) (D : sm_D) (M : sm_M) : Option sm_S :=
  (sm_ck l1 41 (sm_ck l1 41 (sm_ck ((3 : Int32) * l1) 123 (sm_ck (((3 : Int32) * l1) + (1 : Int32)) 123 (sm_ck (((3 : Int32) * l1) + (2 : Int32)) 123 (some ((0 : Int32), D, (sm_up (sm_up (sm_up (sm_up (sm_up (sm_up M 1 54 l1) 33 (Int32.toNatClampNeg l1) ((sm_up M 1 54 l1) 1 39)) 34 (Int32.toNatClampNeg l1) (0 : Int32)) 35 (Int32.toNatClampNeg ((3 : Int32) * l1)) l2) 35 (Int32.toNatClampNeg (((3 : Int32) * l1) + (1 : Int32))) l3) 35 (Int32.toNatClampNeg (((3 : Int32) * l1) + (2 : Int32))) l4))))))))
noncomputable def jR_grow (l1 l2 : Int32) (D : sm_D) (M : sm_M) : Option sm_S :=
  (sm_ck (M 1 50) 1200 (sm_ck ((sm_up M 40 (Int32.toNatClampNeg (M 1 50)) (M 1 51)) 1 50) 1200 (sm_ck ((sm_up (sm_up M 40 (Int32.toNatClampNeg (M 1 50)) (M 1 51)) 41 (Int32.toNatClampNeg ((sm_up M 40 (Int32.toNatClampNeg (M 1 50)) (M 1 51)) 1 50)) l1) 1 50) 1200 (sm_bo l2 (sm_ck ((sm_up (sm_up (sm_up M 40 (Int32.toNatClampNeg (M 1 50)) (M 1 51)) 41 (Int32.toNatClampNeg ((sm_up M 40 (Int32.toNatClampNeg (M 1 50)) (M 1 51)) 1 50)) l1) 43 (Int32.toNatClampNeg ((sm_up (sm_up M 40 (Int32.toNatClampNeg (M 1 50)) (M 1 51)) 41 (Int32.toNatClampNeg ((sm_up M 40 (Int32.toNatClampNeg (M 1 50)) (M 1 51)) 1 50)) l1) 1 50)) l2) 1 51) 1200 (sm_bi (jR_find (1 : Int32) ((sm_up (sm_up (sm_up M 40 (Int32.toNatClampNeg (M 1 50)) (M 1 51)) 41 (Int32.toNatClampNeg ((sm_up M 40 (Int32.toNatClampNeg (M 1 50)) (M 1 51)) 1 50)) l1) 43 (Int32.toNatClampNeg ((sm_up (sm_up M 40 (Int32.toNatClampNeg (M 1 50)) (M 1 51)) 41 (Int32.toNatClampNeg ((sm_up M 40 (Int32.toNatClampNeg (M 1 50)) (M 1 51)) 1 50)) l1) 1 50)) l2) 42 (Int32.toNatClampNeg ((sm_up (sm_up (sm_up M 40 (Int32.toNatClampNeg (M 1 50)) (M 1 51)) 41 (Int32.toNatClampNeg ((sm_up M 40 (Int32.toNatClampNeg (M 1 50)) (M 1 51)) 1 50)) l1) 43 (Int32.toNatClampNeg ((sm_up (sm_up M 40 (Int32.toNatClampNeg (M 1 50)) (M 1 51)) 41 (Int32.toNatClampNeg ((sm_up M 40 (Int32.toNatClampNeg (M 1 50)) (M 1 51)) 1 50)) l1) 1 50)) l2) 1 51))) l1 (-1 : Int32) D (sm_up (sm_up (sm_up M 40 (Int32.toNatClampNeg (M 1 50)) (M 1 51)) 41 (Int32.toNatClampNeg ((sm_up M 40 (Int32.toNatClampNeg (M 1 50)) (M 1 51)) 1 50)) l1) 43 (Int32.toNatClampNeg ((sm_up (sm_up M 40 (Int32.toNatClampNeg (M 1 50)) (M 1 51)) 41 (Int32.toNatClampNeg ((sm_up M 40 (Int32.toNatClampNeg (M 1 50)) (M 1 51)) 1 50)) l1) 1 50)) l2)) (fun x1 E1 M1 => sm_dq E1 D (sm_ck ((sm_up (sm_up (sm_up M 40 (Int32.toNatClampNeg (M 1 50)) (M 1 51)) 41 (Int32.toNatClampNeg ((sm_up M 40 (Int32.toNatClampNeg (M 1 50)) (M 1 51)) 1 50)) l1) 43 (Int32.toNatClampNeg ((sm_up (sm_up M 40 (Int32.toNatClampNeg (M 1 50)) (M 1 51)) 41 (Int32.toNatClampNeg ((sm_up M 40 (Int32.toNatClampNeg (M 1 50)) (M 1 51)) 1 50)) l1) 1 50)) l2) 1 50) 1200 (some ((0 : Int32), D, (sm_up (sm_up (sm_up M1 42 (Int32.toNatClampNeg ((sm_up (sm_up (sm_up M 40 (Int32.toNatClampNeg (M 1 50)) (M 1 51)) 41 (Int32.toNatClampNeg ((sm_up M 40 (Int32.toNatClampNeg (M 1 50)) (M 1 51)) 1 50)) l1) 43 (Int32.toNatClampNeg ((sm_up (sm_up M 40 (Int32.toNatClampNeg (M 1 50)) (M 1 51)) 41 (Int32.toNatClampNeg ((sm_up M 40 (Int32.toNatClampNeg (M 1 50)) (M 1 51)) 1 50)) l1) 1 50)) l2) 1 50)) x1) 1 51 ((sm_up M1 42 (Int32.toNatClampNeg ((sm_up (sm_up (sm_up M 40 (Int32.toNatClampNeg (M 1 50)) (M 1 51)) 41 (Int32.toNatClampNeg ((sm_up M 40 (Int32.toNatClampNeg (M 1 50)) (M 1 51)) 1 50)) l1) 43 (Int32.toNatClampNeg ((sm_up (sm_up M 40 (Int32.toNatClampNeg (M 1 50)) (M 1 51)) 41 (Int32.toNatClampNeg ((sm_up M 40 (Int32.toNatClampNeg (M 1 50)) (M 1 51)) 1 50)) l1) 1 50)) l2) 1 50)) x1) 1 50)) 1 50 (((sm_up (sm_up M1 42 (Int32.toNatClampNeg ((sm_up (sm_up (sm_up M 40 (Int32.toNatClampNeg (M 1 50)) (M 1 51)) 41 (Int32.toNatClampNeg ((sm_up M 40 (Int32.toNatClampNeg (M 1 50)) (M 1 51)) 1 50)) l1) 43 (Int32.toNatClampNeg ((sm_up (sm_up M 40 (Int32.toNatClampNeg (M 1 50)) (M 1 51)) 41 (Int32.toNatClampNeg ((sm_up M 40 (Int32.toNatClampNeg (M 1 50)) (M 1 51)) 1 50)) l1) 1 50)) l2) 1 50)) x1) 1 51 ((sm_up M1 42 (Int32.toNatClampNeg ((sm_up (sm_up (sm_up M 40 (Int32.toNatClampNeg (M 1 50)) (M 1 51)) 41 (Int32.toNatClampNeg ((sm_up M 40 (Int32.toNatClampNeg (M 1 50)) (M 1 51)) 1 50)) l1) 43 (Int32.toNatClampNeg ((sm_up (sm_up M 40 (Int32.toNatClampNeg (M 1 50)) (M 1 51)) 41 (Int32.toNatClampNeg ((sm_up M 40 (Int32.toNatClampNeg (M 1 50)) (M 1 51)) 1 50)) l1) 1 50)) l2) 1 50)) x1) 1 50)) 1 50) + (1 : Int32)))))))))))))
noncomputable def jR_doLater (l1 l2 l3 : Int32) (D : sm_D) (M : sm_M) : Option sm_S :=
  (sm_ck (M 1 48) 400 (sm_ck ((sm_up M 36 (Int32.toNatClampNeg (M 1 48)) l1) 1 48) 400 (sm_ck ((sm_up (sm_up M 36 (Int32.toNatClampNeg (M 1 48)) l1) 37 (Int32.toNatClampNeg ((sm_up M 36 (Int32.toNatClampNeg (M 1 48)) l1) 1 48)) l2) 1 48) 400 (some ((0 : Int32), D, (sm_up (sm_up (sm_up (sm_up M 36 (Int32.toNatClampNeg (M 1 48)) l1) 37 (Int32.toNatClampNeg ((sm_up M 36 (Int32.toNatClampNeg (M 1 48)) l1) 1 48)) l2) 38 (Int32.toNatClampNeg ((sm_up (sm_up M 36 (Int32.toNatClampNeg (M 1 48)) l1) 37 (Int32.toNatClampNeg ((sm_up M 36 (Int32.toNatClampNeg (M 1 48)) l1) 1 48)) l2) 1 48)) l3) 1 48 (((sm_up (sm_up (sm_up M 36 (Int32.toNatClampNeg (M 1 48)) l1) 37 (Int32.toNatClampNeg ((sm_up M 36 (Int32.toNatClampNeg (M 1 48)) l1) 1 48)) l2) 38 (Int32.toNatClampNeg ((sm_up (sm_up M 36 (Int32.toNatClampNeg (M 1 48)) l1) 37 (Int32.toNatClampNeg ((sm_up M 36 (Int32.toNatClampNeg (M 1 48)) l1) 1 48)) l2) 1 48)) l3) 1 48) + (1 : Int32))))))))
noncomputable def jR_finish (l1 : Int32) (D : sm_D) (M : sm_M) : Option sm_S :=
  (sm_ck (M 1 49) 400 (some ((0 : Int32), D, (sm_up (sm_up M 39 (Int32.toNatClampNeg (M 1 49)) l1) 1 49 (((sm_up M 39 (Int32.toNatClampNeg (M 1 49)) l1) 1 49) + (1 : Int32))))))
noncomputable def jR_doneLast (D : sm_D) (M : sm_M) : Option sm_S :=
  (sm_ck ((sm_up M 1 49 ((M 1 49) - (1 : Int32))) 1 49) 400 (some (((sm_up M 1 49 ((M 1 49) - (1 : Int32))) 39 (Int32.toNatClampNeg ((sm_up M 1 49 ((M 1 49) - (1 : Int32))) 1 49))), D, (sm_up M 1 49 ((M 1 49) - (1 : Int32))))))
noncomputable def jR_push (l1 : Int32) (D : sm_D) (M : sm_M) : Option sm_S :=
  (sm_bi (jR_emit (4 : Int32) (1 : Int32) (1 : Int32) (2 : Int32) D M) (fun x1 E1 M1 => sm_dq E1 D (sm_bi (jR_doneLast D M1) (fun x2 E2 M2 => sm_dq E2 D (sm_bi (jR_grow x2 l1 D M2) (fun x3 E3 M3 => sm_dq E3 D (some ((0 : Int32), D, M3))))))))
noncomputable def jR_pop (D : sm_D) (M : sm_M) : Option sm_S :=
  (sm_bi (jR_emit (5 : Int32) (1 : Int32) (1 : Int32) (0 : Int32) D M) (fun x1 E1 M1 => sm_dq E1 D (sm_ck (M1 1 51) 1200 (some ((0 : Int32), D, (sm_up M1 1 51 (M1 40 (Int32.toNatClampNeg (M1 1 51)))))))))
noncomputable def jR_variable_40 (l2 l3 s0 s1 : Int32) (D : sm_D) (M : sm_M) : Option ((Int32 × Int32 × Int32 × sm_M) ⊕ sm_S) :=
  (sm_ck l3 1200 (sm_dq D D (some (.inl ((l2 + (1 : Int32)), (M 40 (Int32.toNatClampNeg l3)), (s0 - s1), M)))))
noncomputable def jR_variable_24 (l2 l3 l4 : Int32) (D : sm_D) (M : sm_M) : Option ((Int32 × Int32 × Int32 × sm_M) ⊕ sm_S) :=
  (sm_ck l3 1200 (if (M 43 (Int32.toNatClampNeg l3)) = (0 : Int32) then (jR_variable_40 l2 l3 l4 (0 : Int32) D M) else (jR_variable_40 l2 l3 l4 (1 : Int32) D M)))
noncomputable def jR_variable_111 (l3 : Int32) (D : sm_D) (M : sm_M) : Option sm_S :=
  (sm_ck l3 1200 (sm_bi (jR_finish (M 41 (Int32.toNatClampNeg l3)) D M) (fun x1 E1 M1 => sm_dq E1 D (some ((0 : Int32), D, M1)))))
noncomputable def jR_variable_83_c (l2 l3 l5 : Int32) (D : sm_D) (M : sm_M) : Option ((Int32 × Int32 × Int32 × sm_M) ⊕ sm_S) :=
  (if l5 < l2 then (sm_bi (jR_emit (5 : Int32) (4 : Int32) (4 : Int32) (0 : Int32) D M) (fun x2 E2 M2 => sm_dq E2 D (sm_dq D D (some (.inl (l2, l3, (l5 + (1 : Int32)), M2)))))) else (sm_bi (jR_emit (5 : Int32) (2 : Int32) (4 : Int32) (1 : Int32) D M) (fun x1 E1 M1 => sm_dq E1 D (sm_inr (jR_variable_111 l3 D M1)))))
noncomputable def jR_variable_83_b (D : sm_D) (s : Int32 × Int32 × Int32 × sm_M) : Option ((Int32 × Int32 × Int32 × sm_M) ⊕ sm_S) := jR_variable_83_c s.1 s.2.1 s.2.2.1 D s.2.2.2
noncomputable def jR_variable_83 (l2 l3 l5 : Int32) (D : sm_D) (M : sm_M) : Option sm_S := sm_lp (jR_variable_83_b D) (l2, l3, l5, M)
noncomputable def jR_variable_68 (l2 l3 : Int32) (D : sm_D) (M : sm_M) : Option sm_S :=
  (if (0 : Int32) < l2 then (sm_bi (jR_emit (5 : Int32) (4 : Int32) (1 : Int32) (0 : Int32) D M) (fun x1 E1 M1 => sm_dq E1 D (jR_variable_83 l2 l3 (1 : Int32) D M1))) else (jR_variable_111 l3 D M))
noncomputable def jR_variable_10_c (l2 l3 l4 : Int32) (D : sm_D) (M : sm_M) : Option ((Int32 × Int32 × Int32 × sm_M) ⊕ sm_S) :=
  (sm_ck l3 1200 (if (M 43 (Int32.toNatClampNeg l3)) = (0 : Int32) then (jR_variable_24 l2 l3 l4 D M) else (if (0 : Int32) < l4 then (jR_variable_24 l2 l3 l4 D M) else (if l2 = (0 : Int32) then (sm_bi (jR_emit (5 : Int32) (2 : Int32) (1 : Int32) (1 : Int32) D M) (fun x1 E1 M1 => sm_dq E1 D (sm_inr (jR_variable_68 l2 l3 D M1)))) else (sm_inr (jR_variable_68 l2 l3 D M))))))
noncomputable def jR_variable_10_b (D : sm_D) (s : Int32 × Int32 × Int32 × sm_M) : Option ((Int32 × Int32 × Int32 × sm_M) ⊕ sm_S) := jR_variable_10_c s.1 s.2.1 s.2.2.1 D s.2.2.2
noncomputable def jR_variable_10 (l2 l3 l4 : Int32) (D : sm_D) (M : sm_M) : Option sm_S := sm_lp (jR_variable_10_b D) (l2, l3, l4, M)
noncomputable def jR_variable (l1 : Int32) (D : sm_D) (M : sm_M) : Option sm_S :=
  (jR_variable_10 (0 : Int32) (M 1 51) l1 D M)
noncomputable def jR_lambda_91 (l1 : Int32) (D : sm_D) (M : sm_M) : Option sm_S :=
  (sm_ck l1 40 (sm_ck (M 13 (Int32.toNatClampNeg l1)) 30 (sm_bi (jR_finish (M 7 (Int32.toNatClampNeg (M 13 (Int32.toNatClampNeg l1)))) D M) (fun x1 E1 M1 => sm_dq E1 D (some ((0 : Int32), D, M1))))))
noncomputable def jR_lambda (l1 : Int32) (D : sm_D) (M : sm_M) : Option sm_S :=
  (sm_bi (jR_name D M) (fun x1 E1 M1 => sm_dq E1 D (sm_bi (jR_emit (6 : Int32) (4 : Int32) x1 (0 : Int32) D M1) (fun x2 E2 M2 => sm_dq E2 D (sm_bi (jR_emit (4 : Int32) (4 : Int32) (4 : Int32) (1 : Int32) D M2) (fun x3 E3 M3 => sm_dq E3 D (sm_ck l1 40 (sm_ck (M3 13 (Int32.toNatClampNeg l1)) 30 (sm_bi (jR_emit (7 : Int32) (2 : Int32) (4 : Int32) (M3 7 (Int32.toNatClampNeg (M3 13 (Int32.toNatClampNeg l1)))) D M3) (fun x4 E4 M4 => sm_dq E4 D (if (M4 1 47) = (0 : Int32) then (sm_ck (M4 1 53) 64 (sm_ck ((sm_up M4 44 (Int32.toNatClampNeg (M4 1 53)) l1) 1 53) 64 (sm_ck ((sm_up (sm_up M4 44 (Int32.toNatClampNeg (M4 1 53)) l1) 45 (Int32.toNatClampNeg ((sm_up M4 44 (Int32.toNatClampNeg (M4 1 53)) l1) 1 53)) ((sm_up M4 44 (Int32.toNatClampNeg (M4 1 53)) l1) 1 51)) 1 53) 64 (jR_lambda_91 l1 D (sm_up (sm_up (sm_up (sm_up M4 44 (Int32.toNatClampNeg (M4 1 53)) l1) 45 (Int32.toNatClampNeg ((sm_up M4 44 (Int32.toNatClampNeg (M4 1 53)) l1) 1 53)) ((sm_up M4 44 (Int32.toNatClampNeg (M4 1 53)) l1) 1 51)) 46 (Int32.toNatClampNeg ((sm_up (sm_up M4 44 (Int32.toNatClampNeg (M4 1 53)) l1) 45 (Int32.toNatClampNeg ((sm_up M4 44 (Int32.toNatClampNeg (M4 1 53)) l1) 1 53)) ((sm_up M4 44 (Int32.toNatClampNeg (M4 1 53)) l1) 1 51)) 1 53)) x1) 1 53 (((sm_up (sm_up (sm_up M4 44 (Int32.toNatClampNeg (M4 1 53)) l1) 45 (Int32.toNatClampNeg ((sm_up M4 44 (Int32.toNatClampNeg (M4 1 53)) l1) 1 53)) ((sm_up M4 44 (Int32.toNatClampNeg (M4 1 53)) l1) 1 51)) 46 (Int32.toNatClampNeg ((sm_up (sm_up M4 44 (Int32.toNatClampNeg (M4 1 53)) l1) 45 (Int32.toNatClampNeg ((sm_up M4 44 (Int32.toNatClampNeg (M4 1 53)) l1) 1 53)) ((sm_up M4 44 (Int32.toNatClampNeg (M4 1 53)) l1) 1 51)) 1 53)) x1) 1 53) + (1 : Int32))))))) else (jR_lambda_91 l1 D M4))))))))))))
noncomputable def jR_write_190 (l1 : Int32) (D : sm_D) (M : sm_M) : Option sm_S :=
  (sm_ck l1 40 (sm_bi (jR_doLater (0 : Int32) (M 14 (Int32.toNatClampNeg l1)) (0 : Int32) D M) (fun x1 E1 M1 => sm_dq E1 D (some ((0 : Int32), D, M1)))))
noncomputable def jR_write_110 (l1 : Int32) (D : sm_D) (M : sm_M) : Option sm_S :=
  (sm_ck l1 40 (sm_bi (jR_doLater (4 : Int32) ((M 12 (Int32.toNatClampNeg l1)) - (9 : Int32)) (0 : Int32) D M) (fun x1 E1 M1 => sm_dq E1 D (jR_write_190 l1 D M1))))
noncomputable def jR_write_161 (l1 s1 : Int32) (D : sm_D) (M : sm_M) : Option sm_S :=
  (sm_ck l1 40 (sm_bi (jR_doLater s1 (M 12 (Int32.toNatClampNeg l1)) (0 : Int32) D M) (fun x1 E1 M1 => sm_dq E1 D (sm_ck l1 40 (sm_bi (jR_doLater (0 : Int32) (M1 15 (Int32.toNatClampNeg l1)) (0 : Int32) D M1) (fun x2 E2 M2 => sm_dq E2 D (sm_bi (jR_doLater (1 : Int32) (0 : Int32) (0 : Int32) D M2) (fun x3 E3 M3 => sm_dq E3 D (jR_write_190 l1 D M3)))))))))
noncomputable def jR_write_128 (l1 : Int32) (D : sm_D) (M : sm_M) : Option sm_S :=
  (sm_ck l1 40 (if (M 12 (Int32.toNatClampNeg l1)) = (7 : Int32) then (jR_write_161 l1 (8 : Int32) D M) else (sm_ck l1 40 (if (M 12 (Int32.toNatClampNeg l1)) = (8 : Int32) then (jR_write_161 l1 (3 : Int32) D M) else (jR_write_161 l1 (2 : Int32) D M)))))
noncomputable def jR_write (l1 : Int32) (D : sm_D) (M : sm_M) : Option sm_S :=
  (sm_ck l1 40 (if (M 12 (Int32.toNatClampNeg l1)) = (0 : Int32) then (sm_ck l1 40 (sm_bi (jR_emit (0 : Int32) (2 : Int32) (M 13 (Int32.toNatClampNeg l1)) (0 : Int32) D M) (fun x4 E4 M4 => sm_dq E4 D (sm_bi (jR_finish (0 : Int32) D M4) (fun x5 E5 M5 => sm_dq E5 D (some ((0 : Int32), D, M5))))))) else (if (M 12 (Int32.toNatClampNeg l1)) = (1 : Int32) then (sm_ck l1 40 (sm_bi (jR_variable (M 13 (Int32.toNatClampNeg l1)) D M) (fun x3 E3 M3 => sm_dq E3 D (some ((0 : Int32), D, M3))))) else (if (M 12 (Int32.toNatClampNeg l1)) = (2 : Int32) then (jR_write_128 l1 D M) else (if (M 12 (Int32.toNatClampNeg l1)) = (3 : Int32) then (jR_write_128 l1 D M) else (if (M 12 (Int32.toNatClampNeg l1)) = (4 : Int32) then (jR_write_128 l1 D M) else (if (M 12 (Int32.toNatClampNeg l1)) = (5 : Int32) then (sm_bi (jR_doLater (5 : Int32) l1 (0 : Int32) D M) (fun x2 E2 M2 => sm_dq E2 D (jR_write_190 l1 D M2))) else (if (M 12 (Int32.toNatClampNeg l1)) = (6 : Int32) then (sm_bi (jR_lambda l1 D M) (fun x1 E1 M1 => sm_dq E1 D (some ((0 : Int32), D, M1)))) else (if (M 12 (Int32.toNatClampNeg l1)) = (7 : Int32) then (jR_write_128 l1 D M) else (if (M 12 (Int32.toNatClampNeg l1)) = (8 : Int32) then (jR_write_128 l1 D M) else (if (M 12 (Int32.toNatClampNeg l1)) = (9 : Int32) then (jR_write_110 l1 D M) else (if (M 12 (Int32.toNatClampNeg l1)) = (10 : Int32) then (jR_write_110 l1 D M) else (jR_write_128 l1 D M)))))))))))))
noncomputable def jR_call_128 (l1 : Int32) (D : sm_D) (M : sm_M) : Option sm_S :=
  (sm_bi (jR_finish l1 D M) (fun x1 E1 M1 => sm_dq E1 D (some ((0 : Int32), D, M1))))
noncomputable def jR_call (D : sm_D) (M : sm_M) : Option sm_S :=
  (sm_bi (jR_doneLast D M) (fun x1 E1 M1 => sm_dq E1 D (sm_ck (M1 1 51) 1200 (sm_ck (M1 41 (Int32.toNatClampNeg (M1 1 51))) 3000 (sm_bi (jR_name D M1) (fun x2 E2 M2 => sm_dq E2 D (sm_bi (jR_emit (6 : Int32) (4 : Int32) x2 (0 : Int32) D M2) (fun x3 E3 M3 => sm_dq E3 D (sm_bi (jR_emit (5 : Int32) (5 : Int32) (1 : Int32) (0 : Int32) D M3) (fun x4 E4 M4 => sm_dq E4 D (sm_bi (jR_emit (4 : Int32) (4 : Int32) (4 : Int32) (5 : Int32) D M4) (fun x5 E5 M5 => sm_dq E5 D (sm_bi (jR_find (3 : Int32) (M1 4 (Int32.toNatClampNeg (M1 41 (Int32.toNatClampNeg (M1 1 51))))) (-1 : Int32) (-1 : Int32) D M5) (fun x6 E6 M6 => sm_dq E6 D (sm_bi (jR_emit (7 : Int32) (3 : Int32) (4 : Int32) x6 D M6) (fun x7 E7 M7 => sm_dq E7 D (sm_bi (jR_emit (5 : Int32) (4 : Int32) (1 : Int32) (1 : Int32) D M7) (fun x8 E8 M8 => sm_dq E8 D (sm_bi (jR_emit (8 : Int32) (5 : Int32) (1 : Int32) (4 : Int32) D M8) (fun x9 E9 M9 => sm_dq E9 D (sm_bi (jR_emit (11 : Int32) (5 : Int32) (0 : Int32) (0 : Int32) D M9) (fun x10 E10 M10 => sm_dq E10 D (sm_ck (M10 1 51) 1200 (if ((sm_up M10 1 51 (M10 40 (Int32.toNatClampNeg (M10 1 51)))) 1 47) = (0 : Int32) then (sm_ck ((sm_up M10 1 51 (M10 40 (Int32.toNatClampNeg (M10 1 51)))) 1 51) 1200 (sm_bi (jR_beginBlock x2 ((sm_up M10 1 51 (M10 40 (Int32.toNatClampNeg (M10 1 51)))) 42 (Int32.toNatClampNeg ((sm_up M10 1 51 (M10 40 (Int32.toNatClampNeg (M10 1 51)))) 1 51))) (M1 4 (Int32.toNatClampNeg (M1 41 (Int32.toNatClampNeg (M1 1 51))))) (-1 : Int32) D (sm_up M10 1 51 (M10 40 (Int32.toNatClampNeg (M10 1 51))))) (fun x11 E11 M11 => sm_dq E11 D (jR_call_128 (M1 4 (Int32.toNatClampNeg (M1 41 (Int32.toNatClampNeg (M1 1 51))))) D M11)))) else (jR_call_128 (M1 4 (Int32.toNatClampNeg (M1 41 (Int32.toNatClampNeg (M1 1 51))))) D (sm_up M10 1 51 (M10 40 (Int32.toNatClampNeg (M10 1 51)))))))))))))))))))))))))))))
noncomputable def jR_choose (l1 : Int32) (D : sm_D) (M : sm_M) : Option sm_S :=
  (sm_bi (jR_doneLast D M) (fun x1 E1 M1 => sm_dq E1 D (sm_bi (jR_name D M1) (fun x2 E2 M2 => sm_dq E2 D (sm_bi (jR_name D M2) (fun x3 E3 M3 => sm_dq E3 D (sm_bi (jR_emit (10 : Int32) (2 : Int32) x2 (0 : Int32) D M3) (fun x4 E4 M4 => sm_dq E4 D (sm_bi (jR_doLater (7 : Int32) x3 (0 : Int32) D M4) (fun x5 E5 M5 => sm_dq E5 D (sm_ck l1 40 (sm_bi (jR_doLater (0 : Int32) (M5 16 (Int32.toNatClampNeg l1)) (0 : Int32) D M5) (fun x6 E6 M6 => sm_dq E6 D (sm_bi (jR_doLater (6 : Int32) x2 x3 D M6) (fun x7 E7 M7 => sm_dq E7 D (sm_ck l1 40 (sm_bi (jR_doLater (0 : Int32) (M7 15 (Int32.toNatClampNeg l1)) (0 : Int32) D M7) (fun x8 E8 M8 => sm_dq E8 D (some ((0 : Int32), D, M8))))))))))))))))))))
noncomputable def jR_doNext_323 (D : sm_D) (M : sm_M) : Option sm_S :=
  (some ((0 : Int32), D, M))
noncomputable def jR_doNext_215 (s1 : Int32) (D : sm_D) (M : sm_M) : Option sm_S :=
  (sm_bi (jR_finish s1 D M) (fun x1 E1 M1 => sm_dq E1 D (jR_doNext_323 D M1)))
noncomputable def jR_doNext (D : sm_D) (M : sm_M) : Option sm_S :=
  (sm_ck ((sm_up M 1 48 ((M 1 48) - (1 : Int32))) 1 48) 400 (sm_ck ((sm_up M 1 48 ((M 1 48) - (1 : Int32))) 1 48) 400 (if ((sm_up M 1 48 ((M 1 48) - (1 : Int32))) 36 (Int32.toNatClampNeg ((sm_up M 1 48 ((M 1 48) - (1 : Int32))) 1 48))) = (0 : Int32) then (sm_bi (jR_write ((sm_up M 1 48 ((M 1 48) - (1 : Int32))) 37 (Int32.toNatClampNeg ((sm_up M 1 48 ((M 1 48) - (1 : Int32))) 1 48))) D (sm_up M 1 48 ((M 1 48) - (1 : Int32)))) (fun x22 E22 M22 => sm_dq E22 D (jR_doNext_323 D M22))) else (if ((sm_up M 1 48 ((M 1 48) - (1 : Int32))) 36 (Int32.toNatClampNeg ((sm_up M 1 48 ((M 1 48) - (1 : Int32))) 1 48))) = (1 : Int32) then (sm_bi (jR_push (0 : Int32) D (sm_up M 1 48 ((M 1 48) - (1 : Int32)))) (fun x21 E21 M21 => sm_dq E21 D (jR_doNext_323 D M21))) else (if ((sm_up M 1 48 ((M 1 48) - (1 : Int32))) 36 (Int32.toNatClampNeg ((sm_up M 1 48 ((M 1 48) - (1 : Int32))) 1 48))) = (2 : Int32) then (sm_bi (jR_doneLast D (sm_up M 1 48 ((M 1 48) - (1 : Int32)))) (fun x16 E16 M16 => sm_dq E16 D (sm_bi (jR_emit (5 : Int32) (4 : Int32) (1 : Int32) (1 : Int32) D M16) (fun x17 E17 M17 => sm_dq E17 D (sm_bi (jR_emit (((sm_up M 1 48 ((M 1 48) - (1 : Int32))) 37 (Int32.toNatClampNeg ((sm_up M 1 48 ((M 1 48) - (1 : Int32))) 1 48))) - (1 : Int32)) (2 : Int32) (4 : Int32) (2 : Int32) D M17) (fun x18 E18 M18 => sm_dq E18 D (sm_bi (jR_pop D M18) (fun x19 E19 M19 => sm_dq E19 D (sm_bi (jR_finish (0 : Int32) D M19) (fun x20 E20 M20 => sm_dq E20 D (jR_doNext_323 D M20))))))))))) else (if ((sm_up M 1 48 ((M 1 48) - (1 : Int32))) 36 (Int32.toNatClampNeg ((sm_up M 1 48 ((M 1 48) - (1 : Int32))) 1 48))) = (3 : Int32) then (sm_bi (jR_doneLast D (sm_up M 1 48 ((M 1 48) - (1 : Int32)))) (fun x10 E10 M10 => sm_dq E10 D (sm_ck (M10 1 51) 1200 (sm_bi (jR_emit (5 : Int32) (4 : Int32) (1 : Int32) (1 : Int32) D M10) (fun x11 E11 M11 => sm_dq E11 D (sm_bi (jR_emit (4 : Int32) (2 : Int32) (4 : Int32) (2 : Int32) D M11) (fun x12 E12 M12 => sm_dq E12 D (sm_bi (jR_pop D M12) (fun x13 E13 M13 => sm_dq E13 D (sm_bi (jR_find (1 : Int32) (M10 41 (Int32.toNatClampNeg (M10 1 51))) x10 (-1 : Int32) D M13) (fun x14 E14 M14 => sm_dq E14 D (sm_bi (jR_finish x14 D M14) (fun x15 E15 M15 => sm_dq E15 D (jR_doNext_323 D M15)))))))))))))) else (if ((sm_up M 1 48 ((M 1 48) - (1 : Int32))) 36 (Int32.toNatClampNeg ((sm_up M 1 48 ((M 1 48) - (1 : Int32))) 1 48))) = (4 : Int32) then (sm_bi (jR_doneLast D (sm_up M 1 48 ((M 1 48) - (1 : Int32)))) (fun x8 E8 M8 => sm_dq E8 D (sm_bi (jR_emit (5 : Int32) (2 : Int32) (2 : Int32) ((sm_up M 1 48 ((M 1 48) - (1 : Int32))) 37 (Int32.toNatClampNeg ((sm_up M 1 48 ((M 1 48) - (1 : Int32))) 1 48))) D M8) (fun x9 E9 M9 => sm_dq E9 D (if ((sm_up M 1 48 ((M 1 48) - (1 : Int32))) 37 (Int32.toNatClampNeg ((sm_up M 1 48 ((M 1 48) - (1 : Int32))) 1 48))) = (0 : Int32) then (sm_ck x8 3000 (jR_doNext_215 (M9 3 (Int32.toNatClampNeg x8)) D M9)) else (sm_ck x8 3000 (jR_doNext_215 (M9 4 (Int32.toNatClampNeg x8)) D M9))))))) else (if ((sm_up M 1 48 ((M 1 48) - (1 : Int32))) 36 (Int32.toNatClampNeg ((sm_up M 1 48 ((M 1 48) - (1 : Int32))) 1 48))) = (5 : Int32) then (sm_bi (jR_choose ((sm_up M 1 48 ((M 1 48) - (1 : Int32))) 37 (Int32.toNatClampNeg ((sm_up M 1 48 ((M 1 48) - (1 : Int32))) 1 48))) D (sm_up M 1 48 ((M 1 48) - (1 : Int32)))) (fun x7 E7 M7 => sm_dq E7 D (jR_doNext_323 D M7))) else (if ((sm_up M 1 48 ((M 1 48) - (1 : Int32))) 36 (Int32.toNatClampNeg ((sm_up M 1 48 ((M 1 48) - (1 : Int32))) 1 48))) = (6 : Int32) then (sm_bi (jR_doneLast D (sm_up M 1 48 ((M 1 48) - (1 : Int32)))) (fun x4 E4 M4 => sm_dq E4 D (sm_ck ((sm_up M 1 48 ((M 1 48) - (1 : Int32))) 1 48) 400 (sm_bi (jR_emit (9 : Int32) (M4 38 (Int32.toNatClampNeg ((sm_up M 1 48 ((M 1 48) - (1 : Int32))) 1 48))) (0 : Int32) (0 : Int32) D M4) (fun x5 E5 M5 => sm_dq E5 D (if (M5 1 47) = (0 : Int32) then (sm_ck (M5 1 51) 1200 (sm_bi (jR_beginBlock ((sm_up M 1 48 ((M 1 48) - (1 : Int32))) 37 (Int32.toNatClampNeg ((sm_up M 1 48 ((M 1 48) - (1 : Int32))) 1 48))) (M5 42 (Int32.toNatClampNeg (M5 1 51))) (-1 : Int32) (-1 : Int32) D M5) (fun x6 E6 M6 => sm_dq E6 D (jR_doNext_323 D M6)))) else (jR_doNext_323 D M5))))))) else (if ((sm_up M 1 48 ((M 1 48) - (1 : Int32))) 36 (Int32.toNatClampNeg ((sm_up M 1 48 ((M 1 48) - (1 : Int32))) 1 48))) = (7 : Int32) then (sm_bi (jR_emit (9 : Int32) ((sm_up M 1 48 ((M 1 48) - (1 : Int32))) 37 (Int32.toNatClampNeg ((sm_up M 1 48 ((M 1 48) - (1 : Int32))) 1 48))) (0 : Int32) (0 : Int32) D (sm_up M 1 48 ((M 1 48) - (1 : Int32)))) (fun x2 E2 M2 => sm_dq E2 D (if (M2 1 47) = (0 : Int32) then (sm_ck (M2 1 51) 1200 (sm_ck ((M2 1 49) - (1 : Int32)) 400 (sm_bi (jR_beginBlock ((sm_up M 1 48 ((M 1 48) - (1 : Int32))) 37 (Int32.toNatClampNeg ((sm_up M 1 48 ((M 1 48) - (1 : Int32))) 1 48))) (M2 42 (Int32.toNatClampNeg (M2 1 51))) (M2 39 (Int32.toNatClampNeg ((M2 1 49) - (1 : Int32)))) (-1 : Int32) D M2) (fun x3 E3 M3 => sm_dq E3 D (jR_doNext_323 D M3))))) else (jR_doNext_323 D M2)))) else (sm_bi (jR_call D (sm_up M 1 48 ((M 1 48) - (1 : Int32)))) (fun x1 E1 M1 => sm_dq E1 D (jR_doNext_323 D M1)))))))))))))
noncomputable def jR_writeAll_33 (D : sm_D) (M : sm_M) : Option sm_S :=
  (some ((0 : Int32), D, M))
noncomputable def jR_writeAll_12_c (D : sm_D) (M : sm_M) : Option ((sm_M) ⊕ sm_S) :=
  (if (0 : Int32) < (M 1 48) then (if (M 1 47) = (0 : Int32) then (sm_bi (jR_doNext D M) (fun x1 E1 M1 => sm_dq E1 D (sm_dq D D (some (.inl (M1)))))) else (sm_inr (jR_writeAll_33 D M))) else (sm_inr (jR_writeAll_33 D M)))
noncomputable def jR_writeAll_12_b (D : sm_D) (s : sm_M) : Option ((sm_M) ⊕ sm_S) := jR_writeAll_12_c D s
noncomputable def jR_writeAll_12 (D : sm_D) (M : sm_M) : Option sm_S := sm_lp (jR_writeAll_12_b D) (M)
noncomputable def jR_writeAll (l1 : Int32) (D : sm_D) (M : sm_M) : Option sm_S :=
  (sm_bi (jR_doLater (0 : Int32) l1 (0 : Int32) D (sm_up M 1 48 (0 : Int32))) (fun x1 E1 M1 => sm_dq E1 D (jR_writeAll_12 D M1)))
noncomputable def jR_writeBody (l1 : Int32) (D : sm_D) (M : sm_M) : Option sm_S :=
  (sm_ck l1 64 (sm_ck (M 44 (Int32.toNatClampNeg l1)) 40 (sm_ck (M 13 (Int32.toNatClampNeg (M 44 (Int32.toNatClampNeg l1)))) 30 (sm_ck (M 7 (Int32.toNatClampNeg (M 13 (Int32.toNatClampNeg (M 44 (Int32.toNatClampNeg l1)))))) 3000 (sm_bi (jR_find (3 : Int32) (M 4 (Int32.toNatClampNeg (M 7 (Int32.toNatClampNeg (M 13 (Int32.toNatClampNeg (M 44 (Int32.toNatClampNeg l1)))))))) (-1 : Int32) (-1 : Int32) D M) (fun x1 E1 M1 => sm_dq E1 D (sm_ck l1 64 (sm_ck l1 64 (sm_ck ((sm_up M1 1 51 (M1 45 (Int32.toNatClampNeg l1))) 1 51) 1200 (sm_ck (M 7 (Int32.toNatClampNeg (M 13 (Int32.toNatClampNeg (M 44 (Int32.toNatClampNeg l1)))))) 3000 (sm_bi (jR_beginBlock ((sm_up M1 1 51 (M1 45 (Int32.toNatClampNeg l1))) 46 (Int32.toNatClampNeg l1)) ((sm_up M1 1 51 (M1 45 (Int32.toNatClampNeg l1))) 42 (Int32.toNatClampNeg ((sm_up M1 1 51 (M1 45 (Int32.toNatClampNeg l1))) 1 51))) ((sm_up M1 1 51 (M1 45 (Int32.toNatClampNeg l1))) 3 (Int32.toNatClampNeg (M 7 (Int32.toNatClampNeg (M 13 (Int32.toNatClampNeg (M 44 (Int32.toNatClampNeg l1)))))))) x1 D (sm_up M1 1 51 (M1 45 (Int32.toNatClampNeg l1)))) (fun x2 E2 M2 => sm_dq E2 D (sm_ck l1 64 (sm_bi (jR_emit (6 : Int32) (4 : Int32) (M2 46 (Int32.toNatClampNeg l1)) (0 : Int32) D M2) (fun x3 E3 M3 => sm_dq E3 D (sm_bi (jR_emit (4 : Int32) (4 : Int32) (4 : Int32) (1 : Int32) D M3) (fun x4 E4 M4 => sm_dq E4 D (sm_bi (jR_emit (7 : Int32) (4 : Int32) (4 : Int32) (M 7 (Int32.toNatClampNeg (M 13 (Int32.toNatClampNeg (M 44 (Int32.toNatClampNeg l1)))))) D M4) (fun x5 E5 M5 => sm_dq E5 D (sm_bi (jR_emit (4 : Int32) (1 : Int32) (1 : Int32) (4 : Int32) D M5) (fun x6 E6 M6 => sm_dq E6 D (sm_bi (jR_grow (M 7 (Int32.toNatClampNeg (M 13 (Int32.toNatClampNeg (M 44 (Int32.toNatClampNeg l1)))))) (1 : Int32) D M6) (fun x7 E7 M7 => sm_dq E7 D (sm_bi (jR_emit (4 : Int32) (1 : Int32) (1 : Int32) (3 : Int32) D M7) (fun x8 E8 M8 => sm_dq E8 D (sm_bi (jR_grow x1 (0 : Int32) D M8) (fun x9 E9 M9 => sm_dq E9 D (sm_ck (M 7 (Int32.toNatClampNeg (M 13 (Int32.toNatClampNeg (M 44 (Int32.toNatClampNeg l1)))))) 3000 (sm_bi (jR_finish (M9 3 (Int32.toNatClampNeg (M 7 (Int32.toNatClampNeg (M 13 (Int32.toNatClampNeg (M 44 (Int32.toNatClampNeg l1)))))))) D M9) (fun x10 E10 M10 => sm_dq E10 D (sm_bi (jR_push (1 : Int32) D M10) (fun x11 E11 M11 => sm_dq E11 D (sm_ck (M 44 (Int32.toNatClampNeg l1)) 40 (sm_bi (jR_writeAll (M11 14 (Int32.toNatClampNeg (M 44 (Int32.toNatClampNeg l1)))) D M11) (fun x12 E12 M12 => sm_dq E12 D (sm_bi (jR_doneLast D M12) (fun x13 E13 M13 => sm_dq E13 D (sm_bi (jR_emit (5 : Int32) (4 : Int32) (1 : Int32) (0 : Int32) D M13) (fun x14 E14 M14 => sm_dq E14 D (sm_bi (jR_emit (5 : Int32) (4 : Int32) (4 : Int32) (1 : Int32) D M14) (fun x15 E15 M15 => sm_dq E15 D (sm_bi (jR_emit (8 : Int32) (5 : Int32) (1 : Int32) (4 : Int32) D M15) (fun x16 E16 M16 => sm_dq E16 D (sm_bi (jR_emit (11 : Int32) (5 : Int32) (0 : Int32) (0 : Int32) D M16) (fun x17 E17 M17 => sm_dq E17 D (some ((0 : Int32), D, M17)))))))))))))))))))))))))))))))))))))))))))))))
noncomputable def jR_writeProgram_121 (s0 : Int32) (D : sm_D) (M : sm_M) : Option sm_S :=
  (sm_bo s0 (some (s0, D, M)))
noncomputable def jR_writeProgram_109 (D : sm_D) (M : sm_M) : Option sm_S :=
  (if (M 1 47) = (0 : Int32) then (jR_writeProgram_121 (1 : Int32) D M) else (jR_writeProgram_121 (0 : Int32) D M))
noncomputable def jR_writeProgram_83_c (l2 : Int32) (D : sm_D) (M : sm_M) : Option ((Int32 × sm_M) ⊕ sm_S) :=
  (if l2 < (M 1 53) then (if (M 1 47) = (0 : Int32) then (sm_bi (jR_writeBody l2 D M) (fun x1 E1 M1 => sm_dq E1 D (sm_dq D D (some (.inl ((l2 + (1 : Int32)), M1)))))) else (sm_inr (jR_writeProgram_109 D M))) else (sm_inr (jR_writeProgram_109 D M)))
noncomputable def jR_writeProgram_83_b (D : sm_D) (s : Int32 × sm_M) : Option ((Int32 × sm_M) ⊕ sm_S) := jR_writeProgram_83_c s.1 D s.2
noncomputable def jR_writeProgram_83 (l2 : Int32) (D : sm_D) (M : sm_M) : Option sm_S := sm_lp (jR_writeProgram_83_b D) (l2, M)
noncomputable def jR_writeProgram (l1 : Int32) (D : sm_D) (M : sm_M) : Option sm_S :=
  (sm_bo (0 : Int32) (sm_ck (0 : Int32) 1200 (sm_ck (0 : Int32) 1200 (sm_bo (0 : Int32) (sm_ck (0 : Int32) 1200 (sm_bi (jR_name D (sm_up (sm_up (sm_up (sm_up (sm_up (sm_up (sm_up (sm_up (sm_up (sm_up M 1 47 (0 : Int32)) 1 39 (0 : Int32)) 1 52 (0 : Int32)) 1 53 (0 : Int32)) 1 49 (0 : Int32)) 1 50 (1 : Int32)) 1 51 (0 : Int32)) 42 (Int32.toNatClampNeg (0 : Int32)) (0 : Int32)) 43 (Int32.toNatClampNeg (0 : Int32)) (0 : Int32)) 40 (Int32.toNatClampNeg (0 : Int32)) (0 : Int32))) (fun x1 E1 M1 => sm_dq E1 D (sm_bi (jR_beginBlock x1 (0 : Int32) (-1 : Int32) (-1 : Int32) D M1) (fun x2 E2 M2 => sm_dq E2 D (sm_bi (jR_writeAll l1 D M2) (fun x3 E3 M3 => sm_dq E3 D (sm_bi (jR_emit (12 : Int32) (0 : Int32) (0 : Int32) (0 : Int32) D M3) (fun x4 E4 M4 => sm_dq E4 D (jR_writeProgram_83 (0 : Int32) D M4))))))))))))))
noncomputable def jR_copy_2_c (p q L : Nat) (l2 l3 : Int32) (D : sm_D) (M : sm_M) : Option ((Int32 × Int32 × sm_M) ⊕ sm_S) :=
  (if l3 < l2 then (sm_ck l3 L (sm_ck l3 L (sm_eqp p p (sm_eqp q q (sm_dq D D (some (.inl (l2, (l3 + (1 : Int32)), (sm_up M q (Int32.toNatClampNeg l3) (M p (Int32.toNatClampNeg l3))))))))))) else (some (.inr ((0 : Int32), D, M))))
noncomputable def jR_copy_2_b (p q L : Nat) (D : sm_D) (s : Int32 × Int32 × sm_M) : Option ((Int32 × Int32 × sm_M) ⊕ sm_S) := jR_copy_2_c p q L s.1 s.2.1 D s.2.2
noncomputable def jR_copy_2 (p q L : Nat) (l2 l3 : Int32) (D : sm_D) (M : sm_M) : Option sm_S := sm_lp (jR_copy_2_b p q L D) (l2, l3, M)
noncomputable def jR_copy (p q L : Nat) (l2 : Int32) (D : sm_D) (M : sm_M) : Option sm_S :=
  (sm_eqp p p (sm_eqp q q (jR_copy_2 p q L l2 (0 : Int32) D M)))
noncomputable def jR_keep0 (D : sm_D) (M : sm_M) : Option sm_S :=
  (sm_bi (sm_ga [29, 54, 301] gY (jR_copy 29 54 301 (301 : Int32) D M)) (fun x1 E1 M1 => sm_dq E1 D (sm_bi (sm_ga [30, 55, 301] gY (jR_copy 30 55 301 (301 : Int32) D M1)) (fun x2 E2 M2 => sm_dq E2 D (sm_bi (sm_ga [31, 56, 301] gY (jR_copy 31 56 301 (301 : Int32) D M2)) (fun x3 E3 M3 => sm_dq E3 D (sm_bi (sm_ga [32, 57, 301] gY (jR_copy 32 57 301 (301 : Int32) D M3)) (fun x4 E4 M4 => sm_dq E4 D (sm_bi (sm_ga [33, 58, 41] gY (jR_copy 33 58 41 (41 : Int32) D M4)) (fun x5 E5 M5 => sm_dq E5 D (sm_bi (sm_ga [34, 59, 41] gY (jR_copy 34 59 41 (41 : Int32) D M5)) (fun x6 E6 M6 => sm_dq E6 D (sm_bi (sm_ga [35, 60, 123] gY (jR_copy 35 60 123 (123 : Int32) D M6)) (fun x7 E7 M7 => sm_dq E7 D (some ((0 : Int32), D, M7))))))))))))))))
noncomputable def jR_keep1 (D : sm_D) (M : sm_M) : Option sm_S :=
  (sm_bi (sm_ga [54, 29, 301] gY (jR_copy 54 29 301 (301 : Int32) D M)) (fun x1 E1 M1 => sm_dq E1 D (sm_bi (sm_ga [55, 30, 301] gY (jR_copy 55 30 301 (301 : Int32) D M1)) (fun x2 E2 M2 => sm_dq E2 D (sm_bi (sm_ga [56, 31, 301] gY (jR_copy 56 31 301 (301 : Int32) D M2)) (fun x3 E3 M3 => sm_dq E3 D (sm_bi (sm_ga [57, 32, 301] gY (jR_copy 57 32 301 (301 : Int32) D M3)) (fun x4 E4 M4 => sm_dq E4 D (sm_bi (sm_ga [58, 33, 41] gY (jR_copy 58 33 41 (41 : Int32) D M4)) (fun x5 E5 M5 => sm_dq E5 D (sm_bi (sm_ga [59, 34, 41] gY (jR_copy 59 34 41 (41 : Int32) D M5)) (fun x6 E6 M6 => sm_dq E6 D (sm_bi (sm_ga [60, 35, 123] gY (jR_copy 60 35 123 (123 : Int32) D M6)) (fun x7 E7 M7 => sm_dq E7 D (some ((0 : Int32), D, M7))))))))))))))))
noncomputable def jR_keep (l1 : Int32) (D : sm_D) (M : sm_M) : Option sm_S := if l1 = 0 then jR_keep0 D M else if l1 = 1 then jR_keep1 D M else none
noncomputable def jR_restart_33 (l1 s1 s2 : Int32) (D : sm_D) (M : sm_M) : Option ((Int32 × sm_M) ⊕ sm_S) :=
  (sm_ck s1 6 (sm_ck l1 6 (sm_dq D D (some (.inl ((l1 + (1 : Int32)), (sm_up (sm_up M 47 (Int32.toNatClampNeg s1) s2) 48 (Int32.toNatClampNeg l1) (0 : Int32))))))))
noncomputable def jR_restart_12_c (l1 : Int32) (D : sm_D) (M : sm_M) : Option ((Int32 × sm_M) ⊕ sm_S) :=
  (if l1 < (6 : Int32) then (if l1 = (1 : Int32) then (jR_restart_33 l1 l1 (1 : Int32) D M) else (jR_restart_33 l1 l1 (0 : Int32) D M)) else (some (.inr ((0 : Int32), D, (sm_up (sm_up M 1 67 (0 : Int32)) 1 68 (-1 : Int32))))))
noncomputable def jR_restart_12_b (D : sm_D) (s : Int32 × sm_M) : Option ((Int32 × sm_M) ⊕ sm_S) := jR_restart_12_c s.1 D s.2
noncomputable def jR_restart_12 (l1 : Int32) (D : sm_D) (M : sm_M) : Option sm_S := sm_lp (jR_restart_12_b D) (l1, M)
noncomputable def jR_restart (D : sm_D) (M : sm_M) : Option sm_S :=
  (jR_restart_12 (1 : Int32) D (sm_up (sm_up M 1 66 (0 : Int32)) 1 69 (0 : Int32)))
noncomputable def jR_compile_85_c (l1 l4 : Int32) (D : sm_D) (M : sm_M) : Option ((Int32 × Int32 × sm_M) ⊕ sm_S) :=
  (if l4 < (M 1 7) then (sm_ck l4 30 (sm_ck l4 30 (sm_bi (jR_numberOf (M 9 (Int32.toNatClampNeg l4)) D M) (fun x3 E3 M3 => sm_dq E3 D (sm_ck l4 30 (sm_bi (jR_numberOf (M3 10 (Int32.toNatClampNeg l4)) D M3) (fun x4 E4 M4 => sm_dq E4 D (sm_ck l4 30 (sm_bi (jR_numberOf (M4 11 (Int32.toNatClampNeg l4)) D M4) (fun x5 E5 M5 => sm_dq E5 D (sm_bi (jR_find (M 8 (Int32.toNatClampNeg l4)) x3 x4 x5 D M5) (fun x6 E6 M6 => sm_dq E6 D (sm_ck l4 30 (sm_dq D D (some (.inl (l1, (l4 + (1 : Int32)), (sm_up M6 7 (Int32.toNatClampNeg l4) x6)))))))))))))))))) else (sm_bi (jR_writeProgram l1 D M) (fun x1 E1 M1 => sm_dq E1 D (sm_bo (1 : Int32) (sm_bi (jR_restart D (sm_up (sm_up M1 1 38 (M1 1 52)) 1 37 (1 : Int32))) (fun x2 E2 M2 => sm_dq E2 D (some (.inr ((M2 1 39), D, M2)))))))))
noncomputable def jR_compile_85_b (D : sm_D) (s : Int32 × Int32 × sm_M) : Option ((Int32 × Int32 × sm_M) ⊕ sm_S) := jR_compile_85_c s.1 s.2.1 D s.2.2
noncomputable def jR_compile_85 (l1 l4 : Int32) (D : sm_D) (M : sm_M) : Option sm_S := sm_lp (jR_compile_85_b D) (l1, l4, M)
noncomputable def jR_compile (l1 : Int32) (D : sm_D) (M : sm_M) : Option sm_S :=
  (sm_bi (jR_isExpression l1 D (sm_up M 1 0 (0 : Int32))) (fun x1 E1 M1 => sm_dq E1 D (if x1 = (0 : Int32) then (sm_bi (jR_refuse (1 : Int32) D M1) (fun x8 E8 M8 => sm_dq E8 D (some (x8, D, M8)))) else (sm_bi (jR_isProgram l1 D M1) (fun x2 E2 M2 => sm_dq E2 D (if x2 = (0 : Int32) then (sm_bi (jR_refuse (2 : Int32) D M2) (fun x7 E7 M7 => sm_dq E7 D (some (x7, D, M7)))) else (sm_bi (jR_keep (0 : Int32) D M2) (fun x3 E3 M3 => sm_dq E3 D (sm_bi (jR_writeProgram l1 D M3) (fun x4 E4 M4 => sm_dq E4 D (if x4 = (0 : Int32) then (sm_bi (jR_keep (1 : Int32) D (sm_up (sm_up M4 1 1 (M2 1 1)) 1 39 (M2 1 39))) (fun x5 E5 M5 => sm_dq E5 D (sm_bi (jR_refuse (3 : Int32) D M5) (fun x6 E6 M6 => sm_dq E6 D (some (x6, D, M6)))))) else (jR_compile_85 l1 (0 : Int32) D (sm_up M4 1 1 (0 : Int32))))))))))))))
noncomputable def jR_clear (D : sm_D) (M : sm_M) : Option sm_S :=
  (sm_bo (0 : Int32) (sm_bi (jR_restart D (sm_up (sm_up (sm_up (sm_up M 1 0 (0 : Int32)) 1 38 (0 : Int32)) 1 39 (0 : Int32)) 1 37 (0 : Int32))) (fun x1 E1 M1 => sm_dq E1 D (some ((0 : Int32), D, M1)))))
noncomputable def jR_isAsked_18 (s0 : Int32) (D : sm_D) (M : sm_M) : Option sm_S :=
  (sm_bo s0 (some (s0, D, M)))
noncomputable def jR_isAsked_13 (D : sm_D) (M : sm_M) : Option sm_S :=
  (jR_isAsked_18 (1 : Int32) D M)
noncomputable def jR_isAsked (l1 : Int32) (D : sm_D) (M : sm_M) : Option sm_S :=
  (if l1 = (-1 : Int32) then (jR_isAsked_13 D M) else (sm_bi (jR_isMade l1 D M) (fun x1 E1 M1 => sm_dq E1 D (if x1 = (0 : Int32) then (jR_isAsked_18 (0 : Int32) D M1) else (jR_isAsked_13 D M1)))))
noncomputable def jR_block_45 (D : sm_D) (M : sm_M) : Option sm_S :=
  (some ((-1 : Int32), D, M))
noncomputable def jR_block (l1 l2 l3 : Int32) (D : sm_D) (M : sm_M) : Option sm_S :=
  (sm_bi (jR_isAsked l1 D (sm_up M 1 0 (0 : Int32))) (fun x1 E1 M1 => sm_dq E1 D (if x1 = (0 : Int32) then (jR_block_45 D M1) else (sm_bi (jR_isAsked l2 D M1) (fun x2 E2 M2 => sm_dq E2 D (if x2 = (0 : Int32) then (jR_block_45 D M2) else (sm_bi (jR_isAsked l3 D M2) (fun x3 E3 M3 => sm_dq E3 D (if x3 = (0 : Int32) then (jR_block_45 D M3) else (if (M3 1 37) = (0 : Int32) then (if (M3 1 38) = (40 : Int32) then (jR_block_45 D M3) else (sm_bi (jR_numberOf l1 D M3) (fun x4 E4 M4 => sm_dq E4 D (sm_bi (jR_numberOf l2 D M4) (fun x5 E5 M5 => sm_dq E5 D (sm_bi (jR_numberOf l3 D M5) (fun x6 E6 M6 => sm_dq E6 D (sm_bi (jR_beginBlock (M3 1 38) x4 x5 x6 D M6) (fun x7 E7 M7 => sm_dq E7 D (sm_bi (jR_restart D (sm_up M7 1 38 ((M7 1 38) + (1 : Int32)))) (fun x8 E8 M8 => sm_dq E8 D (some (((M8 1 38) - (1 : Int32)), D, M8))))))))))))) else (jR_block_45 D M3)))))))))))
noncomputable def jR_isRegister_15 (s0 : Int32) (D : sm_D) (M : sm_M) : Option sm_S :=
  (sm_bo s0 (some (s0, D, M)))
noncomputable def jR_isRegister_14 (D : sm_D) (M : sm_M) : Option sm_S :=
  (jR_isRegister_15 (0 : Int32) D M)
noncomputable def jR_isRegister (l0 : Int32) (D : sm_D) (M : sm_M) : Option sm_S :=
  (if l0 < (1 : Int32) then (jR_isRegister_14 D M) else (if (5 : Int32) < l0 then (jR_isRegister_14 D M) else (jR_isRegister_15 (1 : Int32) D M)))
noncomputable def jR_isBlock_15 (s0 : Int32) (D : sm_D) (M : sm_M) : Option sm_S :=
  (sm_bo s0 (some (s0, D, M)))
noncomputable def jR_isBlock_14 (D : sm_D) (M : sm_M) : Option sm_S :=
  (jR_isBlock_15 (0 : Int32) D M)
noncomputable def jR_isBlock (l0 : Int32) (D : sm_D) (M : sm_M) : Option sm_S :=
  (if l0 < (0 : Int32) then (jR_isBlock_14 D M) else (if l0 < (40 : Int32) then (jR_isBlock_15 (1 : Int32) D M) else (jR_isBlock_14 D M)))
noncomputable def jR_fits_64 (l2 : Int32) (D : sm_D) (M : sm_M) : Option sm_S :=
  (sm_bi (jR_isRegister l2 D M) (fun x1 E1 M1 => sm_dq E1 D (sm_bo x1 (some (x1, D, M1)))))
noncomputable def jR_fits_96 (s0 : Int32) (D : sm_D) (M : sm_M) : Option sm_S :=
  (sm_bo s0 (some (s0, D, M)))
noncomputable def jR_fits_95 (D : sm_D) (M : sm_M) : Option sm_S :=
  (jR_fits_96 (0 : Int32) D M)
noncomputable def jR_fits_69 (l2 l3 l4 : Int32) (D : sm_D) (M : sm_M) : Option sm_S :=
  (sm_bi (jR_isRegister l2 D M) (fun x1 E1 M1 => sm_dq E1 D (if x1 = (0 : Int32) then (jR_fits_95 D M1) else (sm_bi (jR_isRegister l3 D M1) (fun x2 E2 M2 => sm_dq E2 D (if x2 = (0 : Int32) then (jR_fits_95 D M2) else (sm_bi (jR_isRegister l4 D M2) (fun x3 E3 M3 => sm_dq E3 D (if x3 = (0 : Int32) then (jR_fits_95 D M3) else (jR_fits_96 (1 : Int32) D M3))))))))))
noncomputable def jR_fits_127 (s0 : Int32) (D : sm_D) (M : sm_M) : Option sm_S :=
  (sm_bo s0 (some (s0, D, M)))
noncomputable def jR_fits_122 (D : sm_D) (M : sm_M) : Option sm_S :=
  (jR_fits_127 (1 : Int32) D M)
noncomputable def jR_fits_126 (D : sm_D) (M : sm_M) : Option sm_S :=
  (jR_fits_127 (0 : Int32) D M)
noncomputable def jR_fits_147 (s0 : Int32) (D : sm_D) (M : sm_M) : Option sm_S :=
  (sm_bo s0 (some (s0, D, M)))
noncomputable def jR_fits_146 (D : sm_D) (M : sm_M) : Option sm_S :=
  (jR_fits_147 (0 : Int32) D M)
noncomputable def jR_fits_128 (l2 l3 : Int32) (D : sm_D) (M : sm_M) : Option sm_S :=
  (sm_bi (jR_isRegister l2 D M) (fun x1 E1 M1 => sm_dq E1 D (if x1 = (0 : Int32) then (jR_fits_146 D M1) else (sm_bi (jR_isBlock l3 D M1) (fun x2 E2 M2 => sm_dq E2 D (if x2 = (0 : Int32) then (jR_fits_146 D M2) else (jR_fits_147 (1 : Int32) D M2)))))))
noncomputable def jR_fits_208 (s0 : Int32) (D : sm_D) (M : sm_M) : Option sm_S :=
  (sm_bo s0 (some (s0, D, M)))
noncomputable def jR_fits_203 (D : sm_D) (M : sm_M) : Option sm_S :=
  (jR_fits_208 (1 : Int32) D M)
noncomputable def jR_fits_207 (D : sm_D) (M : sm_M) : Option sm_S :=
  (jR_fits_208 (0 : Int32) D M)
noncomputable def jR_fits (l1 l2 l3 l4 : Int32) (D : sm_D) (M : sm_M) : Option sm_S :=
  (if l1 = (0 : Int32) then (jR_fits_64 l2 D M) else (if l1 = (1 : Int32) then (jR_fits_69 l2 l3 l4 D M) else (if l1 = (2 : Int32) then (jR_fits_69 l2 l3 l4 D M) else (if l1 = (3 : Int32) then (jR_fits_69 l2 l3 l4 D M) else (if l1 = (4 : Int32) then (jR_fits_69 l2 l3 l4 D M) else (if l1 = (5 : Int32) then (sm_bi (jR_isRegister l2 D M) (fun x5 E5 M5 => sm_dq E5 D (if x5 = (0 : Int32) then (jR_fits_126 D M5) else (sm_bi (jR_isRegister l3 D M5) (fun x6 E6 M6 => sm_dq E6 D (if x6 = (0 : Int32) then (jR_fits_126 D M6) else (if l4 = (0 : Int32) then (jR_fits_122 D M6) else (if l4 = (1 : Int32) then (jR_fits_122 D M6) else (jR_fits_126 D M6))))))))) else (if l1 = (6 : Int32) then (jR_fits_128 l2 l3 D M) else (if l1 = (7 : Int32) then (sm_bi (jR_isRegister l2 D M) (fun x2 E2 M2 => sm_dq E2 D (if x2 = (0 : Int32) then (jR_fits_207 D M2) else (sm_bi (jR_isRegister l3 D M2) (fun x3 E3 M3 => sm_dq E3 D (if x3 = (0 : Int32) then (jR_fits_207 D M3) else (sm_bi (jR_isMade l4 D M3) (fun x4 E4 M4 => sm_dq E4 D (if x4 = (0 : Int32) then (jR_fits_207 D M4) else (sm_ck l4 30 (sm_ck (M4 7 (Int32.toNatClampNeg l4)) 3000 (if (M4 2 (Int32.toNatClampNeg (M4 7 (Int32.toNatClampNeg l4)))) = (2 : Int32) then (jR_fits_203 D M4) else (sm_ck l4 30 (sm_ck (M4 7 (Int32.toNatClampNeg l4)) 3000 (if (M4 2 (Int32.toNatClampNeg (M4 7 (Int32.toNatClampNeg l4)))) = (3 : Int32) then (jR_fits_203 D M4) else (jR_fits_207 D M4)))))))))))))))) else (if l1 = (8 : Int32) then (jR_fits_69 l2 l3 l4 D M) else (if l1 = (9 : Int32) then (sm_bi (jR_isBlock l2 D M) (fun x1 E1 M1 => sm_dq E1 D (sm_bo x1 (some (x1, D, M1))))) else (if l1 = (10 : Int32) then (jR_fits_128 l2 l3 D M) else (if l1 = (11 : Int32) then (jR_fits_64 l2 D M) else (sm_bo (1 : Int32) (some ((1 : Int32), D, M)))))))))))))))
noncomputable def jR_add_51 (D : sm_D) (M : sm_M) : Option sm_S :=
  (some ((-1 : Int32), D, M))
noncomputable def jR_add_187 (s1 s2 s3 s4 : Int32) (D : sm_D) (M : sm_M) : Option sm_S :=
  (sm_bi (jR_emit s1 s2 s3 s4 D M) (fun x1 E1 M1 => sm_dq E1 D (sm_bi (jR_restart D M1) (fun x2 E2 M2 => sm_dq E2 D (some ((M2 1 39), D, M2))))))
noncomputable def jR_add_165 (s1 s2 s3 : Int32) (D : sm_D) (M : sm_M) : Option sm_S :=
  (jR_add_187 s1 s2 s3 (0 : Int32) D M)
noncomputable def jR_add_150 (l1 l4 l5 l6 l7 s1 s2 s3 : Int32) (D : sm_D) (M : sm_M) : Option sm_S :=
  (if l5 = (0 : Int32) then (if l6 = (0 : Int32) then (if l7 = (0 : Int32) then (if l1 = (7 : Int32) then (sm_ck l4 30 (jR_add_187 s1 s2 s3 (M 7 (Int32.toNatClampNeg l4)) D M)) else (jR_add_187 s1 s2 s3 l4 D M)) else (jR_add_165 s1 s2 s3 D M)) else (jR_add_165 s1 s2 s3 D M)) else (jR_add_165 s1 s2 s3 D M))
noncomputable def jR_add_145 (l1 l4 l5 l6 l7 s1 s2 : Int32) (D : sm_D) (M : sm_M) : Option sm_S :=
  (jR_add_150 l1 l4 l5 l6 l7 s1 s2 (0 : Int32) D M)
noncomputable def jR_add_135 (l1 l3 l4 l5 l6 l7 s1 s2 : Int32) (D : sm_D) (M : sm_M) : Option sm_S :=
  (if l5 = (0 : Int32) then (if l6 = (0 : Int32) then (jR_add_150 l1 l4 l5 l6 l7 s1 s2 l3 D M) else (jR_add_145 l1 l4 l5 l6 l7 s1 s2 D M)) else (jR_add_145 l1 l4 l5 l6 l7 s1 s2 D M))
noncomputable def jR_add_121 (l1 l2 l3 l4 l5 l6 s0 : Int32) (D : sm_D) (M : sm_M) : Option sm_S :=
  (if l5 = (0 : Int32) then (jR_add_135 l1 l3 l4 l5 l6 s0 l1 l2 D M) else (jR_add_135 l1 l3 l4 l5 l6 s0 l1 (0 : Int32) D M))
noncomputable def jR_add_116 (l1 l2 l3 l4 l5 l6 : Int32) (D : sm_D) (M : sm_M) : Option sm_S :=
  (jR_add_121 l1 l2 l3 l4 l5 l6 (1 : Int32) D M)
noncomputable def jR_add_98 (l1 l2 l3 l4 l5 s0 : Int32) (D : sm_D) (M : sm_M) : Option sm_S :=
  (if l1 = (0 : Int32) then (jR_add_116 l1 l2 l3 l4 l5 s0 D M) else (if l1 = (6 : Int32) then (jR_add_116 l1 l2 l3 l4 l5 s0 D M) else (if l1 = (10 : Int32) then (jR_add_116 l1 l2 l3 l4 l5 s0 D M) else (jR_add_121 l1 l2 l3 l4 l5 s0 (0 : Int32) D M))))
noncomputable def jR_add_93 (l1 l2 l3 l4 l5 : Int32) (D : sm_D) (M : sm_M) : Option sm_S :=
  (jR_add_98 l1 l2 l3 l4 l5 (1 : Int32) D M)
noncomputable def jR_add_79 (l1 l2 l3 l4 s0 : Int32) (D : sm_D) (M : sm_M) : Option sm_S :=
  (if l1 = (9 : Int32) then (jR_add_93 l1 l2 l3 l4 s0 D M) else (if l1 = (11 : Int32) then (jR_add_93 l1 l2 l3 l4 s0 D M) else (jR_add_98 l1 l2 l3 l4 s0 (0 : Int32) D M)))
noncomputable def jR_add (l1 l2 l3 l4 : Int32) (D : sm_D) (M : sm_M) : Option sm_S :=
  (if ((sm_up M 1 0 (0 : Int32)) 1 38) = (0 : Int32) then (jR_add_51 D (sm_up M 1 0 (0 : Int32))) else (if ((sm_up M 1 0 (0 : Int32)) 1 37) = (0 : Int32) then (if l1 < (0 : Int32) then (jR_add_51 D (sm_up M 1 0 (0 : Int32))) else (if (12 : Int32) < l1 then (jR_add_51 D (sm_up M 1 0 (0 : Int32))) else (sm_bi (jR_fits l1 l2 l3 l4 D (sm_up M 1 0 (0 : Int32))) (fun x1 E1 M1 => sm_dq E1 D (if x1 = (0 : Int32) then (jR_add_51 D M1) else (if (M1 1 39) = (300 : Int32) then (jR_add_51 D M1) else (sm_bo (0 : Int32) (if l1 = (12 : Int32) then (jR_add_79 l1 l2 l3 l4 (1 : Int32) D (sm_up (sm_up M1 1 47 (0 : Int32)) 1 54 (((sm_up M1 1 47 (0 : Int32)) 1 38) - (1 : Int32)))) else (jR_add_79 l1 l2 l3 l4 (0 : Int32) D (sm_up (sm_up M1 1 47 (0 : Int32)) 1 54 (((sm_up M1 1 47 (0 : Int32)) 1 38) - (1 : Int32)))))))))))) else (jR_add_51 D (sm_up M 1 0 (0 : Int32)))))
noncomputable def jR_isCode_50 (s0 : Int32) (D : sm_D) (M : sm_M) : Option sm_S :=
  (sm_bo s0 (some (s0, D, M)))
noncomputable def jR_isCode_49 (D : sm_D) (M : sm_M) : Option sm_S :=
  (jR_isCode_50 (0 : Int32) D M)
noncomputable def jR_isCode (l1 l2 l3 l4 : Int32) (D : sm_D) (M : sm_M) : Option sm_S :=
  (if l1 < (0 : Int32) then (jR_isCode_49 D M) else (sm_ck l1 3000 (if (M 2 (Int32.toNatClampNeg l1)) = (4 : Int32) then (sm_ck l1 3000 (if (M 3 (Int32.toNatClampNeg l1)) = l2 then (sm_ck l1 3000 (if (M 4 (Int32.toNatClampNeg l1)) = l3 then (sm_ck l1 3000 (if (M 5 (Int32.toNatClampNeg l1)) = l4 then (jR_isCode_50 (1 : Int32) D M) else (jR_isCode_49 D M))) else (jR_isCode_49 D M))) else (jR_isCode_49 D M))) else (jR_isCode_49 D M))))
noncomputable def jR_has_47 (s0 : Int32) (D : sm_D) (M : sm_M) : Option sm_S :=
  (sm_bo s0 (some (s0, D, M)))
noncomputable def jR_has_42 (D : sm_D) (M : sm_M) : Option sm_S :=
  (jR_has_47 (1 : Int32) D M)
noncomputable def jR_has_46 (D : sm_D) (M : sm_M) : Option sm_S :=
  (jR_has_47 (0 : Int32) D M)
noncomputable def jR_has_28 (l3 : Int32) (D : sm_D) (M : sm_M) : Option sm_S :=
  (if l3 < (0 : Int32) then (jR_has_42 D M) else (sm_ck (3 : Int32) 6 (if (M 53 (Int32.toNatClampNeg (3 : Int32))) = l3 then (jR_has_42 D M) else (jR_has_46 D M))))
noncomputable def jR_has_14 (l2 l3 : Int32) (D : sm_D) (M : sm_M) : Option sm_S :=
  (if l2 < (0 : Int32) then (jR_has_28 l3 D M) else (sm_ck (2 : Int32) 6 (if (M 53 (Int32.toNatClampNeg (2 : Int32))) = l2 then (jR_has_28 l3 D M) else (jR_has_46 D M))))
noncomputable def jR_has (l1 l2 l3 : Int32) (D : sm_D) (M : sm_M) : Option sm_S :=
  (if l1 < (0 : Int32) then (jR_has_14 l2 l3 D M) else (sm_ck (1 : Int32) 6 (if (M 53 (Int32.toNatClampNeg (1 : Int32))) = l1 then (jR_has_14 l2 l3 D M) else (jR_has_46 D M))))
noncomputable def jR_hasBlock_48 (s0 : Int32) (D : sm_D) (M : sm_M) : Option sm_S :=
  (sm_bo s0 (some (s0, D, M)))
noncomputable def jR_hasBlock_47 (D : sm_D) (M : sm_M) : Option sm_S :=
  (jR_hasBlock_48 (0 : Int32) D M)
noncomputable def jR_hasBlock (l1 : Int32) (D : sm_D) (M : sm_M) : Option sm_S :=
  (if l1 < (M 1 38) then (sm_ck ((3 : Int32) * l1) 123 (sm_ck (((3 : Int32) * l1) + (1 : Int32)) 123 (sm_ck (((3 : Int32) * l1) + (2 : Int32)) 123 (sm_bi (jR_has (M 35 (Int32.toNatClampNeg ((3 : Int32) * l1))) (M 35 (Int32.toNatClampNeg (((3 : Int32) * l1) + (1 : Int32)))) (M 35 (Int32.toNatClampNeg (((3 : Int32) * l1) + (2 : Int32)))) D M) (fun x1 E1 M1 => sm_dq E1 D (if x1 = (0 : Int32) then (jR_hasBlock_47 D M1) else (jR_hasBlock_48 (1 : Int32) D M1))))))) else (jR_hasBlock_47 D M))
noncomputable def jR_wraps_14 (D : sm_D) (M : sm_M) : Option sm_S :=
  (sm_bo (0 : Int32) (some ((0 : Int32), D, M)))
noncomputable def jR_wraps_87 (s0 : Int32) (D : sm_D) (M : sm_M) : Option sm_S :=
  (sm_bo s0 (some (s0, D, M)))
noncomputable def jR_wraps (l1 l2 : Int32) (D : sm_D) (M : sm_M) : Option sm_S :=
  (if l1 < (0 : Int32) then (jR_wraps_14 D M) else (sm_ck l1 3000 (if (M 2 (Int32.toNatClampNeg l1)) = (1 : Int32) then (sm_ck l2 3000 (if (M 2 (Int32.toNatClampNeg l2)) = (2 : Int32) then (sm_ck l1 3000 (sm_ck l1 3000 (sm_ck l2 3000 (sm_ck l2 3000 (sm_bi (jR_find (3 : Int32) (M 4 (Int32.toNatClampNeg l2)) (-1 : Int32) (-1 : Int32) D M) (fun x2 E2 M2 => sm_dq E2 D (sm_bi (jR_isCode (M 3 (Int32.toNatClampNeg l1)) (M 4 (Int32.toNatClampNeg l1)) (M 3 (Int32.toNatClampNeg l2)) x2 D M2) (fun x3 E3 M3 => sm_dq E3 D (jR_wraps_87 x3 D M3))))))))) else (sm_ck l1 3000 (sm_ck l1 3000 (sm_ck l2 3000 (sm_bi (jR_isCode (M 3 (Int32.toNatClampNeg l1)) (M 4 (Int32.toNatClampNeg l1)) (M 3 (Int32.toNatClampNeg l2)) (-1 : Int32) D M) (fun x1 E1 M1 => sm_dq E1 D (jR_wraps_87 x1 D M1)))))))) else (jR_wraps_14 D M))))
noncomputable def jR_opens_36 (D : sm_D) (M : sm_M) : Option sm_S :=
  (sm_bo (0 : Int32) (some ((0 : Int32), D, M)))
noncomputable def jR_opens_93 (l1 l3 s1 s3 s4 s5 s6 : Int32) (D : sm_D) (M : sm_M) : Option sm_S :=
  (sm_bi (jR_find s3 s4 s5 s6 D M) (fun x1 E1 M1 => sm_dq E1 D (sm_ck s1 6 (sm_ck l1 301 (sm_ck ((sm_up M1 53 (Int32.toNatClampNeg s1) x1) 31 (Int32.toNatClampNeg l1)) 6 (sm_bo (1 : Int32) (some ((1 : Int32), D, (sm_up (sm_up M1 53 (Int32.toNatClampNeg s1) x1) 53 (Int32.toNatClampNeg ((sm_up M1 53 (Int32.toNatClampNeg s1) x1) 31 (Int32.toNatClampNeg l1))) l3)))))))))
noncomputable def jR_opens_38 (l1 l2 : Int32) (D : sm_D) (M : sm_M) : Option sm_S :=
  (sm_bi (jR_find (5 : Int32) (-1 : Int32) (-1 : Int32) (-1 : Int32) D M) (fun x1 E1 M1 => sm_dq E1 D (sm_ck l1 301 (sm_ck l2 3000 (sm_ck l2 3000 (if (M1 2 (Int32.toNatClampNeg l2)) = (2 : Int32) then (sm_ck l2 3000 (sm_bi (jR_find (3 : Int32) (M1 4 (Int32.toNatClampNeg l2)) (-1 : Int32) (-1 : Int32) D M1) (fun x2 E2 M2 => sm_dq E2 D (jR_opens_93 l1 x1 (M1 30 (Int32.toNatClampNeg l1)) (4 : Int32) x1 (M1 3 (Int32.toNatClampNeg l2)) x2 D M2)))) else (jR_opens_93 l1 x1 (M1 30 (Int32.toNatClampNeg l1)) (4 : Int32) x1 (M1 3 (Int32.toNatClampNeg l2)) (-1 : Int32) D M1)))))))
noncomputable def jR_opens (l1 : Int32) (D : sm_D) (M : sm_M) : Option sm_S :=
  (sm_ck l1 301 (sm_ck (M 32 (Int32.toNatClampNeg l1)) 6 (if (M 53 (Int32.toNatClampNeg (M 32 (Int32.toNatClampNeg l1)))) < (0 : Int32) then (jR_opens_36 D M) else (sm_ck (M 53 (Int32.toNatClampNeg (M 32 (Int32.toNatClampNeg l1)))) 3000 (if (M 2 (Int32.toNatClampNeg (M 53 (Int32.toNatClampNeg (M 32 (Int32.toNatClampNeg l1)))))) = (2 : Int32) then (jR_opens_38 l1 (M 53 (Int32.toNatClampNeg (M 32 (Int32.toNatClampNeg l1)))) D M) else (sm_ck (M 53 (Int32.toNatClampNeg (M 32 (Int32.toNatClampNeg l1)))) 3000 (if (M 2 (Int32.toNatClampNeg (M 53 (Int32.toNatClampNeg (M 32 (Int32.toNatClampNeg l1)))))) = (3 : Int32) then (jR_opens_38 l1 (M 53 (Int32.toNatClampNeg (M 32 (Int32.toNatClampNeg l1)))) D M) else (jR_opens_36 D M))))))))
noncomputable def jR_isRight_120 (D : sm_D) (M : sm_M) : Option sm_S :=
  (sm_bo (0 : Int32) (some ((0 : Int32), D, M)))
noncomputable def jR_isRight_101 (l2 l3 l4 : Int32) (D : sm_D) (M : sm_M) : Option sm_S :=
  (sm_ck l3 6 (if (M 53 (Int32.toNatClampNeg l3)) = (0 : Int32) then (sm_ck l4 6 (if (M 53 (Int32.toNatClampNeg l4)) = (0 : Int32) then (sm_ck l2 6 (sm_bo (1 : Int32) (some ((1 : Int32), D, (sm_up M 53 (Int32.toNatClampNeg l2) (0 : Int32)))))) else (jR_isRight_120 D M))) else (jR_isRight_120 D M)))
noncomputable def jR_isRight_150 (D : sm_D) (M : sm_M) : Option sm_S :=
  (sm_bo (0 : Int32) (some ((0 : Int32), D, M)))
noncomputable def jR_isRight_203 (D : sm_D) (M : sm_M) : Option sm_S :=
  (sm_bo (0 : Int32) (some ((0 : Int32), D, M)))
noncomputable def jR_isRight_240 (s1 s2 : Int32) (D : sm_D) (M : sm_M) : Option sm_S :=
  (sm_ck s1 6 (sm_bo (1 : Int32) (some ((1 : Int32), D, (sm_up M 53 (Int32.toNatClampNeg s1) s2)))))
noncomputable def jR_isRight_355 (s0 : Int32) (D : sm_D) (M : sm_M) : Option sm_S :=
  (sm_bo s0 (some (s0, D, M)))
noncomputable def jR_isRight_354 (D : sm_D) (M : sm_M) : Option sm_S :=
  (jR_isRight_355 (0 : Int32) D M)
noncomputable def jR_isRight_425 (s0 : Int32) (D : sm_D) (M : sm_M) : Option sm_S :=
  (sm_bo s0 (some (s0, D, M)))
noncomputable def jR_isRight_424 (D : sm_D) (M : sm_M) : Option sm_S :=
  (jR_isRight_425 (0 : Int32) D M)
noncomputable def jR_isRight_440 (s0 : Int32) (D : sm_D) (M : sm_M) : Option sm_S :=
  (sm_bo s0 (some (s0, D, M)))
noncomputable def jR_isRight (l1 : Int32) (D : sm_D) (M : sm_M) : Option sm_S :=
  (sm_ck l1 301 (sm_ck l1 301 (sm_ck l1 301 (sm_ck l1 301 (if (M 29 (Int32.toNatClampNeg l1)) = (0 : Int32) then (sm_ck (M 30 (Int32.toNatClampNeg l1)) 6 (sm_bo (1 : Int32) (some ((1 : Int32), D, (sm_up M 53 (Int32.toNatClampNeg (M 30 (Int32.toNatClampNeg l1))) (0 : Int32)))))) else (if (M 29 (Int32.toNatClampNeg l1)) = (1 : Int32) then (jR_isRight_101 (M 30 (Int32.toNatClampNeg l1)) (M 31 (Int32.toNatClampNeg l1)) (M 32 (Int32.toNatClampNeg l1)) D M) else (if (M 29 (Int32.toNatClampNeg l1)) = (2 : Int32) then (jR_isRight_101 (M 30 (Int32.toNatClampNeg l1)) (M 31 (Int32.toNatClampNeg l1)) (M 32 (Int32.toNatClampNeg l1)) D M) else (if (M 29 (Int32.toNatClampNeg l1)) = (3 : Int32) then (jR_isRight_101 (M 30 (Int32.toNatClampNeg l1)) (M 31 (Int32.toNatClampNeg l1)) (M 32 (Int32.toNatClampNeg l1)) D M) else (if (M 29 (Int32.toNatClampNeg l1)) = (4 : Int32) then (sm_ck (M 31 (Int32.toNatClampNeg l1)) 6 (if (M 53 (Int32.toNatClampNeg (M 31 (Int32.toNatClampNeg l1)))) < (0 : Int32) then (jR_isRight_150 D M) else (sm_ck (M 32 (Int32.toNatClampNeg l1)) 6 (if (M 53 (Int32.toNatClampNeg (M 32 (Int32.toNatClampNeg l1)))) < (0 : Int32) then (jR_isRight_150 D M) else (sm_ck (M 31 (Int32.toNatClampNeg l1)) 6 (sm_ck (M 32 (Int32.toNatClampNeg l1)) 6 (sm_bi (jR_find (1 : Int32) (M 53 (Int32.toNatClampNeg (M 31 (Int32.toNatClampNeg l1)))) (M 53 (Int32.toNatClampNeg (M 32 (Int32.toNatClampNeg l1)))) (-1 : Int32) D M) (fun x7 E7 M7 => sm_dq E7 D (sm_ck (M 30 (Int32.toNatClampNeg l1)) 6 (sm_bo (1 : Int32) (some ((1 : Int32), D, (sm_up M7 53 (Int32.toNatClampNeg (M 30 (Int32.toNatClampNeg l1))) x7))))))))))))) else (if (M 29 (Int32.toNatClampNeg l1)) = (5 : Int32) then (sm_ck (M 31 (Int32.toNatClampNeg l1)) 6 (if (M 53 (Int32.toNatClampNeg (M 31 (Int32.toNatClampNeg l1)))) < (0 : Int32) then (jR_isRight_203 D M) else (sm_ck (M 31 (Int32.toNatClampNeg l1)) 6 (sm_ck (M 53 (Int32.toNatClampNeg (M 31 (Int32.toNatClampNeg l1)))) 3000 (if (M 2 (Int32.toNatClampNeg (M 53 (Int32.toNatClampNeg (M 31 (Int32.toNatClampNeg l1)))))) = (1 : Int32) then (if (M 32 (Int32.toNatClampNeg l1)) = (0 : Int32) then (sm_ck (M 31 (Int32.toNatClampNeg l1)) 6 (sm_ck (M 53 (Int32.toNatClampNeg (M 31 (Int32.toNatClampNeg l1)))) 3000 (jR_isRight_240 (M 30 (Int32.toNatClampNeg l1)) (M 3 (Int32.toNatClampNeg (M 53 (Int32.toNatClampNeg (M 31 (Int32.toNatClampNeg l1)))))) D M))) else (sm_ck (M 31 (Int32.toNatClampNeg l1)) 6 (sm_ck (M 53 (Int32.toNatClampNeg (M 31 (Int32.toNatClampNeg l1)))) 3000 (jR_isRight_240 (M 30 (Int32.toNatClampNeg l1)) (M 4 (Int32.toNatClampNeg (M 53 (Int32.toNatClampNeg (M 31 (Int32.toNatClampNeg l1)))))) D M)))) else (jR_isRight_203 D M)))))) else (if (M 29 (Int32.toNatClampNeg l1)) = (6 : Int32) then (if (M 31 (Int32.toNatClampNeg l1)) < (M 1 38) then (sm_ck ((3 : Int32) * (M 31 (Int32.toNatClampNeg l1))) 123 (sm_ck (((3 : Int32) * (M 31 (Int32.toNatClampNeg l1))) + (1 : Int32)) 123 (sm_ck (((3 : Int32) * (M 31 (Int32.toNatClampNeg l1))) + (2 : Int32)) 123 (sm_bi (jR_find (4 : Int32) (M 35 (Int32.toNatClampNeg ((3 : Int32) * (M 31 (Int32.toNatClampNeg l1))))) (M 35 (Int32.toNatClampNeg (((3 : Int32) * (M 31 (Int32.toNatClampNeg l1))) + (1 : Int32)))) (M 35 (Int32.toNatClampNeg (((3 : Int32) * (M 31 (Int32.toNatClampNeg l1))) + (2 : Int32)))) D M) (fun x6 E6 M6 => sm_dq E6 D (sm_ck (M 30 (Int32.toNatClampNeg l1)) 6 (sm_bo (1 : Int32) (some ((1 : Int32), D, (sm_up M6 53 (Int32.toNatClampNeg (M 30 (Int32.toNatClampNeg l1))) x6)))))))))) else (sm_bo (0 : Int32) (some ((0 : Int32), D, M)))) else (if (M 29 (Int32.toNatClampNeg l1)) = (7 : Int32) then (sm_ck (M 31 (Int32.toNatClampNeg l1)) 6 (sm_bi (jR_wraps (M 53 (Int32.toNatClampNeg (M 31 (Int32.toNatClampNeg l1)))) (M 32 (Int32.toNatClampNeg l1)) D M) (fun x5 E5 M5 => sm_dq E5 D (if x5 = (0 : Int32) then (sm_bo (0 : Int32) (some ((0 : Int32), D, M5))) else (sm_ck (M 30 (Int32.toNatClampNeg l1)) 6 (sm_bo (1 : Int32) (some ((1 : Int32), D, (sm_up M5 53 (Int32.toNatClampNeg (M 30 (Int32.toNatClampNeg l1))) (M 32 (Int32.toNatClampNeg l1))))))))))) else (if (M 29 (Int32.toNatClampNeg l1)) = (8 : Int32) then (sm_bi (jR_opens l1 D M) (fun x4 E4 M4 => sm_dq E4 D (sm_bo x4 (some (x4, D, M4))))) else (if (M 29 (Int32.toNatClampNeg l1)) = (9 : Int32) then (sm_bi (jR_hasBlock (M 30 (Int32.toNatClampNeg l1)) D M) (fun x3 E3 M3 => sm_dq E3 D (sm_bo x3 (some (x3, D, M3))))) else (if (M 29 (Int32.toNatClampNeg l1)) = (10 : Int32) then (sm_ck (M 30 (Int32.toNatClampNeg l1)) 6 (if (M 53 (Int32.toNatClampNeg (M 30 (Int32.toNatClampNeg l1)))) = (0 : Int32) then (sm_bi (jR_hasBlock (M 31 (Int32.toNatClampNeg l1)) D M) (fun x2 E2 M2 => sm_dq E2 D (if x2 = (0 : Int32) then (jR_isRight_354 D M2) else (jR_isRight_355 (1 : Int32) D M2)))) else (jR_isRight_354 D M))) else (if (M 29 (Int32.toNatClampNeg l1)) = (11 : Int32) then (sm_ck (M 30 (Int32.toNatClampNeg l1)) 6 (if (M 53 (Int32.toNatClampNeg (M 30 (Int32.toNatClampNeg l1)))) < (0 : Int32) then (jR_isRight_424 D M) else (sm_ck (M 30 (Int32.toNatClampNeg l1)) 6 (sm_ck (M 53 (Int32.toNatClampNeg (M 30 (Int32.toNatClampNeg l1)))) 3000 (if (M 2 (Int32.toNatClampNeg (M 53 (Int32.toNatClampNeg (M 30 (Int32.toNatClampNeg l1)))))) = (4 : Int32) then (sm_ck (M 30 (Int32.toNatClampNeg l1)) 6 (sm_ck (M 53 (Int32.toNatClampNeg (M 30 (Int32.toNatClampNeg l1)))) 3000 (sm_ck (M 30 (Int32.toNatClampNeg l1)) 6 (sm_ck (M 53 (Int32.toNatClampNeg (M 30 (Int32.toNatClampNeg l1)))) 3000 (sm_ck (M 30 (Int32.toNatClampNeg l1)) 6 (sm_ck (M 53 (Int32.toNatClampNeg (M 30 (Int32.toNatClampNeg l1)))) 3000 (sm_bi (jR_has (M 3 (Int32.toNatClampNeg (M 53 (Int32.toNatClampNeg (M 30 (Int32.toNatClampNeg l1)))))) (M 4 (Int32.toNatClampNeg (M 53 (Int32.toNatClampNeg (M 30 (Int32.toNatClampNeg l1)))))) (M 5 (Int32.toNatClampNeg (M 53 (Int32.toNatClampNeg (M 30 (Int32.toNatClampNeg l1)))))) D M) (fun x1 E1 M1 => sm_dq E1 D (if x1 = (0 : Int32) then (jR_isRight_424 D M1) else (jR_isRight_425 (1 : Int32) D M1)))))))))) else (jR_isRight_424 D M)))))) else (sm_ck (2 : Int32) 6 (if (M 53 (Int32.toNatClampNeg (2 : Int32))) = (0 : Int32) then (jR_isRight_440 (1 : Int32) D M) else (jR_isRight_440 (0 : Int32) D M)))))))))))))))))))
noncomputable def jR_isEnd_23 (s0 : Int32) (D : sm_D) (M : sm_M) : Option sm_S :=
  (sm_bo s0 (some (s0, D, M)))
noncomputable def jR_isEnd_18 (D : sm_D) (M : sm_M) : Option sm_S :=
  (jR_isEnd_23 (1 : Int32) D M)
noncomputable def jR_isEnd (l0 : Int32) (D : sm_D) (M : sm_M) : Option sm_S :=
  (if l0 = (9 : Int32) then (jR_isEnd_18 D M) else (if l0 = (11 : Int32) then (jR_isEnd_18 D M) else (if l0 = (12 : Int32) then (jR_isEnd_18 D M) else (jR_isEnd_23 (0 : Int32) D M))))
noncomputable def jR_checkBlock_34 (l1 l2 s1 s2 : Int32) (D : sm_D) (M : sm_M) : Option ((Int32 × Int32 × sm_M) ⊕ sm_S) :=
  (sm_ck s1 6 (sm_dq D D (some (.inl (l1, (l2 + (1 : Int32)), (sm_up M 53 (Int32.toNatClampNeg s1) s2))))))
noncomputable def jR_checkBlock_93 (l2 : Int32) (D : sm_D) (M : sm_M) : Option sm_S :=
  (some (l2, D, M))
noncomputable def jR_checkBlock_78 (l1 l2 : Int32) (D : sm_D) (M : sm_M) : Option ((Int32 × Int32 × sm_M) ⊕ sm_S) :=
  (sm_ck l1 41 (sm_bi (jR_isRight ((M 33 (Int32.toNatClampNeg l1)) + l2) D M) (fun x1 E1 M1 => sm_dq E1 D (if x1 = (0 : Int32) then (sm_inr (jR_checkBlock_93 l2 D M1)) else (sm_dq D D (some (.inl (l1, (l2 + (1 : Int32)), M1))))))))
noncomputable def jR_checkBlock_146 (s0 : Int32) (D : sm_D) (M : sm_M) : Option sm_S :=
  (some (s0, D, M))
noncomputable def jR_checkBlock_140 (l1 : Int32) (D : sm_D) (M : sm_M) : Option sm_S :=
  (sm_ck l1 41 (jR_checkBlock_146 (M 34 (Int32.toNatClampNeg l1)) D M))
noncomputable def jR_checkBlock_43_c (l1 l2 : Int32) (D : sm_D) (M : sm_M) : Option ((Int32 × Int32 × sm_M) ⊕ sm_S) :=
  (sm_ck l1 41 (if l2 < (M 34 (Int32.toNatClampNeg l1)) then (if (0 : Int32) < l2 then (sm_ck l1 41 (sm_ck (((M 33 (Int32.toNatClampNeg l1)) + l2) - (1 : Int32)) 301 (sm_bi (jR_isEnd (M 29 (Int32.toNatClampNeg (((M 33 (Int32.toNatClampNeg l1)) + l2) - (1 : Int32)))) D M) (fun x2 E2 M2 => sm_dq E2 D (if x2 = (0 : Int32) then (jR_checkBlock_78 l1 l2 D M2) else (sm_inr (jR_checkBlock_93 l2 D M2))))))) else (jR_checkBlock_78 l1 l2 D M)) else (sm_ck l1 41 (if (0 : Int32) < (M 34 (Int32.toNatClampNeg l1)) then (sm_ck l1 41 (sm_ck l1 41 (sm_ck (((M 33 (Int32.toNatClampNeg l1)) + (M 34 (Int32.toNatClampNeg l1))) - (1 : Int32)) 301 (sm_bi (jR_isEnd (M 29 (Int32.toNatClampNeg (((M 33 (Int32.toNatClampNeg l1)) + (M 34 (Int32.toNatClampNeg l1))) - (1 : Int32)))) D M) (fun x1 E1 M1 => sm_dq E1 D (if x1 = (0 : Int32) then (sm_inr (jR_checkBlock_140 l1 D M1)) else (sm_inr (jR_checkBlock_146 (-1 : Int32) D M1)))))))) else (sm_inr (jR_checkBlock_140 l1 D M))))))
noncomputable def jR_checkBlock_43_b (D : sm_D) (s : Int32 × Int32 × sm_M) : Option ((Int32 × Int32 × sm_M) ⊕ sm_S) := jR_checkBlock_43_c s.1 s.2.1 D s.2.2
noncomputable def jR_checkBlock_43 (l1 l2 : Int32) (D : sm_D) (M : sm_M) : Option sm_S := sm_lp (jR_checkBlock_43_b D) (l1, l2, M)
noncomputable def jR_checkBlock_2_c (l1 l2 : Int32) (D : sm_D) (M : sm_M) : Option ((Int32 × Int32 × sm_M) ⊕ sm_S) :=
  (if l2 < (6 : Int32) then (if l2 < (4 : Int32) then (sm_ck ((((3 : Int32) * l1) + l2) - (1 : Int32)) 123 (jR_checkBlock_34 l1 l2 l2 (M 35 (Int32.toNatClampNeg ((((3 : Int32) * l1) + l2) - (1 : Int32)))) D M)) else (jR_checkBlock_34 l1 l2 l2 (-1 : Int32) D M)) else (sm_inr (jR_checkBlock_43 l1 (0 : Int32) D M)))
noncomputable def jR_checkBlock_2_b (D : sm_D) (s : Int32 × Int32 × sm_M) : Option ((Int32 × Int32 × sm_M) ⊕ sm_S) := jR_checkBlock_2_c s.1 s.2.1 D s.2.2
noncomputable def jR_checkBlock_2 (l1 l2 : Int32) (D : sm_D) (M : sm_M) : Option sm_S := sm_lp (jR_checkBlock_2_b D) (l1, l2, M)
noncomputable def jR_checkBlock (l1 : Int32) (D : sm_D) (M : sm_M) : Option sm_S :=
  (jR_checkBlock_2 l1 (1 : Int32) D M)
noncomputable def jR_check_39 (D : sm_D) (M : sm_M) : Option sm_S :=
  (some ((0 : Int32), D, M))
noncomputable def jR_check_86 (l1 l3 s0 : Int32) (D : sm_D) (M : sm_M) : Option ((Int32 × Int32 × Int32 × sm_M) ⊕ sm_S) :=
  (sm_dq D D (some (.inl (l1, s0, (l3 + (1 : Int32)), (sm_up M 1 1 l1)))))
noncomputable def jR_check_98 (l2 : Int32) (D : sm_D) (M : sm_M) : Option sm_S :=
  (some (l2, D, M))
noncomputable def jR_check_50_c (l1 l2 l3 : Int32) (D : sm_D) (M : sm_M) : Option ((Int32 × Int32 × Int32 × sm_M) ⊕ sm_S) :=
  (if l3 < (M 1 38) then (if l2 < (0 : Int32) then (sm_bi (jR_checkBlock l3 D M) (fun x1 E1 M1 => sm_dq E1 D (if x1 < (0 : Int32) then (jR_check_86 l1 l3 (-1 : Int32) D M1) else (jR_check_86 l1 l3 (((1000 : Int32) * l3) + x1) D M1)))) else (sm_inr (jR_check_98 l2 D M))) else (sm_inr (jR_check_98 l2 D M)))
noncomputable def jR_check_50_b (D : sm_D) (s : Int32 × Int32 × Int32 × sm_M) : Option ((Int32 × Int32 × Int32 × sm_M) ⊕ sm_S) := jR_check_50_c s.1 s.2.1 s.2.2.1 D s.2.2.2
noncomputable def jR_check_50 (l1 l2 l3 : Int32) (D : sm_D) (M : sm_M) : Option sm_S := sm_lp (jR_check_50_b D) (l1, l2, l3, M)
noncomputable def jR_check (D : sm_D) (M : sm_M) : Option sm_S :=
  (if ((sm_up M 1 0 (0 : Int32)) 1 38) = (0 : Int32) then (jR_check_39 D (sm_up M 1 0 (0 : Int32))) else (sm_ck (0 : Int32) 123 (if (0 : Int32) < ((sm_up M 1 0 (0 : Int32)) 35 (Int32.toNatClampNeg (0 : Int32))) then (jR_check_39 D (sm_up M 1 0 (0 : Int32))) else (sm_ck (1 : Int32) 123 (if ((sm_up M 1 0 (0 : Int32)) 35 (Int32.toNatClampNeg (1 : Int32))) < (0 : Int32) then (sm_ck (2 : Int32) 123 (if ((sm_up M 1 0 (0 : Int32)) 35 (Int32.toNatClampNeg (2 : Int32))) < (0 : Int32) then (jR_check_50 ((sm_up M 1 0 (0 : Int32)) 1 1) (-1 : Int32) (0 : Int32) D (sm_up M 1 0 (0 : Int32))) else (jR_check_39 D (sm_up M 1 0 (0 : Int32))))) else (jR_check_39 D (sm_up M 1 0 (0 : Int32))))))))
noncomputable def jR_instruction_17 (D : sm_D) (M : sm_M) : Option sm_S :=
  (some ((-1 : Int32), D, M))
noncomputable def jR_instruction_100 (s0 : Int32) (D : sm_D) (M : sm_M) : Option sm_S :=
  (some (s0, D, M))
noncomputable def jR_instruction (l1 l2 : Int32) (D : sm_D) (M : sm_M) : Option sm_S :=
  (if l1 < (0 : Int32) then (jR_instruction_17 D (sm_up M 1 0 (0 : Int32))) else (if l1 < ((sm_up M 1 0 (0 : Int32)) 1 39) then (if l2 = (0 : Int32) then (sm_ck l1 301 (jR_instruction_100 ((sm_up M 1 0 (0 : Int32)) 29 (Int32.toNatClampNeg l1)) D (sm_up M 1 0 (0 : Int32)))) else (if l2 = (1 : Int32) then (sm_ck l1 301 (jR_instruction_100 ((sm_up M 1 0 (0 : Int32)) 30 (Int32.toNatClampNeg l1)) D (sm_up M 1 0 (0 : Int32)))) else (if l2 = (2 : Int32) then (sm_ck l1 301 (jR_instruction_100 ((sm_up M 1 0 (0 : Int32)) 31 (Int32.toNatClampNeg l1)) D (sm_up M 1 0 (0 : Int32)))) else (if l2 = (3 : Int32) then (sm_ck l1 301 (if ((sm_up M 1 0 (0 : Int32)) 29 (Int32.toNatClampNeg l1)) = (7 : Int32) then (sm_ck l1 301 (sm_ck ((sm_up M 1 0 (0 : Int32)) 32 (Int32.toNatClampNeg l1)) 3000 (jR_instruction_100 ((sm_up M 1 0 (0 : Int32)) 6 (Int32.toNatClampNeg ((sm_up M 1 0 (0 : Int32)) 32 (Int32.toNatClampNeg l1)))) D (sm_up M 1 0 (0 : Int32))))) else (sm_ck l1 301 (jR_instruction_100 ((sm_up M 1 0 (0 : Int32)) 32 (Int32.toNatClampNeg l1)) D (sm_up M 1 0 (0 : Int32)))))) else (jR_instruction_100 (-1 : Int32) D (sm_up M 1 0 (0 : Int32))))))) else (jR_instruction_17 D (sm_up M 1 0 (0 : Int32)))))
noncomputable def jR_look_26 (D : sm_D) (M : sm_M) : Option sm_S :=
  (some ((-1 : Int32), D, M))
noncomputable def jR_look_71 (s0 : Int32) (D : sm_D) (M : sm_M) : Option sm_S :=
  (some (s0, D, M))
noncomputable def jR_look (l1 l2 : Int32) (D : sm_D) (M : sm_M) : Option sm_S :=
  (if l1 < (0 : Int32) then (jR_look_26 D (sm_up M 1 0 (0 : Int32))) else (if l1 < ((sm_up M 1 0 (0 : Int32)) 1 38) then (if l2 < (0 : Int32) then (jR_look_26 D (sm_up M 1 0 (0 : Int32))) else (if (4 : Int32) < l2 then (jR_look_26 D (sm_up M 1 0 (0 : Int32))) else (if l2 = (0 : Int32) then (sm_ck l1 41 (jR_look_71 ((sm_up M 1 0 (0 : Int32)) 33 (Int32.toNatClampNeg l1)) D (sm_up M 1 0 (0 : Int32)))) else (if l2 = (1 : Int32) then (sm_ck l1 41 (jR_look_71 ((sm_up M 1 0 (0 : Int32)) 34 (Int32.toNatClampNeg l1)) D (sm_up M 1 0 (0 : Int32)))) else (sm_ck ((((3 : Int32) * l1) + l2) - (2 : Int32)) 123 (sm_bi (jR_sizeOf ((sm_up M 1 0 (0 : Int32)) 35 (Int32.toNatClampNeg ((((3 : Int32) * l1) + l2) - (2 : Int32)))) D (sm_up M 1 0 (0 : Int32))) (fun x1 E1 M1 => sm_dq E1 D (jR_look_71 x1 D M1)))))))) else (jR_look_26 D (sm_up M 1 0 (0 : Int32)))))
noncomputable def jR_put (l1 l2 l3 : Int32) (D : sm_D) (M : sm_M) : Option sm_S :=
  (sm_ck l1 6 (sm_ck l1 6 (some ((0 : Int32), D, (sm_up (sm_up M 47 (Int32.toNatClampNeg l1) l2) 48 (Int32.toNatClampNeg l1) l3)))))
noncomputable def jR_go (l1 : Int32) (D : sm_D) (M : sm_M) : Option sm_S :=
  (if l1 < (M 1 38) then (sm_ck l1 41 (sm_ck l1 41 (sm_ck l1 41 (sm_bo (1 : Int32) (some ((1 : Int32), D, (sm_up (sm_up M 1 67 (M 33 (Int32.toNatClampNeg l1))) 1 68 (((sm_up M 1 67 (M 33 (Int32.toNatClampNeg l1))) 33 (Int32.toNatClampNeg l1)) + ((sm_up M 1 67 (M 33 (Int32.toNatClampNeg l1))) 34 (Int32.toNatClampNeg l1)))))))))) else (sm_bo (0 : Int32) (some ((0 : Int32), D, M))))
noncomputable def jR_calculate_21 (D : sm_D) (M : sm_M) : Option sm_S :=
  (sm_bo (0 : Int32) (some ((0 : Int32), D, M)))
noncomputable def jR_calculate (l1 l2 l3 l4 : Int32) (D : sm_D) (M : sm_M) : Option sm_S :=
  (sm_ck l3 6 (if (M 47 (Int32.toNatClampNeg l3)) = (1 : Int32) then (sm_ck l4 6 (if (M 47 (Int32.toNatClampNeg l4)) = (1 : Int32) then (sm_ck l3 6 (sm_ck l4 6 (sm_bi (jR_result (l1 + (1 : Int32)) (M 48 (Int32.toNatClampNeg l3)) (M 48 (Int32.toNatClampNeg l4)) D M) (fun x1 E1 M1 => sm_dq E1 D (sm_bi (jR_put l2 (1 : Int32) x1 D M1) (fun x2 E2 M2 => sm_dq E2 D (sm_bo (1 : Int32) (some ((1 : Int32), D, M2))))))))) else (jR_calculate_21 D M))) else (jR_calculate_21 D M)))
noncomputable def jR_newPair_18 (D : sm_D) (M : sm_M) : Option sm_S :=
  (sm_bo (0 : Int32) (some ((0 : Int32), D, M)))
noncomputable def jR_newPair (l1 l2 l3 : Int32) (D : sm_D) (M : sm_M) : Option sm_S :=
  (sm_ck l2 6 (if (M 47 (Int32.toNatClampNeg l2)) = (0 : Int32) then (jR_newPair_18 D M) else (sm_ck l3 6 (if (M 47 (Int32.toNatClampNeg l3)) = (0 : Int32) then (jR_newPair_18 D M) else (if (M 1 69) = (400 : Int32) then (sm_bo (0 : Int32) (some ((0 : Int32), D, (sm_up M 1 66 (3 : Int32))))) else (sm_ck l2 6 (sm_ck (M 1 69) 400 (sm_ck l2 6 (sm_ck ((sm_up M 49 (Int32.toNatClampNeg (M 1 69)) (M 47 (Int32.toNatClampNeg l2))) 1 69) 400 (sm_ck l3 6 (sm_ck ((sm_up (sm_up M 49 (Int32.toNatClampNeg (M 1 69)) (M 47 (Int32.toNatClampNeg l2))) 50 (Int32.toNatClampNeg ((sm_up M 49 (Int32.toNatClampNeg (M 1 69)) (M 47 (Int32.toNatClampNeg l2))) 1 69)) ((sm_up M 49 (Int32.toNatClampNeg (M 1 69)) (M 47 (Int32.toNatClampNeg l2))) 48 (Int32.toNatClampNeg l2))) 1 69) 400 (sm_ck l3 6 (sm_ck ((sm_up (sm_up (sm_up M 49 (Int32.toNatClampNeg (M 1 69)) (M 47 (Int32.toNatClampNeg l2))) 50 (Int32.toNatClampNeg ((sm_up M 49 (Int32.toNatClampNeg (M 1 69)) (M 47 (Int32.toNatClampNeg l2))) 1 69)) ((sm_up M 49 (Int32.toNatClampNeg (M 1 69)) (M 47 (Int32.toNatClampNeg l2))) 48 (Int32.toNatClampNeg l2))) 51 (Int32.toNatClampNeg ((sm_up (sm_up M 49 (Int32.toNatClampNeg (M 1 69)) (M 47 (Int32.toNatClampNeg l2))) 50 (Int32.toNatClampNeg ((sm_up M 49 (Int32.toNatClampNeg (M 1 69)) (M 47 (Int32.toNatClampNeg l2))) 1 69)) ((sm_up M 49 (Int32.toNatClampNeg (M 1 69)) (M 47 (Int32.toNatClampNeg l2))) 48 (Int32.toNatClampNeg l2))) 1 69)) ((sm_up (sm_up M 49 (Int32.toNatClampNeg (M 1 69)) (M 47 (Int32.toNatClampNeg l2))) 50 (Int32.toNatClampNeg ((sm_up M 49 (Int32.toNatClampNeg (M 1 69)) (M 47 (Int32.toNatClampNeg l2))) 1 69)) ((sm_up M 49 (Int32.toNatClampNeg (M 1 69)) (M 47 (Int32.toNatClampNeg l2))) 48 (Int32.toNatClampNeg l2))) 47 (Int32.toNatClampNeg l3))) 1 69) 400 (sm_bi (jR_put l1 (3 : Int32) (((sm_up (sm_up (sm_up (sm_up (sm_up M 49 (Int32.toNatClampNeg (M 1 69)) (M 47 (Int32.toNatClampNeg l2))) 50 (Int32.toNatClampNeg ((sm_up M 49 (Int32.toNatClampNeg (M 1 69)) (M 47 (Int32.toNatClampNeg l2))) 1 69)) ((sm_up M 49 (Int32.toNatClampNeg (M 1 69)) (M 47 (Int32.toNatClampNeg l2))) 48 (Int32.toNatClampNeg l2))) 51 (Int32.toNatClampNeg ((sm_up (sm_up M 49 (Int32.toNatClampNeg (M 1 69)) (M 47 (Int32.toNatClampNeg l2))) 50 (Int32.toNatClampNeg ((sm_up M 49 (Int32.toNatClampNeg (M 1 69)) (M 47 (Int32.toNatClampNeg l2))) 1 69)) ((sm_up M 49 (Int32.toNatClampNeg (M 1 69)) (M 47 (Int32.toNatClampNeg l2))) 48 (Int32.toNatClampNeg l2))) 1 69)) ((sm_up (sm_up M 49 (Int32.toNatClampNeg (M 1 69)) (M 47 (Int32.toNatClampNeg l2))) 50 (Int32.toNatClampNeg ((sm_up M 49 (Int32.toNatClampNeg (M 1 69)) (M 47 (Int32.toNatClampNeg l2))) 1 69)) ((sm_up M 49 (Int32.toNatClampNeg (M 1 69)) (M 47 (Int32.toNatClampNeg l2))) 48 (Int32.toNatClampNeg l2))) 47 (Int32.toNatClampNeg l3))) 52 (Int32.toNatClampNeg ((sm_up (sm_up (sm_up M 49 (Int32.toNatClampNeg (M 1 69)) (M 47 (Int32.toNatClampNeg l2))) 50 (Int32.toNatClampNeg ((sm_up M 49 (Int32.toNatClampNeg (M 1 69)) (M 47 (Int32.toNatClampNeg l2))) 1 69)) ((sm_up M 49 (Int32.toNatClampNeg (M 1 69)) (M 47 (Int32.toNatClampNeg l2))) 48 (Int32.toNatClampNeg l2))) 51 (Int32.toNatClampNeg ((sm_up (sm_up M 49 (Int32.toNatClampNeg (M 1 69)) (M 47 (Int32.toNatClampNeg l2))) 50 (Int32.toNatClampNeg ((sm_up M 49 (Int32.toNatClampNeg (M 1 69)) (M 47 (Int32.toNatClampNeg l2))) 1 69)) ((sm_up M 49 (Int32.toNatClampNeg (M 1 69)) (M 47 (Int32.toNatClampNeg l2))) 48 (Int32.toNatClampNeg l2))) 1 69)) ((sm_up (sm_up M 49 (Int32.toNatClampNeg (M 1 69)) (M 47 (Int32.toNatClampNeg l2))) 50 (Int32.toNatClampNeg ((sm_up M 49 (Int32.toNatClampNeg (M 1 69)) (M 47 (Int32.toNatClampNeg l2))) 1 69)) ((sm_up M 49 (Int32.toNatClampNeg (M 1 69)) (M 47 (Int32.toNatClampNeg l2))) 48 (Int32.toNatClampNeg l2))) 47 (Int32.toNatClampNeg l3))) 1 69)) ((sm_up (sm_up (sm_up M 49 (Int32.toNatClampNeg (M 1 69)) (M 47 (Int32.toNatClampNeg l2))) 50 (Int32.toNatClampNeg ((sm_up M 49 (Int32.toNatClampNeg (M 1 69)) (M 47 (Int32.toNatClampNeg l2))) 1 69)) ((sm_up M 49 (Int32.toNatClampNeg (M 1 69)) (M 47 (Int32.toNatClampNeg l2))) 48 (Int32.toNatClampNeg l2))) 51 (Int32.toNatClampNeg ((sm_up (sm_up M 49 (Int32.toNatClampNeg (M 1 69)) (M 47 (Int32.toNatClampNeg l2))) 50 (Int32.toNatClampNeg ((sm_up M 49 (Int32.toNatClampNeg (M 1 69)) (M 47 (Int32.toNatClampNeg l2))) 1 69)) ((sm_up M 49 (Int32.toNatClampNeg (M 1 69)) (M 47 (Int32.toNatClampNeg l2))) 48 (Int32.toNatClampNeg l2))) 1 69)) ((sm_up (sm_up M 49 (Int32.toNatClampNeg (M 1 69)) (M 47 (Int32.toNatClampNeg l2))) 50 (Int32.toNatClampNeg ((sm_up M 49 (Int32.toNatClampNeg (M 1 69)) (M 47 (Int32.toNatClampNeg l2))) 1 69)) ((sm_up M 49 (Int32.toNatClampNeg (M 1 69)) (M 47 (Int32.toNatClampNeg l2))) 48 (Int32.toNatClampNeg l2))) 47 (Int32.toNatClampNeg l3))) 48 (Int32.toNatClampNeg l3))) 1 69 (((sm_up (sm_up (sm_up (sm_up M 49 (Int32.toNatClampNeg (M 1 69)) (M 47 (Int32.toNatClampNeg l2))) 50 (Int32.toNatClampNeg ((sm_up M 49 (Int32.toNatClampNeg (M 1 69)) (M 47 (Int32.toNatClampNeg l2))) 1 69)) ((sm_up M 49 (Int32.toNatClampNeg (M 1 69)) (M 47 (Int32.toNatClampNeg l2))) 48 (Int32.toNatClampNeg l2))) 51 (Int32.toNatClampNeg ((sm_up (sm_up M 49 (Int32.toNatClampNeg (M 1 69)) (M 47 (Int32.toNatClampNeg l2))) 50 (Int32.toNatClampNeg ((sm_up M 49 (Int32.toNatClampNeg (M 1 69)) (M 47 (Int32.toNatClampNeg l2))) 1 69)) ((sm_up M 49 (Int32.toNatClampNeg (M 1 69)) (M 47 (Int32.toNatClampNeg l2))) 48 (Int32.toNatClampNeg l2))) 1 69)) ((sm_up (sm_up M 49 (Int32.toNatClampNeg (M 1 69)) (M 47 (Int32.toNatClampNeg l2))) 50 (Int32.toNatClampNeg ((sm_up M 49 (Int32.toNatClampNeg (M 1 69)) (M 47 (Int32.toNatClampNeg l2))) 1 69)) ((sm_up M 49 (Int32.toNatClampNeg (M 1 69)) (M 47 (Int32.toNatClampNeg l2))) 48 (Int32.toNatClampNeg l2))) 47 (Int32.toNatClampNeg l3))) 52 (Int32.toNatClampNeg ((sm_up (sm_up (sm_up M 49 (Int32.toNatClampNeg (M 1 69)) (M 47 (Int32.toNatClampNeg l2))) 50 (Int32.toNatClampNeg ((sm_up M 49 (Int32.toNatClampNeg (M 1 69)) (M 47 (Int32.toNatClampNeg l2))) 1 69)) ((sm_up M 49 (Int32.toNatClampNeg (M 1 69)) (M 47 (Int32.toNatClampNeg l2))) 48 (Int32.toNatClampNeg l2))) 51 (Int32.toNatClampNeg ((sm_up (sm_up M 49 (Int32.toNatClampNeg (M 1 69)) (M 47 (Int32.toNatClampNeg l2))) 50 (Int32.toNatClampNeg ((sm_up M 49 (Int32.toNatClampNeg (M 1 69)) (M 47 (Int32.toNatClampNeg l2))) 1 69)) ((sm_up M 49 (Int32.toNatClampNeg (M 1 69)) (M 47 (Int32.toNatClampNeg l2))) 48 (Int32.toNatClampNeg l2))) 1 69)) ((sm_up (sm_up M 49 (Int32.toNatClampNeg (M 1 69)) (M 47 (Int32.toNatClampNeg l2))) 50 (Int32.toNatClampNeg ((sm_up M 49 (Int32.toNatClampNeg (M 1 69)) (M 47 (Int32.toNatClampNeg l2))) 1 69)) ((sm_up M 49 (Int32.toNatClampNeg (M 1 69)) (M 47 (Int32.toNatClampNeg l2))) 48 (Int32.toNatClampNeg l2))) 47 (Int32.toNatClampNeg l3))) 1 69)) ((sm_up (sm_up (sm_up M 49 (Int32.toNatClampNeg (M 1 69)) (M 47 (Int32.toNatClampNeg l2))) 50 (Int32.toNatClampNeg ((sm_up M 49 (Int32.toNatClampNeg (M 1 69)) (M 47 (Int32.toNatClampNeg l2))) 1 69)) ((sm_up M 49 (Int32.toNatClampNeg (M 1 69)) (M 47 (Int32.toNatClampNeg l2))) 48 (Int32.toNatClampNeg l2))) 51 (Int32.toNatClampNeg ((sm_up (sm_up M 49 (Int32.toNatClampNeg (M 1 69)) (M 47 (Int32.toNatClampNeg l2))) 50 (Int32.toNatClampNeg ((sm_up M 49 (Int32.toNatClampNeg (M 1 69)) (M 47 (Int32.toNatClampNeg l2))) 1 69)) ((sm_up M 49 (Int32.toNatClampNeg (M 1 69)) (M 47 (Int32.toNatClampNeg l2))) 48 (Int32.toNatClampNeg l2))) 1 69)) ((sm_up (sm_up M 49 (Int32.toNatClampNeg (M 1 69)) (M 47 (Int32.toNatClampNeg l2))) 50 (Int32.toNatClampNeg ((sm_up M 49 (Int32.toNatClampNeg (M 1 69)) (M 47 (Int32.toNatClampNeg l2))) 1 69)) ((sm_up M 49 (Int32.toNatClampNeg (M 1 69)) (M 47 (Int32.toNatClampNeg l2))) 48 (Int32.toNatClampNeg l2))) 47 (Int32.toNatClampNeg l3))) 48 (Int32.toNatClampNeg l3))) 1 69) + (1 : Int32))) 1 69) - (1 : Int32)) D (sm_up (sm_up (sm_up (sm_up (sm_up M 49 (Int32.toNatClampNeg (M 1 69)) (M 47 (Int32.toNatClampNeg l2))) 50 (Int32.toNatClampNeg ((sm_up M 49 (Int32.toNatClampNeg (M 1 69)) (M 47 (Int32.toNatClampNeg l2))) 1 69)) ((sm_up M 49 (Int32.toNatClampNeg (M 1 69)) (M 47 (Int32.toNatClampNeg l2))) 48 (Int32.toNatClampNeg l2))) 51 (Int32.toNatClampNeg ((sm_up (sm_up M 49 (Int32.toNatClampNeg (M 1 69)) (M 47 (Int32.toNatClampNeg l2))) 50 (Int32.toNatClampNeg ((sm_up M 49 (Int32.toNatClampNeg (M 1 69)) (M 47 (Int32.toNatClampNeg l2))) 1 69)) ((sm_up M 49 (Int32.toNatClampNeg (M 1 69)) (M 47 (Int32.toNatClampNeg l2))) 48 (Int32.toNatClampNeg l2))) 1 69)) ((sm_up (sm_up M 49 (Int32.toNatClampNeg (M 1 69)) (M 47 (Int32.toNatClampNeg l2))) 50 (Int32.toNatClampNeg ((sm_up M 49 (Int32.toNatClampNeg (M 1 69)) (M 47 (Int32.toNatClampNeg l2))) 1 69)) ((sm_up M 49 (Int32.toNatClampNeg (M 1 69)) (M 47 (Int32.toNatClampNeg l2))) 48 (Int32.toNatClampNeg l2))) 47 (Int32.toNatClampNeg l3))) 52 (Int32.toNatClampNeg ((sm_up (sm_up (sm_up M 49 (Int32.toNatClampNeg (M 1 69)) (M 47 (Int32.toNatClampNeg l2))) 50 (Int32.toNatClampNeg ((sm_up M 49 (Int32.toNatClampNeg (M 1 69)) (M 47 (Int32.toNatClampNeg l2))) 1 69)) ((sm_up M 49 (Int32.toNatClampNeg (M 1 69)) (M 47 (Int32.toNatClampNeg l2))) 48 (Int32.toNatClampNeg l2))) 51 (Int32.toNatClampNeg ((sm_up (sm_up M 49 (Int32.toNatClampNeg (M 1 69)) (M 47 (Int32.toNatClampNeg l2))) 50 (Int32.toNatClampNeg ((sm_up M 49 (Int32.toNatClampNeg (M 1 69)) (M 47 (Int32.toNatClampNeg l2))) 1 69)) ((sm_up M 49 (Int32.toNatClampNeg (M 1 69)) (M 47 (Int32.toNatClampNeg l2))) 48 (Int32.toNatClampNeg l2))) 1 69)) ((sm_up (sm_up M 49 (Int32.toNatClampNeg (M 1 69)) (M 47 (Int32.toNatClampNeg l2))) 50 (Int32.toNatClampNeg ((sm_up M 49 (Int32.toNatClampNeg (M 1 69)) (M 47 (Int32.toNatClampNeg l2))) 1 69)) ((sm_up M 49 (Int32.toNatClampNeg (M 1 69)) (M 47 (Int32.toNatClampNeg l2))) 48 (Int32.toNatClampNeg l2))) 47 (Int32.toNatClampNeg l3))) 1 69)) ((sm_up (sm_up (sm_up M 49 (Int32.toNatClampNeg (M 1 69)) (M 47 (Int32.toNatClampNeg l2))) 50 (Int32.toNatClampNeg ((sm_up M 49 (Int32.toNatClampNeg (M 1 69)) (M 47 (Int32.toNatClampNeg l2))) 1 69)) ((sm_up M 49 (Int32.toNatClampNeg (M 1 69)) (M 47 (Int32.toNatClampNeg l2))) 48 (Int32.toNatClampNeg l2))) 51 (Int32.toNatClampNeg ((sm_up (sm_up M 49 (Int32.toNatClampNeg (M 1 69)) (M 47 (Int32.toNatClampNeg l2))) 50 (Int32.toNatClampNeg ((sm_up M 49 (Int32.toNatClampNeg (M 1 69)) (M 47 (Int32.toNatClampNeg l2))) 1 69)) ((sm_up M 49 (Int32.toNatClampNeg (M 1 69)) (M 47 (Int32.toNatClampNeg l2))) 48 (Int32.toNatClampNeg l2))) 1 69)) ((sm_up (sm_up M 49 (Int32.toNatClampNeg (M 1 69)) (M 47 (Int32.toNatClampNeg l2))) 50 (Int32.toNatClampNeg ((sm_up M 49 (Int32.toNatClampNeg (M 1 69)) (M 47 (Int32.toNatClampNeg l2))) 1 69)) ((sm_up M 49 (Int32.toNatClampNeg (M 1 69)) (M 47 (Int32.toNatClampNeg l2))) 48 (Int32.toNatClampNeg l2))) 47 (Int32.toNatClampNeg l3))) 48 (Int32.toNatClampNeg l3))) 1 69 (((sm_up (sm_up (sm_up (sm_up M 49 (Int32.toNatClampNeg (M 1 69)) (M 47 (Int32.toNatClampNeg l2))) 50 (Int32.toNatClampNeg ((sm_up M 49 (Int32.toNatClampNeg (M 1 69)) (M 47 (Int32.toNatClampNeg l2))) 1 69)) ((sm_up M 49 (Int32.toNatClampNeg (M 1 69)) (M 47 (Int32.toNatClampNeg l2))) 48 (Int32.toNatClampNeg l2))) 51 (Int32.toNatClampNeg ((sm_up (sm_up M 49 (Int32.toNatClampNeg (M 1 69)) (M 47 (Int32.toNatClampNeg l2))) 50 (Int32.toNatClampNeg ((sm_up M 49 (Int32.toNatClampNeg (M 1 69)) (M 47 (Int32.toNatClampNeg l2))) 1 69)) ((sm_up M 49 (Int32.toNatClampNeg (M 1 69)) (M 47 (Int32.toNatClampNeg l2))) 48 (Int32.toNatClampNeg l2))) 1 69)) ((sm_up (sm_up M 49 (Int32.toNatClampNeg (M 1 69)) (M 47 (Int32.toNatClampNeg l2))) 50 (Int32.toNatClampNeg ((sm_up M 49 (Int32.toNatClampNeg (M 1 69)) (M 47 (Int32.toNatClampNeg l2))) 1 69)) ((sm_up M 49 (Int32.toNatClampNeg (M 1 69)) (M 47 (Int32.toNatClampNeg l2))) 48 (Int32.toNatClampNeg l2))) 47 (Int32.toNatClampNeg l3))) 52 (Int32.toNatClampNeg ((sm_up (sm_up (sm_up M 49 (Int32.toNatClampNeg (M 1 69)) (M 47 (Int32.toNatClampNeg l2))) 50 (Int32.toNatClampNeg ((sm_up M 49 (Int32.toNatClampNeg (M 1 69)) (M 47 (Int32.toNatClampNeg l2))) 1 69)) ((sm_up M 49 (Int32.toNatClampNeg (M 1 69)) (M 47 (Int32.toNatClampNeg l2))) 48 (Int32.toNatClampNeg l2))) 51 (Int32.toNatClampNeg ((sm_up (sm_up M 49 (Int32.toNatClampNeg (M 1 69)) (M 47 (Int32.toNatClampNeg l2))) 50 (Int32.toNatClampNeg ((sm_up M 49 (Int32.toNatClampNeg (M 1 69)) (M 47 (Int32.toNatClampNeg l2))) 1 69)) ((sm_up M 49 (Int32.toNatClampNeg (M 1 69)) (M 47 (Int32.toNatClampNeg l2))) 48 (Int32.toNatClampNeg l2))) 1 69)) ((sm_up (sm_up M 49 (Int32.toNatClampNeg (M 1 69)) (M 47 (Int32.toNatClampNeg l2))) 50 (Int32.toNatClampNeg ((sm_up M 49 (Int32.toNatClampNeg (M 1 69)) (M 47 (Int32.toNatClampNeg l2))) 1 69)) ((sm_up M 49 (Int32.toNatClampNeg (M 1 69)) (M 47 (Int32.toNatClampNeg l2))) 48 (Int32.toNatClampNeg l2))) 47 (Int32.toNatClampNeg l3))) 1 69)) ((sm_up (sm_up (sm_up M 49 (Int32.toNatClampNeg (M 1 69)) (M 47 (Int32.toNatClampNeg l2))) 50 (Int32.toNatClampNeg ((sm_up M 49 (Int32.toNatClampNeg (M 1 69)) (M 47 (Int32.toNatClampNeg l2))) 1 69)) ((sm_up M 49 (Int32.toNatClampNeg (M 1 69)) (M 47 (Int32.toNatClampNeg l2))) 48 (Int32.toNatClampNeg l2))) 51 (Int32.toNatClampNeg ((sm_up (sm_up M 49 (Int32.toNatClampNeg (M 1 69)) (M 47 (Int32.toNatClampNeg l2))) 50 (Int32.toNatClampNeg ((sm_up M 49 (Int32.toNatClampNeg (M 1 69)) (M 47 (Int32.toNatClampNeg l2))) 1 69)) ((sm_up M 49 (Int32.toNatClampNeg (M 1 69)) (M 47 (Int32.toNatClampNeg l2))) 48 (Int32.toNatClampNeg l2))) 1 69)) ((sm_up (sm_up M 49 (Int32.toNatClampNeg (M 1 69)) (M 47 (Int32.toNatClampNeg l2))) 50 (Int32.toNatClampNeg ((sm_up M 49 (Int32.toNatClampNeg (M 1 69)) (M 47 (Int32.toNatClampNeg l2))) 1 69)) ((sm_up M 49 (Int32.toNatClampNeg (M 1 69)) (M 47 (Int32.toNatClampNeg l2))) 48 (Int32.toNatClampNeg l2))) 47 (Int32.toNatClampNeg l3))) 48 (Int32.toNatClampNeg l3))) 1 69) + (1 : Int32)))) (fun x1 E1 M1 => sm_dq E1 D (sm_bo (1 : Int32) (some ((1 : Int32), D, M1))))))))))))))))))
noncomputable def jR_open_29 (D : sm_D) (M : sm_M) : Option sm_S :=
  (sm_bo (0 : Int32) (some ((0 : Int32), D, M)))
noncomputable def jR_open (l1 l2 l3 : Int32) (D : sm_D) (M : sm_M) : Option sm_S :=
  (sm_ck l3 6 (sm_ck l3 6 (if (M 47 (Int32.toNatClampNeg l3)) = (4 : Int32) then (sm_ck (M 48 (Int32.toNatClampNeg l3)) 400 (if (M 49 (Int32.toNatClampNeg (M 48 (Int32.toNatClampNeg l3)))) = (2 : Int32) then (sm_ck (M 48 (Int32.toNatClampNeg l3)) 400 (sm_bi (jR_put l1 (2 : Int32) (M 50 (Int32.toNatClampNeg (M 48 (Int32.toNatClampNeg l3)))) D M) (fun x1 E1 M1 => sm_dq E1 D (sm_ck (M 48 (Int32.toNatClampNeg l3)) 400 (sm_ck (M 48 (Int32.toNatClampNeg l3)) 400 (sm_bi (jR_put l2 (M1 51 (Int32.toNatClampNeg (M 48 (Int32.toNatClampNeg l3)))) (M1 52 (Int32.toNatClampNeg (M 48 (Int32.toNatClampNeg l3)))) D M1) (fun x2 E2 M2 => sm_dq E2 D (sm_bo (1 : Int32) (some ((1 : Int32), D, M2)))))))))) else (jR_open_29 D M))) else (jR_open_29 D M))))
noncomputable def jR_doIt_105 (l1 l2 l3 l4 : Int32) (D : sm_D) (M : sm_M) : Option sm_S :=
  (sm_ck l1 301 (sm_bi (jR_calculate (M 29 (Int32.toNatClampNeg l1)) l2 l3 l4 D M) (fun x1 E1 M1 => sm_dq E1 D (sm_bo x1 (some (x1, D, M1))))))
noncomputable def jR_doIt_195 (s1 s2 s3 : Int32) (D : sm_D) (M : sm_M) : Option sm_S :=
  (sm_bi (jR_put s1 s2 s3 D M) (fun x1 E1 M1 => sm_dq E1 D (sm_bo (1 : Int32) (some ((1 : Int32), D, M1)))))
noncomputable def jR_doIt_173 (l4 l5 s1 s2 : Int32) (D : sm_D) (M : sm_M) : Option sm_S :=
  (if l4 = (0 : Int32) then (sm_ck l5 400 (jR_doIt_195 s1 s2 (M 50 (Int32.toNatClampNeg l5)) D M)) else (sm_ck l5 400 (jR_doIt_195 s1 s2 (M 52 (Int32.toNatClampNeg l5)) D M)))
noncomputable def jR_doIt_282 (s0 : Int32) (D : sm_D) (M : sm_M) : Option sm_S :=
  (sm_bo s0 (some (s0, D, M)))
noncomputable def jR_doIt_277 (D : sm_D) (M : sm_M) : Option sm_S :=
  (jR_doIt_282 (1 : Int32) D M)
noncomputable def jR_doIt_281 (D : sm_D) (M : sm_M) : Option sm_S :=
  (jR_doIt_282 (0 : Int32) D M)
noncomputable def jR_doIt_311 (s0 : Int32) (D : sm_D) (M : sm_M) : Option sm_S :=
  (sm_bo s0 (some (s0, D, M)))
noncomputable def jR_doIt_310 (D : sm_D) (M : sm_M) : Option sm_S :=
  (jR_doIt_311 (0 : Int32) D M)
noncomputable def jR_doIt (l1 : Int32) (D : sm_D) (M : sm_M) : Option sm_S :=
  (sm_ck l1 301 (sm_ck l1 301 (sm_ck l1 301 (sm_ck l1 301 (if ((sm_up M 1 67 (l1 + (1 : Int32))) 29 (Int32.toNatClampNeg l1)) = (0 : Int32) then (sm_bi (jR_put (M 30 (Int32.toNatClampNeg l1)) (1 : Int32) (M 31 (Int32.toNatClampNeg l1)) D (sm_up M 1 67 (l1 + (1 : Int32)))) (fun x8 E8 M8 => sm_dq E8 D (sm_bo (1 : Int32) (some ((1 : Int32), D, M8))))) else (if ((sm_up M 1 67 (l1 + (1 : Int32))) 29 (Int32.toNatClampNeg l1)) = (1 : Int32) then (jR_doIt_105 l1 (M 30 (Int32.toNatClampNeg l1)) (M 31 (Int32.toNatClampNeg l1)) (M 32 (Int32.toNatClampNeg l1)) D (sm_up M 1 67 (l1 + (1 : Int32)))) else (if ((sm_up M 1 67 (l1 + (1 : Int32))) 29 (Int32.toNatClampNeg l1)) = (2 : Int32) then (jR_doIt_105 l1 (M 30 (Int32.toNatClampNeg l1)) (M 31 (Int32.toNatClampNeg l1)) (M 32 (Int32.toNatClampNeg l1)) D (sm_up M 1 67 (l1 + (1 : Int32)))) else (if ((sm_up M 1 67 (l1 + (1 : Int32))) 29 (Int32.toNatClampNeg l1)) = (3 : Int32) then (jR_doIt_105 l1 (M 30 (Int32.toNatClampNeg l1)) (M 31 (Int32.toNatClampNeg l1)) (M 32 (Int32.toNatClampNeg l1)) D (sm_up M 1 67 (l1 + (1 : Int32)))) else (if ((sm_up M 1 67 (l1 + (1 : Int32))) 29 (Int32.toNatClampNeg l1)) = (4 : Int32) then (sm_bi (jR_newPair (M 30 (Int32.toNatClampNeg l1)) (M 31 (Int32.toNatClampNeg l1)) (M 32 (Int32.toNatClampNeg l1)) D (sm_up M 1 67 (l1 + (1 : Int32)))) (fun x7 E7 M7 => sm_dq E7 D (sm_bo x7 (some (x7, D, M7))))) else (if ((sm_up M 1 67 (l1 + (1 : Int32))) 29 (Int32.toNatClampNeg l1)) = (5 : Int32) then (sm_ck (M 31 (Int32.toNatClampNeg l1)) 6 (sm_ck (M 31 (Int32.toNatClampNeg l1)) 6 (if ((sm_up M 1 67 (l1 + (1 : Int32))) 47 (Int32.toNatClampNeg (M 31 (Int32.toNatClampNeg l1)))) = (3 : Int32) then (if (M 32 (Int32.toNatClampNeg l1)) = (0 : Int32) then (sm_ck ((sm_up M 1 67 (l1 + (1 : Int32))) 48 (Int32.toNatClampNeg (M 31 (Int32.toNatClampNeg l1)))) 400 (jR_doIt_173 (M 32 (Int32.toNatClampNeg l1)) ((sm_up M 1 67 (l1 + (1 : Int32))) 48 (Int32.toNatClampNeg (M 31 (Int32.toNatClampNeg l1)))) (M 30 (Int32.toNatClampNeg l1)) ((sm_up M 1 67 (l1 + (1 : Int32))) 49 (Int32.toNatClampNeg ((sm_up M 1 67 (l1 + (1 : Int32))) 48 (Int32.toNatClampNeg (M 31 (Int32.toNatClampNeg l1)))))) D (sm_up M 1 67 (l1 + (1 : Int32))))) else (sm_ck ((sm_up M 1 67 (l1 + (1 : Int32))) 48 (Int32.toNatClampNeg (M 31 (Int32.toNatClampNeg l1)))) 400 (jR_doIt_173 (M 32 (Int32.toNatClampNeg l1)) ((sm_up M 1 67 (l1 + (1 : Int32))) 48 (Int32.toNatClampNeg (M 31 (Int32.toNatClampNeg l1)))) (M 30 (Int32.toNatClampNeg l1)) ((sm_up M 1 67 (l1 + (1 : Int32))) 51 (Int32.toNatClampNeg ((sm_up M 1 67 (l1 + (1 : Int32))) 48 (Int32.toNatClampNeg (M 31 (Int32.toNatClampNeg l1)))))) D (sm_up M 1 67 (l1 + (1 : Int32)))))) else (sm_bo (0 : Int32) (some ((0 : Int32), D, (sm_up M 1 67 (l1 + (1 : Int32))))))))) else (if ((sm_up M 1 67 (l1 + (1 : Int32))) 29 (Int32.toNatClampNeg l1)) = (6 : Int32) then (sm_bi (jR_put (M 30 (Int32.toNatClampNeg l1)) (2 : Int32) (M 31 (Int32.toNatClampNeg l1)) D (sm_up M 1 67 (l1 + (1 : Int32)))) (fun x6 E6 M6 => sm_dq E6 D (sm_bo (1 : Int32) (some ((1 : Int32), D, M6))))) else (if ((sm_up M 1 67 (l1 + (1 : Int32))) 29 (Int32.toNatClampNeg l1)) = (7 : Int32) then (sm_ck (M 31 (Int32.toNatClampNeg l1)) 6 (if ((sm_up M 1 67 (l1 + (1 : Int32))) 47 (Int32.toNatClampNeg (M 31 (Int32.toNatClampNeg l1)))) = (3 : Int32) then (sm_ck (M 31 (Int32.toNatClampNeg l1)) 6 (sm_bi (jR_put (M 30 (Int32.toNatClampNeg l1)) (4 : Int32) ((sm_up M 1 67 (l1 + (1 : Int32))) 48 (Int32.toNatClampNeg (M 31 (Int32.toNatClampNeg l1)))) D (sm_up M 1 67 (l1 + (1 : Int32)))) (fun x5 E5 M5 => sm_dq E5 D (sm_bo (1 : Int32) (some ((1 : Int32), D, M5)))))) else (sm_bo (0 : Int32) (some ((0 : Int32), D, (sm_up M 1 67 (l1 + (1 : Int32)))))))) else (if ((sm_up M 1 67 (l1 + (1 : Int32))) 29 (Int32.toNatClampNeg l1)) = (8 : Int32) then (sm_bi (jR_open (M 30 (Int32.toNatClampNeg l1)) (M 31 (Int32.toNatClampNeg l1)) (M 32 (Int32.toNatClampNeg l1)) D (sm_up M 1 67 (l1 + (1 : Int32)))) (fun x4 E4 M4 => sm_dq E4 D (sm_bo x4 (some (x4, D, M4))))) else (if ((sm_up M 1 67 (l1 + (1 : Int32))) 29 (Int32.toNatClampNeg l1)) = (9 : Int32) then (sm_bi (jR_go (M 30 (Int32.toNatClampNeg l1)) D (sm_up M 1 67 (l1 + (1 : Int32)))) (fun x3 E3 M3 => sm_dq E3 D (sm_bo x3 (some (x3, D, M3))))) else (if ((sm_up M 1 67 (l1 + (1 : Int32))) 29 (Int32.toNatClampNeg l1)) = (10 : Int32) then (sm_ck (M 30 (Int32.toNatClampNeg l1)) 6 (if ((sm_up M 1 67 (l1 + (1 : Int32))) 47 (Int32.toNatClampNeg (M 30 (Int32.toNatClampNeg l1)))) = (1 : Int32) then (sm_ck (M 30 (Int32.toNatClampNeg l1)) 6 (if ((sm_up M 1 67 (l1 + (1 : Int32))) 48 (Int32.toNatClampNeg (M 30 (Int32.toNatClampNeg l1)))) = (0 : Int32) then (jR_doIt_277 D (sm_up M 1 67 (l1 + (1 : Int32)))) else (sm_bi (jR_go (M 31 (Int32.toNatClampNeg l1)) D (sm_up M 1 67 (l1 + (1 : Int32)))) (fun x2 E2 M2 => sm_dq E2 D (if x2 = (0 : Int32) then (jR_doIt_281 D M2) else (jR_doIt_277 D M2)))))) else (jR_doIt_281 D (sm_up M 1 67 (l1 + (1 : Int32)))))) else (if ((sm_up M 1 67 (l1 + (1 : Int32))) 29 (Int32.toNatClampNeg l1)) = (11 : Int32) then (sm_ck (M 30 (Int32.toNatClampNeg l1)) 6 (if ((sm_up M 1 67 (l1 + (1 : Int32))) 47 (Int32.toNatClampNeg (M 30 (Int32.toNatClampNeg l1)))) = (2 : Int32) then (sm_ck (M 30 (Int32.toNatClampNeg l1)) 6 (sm_bi (jR_go ((sm_up M 1 67 (l1 + (1 : Int32))) 48 (Int32.toNatClampNeg (M 30 (Int32.toNatClampNeg l1)))) D (sm_up M 1 67 (l1 + (1 : Int32)))) (fun x1 E1 M1 => sm_dq E1 D (if x1 = (0 : Int32) then (jR_doIt_310 D M1) else (jR_doIt_311 (1 : Int32) D M1))))) else (jR_doIt_310 D (sm_up M 1 67 (l1 + (1 : Int32)))))) else (sm_bo (1 : Int32) (some ((1 : Int32), D, (sm_up (sm_up M 1 67 (l1 + (1 : Int32))) 1 66 (1 : Int32)))))))))))))))))))))
noncomputable def jR_run_16 (D : sm_D) (M : sm_M) : Option sm_S :=
  (some ((-1 : Int32), D, M))
noncomputable def jR_run_132 (l1 l2 s1 : Int32) (D : sm_D) (M : sm_M) : Option ((Int32 × Int32 × sm_M) ⊕ sm_S) :=
  (sm_dq D D (some (.inl (l1, l2, (sm_up M 1 66 s1)))))
noncomputable def jR_run_124 (l1 l2 : Int32) (D : sm_D) (M : sm_M) : Option ((Int32 × Int32 × sm_M) ⊕ sm_S) :=
  (jR_run_132 l1 l2 (M 1 66) D M)
noncomputable def jR_run_107 (l1 l2 l4 s1 : Int32) (D : sm_D) (M : sm_M) : Option ((Int32 × Int32 × sm_M) ⊕ sm_S) :=
  (if l4 = (0 : Int32) then (if ((sm_up M 1 67 s1) 1 66) = (3 : Int32) then (jR_run_124 l1 l2 D (sm_up M 1 67 s1)) else (jR_run_132 l1 l2 (2 : Int32) D (sm_up M 1 67 s1))) else (jR_run_124 l1 l2 D (sm_up M 1 67 s1)))
noncomputable def jR_run_91 (l1 l3 l4 s0 s1 : Int32) (D : sm_D) (M : sm_M) : Option ((Int32 × Int32 × sm_M) ⊕ sm_S) :=
  (if l4 = (0 : Int32) then (jR_run_107 l1 (s0 + s1) l4 l3 D M) else (jR_run_107 l1 (s0 + s1) l4 (M 1 67) D M))
noncomputable def jR_run_78 (l1 l2 l3 s0 : Int32) (D : sm_D) (M : sm_M) : Option ((Int32 × Int32 × sm_M) ⊕ sm_S) :=
  (if s0 = (0 : Int32) then (jR_run_91 l1 l3 s0 l2 (0 : Int32) D M) else (jR_run_91 l1 l3 s0 l2 (1 : Int32) D M))
noncomputable def jR_run_77 (l1 l2 l3 : Int32) (D : sm_D) (M : sm_M) : Option ((Int32 × Int32 × sm_M) ⊕ sm_S) :=
  (jR_run_78 l1 l2 l3 (0 : Int32) D M)
noncomputable def jR_run_52 (l1 l2 : Int32) (D : sm_D) (M : sm_M) : Option ((Int32 × Int32 × sm_M) ⊕ sm_S) :=
  (if (M 1 67) < (M 1 68) then (sm_bi (jR_doIt (M 1 67) D M) (fun x1 E1 M1 => sm_dq E1 D (if x1 = (0 : Int32) then (jR_run_77 l1 l2 (M 1 67) D M1) else (jR_run_78 l1 l2 (M 1 67) (1 : Int32) D M1)))) else (jR_run_77 l1 l2 (M 1 67) D M))
noncomputable def jR_run_138 (l2 : Int32) (D : sm_D) (M : sm_M) : Option sm_S :=
  (some (l2, D, M))
noncomputable def jR_run_20_c (l1 l2 : Int32) (D : sm_D) (M : sm_M) : Option ((Int32 × Int32 × sm_M) ⊕ sm_S) :=
  (if l2 < l1 then (if (M 1 66) = (0 : Int32) then (if (M 1 68) < (0 : Int32) then (sm_bi (jR_go (0 : Int32) D M) (fun x1 E1 M1 => sm_dq E1 D (if x1 = (0 : Int32) then (jR_run_52 l1 l2 D (sm_up M1 1 68 (0 : Int32))) else (jR_run_52 l1 l2 D M1)))) else (jR_run_52 l1 l2 D M)) else (sm_inr (jR_run_138 l2 D M))) else (sm_inr (jR_run_138 l2 D M)))
noncomputable def jR_run_20_b (D : sm_D) (s : Int32 × Int32 × sm_M) : Option ((Int32 × Int32 × sm_M) ⊕ sm_S) := jR_run_20_c s.1 s.2.1 D s.2.2
noncomputable def jR_run_20 (l1 l2 : Int32) (D : sm_D) (M : sm_M) : Option sm_S := sm_lp (jR_run_20_b D) (l1, l2, M)
noncomputable def jR_run (l1 : Int32) (D : sm_D) (M : sm_M) : Option sm_S :=
  (if l1 < (0 : Int32) then (jR_run_16 D (sm_up M 1 0 (0 : Int32))) else (if (1000 : Int32) < l1 then (jR_run_16 D (sm_up M 1 0 (0 : Int32))) else (jR_run_20 l1 (0 : Int32) D (sm_up M 1 0 (0 : Int32)))))
noncomputable def jR_state (D : sm_D) (M : sm_M) : Option sm_S :=
  (some (((sm_up M 1 0 (0 : Int32)) 1 66), D, (sm_up M 1 0 (0 : Int32))))
noncomputable def jR_register_21 (D : sm_D) (M : sm_M) : Option sm_S :=
  (some ((-1 : Int32), D, M))
noncomputable def jR_register_42 (s0 : Int32) (D : sm_D) (M : sm_M) : Option sm_S :=
  (some (s0, D, M))
noncomputable def jR_register (l1 l2 : Int32) (D : sm_D) (M : sm_M) : Option sm_S :=
  (sm_bi (jR_isRegister l1 D (sm_up M 1 0 (0 : Int32))) (fun x1 E1 M1 => sm_dq E1 D (if x1 = (0 : Int32) then (jR_register_21 D M1) else (if l2 < (0 : Int32) then (jR_register_21 D M1) else (if (1 : Int32) < l2 then (jR_register_21 D M1) else (if l2 = (0 : Int32) then (sm_ck l1 6 (jR_register_42 (M1 47 (Int32.toNatClampNeg l1)) D M1)) else (sm_ck l1 6 (jR_register_42 (M1 48 (Int32.toNatClampNeg l1)) D M1))))))))
end
