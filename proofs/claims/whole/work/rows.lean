section
/-- a private method of a class that the tables say can be made, by its rows of tables_1 -/
def lw_okq (q : MethodName × Nat) : Prop := (q.1.cls ≠ "java/lang/invoke/MethodHandle" ∧ q.1.cls ≠ "java/lang/invoke/VarHandle") ∧ Cond.instantiable q.1.cls q.2 ∈ tables_1 ∧ Cond.privateMethod q.1 ∈ tables_1 ∧ Cond.instanceMethod q.1 ∈ tables_1
theorem lw_p0 : lw_okq (⟨"MovedWays", "firstWrong", "()I"⟩, 3) := ⟨⟨by decide +kernel, by decide +kernel⟩, List.mem_of_getElem? (i := 11) (by decide +kernel), List.mem_of_getElem? (i := 248) (by decide +kernel), List.mem_of_getElem? (i := 249) (by decide +kernel)⟩
theorem lw_p1 : lw_okq (⟨"MovedWays", "nextWord", "(I)I"⟩, 3) := ⟨⟨by decide +kernel, by decide +kernel⟩, List.mem_of_getElem? (i := 11) (by decide +kernel), List.mem_of_getElem? (i := 317) (by decide +kernel), List.mem_of_getElem? (i := 318) (by decide +kernel)⟩
theorem lw_p2 : lw_okq (⟨"MovedWays$Ways", "mayGo", "(II)Z"⟩, 15) := ⟨⟨by decide +kernel, by decide +kernel⟩, List.mem_of_getElem? (i := 19) (by decide +kernel), List.mem_of_getElem? (i := 326) (by decide +kernel), List.mem_of_getElem? (i := 327) (by decide +kernel)⟩
theorem lw_p3 : lw_okq (⟨"MovedWays$Ways", "sends", "(IIII)V"⟩, 15) := ⟨⟨by decide +kernel, by decide +kernel⟩, List.mem_of_getElem? (i := 19) (by decide +kernel), List.mem_of_getElem? (i := 335) (by decide +kernel), List.mem_of_getElem? (i := 336) (by decide +kernel)⟩
theorem lw_p4 : lw_okq (⟨"MovedWays$Ways", "challenges", "(II)I"⟩, 15) := ⟨⟨by decide +kernel, by decide +kernel⟩, List.mem_of_getElem? (i := 19) (by decide +kernel), List.mem_of_getElem? (i := 370) (by decide +kernel), List.mem_of_getElem? (i := 371) (by decide +kernel)⟩
theorem lw_p5 : lw_okq (⟨"MovedWays$Ways", "houseTakes", "(IIIII)I"⟩, 15) := ⟨⟨by decide +kernel, by decide +kernel⟩, List.mem_of_getElem? (i := 19) (by decide +kernel), List.mem_of_getElem? (i := 411) (by decide +kernel), List.mem_of_getElem? (i := 412) (by decide +kernel)⟩
theorem lw_p6 : lw_okq (⟨"MovedWays$Ways", "houseFollows", "(III)Z"⟩, 15) := ⟨⟨by decide +kernel, by decide +kernel⟩, List.mem_of_getElem? (i := 19) (by decide +kernel), List.mem_of_getElem? (i := 416) (by decide +kernel), List.mem_of_getElem? (i := 417) (by decide +kernel)⟩
theorem lw_p7 : lw_okq (⟨"MovedWays$Ways", "houseDoubts", "(I)V"⟩, 15) := ⟨⟨by decide +kernel, by decide +kernel⟩, List.mem_of_getElem? (i := 19) (by decide +kernel), List.mem_of_getElem? (i := 420) (by decide +kernel), List.mem_of_getElem? (i := 421) (by decide +kernel)⟩
theorem lw_p8 : lw_okq (⟨"MovedWays$Ways", "askedWith", "(III)I"⟩, 15) := ⟨⟨by decide +kernel, by decide +kernel⟩, List.mem_of_getElem? (i := 19) (by decide +kernel), List.mem_of_getElem? (i := 424) (by decide +kernel), List.mem_of_getElem? (i := 425) (by decide +kernel)⟩
theorem lw_p9 : lw_okq (⟨"MovedWays$Ways", "houseActs", "(IIII)V"⟩, 15) := ⟨⟨by decide +kernel, by decide +kernel⟩, List.mem_of_getElem? (i := 19) (by decide +kernel), List.mem_of_getElem? (i := 429) (by decide +kernel), List.mem_of_getElem? (i := 430) (by decide +kernel)⟩
theorem lw_p10 : lw_okq (⟨"MovedWays$Ways", "answered", "(II)I"⟩, 15) := ⟨⟨by decide +kernel, by decide +kernel⟩, List.mem_of_getElem? (i := 19) (by decide +kernel), List.mem_of_getElem? (i := 433) (by decide +kernel), List.mem_of_getElem? (i := 434) (by decide +kernel)⟩
theorem lw_p11 : lw_okq (⟨"MovedWays$Ways", "letsOut", "(I)V"⟩, 15) := ⟨⟨by decide +kernel, by decide +kernel⟩, List.mem_of_getElem? (i := 19) (by decide +kernel), List.mem_of_getElem? (i := 437) (by decide +kernel), List.mem_of_getElem? (i := 438) (by decide +kernel)⟩
theorem lw_p12 : lw_okq (⟨"MovedWays$Ways", "replaces", "(I)I"⟩, 15) := ⟨⟨by decide +kernel, by decide +kernel⟩, List.mem_of_getElem? (i := 19) (by decide +kernel), List.mem_of_getElem? (i := 441) (by decide +kernel), List.mem_of_getElem? (i := 442) (by decide +kernel)⟩
theorem lw_p13 : lw_okq (⟨"MovedWays$Ways", "guestTakes", "(IIII)I"⟩, 15) := ⟨⟨by decide +kernel, by decide +kernel⟩, List.mem_of_getElem? (i := 19) (by decide +kernel), List.mem_of_getElem? (i := 450) (by decide +kernel), List.mem_of_getElem? (i := 451) (by decide +kernel)⟩
theorem lw_p14 : lw_okq (⟨"MovedWays$Ways", "guestActs", "(III)V"⟩, 15) := ⟨⟨by decide +kernel, by decide +kernel⟩, List.mem_of_getElem? (i := 19) (by decide +kernel), List.mem_of_getElem? (i := 454) (by decide +kernel), List.mem_of_getElem? (i := 455) (by decide +kernel)⟩
theorem lw_p15 : lw_okq (⟨"MovedWays$Ways", "asksAgain", "(I)V"⟩, 15) := ⟨⟨by decide +kernel, by decide +kernel⟩, List.mem_of_getElem? (i := 19) (by decide +kernel), List.mem_of_getElem? (i := 489) (by decide +kernel), List.mem_of_getElem? (i := 490) (by decide +kernel)⟩
def lw_privs_1 : List (MethodName × Nat) := [(⟨"MovedWays", "firstWrong", "()I"⟩, 3), (⟨"MovedWays", "nextWord", "(I)I"⟩, 3), (⟨"MovedWays$Ways", "mayGo", "(II)Z"⟩, 15), (⟨"MovedWays$Ways", "sends", "(IIII)V"⟩, 15), (⟨"MovedWays$Ways", "challenges", "(II)I"⟩, 15), (⟨"MovedWays$Ways", "houseTakes", "(IIIII)I"⟩, 15), (⟨"MovedWays$Ways", "houseFollows", "(III)Z"⟩, 15), (⟨"MovedWays$Ways", "houseDoubts", "(I)V"⟩, 15), (⟨"MovedWays$Ways", "askedWith", "(III)I"⟩, 15), (⟨"MovedWays$Ways", "houseActs", "(IIII)V"⟩, 15), (⟨"MovedWays$Ways", "answered", "(II)I"⟩, 15), (⟨"MovedWays$Ways", "letsOut", "(I)V"⟩, 15), (⟨"MovedWays$Ways", "replaces", "(I)I"⟩, 15), (⟨"MovedWays$Ways", "guestTakes", "(IIII)I"⟩, 15), (⟨"MovedWays$Ways", "guestActs", "(III)V"⟩, 15), (⟨"MovedWays$Ways", "asksAgain", "(I)V"⟩, 15)]
theorem lw_r1 : ∀ q ∈ lw_privs_1, lw_okq q := List.forall_mem_cons.mpr ⟨lw_p0, List.forall_mem_cons.mpr ⟨lw_p1, List.forall_mem_cons.mpr ⟨lw_p2, List.forall_mem_cons.mpr ⟨lw_p3, List.forall_mem_cons.mpr ⟨lw_p4, List.forall_mem_cons.mpr ⟨lw_p5, List.forall_mem_cons.mpr ⟨lw_p6, List.forall_mem_cons.mpr ⟨lw_p7, List.forall_mem_cons.mpr ⟨lw_p8, List.forall_mem_cons.mpr ⟨lw_p9, List.forall_mem_cons.mpr ⟨lw_p10, List.forall_mem_cons.mpr ⟨lw_p11, List.forall_mem_cons.mpr ⟨lw_p12, List.forall_mem_cons.mpr ⟨lw_p13, List.forall_mem_cons.mpr ⟨lw_p14, List.forall_mem_cons.mpr ⟨lw_p15, fun _ h => absurd h List.not_mem_nil⟩⟩⟩⟩⟩⟩⟩⟩⟩⟩⟩⟩⟩⟩⟩⟩
theorem lw_p16 : lw_okq (⟨"MovedWays$Ways", "givesUp", "(I)V"⟩, 15) := ⟨⟨by decide +kernel, by decide +kernel⟩, List.mem_of_getElem? (i := 19) (by decide +kernel), List.mem_of_getElem? (i := 493) (by decide +kernel), List.mem_of_getElem? (i := 494) (by decide +kernel)⟩
theorem lw_p17 : lw_okq (⟨"MovedWays$Ways", "forgets", "(I)V"⟩, 15) := ⟨⟨by decide +kernel, by decide +kernel⟩, List.mem_of_getElem? (i := 19) (by decide +kernel), List.mem_of_getElem? (i := 497) (by decide +kernel), List.mem_of_getElem? (i := 498) (by decide +kernel)⟩
theorem lw_p18 : lw_okq (⟨"MovedWays$Ways", "dropsHeldOf", "(I)V"⟩, 15) := ⟨⟨by decide +kernel, by decide +kernel⟩, List.mem_of_getElem? (i := 19) (by decide +kernel), List.mem_of_getElem? (i := 501) (by decide +kernel), List.mem_of_getElem? (i := 502) (by decide +kernel)⟩
theorem lw_p19 : lw_okq (⟨"MovedWays$Ways", "leaves", "(I)V"⟩, 15) := ⟨⟨by decide +kernel, by decide +kernel⟩, List.mem_of_getElem? (i := 19) (by decide +kernel), List.mem_of_getElem? (i := 505) (by decide +kernel), List.mem_of_getElem? (i := 506) (by decide +kernel)⟩
theorem lw_p20 : lw_okq (⟨"MovedWays", "drawOne", "()V"⟩, 3) := ⟨⟨by decide +kernel, by decide +kernel⟩, List.mem_of_getElem? (i := 11) (by decide +kernel), List.mem_of_getElem? (i := 515) (by decide +kernel), List.mem_of_getElem? (i := 516) (by decide +kernel)⟩
theorem lw_p21 : lw_okq (⟨"MovedWays", "goOrOpen", "(I)V"⟩, 3) := ⟨⟨by decide +kernel, by decide +kernel⟩, List.mem_of_getElem? (i := 11) (by decide +kernel), List.mem_of_getElem? (i := 529) (by decide +kernel), List.mem_of_getElem? (i := 530) (by decide +kernel)⟩
theorem lw_p22 : lw_okq (⟨"MovedWaysModel", "manyOf", "(II)I"⟩, 8) := ⟨⟨by decide +kernel, by decide +kernel⟩, List.mem_of_getElem? (i := 579) (by decide +kernel), List.mem_of_getElem? (i := 614) (by decide +kernel), List.mem_of_getElem? (i := 615) (by decide +kernel)⟩
theorem lw_p23 : lw_okq (⟨"MovedWaysModel", "toldMore", "(I)I"⟩, 8) := ⟨⟨by decide +kernel, by decide +kernel⟩, List.mem_of_getElem? (i := 579) (by decide +kernel), List.mem_of_getElem? (i := 618) (by decide +kernel), List.mem_of_getElem? (i := 619) (by decide +kernel)⟩
theorem lw_p24 : lw_okq (⟨"MovedWaysModel", "isSettled", "()Z"⟩, 8) := ⟨⟨by decide +kernel, by decide +kernel⟩, List.mem_of_getElem? (i := 579) (by decide +kernel), List.mem_of_getElem? (i := 622) (by decide +kernel), List.mem_of_getElem? (i := 623) (by decide +kernel)⟩
theorem lw_p25 : lw_okq (⟨"MovedWaysModel", "hasAll", "(I)Z"⟩, 8) := ⟨⟨by decide +kernel, by decide +kernel⟩, List.mem_of_getElem? (i := 579) (by decide +kernel), List.mem_of_getElem? (i := 626) (by decide +kernel), List.mem_of_getElem? (i := 627) (by decide +kernel)⟩
theorem lw_p26 : lw_okq (⟨"MovedWaysModel", "wrong", "()I"⟩, 8) := ⟨⟨by decide +kernel, by decide +kernel⟩, List.mem_of_getElem? (i := 579) (by decide +kernel), List.mem_of_getElem? (i := 630) (by decide +kernel), List.mem_of_getElem? (i := 631) (by decide +kernel)⟩
theorem lw_p27 : lw_okq (⟨"MovedWaysModel", "manyHas", "(I)I"⟩, 8) := ⟨⟨by decide +kernel, by decide +kernel⟩, List.mem_of_getElem? (i := 579) (by decide +kernel), List.mem_of_getElem? (i := 646) (by decide +kernel), List.mem_of_getElem? (i := 647) (by decide +kernel)⟩
theorem lw_p28 : lw_okq (⟨"MovedWaysModel", "inRow", "(I)I"⟩, 8) := ⟨⟨by decide +kernel, by decide +kernel⟩, List.mem_of_getElem? (i := 579) (by decide +kernel), List.mem_of_getElem? (i := 650) (by decide +kernel), List.mem_of_getElem? (i := 651) (by decide +kernel)⟩
theorem lw_p29 : lw_okq (⟨"MovedWaysModel", "heldFor", "(I)I"⟩, 8) := ⟨⟨by decide +kernel, by decide +kernel⟩, List.mem_of_getElem? (i := 579) (by decide +kernel), List.mem_of_getElem? (i := 662) (by decide +kernel), List.mem_of_getElem? (i := 663) (by decide +kernel)⟩
theorem lw_p30 : lw_okq (⟨"MovedWaysModel", "next", "(I)I"⟩, 8) := ⟨⟨by decide +kernel, by decide +kernel⟩, List.mem_of_getElem? (i := 579) (by decide +kernel), List.mem_of_getElem? (i := 692) (by decide +kernel), List.mem_of_getElem? (i := 693) (by decide +kernel)⟩
theorem lw_p31 : lw_okq (⟨"MovedWaysModel", "goes", "(IIII)V"⟩, 8) := ⟨⟨by decide +kernel, by decide +kernel⟩, List.mem_of_getElem? (i := 579) (by decide +kernel), List.mem_of_getElem? (i := 697) (by decide +kernel), List.mem_of_getElem? (i := 698) (by decide +kernel)⟩
def lw_privs_2 : List (MethodName × Nat) := [(⟨"MovedWays$Ways", "givesUp", "(I)V"⟩, 15), (⟨"MovedWays$Ways", "forgets", "(I)V"⟩, 15), (⟨"MovedWays$Ways", "dropsHeldOf", "(I)V"⟩, 15), (⟨"MovedWays$Ways", "leaves", "(I)V"⟩, 15), (⟨"MovedWays", "drawOne", "()V"⟩, 3), (⟨"MovedWays", "goOrOpen", "(I)V"⟩, 3), (⟨"MovedWaysModel", "manyOf", "(II)I"⟩, 8), (⟨"MovedWaysModel", "toldMore", "(I)I"⟩, 8), (⟨"MovedWaysModel", "isSettled", "()Z"⟩, 8), (⟨"MovedWaysModel", "hasAll", "(I)Z"⟩, 8), (⟨"MovedWaysModel", "wrong", "()I"⟩, 8), (⟨"MovedWaysModel", "manyHas", "(I)I"⟩, 8), (⟨"MovedWaysModel", "inRow", "(I)I"⟩, 8), (⟨"MovedWaysModel", "heldFor", "(I)I"⟩, 8), (⟨"MovedWaysModel", "next", "(I)I"⟩, 8), (⟨"MovedWaysModel", "goes", "(IIII)V"⟩, 8)]
theorem lw_r2 : ∀ q ∈ lw_privs_2, lw_okq q := List.forall_mem_cons.mpr ⟨lw_p16, List.forall_mem_cons.mpr ⟨lw_p17, List.forall_mem_cons.mpr ⟨lw_p18, List.forall_mem_cons.mpr ⟨lw_p19, List.forall_mem_cons.mpr ⟨lw_p20, List.forall_mem_cons.mpr ⟨lw_p21, List.forall_mem_cons.mpr ⟨lw_p22, List.forall_mem_cons.mpr ⟨lw_p23, List.forall_mem_cons.mpr ⟨lw_p24, List.forall_mem_cons.mpr ⟨lw_p25, List.forall_mem_cons.mpr ⟨lw_p26, List.forall_mem_cons.mpr ⟨lw_p27, List.forall_mem_cons.mpr ⟨lw_p28, List.forall_mem_cons.mpr ⟨lw_p29, List.forall_mem_cons.mpr ⟨lw_p30, List.forall_mem_cons.mpr ⟨lw_p31, fun _ h => absurd h List.not_mem_nil⟩⟩⟩⟩⟩⟩⟩⟩⟩⟩⟩⟩⟩⟩⟩⟩
theorem lw_p32 : lw_okq (⟨"MovedWaysModel", "maySend", "(II)Z"⟩, 8) := ⟨⟨by decide +kernel, by decide +kernel⟩, List.mem_of_getElem? (i := 579) (by decide +kernel), List.mem_of_getElem? (i := 701) (by decide +kernel), List.mem_of_getElem? (i := 702) (by decide +kernel)⟩
theorem lw_p33 : lw_okq (⟨"MovedWaysModel", "send", "(IIII)V"⟩, 8) := ⟨⟨by decide +kernel, by decide +kernel⟩, List.mem_of_getElem? (i := 579) (by decide +kernel), List.mem_of_getElem? (i := 708) (by decide +kernel), List.mem_of_getElem? (i := 709) (by decide +kernel)⟩
theorem lw_p34 : lw_okq (⟨"MovedWaysModel", "hold", "(III)V"⟩, 8) := ⟨⟨by decide +kernel, by decide +kernel⟩, List.mem_of_getElem? (i := 579) (by decide +kernel), List.mem_of_getElem? (i := 712) (by decide +kernel), List.mem_of_getElem? (i := 713) (by decide +kernel)⟩
theorem lw_p35 : lw_okq (⟨"MovedWaysModel", "removeAt", "(IIII)V"⟩, 8) := ⟨⟨by decide +kernel, by decide +kernel⟩, List.mem_of_getElem? (i := 579) (by decide +kernel), List.mem_of_getElem? (i := 716) (by decide +kernel), List.mem_of_getElem? (i := 717) (by decide +kernel)⟩
theorem lw_p36 : lw_okq (⟨"MovedWaysModel", "leastSpare", "()I"⟩, 8) := ⟨⟨by decide +kernel, by decide +kernel⟩, List.mem_of_getElem? (i := 579) (by decide +kernel), List.mem_of_getElem? (i := 728) (by decide +kernel), List.mem_of_getElem? (i := 729) (by decide +kernel)⟩
theorem lw_p37 : lw_okq (⟨"MovedWaysModel", "challengeNow", "(II)V"⟩, 8) := ⟨⟨by decide +kernel, by decide +kernel⟩, List.mem_of_getElem? (i := 579) (by decide +kernel), List.mem_of_getElem? (i := 733) (by decide +kernel), List.mem_of_getElem? (i := 734) (by decide +kernel)⟩
theorem lw_p38 : lw_okq (⟨"MovedWaysModel", "goTo", "(I)V"⟩, 8) := ⟨⟨by decide +kernel, by decide +kernel⟩, List.mem_of_getElem? (i := 579) (by decide +kernel), List.mem_of_getElem? (i := 741) (by decide +kernel), List.mem_of_getElem? (i := 742) (by decide +kernel)⟩
theorem lw_p39 : lw_okq (⟨"MovedWaysModel", "word", "(IIZ)V"⟩, 8) := ⟨⟨by decide +kernel, by decide +kernel⟩, List.mem_of_getElem? (i := 579) (by decide +kernel), List.mem_of_getElem? (i := 745) (by decide +kernel), List.mem_of_getElem? (i := 746) (by decide +kernel)⟩
theorem lw_p40 : lw_okq (⟨"MovedWaysModel", "closeNow", "(I)V"⟩, 8) := ⟨⟨by decide +kernel, by decide +kernel⟩, List.mem_of_getElem? (i := 579) (by decide +kernel), List.mem_of_getElem? (i := 753) (by decide +kernel), List.mem_of_getElem? (i := 754) (by decide +kernel)⟩
theorem lw_p41 : lw_okq (⟨"MovedWaysModel", "isLetter", "(I)Z"⟩, 8) := ⟨⟨by decide +kernel, by decide +kernel⟩, List.mem_of_getElem? (i := 579) (by decide +kernel), List.mem_of_getElem? (i := 765) (by decide +kernel), List.mem_of_getElem? (i := 766) (by decide +kernel)⟩
theorem lw_p42 : lw_okq (⟨"MovedWaysModel", "arriveNow", "(I)I"⟩, 8) := ⟨⟨by decide +kernel, by decide +kernel⟩, List.mem_of_getElem? (i := 579) (by decide +kernel), List.mem_of_getElem? (i := 769) (by decide +kernel), List.mem_of_getElem? (i := 770) (by decide +kernel)⟩
theorem lw_p43 : lw_okq (⟨"MovedWaysModel", "takenByHouse", "(IIIII)I"⟩, 8) := ⟨⟨by decide +kernel, by decide +kernel⟩, List.mem_of_getElem? (i := 579) (by decide +kernel), List.mem_of_getElem? (i := 773) (by decide +kernel), List.mem_of_getElem? (i := 774) (by decide +kernel)⟩
theorem lw_p44 : lw_okq (⟨"MovedWaysModel", "isLive", "(I)Z"⟩, 8) := ⟨⟨by decide +kernel, by decide +kernel⟩, List.mem_of_getElem? (i := 579) (by decide +kernel), List.mem_of_getElem? (i := 777) (by decide +kernel), List.mem_of_getElem? (i := 778) (by decide +kernel)⟩
theorem lw_p45 : lw_okq (⟨"MovedWaysModel", "took", "(II)Z"⟩, 8) := ⟨⟨by decide +kernel, by decide +kernel⟩, List.mem_of_getElem? (i := 579) (by decide +kernel), List.mem_of_getElem? (i := 781) (by decide +kernel), List.mem_of_getElem? (i := 782) (by decide +kernel)⟩
theorem lw_p46 : lw_okq (⟨"MovedWaysModel", "note", "(II)V"⟩, 8) := ⟨⟨by decide +kernel, by decide +kernel⟩, List.mem_of_getElem? (i := 579) (by decide +kernel), List.mem_of_getElem? (i := 785) (by decide +kernel), List.mem_of_getElem? (i := 786) (by decide +kernel)⟩
theorem lw_p47 : lw_okq (⟨"MovedWaysModel", "follow", "(I)V"⟩, 8) := ⟨⟨by decide +kernel, by decide +kernel⟩, List.mem_of_getElem? (i := 579) (by decide +kernel), List.mem_of_getElem? (i := 789) (by decide +kernel), List.mem_of_getElem? (i := 790) (by decide +kernel)⟩
def lw_privs_3 : List (MethodName × Nat) := [(⟨"MovedWaysModel", "maySend", "(II)Z"⟩, 8), (⟨"MovedWaysModel", "send", "(IIII)V"⟩, 8), (⟨"MovedWaysModel", "hold", "(III)V"⟩, 8), (⟨"MovedWaysModel", "removeAt", "(IIII)V"⟩, 8), (⟨"MovedWaysModel", "leastSpare", "()I"⟩, 8), (⟨"MovedWaysModel", "challengeNow", "(II)V"⟩, 8), (⟨"MovedWaysModel", "goTo", "(I)V"⟩, 8), (⟨"MovedWaysModel", "word", "(IIZ)V"⟩, 8), (⟨"MovedWaysModel", "closeNow", "(I)V"⟩, 8), (⟨"MovedWaysModel", "isLetter", "(I)Z"⟩, 8), (⟨"MovedWaysModel", "arriveNow", "(I)I"⟩, 8), (⟨"MovedWaysModel", "takenByHouse", "(IIIII)I"⟩, 8), (⟨"MovedWaysModel", "isLive", "(I)Z"⟩, 8), (⟨"MovedWaysModel", "took", "(II)Z"⟩, 8), (⟨"MovedWaysModel", "note", "(II)V"⟩, 8), (⟨"MovedWaysModel", "follow", "(I)V"⟩, 8)]
theorem lw_r3 : ∀ q ∈ lw_privs_3, lw_okq q := List.forall_mem_cons.mpr ⟨lw_p32, List.forall_mem_cons.mpr ⟨lw_p33, List.forall_mem_cons.mpr ⟨lw_p34, List.forall_mem_cons.mpr ⟨lw_p35, List.forall_mem_cons.mpr ⟨lw_p36, List.forall_mem_cons.mpr ⟨lw_p37, List.forall_mem_cons.mpr ⟨lw_p38, List.forall_mem_cons.mpr ⟨lw_p39, List.forall_mem_cons.mpr ⟨lw_p40, List.forall_mem_cons.mpr ⟨lw_p41, List.forall_mem_cons.mpr ⟨lw_p42, List.forall_mem_cons.mpr ⟨lw_p43, List.forall_mem_cons.mpr ⟨lw_p44, List.forall_mem_cons.mpr ⟨lw_p45, List.forall_mem_cons.mpr ⟨lw_p46, List.forall_mem_cons.mpr ⟨lw_p47, fun _ h => absurd h List.not_mem_nil⟩⟩⟩⟩⟩⟩⟩⟩⟩⟩⟩⟩⟩⟩⟩⟩
theorem lw_p48 : lw_okq (⟨"MovedWaysModel", "challengeOnce", "(I)V"⟩, 8) := ⟨⟨by decide +kernel, by decide +kernel⟩, List.mem_of_getElem? (i := 579) (by decide +kernel), List.mem_of_getElem? (i := 793) (by decide +kernel), List.mem_of_getElem? (i := 794) (by decide +kernel)⟩
theorem lw_p49 : lw_okq (⟨"MovedWaysModel", "findAsked", "(III)I"⟩, 8) := ⟨⟨by decide +kernel, by decide +kernel⟩, List.mem_of_getElem? (i := 579) (by decide +kernel), List.mem_of_getElem? (i := 797) (by decide +kernel), List.mem_of_getElem? (i := 798) (by decide +kernel)⟩
theorem lw_p50 : lw_okq (⟨"MovedWaysModel", "proveBy", "(I)V"⟩, 8) := ⟨⟨by decide +kernel, by decide +kernel⟩, List.mem_of_getElem? (i := 579) (by decide +kernel), List.mem_of_getElem? (i := 801) (by decide +kernel), List.mem_of_getElem? (i := 802) (by decide +kernel)⟩
theorem lw_p51 : lw_okq (⟨"MovedWaysModel", "letOut", "(I)V"⟩, 8) := ⟨⟨by decide +kernel, by decide +kernel⟩, List.mem_of_getElem? (i := 579) (by decide +kernel), List.mem_of_getElem? (i := 805) (by decide +kernel), List.mem_of_getElem? (i := 806) (by decide +kernel)⟩
theorem lw_p52 : lw_okq (⟨"MovedWaysModel", "firstHeld", "(I)I"⟩, 8) := ⟨⟨by decide +kernel, by decide +kernel⟩, List.mem_of_getElem? (i := 579) (by decide +kernel), List.mem_of_getElem? (i := 809) (by decide +kernel), List.mem_of_getElem? (i := 810) (by decide +kernel)⟩
theorem lw_p53 : lw_okq (⟨"MovedWaysModel", "retire", "(II)V"⟩, 8) := ⟨⟨by decide +kernel, by decide +kernel⟩, List.mem_of_getElem? (i := 579) (by decide +kernel), List.mem_of_getElem? (i := 813) (by decide +kernel), List.mem_of_getElem? (i := 814) (by decide +kernel)⟩
theorem lw_p54 : lw_okq (⟨"MovedWaysModel", "confirm", "(II)V"⟩, 8) := ⟨⟨by decide +kernel, by decide +kernel⟩, List.mem_of_getElem? (i := 579) (by decide +kernel), List.mem_of_getElem? (i := 817) (by decide +kernel), List.mem_of_getElem? (i := 818) (by decide +kernel)⟩
theorem lw_p55 : lw_okq (⟨"MovedWaysModel", "takenByGuest", "(IIII)I"⟩, 8) := ⟨⟨by decide +kernel, by decide +kernel⟩, List.mem_of_getElem? (i := 579) (by decide +kernel), List.mem_of_getElem? (i := 821) (by decide +kernel), List.mem_of_getElem? (i := 822) (by decide +kernel)⟩
theorem lw_p56 : lw_okq (⟨"MovedWaysModel", "sureBy", "(I)V"⟩, 8) := ⟨⟨by decide +kernel, by decide +kernel⟩, List.mem_of_getElem? (i := 579) (by decide +kernel), List.mem_of_getElem? (i := 825) (by decide +kernel), List.mem_of_getElem? (i := 826) (by decide +kernel)⟩
theorem lw_p57 : lw_okq (⟨"MovedWaysModel", "tickNow", "()I"⟩, 8) := ⟨⟨by decide +kernel, by decide +kernel⟩, List.mem_of_getElem? (i := 579) (by decide +kernel), List.mem_of_getElem? (i := 848) (by decide +kernel), List.mem_of_getElem? (i := 849) (by decide +kernel)⟩
theorem lw_p58 : lw_okq (⟨"MovedWaysModel", "lookAt", "(I)Z"⟩, 8) := ⟨⟨by decide +kernel, by decide +kernel⟩, List.mem_of_getElem? (i := 579) (by decide +kernel), List.mem_of_getElem? (i := 852) (by decide +kernel), List.mem_of_getElem? (i := 853) (by decide +kernel)⟩
theorem lw_p59 : lw_okq (⟨"MovedWaysModel", "forget", "(I)V"⟩, 8) := ⟨⟨by decide +kernel, by decide +kernel⟩, List.mem_of_getElem? (i := 579) (by decide +kernel), List.mem_of_getElem? (i := 856) (by decide +kernel), List.mem_of_getElem? (i := 857) (by decide +kernel)⟩
theorem lw_p60 : lw_okq (⟨"MovedWaysModel", "giveUp", "(I)V"⟩, 8) := ⟨⟨by decide +kernel, by decide +kernel⟩, List.mem_of_getElem? (i := 579) (by decide +kernel), List.mem_of_getElem? (i := 860) (by decide +kernel), List.mem_of_getElem? (i := 861) (by decide +kernel)⟩
theorem lw_p61 : lw_okq (⟨"MovedWaysModel", "chance", "()I"⟩, 8) := ⟨⟨by decide +kernel, by decide +kernel⟩, List.mem_of_getElem? (i := 579) (by decide +kernel), List.mem_of_getElem? (i := 869) (by decide +kernel), List.mem_of_getElem? (i := 870) (by decide +kernel)⟩
theorem lw_p62 : lw_okq (⟨"MovedWaysModel", "draw", "(I)I"⟩, 8) := ⟨⟨by decide +kernel, by decide +kernel⟩, List.mem_of_getElem? (i := 579) (by decide +kernel), List.mem_of_getElem? (i := 873) (by decide +kernel), List.mem_of_getElem? (i := 874) (by decide +kernel)⟩
theorem lw_p63 : lw_okq (⟨"MovedWaysModel", "copy", "(II)V"⟩, 8) := ⟨⟨by decide +kernel, by decide +kernel⟩, List.mem_of_getElem? (i := 579) (by decide +kernel), List.mem_of_getElem? (i := 906) (by decide +kernel), List.mem_of_getElem? (i := 907) (by decide +kernel)⟩
def lw_privs_4 : List (MethodName × Nat) := [(⟨"MovedWaysModel", "challengeOnce", "(I)V"⟩, 8), (⟨"MovedWaysModel", "findAsked", "(III)I"⟩, 8), (⟨"MovedWaysModel", "proveBy", "(I)V"⟩, 8), (⟨"MovedWaysModel", "letOut", "(I)V"⟩, 8), (⟨"MovedWaysModel", "firstHeld", "(I)I"⟩, 8), (⟨"MovedWaysModel", "retire", "(II)V"⟩, 8), (⟨"MovedWaysModel", "confirm", "(II)V"⟩, 8), (⟨"MovedWaysModel", "takenByGuest", "(IIII)I"⟩, 8), (⟨"MovedWaysModel", "sureBy", "(I)V"⟩, 8), (⟨"MovedWaysModel", "tickNow", "()I"⟩, 8), (⟨"MovedWaysModel", "lookAt", "(I)Z"⟩, 8), (⟨"MovedWaysModel", "forget", "(I)V"⟩, 8), (⟨"MovedWaysModel", "giveUp", "(I)V"⟩, 8), (⟨"MovedWaysModel", "chance", "()I"⟩, 8), (⟨"MovedWaysModel", "draw", "(I)I"⟩, 8), (⟨"MovedWaysModel", "copy", "(II)V"⟩, 8)]
theorem lw_r4 : ∀ q ∈ lw_privs_4, lw_okq q := List.forall_mem_cons.mpr ⟨lw_p48, List.forall_mem_cons.mpr ⟨lw_p49, List.forall_mem_cons.mpr ⟨lw_p50, List.forall_mem_cons.mpr ⟨lw_p51, List.forall_mem_cons.mpr ⟨lw_p52, List.forall_mem_cons.mpr ⟨lw_p53, List.forall_mem_cons.mpr ⟨lw_p54, List.forall_mem_cons.mpr ⟨lw_p55, List.forall_mem_cons.mpr ⟨lw_p56, List.forall_mem_cons.mpr ⟨lw_p57, List.forall_mem_cons.mpr ⟨lw_p58, List.forall_mem_cons.mpr ⟨lw_p59, List.forall_mem_cons.mpr ⟨lw_p60, List.forall_mem_cons.mpr ⟨lw_p61, List.forall_mem_cons.mpr ⟨lw_p62, List.forall_mem_cons.mpr ⟨lw_p63, fun _ h => absurd h List.not_mem_nil⟩⟩⟩⟩⟩⟩⟩⟩⟩⟩⟩⟩⟩⟩⟩⟩
def lw_privs : List (MethodName × Nat) := lw_privs_1 ++ (lw_privs_2 ++ (lw_privs_3 ++ (lw_privs_4)))
def lw_tbl : List Cond := k2_sels lw_privs ++ tables_1
theorem lw_privs_ok : ∀ q ∈ lw_privs, lw_okq q := by
  show ∀ q ∈ lw_privs_1 ++ (lw_privs_2 ++ (lw_privs_3 ++ (lw_privs_4))), lw_okq q
  exact List.forall_mem_append.mpr ⟨lw_r1, List.forall_mem_append.mpr ⟨lw_r2, List.forall_mem_append.mpr ⟨lw_r3, lw_r4⟩⟩⟩
end
section
def RX0 : String := "MovedWays$End"
def TX0 : u_T := fun k => match k with
  | 0 => ("MovedWays$End", "words", "LMovedWays$NumberSet;", true)
  | 1 => ("MovedWays$End", "taken", "LMovedWays$NumberSet;", true)
  | 2 => ("MovedWays$End", "said", "I", false)
  | 3 => ("MovedWays$End", "confirmed", "I", false)
  | 4 => ("MovedWays$End", "numbered", "I", false)
  | 5 => ("MovedWays$End", "challenged", "I", false)
  | 6 => ("MovedWays$End", "current", "I", false)
  | _ => ("MovedWays$End", "earlier", "I", false)
def tyX0 : Nat → FieldType := fun k => match k with
  | 0 => .object "MovedWays$NumberSet"
  | 1 => .object "MovedWays$NumberSet"
  | 2 => .int
  | 3 => .int
  | 4 => .int
  | 5 => .int
  | 6 => .int
  | _ => .int
abbrev wsX00 : List Cond := u_ws RX0 TX0 8
theorem nmX0 : ∀ a, a < 8 → ∀ b, b < 8 → a ≠ b → (TX0 a).2.1 ≠ (TX0 b).2.1 := by decide +kernel
theorem tyX0_ok : ∀ k, k < 8 → parseFieldDescriptor (TX0 k).2.2.1 = some (tyX0 k) := by decide +kernel
abbrev cX0_init : ByteArray := prog_2_method_1_code
def yX0_init : MethodName := ⟨RX0, "<init>", "()V"⟩
abbrev cX0_confirm : ByteArray := prog_2_method_2_code
def yX0_confirm : MethodName := ⟨RX0, "confirm", "(I)V"⟩
abbrev cX0_moveTo : ByteArray := prog_2_method_3_code
def yX0_moveTo : MethodName := ⟨RX0, "moveTo", "(I)V"⟩
abbrev cX0_hasAllOf : ByteArray := prog_2_method_4_code
def yX0_hasAllOf : MethodName := ⟨RX0, "hasAllOf", "(LMovedWays$End;)Z"⟩
abbrev cX0_becomes : ByteArray := prog_2_method_5_code
def yX0_becomes : MethodName := ⟨RX0, "becomes", "(LMovedWays$End;)V"⟩
def RX1 : String := "MovedWays$NumberSet"
def TX1 : u_T := fun k => match k with
  | 0 => ("MovedWays$NumberSet", "limit", "I", true)
  | _ => ("MovedWays$NumberSet", "bits", "[J", true)
def tyX1 : Nat → FieldType := fun k => match k with
  | 0 => .int
  | _ => .array .long
abbrev wsX10 : List Cond := u_ws RX1 TX1 2
theorem nmX1 : ∀ a, a < 2 → ∀ b, b < 2 → a ≠ b → (TX1 a).2.1 ≠ (TX1 b).2.1 := by decide +kernel
theorem tyX1_ok : ∀ k, k < 2 → parseFieldDescriptor (TX1 k).2.2.1 = some (tyX1 k) := by decide +kernel
abbrev cX1_init : ByteArray := prog_3_method_1_code
def yX1_init : MethodName := ⟨RX1, "<init>", "(I)V"⟩
abbrev cX1_has : ByteArray := prog_3_method_2_code
def yX1_has : MethodName := ⟨RX1, "has", "(I)Z"⟩
abbrev cX1_add : ByteArray := prog_3_method_3_code
def yX1_add : MethodName := ⟨RX1, "add", "(I)V"⟩
abbrev cX1_remove : ByteArray := prog_3_method_4_code
def yX1_remove : MethodName := ⟨RX1, "remove", "(I)V"⟩
abbrev cX1_size : ByteArray := prog_3_method_5_code
def yX1_size : MethodName := ⟨RX1, "size", "()I"⟩
abbrev cX1_least : ByteArray := prog_3_method_6_code
def yX1_least : MethodName := ⟨RX1, "least", "()I"⟩
abbrev cX1_inRow : ByteArray := prog_3_method_7_code
def yX1_inRow : MethodName := ⟨RX1, "inRow", "()I"⟩
abbrev cX1_becomes : ByteArray := prog_3_method_8_code
def yX1_becomes : MethodName := ⟨RX1, "becomes", "(LMovedWays$NumberSet;)V"⟩
def RX2 : String := "MovedWays$Table"
def TX2 : u_T := fun k => match k with
  | 0 => ("MovedWays$Table", "limit", "I", true)
  | 1 => ("MovedWays$Table", "columns", "I", true)
  | 2 => ("MovedWays$Table", "cells", "[I", true)
  | _ => ("MovedWays$Table", "count", "I", false)
def tyX2 : Nat → FieldType := fun k => match k with
  | 0 => .int
  | 1 => .int
  | 2 => .array .int
  | _ => .int
abbrev wsX20 : List Cond := u_ws RX2 TX2 4
theorem nmX2 : ∀ a, a < 4 → ∀ b, b < 4 → a ≠ b → (TX2 a).2.1 ≠ (TX2 b).2.1 := by decide +kernel
theorem tyX2_ok : ∀ k, k < 4 → parseFieldDescriptor (TX2 k).2.2.1 = some (tyX2 k) := by decide +kernel
abbrev cX2_init : ByteArray := prog_4_method_1_code
def yX2_init : MethodName := ⟨RX2, "<init>", "(II)V"⟩
abbrev cX2_size : ByteArray := prog_4_method_2_code
def yX2_size : MethodName := ⟨RX2, "size", "()I"⟩
abbrev cX2_isFull : ByteArray := prog_4_method_3_code
def yX2_isFull : MethodName := ⟨RX2, "isFull", "()Z"⟩
abbrev cX2_hasRow : ByteArray := prog_4_method_4_code
def yX2_hasRow : MethodName := ⟨RX2, "hasRow", "(I)Z"⟩
abbrev cX2_hasColumn : ByteArray := prog_4_method_5_code
def yX2_hasColumn : MethodName := ⟨RX2, "hasColumn", "(I)Z"⟩
abbrev cX2_at : ByteArray := prog_4_method_6_code
def yX2_at : MethodName := ⟨RX2, "at", "(II)I"⟩
abbrev cX2_put : ByteArray := prog_4_method_7_code
def yX2_put : MethodName := ⟨RX2, "put", "(III)V"⟩
abbrev cX2_add : ByteArray := prog_4_method_8_code
def yX2_add : MethodName := ⟨RX2, "add", "(IIIIII)V"⟩
abbrev cX2_repeat : ByteArray := prog_4_method_9_code
def yX2_repeat : MethodName := ⟨RX2, "repeat", "(I)V"⟩
abbrev cX2_drop : ByteArray := prog_4_method_10_code
def yX2_drop : MethodName := ⟨RX2, "drop", "(I)V"⟩
abbrev cX2_empty : ByteArray := prog_4_method_11_code
def yX2_empty : MethodName := ⟨RX2, "empty", "()V"⟩
abbrev cX2_becomes : ByteArray := prog_4_method_12_code
def yX2_becomes : MethodName := ⟨RX2, "becomes", "(LMovedWays$Table;)V"⟩
def RX3 : String := "MovedWays$Ways"
def TX3 : u_T := fun k => match k with
  | 0 => ("MovedWays$Ways", "road", "LMovedWays$Table;", true)
  | 1 => ("MovedWays$Ways", "waiting", "LMovedWays$Table;", true)
  | 2 => ("MovedWays$Ways", "asked", "LMovedWays$Table;", true)
  | 3 => ("MovedWays$Ways", "places", "LMovedWays$Table;", true)
  | 4 => ("MovedWays$Ways", "live", "LMovedWays$NumberSet;", true)
  | 5 => ("MovedWays$Ways", "spare", "LMovedWays$NumberSet;", true)
  | 6 => ("MovedWays$Ways", "everSpare", "LMovedWays$NumberSet;", true)
  | 7 => ("MovedWays$Ways", "guest", "LMovedWays$End;", true)
  | 8 => ("MovedWays$Ways", "house", "LMovedWays$End;", true)
  | 9 => ("MovedWays$Ways", "dropped", "[I", true)
  | 10 => ("MovedWays$Ways", "moment", "I", false)
  | 11 => ("MovedWays$Ways", "given", "I", false)
  | 12 => ("MovedWays$Ways", "newest", "I", false)
  | 13 => ("MovedWays$Ways", "lost", "I", false)
  | _ => ("MovedWays$Ways", "seed", "I", false)
def tyX3 : Nat → FieldType := fun k => match k with
  | 0 => .object "MovedWays$Table"
  | 1 => .object "MovedWays$Table"
  | 2 => .object "MovedWays$Table"
  | 3 => .object "MovedWays$Table"
  | 4 => .object "MovedWays$NumberSet"
  | 5 => .object "MovedWays$NumberSet"
  | 6 => .object "MovedWays$NumberSet"
  | 7 => .object "MovedWays$End"
  | 8 => .object "MovedWays$End"
  | 9 => .array .int
  | 10 => .int
  | 11 => .int
  | 12 => .int
  | 13 => .int
  | _ => .int
abbrev wsX30 : List Cond := u_ws RX3 TX3 15
theorem nmX3 : ∀ a, a < 15 → ∀ b, b < 15 → a ≠ b → (TX3 a).2.1 ≠ (TX3 b).2.1 := by decide +kernel
theorem tyX3_ok : ∀ k, k < 15 → parseFieldDescriptor (TX3 k).2.2.1 = some (tyX3 k) := by decide +kernel
abbrev cX3_init : ByteArray := prog_5_method_1_code
def yX3_init : MethodName := ⟨RX3, "<init>", "()V"⟩
abbrev cX3_becomes : ByteArray := prog_5_method_2_code
def yX3_becomes : MethodName := ⟨RX3, "becomes", "(LMovedWays$Ways;)V"⟩
abbrev cX3_endOf : ByteArray := prog_5_method_3_code
def yX3_endOf : MethodName := ⟨RX3, "endOf", "(I)LMovedWays$End;"⟩
abbrev cX3_isOpen : ByteArray := prog_5_method_4_code
def yX3_isOpen : MethodName := ⟨RX3, "isOpen", "(I)Z"⟩
abbrev cX3_isProved : ByteArray := prog_5_method_5_code
def yX3_isProved : MethodName := ⟨RX3, "isProved", "(I)Z"⟩
abbrev cX3_droppedBy : ByteArray := prog_5_method_6_code
def yX3_droppedBy : MethodName := ⟨RX3, "droppedBy", "(I)I"⟩
abbrev cX3_waitingFor : ByteArray := prog_5_method_7_code
def yX3_waitingFor : MethodName := ⟨RX3, "waitingFor", "(I)I"⟩
abbrev cX3_isSettled : ByteArray := prog_5_method_8_code
def yX3_isSettled : MethodName := ⟨RX3, "isSettled", "()Z"⟩
abbrev cX3_draw : ByteArray := prog_5_method_9_code
def yX3_draw : MethodName := ⟨RX3, "draw", "(I)I"⟩
abbrev cX3_writes : ByteArray := prog_5_method_10_code
def yX3_writes : MethodName := ⟨RX3, "writes", "(IIII)V"⟩
abbrev cX3_sends : ByteArray := prog_5_method_11_code
def yX3_sends : MethodName := ⟨RX3, "sends", "(IIII)V"⟩
abbrev cX3_loses : ByteArray := prog_5_method_12_code
def yX3_loses : MethodName := ⟨RX3, "loses", "(I)V"⟩
abbrev cX3_delivers : ByteArray := prog_5_method_13_code
def yX3_delivers : MethodName := ⟨RX3, "delivers", "(I)I"⟩
abbrev cX3_sizeOf : ByteArray := prog_5_method_14_code
def yX3_sizeOf : MethodName := ⟨RX3, "sizeOf", "(I)I"⟩
abbrev cX3_mayGo : ByteArray := prog_5_method_15_code
def yX3_mayGo : MethodName := ⟨RX3, "mayGo", "(II)Z"⟩
abbrev cX3_letsOut : ByteArray := prog_5_method_16_code
def yX3_letsOut : MethodName := ⟨RX3, "letsOut", "(I)V"⟩
abbrev cX3_dropsHeldOf : ByteArray := prog_5_method_17_code
def yX3_dropsHeldOf : MethodName := ⟨RX3, "dropsHeldOf", "(I)V"⟩
abbrev cX3_challenges : ByteArray := prog_5_method_18_code
def yX3_challenges : MethodName := ⟨RX3, "challenges", "(II)I"⟩
abbrev cX3_askedWith : ByteArray := prog_5_method_19_code
def yX3_askedWith : MethodName := ⟨RX3, "askedWith", "(III)I"⟩
abbrev cX3_answered : ByteArray := prog_5_method_20_code
def yX3_answered : MethodName := ⟨RX3, "answered", "(II)I"⟩
abbrev cX3_houseTakes : ByteArray := prog_5_method_21_code
def yX3_houseTakes : MethodName := ⟨RX3, "houseTakes", "(IIIII)I"⟩
abbrev cX3_houseFollows : ByteArray := prog_5_method_22_code
def yX3_houseFollows : MethodName := ⟨RX3, "houseFollows", "(III)Z"⟩
abbrev cX3_houseDoubts : ByteArray := prog_5_method_23_code
def yX3_houseDoubts : MethodName := ⟨RX3, "houseDoubts", "(I)V"⟩
abbrev cX3_houseActs : ByteArray := prog_5_method_24_code
def yX3_houseActs : MethodName := ⟨RX3, "houseActs", "(IIII)V"⟩
abbrev cX3_replaces : ByteArray := prog_5_method_25_code
def yX3_replaces : MethodName := ⟨RX3, "replaces", "(I)I"⟩
abbrev cX3_guestTakes : ByteArray := prog_5_method_26_code
def yX3_guestTakes : MethodName := ⟨RX3, "guestTakes", "(IIII)I"⟩
abbrev cX3_guestActs : ByteArray := prog_5_method_27_code
def yX3_guestActs : MethodName := ⟨RX3, "guestActs", "(III)V"⟩
abbrev cX3_opens : ByteArray := prog_5_method_28_code
def yX3_opens : MethodName := ⟨RX3, "opens", "(I)I"⟩
abbrev cX3_closes : ByteArray := prog_5_method_29_code
def yX3_closes : MethodName := ⟨RX3, "closes", "(I)I"⟩
abbrev cX3_goesTo : ByteArray := prog_5_method_30_code
def yX3_goesTo : MethodName := ⟨RX3, "goesTo", "(I)V"⟩
abbrev cX3_passes : ByteArray := prog_5_method_31_code
def yX3_passes : MethodName := ⟨RX3, "passes", "()V"⟩
abbrev cX3_asksAgain : ByteArray := prog_5_method_32_code
def yX3_asksAgain : MethodName := ⟨RX3, "asksAgain", "(I)V"⟩
abbrev cX3_givesUp : ByteArray := prog_5_method_33_code
def yX3_givesUp : MethodName := ⟨RX3, "givesUp", "(I)V"⟩
abbrev cX3_forgets : ByteArray := prog_5_method_34_code
def yX3_forgets : MethodName := ⟨RX3, "forgets", "(I)V"⟩
abbrev cX3_leaves : ByteArray := prog_5_method_35_code
def yX3_leaves : MethodName := ⟨RX3, "leaves", "(I)V"⟩
def RX4 : String := "MovedWays"
def TX4 : u_T := fun k => match k with
  | 0 => ("MovedWays", "ways", "LMovedWays$Ways;", true)
  | 1 => ("MovedWays", "book", "LMovedWays$Table;", true)
  | _ => ("MovedWays", "images", "[LMovedWays$Ways;", true)
def tyX4 : Nat → FieldType := fun k => match k with
  | 0 => .object "MovedWays$Ways"
  | 1 => .object "MovedWays$Table"
  | _ => .array (.object "MovedWays$Ways")
abbrev wsX40 : List Cond := u_ws RX4 TX4 3
theorem nmX4 : ∀ a, a < 3 → ∀ b, b < 3 → a ≠ b → (TX4 a).2.1 ≠ (TX4 b).2.1 := by decide +kernel
theorem tyX4_ok : ∀ k, k < 3 → parseFieldDescriptor (TX4 k).2.2.1 = some (tyX4 k) := by decide +kernel
abbrev cX4_init : ByteArray := prog_1_method_1_code
def yX4_init : MethodName := ⟨RX4, "<init>", "()V"⟩
abbrev cX4_told : ByteArray := prog_1_method_2_code
def yX4_told : MethodName := ⟨RX4, "told", "(I)I"⟩
abbrev cX4_end : ByteArray := prog_1_method_3_code
def yX4_end : MethodName := ⟨RX4, "end", "(II)I"⟩
abbrev cX4_place : ByteArray := prog_1_method_4_code
def yX4_place : MethodName := ⟨RX4, "place", "(II)I"⟩
abbrev cX4_letter : ByteArray := prog_1_method_5_code
def yX4_letter : MethodName := ⟨RX4, "letter", "(II)I"⟩
abbrev cX4_challenge : ByteArray := prog_1_method_6_code
def yX4_challenge : MethodName := ⟨RX4, "challenge", "(II)I"⟩
abbrev cX4_held : ByteArray := prog_1_method_7_code
def yX4_held : MethodName := ⟨RX4, "held", "(II)I"⟩
abbrev cX4_name : ByteArray := prog_1_method_8_code
def yX4_name : MethodName := ⟨RX4, "name", "(I)I"⟩
abbrev cX4_word : ByteArray := prog_1_method_9_code
def yX4_word : MethodName := ⟨RX4, "word", "(II)I"⟩
abbrev cX4_say : ByteArray := prog_1_method_10_code
def yX4_say : MethodName := ⟨RX4, "say", "()I"⟩
abbrev cX4_open : ByteArray := prog_1_method_11_code
def yX4_open : MethodName := ⟨RX4, "open", "(I)I"⟩
abbrev cX4_go : ByteArray := prog_1_method_12_code
def yX4_go : MethodName := ⟨RX4, "go", "(I)I"⟩
abbrev cX4_close : ByteArray := prog_1_method_13_code
def yX4_close : MethodName := ⟨RX4, "close", "(I)I"⟩
abbrev cX4_speak : ByteArray := prog_1_method_14_code
def yX4_speak : MethodName := ⟨RX4, "speak", "()I"⟩
abbrev cX4_again : ByteArray := prog_1_method_15_code
def yX4_again : MethodName := ⟨RX4, "again", "(I)I"⟩
abbrev cX4_arrive : ByteArray := prog_1_method_16_code
def yX4_arrive : MethodName := ⟨RX4, "arrive", "(I)I"⟩
abbrev cX4_lose : ByteArray := prog_1_method_17_code
def yX4_lose : MethodName := ⟨RX4, "lose", "(I)I"⟩
abbrev cX4_twice : ByteArray := prog_1_method_18_code
def yX4_twice : MethodName := ⟨RX4, "twice", "(I)I"⟩
abbrev cX4_forge : ByteArray := prog_1_method_19_code
def yX4_forge : MethodName := ⟨RX4, "forge", "(IIIII)I"⟩
abbrev cX4_tick : ByteArray := prog_1_method_20_code
def yX4_tick : MethodName := ⟨RX4, "tick", "()I"⟩
abbrev cX4_drift : ByteArray := prog_1_method_21_code
def yX4_drift : MethodName := ⟨RX4, "drift", "(I)I"⟩
abbrev cX4_write : ByteArray := prog_1_method_22_code
def yX4_write : MethodName := ⟨RX4, "write", "(III)I"⟩
abbrev cX4_tear : ByteArray := prog_1_method_23_code
def yX4_tear : MethodName := ⟨RX4, "tear", "()I"⟩
abbrev cX4_seed : ByteArray := prog_1_method_24_code
def yX4_seed : MethodName := ⟨RX4, "seed", "(I)I"⟩
abbrev cX4_keep : ByteArray := prog_1_method_25_code
def yX4_keep : MethodName := ⟨RX4, "keep", "(I)I"⟩
abbrev cX4_goBack : ByteArray := prog_1_method_26_code
def yX4_goBack : MethodName := ⟨RX4, "goBack", "(I)I"⟩
abbrev cX4_isEnd : ByteArray := prog_1_method_27_code
def yX4_isEnd : MethodName := ⟨RX4, "isEnd", "(I)Z"⟩
abbrev cX4_isPlace : ByteArray := prog_1_method_28_code
def yX4_isPlace : MethodName := ⟨RX4, "isPlace", "(I)Z"⟩
abbrev cX4_otherOf : ByteArray := prog_1_method_29_code
def yX4_otherOf : MethodName := ⟨RX4, "otherOf", "(I)I"⟩
abbrev cX4_cell : ByteArray := prog_1_method_30_code
def yX4_cell : MethodName := ⟨RX4, "cell", "(LMovedWays$Table;II)I"⟩
abbrev cX4_nextWord : ByteArray := prog_1_method_31_code
def yX4_nextWord : MethodName := ⟨RX4, "nextWord", "(I)I"⟩
abbrev cX4_firstWrong : ByteArray := prog_1_method_32_code
def yX4_firstWrong : MethodName := ⟨RX4, "firstWrong", "()I"⟩
abbrev cX4_drawOne : ByteArray := prog_1_method_33_code
def yX4_drawOne : MethodName := ⟨RX4, "drawOne", "()V"⟩
abbrev cX4_goOrOpen : ByteArray := prog_1_method_34_code
def yX4_goOrOpen : MethodName := ⟨RX4, "goOrOpen", "(I)V"⟩
def RX5 : String := "MovedWaysModel"
def TX5 : u_T := fun k => match k with
  | 0 => ("MovedWaysModel", "w", "[I", true)
  | 1 => ("MovedWaysModel", "kept", "I", false)
  | 2 => ("MovedWaysModel", "seed", "I", false)
  | 3 => ("MovedWaysModel", "imageSeed", "[I", true)
  | 4 => ("MovedWaysModel", "bookOf", "[I", true)
  | 5 => ("MovedWaysModel", "bookAt", "[I", true)
  | 6 => ("MovedWaysModel", "bookIs", "[I", true)
  | _ => ("MovedWaysModel", "written", "I", false)
def tyX5 : Nat → FieldType := fun k => match k with
  | 0 => .array .int
  | 1 => .int
  | 2 => .int
  | 3 => .array .int
  | 4 => .array .int
  | 5 => .array .int
  | 6 => .array .int
  | _ => .int
abbrev wsX50 : List Cond := u_ws RX5 TX5 8
theorem nmX5 : ∀ a, a < 8 → ∀ b, b < 8 → a ≠ b → (TX5 a).2.1 ≠ (TX5 b).2.1 := by decide +kernel
theorem tyX5_ok : ∀ k, k < 8 → parseFieldDescriptor (TX5 k).2.2.1 = some (tyX5 k) := by decide +kernel
abbrev cX5_init : ByteArray := prog_7_method_1_code
def yX5_init : MethodName := ⟨RX5, "<init>", "()V"⟩
abbrev cX5_in : ByteArray := prog_7_method_2_code
def yX5_in : MethodName := ⟨RX5, "in", "(JJJ)Z"⟩
abbrev cX5_sizeOf : ByteArray := prog_7_method_3_code
def yX5_sizeOf : MethodName := ⟨RX5, "sizeOf", "(I)I"⟩
abbrev cX5_removeAt : ByteArray := prog_7_method_4_code
def yX5_removeAt : MethodName := ⟨RX5, "removeAt", "(IIII)V"⟩
abbrev cX5_send : ByteArray := prog_7_method_5_code
def yX5_send : MethodName := ⟨RX5, "send", "(IIII)V"⟩
abbrev cX5_maySend : ByteArray := prog_7_method_6_code
def yX5_maySend : MethodName := ⟨RX5, "maySend", "(II)Z"⟩
abbrev cX5_hold : ByteArray := prog_7_method_7_code
def yX5_hold : MethodName := ⟨RX5, "hold", "(III)V"⟩
abbrev cX5_goes : ByteArray := prog_7_method_8_code
def yX5_goes : MethodName := ⟨RX5, "goes", "(IIII)V"⟩
abbrev cX5_firstHeld : ByteArray := prog_7_method_9_code
def yX5_firstHeld : MethodName := ⟨RX5, "firstHeld", "(I)I"⟩
abbrev cX5_letOut : ByteArray := prog_7_method_10_code
def yX5_letOut : MethodName := ⟨RX5, "letOut", "(I)V"⟩
abbrev cX5_challengeNow : ByteArray := prog_7_method_11_code
def yX5_challengeNow : MethodName := ⟨RX5, "challengeNow", "(II)V"⟩
abbrev cX5_findAsked : ByteArray := prog_7_method_12_code
def yX5_findAsked : MethodName := ⟨RX5, "findAsked", "(III)I"⟩
abbrev cX5_challengeOnce : ByteArray := prog_7_method_13_code
def yX5_challengeOnce : MethodName := ⟨RX5, "challengeOnce", "(I)V"⟩
abbrev cX5_took : ByteArray := prog_7_method_14_code
def yX5_took : MethodName := ⟨RX5, "took", "(II)Z"⟩
abbrev cX5_note : ByteArray := prog_7_method_15_code
def yX5_note : MethodName := ⟨RX5, "note", "(II)V"⟩
abbrev cX5_inRow : ByteArray := prog_7_method_16_code
def yX5_inRow : MethodName := ⟨RX5, "inRow", "(I)I"⟩
abbrev cX5_word : ByteArray := prog_7_method_17_code
def yX5_word : MethodName := ⟨RX5, "word", "(IIZ)V"⟩
abbrev cX5_confirm : ByteArray := prog_7_method_18_code
def yX5_confirm : MethodName := ⟨RX5, "confirm", "(II)V"⟩
abbrev cX5_follow : ByteArray := prog_7_method_19_code
def yX5_follow : MethodName := ⟨RX5, "follow", "(I)V"⟩
abbrev cX5_proveBy : ByteArray := prog_7_method_20_code
def yX5_proveBy : MethodName := ⟨RX5, "proveBy", "(I)V"⟩
abbrev cX5_retire : ByteArray := prog_7_method_21_code
def yX5_retire : MethodName := ⟨RX5, "retire", "(II)V"⟩
abbrev cX5_isLive : ByteArray := prog_7_method_22_code
def yX5_isLive : MethodName := ⟨RX5, "isLive", "(I)Z"⟩
abbrev cX5_takenByHouse : ByteArray := prog_7_method_23_code
def yX5_takenByHouse : MethodName := ⟨RX5, "takenByHouse", "(IIIII)I"⟩
abbrev cX5_sureBy : ByteArray := prog_7_method_24_code
def yX5_sureBy : MethodName := ⟨RX5, "sureBy", "(I)V"⟩
abbrev cX5_takenByGuest : ByteArray := prog_7_method_25_code
def yX5_takenByGuest : MethodName := ⟨RX5, "takenByGuest", "(IIII)I"⟩
abbrev cX5_goTo : ByteArray := prog_7_method_26_code
def yX5_goTo : MethodName := ⟨RX5, "goTo", "(I)V"⟩
abbrev cX5_closeNow : ByteArray := prog_7_method_27_code
def yX5_closeNow : MethodName := ⟨RX5, "closeNow", "(I)V"⟩
abbrev cX5_leastSpare : ByteArray := prog_7_method_28_code
def yX5_leastSpare : MethodName := ⟨RX5, "leastSpare", "()I"⟩
abbrev cX5_forget : ByteArray := prog_7_method_29_code
def yX5_forget : MethodName := ⟨RX5, "forget", "(I)V"⟩
abbrev cX5_giveUp : ByteArray := prog_7_method_30_code
def yX5_giveUp : MethodName := ⟨RX5, "giveUp", "(I)V"⟩
abbrev cX5_lookAt : ByteArray := prog_7_method_31_code
def yX5_lookAt : MethodName := ⟨RX5, "lookAt", "(I)Z"⟩
abbrev cX5_tickNow : ByteArray := prog_7_method_32_code
def yX5_tickNow : MethodName := ⟨RX5, "tickNow", "()I"⟩
abbrev cX5_manyHas : ByteArray := prog_7_method_33_code
def yX5_manyHas : MethodName := ⟨RX5, "manyHas", "(I)I"⟩
abbrev cX5_hasAll : ByteArray := prog_7_method_34_code
def yX5_hasAll : MethodName := ⟨RX5, "hasAll", "(I)Z"⟩
abbrev cX5_isSettled : ByteArray := prog_7_method_35_code
def yX5_isSettled : MethodName := ⟨RX5, "isSettled", "()Z"⟩
abbrev cX5_manyOf : ByteArray := prog_7_method_36_code
def yX5_manyOf : MethodName := ⟨RX5, "manyOf", "(II)I"⟩
abbrev cX5_wrong : ByteArray := prog_7_method_37_code
def yX5_wrong : MethodName := ⟨RX5, "wrong", "()I"⟩
abbrev cX5_toldMore : ByteArray := prog_7_method_38_code
def yX5_toldMore : MethodName := ⟨RX5, "toldMore", "(I)I"⟩
abbrev cX5_told : ByteArray := prog_7_method_39_code
def yX5_told : MethodName := ⟨RX5, "told", "(I)I"⟩
abbrev cX5_isEnd : ByteArray := prog_7_method_40_code
def yX5_isEnd : MethodName := ⟨RX5, "isEnd", "(I)Z"⟩
abbrev cX5_isPlace : ByteArray := prog_7_method_41_code
def yX5_isPlace : MethodName := ⟨RX5, "isPlace", "(I)Z"⟩
abbrev cX5_end : ByteArray := prog_7_method_42_code
def yX5_end : MethodName := ⟨RX5, "end", "(II)I"⟩
abbrev cX5_heldFor : ByteArray := prog_7_method_43_code
def yX5_heldFor : MethodName := ⟨RX5, "heldFor", "(I)I"⟩
abbrev cX5_place : ByteArray := prog_7_method_44_code
def yX5_place : MethodName := ⟨RX5, "place", "(II)I"⟩
abbrev cX5_letter : ByteArray := prog_7_method_45_code
def yX5_letter : MethodName := ⟨RX5, "letter", "(II)I"⟩
abbrev cX5_challenge : ByteArray := prog_7_method_46_code
def yX5_challenge : MethodName := ⟨RX5, "challenge", "(II)I"⟩
abbrev cX5_held : ByteArray := prog_7_method_47_code
def yX5_held : MethodName := ⟨RX5, "held", "(II)I"⟩
abbrev cX5_name : ByteArray := prog_7_method_48_code
def yX5_name : MethodName := ⟨RX5, "name", "(I)I"⟩
abbrev cX5_word_ : ByteArray := prog_7_method_49_code
def yX5_word_ : MethodName := ⟨RX5, "word", "(II)I"⟩
abbrev cX5_next : ByteArray := prog_7_method_50_code
def yX5_next : MethodName := ⟨RX5, "next", "(I)I"⟩
abbrev cX5_say : ByteArray := prog_7_method_51_code
def yX5_say : MethodName := ⟨RX5, "say", "()I"⟩
abbrev cX5_speak : ByteArray := prog_7_method_52_code
def yX5_speak : MethodName := ⟨RX5, "speak", "()I"⟩
abbrev cX5_open : ByteArray := prog_7_method_53_code
def yX5_open : MethodName := ⟨RX5, "open", "(I)I"⟩
abbrev cX5_go : ByteArray := prog_7_method_54_code
def yX5_go : MethodName := ⟨RX5, "go", "(I)I"⟩
abbrev cX5_close : ByteArray := prog_7_method_55_code
def yX5_close : MethodName := ⟨RX5, "close", "(I)I"⟩
abbrev cX5_again : ByteArray := prog_7_method_56_code
def yX5_again : MethodName := ⟨RX5, "again", "(I)I"⟩
abbrev cX5_arriveNow : ByteArray := prog_7_method_57_code
def yX5_arriveNow : MethodName := ⟨RX5, "arriveNow", "(I)I"⟩
abbrev cX5_isLetter : ByteArray := prog_7_method_58_code
def yX5_isLetter : MethodName := ⟨RX5, "isLetter", "(I)Z"⟩
abbrev cX5_arrive : ByteArray := prog_7_method_59_code
def yX5_arrive : MethodName := ⟨RX5, "arrive", "(I)I"⟩
abbrev cX5_lose : ByteArray := prog_7_method_60_code
def yX5_lose : MethodName := ⟨RX5, "lose", "(I)I"⟩
abbrev cX5_twice : ByteArray := prog_7_method_61_code
def yX5_twice : MethodName := ⟨RX5, "twice", "(I)I"⟩
abbrev cX5_forge : ByteArray := prog_7_method_62_code
def yX5_forge : MethodName := ⟨RX5, "forge", "(IIIII)I"⟩
abbrev cX5_tick : ByteArray := prog_7_method_63_code
def yX5_tick : MethodName := ⟨RX5, "tick", "()I"⟩
abbrev cX5_draw : ByteArray := prog_7_method_64_code
def yX5_draw : MethodName := ⟨RX5, "draw", "(I)I"⟩
abbrev cX5_chance : ByteArray := prog_7_method_65_code
def yX5_chance : MethodName := ⟨RX5, "chance", "()I"⟩
abbrev cX5_drift : ByteArray := prog_7_method_66_code
def yX5_drift : MethodName := ⟨RX5, "drift", "(I)I"⟩
abbrev cX5_write : ByteArray := prog_7_method_67_code
def yX5_write : MethodName := ⟨RX5, "write", "(III)I"⟩
abbrev cX5_tear : ByteArray := prog_7_method_68_code
def yX5_tear : MethodName := ⟨RX5, "tear", "()I"⟩
abbrev cX5_seed : ByteArray := prog_7_method_69_code
def yX5_seed : MethodName := ⟨RX5, "seed", "(I)I"⟩
abbrev cX5_copy : ByteArray := prog_7_method_70_code
def yX5_copy : MethodName := ⟨RX5, "copy", "(II)V"⟩
abbrev cX5_keep : ByteArray := prog_7_method_71_code
def yX5_keep : MethodName := ⟨RX5, "keep", "(I)I"⟩
abbrev cX5_goBack : ByteArray := prog_7_method_72_code
def yX5_goBack : MethodName := ⟨RX5, "goBack", "(I)I"⟩
def RJ13 : String := "java/lang/Long"
def TJ13 : u_T := fun k => match k with
  | _ => ("", "", "", false)
def tyJ13 : Nat → FieldType := fun k => match k with
  | _ => .int
abbrev wsJ130 : List Cond := u_ws RJ13 TJ13 0
theorem nmJ13 : ∀ a, a < 0 → ∀ b, b < 0 → a ≠ b → (TJ13 a).2.1 ≠ (TJ13 b).2.1 := by decide +kernel
theorem tyJ13_ok : ∀ k, k < 0 → parseFieldDescriptor (TJ13 k).2.2.1 = some (tyJ13 k) := by decide +kernel
abbrev cJ13_bitCount_95d88 : ByteArray := prog_8_method_50_code
def yJ13_bitCount_95d88 : MethodName := ⟨RJ13, "bitCount", "(J)I"⟩
def RJ9 : String := "java/lang/Math"
def TJ9 : u_T := fun k => match k with
  | _ => ("", "", "", false)
def tyJ9 : Nat → FieldType := fun k => match k with
  | _ => .int
abbrev wsJ90 : List Cond := u_ws RJ9 TJ9 0
theorem nmJ9 : ∀ a, a < 0 → ∀ b, b < 0 → a ≠ b → (TJ9 a).2.1 ≠ (TJ9 b).2.1 := by decide +kernel
theorem tyJ9_ok : ∀ k, k < 0 → parseFieldDescriptor (TJ9 k).2.2.1 = some (tyJ9 k) := by decide +kernel
abbrev cJ9_max_7cf53 : ByteArray := prog_9_method_65_code
def yJ9_max_7cf53 : MethodName := ⟨RJ9, "max", "(II)I"⟩
abbrev cJ9_min_7cf53 : ByteArray := prog_9_method_69_code
def yJ9_min_7cf53 : MethodName := ⟨RJ9, "min", "(II)I"⟩
def RJ10 : String := "java/lang/System"
def TJ10 : u_T := fun k => match k with
  | _ => ("", "", "", false)
def tyJ10 : Nat → FieldType := fun k => match k with
  | _ => .int
abbrev wsJ100 : List Cond := u_ws RJ10 TJ10 0
theorem nmJ10 : ∀ a, a < 0 → ∀ b, b < 0 → a ≠ b → (TJ10 a).2.1 ≠ (TJ10 b).2.1 := by decide +kernel
theorem tyJ10_ok : ∀ k, k < 0 → parseFieldDescriptor (TJ10 k).2.2.1 = some (tyJ10 k) := by decide +kernel
def RL : String := "MovedWaysLaw"
abbrev cL_law : ByteArray := code
def yL_law : MethodName := ⟨RL, "law", "([I)Z"⟩
abbrev vwCl : List vw_C := [(RX0, TX0, 8), (RX1, TX1, 2), (RX2, TX2, 4), (RX3, TX3, 15), (RX4, TX4, 3), (RX5, TX5, 8)]
end
section
def pX0_init : List (Nat × Instr × Nat) := [(0, .aload_n 0, 1), (1, .invokespecial 3, 3), (4, .aload_n 0, 1), (5, .new 9, 3), (8, .dup, 1), (9, .bipush 100, 2), (11, .invokespecial 11, 3), (14, .putfield 14, 3), (17, .aload_n 0, 1), (18, .new 9, 3), (21, .dup, 1), (22, .ldc 20, 2), (24, .invokespecial 11, 3), (27, .putfield 21, 3), (30, .aload_n 0, 1), (31, .iconst (-1), 1), (32, .putfield 24, 3), (35, .return_, 1)]
theorem oX0_init : ∀ q ∈ pX0_init, decode cX0_init q.1 = .ok (q.2.1, q.2.2) := by decide +kernel
def pX0_confirm : List (Nat × Instr × Nat) := [(0, .aload_n 0, 1), (1, .aload_n 0, 1), (2, .getfield 28, 3), (5, .iload_n 1, 1), (6, .invokestatic 31, 3), (9, .putfield 28, 3), (12, .return_, 1)]
theorem oX0_confirm : ∀ q ∈ pX0_confirm, decode cX0_confirm q.1 = .ok (q.2.1, q.2.2) := by decide +kernel
def pX0_moveTo : List (Nat × Instr × Nat) := [(0, .aload_n 0, 1), (1, .aload_n 0, 1), (2, .getfield 37, 3), (5, .putfield 24, 3), (8, .aload_n 0, 1), (9, .iload_n 1, 1), (10, .putfield 37, 3), (13, .return_, 1)]
theorem oX0_moveTo : ∀ q ∈ pX0_moveTo, decode cX0_moveTo q.1 = .ok (q.2.1, q.2.2) := by decide +kernel
def pX0_hasAllOf : List (Nat × Instr × Nat) := [(0, .aload_n 0, 1), (1, .getfield 14, 3), (4, .invokevirtual 40, 3), (7, .aload_n 1, 1), (8, .getfield 44, 3), (11, .if_icmp .lt 7, 3), (14, .iconst 1, 1), (15, .goto 4, 3), (18, .iconst 0, 1), (19, .ireturn, 1)]
theorem oX0_hasAllOf : ∀ q ∈ pX0_hasAllOf, decode cX0_hasAllOf q.1 = .ok (q.2.1, q.2.2) := by decide +kernel
def pX0_becomes : List (Nat × Instr × Nat) := [(0, .aload_n 0, 1), (1, .getfield 14, 3), (4, .aload_n 1, 1), (5, .getfield 14, 3), (8, .invokevirtual 47, 3), (11, .aload_n 0, 1), (12, .getfield 21, 3), (15, .aload_n 1, 1), (16, .getfield 21, 3), (19, .invokevirtual 47, 3), (22, .aload_n 0, 1), (23, .aload_n 1, 1), (24, .getfield 44, 3), (27, .putfield 44, 3), (30, .aload_n 0, 1), (31, .aload_n 1, 1), (32, .getfield 28, 3), (35, .putfield 28, 3), (38, .aload_n 0, 1), (39, .aload_n 1, 1), (40, .getfield 51, 3), (43, .putfield 51, 3), (46, .aload_n 0, 1), (47, .aload_n 1, 1), (48, .getfield 54, 3), (51, .putfield 54, 3), (54, .aload_n 0, 1), (55, .aload_n 1, 1), (56, .getfield 37, 3), (59, .putfield 37, 3), (62, .aload_n 0, 1), (63, .aload_n 1, 1), (64, .getfield 24, 3), (67, .putfield 24, 3), (70, .return_, 1)]
theorem oX0_becomes : ∀ q ∈ pX0_becomes, decode cX0_becomes q.1 = .ok (q.2.1, q.2.2) := by decide +kernel
def pX1_init : List (Nat × Instr × Nat) := [(0, .aload_n 0, 1), (1, .invokespecial 3, 3), (4, .aload_n 0, 1), (5, .iconst 1, 1), (6, .iload_n 1, 1), (7, .invokestatic 9, 3), (10, .putfield 15, 3), (13, .aload_n 0, 1), (14, .aload_n 0, 1), (15, .getfield 15, 3), (18, .bipush 63, 2), (20, .iadd, 1), (21, .bipush 64, 2), (23, .idiv, 1), (24, .newarray .long, 2), (26, .putfield 21, 3), (29, .return_, 1)]
theorem oX1_init : ∀ q ∈ pX1_init, decode cX1_init q.1 = .ok (q.2.1, q.2.2) := by decide +kernel
def pX1_has : List (Nat × Instr × Nat) := [(0, .iload_n 1, 1), (1, .bipush 6, 2), (3, .ishr, 1), (4, .istore_n 2, 1), (5, .iload_n 1, 1), (6, .ifCond .lt 42, 3), (9, .iload_n 1, 1), (10, .aload_n 0, 1), (11, .getfield 15, 3), (14, .if_icmp .ge 34, 3), (17, .iload_n 2, 1), (18, .aload_n 0, 1), (19, .getfield 21, 3), (22, .arraylength, 1), (23, .if_icmp .ge 25, 3), (26, .aload_n 0, 1), (27, .getfield 21, 3), (30, .iload_n 2, 1), (31, .laload, 1), (32, .iload_n 1, 1), (33, .bipush 63, 2), (35, .iand, 1), (36, .lushr, 1), (37, .lconst 1, 1), (38, .land, 1), (39, .lconst 1, 1), (40, .lcmp, 1), (41, .ifCond .ne 7, 3), (44, .iconst 1, 1), (45, .goto 4, 3), (48, .iconst 0, 1), (49, .ireturn, 1)]
theorem oX1_has : ∀ q ∈ pX1_has, decode cX1_has q.1 = .ok (q.2.1, q.2.2) := by decide +kernel
def pX1_add : List (Nat × Instr × Nat) := [(0, .iload_n 1, 1), (1, .bipush 6, 2), (3, .ishr, 1), (4, .istore_n 2, 1), (5, .iload_n 1, 1), (6, .ifCond .lt 35, 3), (9, .iload_n 1, 1), (10, .aload_n 0, 1), (11, .getfield 15, 3), (14, .if_icmp .ge 27, 3), (17, .iload_n 2, 1), (18, .aload_n 0, 1), (19, .getfield 21, 3), (22, .arraylength, 1), (23, .if_icmp .ge 18, 3), (26, .aload_n 0, 1), (27, .getfield 21, 3), (30, .iload_n 2, 1), (31, .dup2, 1), (32, .laload, 1), (33, .lconst 1, 1), (34, .iload_n 1, 1), (35, .bipush 63, 2), (37, .iand, 1), (38, .lshl, 1), (39, .lor, 1), (40, .lastore, 1), (41, .return_, 1)]
theorem oX1_add : ∀ q ∈ pX1_add, decode cX1_add q.1 = .ok (q.2.1, q.2.2) := by decide +kernel
def pX1_remove : List (Nat × Instr × Nat) := [(0, .iload_n 1, 1), (1, .bipush 6, 2), (3, .ishr, 1), (4, .istore_n 2, 1), (5, .iload_n 1, 1), (6, .ifCond .lt 39, 3), (9, .iload_n 1, 1), (10, .aload_n 0, 1), (11, .getfield 15, 3), (14, .if_icmp .ge 31, 3), (17, .iload_n 2, 1), (18, .aload_n 0, 1), (19, .getfield 21, 3), (22, .arraylength, 1), (23, .if_icmp .ge 22, 3), (26, .aload_n 0, 1), (27, .getfield 21, 3), (30, .iload_n 2, 1), (31, .dup2, 1), (32, .laload, 1), (33, .lconst 1, 1), (34, .iload_n 1, 1), (35, .bipush 63, 2), (37, .iand, 1), (38, .lshl, 1), (39, .ldc2_w 25, 3), (42, .lxor, 1), (43, .land, 1), (44, .lastore, 1), (45, .return_, 1)]
theorem oX1_remove : ∀ q ∈ pX1_remove, decode cX1_remove q.1 = .ok (q.2.1, q.2.2) := by decide +kernel
def pX1_size : List (Nat × Instr × Nat) := [(0, .iconst 0, 1), (1, .istore_n 1, 1), (2, .iconst 0, 1), (3, .istore_n 2, 1), (4, .iload_n 2, 1), (5, .aload_n 0, 1), (6, .getfield 21, 3), (9, .arraylength, 1), (10, .if_icmp .ge 21, 3), (13, .iload_n 1, 1), (14, .aload_n 0, 1), (15, .getfield 21, 3), (18, .iload_n 2, 1), (19, .laload, 1), (20, .invokestatic 27, 3), (23, .iadd, 1), (24, .istore_n 1, 1), (25, .iinc 2 1, 3), (28, .goto (-24), 3), (31, .iload_n 1, 1), (32, .ireturn, 1)]
theorem oX1_size : ∀ q ∈ pX1_size, decode cX1_size q.1 = .ok (q.2.1, q.2.2) := by decide +kernel
def pX1_least : List (Nat × Instr × Nat) := [(0, .iconst 0, 1), (1, .istore_n 1, 1), (2, .iload_n 1, 1), (3, .aload_n 0, 1), (4, .getfield 15, 3), (7, .if_icmp .ge 19, 3), (10, .aload_n 0, 1), (11, .iload_n 1, 1), (12, .invokevirtual 33, 3), (15, .ifCond .eq 5, 3), (18, .iload_n 1, 1), (19, .ireturn, 1), (20, .iinc 1 1, 3), (23, .goto (-21), 3), (26, .iconst (-1), 1), (27, .ireturn, 1)]
theorem oX1_least : ∀ q ∈ pX1_least, decode cX1_least q.1 = .ok (q.2.1, q.2.2) := by decide +kernel
def pX1_inRow : List (Nat × Instr × Nat) := [(0, .iconst 0, 1), (1, .istore_n 1, 1), (2, .iload_n 1, 1), (3, .aload_n 0, 1), (4, .getfield 15, 3), (7, .if_icmp .ge 17, 3), (10, .aload_n 0, 1), (11, .iload_n 1, 1), (12, .invokevirtual 33, 3), (15, .ifCond .eq 9, 3), (18, .iinc 1 1, 3), (21, .goto (-19), 3), (24, .iload_n 1, 1), (25, .ireturn, 1)]
theorem oX1_inRow : ∀ q ∈ pX1_inRow, decode cX1_inRow q.1 = .ok (q.2.1, q.2.2) := by decide +kernel
def pX1_becomes : List (Nat × Instr × Nat) := [(0, .aload_n 1, 1), (1, .getfield 21, 3), (4, .arraylength, 1), (5, .aload_n 0, 1), (6, .getfield 21, 3), (9, .arraylength, 1), (10, .if_icmp .ne 21, 3), (13, .aload_n 1, 1), (14, .getfield 21, 3), (17, .iconst 0, 1), (18, .aload_n 0, 1), (19, .getfield 21, 3), (22, .iconst 0, 1), (23, .aload_n 0, 1), (24, .getfield 21, 3), (27, .arraylength, 1), (28, .invokestatic 37, 3), (31, .return_, 1)]
theorem oX1_becomes : ∀ q ∈ pX1_becomes, decode cX1_becomes q.1 = .ok (q.2.1, q.2.2) := by decide +kernel
def pX2_init : List (Nat × Instr × Nat) := [(0, .aload_n 0, 1), (1, .invokespecial 3, 3), (4, .aload_n 0, 1), (5, .iconst 1, 1), (6, .iload_n 1, 1), (7, .invokestatic 9, 3), (10, .putfield 15, 3), (13, .aload_n 0, 1), (14, .bipush 6, 2), (16, .iload_n 2, 1), (17, .invokestatic 21, 3), (20, .putfield 24, 3), (23, .aload_n 0, 1), (24, .aload_n 0, 1), (25, .getfield 15, 3), (28, .bipush 6, 2), (30, .imul, 1), (31, .newarray .int, 2), (33, .putfield 27, 3), (36, .return_, 1)]
theorem oX2_init : ∀ q ∈ pX2_init, decode cX2_init q.1 = .ok (q.2.1, q.2.2) := by decide +kernel
def pX2_size : List (Nat × Instr × Nat) := [(0, .aload_n 0, 1), (1, .getfield 31, 3), (4, .ireturn, 1)]
theorem oX2_size : ∀ q ∈ pX2_size, decode cX2_size q.1 = .ok (q.2.1, q.2.2) := by decide +kernel
def pX2_isFull : List (Nat × Instr × Nat) := [(0, .aload_n 0, 1), (1, .getfield 31, 3), (4, .aload_n 0, 1), (5, .getfield 15, 3), (8, .if_icmp .lt 7, 3), (11, .iconst 1, 1), (12, .goto 4, 3), (15, .iconst 0, 1), (16, .ireturn, 1)]
theorem oX2_isFull : ∀ q ∈ pX2_isFull, decode cX2_isFull q.1 = .ok (q.2.1, q.2.2) := by decide +kernel
def pX2_hasRow : List (Nat × Instr × Nat) := [(0, .iload_n 1, 1), (1, .ifCond .lt 15, 3), (4, .iload_n 1, 1), (5, .aload_n 0, 1), (6, .getfield 31, 3), (9, .if_icmp .ge 7, 3), (12, .iconst 1, 1), (13, .goto 4, 3), (16, .iconst 0, 1), (17, .ireturn, 1)]
theorem oX2_hasRow : ∀ q ∈ pX2_hasRow, decode cX2_hasRow q.1 = .ok (q.2.1, q.2.2) := by decide +kernel
def pX2_hasColumn : List (Nat × Instr × Nat) := [(0, .iload_n 1, 1), (1, .ifCond .lt 15, 3), (4, .iload_n 1, 1), (5, .aload_n 0, 1), (6, .getfield 24, 3), (9, .if_icmp .ge 7, 3), (12, .iconst 1, 1), (13, .goto 4, 3), (16, .iconst 0, 1), (17, .ireturn, 1)]
theorem oX2_hasColumn : ∀ q ∈ pX2_hasColumn, decode cX2_hasColumn q.1 = .ok (q.2.1, q.2.2) := by decide +kernel
def pX2_at : List (Nat × Instr × Nat) := [(0, .iload_n 1, 1), (1, .bipush 6, 2), (3, .imul, 1), (4, .iload_n 2, 1), (5, .iadd, 1), (6, .istore_n 3, 1), (7, .iload_n 1, 1), (8, .ifCond .lt 36, 3), (11, .iload_n 1, 1), (12, .aload_n 0, 1), (13, .getfield 31, 3), (16, .if_icmp .ge 28, 3), (19, .iload_n 2, 1), (20, .ifCond .lt 24, 3), (23, .iload_n 2, 1), (24, .aload_n 0, 1), (25, .getfield 24, 3), (28, .if_icmp .ge 16, 3), (31, .iload_n 3, 1), (32, .aload_n 0, 1), (33, .getfield 27, 3), (36, .arraylength, 1), (37, .if_icmp .ge 7, 3), (40, .iconst 1, 1), (41, .goto 4, 3), (44, .iconst 0, 1), (45, .istore 4, 2), (47, .iload 4, 2), (49, .ifCond .eq 12, 3), (52, .aload_n 0, 1), (53, .getfield 27, 3), (56, .iload_n 3, 1), (57, .iaload, 1), (58, .goto 4, 3), (61, .iconst (-1), 1), (62, .ireturn, 1)]
theorem oX2_at : ∀ q ∈ pX2_at, decode cX2_at q.1 = .ok (q.2.1, q.2.2) := by decide +kernel
def pX2_put : List (Nat × Instr × Nat) := [(0, .iload_n 1, 1), (1, .bipush 6, 2), (3, .imul, 1), (4, .iload_n 2, 1), (5, .iadd, 1), (6, .istore 4, 2), (8, .iload_n 1, 1), (9, .ifCond .lt 41, 3), (12, .iload_n 1, 1), (13, .aload_n 0, 1), (14, .getfield 31, 3), (17, .if_icmp .ge 33, 3), (20, .iload_n 2, 1), (21, .ifCond .lt 29, 3), (24, .iload_n 2, 1), (25, .aload_n 0, 1), (26, .getfield 24, 3), (29, .if_icmp .ge 21, 3), (32, .iload 4, 2), (34, .aload_n 0, 1), (35, .getfield 27, 3), (38, .arraylength, 1), (39, .if_icmp .ge 11, 3), (42, .aload_n 0, 1), (43, .getfield 27, 3), (46, .iload 4, 2), (48, .iload_n 3, 1), (49, .iastore, 1), (50, .return_, 1)]
theorem oX2_put : ∀ q ∈ pX2_put, decode cX2_put q.1 = .ok (q.2.1, q.2.2) := by decide +kernel
def pX2_add : List (Nat × Instr × Nat) := [(0, .aload_n 0, 1), (1, .getfield 31, 3), (4, .bipush 6, 2), (6, .imul, 1), (7, .istore 7, 2), (9, .aload_n 0, 1), (10, .getfield 31, 3), (13, .ifCond .lt 27, 3), (16, .aload_n 0, 1), (17, .getfield 31, 3), (20, .aload_n 0, 1), (21, .getfield 15, 3), (24, .if_icmp .ge 16, 3), (27, .iload 7, 2), (29, .bipush 6, 2), (31, .iadd, 1), (32, .aload_n 0, 1), (33, .getfield 27, 3), (36, .arraylength, 1), (37, .if_icmp .le 4, 3), (40, .return_, 1), (41, .aload_n 0, 1), (42, .getfield 27, 3), (45, .iload 7, 2), (47, .iload_n 1, 1), (48, .iastore, 1), (49, .aload_n 0, 1), (50, .getfield 27, 3), (53, .iload 7, 2), (55, .iconst 1, 1), (56, .iadd, 1), (57, .iload_n 2, 1), (58, .iastore, 1), (59, .aload_n 0, 1), (60, .getfield 27, 3), (63, .iload 7, 2), (65, .iconst 2, 1), (66, .iadd, 1), (67, .iload_n 3, 1), (68, .iastore, 1), (69, .aload_n 0, 1), (70, .getfield 27, 3), (73, .iload 7, 2), (75, .iconst 3, 1), (76, .iadd, 1), (77, .iload 4, 2), (79, .iastore, 1), (80, .aload_n 0, 1), (81, .getfield 27, 3), (84, .iload 7, 2), (86, .iconst 4, 1), (87, .iadd, 1), (88, .iload 5, 2), (90, .iastore, 1), (91, .aload_n 0, 1), (92, .getfield 27, 3), (95, .iload 7, 2), (97, .iconst 5, 1), (98, .iadd, 1), (99, .iload 6, 2), (101, .iastore, 1), (102, .aload_n 0, 1), (103, .dup, 1), (104, .getfield 31, 3), (107, .iconst 1, 1), (108, .iadd, 1), (109, .putfield 31, 3), (112, .return_, 1)]
theorem oX2_add : ∀ q ∈ pX2_add, decode cX2_add q.1 = .ok (q.2.1, q.2.2) := by decide +kernel
def pX2_repeat : List (Nat × Instr × Nat) := [(0, .iload_n 1, 1), (1, .ifCond .lt 56, 3), (4, .iload_n 1, 1), (5, .aload_n 0, 1), (6, .getfield 31, 3), (9, .if_icmp .ge 48, 3), (12, .aload_n 0, 1), (13, .getfield 31, 3), (16, .aload_n 0, 1), (17, .getfield 15, 3), (20, .if_icmp .ge 37, 3), (23, .aload_n 0, 1), (24, .getfield 27, 3), (27, .iload_n 1, 1), (28, .bipush 6, 2), (30, .imul, 1), (31, .aload_n 0, 1), (32, .getfield 27, 3), (35, .aload_n 0, 1), (36, .getfield 31, 3), (39, .bipush 6, 2), (41, .imul, 1), (42, .bipush 6, 2), (44, .invokestatic 34, 3), (47, .aload_n 0, 1), (48, .dup, 1), (49, .getfield 31, 3), (52, .iconst 1, 1), (53, .iadd, 1), (54, .putfield 31, 3), (57, .return_, 1)]
theorem oX2_repeat : ∀ q ∈ pX2_repeat, decode cX2_repeat q.1 = .ok (q.2.1, q.2.2) := by decide +kernel
def pX2_drop : List (Nat × Instr × Nat) := [(0, .iload_n 1, 1), (1, .ifCond .lt 11, 3), (4, .iload_n 1, 1), (5, .aload_n 0, 1), (6, .getfield 31, 3), (9, .if_icmp .lt 4, 3), (12, .return_, 1), (13, .iload_n 1, 1), (14, .aload_n 0, 1), (15, .getfield 31, 3), (18, .iconst 1, 1), (19, .isub, 1), (20, .if_icmp .ge 35, 3), (23, .aload_n 0, 1), (24, .getfield 27, 3), (27, .iload_n 1, 1), (28, .iconst 1, 1), (29, .iadd, 1), (30, .bipush 6, 2), (32, .imul, 1), (33, .aload_n 0, 1), (34, .getfield 27, 3), (37, .iload_n 1, 1), (38, .bipush 6, 2), (40, .imul, 1), (41, .aload_n 0, 1), (42, .getfield 31, 3), (45, .iload_n 1, 1), (46, .isub, 1), (47, .iconst 1, 1), (48, .isub, 1), (49, .bipush 6, 2), (51, .imul, 1), (52, .invokestatic 34, 3), (55, .aload_n 0, 1), (56, .dup, 1), (57, .getfield 31, 3), (60, .iconst 1, 1), (61, .isub, 1), (62, .putfield 31, 3), (65, .return_, 1)]
theorem oX2_drop : ∀ q ∈ pX2_drop, decode cX2_drop q.1 = .ok (q.2.1, q.2.2) := by decide +kernel
def pX2_empty : List (Nat × Instr × Nat) := [(0, .aload_n 0, 1), (1, .iconst 0, 1), (2, .putfield 31, 3), (5, .return_, 1)]
theorem oX2_empty : ∀ q ∈ pX2_empty, decode cX2_empty q.1 = .ok (q.2.1, q.2.2) := by decide +kernel
def pX2_becomes : List (Nat × Instr × Nat) := [(0, .aload_n 1, 1), (1, .getfield 27, 3), (4, .arraylength, 1), (5, .aload_n 0, 1), (6, .getfield 27, 3), (9, .arraylength, 1), (10, .if_icmp .ne 29, 3), (13, .aload_n 1, 1), (14, .getfield 27, 3), (17, .iconst 0, 1), (18, .aload_n 0, 1), (19, .getfield 27, 3), (22, .iconst 0, 1), (23, .aload_n 0, 1), (24, .getfield 27, 3), (27, .arraylength, 1), (28, .invokestatic 34, 3), (31, .aload_n 0, 1), (32, .aload_n 1, 1), (33, .getfield 31, 3), (36, .putfield 31, 3), (39, .return_, 1)]
theorem oX2_becomes : ∀ q ∈ pX2_becomes, decode cX2_becomes q.1 = .ok (q.2.1, q.2.2) := by decide +kernel
def pX3_init : List (Nat × Instr × Nat) := [(0, .aload_n 0, 1), (1, .invokespecial 3, 3), (4, .aload_n 0, 1), (5, .new 9, 3), (8, .dup, 1), (9, .bipush 24, 2), (11, .bipush 6, 2), (13, .invokespecial 11, 3), (16, .putfield 14, 3), (19, .aload_n 0, 1), (20, .new 9, 3), (23, .dup, 1), (24, .bipush 12, 2), (26, .iconst 3, 1), (27, .invokespecial 11, 3), (30, .putfield 20, 3), (33, .aload_n 0, 1), (34, .new 9, 3), (37, .dup, 1), (38, .bipush 6, 2), (40, .iconst 5, 1), (41, .invokespecial 11, 3), (44, .putfield 23, 3), (47, .aload_n 0, 1), (48, .new 9, 3), (51, .dup, 1), (52, .iconst 5, 1), (53, .iconst 5, 1), (54, .invokespecial 11, 3), (57, .putfield 26, 3), (60, .aload_n 0, 1), (61, .new 29, 3), (64, .dup, 1), (65, .bipush 40, 2), (67, .invokespecial 31, 3), (70, .putfield 34, 3), (73, .aload_n 0, 1), (74, .new 29, 3), (77, .dup, 1), (78, .bipush 40, 2), (80, .invokespecial 31, 3), (83, .putfield 38, 3), (86, .aload_n 0, 1), (87, .new 29, 3), (90, .dup, 1), (91, .bipush 40, 2), (93, .invokespecial 31, 3), (96, .putfield 41, 3), (99, .aload_n 0, 1), (100, .new 44, 3), (103, .dup, 1), (104, .invokespecial 46, 3), (107, .putfield 47, 3), (110, .aload_n 0, 1), (111, .new 44, 3), (114, .dup, 1), (115, .invokespecial 46, 3), (118, .putfield 51, 3), (121, .aload_n 0, 1), (122, .iconst 4, 1), (123, .newarray .int, 2), (125, .putfield 54, 3), (128, .aload_n 0, 1), (129, .iconst 2, 1), (130, .putfield 58, 3), (133, .aload_n 0, 1), (134, .iconst (-1), 1), (135, .putfield 62, 3), (138, .iconst 0, 1), (139, .istore_n 1, 1), (140, .iload_n 1, 1), (141, .iconst 5, 1), (142, .if_icmp .ge 22, 3), (145, .aload_n 0, 1), (146, .getfield 26, 3), (149, .iconst (-1), 1), (150, .iconst 0, 1), (151, .iconst 0, 1), (152, .iconst 0, 1), (153, .iconst 0, 1), (154, .iconst 0, 1), (155, .invokevirtual 65, 3), (158, .iinc 1 1, 3), (161, .goto (-21), 3), (164, .aload_n 0, 1), (165, .getfield 26, 3), (168, .iconst 0, 1), (169, .iconst 0, 1), (170, .iconst 0, 1), (171, .invokevirtual 69, 3), (174, .aload_n 0, 1), (175, .getfield 26, 3), (178, .iconst 0, 1), (179, .iconst 1, 1), (180, .iconst 1, 1), (181, .invokevirtual 69, 3), (184, .aload_n 0, 1), (185, .getfield 26, 3), (188, .iconst 0, 1), (189, .iconst 2, 1), (190, .iconst 1, 1), (191, .invokevirtual 69, 3), (194, .aload_n 0, 1), (195, .getfield 34, 3), (198, .iconst 0, 1), (199, .invokevirtual 73, 3), (202, .aload_n 0, 1), (203, .getfield 34, 3), (206, .iconst 1, 1), (207, .invokevirtual 73, 3), (210, .aload_n 0, 1), (211, .getfield 38, 3), (214, .iconst 1, 1), (215, .invokevirtual 73, 3), (218, .aload_n 0, 1), (219, .getfield 41, 3), (222, .iconst 1, 1), (223, .invokevirtual 73, 3), (226, .return_, 1)]
theorem oX3_init : ∀ q ∈ pX3_init, decode cX3_init q.1 = .ok (q.2.1, q.2.2) := by decide +kernel
def pX3_becomes : List (Nat × Instr × Nat) := [(0, .aload_n 0, 1), (1, .getfield 14, 3), (4, .aload_n 1, 1), (5, .getfield 14, 3), (8, .invokevirtual 75, 3), (11, .aload_n 0, 1), (12, .getfield 20, 3), (15, .aload_n 1, 1), (16, .getfield 20, 3), (19, .invokevirtual 75, 3), (22, .aload_n 0, 1), (23, .getfield 23, 3), (26, .aload_n 1, 1), (27, .getfield 23, 3), (30, .invokevirtual 75, 3), (33, .aload_n 0, 1), (34, .getfield 26, 3), (37, .aload_n 1, 1), (38, .getfield 26, 3), (41, .invokevirtual 75, 3), (44, .aload_n 0, 1), (45, .getfield 34, 3), (48, .aload_n 1, 1), (49, .getfield 34, 3), (52, .invokevirtual 79, 3), (55, .aload_n 0, 1), (56, .getfield 38, 3), (59, .aload_n 1, 1), (60, .getfield 38, 3), (63, .invokevirtual 79, 3), (66, .aload_n 0, 1), (67, .getfield 41, 3), (70, .aload_n 1, 1), (71, .getfield 41, 3), (74, .invokevirtual 79, 3), (77, .aload_n 0, 1), (78, .getfield 47, 3), (81, .aload_n 1, 1), (82, .getfield 47, 3), (85, .invokevirtual 82, 3), (88, .aload_n 0, 1), (89, .getfield 51, 3), (92, .aload_n 1, 1), (93, .getfield 51, 3), (96, .invokevirtual 82, 3), (99, .iconst 0, 1), (100, .istore_n 2, 1), (101, .iload_n 2, 1), (102, .aload_n 0, 1), (103, .getfield 54, 3), (106, .arraylength, 1), (107, .if_icmp .ge 20, 3), (110, .aload_n 0, 1), (111, .getfield 54, 3), (114, .iload_n 2, 1), (115, .aload_n 1, 1), (116, .iload_n 2, 1), (117, .invokevirtual 85, 3), (120, .iastore, 1), (121, .iinc 2 1, 3), (124, .goto (-23), 3), (127, .aload_n 0, 1), (128, .aload_n 1, 1), (129, .getfield 89, 3), (132, .putfield 89, 3), (135, .aload_n 0, 1), (136, .aload_n 1, 1), (137, .getfield 58, 3), (140, .putfield 58, 3), (143, .aload_n 0, 1), (144, .aload_n 1, 1), (145, .getfield 62, 3), (148, .putfield 62, 3), (151, .aload_n 0, 1), (152, .aload_n 1, 1), (153, .getfield 92, 3), (156, .putfield 92, 3), (159, .aload_n 0, 1), (160, .aload_n 1, 1), (161, .getfield 95, 3), (164, .putfield 95, 3), (167, .return_, 1)]
theorem oX3_becomes : ∀ q ∈ pX3_becomes, decode cX3_becomes q.1 = .ok (q.2.1, q.2.2) := by decide +kernel
end
section
def pX3_endOf : List (Nat × Instr × Nat) := [(0, .iload_n 1, 1), (1, .ifCond .ne 10, 3), (4, .aload_n 0, 1), (5, .getfield 47, 3), (8, .goto 7, 3), (11, .aload_n 0, 1), (12, .getfield 51, 3), (15, .areturn, 1)]
theorem oX3_endOf : ∀ q ∈ pX3_endOf, decode cX3_endOf q.1 = .ok (q.2.1, q.2.2) := by decide +kernel
def pX3_isOpen : List (Nat × Instr × Nat) := [(0, .aload_n 0, 1), (1, .getfield 26, 3), (4, .iload_n 1, 1), (5, .iconst 0, 1), (6, .invokevirtual 98, 3), (9, .iconst (-1), 1), (10, .if_icmp .eq 7, 3), (13, .iconst 1, 1), (14, .goto 4, 3), (17, .iconst 0, 1), (18, .ireturn, 1)]
theorem oX3_isOpen : ∀ q ∈ pX3_isOpen, decode cX3_isOpen q.1 = .ok (q.2.1, q.2.2) := by decide +kernel
def pX3_isProved : List (Nat × Instr × Nat) := [(0, .aload_n 0, 1), (1, .getfield 26, 3), (4, .iload_n 1, 1), (5, .iconst 2, 1), (6, .invokevirtual 98, 3), (9, .iconst 1, 1), (10, .if_icmp .ne 7, 3), (13, .iconst 1, 1), (14, .goto 4, 3), (17, .iconst 0, 1), (18, .ireturn, 1)]
theorem oX3_isProved : ∀ q ∈ pX3_isProved, decode cX3_isProved q.1 = .ok (q.2.1, q.2.2) := by decide +kernel
def pX3_droppedBy : List (Nat × Instr × Nat) := [(0, .iload_n 1, 1), (1, .ifCond .lt 21, 3), (4, .iload_n 1, 1), (5, .aload_n 0, 1), (6, .getfield 54, 3), (9, .arraylength, 1), (10, .if_icmp .ge 12, 3), (13, .aload_n 0, 1), (14, .getfield 54, 3), (17, .iload_n 1, 1), (18, .iaload, 1), (19, .goto 4, 3), (22, .iconst 0, 1), (23, .ireturn, 1)]
theorem oX3_droppedBy : ∀ q ∈ pX3_droppedBy, decode cX3_droppedBy q.1 = .ok (q.2.1, q.2.2) := by decide +kernel
def pX3_waitingFor : List (Nat × Instr × Nat) := [(0, .iconst 0, 1), (1, .istore_n 2, 1), (2, .iconst 0, 1), (3, .istore_n 3, 1), (4, .iload_n 3, 1), (5, .aload_n 0, 1), (6, .getfield 20, 3), (9, .invokevirtual 102, 3), (12, .if_icmp .ge 25, 3), (15, .aload_n 0, 1), (16, .getfield 20, 3), (19, .iload_n 3, 1), (20, .iconst 0, 1), (21, .invokevirtual 98, 3), (24, .iload_n 1, 1), (25, .if_icmp .ne 6, 3), (28, .iinc 2 1, 3), (31, .iinc 3 1, 3), (34, .goto (-30), 3), (37, .iload_n 2, 1), (38, .ireturn, 1)]
theorem oX3_waitingFor : ∀ q ∈ pX3_waitingFor, decode cX3_waitingFor q.1 = .ok (q.2.1, q.2.2) := by decide +kernel
def pX3_isSettled : List (Nat × Instr × Nat) := [(0, .aload_n 0, 1), (1, .getfield 47, 3), (4, .getfield 106, 3), (7, .istore_n 1, 1), (8, .iload_n 1, 1), (9, .aload_n 0, 1), (10, .getfield 51, 3), (13, .getfield 106, 3), (16, .if_icmp .ne 71, 3), (19, .aload_n 0, 1), (20, .iload_n 1, 1), (21, .invokevirtual 109, 3), (24, .ifCond .eq 63, 3), (27, .aload_n 0, 1), (28, .iload_n 1, 1), (29, .invokevirtual 113, 3), (32, .ifCond .eq 55, 3), (35, .aload_n 0, 1), (36, .getfield 14, 3), (39, .invokevirtual 102, 3), (42, .ifCond .ne 45, 3), (45, .aload_n 0, 1), (46, .getfield 20, 3), (49, .invokevirtual 102, 3), (52, .ifCond .ne 35, 3), (55, .aload_n 0, 1), (56, .getfield 47, 3), (59, .aload_n 0, 1), (60, .getfield 51, 3), (63, .invokevirtual 116, 3), (66, .ifCond .eq 21, 3), (69, .aload_n 0, 1), (70, .getfield 51, 3), (73, .aload_n 0, 1), (74, .getfield 47, 3), (77, .invokevirtual 116, 3), (80, .ifCond .eq 7, 3), (83, .iconst 1, 1), (84, .goto 4, 3), (87, .iconst 0, 1), (88, .ireturn, 1)]
theorem oX3_isSettled : ∀ q ∈ pX3_isSettled, decode cX3_isSettled q.1 = .ok (q.2.1, q.2.2) := by decide +kernel
def pX3_draw : List (Nat × Instr × Nat) := [(0, .aload_n 0, 1), (1, .aload_n 0, 1), (2, .getfield 95, 3), (5, .i2l, 1), (6, .ldc2_w 120, 3), (9, .lmul, 1), (10, .ldc2_w 122, 3), (13, .ladd, 1), (14, .ldc2_w 124, 3), (17, .land, 1), (18, .l2i, 1), (19, .putfield 95, 3), (22, .iload_n 1, 1), (23, .ifCond .le 15, 3), (26, .aload_n 0, 1), (27, .getfield 95, 3), (30, .ldc 126, 2), (32, .idiv, 1), (33, .iload_n 1, 1), (34, .irem, 1), (35, .goto 4, 3), (38, .iconst 0, 1), (39, .ireturn, 1)]
theorem oX3_draw : ∀ q ∈ pX3_draw, decode cX3_draw q.1 = .ok (q.2.1, q.2.2) := by decide +kernel
def pX3_writes : List (Nat × Instr × Nat) := [(0, .iload_n 1, 1), (1, .ifCond .eq 12, 3), (4, .aload_n 0, 1), (5, .iload_n 2, 1), (6, .iload_n 3, 1), (7, .invokevirtual 127, 3), (10, .ifCond .eq 13, 3), (13, .aload_n 0, 1), (14, .iload_n 1, 1), (15, .iload_n 2, 1), (16, .iload_n 3, 1), (17, .iload 4, 2), (19, .invokevirtual 131, 3), (22, .return_, 1), (23, .aload_n 0, 1), (24, .getfield 20, 3), (27, .invokevirtual 135, 3), (30, .ifCond .eq 11, 3), (33, .aload_n 0, 1), (34, .getfield 20, 3), (37, .iconst 0, 1), (38, .invokevirtual 139, 3), (41, .aload_n 0, 1), (42, .getfield 20, 3), (45, .iload_n 2, 1), (46, .iload_n 3, 1), (47, .iload 4, 2), (49, .iconst 0, 1), (50, .iconst 0, 1), (51, .iconst 0, 1), (52, .invokevirtual 65, 3), (55, .return_, 1)]
theorem oX3_writes : ∀ q ∈ pX3_writes, decode cX3_writes q.1 = .ok (q.2.1, q.2.2) := by decide +kernel
def pX3_sends : List (Nat × Instr × Nat) := [(0, .aload_n 0, 1), (1, .iload_n 1, 1), (2, .invokevirtual 142, 3), (5, .astore 5, 2), (7, .aload 5, 2), (9, .getfield 146, 3), (12, .istore 6, 2), (14, .aload 5, 2), (16, .iload 6, 2), (18, .iconst 1, 1), (19, .iadd, 1), (20, .putfield 146, 3), (23, .iload_n 1, 1), (24, .iconst 1, 1), (25, .if_icmp .ne 26, 3), (28, .aload_n 0, 1), (29, .getfield 26, 3), (32, .iload_n 2, 1), (33, .iconst 4, 1), (34, .aload_n 0, 1), (35, .getfield 26, 3), (38, .iload_n 2, 1), (39, .iconst 4, 1), (40, .invokevirtual 98, 3), (43, .iload_n 3, 1), (44, .invokestatic 149, 3), (47, .iadd, 1), (48, .invokevirtual 69, 3), (51, .aload_n 0, 1), (52, .getfield 14, 3), (55, .invokevirtual 135, 3), (58, .ifCond .eq 14, 3), (61, .aload_n 0, 1), (62, .dup, 1), (63, .getfield 92, 3), (66, .iconst 1, 1), (67, .iadd, 1), (68, .putfield 92, 3), (71, .return_, 1), (72, .iload_n 1, 1), (73, .ifCond .ne 15, 3), (76, .aload_n 0, 1), (77, .getfield 26, 3), (80, .iload_n 2, 1), (81, .iconst 0, 1), (82, .invokevirtual 98, 3), (85, .goto 4, 3), (88, .iconst (-1), 1), (89, .istore 7, 2), (91, .aload_n 0, 1), (92, .getfield 14, 3), (95, .iload_n 1, 1), (96, .iload_n 2, 1), (97, .iload 7, 2), (99, .iload 6, 2), (101, .iload_n 3, 1), (102, .iload 4, 2), (104, .invokevirtual 65, 3), (107, .return_, 1)]
theorem oX3_sends : ∀ q ∈ pX3_sends, decode cX3_sends q.1 = .ok (q.2.1, q.2.2) := by decide +kernel
def pX3_loses : List (Nat × Instr × Nat) := [(0, .aload_n 0, 1), (1, .getfield 14, 3), (4, .iload_n 1, 1), (5, .invokevirtual 152, 3), (8, .ifCond .eq 21, 3), (11, .aload_n 0, 1), (12, .getfield 14, 3), (15, .iload_n 1, 1), (16, .invokevirtual 139, 3), (19, .aload_n 0, 1), (20, .dup, 1), (21, .getfield 92, 3), (24, .iconst 1, 1), (25, .iadd, 1), (26, .putfield 92, 3), (29, .return_, 1)]
theorem oX3_loses : ∀ q ∈ pX3_loses, decode cX3_loses q.1 = .ok (q.2.1, q.2.2) := by decide +kernel
def pX3_delivers : List (Nat × Instr × Nat) := [(0, .aload_n 0, 1), (1, .getfield 14, 3), (4, .iload_n 1, 1), (5, .iconst 0, 1), (6, .invokevirtual 98, 3), (9, .istore_n 2, 1), (10, .aload_n 0, 1), (11, .getfield 14, 3), (14, .iload_n 1, 1), (15, .iconst 1, 1), (16, .invokevirtual 98, 3), (19, .istore_n 3, 1), (20, .aload_n 0, 1), (21, .getfield 14, 3), (24, .iload_n 1, 1), (25, .iconst 2, 1), (26, .invokevirtual 98, 3), (29, .istore 4, 2), (31, .aload_n 0, 1), (32, .getfield 14, 3), (35, .iload_n 1, 1), (36, .iconst 3, 1), (37, .invokevirtual 98, 3), (40, .istore 5, 2), (42, .aload_n 0, 1), (43, .getfield 14, 3), (46, .iload_n 1, 1), (47, .iconst 4, 1), (48, .invokevirtual 98, 3), (51, .istore 6, 2), (53, .aload_n 0, 1), (54, .getfield 14, 3), (57, .iload_n 1, 1), (58, .iconst 5, 1), (59, .invokevirtual 98, 3), (62, .istore 7, 2), (64, .aload_n 0, 1), (65, .getfield 14, 3), (68, .iload_n 1, 1), (69, .invokevirtual 139, 3), (72, .iload_n 2, 1), (73, .ifCond .ne 19, 3), (76, .aload_n 0, 1), (77, .iload_n 3, 1), (78, .iload 4, 2), (80, .iload 5, 2), (82, .iload 6, 2), (84, .iload 7, 2), (86, .invokevirtual 155, 3), (89, .goto 14, 3), (92, .aload_n 0, 1), (93, .iload_n 3, 1), (94, .iload 5, 2), (96, .iload 6, 2), (98, .iload 7, 2), (100, .invokevirtual 159, 3), (103, .istore 8, 2), (105, .iload 8, 2), (107, .ifCond .le 24, 3), (110, .iload 8, 2), (112, .aload_n 0, 1), (113, .getfield 54, 3), (116, .arraylength, 1), (117, .if_icmp .ge 14, 3), (120, .aload_n 0, 1), (121, .getfield 54, 3), (124, .iload 8, 2), (126, .dup2, 1), (127, .iaload, 1), (128, .iconst 1, 1), (129, .iadd, 1), (130, .iastore, 1), (131, .iload 8, 2), (133, .ireturn, 1)]
theorem oX3_delivers : ∀ q ∈ pX3_delivers, decode cX3_delivers q.1 = .ok (q.2.1, q.2.2) := by decide +kernel
def pX3_sizeOf : List (Nat × Instr × Nat) := [(0, .iload_n 0, 1), (1, .ifCond .lt 19, 3), (4, .iload_n 0, 1), (5, .getstatic 163, 3), (8, .arraylength, 1), (9, .if_icmp .ge 11, 3), (12, .getstatic 163, 3), (15, .iload_n 0, 1), (16, .iaload, 1), (17, .goto 4, 3), (20, .iconst 0, 1), (21, .ireturn, 1)]
theorem oX3_sizeOf : ∀ q ∈ pX3_sizeOf, decode cX3_sizeOf q.1 = .ok (q.2.1, q.2.2) := by decide +kernel
def pX3_mayGo : List (Nat × Instr × Nat) := [(0, .aload_n 0, 1), (1, .getfield 26, 3), (4, .iload_n 1, 1), (5, .iconst 2, 1), (6, .invokevirtual 98, 3), (9, .iconst 1, 1), (10, .if_icmp .eq 31, 3), (13, .aload_n 0, 1), (14, .getfield 26, 3), (17, .iload_n 1, 1), (18, .iconst 4, 1), (19, .invokevirtual 98, 3), (22, .iload_n 2, 1), (23, .invokestatic 149, 3), (26, .iadd, 1), (27, .iconst 3, 1), (28, .aload_n 0, 1), (29, .getfield 26, 3), (32, .iload_n 1, 1), (33, .iconst 3, 1), (34, .invokevirtual 98, 3), (37, .imul, 1), (38, .if_icmp .gt 7, 3), (41, .iconst 1, 1), (42, .goto 4, 3), (45, .iconst 0, 1), (46, .ireturn, 1)]
theorem oX3_mayGo : ∀ q ∈ pX3_mayGo, decode cX3_mayGo q.1 = .ok (q.2.1, q.2.2) := by decide +kernel
def pX3_letsOut : List (Nat × Instr × Nat) := [(0, .iconst 0, 1), (1, .istore_n 2, 1), (2, .aload_n 0, 1), (3, .getfield 20, 3), (6, .invokevirtual 102, 3), (9, .istore_n 3, 1), (10, .iload_n 3, 1), (11, .ifCond .le 79, 3), (14, .aload_n 0, 1), (15, .getfield 20, 3), (18, .iload_n 2, 1), (19, .iconst 0, 1), (20, .invokevirtual 98, 3), (23, .iload_n 1, 1), (24, .if_icmp .eq 9, 3), (27, .iinc 2 1, 3), (30, .goto 54, 3), (33, .aload_n 0, 1), (34, .getfield 20, 3), (37, .iload_n 2, 1), (38, .iconst 1, 1), (39, .invokevirtual 98, 3), (42, .istore 4, 2), (44, .aload_n 0, 1), (45, .getfield 20, 3), (48, .iload_n 2, 1), (49, .iconst 2, 1), (50, .invokevirtual 98, 3), (53, .istore 5, 2), (55, .aload_n 0, 1), (56, .iload_n 1, 1), (57, .iload 4, 2), (59, .invokevirtual 127, 3), (62, .ifCond .ne 4, 3), (65, .return_, 1), (66, .aload_n 0, 1), (67, .getfield 20, 3), (70, .iload_n 2, 1), (71, .invokevirtual 139, 3), (74, .aload_n 0, 1), (75, .iconst 1, 1), (76, .iload_n 1, 1), (77, .iload 4, 2), (79, .iload 5, 2), (81, .invokevirtual 131, 3), (84, .iinc 3 (-1), 3), (87, .goto (-77), 3), (90, .return_, 1)]
theorem oX3_letsOut : ∀ q ∈ pX3_letsOut, decode cX3_letsOut q.1 = .ok (q.2.1, q.2.2) := by decide +kernel
def pX3_dropsHeldOf : List (Nat × Instr × Nat) := [(0, .aload_n 0, 1), (1, .getfield 20, 3), (4, .invokevirtual 102, 3), (7, .iconst 1, 1), (8, .isub, 1), (9, .istore_n 2, 1), (10, .iload_n 2, 1), (11, .ifCond .lt 30, 3), (14, .aload_n 0, 1), (15, .getfield 20, 3), (18, .iload_n 2, 1), (19, .iconst 0, 1), (20, .invokevirtual 98, 3), (23, .iload_n 1, 1), (24, .if_icmp .ne 11, 3), (27, .aload_n 0, 1), (28, .getfield 20, 3), (31, .iload_n 2, 1), (32, .invokevirtual 139, 3), (35, .iinc 2 (-1), 3), (38, .goto (-28), 3), (41, .return_, 1)]
theorem oX3_dropsHeldOf : ∀ q ∈ pX3_dropsHeldOf, decode cX3_dropsHeldOf q.1 = .ok (q.2.1, q.2.2) := by decide +kernel
def pX3_challenges : List (Nat × Instr × Nat) := [(0, .aload_n 0, 1), (1, .iload_n 1, 1), (2, .invokevirtual 142, 3), (5, .astore_n 3, 1), (6, .aload_n 3, 1), (7, .getfield 166, 3), (10, .istore 4, 2), (12, .aload_n 3, 1), (13, .iload 4, 2), (15, .iconst 1, 1), (16, .iadd, 1), (17, .putfield 166, 3), (20, .aload_n 0, 1), (21, .getfield 23, 3), (24, .invokevirtual 135, 3), (27, .ifCond .eq 11, 3), (30, .aload_n 0, 1), (31, .getfield 23, 3), (34, .iconst 0, 1), (35, .invokevirtual 139, 3), (38, .aload_n 0, 1), (39, .getfield 23, 3), (42, .iload_n 1, 1), (43, .iload 4, 2), (45, .iload_n 2, 1), (46, .aload_n 0, 1), (47, .getfield 89, 3), (50, .iconst 0, 1), (51, .iconst 0, 1), (52, .invokevirtual 65, 3), (55, .iload 4, 2), (57, .ireturn, 1)]
theorem oX3_challenges : ∀ q ∈ pX3_challenges, decode cX3_challenges q.1 = .ok (q.2.1, q.2.2) := by decide +kernel
def pX3_askedWith : List (Nat × Instr × Nat) := [(0, .iconst 0, 1), (1, .istore 4, 2), (3, .iload 4, 2), (5, .aload_n 0, 1), (6, .getfield 23, 3), (9, .invokevirtual 102, 3), (12, .if_icmp .ge 40, 3), (15, .aload_n 0, 1), (16, .getfield 23, 3), (19, .iload 4, 2), (21, .iconst 0, 1), (22, .invokevirtual 98, 3), (25, .iload_n 1, 1), (26, .if_icmp .ne 20, 3), (29, .aload_n 0, 1), (30, .getfield 23, 3), (33, .iload 4, 2), (35, .iload_n 2, 1), (36, .invokevirtual 98, 3), (39, .iload_n 3, 1), (40, .if_icmp .ne 6, 3), (43, .iload 4, 2), (45, .ireturn, 1), (46, .iinc 4 1, 3), (49, .goto (-46), 3), (52, .iconst (-1), 1), (53, .ireturn, 1)]
theorem oX3_askedWith : ∀ q ∈ pX3_askedWith, decode cX3_askedWith q.1 = .ok (q.2.1, q.2.2) := by decide +kernel
def pX3_answered : List (Nat × Instr × Nat) := [(0, .aload_n 0, 1), (1, .iload_n 1, 1), (2, .iconst 1, 1), (3, .iload_n 2, 1), (4, .invokevirtual 169, 3), (7, .istore_n 3, 1), (8, .aload_n 0, 1), (9, .getfield 23, 3), (12, .iload_n 3, 1), (13, .iconst 2, 1), (14, .invokevirtual 98, 3), (17, .istore 4, 2), (19, .aload_n 0, 1), (20, .getfield 23, 3), (23, .iload_n 3, 1), (24, .invokevirtual 139, 3), (27, .iload 4, 2), (29, .ireturn, 1)]
theorem oX3_answered : ∀ q ∈ pX3_answered, decode cX3_answered q.1 = .ok (q.2.1, q.2.2) := by decide +kernel
def pX3_houseTakes : List (Nat × Instr × Nat) := [(0, .aload_n 0, 1), (1, .getfield 34, 3), (4, .iload_n 2, 1), (5, .invokevirtual 173, 3), (8, .ifCond .ne 5, 3), (11, .iconst 1, 1), (12, .ireturn, 1), (13, .aload_n 0, 1), (14, .getfield 51, 3), (17, .getfield 176, 3), (20, .iload_n 3, 1), (21, .invokevirtual 173, 3), (24, .ifCond .eq 5, 3), (27, .iconst 3, 1), (28, .ireturn, 1), (29, .aload_n 0, 1), (30, .getfield 51, 3), (33, .getfield 176, 3), (36, .iload_n 3, 1), (37, .invokevirtual 73, 3), (40, .aload_n 0, 1), (41, .getfield 26, 3), (44, .iload_n 1, 1), (45, .iconst 3, 1), (46, .aload_n 0, 1), (47, .getfield 26, 3), (50, .iload_n 1, 1), (51, .iconst 3, 1), (52, .invokevirtual 98, 3), (55, .iload 4, 2), (57, .invokestatic 149, 3), (60, .iadd, 1), (61, .invokevirtual 69, 3), (64, .aload_n 0, 1), (65, .iload_n 1, 1), (66, .iload_n 3, 1), (67, .iload 4, 2), (69, .invokevirtual 179, 3), (72, .ifCond .eq 8, 3), (75, .aload_n 0, 1), (76, .iload_n 1, 1), (77, .invokevirtual 183, 3), (80, .aload_n 0, 1), (81, .iload_n 1, 1), (82, .iload_n 2, 1), (83, .iload 4, 2), (85, .iload 5, 2), (87, .invokevirtual 186, 3), (90, .iload 4, 2), (92, .iconst 1, 1), (93, .if_icmp .ne 8, 3), (96, .aload_n 0, 1), (97, .iload_n 1, 1), (98, .invokevirtual 183, 3), (101, .aload_n 0, 1), (102, .iload_n 1, 1), (103, .invokevirtual 189, 3), (106, .iconst 0, 1), (107, .ireturn, 1)]
theorem oX3_houseTakes : ∀ q ∈ pX3_houseTakes, decode cX3_houseTakes q.1 = .ok (q.2.1, q.2.2) := by decide +kernel
def pX3_houseFollows : List (Nat × Instr × Nat) := [(0, .iload_n 3, 1), (1, .iconst 1, 1), (2, .if_icmp .eq 13, 3), (5, .iload_n 3, 1), (6, .iconst 2, 1), (7, .if_icmp .eq 8, 3), (10, .iload_n 3, 1), (11, .iconst 3, 1), (12, .if_icmp .ne 7, 3), (15, .iconst 1, 1), (16, .goto 4, 3), (19, .iconst 0, 1), (20, .istore 4, 2), (22, .iload 4, 2), (24, .ifCond .ne 11, 3), (27, .iload_n 2, 1), (28, .aload_n 0, 1), (29, .getfield 62, 3), (32, .if_icmp .gt 5, 3), (35, .iconst 0, 1), (36, .ireturn, 1), (37, .aload_n 0, 1), (38, .iload_n 2, 1), (39, .putfield 62, 3), (42, .iload_n 1, 1), (43, .aload_n 0, 1), (44, .getfield 51, 3), (47, .getfield 106, 3), (50, .if_icmp .ne 5, 3), (53, .iconst 0, 1), (54, .ireturn, 1), (55, .aload_n 0, 1), (56, .aload_n 0, 1), (57, .getfield 51, 3), (60, .getfield 106, 3), (63, .invokevirtual 109, 3), (66, .ifCond .eq 17, 3), (69, .aload_n 0, 1), (70, .getfield 51, 3), (73, .aload_n 0, 1), (74, .getfield 51, 3), (77, .getfield 106, 3), (80, .putfield 192, 3), (83, .aload_n 0, 1), (84, .getfield 51, 3), (87, .iload_n 1, 1), (88, .putfield 106, 3), (91, .iconst 1, 1), (92, .ireturn, 1)]
theorem oX3_houseFollows : ∀ q ∈ pX3_houseFollows, decode cX3_houseFollows q.1 = .ok (q.2.1, q.2.2) := by decide +kernel
def pX3_houseDoubts : List (Nat × Instr × Nat) := [(0, .aload_n 0, 1), (1, .iload_n 1, 1), (2, .invokevirtual 109, 3), (5, .ifCond .ne 27, 3), (8, .aload_n 0, 1), (9, .iconst 1, 1), (10, .iconst 2, 1), (11, .iload_n 1, 1), (12, .invokevirtual 169, 3), (15, .iconst (-1), 1), (16, .if_icmp .ne 16, 3), (19, .aload_n 0, 1), (20, .iconst 1, 1), (21, .iload_n 1, 1), (22, .iconst 1, 1), (23, .aload_n 0, 1), (24, .iconst 1, 1), (25, .iload_n 1, 1), (26, .invokevirtual 195, 3), (29, .invokevirtual 198, 3), (32, .return_, 1)]
theorem oX3_houseDoubts : ∀ q ∈ pX3_houseDoubts, decode cX3_houseDoubts q.1 = .ok (q.2.1, q.2.2) := by decide +kernel
def pX3_houseActs : List (Nat × Instr × Nat) := [(0, .iload_n 3, 1), (1, .tableswitch 172 0 5 #[39, 77, 89, 172, 118, 160], 39), (40, .aload_n 0, 1), (41, .getfield 51, 3), (44, .getfield 201, 3), (47, .iload 4, 2), (49, .invokevirtual 73, 3), (52, .aload_n 0, 1), (53, .iconst 1, 1), (54, .aload_n 0, 1), (55, .getfield 51, 3), (58, .getfield 106, 3), (61, .iconst 5, 1), (62, .aload_n 0, 1), (63, .getfield 51, 3), (66, .getfield 201, 3), (69, .invokevirtual 204, 3), (72, .invokevirtual 198, 3), (75, .goto 98, 3), (78, .aload_n 0, 1), (79, .iconst 1, 1), (80, .iload_n 1, 1), (81, .iconst 2, 1), (82, .iload 4, 2), (84, .invokevirtual 198, 3), (87, .goto 86, 3), (90, .aload_n 0, 1), (91, .iconst 1, 1), (92, .iload 4, 2), (94, .invokevirtual 207, 3), (97, .istore 5, 2), (99, .aload_n 0, 1), (100, .getfield 26, 3), (103, .iload 5, 2), (105, .iconst 2, 1), (106, .iconst 1, 1), (107, .invokevirtual 69, 3), (110, .aload_n 0, 1), (111, .iload 5, 2), (113, .invokevirtual 189, 3), (116, .goto 57, 3), (119, .iload 4, 2), (121, .iload_n 2, 1), (122, .if_icmp .ne 7, 3), (125, .iconst (-1), 1), (126, .goto 9, 3), (129, .aload_n 0, 1), (130, .iload 4, 2), (132, .invokevirtual 210, 3), (135, .istore 6, 2), (137, .iload 6, 2), (139, .iconst (-1), 1), (140, .if_icmp .eq 33, 3), (143, .aload_n 0, 1), (144, .iconst 1, 1), (145, .aload_n 0, 1), (146, .getfield 51, 3), (149, .getfield 106, 3), (152, .iconst 3, 1), (153, .iload 6, 2), (155, .invokevirtual 198, 3), (158, .goto 15, 3), (161, .aload_n 0, 1), (162, .getfield 51, 3), (165, .iload 4, 2), (167, .invokevirtual 213, 3), (170, .goto 3, 3), (173, .return_, 1)]
theorem oX3_houseActs : ∀ q ∈ pX3_houseActs, decode cX3_houseActs q.1 = .ok (q.2.1, q.2.2) := by decide +kernel
def pX3_replaces : List (Nat × Instr × Nat) := [(0, .aload_n 0, 1), (1, .getfield 34, 3), (4, .iload_n 1, 1), (5, .invokevirtual 173, 3), (8, .ifCond .ne 5, 3), (11, .iconst (-1), 1), (12, .ireturn, 1), (13, .aload_n 0, 1), (14, .getfield 34, 3), (17, .iload_n 1, 1), (18, .invokevirtual 216, 3), (21, .aload_n 0, 1), (22, .getfield 58, 3), (25, .bipush 40, 2), (27, .if_icmp .lt 5, 3), (30, .iconst (-1), 1), (31, .ireturn, 1), (32, .aload_n 0, 1), (33, .getfield 58, 3), (36, .istore_n 2, 1), (37, .aload_n 0, 1), (38, .iload_n 2, 1), (39, .iconst 1, 1), (40, .iadd, 1), (41, .putfield 58, 3), (44, .aload_n 0, 1), (45, .getfield 34, 3), (48, .iload_n 2, 1), (49, .invokevirtual 73, 3), (52, .iload_n 2, 1), (53, .ireturn, 1)]
theorem oX3_replaces : ∀ q ∈ pX3_replaces, decode cX3_replaces q.1 = .ok (q.2.1, q.2.2) := by decide +kernel
end
section
def pX3_guestTakes : List (Nat × Instr × Nat) := [(0, .aload_n 0, 1), (1, .iload_n 1, 1), (2, .invokevirtual 113, 3), (5, .ifCond .ne 5, 3), (8, .iconst 2, 1), (9, .ireturn, 1), (10, .aload_n 0, 1), (11, .getfield 47, 3), (14, .getfield 176, 3), (17, .iload_n 2, 1), (18, .invokevirtual 173, 3), (21, .ifCond .eq 5, 3), (24, .iconst 3, 1), (25, .ireturn, 1), (26, .aload_n 0, 1), (27, .getfield 47, 3), (30, .getfield 176, 3), (33, .iload_n 2, 1), (34, .invokevirtual 73, 3), (37, .aload_n 0, 1), (38, .iload_n 1, 1), (39, .iload_n 3, 1), (40, .iload 4, 2), (42, .invokevirtual 219, 3), (45, .iconst 0, 1), (46, .ireturn, 1)]
theorem oX3_guestTakes : ∀ q ∈ pX3_guestTakes, decode cX3_guestTakes q.1 = .ok (q.2.1, q.2.2) := by decide +kernel
def pX3_guestActs : List (Nat × Instr × Nat) := [(0, .iload_n 2, 1), (1, .tableswitch 146 0 5 #[39, 76, 87, 105, 146, 135], 39), (40, .aload_n 0, 1), (41, .getfield 47, 3), (44, .getfield 201, 3), (47, .iload_n 3, 1), (48, .invokevirtual 73, 3), (51, .aload_n 0, 1), (52, .iconst 0, 1), (53, .aload_n 0, 1), (54, .getfield 47, 3), (57, .getfield 106, 3), (60, .iconst 5, 1), (61, .aload_n 0, 1), (62, .getfield 47, 3), (65, .getfield 201, 3), (68, .invokevirtual 204, 3), (71, .invokevirtual 131, 3), (74, .goto 73, 3), (77, .aload_n 0, 1), (78, .iconst 0, 1), (79, .iload_n 1, 1), (80, .iconst 2, 1), (81, .iload_n 3, 1), (82, .invokevirtual 131, 3), (85, .goto 62, 3), (88, .aload_n 0, 1), (89, .getfield 26, 3), (92, .aload_n 0, 1), (93, .iconst 0, 1), (94, .iload_n 3, 1), (95, .invokevirtual 207, 3), (98, .iconst 1, 1), (99, .iconst 1, 1), (100, .invokevirtual 69, 3), (103, .goto 44, 3), (106, .aload_n 0, 1), (107, .getfield 41, 3), (110, .iload_n 3, 1), (111, .invokevirtual 173, 3), (114, .ifCond .ne 33, 3), (117, .aload_n 0, 1), (118, .getfield 41, 3), (121, .iload_n 3, 1), (122, .invokevirtual 73, 3), (125, .aload_n 0, 1), (126, .getfield 38, 3), (129, .iload_n 3, 1), (130, .invokevirtual 73, 3), (133, .goto 14, 3), (136, .aload_n 0, 1), (137, .getfield 47, 3), (140, .iload_n 3, 1), (141, .invokevirtual 213, 3), (144, .goto 3, 3), (147, .return_, 1)]
theorem oX3_guestActs : ∀ q ∈ pX3_guestActs, decode cX3_guestActs q.1 = .ok (q.2.1, q.2.2) := by decide +kernel
def pX3_opens : List (Nat × Instr × Nat) := [(0, .aload_n 0, 1), (1, .getfield 38, 3), (4, .invokevirtual 222, 3), (7, .istore_n 2, 1), (8, .aload_n 0, 1), (9, .getfield 38, 3), (12, .iload_n 2, 1), (13, .invokevirtual 216, 3), (16, .aload_n 0, 1), (17, .getfield 26, 3), (20, .iload_n 1, 1), (21, .iconst 0, 1), (22, .iload_n 2, 1), (23, .invokevirtual 69, 3), (26, .aload_n 0, 1), (27, .getfield 26, 3), (30, .iload_n 1, 1), (31, .iconst 1, 1), (32, .iconst 0, 1), (33, .invokevirtual 69, 3), (36, .aload_n 0, 1), (37, .iconst 0, 1), (38, .iload_n 1, 1), (39, .iconst 1, 1), (40, .aload_n 0, 1), (41, .iconst 0, 1), (42, .iload_n 1, 1), (43, .invokevirtual 195, 3), (46, .invokevirtual 131, 3), (49, .iload_n 2, 1), (50, .ireturn, 1)]
theorem oX3_opens : ∀ q ∈ pX3_opens, decode cX3_opens q.1 = .ok (q.2.1, q.2.2) := by decide +kernel
def pX3_closes : List (Nat × Instr × Nat) := [(0, .aload_n 0, 1), (1, .getfield 26, 3), (4, .iload_n 1, 1), (5, .iconst 0, 1), (6, .invokevirtual 98, 3), (9, .istore_n 2, 1), (10, .aload_n 0, 1), (11, .getfield 26, 3), (14, .iload_n 1, 1), (15, .iconst 0, 1), (16, .iconst (-1), 1), (17, .invokevirtual 69, 3), (20, .aload_n 0, 1), (21, .iconst 0, 1), (22, .aload_n 0, 1), (23, .getfield 47, 3), (26, .getfield 106, 3), (29, .iconst 4, 1), (30, .iload_n 2, 1), (31, .invokevirtual 131, 3), (34, .iload_n 2, 1), (35, .ireturn, 1)]
theorem oX3_closes : ∀ q ∈ pX3_closes, decode cX3_closes q.1 = .ok (q.2.1, q.2.2) := by decide +kernel
def pX3_goesTo : List (Nat × Instr × Nat) := [(0, .aload_n 0, 1), (1, .getfield 47, 3), (4, .iload_n 1, 1), (5, .invokevirtual 225, 3), (8, .aload_n 0, 1), (9, .iconst 0, 1), (10, .iload_n 1, 1), (11, .iconst 5, 1), (12, .aload_n 0, 1), (13, .getfield 47, 3), (16, .getfield 201, 3), (19, .invokevirtual 204, 3), (22, .invokevirtual 131, 3), (25, .return_, 1)]
theorem oX3_goesTo : ∀ q ∈ pX3_goesTo, decode cX3_goesTo q.1 = .ok (q.2.1, q.2.2) := by decide +kernel
def pX3_passes : List (Nat × Instr × Nat) := [(0, .aload_n 0, 1), (1, .dup, 1), (2, .getfield 89, 3), (5, .iconst 1, 1), (6, .iadd, 1), (7, .putfield 89, 3), (10, .iconst 0, 1), (11, .istore_n 1, 1), (12, .aload_n 0, 1), (13, .getfield 23, 3), (16, .invokevirtual 102, 3), (19, .istore_n 2, 1), (20, .iload_n 2, 1), (21, .ifCond .le 62, 3), (24, .aload_n 0, 1), (25, .getfield 89, 3), (28, .aload_n 0, 1), (29, .getfield 23, 3), (32, .iload_n 1, 1), (33, .iconst 3, 1), (34, .invokevirtual 98, 3), (37, .isub, 1), (38, .iconst 3, 1), (39, .if_icmp .ge 9, 3), (42, .iinc 1 1, 3), (45, .goto 32, 3), (48, .aload_n 0, 1), (49, .getfield 23, 3), (52, .iload_n 1, 1), (53, .iconst 4, 1), (54, .invokevirtual 98, 3), (57, .iconst 2, 1), (58, .if_icmp .ge 14, 3), (61, .aload_n 0, 1), (62, .iload_n 1, 1), (63, .invokevirtual 228, 3), (66, .iinc 1 1, 3), (69, .goto 8, 3), (72, .aload_n 0, 1), (73, .iload_n 1, 1), (74, .invokevirtual 231, 3), (77, .iinc 2 (-1), 3), (80, .goto (-60), 3), (83, .return_, 1)]
theorem oX3_passes : ∀ q ∈ pX3_passes, decode cX3_passes q.1 = .ok (q.2.1, q.2.2) := by decide +kernel
def pX3_asksAgain : List (Nat × Instr × Nat) := [(0, .aload_n 0, 1), (1, .getfield 23, 3), (4, .iload_n 1, 1), (5, .iconst 4, 1), (6, .aload_n 0, 1), (7, .getfield 23, 3), (10, .iload_n 1, 1), (11, .iconst 4, 1), (12, .invokevirtual 98, 3), (15, .iconst 1, 1), (16, .iadd, 1), (17, .invokevirtual 69, 3), (20, .aload_n 0, 1), (21, .getfield 23, 3), (24, .iload_n 1, 1), (25, .iconst 3, 1), (26, .aload_n 0, 1), (27, .getfield 89, 3), (30, .invokevirtual 69, 3), (33, .aload_n 0, 1), (34, .aload_n 0, 1), (35, .getfield 23, 3), (38, .iload_n 1, 1), (39, .iconst 0, 1), (40, .invokevirtual 98, 3), (43, .aload_n 0, 1), (44, .getfield 23, 3), (47, .iload_n 1, 1), (48, .iconst 2, 1), (49, .invokevirtual 98, 3), (52, .iconst 1, 1), (53, .aload_n 0, 1), (54, .getfield 23, 3), (57, .iload_n 1, 1), (58, .iconst 1, 1), (59, .invokevirtual 98, 3), (62, .invokevirtual 198, 3), (65, .return_, 1)]
theorem oX3_asksAgain : ∀ q ∈ pX3_asksAgain, decode cX3_asksAgain q.1 = .ok (q.2.1, q.2.2) := by decide +kernel
def pX3_givesUp : List (Nat × Instr × Nat) := [(0, .aload_n 0, 1), (1, .getfield 23, 3), (4, .iload_n 1, 1), (5, .iconst 0, 1), (6, .invokevirtual 98, 3), (9, .istore_n 2, 1), (10, .aload_n 0, 1), (11, .getfield 23, 3), (14, .iload_n 1, 1), (15, .iconst 2, 1), (16, .invokevirtual 98, 3), (19, .istore_n 3, 1), (20, .aload_n 0, 1), (21, .getfield 23, 3), (24, .iload_n 1, 1), (25, .invokevirtual 139, 3), (28, .iload_n 2, 1), (29, .iconst 1, 1), (30, .if_icmp .ne 16, 3), (33, .aload_n 0, 1), (34, .iload_n 3, 1), (35, .invokevirtual 109, 3), (38, .ifCond .ne 8, 3), (41, .aload_n 0, 1), (42, .iload_n 3, 1), (43, .invokevirtual 234, 3), (46, .iload_n 2, 1), (47, .ifCond .ne 28, 3), (50, .aload_n 0, 1), (51, .iload_n 3, 1), (52, .invokevirtual 113, 3), (55, .ifCond .eq 20, 3), (58, .aload_n 0, 1), (59, .getfield 26, 3), (62, .iload_n 3, 1), (63, .iconst 1, 1), (64, .invokevirtual 98, 3), (67, .ifCond .ne 8, 3), (70, .aload_n 0, 1), (71, .iload_n 3, 1), (72, .invokevirtual 237, 3), (75, .return_, 1)]
theorem oX3_givesUp : ∀ q ∈ pX3_givesUp, decode cX3_givesUp q.1 = .ok (q.2.1, q.2.2) := by decide +kernel
def pX3_forgets : List (Nat × Instr × Nat) := [(0, .aload_n 0, 1), (1, .getfield 26, 3), (4, .iload_n 1, 1), (5, .iconst 3, 1), (6, .iconst 0, 1), (7, .invokevirtual 69, 3), (10, .aload_n 0, 1), (11, .getfield 26, 3), (14, .iload_n 1, 1), (15, .iconst 4, 1), (16, .iconst 0, 1), (17, .invokevirtual 69, 3), (20, .aload_n 0, 1), (21, .iload_n 1, 1), (22, .invokevirtual 240, 3), (25, .aload_n 0, 1), (26, .getfield 51, 3), (29, .getfield 106, 3), (32, .iload_n 1, 1), (33, .if_icmp .ne 28, 3), (36, .aload_n 0, 1), (37, .getfield 51, 3), (40, .getfield 192, 3), (43, .iconst (-1), 1), (44, .if_icmp .eq 17, 3), (47, .aload_n 0, 1), (48, .getfield 51, 3), (51, .aload_n 0, 1), (52, .getfield 51, 3), (55, .getfield 192, 3), (58, .putfield 106, 3), (61, .return_, 1)]
theorem oX3_forgets : ∀ q ∈ pX3_forgets, decode cX3_forgets q.1 = .ok (q.2.1, q.2.2) := by decide +kernel
def pX3_leaves : List (Nat × Instr × Nat) := [(0, .aload_n 0, 1), (1, .getfield 47, 3), (4, .getfield 106, 3), (7, .iload_n 1, 1), (8, .if_icmp .ne 28, 3), (11, .aload_n 0, 1), (12, .aload_n 0, 1), (13, .getfield 47, 3), (16, .getfield 192, 3), (19, .invokevirtual 113, 3), (22, .ifCond .eq 14, 3), (25, .aload_n 0, 1), (26, .aload_n 0, 1), (27, .getfield 47, 3), (30, .getfield 192, 3), (33, .invokevirtual 243, 3), (36, .aload_n 0, 1), (37, .getfield 47, 3), (40, .getfield 106, 3), (43, .iload_n 1, 1), (44, .if_icmp .eq 9, 3), (47, .aload_n 0, 1), (48, .iload_n 1, 1), (49, .invokevirtual 246, 3), (52, .pop, 1), (53, .return_, 1)]
theorem oX3_leaves : ∀ q ∈ pX3_leaves, decode cX3_leaves q.1 = .ok (q.2.1, q.2.2) := by decide +kernel
def pX4_init : List (Nat × Instr × Nat) := [(0, .aload_n 0, 1), (1, .invokespecial 1, 3), (4, .aload_n 0, 1), (5, .new 7, 3), (8, .dup, 1), (9, .invokespecial 9, 3), (12, .putfield 10, 3), (15, .aload_n 0, 1), (16, .new 16, 3), (19, .dup, 1), (20, .bipush 20, 2), (22, .iconst 3, 1), (23, .invokespecial 18, 3), (26, .putfield 21, 3), (29, .aload_n 0, 1), (30, .iconst 2, 1), (31, .anewarray 7, 3), (34, .putfield 25, 3), (37, .return_, 1)]
theorem oX4_init : ∀ q ∈ pX4_init, decode cX4_init q.1 = .ok (q.2.1, q.2.2) := by decide +kernel
def pX4_told : List (Nat × Instr × Nat) := [(0, .iload_n 1, 1), (1, .tableswitch 290 0 19 #[95, 103, 114, 125, 136, 147, 158, 169, 180, 188, 199, 210, 218, 227, 236, 245, 253, 269, 277, 282], 95), (96, .aload_n 0, 1), (97, .getfield 10, 3), (100, .getfield 29, 3), (103, .ireturn, 1), (104, .aload_n 0, 1), (105, .getfield 10, 3), (108, .getfield 33, 3), (111, .invokevirtual 36, 3), (114, .ireturn, 1), (115, .aload_n 0, 1), (116, .getfield 10, 3), (119, .getfield 40, 3), (122, .invokevirtual 36, 3), (125, .ireturn, 1), (126, .aload_n 0, 1), (127, .getfield 10, 3), (130, .getfield 43, 3), (133, .invokevirtual 36, 3), (136, .ireturn, 1), (137, .aload_n 0, 1), (138, .getfield 10, 3), (141, .getfield 46, 3), (144, .getfield 50, 3), (147, .ireturn, 1), (148, .aload_n 0, 1), (149, .getfield 10, 3), (152, .getfield 55, 3), (155, .getfield 50, 3), (158, .ireturn, 1), (159, .aload_n 0, 1), (160, .getfield 10, 3), (163, .getfield 46, 3), (166, .getfield 58, 3), (169, .ireturn, 1), (170, .aload_n 0, 1), (171, .getfield 10, 3), (174, .getfield 55, 3), (177, .getfield 58, 3), (180, .ireturn, 1), (181, .aload_n 0, 1), (182, .getfield 10, 3), (185, .getfield 61, 3), (188, .ireturn, 1), (189, .aload_n 0, 1), (190, .getfield 10, 3), (193, .getfield 64, 3), (196, .invokevirtual 68, 3), (199, .ireturn, 1), (200, .aload_n 0, 1), (201, .getfield 10, 3), (204, .getfield 71, 3), (207, .invokevirtual 68, 3), (210, .ireturn, 1), (211, .aload_n 0, 1), (212, .getfield 10, 3), (215, .getfield 74, 3), (218, .ireturn, 1), (219, .aload_n 0, 1), (220, .getfield 10, 3), (223, .iconst 1, 1), (224, .invokevirtual 77, 3), (227, .ireturn, 1), (228, .aload_n 0, 1), (229, .getfield 10, 3), (232, .iconst 2, 1), (233, .invokevirtual 77, 3), (236, .ireturn, 1), (237, .aload_n 0, 1), (238, .getfield 10, 3), (241, .iconst 3, 1), (242, .invokevirtual 77, 3), (245, .ireturn, 1), (246, .aload_n 0, 1), (247, .getfield 10, 3), (250, .getfield 81, 3), (253, .ireturn, 1), (254, .aload_n 0, 1), (255, .getfield 10, 3), (258, .invokevirtual 84, 3), (261, .ifCond .eq 7, 3), (264, .iconst 1, 1), (265, .goto 4, 3), (268, .iconst 0, 1), (269, .ireturn, 1), (270, .aload_n 0, 1), (271, .getfield 21, 3), (274, .invokevirtual 36, 3), (277, .ireturn, 1), (278, .aload_n 0, 1), (279, .invokevirtual 88, 3), (282, .ireturn, 1), (283, .aload_n 0, 1), (284, .getfield 10, 3), (287, .getfield 91, 3), (290, .ireturn, 1), (291, .ldc 94, 2), (293, .ireturn, 1)]
theorem oX4_told : ∀ q ∈ pX4_told, decode cX4_told q.1 = .ok (q.2.1, q.2.2) := by decide +kernel
def pX4_end : List (Nat × Instr × Nat) := [(0, .iload_n 1, 1), (1, .invokestatic 95, 3), (4, .ifCond .ne 6, 3), (7, .ldc 99, 2), (9, .ireturn, 1), (10, .aload_n 0, 1), (11, .getfield 10, 3), (14, .iload_n 1, 1), (15, .invokevirtual 100, 3), (18, .astore_n 3, 1), (19, .iload_n 2, 1), (20, .tableswitch 76 0 5 #[40, 45, 53, 61, 66, 71], 40), (60, .aload_n 3, 1), (61, .getfield 104, 3), (64, .ireturn, 1), (65, .aload_n 3, 1), (66, .getfield 107, 3), (69, .invokevirtual 68, 3), (72, .ireturn, 1), (73, .aload_n 3, 1), (74, .getfield 107, 3), (77, .invokevirtual 110, 3), (80, .ireturn, 1), (81, .aload_n 3, 1), (82, .getfield 113, 3), (85, .ireturn, 1), (86, .aload_n 3, 1), (87, .getfield 116, 3), (90, .ireturn, 1), (91, .aload_n 3, 1), (92, .getfield 119, 3), (95, .ireturn, 1), (96, .ldc 94, 2), (98, .ireturn, 1)]
theorem oX4_end : ∀ q ∈ pX4_end, decode cX4_end q.1 = .ok (q.2.1, q.2.2) := by decide +kernel
def pX4_place : List (Nat × Instr × Nat) := [(0, .iload_n 1, 1), (1, .invokestatic 122, 3), (4, .ifCond .ne 6, 3), (7, .ldc 99, 2), (9, .ireturn, 1), (10, .iload_n 2, 1), (11, .iconst 5, 1), (12, .if_icmp .ne 12, 3), (15, .aload_n 0, 1), (16, .getfield 10, 3), (19, .iload_n 1, 1), (20, .invokevirtual 125, 3), (23, .ireturn, 1), (24, .aload_n 0, 1), (25, .getfield 10, 3), (28, .getfield 128, 3), (31, .iload_n 1, 1), (32, .iload_n 2, 1), (33, .invokestatic 131, 3), (36, .ireturn, 1)]
theorem oX4_place : ∀ q ∈ pX4_place, decode cX4_place q.1 = .ok (q.2.1, q.2.2) := by decide +kernel
def pX4_letter : List (Nat × Instr × Nat) := [(0, .aload_n 0, 1), (1, .getfield 10, 3), (4, .getfield 33, 3), (7, .iload_n 1, 1), (8, .iload_n 2, 1), (9, .invokestatic 131, 3), (12, .ireturn, 1)]
theorem oX4_letter : ∀ q ∈ pX4_letter, decode cX4_letter q.1 = .ok (q.2.1, q.2.2) := by decide +kernel
def pX4_challenge : List (Nat × Instr × Nat) := [(0, .aload_n 0, 1), (1, .getfield 10, 3), (4, .getfield 43, 3), (7, .iload_n 1, 1), (8, .iload_n 2, 1), (9, .invokestatic 131, 3), (12, .ireturn, 1)]
theorem oX4_challenge : ∀ q ∈ pX4_challenge, decode cX4_challenge q.1 = .ok (q.2.1, q.2.2) := by decide +kernel
def pX4_held : List (Nat × Instr × Nat) := [(0, .aload_n 0, 1), (1, .getfield 10, 3), (4, .getfield 40, 3), (7, .iload_n 1, 1), (8, .iload_n 2, 1), (9, .invokestatic 131, 3), (12, .ireturn, 1)]
theorem oX4_held : ∀ q ∈ pX4_held, decode cX4_held q.1 = .ok (q.2.1, q.2.2) := by decide +kernel
def pX4_name : List (Nat × Instr × Nat) := [(0, .iload_n 1, 1), (1, .ifCond .lt 14, 3), (4, .iload_n 1, 1), (5, .aload_n 0, 1), (6, .getfield 10, 3), (9, .getfield 61, 3), (12, .if_icmp .lt 6, 3), (15, .ldc 99, 2), (17, .ireturn, 1), (18, .aload_n 0, 1), (19, .getfield 10, 3), (22, .getfield 64, 3), (25, .iload_n 1, 1), (26, .invokevirtual 135, 3), (29, .ifCond .eq 7, 3), (32, .iconst 1, 1), (33, .goto 4, 3), (36, .iconst 0, 1), (37, .aload_n 0, 1), (38, .getfield 10, 3), (41, .getfield 71, 3), (44, .iload_n 1, 1), (45, .invokevirtual 135, 3), (48, .ifCond .eq 7, 3), (51, .iconst 2, 1), (52, .goto 4, 3), (55, .iconst 0, 1), (56, .iadd, 1), (57, .ireturn, 1)]
theorem oX4_name : ∀ q ∈ pX4_name, decode cX4_name q.1 = .ok (q.2.1, q.2.2) := by decide +kernel
def pX4_word : List (Nat × Instr × Nat) := [(0, .iload_n 1, 1), (1, .invokestatic 95, 3), (4, .ifCond .eq 25, 3), (7, .iload_n 2, 1), (8, .ifCond .lt 21, 3), (11, .iload_n 2, 1), (12, .aload_n 0, 1), (13, .getfield 10, 3), (16, .iload_n 1, 1), (17, .invokestatic 138, 3), (20, .invokevirtual 100, 3), (23, .getfield 104, 3), (26, .if_icmp .lt 6, 3), (29, .ldc 99, 2), (31, .ireturn, 1), (32, .aload_n 0, 1), (33, .getfield 10, 3), (36, .iload_n 1, 1), (37, .invokevirtual 100, 3), (40, .getfield 107, 3), (43, .iload_n 2, 1), (44, .invokevirtual 135, 3), (47, .ifCond .eq 7, 3), (50, .iconst 1, 1), (51, .goto 4, 3), (54, .iconst 0, 1), (55, .ireturn, 1)]
theorem oX4_word : ∀ q ∈ pX4_word, decode cX4_word q.1 = .ok (q.2.1, q.2.2) := by decide +kernel
def pX4_say : List (Nat × Instr × Nat) := [(0, .aload_n 0, 1), (1, .iconst 0, 1), (2, .invokevirtual 141, 3), (5, .ireturn, 1)]
theorem oX4_say : ∀ q ∈ pX4_say, decode cX4_say q.1 = .ok (q.2.1, q.2.2) := by decide +kernel
def pX4_open : List (Nat × Instr × Nat) := [(0, .iload_n 1, 1), (1, .invokestatic 122, 3), (4, .ifCond .ne 6, 3), (7, .ldc 99, 2), (9, .ireturn, 1), (10, .aload_n 0, 1), (11, .getfield 10, 3), (14, .iload_n 1, 1), (15, .invokevirtual 144, 3), (18, .ifCond .ne 16, 3), (21, .aload_n 0, 1), (22, .getfield 10, 3), (25, .getfield 71, 3), (28, .invokevirtual 68, 3), (31, .ifCond .ne 6, 3), (34, .ldc 147, 2), (36, .ireturn, 1), (37, .aload_n 0, 1), (38, .getfield 10, 3), (41, .iload_n 1, 1), (42, .invokevirtual 148, 3), (45, .ireturn, 1)]
theorem oX4_open : ∀ q ∈ pX4_open, decode cX4_open q.1 = .ok (q.2.1, q.2.2) := by decide +kernel
def pX4_go : List (Nat × Instr × Nat) := [(0, .iload_n 1, 1), (1, .invokestatic 122, 3), (4, .ifCond .ne 6, 3), (7, .ldc 99, 2), (9, .ireturn, 1), (10, .aload_n 0, 1), (11, .getfield 10, 3), (14, .iload_n 1, 1), (15, .invokevirtual 144, 3), (18, .ifCond .eq 17, 3), (21, .aload_n 0, 1), (22, .getfield 10, 3), (25, .getfield 46, 3), (28, .getfield 50, 3), (31, .iload_n 1, 1), (32, .if_icmp .ne 6, 3), (35, .ldc 147, 2), (37, .ireturn, 1), (38, .aload_n 0, 1), (39, .getfield 10, 3), (42, .iload_n 1, 1), (43, .invokevirtual 151, 3), (46, .aload_n 0, 1), (47, .getfield 10, 3), (50, .getfield 46, 3), (53, .getfield 58, 3), (56, .ireturn, 1)]
theorem oX4_go : ∀ q ∈ pX4_go, decode cX4_go q.1 = .ok (q.2.1, q.2.2) := by decide +kernel
def pX4_close : List (Nat × Instr × Nat) := [(0, .iload_n 1, 1), (1, .invokestatic 122, 3), (4, .ifCond .ne 6, 3), (7, .ldc 99, 2), (9, .ireturn, 1), (10, .aload_n 0, 1), (11, .getfield 10, 3), (14, .iload_n 1, 1), (15, .invokevirtual 144, 3), (18, .ifCond .eq 17, 3), (21, .aload_n 0, 1), (22, .getfield 10, 3), (25, .getfield 46, 3), (28, .getfield 50, 3), (31, .iload_n 1, 1), (32, .if_icmp .ne 6, 3), (35, .ldc 147, 2), (37, .ireturn, 1), (38, .aload_n 0, 1), (39, .getfield 10, 3), (42, .iload_n 1, 1), (43, .invokevirtual 155, 3), (46, .ireturn, 1)]
theorem oX4_close : ∀ q ∈ pX4_close, decode cX4_close q.1 = .ok (q.2.1, q.2.2) := by decide +kernel
def pX4_speak : List (Nat × Instr × Nat) := [(0, .aload_n 0, 1), (1, .iconst 1, 1), (2, .invokevirtual 141, 3), (5, .ireturn, 1)]
theorem oX4_speak : ∀ q ∈ pX4_speak, decode cX4_speak q.1 = .ok (q.2.1, q.2.2) := by decide +kernel
def pX4_again : List (Nat × Instr × Nat) := [(0, .iload_n 1, 1), (1, .invokestatic 95, 3), (4, .ifCond .ne 6, 3), (7, .ldc 99, 2), (9, .ireturn, 1), (10, .aload_n 0, 1), (11, .getfield 10, 3), (14, .iload_n 1, 1), (15, .invokevirtual 100, 3), (18, .astore_n 2, 1), (19, .aload_n 2, 1), (20, .getfield 113, 3), (23, .aload_n 2, 1), (24, .getfield 104, 3), (27, .if_icmp .lt 6, 3), (30, .ldc 147, 2), (32, .ireturn, 1), (33, .aload_n 0, 1), (34, .getfield 10, 3), (37, .iload_n 1, 1), (38, .aload_n 2, 1), (39, .getfield 50, 3), (42, .iconst 0, 1), (43, .aload_n 2, 1), (44, .getfield 113, 3), (47, .invokevirtual 158, 3), (50, .aload_n 2, 1), (51, .getfield 113, 3), (54, .ireturn, 1)]
theorem oX4_again : ∀ q ∈ pX4_again, decode cX4_again q.1 = .ok (q.2.1, q.2.2) := by decide +kernel
def pX4_arrive : List (Nat × Instr × Nat) := [(0, .aload_n 0, 1), (1, .getfield 10, 3), (4, .getfield 33, 3), (7, .iload_n 1, 1), (8, .invokevirtual 162, 3), (11, .ifCond .ne 6, 3), (14, .ldc 99, 2), (16, .ireturn, 1), (17, .aload_n 0, 1), (18, .getfield 10, 3), (21, .iload_n 1, 1), (22, .invokevirtual 165, 3), (25, .ireturn, 1)]
theorem oX4_arrive : ∀ q ∈ pX4_arrive, decode cX4_arrive q.1 = .ok (q.2.1, q.2.2) := by decide +kernel
end
section
def pX4_lose : List (Nat × Instr × Nat) := [(0, .aload_n 0, 1), (1, .getfield 10, 3), (4, .getfield 33, 3), (7, .iload_n 1, 1), (8, .invokevirtual 162, 3), (11, .ifCond .ne 6, 3), (14, .ldc 99, 2), (16, .ireturn, 1), (17, .aload_n 0, 1), (18, .getfield 10, 3), (21, .iload_n 1, 1), (22, .invokevirtual 168, 3), (25, .aload_n 0, 1), (26, .getfield 10, 3), (29, .getfield 33, 3), (32, .invokevirtual 36, 3), (35, .ireturn, 1)]
theorem oX4_lose : ∀ q ∈ pX4_lose, decode cX4_lose q.1 = .ok (q.2.1, q.2.2) := by decide +kernel
def pX4_twice : List (Nat × Instr × Nat) := [(0, .aload_n 0, 1), (1, .getfield 10, 3), (4, .getfield 33, 3), (7, .iload_n 1, 1), (8, .invokevirtual 162, 3), (11, .ifCond .ne 6, 3), (14, .ldc 99, 2), (16, .ireturn, 1), (17, .aload_n 0, 1), (18, .getfield 10, 3), (21, .getfield 33, 3), (24, .invokevirtual 171, 3), (27, .ifCond .eq 6, 3), (30, .ldc 174, 2), (32, .ireturn, 1), (33, .aload_n 0, 1), (34, .getfield 10, 3), (37, .getfield 33, 3), (40, .iload_n 1, 1), (41, .invokevirtual 175, 3), (44, .aload_n 0, 1), (45, .getfield 10, 3), (48, .getfield 33, 3), (51, .invokevirtual 36, 3), (54, .ireturn, 1)]
theorem oX4_twice : ∀ q ∈ pX4_twice, decode cX4_twice q.1 = .ok (q.2.1, q.2.2) := by decide +kernel
def pX4_forge : List (Nat × Instr × Nat) := [(0, .iload_n 1, 1), (1, .invokestatic 122, 3), (4, .ifCond .ne 6, 3), (7, .ldc 99, 2), (9, .ireturn, 1), (10, .iload_n 2, 1), (11, .iconst (-1), 1), (12, .if_icmp .lt 44, 3), (15, .iload_n 2, 1), (16, .bipush 99, 2), (18, .if_icmp .gt 38, 3), (21, .iload_n 3, 1), (22, .ifCond .lt 34, 3), (25, .iload_n 3, 1), (26, .sipush 9999, 3), (29, .if_icmp .gt 27, 3), (32, .iload 4, 2), (34, .ifCond .lt 22, 3), (37, .iload 4, 2), (39, .bipush 6, 2), (41, .if_icmp .ge 15, 3), (44, .iload 5, 2), (46, .ifCond .lt 10, 3), (49, .iload 5, 2), (51, .bipush 99, 2), (53, .if_icmp .le 6, 3), (56, .ldc 94, 2), (58, .ireturn, 1), (59, .aload_n 0, 1), (60, .getfield 10, 3), (63, .getfield 33, 3), (66, .invokevirtual 171, 3), (69, .ifCond .eq 6, 3), (72, .ldc 174, 2), (74, .ireturn, 1), (75, .aload_n 0, 1), (76, .getfield 10, 3), (79, .getfield 33, 3), (82, .iconst 0, 1), (83, .iload_n 1, 1), (84, .iload_n 2, 1), (85, .iload_n 3, 1), (86, .iload 4, 2), (88, .iload 5, 2), (90, .invokevirtual 178, 3), (93, .aload_n 0, 1), (94, .getfield 10, 3), (97, .getfield 33, 3), (100, .invokevirtual 36, 3), (103, .ireturn, 1)]
theorem oX4_forge : ∀ q ∈ pX4_forge, decode cX4_forge q.1 = .ok (q.2.1, q.2.2) := by decide +kernel
def pX4_tick : List (Nat × Instr × Nat) := [(0, .aload_n 0, 1), (1, .getfield 10, 3), (4, .invokevirtual 182, 3), (7, .aload_n 0, 1), (8, .getfield 10, 3), (11, .getfield 43, 3), (14, .invokevirtual 36, 3), (17, .ireturn, 1)]
theorem oX4_tick : ∀ q ∈ pX4_tick, decode cX4_tick q.1 = .ok (q.2.1, q.2.2) := by decide +kernel
def pX4_drift : List (Nat × Instr × Nat) := [(0, .iload_n 1, 1), (1, .iconst 1, 1), (2, .if_icmp .lt 9, 3), (5, .iload_n 1, 1), (6, .bipush 20, 2), (8, .if_icmp .le 6, 3), (11, .ldc 94, 2), (13, .ireturn, 1), (14, .iconst 0, 1), (15, .istore_n 2, 1), (16, .iload_n 2, 1), (17, .iload_n 1, 1), (18, .if_icmp .ge 13, 3), (21, .aload_n 0, 1), (22, .invokevirtual 185, 3), (25, .iinc 2 1, 3), (28, .goto (-12), 3), (31, .aload_n 0, 1), (32, .getfield 10, 3), (35, .getfield 33, 3), (38, .invokevirtual 36, 3), (41, .ireturn, 1)]
theorem oX4_drift : ∀ q ∈ pX4_drift, decode cX4_drift q.1 = .ok (q.2.1, q.2.2) := by decide +kernel
def pX4_write : List (Nat × Instr × Nat) := [(0, .iload_n 1, 1), (1, .invokestatic 95, 3), (4, .ifCond .ne 6, 3), (7, .ldc 99, 2), (9, .ireturn, 1), (10, .iload_n 2, 1), (11, .ifCond .lt 18, 3), (14, .iload_n 2, 1), (15, .bipush 40, 2), (17, .if_icmp .ge 12, 3), (20, .iload_n 3, 1), (21, .ifCond .lt 8, 3), (24, .iload_n 3, 1), (25, .iconst 1, 1), (26, .if_icmp .le 6, 3), (29, .ldc 94, 2), (31, .ireturn, 1), (32, .aload_n 0, 1), (33, .getfield 21, 3), (36, .invokevirtual 171, 3), (39, .ifCond .eq 6, 3), (42, .ldc 174, 2), (44, .ireturn, 1), (45, .aload_n 0, 1), (46, .getfield 21, 3), (49, .iload_n 1, 1), (50, .iload_n 2, 1), (51, .iload_n 3, 1), (52, .iconst 0, 1), (53, .iconst 0, 1), (54, .iconst 0, 1), (55, .invokevirtual 178, 3), (58, .aload_n 0, 1), (59, .getfield 21, 3), (62, .invokevirtual 36, 3), (65, .ireturn, 1)]
theorem oX4_write : ∀ q ∈ pX4_write, decode cX4_write q.1 = .ok (q.2.1, q.2.2) := by decide +kernel
def pX4_tear : List (Nat × Instr × Nat) := [(0, .aload_n 0, 1), (1, .getfield 21, 3), (4, .invokevirtual 36, 3), (7, .istore_n 1, 1), (8, .aload_n 0, 1), (9, .getfield 21, 3), (12, .invokevirtual 188, 3), (15, .iload_n 1, 1), (16, .ireturn, 1)]
theorem oX4_tear : ∀ q ∈ pX4_tear, decode cX4_tear q.1 = .ok (q.2.1, q.2.2) := by decide +kernel
def pX4_seed : List (Nat × Instr × Nat) := [(0, .iload_n 1, 1), (1, .ifCond .ge 6, 3), (4, .ldc 94, 2), (6, .ireturn, 1), (7, .aload_n 0, 1), (8, .getfield 10, 3), (11, .getfield 91, 3), (14, .istore_n 2, 1), (15, .aload_n 0, 1), (16, .getfield 10, 3), (19, .iload_n 1, 1), (20, .putfield 91, 3), (23, .iload_n 2, 1), (24, .ireturn, 1)]
theorem oX4_seed : ∀ q ∈ pX4_seed, decode cX4_seed q.1 = .ok (q.2.1, q.2.2) := by decide +kernel
def pX4_keep : List (Nat × Instr × Nat) := [(0, .iload_n 1, 1), (1, .ifCond .lt 12, 3), (4, .iload_n 1, 1), (5, .aload_n 0, 1), (6, .getfield 25, 3), (9, .arraylength, 1), (10, .if_icmp .lt 6, 3), (13, .ldc 99, 2), (15, .ireturn, 1), (16, .aload_n 0, 1), (17, .getfield 25, 3), (20, .iload_n 1, 1), (21, .aaload, 1), (22, .astore_n 2, 1), (23, .aload_n 2, 1), (24, .ifnonnull 18, 3), (27, .new 7, 3), (30, .dup, 1), (31, .invokespecial 9, 3), (34, .astore_n 2, 1), (35, .aload_n 0, 1), (36, .getfield 25, 3), (39, .iload_n 1, 1), (40, .aload_n 2, 1), (41, .aastore, 1), (42, .aload_n 2, 1), (43, .aload_n 0, 1), (44, .getfield 10, 3), (47, .invokevirtual 191, 3), (50, .iconst 1, 1), (51, .ireturn, 1)]
theorem oX4_keep : ∀ q ∈ pX4_keep, decode cX4_keep q.1 = .ok (q.2.1, q.2.2) := by decide +kernel
def pX4_goBack : List (Nat × Instr × Nat) := [(0, .iload_n 1, 1), (1, .ifCond .lt 12, 3), (4, .iload_n 1, 1), (5, .aload_n 0, 1), (6, .getfield 25, 3), (9, .arraylength, 1), (10, .if_icmp .lt 6, 3), (13, .ldc 99, 2), (15, .ireturn, 1), (16, .aload_n 0, 1), (17, .getfield 25, 3), (20, .iload_n 1, 1), (21, .aaload, 1), (22, .astore_n 2, 1), (23, .aload_n 2, 1), (24, .ifnonnull 6, 3), (27, .ldc 147, 2), (29, .ireturn, 1), (30, .aload_n 0, 1), (31, .getfield 10, 3), (34, .aload_n 2, 1), (35, .invokevirtual 191, 3), (38, .iconst 1, 1), (39, .ireturn, 1)]
theorem oX4_goBack : ∀ q ∈ pX4_goBack, decode cX4_goBack q.1 = .ok (q.2.1, q.2.2) := by decide +kernel
def pX4_isEnd : List (Nat × Instr × Nat) := [(0, .iload_n 0, 1), (1, .ifCond .lt 12, 3), (4, .iload_n 0, 1), (5, .iconst 2, 1), (6, .if_icmp .ge 7, 3), (9, .iconst 1, 1), (10, .goto 4, 3), (13, .iconst 0, 1), (14, .ireturn, 1)]
theorem oX4_isEnd : ∀ q ∈ pX4_isEnd, decode cX4_isEnd q.1 = .ok (q.2.1, q.2.2) := by decide +kernel
def pX4_isPlace : List (Nat × Instr × Nat) := [(0, .iload_n 0, 1), (1, .ifCond .lt 12, 3), (4, .iload_n 0, 1), (5, .iconst 5, 1), (6, .if_icmp .ge 7, 3), (9, .iconst 1, 1), (10, .goto 4, 3), (13, .iconst 0, 1), (14, .ireturn, 1)]
theorem oX4_isPlace : ∀ q ∈ pX4_isPlace, decode cX4_isPlace q.1 = .ok (q.2.1, q.2.2) := by decide +kernel
def pX4_otherOf : List (Nat × Instr × Nat) := [(0, .iload_n 0, 1), (1, .ifCond .ne 7, 3), (4, .iconst 1, 1), (5, .goto 4, 3), (8, .iconst 0, 1), (9, .ireturn, 1)]
theorem oX4_otherOf : ∀ q ∈ pX4_otherOf, decode cX4_otherOf q.1 = .ok (q.2.1, q.2.2) := by decide +kernel
def pX4_cell : List (Nat × Instr × Nat) := [(0, .aload_n 0, 1), (1, .iload_n 1, 1), (2, .invokevirtual 162, 3), (5, .ifCond .ne 6, 3), (8, .ldc 99, 2), (10, .ireturn, 1), (11, .aload_n 0, 1), (12, .iload_n 2, 1), (13, .invokevirtual 195, 3), (16, .ifCond .ne 6, 3), (19, .ldc 94, 2), (21, .ireturn, 1), (22, .aload_n 0, 1), (23, .iload_n 1, 1), (24, .iload_n 2, 1), (25, .invokevirtual 198, 3), (28, .ireturn, 1)]
theorem oX4_cell : ∀ q ∈ pX4_cell, decode cX4_cell q.1 = .ok (q.2.1, q.2.2) := by decide +kernel
def pX4_nextWord : List (Nat × Instr × Nat) := [(0, .aload_n 0, 1), (1, .getfield 10, 3), (4, .iload_n 1, 1), (5, .invokevirtual 100, 3), (8, .astore_n 2, 1), (9, .aload_n 2, 1), (10, .getfield 104, 3), (13, .bipush 40, 2), (15, .if_icmp .lt 6, 3), (18, .ldc 174, 2), (20, .ireturn, 1), (21, .aload_n 2, 1), (22, .getfield 104, 3), (25, .istore_n 3, 1), (26, .aload_n 2, 1), (27, .iload_n 3, 1), (28, .iconst 1, 1), (29, .iadd, 1), (30, .putfield 104, 3), (33, .aload_n 0, 1), (34, .getfield 10, 3), (37, .iload_n 1, 1), (38, .aload_n 2, 1), (39, .getfield 50, 3), (42, .iconst 0, 1), (43, .iload_n 3, 1), (44, .invokevirtual 158, 3), (47, .iload_n 3, 1), (48, .ireturn, 1)]
theorem oX4_nextWord : ∀ q ∈ pX4_nextWord, decode cX4_nextWord q.1 = .ok (q.2.1, q.2.2) := by decide +kernel
def pX4_firstWrong : List (Nat × Instr × Nat) := [(0, .iconst 0, 1), (1, .istore_n 1, 1), (2, .iload_n 1, 1), (3, .aload_n 0, 1), (4, .getfield 21, 3), (7, .invokevirtual 36, 3), (10, .if_icmp .ge 65, 3), (13, .aload_n 0, 1), (14, .getfield 10, 3), (17, .aload_n 0, 1), (18, .getfield 21, 3), (21, .iload_n 1, 1), (22, .iconst 0, 1), (23, .invokevirtual 198, 3), (26, .invokevirtual 100, 3), (29, .getfield 107, 3), (32, .aload_n 0, 1), (33, .getfield 21, 3), (36, .iload_n 1, 1), (37, .iconst 1, 1), (38, .invokevirtual 198, 3), (41, .invokevirtual 135, 3), (44, .istore_n 2, 1), (45, .iload_n 2, 1), (46, .aload_n 0, 1), (47, .getfield 21, 3), (50, .iload_n 1, 1), (51, .iconst 2, 1), (52, .invokevirtual 198, 3), (55, .iconst 1, 1), (56, .if_icmp .ne 7, 3), (59, .iconst 1, 1), (60, .goto 4, 3), (63, .iconst 0, 1), (64, .if_icmp .eq 5, 3), (67, .iload_n 1, 1), (68, .ireturn, 1), (69, .iinc 1 1, 3), (72, .goto (-70), 3), (75, .iconst (-1), 1), (76, .ireturn, 1)]
theorem oX4_firstWrong : ∀ q ∈ pX4_firstWrong, decode cX4_firstWrong q.1 = .ok (q.2.1, q.2.2) := by decide +kernel
def pX4_drawOne : List (Nat × Instr × Nat) := [(0, .aload_n 0, 1), (1, .getfield 10, 3), (4, .bipush 10, 2), (6, .invokevirtual 202, 3), (9, .istore_n 1, 1), (10, .iload_n 1, 1), (11, .tableswitch 134 4 9 #[37, 77, 85, 93, 103, 118], 37), (48, .aload_n 0, 1), (49, .getfield 10, 3), (52, .getfield 33, 3), (55, .invokevirtual 36, 3), (58, .ifCond .le 125, 3), (61, .aload_n 0, 1), (62, .getfield 10, 3), (65, .aload_n 0, 1), (66, .getfield 10, 3), (69, .aload_n 0, 1), (70, .getfield 10, 3), (73, .getfield 33, 3), (76, .invokevirtual 36, 3), (79, .invokevirtual 202, 3), (82, .invokevirtual 168, 3), (85, .goto 98, 3), (88, .aload_n 0, 1), (89, .invokevirtual 205, 3), (92, .pop, 1), (93, .goto 90, 3), (96, .aload_n 0, 1), (97, .invokevirtual 208, 3), (100, .pop, 1), (101, .goto 82, 3), (104, .aload_n 0, 1), (105, .getfield 10, 3), (108, .invokevirtual 182, 3), (111, .goto 72, 3), (114, .aload_n 0, 1), (115, .aload_n 0, 1), (116, .getfield 10, 3), (119, .iconst 5, 1), (120, .invokevirtual 202, 3), (123, .invokevirtual 211, 3), (126, .goto 57, 3), (129, .aload_n 0, 1), (130, .aload_n 0, 1), (131, .getfield 10, 3), (134, .iconst 2, 1), (135, .invokevirtual 202, 3), (138, .invokevirtual 214, 3), (141, .pop, 1), (142, .goto 41, 3), (145, .aload_n 0, 1), (146, .getfield 10, 3), (149, .getfield 33, 3), (152, .invokevirtual 36, 3), (155, .ifCond .le 28, 3), (158, .aload_n 0, 1), (159, .getfield 10, 3), (162, .aload_n 0, 1), (163, .getfield 10, 3), (166, .aload_n 0, 1), (167, .getfield 10, 3), (170, .getfield 33, 3), (173, .invokevirtual 36, 3), (176, .invokevirtual 202, 3), (179, .invokevirtual 165, 3), (182, .pop, 1), (183, .return_, 1)]
theorem oX4_drawOne : ∀ q ∈ pX4_drawOne, decode cX4_drawOne q.1 = .ok (q.2.1, q.2.2) := by decide +kernel
def pX4_goOrOpen : List (Nat × Instr × Nat) := [(0, .aload_n 0, 1), (1, .getfield 10, 3), (4, .iload_n 1, 1), (5, .invokevirtual 144, 3), (8, .ifCond .eq 12, 3), (11, .aload_n 0, 1), (12, .iload_n 1, 1), (13, .invokevirtual 217, 3), (16, .pop, 1), (17, .goto 9, 3), (20, .aload_n 0, 1), (21, .iload_n 1, 1), (22, .invokevirtual 220, 3), (25, .pop, 1), (26, .return_, 1)]
theorem oX4_goOrOpen : ∀ q ∈ pX4_goOrOpen, decode cX4_goOrOpen q.1 = .ok (q.2.1, q.2.2) := by decide +kernel
def pX5_init : List (Nat × Instr × Nat) := [(0, .aload_n 0, 1), (1, .invokespecial 1, 3), (4, .aload_n 0, 1), (5, .sipush 9411, 3), (8, .newarray .int, 2), (10, .putfield 7, 3), (13, .aload_n 0, 1), (14, .iconst 2, 1), (15, .newarray .int, 2), (17, .putfield 13, 3), (20, .aload_n 0, 1), (21, .bipush 20, 2), (23, .newarray .int, 2), (25, .putfield 16, 3), (28, .aload_n 0, 1), (29, .bipush 20, 2), (31, .newarray .int, 2), (33, .putfield 19, 3), (36, .aload_n 0, 1), (37, .bipush 20, 2), (39, .newarray .int, 2), (41, .putfield 22, 3), (44, .aload_n 0, 1), (45, .getfield 7, 3), (48, .iconst 1, 1), (49, .iconst 2, 1), (50, .iastore, 1), (51, .aload_n 0, 1), (52, .getfield 7, 3), (55, .iconst 4, 1), (56, .iconst (-1), 1), (57, .iastore, 1), (58, .aload_n 0, 1), (59, .getfield 7, 3), (62, .iconst 5, 1), (63, .iconst (-1), 1), (64, .iastore, 1), (65, .aload_n 0, 1), (66, .getfield 7, 3), (69, .bipush 6, 2), (71, .iconst (-1), 1), (72, .iastore, 1), (73, .iconst 1, 1), (74, .istore_n 1, 1), (75, .iload_n 1, 1), (76, .iconst 5, 1), (77, .if_icmp .ge 19, 3), (80, .aload_n 0, 1), (81, .getfield 7, 3), (84, .bipush 22, 2), (86, .iload_n 1, 1), (87, .iadd, 1), (88, .iconst (-1), 1), (89, .iastore, 1), (90, .iinc 1 1, 3), (93, .goto (-18), 3), (96, .aload_n 0, 1), (97, .getfield 7, 3), (100, .bipush 27, 2), (102, .iconst 1, 1), (103, .iastore, 1), (104, .aload_n 0, 1), (105, .getfield 7, 3), (108, .bipush 32, 2), (110, .iconst 1, 1), (111, .iastore, 1), (112, .aload_n 0, 1), (113, .getfield 7, 3), (116, .bipush 47, 2), (118, .iconst 1, 1), (119, .iastore, 1), (120, .aload_n 0, 1), (121, .getfield 7, 3), (124, .bipush 48, 2), (126, .iconst 1, 1), (127, .iastore, 1), (128, .aload_n 0, 1), (129, .getfield 7, 3), (132, .bipush 88, 2), (134, .iconst 1, 1), (135, .iastore, 1), (136, .return_, 1)]
theorem oX5_init : ∀ q ∈ pX5_init, decode cX5_init q.1 = .ok (q.2.1, q.2.2) := by decide +kernel
def pX5_in : List (Nat × Instr × Nat) := [(0, .lload_n 0, 1), (1, .lload_n 2, 1), (2, .lcmp, 1), (3, .ifCond .lt 14, 3), (6, .lload_n 0, 1), (7, .lload 4, 2), (9, .lcmp, 1), (10, .ifCond .gt 7, 3), (13, .iconst 1, 1), (14, .goto 4, 3), (17, .iconst 0, 1), (18, .ireturn, 1)]
theorem oX5_in : ∀ q ∈ pX5_in, decode cX5_in q.1 = .ok (q.2.1, q.2.2) := by decide +kernel
def pX5_sizeOf : List (Nat × Instr × Nat) := [(0, .iload_n 0, 1), (1, .ifCond .ne 7, 3), (4, .iconst 5, 1), (5, .goto 22, 3), (8, .iload_n 0, 1), (9, .iconst 3, 1), (10, .if_icmp .ge 7, 3), (13, .iconst 4, 1), (14, .goto 13, 3), (17, .iload_n 0, 1), (18, .iconst 3, 1), (19, .if_icmp .ne 7, 3), (22, .iconst 3, 1), (23, .goto 4, 3), (26, .iconst 2, 1), (27, .ireturn, 1)]
theorem oX5_sizeOf : ∀ q ∈ pX5_sizeOf, decode cX5_sizeOf q.1 = .ok (q.2.1, q.2.2) := by decide +kernel
def pX5_removeAt : List (Nat × Instr × Nat) := [(0, .iload_n 1, 1), (1, .iload_n 2, 1), (2, .iload 4, 2), (4, .imul, 1), (5, .iadd, 1), (6, .istore 5, 2), (8, .iload 5, 2), (10, .iload_n 1, 1), (11, .iload_n 2, 1), (12, .aload_n 0, 1), (13, .getfield 7, 3), (16, .iload_n 3, 1), (17, .iaload, 1), (18, .iconst 1, 1), (19, .isub, 1), (20, .imul, 1), (21, .iadd, 1), (22, .if_icmp .ge 25, 3), (25, .aload_n 0, 1), (26, .getfield 7, 3), (29, .iload 5, 2), (31, .aload_n 0, 1), (32, .getfield 7, 3), (35, .iload 5, 2), (37, .iload_n 2, 1), (38, .iadd, 1), (39, .iaload, 1), (40, .iastore, 1), (41, .iinc 5 1, 3), (44, .goto (-36), 3), (47, .aload_n 0, 1), (48, .getfield 7, 3), (51, .iload_n 3, 1), (52, .dup2, 1), (53, .iaload, 1), (54, .iconst 1, 1), (55, .isub, 1), (56, .iastore, 1), (57, .return_, 1)]
theorem oX5_removeAt : ∀ q ∈ pX5_removeAt, decode cX5_removeAt q.1 = .ok (q.2.1, q.2.2) := by decide +kernel
def pX5_send : List (Nat × Instr × Nat) := [(0, .aload_n 0, 1), (1, .getfield 7, 3), (4, .bipush 14, 2), (6, .iload_n 1, 1), (7, .iadd, 1), (8, .iaload, 1), (9, .istore 5, 2), (11, .aload_n 0, 1), (12, .getfield 7, 3), (15, .bipush 14, 2), (17, .iload_n 1, 1), (18, .iadd, 1), (19, .dup2, 1), (20, .iaload, 1), (21, .iconst 1, 1), (22, .iadd, 1), (23, .iastore, 1), (24, .aload_n 0, 1), (25, .getfield 7, 3), (28, .bipush 42, 2), (30, .iload_n 2, 1), (31, .iadd, 1), (32, .dup2, 1), (33, .iaload, 1), (34, .iload_n 1, 1), (35, .iconst 1, 1), (36, .if_icmp .ne 10, 3), (39, .iload_n 3, 1), (40, .invokestatic 25, 3), (43, .goto 4, 3), (46, .iconst 0, 1), (47, .iadd, 1), (48, .iastore, 1), (49, .aload_n 0, 1), (50, .getfield 7, 3), (53, .bipush 11, 2), (55, .iaload, 1), (56, .bipush 24, 2), (58, .if_icmp .ne 15, 3), (61, .aload_n 0, 1), (62, .getfield 7, 3), (65, .bipush 10, 2), (67, .dup2, 1), (68, .iaload, 1), (69, .iconst 1, 1), (70, .iadd, 1), (71, .iastore, 1), (72, .return_, 1), (73, .sipush 327, 3), (76, .bipush 6, 2), (78, .aload_n 0, 1), (79, .getfield 7, 3), (82, .bipush 11, 2), (84, .iaload, 1), (85, .imul, 1), (86, .iadd, 1), (87, .istore 6, 2), (89, .aload_n 0, 1), (90, .getfield 7, 3), (93, .iload 6, 2), (95, .iload_n 1, 1), (96, .iastore, 1), (97, .aload_n 0, 1), (98, .getfield 7, 3), (101, .iload 6, 2), (103, .iconst 1, 1), (104, .iadd, 1), (105, .iload_n 2, 1), (106, .iastore, 1), (107, .aload_n 0, 1), (108, .getfield 7, 3), (111, .iload 6, 2), (113, .iconst 2, 1), (114, .iadd, 1), (115, .iload_n 1, 1), (116, .ifCond .ne 15, 3), (119, .aload_n 0, 1), (120, .getfield 7, 3), (123, .bipush 22, 2), (125, .iload_n 2, 1), (126, .iadd, 1), (127, .iaload, 1), (128, .goto 4, 3), (131, .iconst (-1), 1), (132, .iastore, 1), (133, .aload_n 0, 1), (134, .getfield 7, 3), (137, .iload 6, 2), (139, .iconst 3, 1), (140, .iadd, 1), (141, .iload 5, 2), (143, .iastore, 1), (144, .aload_n 0, 1), (145, .getfield 7, 3), (148, .iload 6, 2), (150, .iconst 4, 1), (151, .iadd, 1), (152, .iload_n 3, 1), (153, .iastore, 1), (154, .aload_n 0, 1), (155, .getfield 7, 3), (158, .iload 6, 2), (160, .iconst 5, 1), (161, .iadd, 1), (162, .iload 4, 2), (164, .iastore, 1), (165, .aload_n 0, 1), (166, .getfield 7, 3), (169, .bipush 11, 2), (171, .dup2, 1), (172, .iaload, 1), (173, .iconst 1, 1), (174, .iadd, 1), (175, .iastore, 1), (176, .return_, 1)]
theorem oX5_send : ∀ q ∈ pX5_send, decode cX5_send q.1 = .ok (q.2.1, q.2.2) := by decide +kernel
def pX5_maySend : List (Nat × Instr × Nat) := [(0, .aload_n 0, 1), (1, .getfield 7, 3), (4, .bipush 32, 2), (6, .iload_n 1, 1), (7, .iadd, 1), (8, .iaload, 1), (9, .iconst 1, 1), (10, .if_icmp .eq 31, 3), (13, .aload_n 0, 1), (14, .getfield 7, 3), (17, .bipush 42, 2), (19, .iload_n 1, 1), (20, .iadd, 1), (21, .iaload, 1), (22, .iload_n 2, 1), (23, .invokestatic 25, 3), (26, .iadd, 1), (27, .iconst 3, 1), (28, .aload_n 0, 1), (29, .getfield 7, 3), (32, .bipush 37, 2), (34, .iload_n 1, 1), (35, .iadd, 1), (36, .iaload, 1), (37, .imul, 1), (38, .if_icmp .gt 7, 3), (41, .iconst 1, 1), (42, .goto 4, 3), (45, .iconst 0, 1), (46, .ireturn, 1)]
theorem oX5_maySend : ∀ q ∈ pX5_maySend, decode cX5_maySend q.1 = .ok (q.2.1, q.2.2) := by decide +kernel
end
section
def pX5_hold : List (Nat × Instr × Nat) := [(0, .aload_n 0, 1), (1, .getfield 7, 3), (4, .bipush 12, 2), (6, .iaload, 1), (7, .bipush 12, 2), (9, .if_icmp .ne 14, 3), (12, .aload_n 0, 1), (13, .sipush 471, 3), (16, .iconst 3, 1), (17, .bipush 12, 2), (19, .iconst 0, 1), (20, .invokevirtual 29, 3), (23, .sipush 471, 3), (26, .iconst 3, 1), (27, .aload_n 0, 1), (28, .getfield 7, 3), (31, .bipush 12, 2), (33, .iaload, 1), (34, .imul, 1), (35, .iadd, 1), (36, .istore 4, 2), (38, .aload_n 0, 1), (39, .getfield 7, 3), (42, .iload 4, 2), (44, .iload_n 1, 1), (45, .iastore, 1), (46, .aload_n 0, 1), (47, .getfield 7, 3), (50, .iload 4, 2), (52, .iconst 1, 1), (53, .iadd, 1), (54, .iload_n 2, 1), (55, .iastore, 1), (56, .aload_n 0, 1), (57, .getfield 7, 3), (60, .iload 4, 2), (62, .iconst 2, 1), (63, .iadd, 1), (64, .iload_n 3, 1), (65, .iastore, 1), (66, .aload_n 0, 1), (67, .getfield 7, 3), (70, .bipush 12, 2), (72, .dup2, 1), (73, .iaload, 1), (74, .iconst 1, 1), (75, .iadd, 1), (76, .iastore, 1), (77, .return_, 1)]
theorem oX5_hold : ∀ q ∈ pX5_hold, decode cX5_hold q.1 = .ok (q.2.1, q.2.2) := by decide +kernel
def pX5_goes : List (Nat × Instr × Nat) := [(0, .iload_n 1, 1), (1, .ifCond .eq 12, 3), (4, .aload_n 0, 1), (5, .iload_n 2, 1), (6, .iload_n 3, 1), (7, .invokevirtual 33, 3), (10, .ifCond .eq 15, 3), (13, .aload_n 0, 1), (14, .iload_n 1, 1), (15, .iload_n 2, 1), (16, .iload_n 3, 1), (17, .iload 4, 2), (19, .invokevirtual 37, 3), (22, .goto 11, 3), (25, .aload_n 0, 1), (26, .iload_n 2, 1), (27, .iload_n 3, 1), (28, .iload 4, 2), (30, .invokevirtual 40, 3), (33, .return_, 1)]
theorem oX5_goes : ∀ q ∈ pX5_goes, decode cX5_goes q.1 = .ok (q.2.1, q.2.2) := by decide +kernel
def pX5_firstHeld : List (Nat × Instr × Nat) := [(0, .iconst 0, 1), (1, .istore_n 2, 1), (2, .iload_n 2, 1), (3, .aload_n 0, 1), (4, .getfield 7, 3), (7, .bipush 12, 2), (9, .iaload, 1), (10, .if_icmp .ge 27, 3), (13, .aload_n 0, 1), (14, .getfield 7, 3), (17, .sipush 471, 3), (20, .iconst 3, 1), (21, .iload_n 2, 1), (22, .imul, 1), (23, .iadd, 1), (24, .iaload, 1), (25, .iload_n 1, 1), (26, .if_icmp .ne 5, 3), (29, .iload_n 2, 1), (30, .ireturn, 1), (31, .iinc 2 1, 3), (34, .goto (-32), 3), (37, .iconst (-1), 1), (38, .ireturn, 1)]
theorem oX5_firstHeld : ∀ q ∈ pX5_firstHeld, decode cX5_firstHeld q.1 = .ok (q.2.1, q.2.2) := by decide +kernel
def pX5_letOut : List (Nat × Instr × Nat) := [(0, .aload_n 0, 1), (1, .iload_n 1, 1), (2, .invokevirtual 44, 3), (5, .istore_n 2, 1), (6, .iload_n 2, 1), (7, .ifCond .lt 85, 3), (10, .aload_n 0, 1), (11, .iload_n 1, 1), (12, .aload_n 0, 1), (13, .getfield 7, 3), (16, .sipush 471, 3), (19, .iconst 3, 1), (20, .iload_n 2, 1), (21, .imul, 1), (22, .iadd, 1), (23, .iconst 1, 1), (24, .iadd, 1), (25, .iaload, 1), (26, .invokevirtual 33, 3), (29, .ifCond .eq 63, 3), (32, .aload_n 0, 1), (33, .getfield 7, 3), (36, .sipush 471, 3), (39, .iconst 3, 1), (40, .iload_n 2, 1), (41, .imul, 1), (42, .iadd, 1), (43, .iconst 1, 1), (44, .iadd, 1), (45, .iaload, 1), (46, .istore_n 3, 1), (47, .aload_n 0, 1), (48, .getfield 7, 3), (51, .sipush 471, 3), (54, .iconst 3, 1), (55, .iload_n 2, 1), (56, .imul, 1), (57, .iadd, 1), (58, .iconst 2, 1), (59, .iadd, 1), (60, .iaload, 1), (61, .istore 4, 2), (63, .aload_n 0, 1), (64, .sipush 471, 3), (67, .iconst 3, 1), (68, .bipush 12, 2), (70, .iload_n 2, 1), (71, .invokevirtual 29, 3), (74, .aload_n 0, 1), (75, .iconst 1, 1), (76, .iload_n 1, 1), (77, .iload_n 3, 1), (78, .iload 4, 2), (80, .invokevirtual 37, 3), (83, .aload_n 0, 1), (84, .iload_n 1, 1), (85, .invokevirtual 44, 3), (88, .istore_n 2, 1), (89, .goto (-83), 3), (92, .return_, 1)]
theorem oX5_letOut : ∀ q ∈ pX5_letOut, decode cX5_letOut q.1 = .ok (q.2.1, q.2.2) := by decide +kernel
def pX5_challengeNow : List (Nat × Instr × Nat) := [(0, .aload_n 0, 1), (1, .getfield 7, 3), (4, .bipush 13, 2), (6, .iaload, 1), (7, .bipush 6, 2), (9, .if_icmp .ne 14, 3), (12, .aload_n 0, 1), (13, .sipush 507, 3), (16, .iconst 5, 1), (17, .bipush 13, 2), (19, .iconst 0, 1), (20, .invokevirtual 29, 3), (23, .sipush 507, 3), (26, .iconst 5, 1), (27, .aload_n 0, 1), (28, .getfield 7, 3), (31, .bipush 13, 2), (33, .iaload, 1), (34, .imul, 1), (35, .iadd, 1), (36, .istore_n 3, 1), (37, .aload_n 0, 1), (38, .getfield 7, 3), (41, .bipush 16, 2), (43, .iload_n 1, 1), (44, .iadd, 1), (45, .iaload, 1), (46, .istore 4, 2), (48, .aload_n 0, 1), (49, .getfield 7, 3), (52, .bipush 16, 2), (54, .iload_n 1, 1), (55, .iadd, 1), (56, .dup2, 1), (57, .iaload, 1), (58, .iconst 1, 1), (59, .iadd, 1), (60, .iastore, 1), (61, .aload_n 0, 1), (62, .getfield 7, 3), (65, .iload_n 3, 1), (66, .iload_n 1, 1), (67, .iastore, 1), (68, .aload_n 0, 1), (69, .getfield 7, 3), (72, .iload_n 3, 1), (73, .iconst 1, 1), (74, .iadd, 1), (75, .iload 4, 2), (77, .iastore, 1), (78, .aload_n 0, 1), (79, .getfield 7, 3), (82, .iload_n 3, 1), (83, .iconst 2, 1), (84, .iadd, 1), (85, .iload_n 2, 1), (86, .iastore, 1), (87, .aload_n 0, 1), (88, .getfield 7, 3), (91, .iload_n 3, 1), (92, .iconst 3, 1), (93, .iadd, 1), (94, .aload_n 0, 1), (95, .getfield 7, 3), (98, .iconst 0, 1), (99, .iaload, 1), (100, .iastore, 1), (101, .aload_n 0, 1), (102, .getfield 7, 3), (105, .iload_n 3, 1), (106, .iconst 4, 1), (107, .iadd, 1), (108, .iconst 0, 1), (109, .iastore, 1), (110, .aload_n 0, 1), (111, .getfield 7, 3), (114, .bipush 13, 2), (116, .dup2, 1), (117, .iaload, 1), (118, .iconst 1, 1), (119, .iadd, 1), (120, .iastore, 1), (121, .aload_n 0, 1), (122, .iload_n 1, 1), (123, .iload_n 2, 1), (124, .iconst 1, 1), (125, .iload 4, 2), (127, .invokevirtual 47, 3), (130, .return_, 1)]
theorem oX5_challengeNow : ∀ q ∈ pX5_challengeNow, decode cX5_challengeNow q.1 = .ok (q.2.1, q.2.2) := by decide +kernel
def pX5_findAsked : List (Nat × Instr × Nat) := [(0, .iconst 0, 1), (1, .istore 4, 2), (3, .iload 4, 2), (5, .aload_n 0, 1), (6, .getfield 7, 3), (9, .bipush 13, 2), (11, .iaload, 1), (12, .if_icmp .ge 48, 3), (15, .aload_n 0, 1), (16, .getfield 7, 3), (19, .sipush 507, 3), (22, .iconst 5, 1), (23, .iload 4, 2), (25, .imul, 1), (26, .iadd, 1), (27, .iaload, 1), (28, .iload_n 1, 1), (29, .if_icmp .ne 25, 3), (32, .aload_n 0, 1), (33, .getfield 7, 3), (36, .sipush 507, 3), (39, .iconst 5, 1), (40, .iload 4, 2), (42, .imul, 1), (43, .iadd, 1), (44, .iload_n 2, 1), (45, .iadd, 1), (46, .iaload, 1), (47, .iload_n 3, 1), (48, .if_icmp .ne 6, 3), (51, .iload 4, 2), (53, .ireturn, 1), (54, .iinc 4 1, 3), (57, .goto (-54), 3), (60, .iconst (-1), 1), (61, .ireturn, 1)]
theorem oX5_findAsked : ∀ q ∈ pX5_findAsked, decode cX5_findAsked q.1 = .ok (q.2.1, q.2.2) := by decide +kernel
def pX5_challengeOnce : List (Nat × Instr × Nat) := [(0, .aload_n 0, 1), (1, .getfield 7, 3), (4, .bipush 32, 2), (6, .iload_n 1, 1), (7, .iadd, 1), (8, .iaload, 1), (9, .ifCond .ne 19, 3), (12, .aload_n 0, 1), (13, .iconst 1, 1), (14, .iconst 2, 1), (15, .iload_n 1, 1), (16, .invokevirtual 50, 3), (19, .ifCond .ge 9, 3), (22, .aload_n 0, 1), (23, .iconst 1, 1), (24, .iload_n 1, 1), (25, .invokevirtual 54, 3), (28, .return_, 1)]
theorem oX5_challengeOnce : ∀ q ∈ pX5_challengeOnce, decode cX5_challengeOnce q.1 = .ok (q.2.1, q.2.2) := by decide +kernel
def pX5_took : List (Nat × Instr × Nat) := [(0, .aload_n 0, 1), (1, .getfield 7, 3), (4, .sipush 537, 3), (7, .sipush 1300, 3), (10, .iload_n 1, 1), (11, .imul, 1), (12, .iadd, 1), (13, .iload_n 2, 1), (14, .bipush 32, 2), (16, .idiv, 1), (17, .iadd, 1), (18, .iaload, 1), (19, .iload_n 2, 1), (20, .bipush 32, 2), (22, .irem, 1), (23, .ishr, 1), (24, .iconst 1, 1), (25, .iand, 1), (26, .iconst 1, 1), (27, .if_icmp .ne 7, 3), (30, .iconst 1, 1), (31, .goto 4, 3), (34, .iconst 0, 1), (35, .ireturn, 1)]
theorem oX5_took : ∀ q ∈ pX5_took, decode cX5_took q.1 = .ok (q.2.1, q.2.2) := by decide +kernel
def pX5_note : List (Nat × Instr × Nat) := [(0, .aload_n 0, 1), (1, .getfield 7, 3), (4, .sipush 537, 3), (7, .sipush 1300, 3), (10, .iload_n 1, 1), (11, .imul, 1), (12, .iadd, 1), (13, .iload_n 2, 1), (14, .bipush 32, 2), (16, .idiv, 1), (17, .iadd, 1), (18, .dup2, 1), (19, .iaload, 1), (20, .iconst 1, 1), (21, .iload_n 2, 1), (22, .bipush 32, 2), (24, .irem, 1), (25, .ishl, 1), (26, .ior, 1), (27, .iastore, 1), (28, .return_, 1)]
theorem oX5_note : ∀ q ∈ pX5_note, decode cX5_note q.1 = .ok (q.2.1, q.2.2) := by decide +kernel
def pX5_inRow : List (Nat × Instr × Nat) := [(0, .iconst 0, 1), (1, .istore_n 2, 1), (2, .iload_n 2, 1), (3, .bipush 100, 2), (5, .if_icmp .ge 27, 3), (8, .aload_n 0, 1), (9, .getfield 7, 3), (12, .bipush 127, 2), (14, .bipush 100, 2), (16, .iload_n 1, 1), (17, .imul, 1), (18, .iadd, 1), (19, .iload_n 2, 1), (20, .iadd, 1), (21, .iaload, 1), (22, .iconst 1, 1), (23, .if_icmp .ne 9, 3), (26, .iinc 2 1, 3), (29, .goto (-27), 3), (32, .iload_n 2, 1), (33, .ireturn, 1)]
theorem oX5_inRow : ∀ q ∈ pX5_inRow, decode cX5_inRow q.1 = .ok (q.2.1, q.2.2) := by decide +kernel
def pX5_word : List (Nat × Instr × Nat) := [(0, .iload_n 3, 1), (1, .ifCond .eq 18, 3), (4, .aload_n 0, 1), (5, .getfield 7, 3), (8, .bipush 127, 2), (10, .bipush 100, 2), (12, .iload_n 1, 1), (13, .imul, 1), (14, .iadd, 1), (15, .iload_n 2, 1), (16, .iadd, 1), (17, .iconst 1, 1), (18, .iastore, 1), (19, .aload_n 0, 1), (20, .iload_n 1, 1), (21, .aload_n 0, 1), (22, .getfield 7, 3), (25, .iconst 2, 1), (26, .iload_n 1, 1), (27, .iadd, 1), (28, .iaload, 1), (29, .iconst 5, 1), (30, .aload_n 0, 1), (31, .iload_n 1, 1), (32, .invokevirtual 58, 3), (35, .invokevirtual 47, 3), (38, .return_, 1)]
theorem oX5_word : ∀ q ∈ pX5_word, decode cX5_word q.1 = .ok (q.2.1, q.2.2) := by decide +kernel
def pX5_confirm : List (Nat × Instr × Nat) := [(0, .aload_n 0, 1), (1, .getfield 7, 3), (4, .bipush 20, 2), (6, .iload_n 1, 1), (7, .iadd, 1), (8, .iload_n 2, 1), (9, .aload_n 0, 1), (10, .getfield 7, 3), (13, .bipush 20, 2), (15, .iload_n 1, 1), (16, .iadd, 1), (17, .iaload, 1), (18, .if_icmp .le 7, 3), (21, .iload_n 2, 1), (22, .goto 12, 3), (25, .aload_n 0, 1), (26, .getfield 7, 3), (29, .bipush 20, 2), (31, .iload_n 1, 1), (32, .iadd, 1), (33, .iaload, 1), (34, .iastore, 1), (35, .return_, 1)]
theorem oX5_confirm : ∀ q ∈ pX5_confirm, decode cX5_confirm q.1 = .ok (q.2.1, q.2.2) := by decide +kernel
def pX5_follow : List (Nat × Instr × Nat) := [(0, .aload_n 0, 1), (1, .getfield 7, 3), (4, .iconst 3, 1), (5, .iaload, 1), (6, .iload_n 1, 1), (7, .if_icmp .eq 51, 3), (10, .aload_n 0, 1), (11, .getfield 7, 3), (14, .iconst 3, 1), (15, .iaload, 1), (16, .istore_n 2, 1), (17, .aload_n 0, 1), (18, .getfield 7, 3), (21, .iconst 5, 1), (22, .aload_n 0, 1), (23, .getfield 7, 3), (26, .bipush 32, 2), (28, .iload_n 2, 1), (29, .iadd, 1), (30, .iaload, 1), (31, .iconst 1, 1), (32, .if_icmp .ne 7, 3), (35, .iload_n 2, 1), (36, .goto 9, 3), (39, .aload_n 0, 1), (40, .getfield 7, 3), (43, .iconst 5, 1), (44, .iaload, 1), (45, .iastore, 1), (46, .aload_n 0, 1), (47, .getfield 7, 3), (50, .iconst 3, 1), (51, .iload_n 1, 1), (52, .iastore, 1), (53, .aload_n 0, 1), (54, .iload_n 1, 1), (55, .invokevirtual 61, 3), (58, .return_, 1)]
theorem oX5_follow : ∀ q ∈ pX5_follow, decode cX5_follow q.1 = .ok (q.2.1, q.2.2) := by decide +kernel
def pX5_proveBy : List (Nat × Instr × Nat) := [(0, .aload_n 0, 1), (1, .iconst 1, 1), (2, .iconst 1, 1), (3, .iload_n 1, 1), (4, .invokevirtual 50, 3), (7, .istore_n 2, 1), (8, .iload_n 2, 1), (9, .ifCond .lt 44, 3), (12, .aload_n 0, 1), (13, .getfield 7, 3), (16, .sipush 507, 3), (19, .iconst 5, 1), (20, .iload_n 2, 1), (21, .imul, 1), (22, .iadd, 1), (23, .iconst 2, 1), (24, .iadd, 1), (25, .iaload, 1), (26, .istore_n 3, 1), (27, .aload_n 0, 1), (28, .sipush 507, 3), (31, .iconst 5, 1), (32, .bipush 13, 2), (34, .iload_n 2, 1), (35, .invokevirtual 29, 3), (38, .aload_n 0, 1), (39, .getfield 7, 3), (42, .bipush 32, 2), (44, .iload_n 3, 1), (45, .iadd, 1), (46, .iconst 1, 1), (47, .iastore, 1), (48, .aload_n 0, 1), (49, .iload_n 3, 1), (50, .invokevirtual 65, 3), (53, .return_, 1)]
theorem oX5_proveBy : ∀ q ∈ pX5_proveBy, decode cX5_proveBy q.1 = .ok (q.2.1, q.2.2) := by decide +kernel
def pX5_retire : List (Nat × Instr × Nat) := [(0, .iload_n 1, 1), (1, .i2l, 1), (2, .lconst 0, 1), (3, .aload_n 0, 1), (4, .getfield 7, 3), (7, .iconst 1, 1), (8, .iaload, 1), (9, .iconst 1, 1), (10, .isub, 1), (11, .i2l, 1), (12, .invokestatic 68, 3), (15, .ifCond .eq 25, 3), (18, .aload_n 0, 1), (19, .getfield 7, 3), (22, .bipush 47, 2), (24, .iload_n 1, 1), (25, .iadd, 1), (26, .iaload, 1), (27, .iconst 1, 1), (28, .if_icmp .ne 12, 3), (31, .iload_n 1, 1), (32, .iload_n 2, 1), (33, .if_icmp .eq 7, 3), (36, .iconst 1, 1), (37, .goto 4, 3), (40, .iconst 0, 1), (41, .istore_n 3, 1), (42, .iload_n 3, 1), (43, .ifCond .eq 67, 3), (46, .aload_n 0, 1), (47, .getfield 7, 3), (50, .bipush 47, 2), (52, .iload_n 1, 1), (53, .iadd, 1), (54, .iconst 0, 1), (55, .iastore, 1), (56, .aload_n 0, 1), (57, .getfield 7, 3), (60, .iconst 1, 1), (61, .iaload, 1), (62, .bipush 40, 2), (64, .if_icmp .ge 46, 3), (67, .aload_n 0, 1), (68, .getfield 7, 3), (71, .iconst 1, 1), (72, .iaload, 1), (73, .istore 4, 2), (75, .aload_n 0, 1), (76, .getfield 7, 3), (79, .bipush 47, 2), (81, .iload 4, 2), (83, .iadd, 1), (84, .iconst 1, 1), (85, .iastore, 1), (86, .aload_n 0, 1), (87, .getfield 7, 3), (90, .iconst 1, 1), (91, .dup2, 1), (92, .iaload, 1), (93, .iconst 1, 1), (94, .iadd, 1), (95, .iastore, 1), (96, .aload_n 0, 1), (97, .iconst 1, 1), (98, .aload_n 0, 1), (99, .getfield 7, 3), (102, .iconst 3, 1), (103, .iaload, 1), (104, .iconst 3, 1), (105, .iload 4, 2), (107, .invokevirtual 47, 3), (110, .return_, 1)]
theorem oX5_retire : ∀ q ∈ pX5_retire, decode cX5_retire q.1 = .ok (q.2.1, q.2.2) := by decide +kernel
def pX5_isLive : List (Nat × Instr × Nat) := [(0, .iload_n 1, 1), (1, .i2l, 1), (2, .lconst 0, 1), (3, .aload_n 0, 1), (4, .getfield 7, 3), (7, .iconst 1, 1), (8, .iaload, 1), (9, .iconst 1, 1), (10, .isub, 1), (11, .i2l, 1), (12, .invokestatic 68, 3), (15, .ifCond .eq 20, 3), (18, .aload_n 0, 1), (19, .getfield 7, 3), (22, .bipush 47, 2), (24, .iload_n 1, 1), (25, .iadd, 1), (26, .iaload, 1), (27, .iconst 1, 1), (28, .if_icmp .ne 7, 3), (31, .iconst 1, 1), (32, .goto 4, 3), (35, .iconst 0, 1), (36, .ireturn, 1)]
theorem oX5_isLive : ∀ q ∈ pX5_isLive, decode cX5_isLive q.1 = .ok (q.2.1, q.2.2) := by decide +kernel
def pX5_takenByHouse : List (Nat × Instr × Nat) := [(0, .aload_n 0, 1), (1, .iload_n 2, 1), (2, .invokevirtual 72, 3), (5, .ifCond .ne 5, 3), (8, .iconst 1, 1), (9, .ireturn, 1), (10, .aload_n 0, 1), (11, .iconst 1, 1), (12, .iload_n 3, 1), (13, .invokevirtual 76, 3), (16, .ifCond .eq 5, 3), (19, .iconst 3, 1), (20, .ireturn, 1), (21, .aload_n 0, 1), (22, .iconst 1, 1), (23, .iload_n 3, 1), (24, .invokevirtual 79, 3), (27, .aload_n 0, 1), (28, .getfield 7, 3), (31, .bipush 37, 2), (33, .iload_n 1, 1), (34, .iadd, 1), (35, .dup2, 1), (36, .iaload, 1), (37, .iload 4, 2), (39, .invokestatic 25, 3), (42, .iadd, 1), (43, .iastore, 1), (44, .iload 4, 2), (46, .ifCond .eq 9, 3), (49, .iload 4, 2), (51, .iconst 3, 1), (52, .if_icmp .le 27, 3), (55, .iload_n 3, 1), (56, .aload_n 0, 1), (57, .getfield 7, 3), (60, .bipush 6, 2), (62, .iaload, 1), (63, .if_icmp .le 16, 3), (66, .aload_n 0, 1), (67, .getfield 7, 3), (70, .bipush 6, 2), (72, .iload_n 3, 1), (73, .iastore, 1), (74, .aload_n 0, 1), (75, .iload_n 1, 1), (76, .invokevirtual 82, 3), (79, .iload 4, 2), (81, .tableswitch 96 0 5 #[39, 50, 67, 96, 76, 86], 39), (120, .aload_n 0, 1), (121, .iconst 1, 1), (122, .iload 5, 2), (124, .iconst 1, 1), (125, .invokevirtual 85, 3), (128, .goto 49, 3), (131, .aload_n 0, 1), (132, .iconst 1, 1), (133, .iload_n 1, 1), (134, .iconst 2, 1), (135, .iload 5, 2), (137, .invokevirtual 47, 3), (140, .aload_n 0, 1), (141, .iload_n 1, 1), (142, .invokevirtual 61, 3), (145, .goto 32, 3), (148, .aload_n 0, 1), (149, .iload 5, 2), (151, .invokevirtual 89, 3), (154, .goto 23, 3), (157, .aload_n 0, 1), (158, .iload 5, 2), (160, .iload_n 2, 1), (161, .invokevirtual 92, 3), (164, .goto 13, 3), (167, .aload_n 0, 1), (168, .iconst 1, 1), (169, .iload 5, 2), (171, .invokevirtual 95, 3), (174, .goto 3, 3), (177, .aload_n 0, 1), (178, .iload_n 1, 1), (179, .invokevirtual 65, 3), (182, .iconst 0, 1), (183, .ireturn, 1)]
theorem oX5_takenByHouse : ∀ q ∈ pX5_takenByHouse, decode cX5_takenByHouse q.1 = .ok (q.2.1, q.2.2) := by decide +kernel
def pX5_sureBy : List (Nat × Instr × Nat) := [(0, .aload_n 0, 1), (1, .iconst 0, 1), (2, .iconst 1, 1), (3, .iload_n 1, 1), (4, .invokevirtual 50, 3), (7, .istore_n 2, 1), (8, .iload_n 2, 1), (9, .ifCond .lt 37, 3), (12, .aload_n 0, 1), (13, .getfield 7, 3), (16, .bipush 27, 2), (18, .aload_n 0, 1), (19, .getfield 7, 3), (22, .sipush 507, 3), (25, .iconst 5, 1), (26, .iload_n 2, 1), (27, .imul, 1), (28, .iadd, 1), (29, .iconst 2, 1), (30, .iadd, 1), (31, .iaload, 1), (32, .iadd, 1), (33, .iconst 1, 1), (34, .iastore, 1), (35, .aload_n 0, 1), (36, .sipush 507, 3), (39, .iconst 5, 1), (40, .bipush 13, 2), (42, .iload_n 2, 1), (43, .invokevirtual 29, 3), (46, .return_, 1)]
theorem oX5_sureBy : ∀ q ∈ pX5_sureBy, decode cX5_sureBy q.1 = .ok (q.2.1, q.2.2) := by decide +kernel
def pX5_takenByGuest : List (Nat × Instr × Nat) := [(0, .aload_n 0, 1), (1, .getfield 7, 3), (4, .bipush 22, 2), (6, .iload_n 1, 1), (7, .iadd, 1), (8, .iaload, 1), (9, .ifCond .ge 5, 3), (12, .iconst 2, 1), (13, .ireturn, 1), (14, .aload_n 0, 1), (15, .iconst 0, 1), (16, .iload_n 2, 1), (17, .invokevirtual 76, 3), (20, .ifCond .eq 5, 3), (23, .iconst 3, 1), (24, .ireturn, 1), (25, .aload_n 0, 1), (26, .iconst 0, 1), (27, .iload_n 2, 1), (28, .invokevirtual 79, 3), (31, .iload_n 3, 1), (32, .tableswitch 122 0 5 #[40, 51, 63, 72, 122, 112], 40), (72, .aload_n 0, 1), (73, .iconst 0, 1), (74, .iload 4, 2), (76, .iconst 1, 1), (77, .invokevirtual 85, 3), (80, .goto 74, 3), (83, .aload_n 0, 1), (84, .iconst 0, 1), (85, .iload_n 1, 1), (86, .iconst 2, 1), (87, .iload 4, 2), (89, .invokevirtual 47, 3), (92, .goto 62, 3), (95, .aload_n 0, 1), (96, .iload 4, 2), (98, .invokevirtual 98, 3), (101, .goto 53, 3), (104, .aload_n 0, 1), (105, .getfield 7, 3), (108, .bipush 87, 2), (110, .iload 4, 2), (112, .iadd, 1), (113, .aload_n 0, 1), (114, .getfield 7, 3), (117, .bipush 87, 2), (119, .iload 4, 2), (121, .iadd, 1), (122, .iaload, 1), (123, .ifCond .ne 7, 3), (126, .iconst 1, 1), (127, .goto 13, 3), (130, .aload_n 0, 1), (131, .getfield 7, 3), (134, .bipush 87, 2), (136, .iload 4, 2), (138, .iadd, 1), (139, .iaload, 1), (140, .iastore, 1), (141, .goto 13, 3), (144, .aload_n 0, 1), (145, .iconst 0, 1), (146, .iload 4, 2), (148, .invokevirtual 95, 3), (151, .goto 3, 3), (154, .iconst 0, 1), (155, .ireturn, 1)]
theorem oX5_takenByGuest : ∀ q ∈ pX5_takenByGuest, decode cX5_takenByGuest q.1 = .ok (q.2.1, q.2.2) := by decide +kernel
end
section
def pX5_goTo : List (Nat × Instr × Nat) := [(0, .aload_n 0, 1), (1, .getfield 7, 3), (4, .iconst 4, 1), (5, .aload_n 0, 1), (6, .getfield 7, 3), (9, .iconst 2, 1), (10, .iaload, 1), (11, .iastore, 1), (12, .aload_n 0, 1), (13, .getfield 7, 3), (16, .iconst 2, 1), (17, .iload_n 1, 1), (18, .iastore, 1), (19, .aload_n 0, 1), (20, .iconst 0, 1), (21, .iconst 0, 1), (22, .iconst 0, 1), (23, .invokevirtual 85, 3), (26, .return_, 1)]
theorem oX5_goTo : ∀ q ∈ pX5_goTo, decode cX5_goTo q.1 = .ok (q.2.1, q.2.2) := by decide +kernel
def pX5_closeNow : List (Nat × Instr × Nat) := [(0, .aload_n 0, 1), (1, .getfield 7, 3), (4, .bipush 22, 2), (6, .iload_n 1, 1), (7, .iadd, 1), (8, .iaload, 1), (9, .istore_n 2, 1), (10, .aload_n 0, 1), (11, .getfield 7, 3), (14, .bipush 22, 2), (16, .iload_n 1, 1), (17, .iadd, 1), (18, .iconst (-1), 1), (19, .iastore, 1), (20, .aload_n 0, 1), (21, .iconst 0, 1), (22, .aload_n 0, 1), (23, .getfield 7, 3), (26, .iconst 2, 1), (27, .iaload, 1), (28, .iconst 4, 1), (29, .iload_n 2, 1), (30, .invokevirtual 37, 3), (33, .return_, 1)]
theorem oX5_closeNow : ∀ q ∈ pX5_closeNow, decode cX5_closeNow q.1 = .ok (q.2.1, q.2.2) := by decide +kernel
def pX5_leastSpare : List (Nat × Instr × Nat) := [(0, .iconst 0, 1), (1, .istore_n 1, 1), (2, .iload_n 1, 1), (3, .bipush 40, 2), (5, .if_icmp .ge 24, 3), (8, .aload_n 0, 1), (9, .getfield 7, 3), (12, .bipush 87, 2), (14, .iload_n 1, 1), (15, .iadd, 1), (16, .iaload, 1), (17, .iconst 1, 1), (18, .if_icmp .ne 5, 3), (21, .iload_n 1, 1), (22, .ireturn, 1), (23, .iinc 1 1, 3), (26, .goto (-24), 3), (29, .iconst (-1), 1), (30, .ireturn, 1)]
theorem oX5_leastSpare : ∀ q ∈ pX5_leastSpare, decode cX5_leastSpare q.1 = .ok (q.2.1, q.2.2) := by decide +kernel
def pX5_forget : List (Nat × Instr × Nat) := [(0, .aload_n 0, 1), (1, .getfield 7, 3), (4, .bipush 32, 2), (6, .iload_n 1, 1), (7, .iadd, 1), (8, .iaload, 1), (9, .iconst 1, 1), (10, .if_icmp .ne 4, 3), (13, .return_, 1), (14, .aload_n 0, 1), (15, .getfield 7, 3), (18, .bipush 37, 2), (20, .iload_n 1, 1), (21, .iadd, 1), (22, .iconst 0, 1), (23, .iastore, 1), (24, .aload_n 0, 1), (25, .getfield 7, 3), (28, .bipush 42, 2), (30, .iload_n 1, 1), (31, .iadd, 1), (32, .iconst 0, 1), (33, .iastore, 1), (34, .aload_n 0, 1), (35, .iload_n 1, 1), (36, .invokevirtual 44, 3), (39, .istore_n 2, 1), (40, .iload_n 2, 1), (41, .ifCond .lt 23, 3), (44, .aload_n 0, 1), (45, .sipush 471, 3), (48, .iconst 3, 1), (49, .bipush 12, 2), (51, .iload_n 2, 1), (52, .invokevirtual 29, 3), (55, .aload_n 0, 1), (56, .iload_n 1, 1), (57, .invokevirtual 44, 3), (60, .istore_n 2, 1), (61, .goto (-21), 3), (64, .aload_n 0, 1), (65, .getfield 7, 3), (68, .iconst 3, 1), (69, .aload_n 0, 1), (70, .getfield 7, 3), (73, .iconst 3, 1), (74, .iaload, 1), (75, .iload_n 1, 1), (76, .if_icmp .ne 12, 3), (79, .aload_n 0, 1), (80, .getfield 7, 3), (83, .iconst 5, 1), (84, .iaload, 1), (85, .goto 9, 3), (88, .aload_n 0, 1), (89, .getfield 7, 3), (92, .iconst 3, 1), (93, .iaload, 1), (94, .iastore, 1), (95, .return_, 1)]
theorem oX5_forget : ∀ q ∈ pX5_forget, decode cX5_forget q.1 = .ok (q.2.1, q.2.2) := by decide +kernel
def pX5_giveUp : List (Nat × Instr × Nat) := [(0, .aload_n 0, 1), (1, .getfield 7, 3), (4, .bipush 22, 2), (6, .iload_n 1, 1), (7, .iadd, 1), (8, .iaload, 1), (9, .ifCond .lt 16, 3), (12, .aload_n 0, 1), (13, .getfield 7, 3), (16, .bipush 27, 2), (18, .iload_n 1, 1), (19, .iadd, 1), (20, .iaload, 1), (21, .iconst 1, 1), (22, .if_icmp .ne 4, 3), (25, .return_, 1), (26, .aload_n 0, 1), (27, .getfield 7, 3), (30, .iconst 2, 1), (31, .iaload, 1), (32, .iload_n 1, 1), (33, .if_icmp .ne 39, 3), (36, .aload_n 0, 1), (37, .getfield 7, 3), (40, .iconst 4, 1), (41, .iaload, 1), (42, .ifCond .lt 30, 3), (45, .aload_n 0, 1), (46, .getfield 7, 3), (49, .bipush 22, 2), (51, .aload_n 0, 1), (52, .getfield 7, 3), (55, .iconst 4, 1), (56, .iaload, 1), (57, .iadd, 1), (58, .iaload, 1), (59, .ifCond .lt 13, 3), (62, .aload_n 0, 1), (63, .aload_n 0, 1), (64, .getfield 7, 3), (67, .iconst 4, 1), (68, .iaload, 1), (69, .invokevirtual 101, 3), (72, .aload_n 0, 1), (73, .getfield 7, 3), (76, .iconst 2, 1), (77, .iaload, 1), (78, .iload_n 1, 1), (79, .if_icmp .eq 8, 3), (82, .aload_n 0, 1), (83, .iload_n 1, 1), (84, .invokevirtual 104, 3), (87, .return_, 1)]
theorem oX5_giveUp : ∀ q ∈ pX5_giveUp, decode cX5_giveUp q.1 = .ok (q.2.1, q.2.2) := by decide +kernel
def pX5_lookAt : List (Nat × Instr × Nat) := [(0, .sipush 507, 3), (3, .iconst 5, 1), (4, .iload_n 1, 1), (5, .imul, 1), (6, .iadd, 1), (7, .istore_n 2, 1), (8, .aload_n 0, 1), (9, .getfield 7, 3), (12, .iload_n 2, 1), (13, .iaload, 1), (14, .istore_n 3, 1), (15, .aload_n 0, 1), (16, .getfield 7, 3), (19, .iload_n 2, 1), (20, .iconst 2, 1), (21, .iadd, 1), (22, .iaload, 1), (23, .istore 4, 2), (25, .aload_n 0, 1), (26, .getfield 7, 3), (29, .iconst 0, 1), (30, .iaload, 1), (31, .aload_n 0, 1), (32, .getfield 7, 3), (35, .iload_n 2, 1), (36, .iconst 3, 1), (37, .iadd, 1), (38, .iaload, 1), (39, .isub, 1), (40, .iconst 3, 1), (41, .if_icmp .ge 5, 3), (44, .iconst 1, 1), (45, .ireturn, 1), (46, .aload_n 0, 1), (47, .getfield 7, 3), (50, .iload_n 2, 1), (51, .iconst 4, 1), (52, .iadd, 1), (53, .iaload, 1), (54, .iconst 2, 1), (55, .if_icmp .ge 47, 3), (58, .aload_n 0, 1), (59, .getfield 7, 3), (62, .iload_n 2, 1), (63, .iconst 4, 1), (64, .iadd, 1), (65, .dup2, 1), (66, .iaload, 1), (67, .iconst 1, 1), (68, .iadd, 1), (69, .iastore, 1), (70, .aload_n 0, 1), (71, .getfield 7, 3), (74, .iload_n 2, 1), (75, .iconst 3, 1), (76, .iadd, 1), (77, .aload_n 0, 1), (78, .getfield 7, 3), (81, .iconst 0, 1), (82, .iaload, 1), (83, .iastore, 1), (84, .aload_n 0, 1), (85, .iload_n 3, 1), (86, .iload 4, 2), (88, .iconst 1, 1), (89, .aload_n 0, 1), (90, .getfield 7, 3), (93, .iload_n 2, 1), (94, .iconst 1, 1), (95, .iadd, 1), (96, .iaload, 1), (97, .invokevirtual 47, 3), (100, .iconst 1, 1), (101, .ireturn, 1), (102, .aload_n 0, 1), (103, .sipush 507, 3), (106, .iconst 5, 1), (107, .bipush 13, 2), (109, .iload_n 1, 1), (110, .invokevirtual 29, 3), (113, .iload_n 3, 1), (114, .iconst 1, 1), (115, .if_icmp .ne 12, 3), (118, .aload_n 0, 1), (119, .iload 4, 2), (121, .invokevirtual 107, 3), (124, .goto 9, 3), (127, .aload_n 0, 1), (128, .iload 4, 2), (130, .invokevirtual 110, 3), (133, .iconst 0, 1), (134, .ireturn, 1)]
theorem oX5_lookAt : ∀ q ∈ pX5_lookAt, decode cX5_lookAt q.1 = .ok (q.2.1, q.2.2) := by decide +kernel
def pX5_tickNow : List (Nat × Instr × Nat) := [(0, .aload_n 0, 1), (1, .getfield 7, 3), (4, .iconst 0, 1), (5, .dup2, 1), (6, .iaload, 1), (7, .iconst 1, 1), (8, .iadd, 1), (9, .iastore, 1), (10, .iconst 0, 1), (11, .istore_n 1, 1), (12, .aload_n 0, 1), (13, .getfield 7, 3), (16, .bipush 13, 2), (18, .iaload, 1), (19, .istore_n 2, 1), (20, .iload_n 2, 1), (21, .ifCond .le 25, 3), (24, .iload_n 1, 1), (25, .aload_n 0, 1), (26, .iload_n 1, 1), (27, .invokevirtual 113, 3), (30, .ifCond .eq 7, 3), (33, .iconst 1, 1), (34, .goto 4, 3), (37, .iconst 0, 1), (38, .iadd, 1), (39, .istore_n 1, 1), (40, .iinc 2 (-1), 3), (43, .goto (-23), 3), (46, .aload_n 0, 1), (47, .getfield 7, 3), (50, .bipush 13, 2), (52, .iaload, 1), (53, .ireturn, 1)]
theorem oX5_tickNow : ∀ q ∈ pX5_tickNow, decode cX5_tickNow q.1 = .ok (q.2.1, q.2.2) := by decide +kernel
def pX5_manyHas : List (Nat × Instr × Nat) := [(0, .iconst 0, 1), (1, .istore_n 2, 1), (2, .iconst 0, 1), (3, .istore_n 3, 1), (4, .iload_n 3, 1), (5, .bipush 100, 2), (7, .if_icmp .ge 26, 3), (10, .iload_n 2, 1), (11, .aload_n 0, 1), (12, .getfield 7, 3), (15, .bipush 127, 2), (17, .bipush 100, 2), (19, .iload_n 1, 1), (20, .imul, 1), (21, .iadd, 1), (22, .iload_n 3, 1), (23, .iadd, 1), (24, .iaload, 1), (25, .iadd, 1), (26, .istore_n 2, 1), (27, .iinc 3 1, 3), (30, .goto (-26), 3), (33, .iload_n 2, 1), (34, .ireturn, 1)]
theorem oX5_manyHas : ∀ q ∈ pX5_manyHas, decode cX5_manyHas q.1 = .ok (q.2.1, q.2.2) := by decide +kernel
def pX5_hasAll : List (Nat × Instr × Nat) := [(0, .iconst 1, 1), (1, .istore_n 2, 1), (2, .iconst 0, 1), (3, .istore_n 3, 1), (4, .iload_n 3, 1), (5, .aload_n 0, 1), (6, .getfield 7, 3), (9, .bipush 19, 2), (11, .iload_n 1, 1), (12, .isub, 1), (13, .iaload, 1), (14, .if_icmp .ge 37, 3), (17, .iload_n 2, 1), (18, .ifCond .eq 25, 3), (21, .aload_n 0, 1), (22, .getfield 7, 3), (25, .bipush 127, 2), (27, .bipush 100, 2), (29, .iload_n 1, 1), (30, .imul, 1), (31, .iadd, 1), (32, .iload_n 3, 1), (33, .iadd, 1), (34, .iaload, 1), (35, .iconst 1, 1), (36, .if_icmp .ne 7, 3), (39, .iconst 1, 1), (40, .goto 4, 3), (43, .iconst 0, 1), (44, .istore_n 2, 1), (45, .iinc 3 1, 3), (48, .goto (-44), 3), (51, .iload_n 2, 1), (52, .ireturn, 1)]
theorem oX5_hasAll : ∀ q ∈ pX5_hasAll, decode cX5_hasAll q.1 = .ok (q.2.1, q.2.2) := by decide +kernel
def pX5_isSettled : List (Nat × Instr × Nat) := [(0, .aload_n 0, 1), (1, .getfield 7, 3), (4, .iconst 2, 1), (5, .iaload, 1), (6, .istore_n 1, 1), (7, .iload_n 1, 1), (8, .aload_n 0, 1), (9, .getfield 7, 3), (12, .iconst 3, 1), (13, .iaload, 1), (14, .if_icmp .ne 32, 3), (17, .aload_n 0, 1), (18, .getfield 7, 3), (21, .bipush 32, 2), (23, .iload_n 1, 1), (24, .iadd, 1), (25, .iaload, 1), (26, .iconst 1, 1), (27, .if_icmp .ne 19, 3), (30, .aload_n 0, 1), (31, .getfield 7, 3), (34, .bipush 22, 2), (36, .iload_n 1, 1), (37, .iadd, 1), (38, .iaload, 1), (39, .ifCond .lt 7, 3), (42, .iconst 1, 1), (43, .goto 4, 3), (46, .iconst 0, 1), (47, .istore_n 2, 1), (48, .iload_n 2, 1), (49, .ifCond .eq 43, 3), (52, .aload_n 0, 1), (53, .getfield 7, 3), (56, .bipush 11, 2), (58, .iaload, 1), (59, .ifCond .ne 33, 3), (62, .aload_n 0, 1), (63, .getfield 7, 3), (66, .bipush 12, 2), (68, .iaload, 1), (69, .ifCond .ne 23, 3), (72, .aload_n 0, 1), (73, .iconst 0, 1), (74, .invokevirtual 116, 3), (77, .ifCond .eq 15, 3), (80, .aload_n 0, 1), (81, .iconst 1, 1), (82, .invokevirtual 116, 3), (85, .ifCond .eq 7, 3), (88, .iconst 1, 1), (89, .goto 4, 3), (92, .iconst 0, 1), (93, .ireturn, 1)]
theorem oX5_isSettled : ∀ q ∈ pX5_isSettled, decode cX5_isSettled q.1 = .ok (q.2.1, q.2.2) := by decide +kernel
def pX5_manyOf : List (Nat × Instr × Nat) := [(0, .iconst 0, 1), (1, .istore_n 3, 1), (2, .iconst 0, 1), (3, .istore 4, 2), (5, .iload 4, 2), (7, .bipush 40, 2), (9, .if_icmp .ge 30, 3), (12, .iload_n 3, 1), (13, .aload_n 0, 1), (14, .getfield 7, 3), (17, .iload_n 1, 1), (18, .iload 4, 2), (20, .iadd, 1), (21, .iaload, 1), (22, .iload_n 2, 1), (23, .if_icmp .ne 7, 3), (26, .iconst 1, 1), (27, .goto 4, 3), (30, .iconst 0, 1), (31, .iadd, 1), (32, .istore_n 3, 1), (33, .iinc 4 1, 3), (36, .goto (-31), 3), (39, .iload_n 3, 1), (40, .ireturn, 1)]
theorem oX5_manyOf : ∀ q ∈ pX5_manyOf, decode cX5_manyOf q.1 = .ok (q.2.1, q.2.2) := by decide +kernel
def pX5_wrong : List (Nat × Instr × Nat) := [(0, .iconst 0, 1), (1, .istore_n 1, 1), (2, .iload_n 1, 1), (3, .aload_n 0, 1), (4, .getfield 119, 3), (7, .if_icmp .ge 44, 3), (10, .aload_n 0, 1), (11, .getfield 7, 3), (14, .bipush 127, 2), (16, .bipush 100, 2), (18, .aload_n 0, 1), (19, .getfield 16, 3), (22, .iload_n 1, 1), (23, .iaload, 1), (24, .imul, 1), (25, .iadd, 1), (26, .aload_n 0, 1), (27, .getfield 19, 3), (30, .iload_n 1, 1), (31, .iaload, 1), (32, .iadd, 1), (33, .iaload, 1), (34, .aload_n 0, 1), (35, .getfield 22, 3), (38, .iload_n 1, 1), (39, .iaload, 1), (40, .if_icmp .eq 5, 3), (43, .iload_n 1, 1), (44, .ireturn, 1), (45, .iinc 1 1, 3), (48, .goto (-46), 3), (51, .iconst (-1), 1), (52, .ireturn, 1)]
theorem oX5_wrong : ∀ q ∈ pX5_wrong, decode cX5_wrong q.1 = .ok (q.2.1, q.2.2) := by decide +kernel
def pX5_toldMore : List (Nat × Instr × Nat) := [(0, .iload_n 1, 1), (1, .tableswitch 120 10 19 #[55, 63, 71, 71, 71, 84, 92, 105, 110, 115], 55), (56, .aload_n 0, 1), (57, .bipush 87, 2), (59, .iconst 1, 1), (60, .invokevirtual 123, 3), (63, .ireturn, 1), (64, .aload_n 0, 1), (65, .getfield 7, 3), (68, .bipush 6, 2), (70, .iaload, 1), (71, .ireturn, 1), (72, .aload_n 0, 1), (73, .getfield 7, 3), (76, .bipush 6, 2), (78, .iload_n 1, 1), (79, .iadd, 1), (80, .bipush 11, 2), (82, .isub, 1), (83, .iaload, 1), (84, .ireturn, 1), (85, .aload_n 0, 1), (86, .getfield 7, 3), (89, .bipush 10, 2), (91, .iaload, 1), (92, .ireturn, 1), (93, .aload_n 0, 1), (94, .invokevirtual 127, 3), (97, .ifCond .eq 7, 3), (100, .iconst 1, 1), (101, .goto 4, 3), (104, .iconst 0, 1), (105, .ireturn, 1), (106, .aload_n 0, 1), (107, .getfield 119, 3), (110, .ireturn, 1), (111, .aload_n 0, 1), (112, .invokevirtual 131, 3), (115, .ireturn, 1), (116, .aload_n 0, 1), (117, .getfield 135, 3), (120, .ireturn, 1), (121, .ldc 138, 2), (123, .ireturn, 1)]
theorem oX5_toldMore : ∀ q ∈ pX5_toldMore, decode cX5_toldMore q.1 = .ok (q.2.1, q.2.2) := by decide +kernel
def pX5_told : List (Nat × Instr × Nat) := [(0, .iload_n 1, 1), (1, .tableswitch 129 0 9 #[55, 62, 70, 78, 86, 93, 100, 107, 114, 121], 55), (56, .aload_n 0, 1), (57, .getfield 7, 3), (60, .iconst 0, 1), (61, .iaload, 1), (62, .ireturn, 1), (63, .aload_n 0, 1), (64, .getfield 7, 3), (67, .bipush 11, 2), (69, .iaload, 1), (70, .ireturn, 1), (71, .aload_n 0, 1), (72, .getfield 7, 3), (75, .bipush 12, 2), (77, .iaload, 1), (78, .ireturn, 1), (79, .aload_n 0, 1), (80, .getfield 7, 3), (83, .bipush 13, 2), (85, .iaload, 1), (86, .ireturn, 1), (87, .aload_n 0, 1), (88, .getfield 7, 3), (91, .iconst 2, 1), (92, .iaload, 1), (93, .ireturn, 1), (94, .aload_n 0, 1), (95, .getfield 7, 3), (98, .iconst 3, 1), (99, .iaload, 1), (100, .ireturn, 1), (101, .aload_n 0, 1), (102, .getfield 7, 3), (105, .iconst 4, 1), (106, .iaload, 1), (107, .ireturn, 1), (108, .aload_n 0, 1), (109, .getfield 7, 3), (112, .iconst 5, 1), (113, .iaload, 1), (114, .ireturn, 1), (115, .aload_n 0, 1), (116, .getfield 7, 3), (119, .iconst 1, 1), (120, .iaload, 1), (121, .ireturn, 1), (122, .aload_n 0, 1), (123, .bipush 47, 2), (125, .iconst 1, 1), (126, .invokevirtual 123, 3), (129, .ireturn, 1), (130, .aload_n 0, 1), (131, .iload_n 1, 1), (132, .invokevirtual 139, 3), (135, .ireturn, 1)]
theorem oX5_told : ∀ q ∈ pX5_told, decode cX5_told q.1 = .ok (q.2.1, q.2.2) := by decide +kernel
def pX5_isEnd : List (Nat × Instr × Nat) := [(0, .iload_n 0, 1), (1, .i2l, 1), (2, .lconst 0, 1), (3, .lconst 1, 1), (4, .invokestatic 68, 3), (7, .ireturn, 1)]
theorem oX5_isEnd : ∀ q ∈ pX5_isEnd, decode cX5_isEnd q.1 = .ok (q.2.1, q.2.2) := by decide +kernel
def pX5_isPlace : List (Nat × Instr × Nat) := [(0, .iload_n 0, 1), (1, .i2l, 1), (2, .lconst 0, 1), (3, .ldc2_w 142, 3), (6, .invokestatic 68, 3), (9, .ireturn, 1)]
theorem oX5_isPlace : ∀ q ∈ pX5_isPlace, decode cX5_isPlace q.1 = .ok (q.2.1, q.2.2) := by decide +kernel
def pX5_end : List (Nat × Instr × Nat) := [(0, .iload_n 1, 1), (1, .invokestatic 144, 3), (4, .ifCond .ne 6, 3), (7, .ldc 147, 2), (9, .ireturn, 1), (10, .iload_n 2, 1), (11, .tableswitch 89 0 5 #[37, 47, 53, 59, 69, 79], 37), (48, .aload_n 0, 1), (49, .getfield 7, 3), (52, .bipush 18, 2), (54, .iload_n 1, 1), (55, .iadd, 1), (56, .iaload, 1), (57, .ireturn, 1), (58, .aload_n 0, 1), (59, .iload_n 1, 1), (60, .invokevirtual 148, 3), (63, .ireturn, 1), (64, .aload_n 0, 1), (65, .iload_n 1, 1), (66, .invokevirtual 58, 3), (69, .ireturn, 1), (70, .aload_n 0, 1), (71, .getfield 7, 3), (74, .bipush 20, 2), (76, .iload_n 1, 1), (77, .iadd, 1), (78, .iaload, 1), (79, .ireturn, 1), (80, .aload_n 0, 1), (81, .getfield 7, 3), (84, .bipush 14, 2), (86, .iload_n 1, 1), (87, .iadd, 1), (88, .iaload, 1), (89, .ireturn, 1), (90, .aload_n 0, 1), (91, .getfield 7, 3), (94, .bipush 16, 2), (96, .iload_n 1, 1), (97, .iadd, 1), (98, .iaload, 1), (99, .ireturn, 1), (100, .ldc 138, 2), (102, .ireturn, 1)]
theorem oX5_end : ∀ q ∈ pX5_end, decode cX5_end q.1 = .ok (q.2.1, q.2.2) := by decide +kernel
def pX5_heldFor : List (Nat × Instr × Nat) := [(0, .iconst 0, 1), (1, .istore_n 2, 1), (2, .iconst 0, 1), (3, .istore_n 3, 1), (4, .iload_n 3, 1), (5, .aload_n 0, 1), (6, .getfield 7, 3), (9, .bipush 12, 2), (11, .iaload, 1), (12, .if_icmp .ge 33, 3), (15, .iload_n 2, 1), (16, .aload_n 0, 1), (17, .getfield 7, 3), (20, .sipush 471, 3), (23, .iconst 3, 1), (24, .iload_n 3, 1), (25, .imul, 1), (26, .iadd, 1), (27, .iaload, 1), (28, .iload_n 1, 1), (29, .if_icmp .ne 7, 3), (32, .iconst 1, 1), (33, .goto 4, 3), (36, .iconst 0, 1), (37, .iadd, 1), (38, .istore_n 2, 1), (39, .iinc 3 1, 3), (42, .goto (-38), 3), (45, .iload_n 2, 1), (46, .ireturn, 1)]
theorem oX5_heldFor : ∀ q ∈ pX5_heldFor, decode cX5_heldFor q.1 = .ok (q.2.1, q.2.2) := by decide +kernel
def pX5_place : List (Nat × Instr × Nat) := [(0, .iload_n 1, 1), (1, .invokestatic 151, 3), (4, .ifCond .ne 6, 3), (7, .ldc 147, 2), (9, .ireturn, 1), (10, .iload_n 2, 1), (11, .tableswitch 93 0 5 #[37, 47, 57, 67, 77, 87], 37), (48, .aload_n 0, 1), (49, .getfield 7, 3), (52, .bipush 22, 2), (54, .iload_n 1, 1), (55, .iadd, 1), (56, .iaload, 1), (57, .ireturn, 1), (58, .aload_n 0, 1), (59, .getfield 7, 3), (62, .bipush 27, 2), (64, .iload_n 1, 1), (65, .iadd, 1), (66, .iaload, 1), (67, .ireturn, 1), (68, .aload_n 0, 1), (69, .getfield 7, 3), (72, .bipush 32, 2), (74, .iload_n 1, 1), (75, .iadd, 1), (76, .iaload, 1), (77, .ireturn, 1), (78, .aload_n 0, 1), (79, .getfield 7, 3), (82, .bipush 37, 2), (84, .iload_n 1, 1), (85, .iadd, 1), (86, .iaload, 1), (87, .ireturn, 1), (88, .aload_n 0, 1), (89, .getfield 7, 3), (92, .bipush 42, 2), (94, .iload_n 1, 1), (95, .iadd, 1), (96, .iaload, 1), (97, .ireturn, 1), (98, .aload_n 0, 1), (99, .iload_n 1, 1), (100, .invokevirtual 154, 3), (103, .ireturn, 1), (104, .ldc 138, 2), (106, .ireturn, 1)]
theorem oX5_place : ∀ q ∈ pX5_place, decode cX5_place q.1 = .ok (q.2.1, q.2.2) := by decide +kernel
end
section
def pX5_letter : List (Nat × Instr × Nat) := [(0, .iload_n 1, 1), (1, .i2l, 1), (2, .lconst 0, 1), (3, .aload_n 0, 1), (4, .getfield 7, 3), (7, .bipush 11, 2), (9, .iaload, 1), (10, .iconst 1, 1), (11, .isub, 1), (12, .i2l, 1), (13, .invokestatic 68, 3), (16, .ifCond .ne 6, 3), (19, .ldc 147, 2), (21, .ireturn, 1), (22, .iload_n 2, 1), (23, .i2l, 1), (24, .lconst 0, 1), (25, .ldc2_w 157, 3), (28, .invokestatic 68, 3), (31, .ifCond .eq 21, 3), (34, .aload_n 0, 1), (35, .getfield 7, 3), (38, .sipush 327, 3), (41, .bipush 6, 2), (43, .iload_n 1, 1), (44, .imul, 1), (45, .iadd, 1), (46, .iload_n 2, 1), (47, .iadd, 1), (48, .iaload, 1), (49, .goto 5, 3), (52, .ldc 138, 2), (54, .ireturn, 1)]
theorem oX5_letter : ∀ q ∈ pX5_letter, decode cX5_letter q.1 = .ok (q.2.1, q.2.2) := by decide +kernel
def pX5_challenge : List (Nat × Instr × Nat) := [(0, .iload_n 1, 1), (1, .i2l, 1), (2, .lconst 0, 1), (3, .aload_n 0, 1), (4, .getfield 7, 3), (7, .bipush 13, 2), (9, .iaload, 1), (10, .iconst 1, 1), (11, .isub, 1), (12, .i2l, 1), (13, .invokestatic 68, 3), (16, .ifCond .ne 6, 3), (19, .ldc 147, 2), (21, .ireturn, 1), (22, .iload_n 2, 1), (23, .i2l, 1), (24, .lconst 0, 1), (25, .ldc2_w 142, 3), (28, .invokestatic 68, 3), (31, .ifCond .eq 20, 3), (34, .aload_n 0, 1), (35, .getfield 7, 3), (38, .sipush 507, 3), (41, .iconst 5, 1), (42, .iload_n 1, 1), (43, .imul, 1), (44, .iadd, 1), (45, .iload_n 2, 1), (46, .iadd, 1), (47, .iaload, 1), (48, .goto 5, 3), (51, .ldc 138, 2), (53, .ireturn, 1)]
theorem oX5_challenge : ∀ q ∈ pX5_challenge, decode cX5_challenge q.1 = .ok (q.2.1, q.2.2) := by decide +kernel
def pX5_held : List (Nat × Instr × Nat) := [(0, .iload_n 1, 1), (1, .i2l, 1), (2, .lconst 0, 1), (3, .aload_n 0, 1), (4, .getfield 7, 3), (7, .bipush 12, 2), (9, .iaload, 1), (10, .iconst 1, 1), (11, .isub, 1), (12, .i2l, 1), (13, .invokestatic 68, 3), (16, .ifCond .ne 6, 3), (19, .ldc 147, 2), (21, .ireturn, 1), (22, .iload_n 2, 1), (23, .i2l, 1), (24, .lconst 0, 1), (25, .ldc2_w 159, 3), (28, .invokestatic 68, 3), (31, .ifCond .eq 20, 3), (34, .aload_n 0, 1), (35, .getfield 7, 3), (38, .sipush 471, 3), (41, .iconst 3, 1), (42, .iload_n 1, 1), (43, .imul, 1), (44, .iadd, 1), (45, .iload_n 2, 1), (46, .iadd, 1), (47, .iaload, 1), (48, .goto 5, 3), (51, .ldc 138, 2), (53, .ireturn, 1)]
theorem oX5_held : ∀ q ∈ pX5_held, decode cX5_held q.1 = .ok (q.2.1, q.2.2) := by decide +kernel
def pX5_name : List (Nat × Instr × Nat) := [(0, .iload_n 1, 1), (1, .i2l, 1), (2, .lconst 0, 1), (3, .aload_n 0, 1), (4, .getfield 7, 3), (7, .iconst 1, 1), (8, .iaload, 1), (9, .iconst 1, 1), (10, .isub, 1), (11, .i2l, 1), (12, .invokestatic 68, 3), (15, .ifCond .ne 6, 3), (18, .ldc 147, 2), (20, .ireturn, 1), (21, .aload_n 0, 1), (22, .getfield 7, 3), (25, .bipush 47, 2), (27, .iload_n 1, 1), (28, .iadd, 1), (29, .iaload, 1), (30, .aload_n 0, 1), (31, .getfield 7, 3), (34, .bipush 87, 2), (36, .iload_n 1, 1), (37, .iadd, 1), (38, .iaload, 1), (39, .iconst 1, 1), (40, .if_icmp .ne 7, 3), (43, .iconst 2, 1), (44, .goto 4, 3), (47, .iconst 0, 1), (48, .iadd, 1), (49, .ireturn, 1)]
theorem oX5_name : ∀ q ∈ pX5_name, decode cX5_name q.1 = .ok (q.2.1, q.2.2) := by decide +kernel
def pX5_word_ : List (Nat × Instr × Nat) := [(0, .iload_n 1, 1), (1, .invokestatic 144, 3), (4, .ifCond .eq 24, 3), (7, .iload_n 2, 1), (8, .i2l, 1), (9, .lconst 0, 1), (10, .aload_n 0, 1), (11, .getfield 7, 3), (14, .bipush 19, 2), (16, .iload_n 1, 1), (17, .isub, 1), (18, .iaload, 1), (19, .iconst 1, 1), (20, .isub, 1), (21, .i2l, 1), (22, .invokestatic 68, 3), (25, .ifCond .ne 6, 3), (28, .ldc 147, 2), (30, .ireturn, 1), (31, .aload_n 0, 1), (32, .getfield 7, 3), (35, .bipush 127, 2), (37, .bipush 100, 2), (39, .iload_n 1, 1), (40, .imul, 1), (41, .iadd, 1), (42, .iload_n 2, 1), (43, .iadd, 1), (44, .iaload, 1), (45, .ireturn, 1)]
theorem oX5_word_ : ∀ q ∈ pX5_word_, decode cX5_word_ q.1 = .ok (q.2.1, q.2.2) := by decide +kernel
def pX5_next : List (Nat × Instr × Nat) := [(0, .aload_n 0, 1), (1, .getfield 7, 3), (4, .bipush 18, 2), (6, .iload_n 1, 1), (7, .iadd, 1), (8, .iaload, 1), (9, .bipush 40, 2), (11, .if_icmp .ne 6, 3), (14, .ldc 161, 2), (16, .ireturn, 1), (17, .aload_n 0, 1), (18, .getfield 7, 3), (21, .bipush 18, 2), (23, .iload_n 1, 1), (24, .iadd, 1), (25, .iaload, 1), (26, .istore_n 2, 1), (27, .aload_n 0, 1), (28, .getfield 7, 3), (31, .bipush 18, 2), (33, .iload_n 1, 1), (34, .iadd, 1), (35, .dup2, 1), (36, .iaload, 1), (37, .iconst 1, 1), (38, .iadd, 1), (39, .iastore, 1), (40, .aload_n 0, 1), (41, .iload_n 1, 1), (42, .aload_n 0, 1), (43, .getfield 7, 3), (46, .iconst 2, 1), (47, .iload_n 1, 1), (48, .iadd, 1), (49, .iaload, 1), (50, .iconst 0, 1), (51, .iload_n 2, 1), (52, .invokevirtual 47, 3), (55, .iload_n 2, 1), (56, .ireturn, 1)]
theorem oX5_next : ∀ q ∈ pX5_next, decode cX5_next q.1 = .ok (q.2.1, q.2.2) := by decide +kernel
def pX5_say : List (Nat × Instr × Nat) := [(0, .aload_n 0, 1), (1, .iconst 0, 1), (2, .invokevirtual 162, 3), (5, .ireturn, 1)]
theorem oX5_say : ∀ q ∈ pX5_say, decode cX5_say q.1 = .ok (q.2.1, q.2.2) := by decide +kernel
def pX5_speak : List (Nat × Instr × Nat) := [(0, .aload_n 0, 1), (1, .iconst 1, 1), (2, .invokevirtual 162, 3), (5, .ireturn, 1)]
theorem oX5_speak : ∀ q ∈ pX5_speak, decode cX5_speak q.1 = .ok (q.2.1, q.2.2) := by decide +kernel
def pX5_open : List (Nat × Instr × Nat) := [(0, .iload_n 1, 1), (1, .invokestatic 151, 3), (4, .ifCond .ne 6, 3), (7, .ldc 147, 2), (9, .ireturn, 1), (10, .aload_n 0, 1), (11, .invokevirtual 165, 3), (14, .istore_n 2, 1), (15, .aload_n 0, 1), (16, .getfield 7, 3), (19, .bipush 22, 2), (21, .iload_n 1, 1), (22, .iadd, 1), (23, .iaload, 1), (24, .ifCond .ge 7, 3), (27, .iload_n 2, 1), (28, .ifCond .ge 6, 3), (31, .ldc 168, 2), (33, .ireturn, 1), (34, .aload_n 0, 1), (35, .getfield 7, 3), (38, .bipush 87, 2), (40, .iload_n 2, 1), (41, .iadd, 1), (42, .iconst 2, 1), (43, .iastore, 1), (44, .aload_n 0, 1), (45, .getfield 7, 3), (48, .bipush 22, 2), (50, .iload_n 1, 1), (51, .iadd, 1), (52, .iload_n 2, 1), (53, .iastore, 1), (54, .aload_n 0, 1), (55, .getfield 7, 3), (58, .bipush 27, 2), (60, .iload_n 1, 1), (61, .iadd, 1), (62, .iconst 0, 1), (63, .iastore, 1), (64, .aload_n 0, 1), (65, .iconst 0, 1), (66, .iload_n 1, 1), (67, .invokevirtual 54, 3), (70, .iload_n 2, 1), (71, .ireturn, 1)]
theorem oX5_open : ∀ q ∈ pX5_open, decode cX5_open q.1 = .ok (q.2.1, q.2.2) := by decide +kernel
def pX5_go : List (Nat × Instr × Nat) := [(0, .iload_n 1, 1), (1, .invokestatic 151, 3), (4, .ifCond .ne 6, 3), (7, .ldc 147, 2), (9, .ireturn, 1), (10, .aload_n 0, 1), (11, .getfield 7, 3), (14, .bipush 22, 2), (16, .iload_n 1, 1), (17, .iadd, 1), (18, .iaload, 1), (19, .ifCond .lt 13, 3), (22, .aload_n 0, 1), (23, .getfield 7, 3), (26, .iconst 2, 1), (27, .iaload, 1), (28, .iload_n 1, 1), (29, .if_icmp .ne 6, 3), (32, .ldc 168, 2), (34, .ireturn, 1), (35, .aload_n 0, 1), (36, .iload_n 1, 1), (37, .invokevirtual 101, 3), (40, .aload_n 0, 1), (41, .getfield 7, 3), (44, .iconst 4, 1), (45, .iaload, 1), (46, .ireturn, 1)]
theorem oX5_go : ∀ q ∈ pX5_go, decode cX5_go q.1 = .ok (q.2.1, q.2.2) := by decide +kernel
def pX5_close : List (Nat × Instr × Nat) := [(0, .iload_n 1, 1), (1, .invokestatic 151, 3), (4, .ifCond .ne 6, 3), (7, .ldc 147, 2), (9, .ireturn, 1), (10, .aload_n 0, 1), (11, .getfield 7, 3), (14, .bipush 22, 2), (16, .iload_n 1, 1), (17, .iadd, 1), (18, .iaload, 1), (19, .istore_n 2, 1), (20, .iload_n 2, 1), (21, .ifCond .lt 13, 3), (24, .aload_n 0, 1), (25, .getfield 7, 3), (28, .iconst 2, 1), (29, .iaload, 1), (30, .iload_n 1, 1), (31, .if_icmp .ne 6, 3), (34, .ldc 168, 2), (36, .ireturn, 1), (37, .aload_n 0, 1), (38, .iload_n 1, 1), (39, .invokevirtual 104, 3), (42, .iload_n 2, 1), (43, .ireturn, 1)]
theorem oX5_close : ∀ q ∈ pX5_close, decode cX5_close q.1 = .ok (q.2.1, q.2.2) := by decide +kernel
def pX5_again : List (Nat × Instr × Nat) := [(0, .iload_n 1, 1), (1, .invokestatic 144, 3), (4, .ifCond .ne 6, 3), (7, .ldc 147, 2), (9, .ireturn, 1), (10, .aload_n 0, 1), (11, .getfield 7, 3), (14, .bipush 20, 2), (16, .iload_n 1, 1), (17, .iadd, 1), (18, .iaload, 1), (19, .istore_n 2, 1), (20, .iload_n 2, 1), (21, .aload_n 0, 1), (22, .getfield 7, 3), (25, .bipush 18, 2), (27, .iload_n 1, 1), (28, .iadd, 1), (29, .iaload, 1), (30, .if_icmp .lt 6, 3), (33, .ldc 168, 2), (35, .ireturn, 1), (36, .aload_n 0, 1), (37, .iload_n 1, 1), (38, .aload_n 0, 1), (39, .getfield 7, 3), (42, .iconst 2, 1), (43, .iload_n 1, 1), (44, .iadd, 1), (45, .iaload, 1), (46, .iconst 0, 1), (47, .iload_n 2, 1), (48, .invokevirtual 47, 3), (51, .iload_n 2, 1), (52, .ireturn, 1)]
theorem oX5_again : ∀ q ∈ pX5_again, decode cX5_again q.1 = .ok (q.2.1, q.2.2) := by decide +kernel
def pX5_arriveNow : List (Nat × Instr × Nat) := [(0, .sipush 327, 3), (3, .bipush 6, 2), (5, .iload_n 1, 1), (6, .imul, 1), (7, .iadd, 1), (8, .istore_n 2, 1), (9, .aload_n 0, 1), (10, .getfield 7, 3), (13, .iload_n 2, 1), (14, .iaload, 1), (15, .istore_n 3, 1), (16, .aload_n 0, 1), (17, .getfield 7, 3), (20, .iload_n 2, 1), (21, .iconst 1, 1), (22, .iadd, 1), (23, .iaload, 1), (24, .istore 4, 2), (26, .aload_n 0, 1), (27, .getfield 7, 3), (30, .iload_n 2, 1), (31, .iconst 2, 1), (32, .iadd, 1), (33, .iaload, 1), (34, .istore 5, 2), (36, .aload_n 0, 1), (37, .getfield 7, 3), (40, .iload_n 2, 1), (41, .iconst 3, 1), (42, .iadd, 1), (43, .iaload, 1), (44, .istore 6, 2), (46, .aload_n 0, 1), (47, .getfield 7, 3), (50, .iload_n 2, 1), (51, .iconst 4, 1), (52, .iadd, 1), (53, .iaload, 1), (54, .istore 7, 2), (56, .aload_n 0, 1), (57, .getfield 7, 3), (60, .iload_n 2, 1), (61, .iconst 5, 1), (62, .iadd, 1), (63, .iaload, 1), (64, .istore 8, 2), (66, .aload_n 0, 1), (67, .sipush 327, 3), (70, .bipush 6, 2), (72, .bipush 11, 2), (74, .iload_n 1, 1), (75, .invokevirtual 29, 3), (78, .iload_n 3, 1), (79, .ifCond .ne 20, 3), (82, .aload_n 0, 1), (83, .iload 4, 2), (85, .iload 5, 2), (87, .iload 6, 2), (89, .iload 7, 2), (91, .iload 8, 2), (93, .invokevirtual 169, 3), (96, .goto 15, 3), (99, .aload_n 0, 1), (100, .iload 4, 2), (102, .iload 6, 2), (104, .iload 7, 2), (106, .iload 8, 2), (108, .invokevirtual 173, 3), (111, .istore 9, 2), (113, .aload_n 0, 1), (114, .getfield 7, 3), (117, .bipush 6, 2), (119, .iload 9, 2), (121, .iadd, 1), (122, .dup2, 1), (123, .iaload, 1), (124, .iload 9, 2), (126, .ifCond .le 7, 3), (129, .iconst 1, 1), (130, .goto 4, 3), (133, .iconst 0, 1), (134, .iadd, 1), (135, .iastore, 1), (136, .iload 9, 2), (138, .ireturn, 1)]
theorem oX5_arriveNow : ∀ q ∈ pX5_arriveNow, decode cX5_arriveNow q.1 = .ok (q.2.1, q.2.2) := by decide +kernel
def pX5_isLetter : List (Nat × Instr × Nat) := [(0, .iload_n 1, 1), (1, .i2l, 1), (2, .lconst 0, 1), (3, .aload_n 0, 1), (4, .getfield 7, 3), (7, .bipush 11, 2), (9, .iaload, 1), (10, .iconst 1, 1), (11, .isub, 1), (12, .i2l, 1), (13, .invokestatic 68, 3), (16, .ireturn, 1)]
theorem oX5_isLetter : ∀ q ∈ pX5_isLetter, decode cX5_isLetter q.1 = .ok (q.2.1, q.2.2) := by decide +kernel
def pX5_arrive : List (Nat × Instr × Nat) := [(0, .aload_n 0, 1), (1, .iload_n 1, 1), (2, .invokevirtual 177, 3), (5, .ifCond .eq 11, 3), (8, .aload_n 0, 1), (9, .iload_n 1, 1), (10, .invokevirtual 180, 3), (13, .goto 5, 3), (16, .ldc 147, 2), (18, .ireturn, 1)]
theorem oX5_arrive : ∀ q ∈ pX5_arrive, decode cX5_arrive q.1 = .ok (q.2.1, q.2.2) := by decide +kernel
def pX5_lose : List (Nat × Instr × Nat) := [(0, .aload_n 0, 1), (1, .iload_n 1, 1), (2, .invokevirtual 177, 3), (5, .ifCond .ne 6, 3), (8, .ldc 147, 2), (10, .ireturn, 1), (11, .aload_n 0, 1), (12, .sipush 327, 3), (15, .bipush 6, 2), (17, .bipush 11, 2), (19, .iload_n 1, 1), (20, .invokevirtual 29, 3), (23, .aload_n 0, 1), (24, .getfield 7, 3), (27, .bipush 10, 2), (29, .dup2, 1), (30, .iaload, 1), (31, .iconst 1, 1), (32, .iadd, 1), (33, .iastore, 1), (34, .aload_n 0, 1), (35, .getfield 7, 3), (38, .bipush 11, 2), (40, .iaload, 1), (41, .ireturn, 1)]
theorem oX5_lose : ∀ q ∈ pX5_lose, decode cX5_lose q.1 = .ok (q.2.1, q.2.2) := by decide +kernel
def pX5_twice : List (Nat × Instr × Nat) := [(0, .aload_n 0, 1), (1, .iload_n 1, 1), (2, .invokevirtual 177, 3), (5, .ifCond .ne 6, 3), (8, .ldc 147, 2), (10, .ireturn, 1), (11, .aload_n 0, 1), (12, .getfield 7, 3), (15, .bipush 11, 2), (17, .iaload, 1), (18, .bipush 24, 2), (20, .if_icmp .ne 6, 3), (23, .ldc 161, 2), (25, .ireturn, 1), (26, .iconst 0, 1), (27, .istore_n 2, 1), (28, .iload_n 2, 1), (29, .bipush 6, 2), (31, .if_icmp .ge 45, 3), (34, .aload_n 0, 1), (35, .getfield 7, 3), (38, .sipush 327, 3), (41, .bipush 6, 2), (43, .aload_n 0, 1), (44, .getfield 7, 3), (47, .bipush 11, 2), (49, .iaload, 1), (50, .imul, 1), (51, .iadd, 1), (52, .iload_n 2, 1), (53, .iadd, 1), (54, .aload_n 0, 1), (55, .getfield 7, 3), (58, .sipush 327, 3), (61, .bipush 6, 2), (63, .iload_n 1, 1), (64, .imul, 1), (65, .iadd, 1), (66, .iload_n 2, 1), (67, .iadd, 1), (68, .iaload, 1), (69, .iastore, 1), (70, .iinc 2 1, 3), (73, .goto (-45), 3), (76, .aload_n 0, 1), (77, .getfield 7, 3), (80, .bipush 11, 2), (82, .dup2, 1), (83, .iaload, 1), (84, .iconst 1, 1), (85, .iadd, 1), (86, .iastore, 1), (87, .aload_n 0, 1), (88, .getfield 7, 3), (91, .bipush 11, 2), (93, .iaload, 1), (94, .ireturn, 1)]
theorem oX5_twice : ∀ q ∈ pX5_twice, decode cX5_twice q.1 = .ok (q.2.1, q.2.2) := by decide +kernel
def pX5_forge : List (Nat × Instr × Nat) := [(0, .iload_n 1, 1), (1, .invokestatic 151, 3), (4, .ifCond .ne 6, 3), (7, .ldc 147, 2), (9, .ireturn, 1), (10, .iload_n 2, 1), (11, .i2l, 1), (12, .ldc2_w 183, 3), (15, .ldc2_w 185, 3), (18, .invokestatic 68, 3), (21, .ifCond .eq 45, 3), (24, .iload_n 3, 1), (25, .i2l, 1), (26, .lconst 0, 1), (27, .ldc2_w 187, 3), (30, .invokestatic 68, 3), (33, .ifCond .eq 33, 3), (36, .iload 4, 2), (38, .i2l, 1), (39, .lconst 0, 1), (40, .ldc2_w 157, 3), (43, .invokestatic 68, 3), (46, .ifCond .eq 20, 3), (49, .iload 5, 2), (51, .i2l, 1), (52, .lconst 0, 1), (53, .ldc2_w 185, 3), (56, .invokestatic 68, 3), (59, .ifCond .eq 7, 3), (62, .iconst 1, 1), (63, .goto 4, 3), (66, .iconst 0, 1), (67, .istore 6, 2), (69, .iload 6, 2), (71, .ifCond .ne 6, 3), (74, .ldc 138, 2), (76, .ireturn, 1), (77, .aload_n 0, 1), (78, .getfield 7, 3), (81, .bipush 11, 2), (83, .iaload, 1), (84, .bipush 24, 2), (86, .if_icmp .ne 6, 3), (89, .ldc 161, 2), (91, .ireturn, 1), (92, .sipush 327, 3), (95, .bipush 6, 2), (97, .aload_n 0, 1), (98, .getfield 7, 3), (101, .bipush 11, 2), (103, .iaload, 1), (104, .imul, 1), (105, .iadd, 1), (106, .istore 7, 2), (108, .aload_n 0, 1), (109, .getfield 7, 3), (112, .iload 7, 2), (114, .iconst 0, 1), (115, .iastore, 1), (116, .aload_n 0, 1), (117, .getfield 7, 3), (120, .iload 7, 2), (122, .iconst 1, 1), (123, .iadd, 1), (124, .iload_n 1, 1), (125, .iastore, 1), (126, .aload_n 0, 1), (127, .getfield 7, 3), (130, .iload 7, 2), (132, .iconst 2, 1), (133, .iadd, 1), (134, .iload_n 2, 1), (135, .iastore, 1), (136, .aload_n 0, 1), (137, .getfield 7, 3), (140, .iload 7, 2), (142, .iconst 3, 1), (143, .iadd, 1), (144, .iload_n 3, 1), (145, .iastore, 1), (146, .aload_n 0, 1), (147, .getfield 7, 3), (150, .iload 7, 2), (152, .iconst 4, 1), (153, .iadd, 1), (154, .iload 4, 2), (156, .iastore, 1), (157, .aload_n 0, 1), (158, .getfield 7, 3), (161, .iload 7, 2), (163, .iconst 5, 1), (164, .iadd, 1), (165, .iload 5, 2), (167, .iastore, 1), (168, .aload_n 0, 1), (169, .getfield 7, 3), (172, .bipush 11, 2), (174, .dup2, 1), (175, .iaload, 1), (176, .iconst 1, 1), (177, .iadd, 1), (178, .iastore, 1), (179, .aload_n 0, 1), (180, .getfield 7, 3), (183, .bipush 11, 2), (185, .iaload, 1), (186, .ireturn, 1)]
theorem oX5_forge : ∀ q ∈ pX5_forge, decode cX5_forge q.1 = .ok (q.2.1, q.2.2) := by decide +kernel
def pX5_tick : List (Nat × Instr × Nat) := [(0, .aload_n 0, 1), (1, .invokevirtual 189, 3), (4, .ireturn, 1)]
theorem oX5_tick : ∀ q ∈ pX5_tick, decode cX5_tick q.1 = .ok (q.2.1, q.2.2) := by decide +kernel
def pX5_draw : List (Nat × Instr × Nat) := [(0, .aload_n 0, 1), (1, .aload_n 0, 1), (2, .getfield 135, 3), (5, .i2l, 1), (6, .ldc2_w 192, 3), (9, .lmul, 1), (10, .ldc2_w 194, 3), (13, .ladd, 1), (14, .ldc2_w 196, 3), (17, .lrem, 1), (18, .l2i, 1), (19, .putfield 135, 3), (22, .aload_n 0, 1), (23, .getfield 135, 3), (26, .ldc 198, 2), (28, .idiv, 1), (29, .iload_n 1, 1), (30, .irem, 1), (31, .ireturn, 1)]
theorem oX5_draw : ∀ q ∈ pX5_draw, decode cX5_draw q.1 = .ok (q.2.1, q.2.2) := by decide +kernel
def pX5_chance : List (Nat × Instr × Nat) := [(0, .aload_n 0, 1), (1, .bipush 10, 2), (3, .invokevirtual 199, 3), (6, .istore_n 1, 1), (7, .iload_n 1, 1), (8, .iconst 5, 1), (9, .if_icmp .ge 48, 3), (12, .aload_n 0, 1), (13, .getfield 7, 3), (16, .bipush 11, 2), (18, .iaload, 1), (19, .ifCond .le 17, 3), (22, .aload_n 0, 1), (23, .aload_n 0, 1), (24, .getfield 7, 3), (27, .bipush 11, 2), (29, .iaload, 1), (30, .invokevirtual 199, 3), (33, .goto 4, 3), (36, .iconst (-1), 1), (37, .istore_n 2, 1), (38, .iload_n 1, 1), (39, .iconst 4, 1), (40, .if_icmp .ge 11, 3), (43, .aload_n 0, 1), (44, .iload_n 2, 1), (45, .invokevirtual 202, 3), (48, .goto 8, 3), (51, .aload_n 0, 1), (52, .iload_n 2, 1), (53, .invokevirtual 205, 3), (56, .ireturn, 1), (57, .iload_n 1, 1), (58, .bipush 8, 2), (60, .if_icmp .ge 33, 3), (63, .iload_n 1, 1), (64, .iconst 5, 1), (65, .if_icmp .ne 10, 3), (68, .aload_n 0, 1), (69, .invokevirtual 208, 3), (72, .goto 20, 3), (75, .iload_n 1, 1), (76, .bipush 6, 2), (78, .if_icmp .ne 10, 3), (81, .aload_n 0, 1), (82, .invokevirtual 211, 3), (85, .goto 7, 3), (88, .aload_n 0, 1), (89, .invokevirtual 214, 3), (92, .ireturn, 1), (93, .iload_n 1, 1), (94, .bipush 8, 2), (96, .if_icmp .ne 35, 3), (99, .aload_n 0, 1), (100, .iconst 5, 1), (101, .invokevirtual 199, 3), (104, .istore_n 2, 1), (105, .aload_n 0, 1), (106, .getfield 7, 3), (109, .bipush 22, 2), (111, .iload_n 2, 1), (112, .iadd, 1), (113, .iaload, 1), (114, .ifCond .lt 11, 3), (117, .aload_n 0, 1), (118, .iload_n 2, 1), (119, .invokevirtual 217, 3), (122, .goto 8, 3), (125, .aload_n 0, 1), (126, .iload_n 2, 1), (127, .invokevirtual 220, 3), (130, .ireturn, 1), (131, .aload_n 0, 1), (132, .aload_n 0, 1), (133, .iconst 2, 1), (134, .invokevirtual 199, 3), (137, .invokevirtual 223, 3), (140, .ireturn, 1)]
theorem oX5_chance : ∀ q ∈ pX5_chance, decode cX5_chance q.1 = .ok (q.2.1, q.2.2) := by decide +kernel
end
section
def pX5_drift : List (Nat × Instr × Nat) := [(0, .iload_n 1, 1), (1, .i2l, 1), (2, .lconst 1, 1), (3, .ldc2_w 226, 3), (6, .invokestatic 68, 3), (9, .ifCond .ne 6, 3), (12, .ldc 138, 2), (14, .ireturn, 1), (15, .iconst 0, 1), (16, .istore_n 2, 1), (17, .iconst 0, 1), (18, .istore_n 3, 1), (19, .iload_n 3, 1), (20, .iload_n 1, 1), (21, .if_icmp .ge 25, 3), (24, .iload_n 2, 1), (25, .aload_n 0, 1), (26, .invokevirtual 228, 3), (29, .iconst (-1), 1), (30, .if_icmp .lt 7, 3), (33, .iconst 1, 1), (34, .goto 4, 3), (37, .iconst 0, 1), (38, .iadd, 1), (39, .istore_n 2, 1), (40, .iinc 3 1, 3), (43, .goto (-24), 3), (46, .iload_n 2, 1), (47, .ifCond .ge 7, 3), (50, .iconst (-1), 1), (51, .goto 10, 3), (54, .aload_n 0, 1), (55, .getfield 7, 3), (58, .bipush 11, 2), (60, .iaload, 1), (61, .ireturn, 1)]
theorem oX5_drift : ∀ q ∈ pX5_drift, decode cX5_drift q.1 = .ok (q.2.1, q.2.2) := by decide +kernel
def pX5_write : List (Nat × Instr × Nat) := [(0, .iload_n 1, 1), (1, .invokestatic 144, 3), (4, .ifCond .ne 6, 3), (7, .ldc 147, 2), (9, .ireturn, 1), (10, .iload_n 2, 1), (11, .i2l, 1), (12, .lconst 0, 1), (13, .ldc2_w 231, 3), (16, .invokestatic 68, 3), (19, .ifCond .eq 13, 3), (22, .iload_n 3, 1), (23, .i2l, 1), (24, .lconst 0, 1), (25, .lconst 1, 1), (26, .invokestatic 68, 3), (29, .ifCond .ne 6, 3), (32, .ldc 138, 2), (34, .ireturn, 1), (35, .aload_n 0, 1), (36, .getfield 119, 3), (39, .bipush 20, 2), (41, .if_icmp .ne 6, 3), (44, .ldc 161, 2), (46, .ireturn, 1), (47, .aload_n 0, 1), (48, .getfield 16, 3), (51, .aload_n 0, 1), (52, .getfield 119, 3), (55, .iload_n 1, 1), (56, .iastore, 1), (57, .aload_n 0, 1), (58, .getfield 19, 3), (61, .aload_n 0, 1), (62, .getfield 119, 3), (65, .iload_n 2, 1), (66, .iastore, 1), (67, .aload_n 0, 1), (68, .getfield 22, 3), (71, .aload_n 0, 1), (72, .getfield 119, 3), (75, .iload_n 3, 1), (76, .iastore, 1), (77, .aload_n 0, 1), (78, .dup, 1), (79, .getfield 119, 3), (82, .iconst 1, 1), (83, .iadd, 1), (84, .putfield 119, 3), (87, .aload_n 0, 1), (88, .getfield 119, 3), (91, .ireturn, 1)]
theorem oX5_write : ∀ q ∈ pX5_write, decode cX5_write q.1 = .ok (q.2.1, q.2.2) := by decide +kernel
def pX5_tear : List (Nat × Instr × Nat) := [(0, .aload_n 0, 1), (1, .getfield 119, 3), (4, .istore_n 1, 1), (5, .aload_n 0, 1), (6, .iconst 0, 1), (7, .putfield 119, 3), (10, .iload_n 1, 1), (11, .ireturn, 1)]
theorem oX5_tear : ∀ q ∈ pX5_tear, decode cX5_tear q.1 = .ok (q.2.1, q.2.2) := by decide +kernel
def pX5_seed : List (Nat × Instr × Nat) := [(0, .iload_n 1, 1), (1, .ifCond .ge 6, 3), (4, .ldc 138, 2), (6, .ireturn, 1), (7, .aload_n 0, 1), (8, .getfield 135, 3), (11, .istore_n 2, 1), (12, .aload_n 0, 1), (13, .iload_n 1, 1), (14, .putfield 135, 3), (17, .iload_n 2, 1), (18, .ireturn, 1)]
theorem oX5_seed : ∀ q ∈ pX5_seed, decode cX5_seed q.1 = .ok (q.2.1, q.2.2) := by decide +kernel
def pX5_copy : List (Nat × Instr × Nat) := [(0, .iconst 0, 1), (1, .istore_n 3, 1), (2, .iload_n 3, 1), (3, .sipush 3137, 3), (6, .if_icmp .ge 25, 3), (9, .aload_n 0, 1), (10, .getfield 7, 3), (13, .iload_n 2, 1), (14, .iload_n 3, 1), (15, .iadd, 1), (16, .aload_n 0, 1), (17, .getfield 7, 3), (20, .iload_n 1, 1), (21, .iload_n 3, 1), (22, .iadd, 1), (23, .iaload, 1), (24, .iastore, 1), (25, .iinc 3 1, 3), (28, .goto (-26), 3), (31, .return_, 1)]
theorem oX5_copy : ∀ q ∈ pX5_copy, decode cX5_copy q.1 = .ok (q.2.1, q.2.2) := by decide +kernel
def pX5_keep : List (Nat × Instr × Nat) := [(0, .iload_n 1, 1), (1, .i2l, 1), (2, .lconst 0, 1), (3, .lconst 1, 1), (4, .invokestatic 68, 3), (7, .ifCond .ne 6, 3), (10, .ldc 147, 2), (12, .ireturn, 1), (13, .aload_n 0, 1), (14, .iconst 0, 1), (15, .sipush 3137, 3), (18, .iload_n 1, 1), (19, .iconst 1, 1), (20, .iadd, 1), (21, .imul, 1), (22, .invokevirtual 233, 3), (25, .aload_n 0, 1), (26, .getfield 13, 3), (29, .iload_n 1, 1), (30, .aload_n 0, 1), (31, .getfield 135, 3), (34, .iastore, 1), (35, .aload_n 0, 1), (36, .dup, 1), (37, .getfield 236, 3), (40, .iconst 1, 1), (41, .iload_n 1, 1), (42, .ishl, 1), (43, .ior, 1), (44, .putfield 236, 3), (47, .iconst 1, 1), (48, .ireturn, 1)]
theorem oX5_keep : ∀ q ∈ pX5_keep, decode cX5_keep q.1 = .ok (q.2.1, q.2.2) := by decide +kernel
def pX5_goBack : List (Nat × Instr × Nat) := [(0, .iload_n 1, 1), (1, .i2l, 1), (2, .lconst 0, 1), (3, .lconst 1, 1), (4, .invokestatic 68, 3), (7, .ifCond .ne 6, 3), (10, .ldc 147, 2), (12, .ireturn, 1), (13, .aload_n 0, 1), (14, .getfield 236, 3), (17, .iload_n 1, 1), (18, .ishr, 1), (19, .iconst 1, 1), (20, .iand, 1), (21, .ifCond .ne 6, 3), (24, .ldc 168, 2), (26, .ireturn, 1), (27, .aload_n 0, 1), (28, .sipush 3137, 3), (31, .iload_n 1, 1), (32, .iconst 1, 1), (33, .iadd, 1), (34, .imul, 1), (35, .iconst 0, 1), (36, .invokevirtual 233, 3), (39, .aload_n 0, 1), (40, .aload_n 0, 1), (41, .getfield 13, 3), (44, .iload_n 1, 1), (45, .iaload, 1), (46, .putfield 135, 3), (49, .iconst 1, 1), (50, .ireturn, 1)]
theorem oX5_goBack : ∀ q ∈ pX5_goBack, decode cX5_goBack q.1 = .ok (q.2.1, q.2.2) := by decide +kernel
def pJ13_bitCount_95d88 : List (Nat × Instr × Nat) := [(0, .lload_n 0, 1), (1, .lload_n 0, 1), (2, .iconst 1, 1), (3, .lushr, 1), (4, .ldc2_w 314, 3), (7, .land, 1), (8, .lsub, 1), (9, .lstore_n 0, 1), (10, .lload_n 0, 1), (11, .ldc2_w 316, 3), (14, .land, 1), (15, .lload_n 0, 1), (16, .iconst 2, 1), (17, .lushr, 1), (18, .ldc2_w 316, 3), (21, .land, 1), (22, .ladd, 1), (23, .lstore_n 0, 1), (24, .lload_n 0, 1), (25, .lload_n 0, 1), (26, .iconst 4, 1), (27, .lushr, 1), (28, .ladd, 1), (29, .ldc2_w 318, 3), (32, .land, 1), (33, .lstore_n 0, 1), (34, .lload_n 0, 1), (35, .lload_n 0, 1), (36, .bipush 8, 2), (38, .lushr, 1), (39, .ladd, 1), (40, .lstore_n 0, 1), (41, .lload_n 0, 1), (42, .lload_n 0, 1), (43, .bipush 16, 2), (45, .lushr, 1), (46, .ladd, 1), (47, .lstore_n 0, 1), (48, .lload_n 0, 1), (49, .lload_n 0, 1), (50, .bipush 32, 2), (52, .lushr, 1), (53, .ladd, 1), (54, .lstore_n 0, 1), (55, .lload_n 0, 1), (56, .l2i, 1), (57, .bipush 127, 2), (59, .iand, 1), (60, .ireturn, 1)]
theorem oJ13_bitCount_95d88 : ∀ q ∈ pJ13_bitCount_95d88, decode cJ13_bitCount_95d88 q.1 = .ok (q.2.1, q.2.2) := by decide +kernel
def pJ9_max_7cf53 : List (Nat × Instr × Nat) := [(0, .iload_n 0, 1), (1, .iload_n 1, 1), (2, .if_icmp .lt 7, 3), (5, .iload_n 0, 1), (6, .goto 4, 3), (9, .iload_n 1, 1), (10, .ireturn, 1)]
theorem oJ9_max_7cf53 : ∀ q ∈ pJ9_max_7cf53, decode cJ9_max_7cf53 q.1 = .ok (q.2.1, q.2.2) := by decide +kernel
def pJ9_min_7cf53 : List (Nat × Instr × Nat) := [(0, .iload_n 0, 1), (1, .iload_n 1, 1), (2, .if_icmp .gt 7, 3), (5, .iload_n 0, 1), (6, .goto 4, 3), (9, .iload_n 1, 1), (10, .ireturn, 1)]
theorem oJ9_min_7cf53 : ∀ q ∈ pJ9_min_7cf53, decode cJ9_min_7cf53 q.1 = .ok (q.2.1, q.2.2) := by decide +kernel
def pL_law_0 : List (Nat × Instr × Nat) := [(0, .new 7, 3), (3, .dup, 1), (4, .invokespecial 9, 3), (7, .astore_n 1, 1), (8, .new 10, 3), (11, .dup, 1), (12, .invokespecial 12, 3), (15, .astore_n 2, 1), (16, .iconst 0, 1), (17, .istore_n 3, 1), (18, .iload_n 3, 1), (19, .aload_n 0, 1), (20, .arraylength, 1), (21, .bipush 6, 2), (23, .isub, 1), (24, .if_icmp .gt 785, 3), (27, .aload_n 0, 1), (28, .iload_n 3, 1), (29, .iaload, 1), (30, .bipush 31, 2), (32, .iand, 1), (33, .tableswitch 770 0 24 #[115, 138, 171, 204, 237, 270, 303, 326, 359, 372, 395, 418, 441, 454, 477, 500, 523, 546, 609, 622, 645, 688, 701, 724, 747], 115), (148, .aload_n 1, 1), (149, .aload_n 0, 1), (150, .iload_n 3, 1), (151, .iconst 1, 1), (152, .iadd, 1), (153, .iaload, 1), (154, .invokevirtual 13, 3), (157, .aload_n 2, 1), (158, .aload_n 0, 1), (159, .iload_n 3, 1), (160, .iconst 1, 1), (161, .iadd, 1), (162, .iaload, 1), (163, .invokevirtual 17, 3), (166, .if_icmp .eq 637, 3), (169, .iconst 0, 1), (170, .ireturn, 1), (171, .aload_n 1, 1), (172, .aload_n 0, 1), (173, .iload_n 3, 1), (174, .iconst 1, 1), (175, .iadd, 1), (176, .iaload, 1), (177, .aload_n 0, 1), (178, .iload_n 3, 1), (179, .iconst 2, 1), (180, .iadd, 1), (181, .iaload, 1), (182, .invokevirtual 18, 3), (185, .aload_n 2, 1), (186, .aload_n 0, 1), (187, .iload_n 3, 1), (188, .iconst 1, 1), (189, .iadd, 1), (190, .iaload, 1), (191, .aload_n 0, 1), (192, .iload_n 3, 1), (193, .iconst 2, 1)]
theorem oL_law_0 : ∀ q ∈ pL_law_0, decode cL_law q.1 = .ok (q.2.1, q.2.2) := by decide +kernel
def pL_law_1 : List (Nat × Instr × Nat) := [(194, .iadd, 1), (195, .iaload, 1), (196, .invokevirtual 22, 3), (199, .if_icmp .eq 604, 3), (202, .iconst 0, 1), (203, .ireturn, 1), (204, .aload_n 1, 1), (205, .aload_n 0, 1), (206, .iload_n 3, 1), (207, .iconst 1, 1), (208, .iadd, 1), (209, .iaload, 1), (210, .aload_n 0, 1), (211, .iload_n 3, 1), (212, .iconst 2, 1), (213, .iadd, 1), (214, .iaload, 1), (215, .invokevirtual 23, 3), (218, .aload_n 2, 1), (219, .aload_n 0, 1), (220, .iload_n 3, 1), (221, .iconst 1, 1), (222, .iadd, 1), (223, .iaload, 1), (224, .aload_n 0, 1), (225, .iload_n 3, 1), (226, .iconst 2, 1), (227, .iadd, 1), (228, .iaload, 1), (229, .invokevirtual 26, 3), (232, .if_icmp .eq 571, 3), (235, .iconst 0, 1), (236, .ireturn, 1), (237, .aload_n 1, 1), (238, .aload_n 0, 1), (239, .iload_n 3, 1), (240, .iconst 1, 1), (241, .iadd, 1), (242, .iaload, 1), (243, .aload_n 0, 1), (244, .iload_n 3, 1), (245, .iconst 2, 1), (246, .iadd, 1), (247, .iaload, 1), (248, .invokevirtual 27, 3), (251, .aload_n 2, 1), (252, .aload_n 0, 1), (253, .iload_n 3, 1), (254, .iconst 1, 1), (255, .iadd, 1), (256, .iaload, 1), (257, .aload_n 0, 1), (258, .iload_n 3, 1), (259, .iconst 2, 1), (260, .iadd, 1), (261, .iaload, 1), (262, .invokevirtual 30, 3), (265, .if_icmp .eq 538, 3), (268, .iconst 0, 1), (269, .ireturn, 1)]
theorem oL_law_1 : ∀ q ∈ pL_law_1, decode cL_law q.1 = .ok (q.2.1, q.2.2) := by decide +kernel
def pL_law_2 : List (Nat × Instr × Nat) := [(270, .aload_n 1, 1), (271, .aload_n 0, 1), (272, .iload_n 3, 1), (273, .iconst 1, 1), (274, .iadd, 1), (275, .iaload, 1), (276, .aload_n 0, 1), (277, .iload_n 3, 1), (278, .iconst 2, 1), (279, .iadd, 1), (280, .iaload, 1), (281, .invokevirtual 31, 3), (284, .aload_n 2, 1), (285, .aload_n 0, 1), (286, .iload_n 3, 1), (287, .iconst 1, 1), (288, .iadd, 1), (289, .iaload, 1), (290, .aload_n 0, 1), (291, .iload_n 3, 1), (292, .iconst 2, 1), (293, .iadd, 1), (294, .iaload, 1), (295, .invokevirtual 34, 3), (298, .if_icmp .eq 505, 3), (301, .iconst 0, 1), (302, .ireturn, 1), (303, .aload_n 1, 1), (304, .aload_n 0, 1), (305, .iload_n 3, 1), (306, .iconst 1, 1), (307, .iadd, 1), (308, .iaload, 1), (309, .aload_n 0, 1), (310, .iload_n 3, 1), (311, .iconst 2, 1), (312, .iadd, 1), (313, .iaload, 1), (314, .invokevirtual 35, 3), (317, .aload_n 2, 1), (318, .aload_n 0, 1), (319, .iload_n 3, 1), (320, .iconst 1, 1), (321, .iadd, 1), (322, .iaload, 1), (323, .aload_n 0, 1), (324, .iload_n 3, 1), (325, .iconst 2, 1), (326, .iadd, 1), (327, .iaload, 1), (328, .invokevirtual 38, 3), (331, .if_icmp .eq 472, 3), (334, .iconst 0, 1), (335, .ireturn, 1), (336, .aload_n 1, 1), (337, .aload_n 0, 1), (338, .iload_n 3, 1), (339, .iconst 1, 1), (340, .iadd, 1), (341, .iaload, 1)]
theorem oL_law_2 : ∀ q ∈ pL_law_2, decode cL_law q.1 = .ok (q.2.1, q.2.2) := by decide +kernel
def pL_law_3 : List (Nat × Instr × Nat) := [(342, .invokevirtual 39, 3), (345, .aload_n 2, 1), (346, .aload_n 0, 1), (347, .iload_n 3, 1), (348, .iconst 1, 1), (349, .iadd, 1), (350, .iaload, 1), (351, .invokevirtual 42, 3), (354, .if_icmp .eq 449, 3), (357, .iconst 0, 1), (358, .ireturn, 1), (359, .aload_n 1, 1), (360, .aload_n 0, 1), (361, .iload_n 3, 1), (362, .iconst 1, 1), (363, .iadd, 1), (364, .iaload, 1), (365, .aload_n 0, 1), (366, .iload_n 3, 1), (367, .iconst 2, 1), (368, .iadd, 1), (369, .iaload, 1), (370, .invokevirtual 43, 3), (373, .aload_n 2, 1), (374, .aload_n 0, 1), (375, .iload_n 3, 1), (376, .iconst 1, 1), (377, .iadd, 1), (378, .iaload, 1), (379, .aload_n 0, 1), (380, .iload_n 3, 1), (381, .iconst 2, 1), (382, .iadd, 1), (383, .iaload, 1), (384, .invokevirtual 46, 3), (387, .if_icmp .eq 416, 3), (390, .iconst 0, 1), (391, .ireturn, 1), (392, .aload_n 1, 1), (393, .invokevirtual 47, 3), (396, .aload_n 2, 1), (397, .invokevirtual 51, 3), (400, .if_icmp .eq 403, 3), (403, .iconst 0, 1), (404, .ireturn, 1), (405, .aload_n 1, 1), (406, .aload_n 0, 1), (407, .iload_n 3, 1), (408, .iconst 1, 1), (409, .iadd, 1), (410, .iaload, 1), (411, .invokevirtual 52, 3), (414, .aload_n 2, 1), (415, .aload_n 0, 1), (416, .iload_n 3, 1), (417, .iconst 1, 1), (418, .iadd, 1), (419, .iaload, 1), (420, .invokevirtual 55, 3), (423, .if_icmp .eq 380, 3)]
theorem oL_law_3 : ∀ q ∈ pL_law_3, decode cL_law q.1 = .ok (q.2.1, q.2.2) := by decide +kernel
def pL_law_4 : List (Nat × Instr × Nat) := [(426, .iconst 0, 1), (427, .ireturn, 1), (428, .aload_n 1, 1), (429, .aload_n 0, 1), (430, .iload_n 3, 1), (431, .iconst 1, 1), (432, .iadd, 1), (433, .iaload, 1), (434, .invokevirtual 56, 3), (437, .aload_n 2, 1), (438, .aload_n 0, 1), (439, .iload_n 3, 1), (440, .iconst 1, 1), (441, .iadd, 1), (442, .iaload, 1), (443, .invokevirtual 59, 3), (446, .if_icmp .eq 357, 3), (449, .iconst 0, 1), (450, .ireturn, 1), (451, .aload_n 1, 1), (452, .aload_n 0, 1), (453, .iload_n 3, 1), (454, .iconst 1, 1), (455, .iadd, 1), (456, .iaload, 1), (457, .invokevirtual 60, 3), (460, .aload_n 2, 1), (461, .aload_n 0, 1), (462, .iload_n 3, 1), (463, .iconst 1, 1), (464, .iadd, 1), (465, .iaload, 1), (466, .invokevirtual 63, 3), (469, .if_icmp .eq 334, 3), (472, .iconst 0, 1), (473, .ireturn, 1), (474, .aload_n 1, 1), (475, .invokevirtual 64, 3), (478, .aload_n 2, 1), (479, .invokevirtual 67, 3), (482, .if_icmp .eq 321, 3), (485, .iconst 0, 1), (486, .ireturn, 1), (487, .aload_n 1, 1), (488, .aload_n 0, 1), (489, .iload_n 3, 1), (490, .iconst 1, 1), (491, .iadd, 1), (492, .iaload, 1), (493, .invokevirtual 68, 3), (496, .aload_n 2, 1), (497, .aload_n 0, 1), (498, .iload_n 3, 1), (499, .iconst 1, 1), (500, .iadd, 1), (501, .iaload, 1), (502, .invokevirtual 71, 3), (505, .if_icmp .eq 298, 3), (508, .iconst 0, 1), (509, .ireturn, 1)]
theorem oL_law_4 : ∀ q ∈ pL_law_4, decode cL_law q.1 = .ok (q.2.1, q.2.2) := by decide +kernel
def pL_law_5 : List (Nat × Instr × Nat) := [(510, .aload_n 1, 1), (511, .aload_n 0, 1), (512, .iload_n 3, 1), (513, .iconst 1, 1), (514, .iadd, 1), (515, .iaload, 1), (516, .invokevirtual 72, 3), (519, .aload_n 2, 1), (520, .aload_n 0, 1), (521, .iload_n 3, 1), (522, .iconst 1, 1), (523, .iadd, 1), (524, .iaload, 1), (525, .invokevirtual 75, 3), (528, .if_icmp .eq 275, 3), (531, .iconst 0, 1), (532, .ireturn, 1), (533, .aload_n 1, 1), (534, .aload_n 0, 1), (535, .iload_n 3, 1), (536, .iconst 1, 1), (537, .iadd, 1), (538, .iaload, 1), (539, .invokevirtual 76, 3), (542, .aload_n 2, 1), (543, .aload_n 0, 1), (544, .iload_n 3, 1), (545, .iconst 1, 1), (546, .iadd, 1), (547, .iaload, 1), (548, .invokevirtual 79, 3), (551, .if_icmp .eq 252, 3), (554, .iconst 0, 1), (555, .ireturn, 1), (556, .aload_n 1, 1), (557, .aload_n 0, 1), (558, .iload_n 3, 1), (559, .iconst 1, 1), (560, .iadd, 1), (561, .iaload, 1), (562, .invokevirtual 80, 3), (565, .aload_n 2, 1), (566, .aload_n 0, 1), (567, .iload_n 3, 1), (568, .iconst 1, 1), (569, .iadd, 1), (570, .iaload, 1), (571, .invokevirtual 83, 3), (574, .if_icmp .eq 229, 3), (577, .iconst 0, 1), (578, .ireturn, 1), (579, .aload_n 1, 1), (580, .aload_n 0, 1), (581, .iload_n 3, 1), (582, .iconst 1, 1), (583, .iadd, 1), (584, .iaload, 1), (585, .aload_n 0, 1), (586, .iload_n 3, 1), (587, .iconst 2, 1)]
theorem oL_law_5 : ∀ q ∈ pL_law_5, decode cL_law q.1 = .ok (q.2.1, q.2.2) := by decide +kernel
def pL_law_6 : List (Nat × Instr × Nat) := [(588, .iadd, 1), (589, .iaload, 1), (590, .aload_n 0, 1), (591, .iload_n 3, 1), (592, .iconst 3, 1), (593, .iadd, 1), (594, .iaload, 1), (595, .aload_n 0, 1), (596, .iload_n 3, 1), (597, .iconst 4, 1), (598, .iadd, 1), (599, .iaload, 1), (600, .aload_n 0, 1), (601, .iload_n 3, 1), (602, .iconst 5, 1), (603, .iadd, 1), (604, .iaload, 1), (605, .invokevirtual 84, 3), (608, .aload_n 2, 1), (609, .aload_n 0, 1), (610, .iload_n 3, 1), (611, .iconst 1, 1), (612, .iadd, 1), (613, .iaload, 1), (614, .aload_n 0, 1), (615, .iload_n 3, 1), (616, .iconst 2, 1), (617, .iadd, 1), (618, .iaload, 1), (619, .aload_n 0, 1), (620, .iload_n 3, 1), (621, .iconst 3, 1), (622, .iadd, 1), (623, .iaload, 1), (624, .aload_n 0, 1), (625, .iload_n 3, 1), (626, .iconst 4, 1), (627, .iadd, 1), (628, .iaload, 1), (629, .aload_n 0, 1), (630, .iload_n 3, 1), (631, .iconst 5, 1), (632, .iadd, 1), (633, .iaload, 1), (634, .invokevirtual 88, 3), (637, .if_icmp .eq 166, 3), (640, .iconst 0, 1), (641, .ireturn, 1), (642, .aload_n 1, 1), (643, .invokevirtual 89, 3), (646, .aload_n 2, 1), (647, .invokevirtual 92, 3), (650, .if_icmp .eq 153, 3), (653, .iconst 0, 1), (654, .ireturn, 1), (655, .aload_n 1, 1), (656, .aload_n 0, 1), (657, .iload_n 3, 1), (658, .iconst 1, 1), (659, .iadd, 1)]
theorem oL_law_6 : ∀ q ∈ pL_law_6, decode cL_law q.1 = .ok (q.2.1, q.2.2) := by decide +kernel
def pL_law_7 : List (Nat × Instr × Nat) := [(660, .iaload, 1), (661, .invokevirtual 93, 3), (664, .aload_n 2, 1), (665, .aload_n 0, 1), (666, .iload_n 3, 1), (667, .iconst 1, 1), (668, .iadd, 1), (669, .iaload, 1), (670, .invokevirtual 96, 3), (673, .if_icmp .eq 130, 3), (676, .iconst 0, 1), (677, .ireturn, 1), (678, .aload_n 1, 1), (679, .aload_n 0, 1), (680, .iload_n 3, 1), (681, .iconst 1, 1), (682, .iadd, 1), (683, .iaload, 1), (684, .aload_n 0, 1), (685, .iload_n 3, 1), (686, .iconst 2, 1), (687, .iadd, 1), (688, .iaload, 1), (689, .aload_n 0, 1), (690, .iload_n 3, 1), (691, .iconst 3, 1), (692, .iadd, 1), (693, .iaload, 1), (694, .invokevirtual 97, 3), (697, .aload_n 2, 1), (698, .aload_n 0, 1), (699, .iload_n 3, 1), (700, .iconst 1, 1), (701, .iadd, 1), (702, .iaload, 1), (703, .aload_n 0, 1), (704, .iload_n 3, 1), (705, .iconst 2, 1), (706, .iadd, 1), (707, .iaload, 1), (708, .aload_n 0, 1), (709, .iload_n 3, 1), (710, .iconst 3, 1), (711, .iadd, 1), (712, .iaload, 1), (713, .invokevirtual 101, 3), (716, .if_icmp .eq 87, 3), (719, .iconst 0, 1), (720, .ireturn, 1), (721, .aload_n 1, 1), (722, .invokevirtual 102, 3), (725, .aload_n 2, 1), (726, .invokevirtual 105, 3), (729, .if_icmp .eq 74, 3), (732, .iconst 0, 1), (733, .ireturn, 1), (734, .aload_n 1, 1), (735, .aload_n 0, 1), (736, .iload_n 3, 1), (737, .iconst 1, 1)]
theorem oL_law_7 : ∀ q ∈ pL_law_7, decode cL_law q.1 = .ok (q.2.1, q.2.2) := by decide +kernel
def pL_law_8 : List (Nat × Instr × Nat) := [(738, .iadd, 1), (739, .iaload, 1), (740, .invokevirtual 106, 3), (743, .aload_n 2, 1), (744, .aload_n 0, 1), (745, .iload_n 3, 1), (746, .iconst 1, 1), (747, .iadd, 1), (748, .iaload, 1), (749, .invokevirtual 109, 3), (752, .if_icmp .eq 51, 3), (755, .iconst 0, 1), (756, .ireturn, 1), (757, .aload_n 1, 1), (758, .aload_n 0, 1), (759, .iload_n 3, 1), (760, .iconst 1, 1), (761, .iadd, 1), (762, .iaload, 1), (763, .invokevirtual 110, 3), (766, .aload_n 2, 1), (767, .aload_n 0, 1), (768, .iload_n 3, 1), (769, .iconst 1, 1), (770, .iadd, 1), (771, .iaload, 1), (772, .invokevirtual 113, 3), (775, .if_icmp .eq 28, 3), (778, .iconst 0, 1), (779, .ireturn, 1), (780, .aload_n 1, 1), (781, .aload_n 0, 1), (782, .iload_n 3, 1), (783, .iconst 1, 1), (784, .iadd, 1), (785, .iaload, 1), (786, .invokevirtual 114, 3), (789, .aload_n 2, 1), (790, .aload_n 0, 1), (791, .iload_n 3, 1), (792, .iconst 1, 1), (793, .iadd, 1), (794, .iaload, 1), (795, .invokevirtual 117, 3), (798, .if_icmp .eq 5, 3), (801, .iconst 0, 1), (802, .ireturn, 1), (803, .iinc 3 6, 3), (806, .goto (-788), 3), (809, .iconst 1, 1), (810, .ireturn, 1)]
theorem oL_law_8 : ∀ q ∈ pL_law_8, decode cL_law q.1 = .ok (q.2.1, q.2.2) := by decide +kernel
def pL_law : List (Nat × Instr × Nat) := pL_law_0 ++ (pL_law_1 ++ (pL_law_2 ++ (pL_law_3 ++ (pL_law_4 ++ (pL_law_5 ++ (pL_law_6 ++ (pL_law_7 ++ (pL_law_8))))))))
theorem oL_law : ∀ q ∈ pL_law, decode cL_law q.1 = .ok (q.2.1, q.2.2) := List.forall_mem_append.mpr ⟨oL_law_0, List.forall_mem_append.mpr ⟨oL_law_1, List.forall_mem_append.mpr ⟨oL_law_2, List.forall_mem_append.mpr ⟨oL_law_3, List.forall_mem_append.mpr ⟨oL_law_4, List.forall_mem_append.mpr ⟨oL_law_5, List.forall_mem_append.mpr ⟨oL_law_6, List.forall_mem_append.mpr ⟨oL_law_7, oL_law_8⟩⟩⟩⟩⟩⟩⟩⟩
end
section
/-! the ground: the tables' words at every state, contracts by heaps, and the walk's judgement -/
def mw_nest : Cond → Bool
  | .fieldLinkNest .. => true
  | .methodLinkNest .. => true
  | _ => false
/-- a word that stays true while the tables are warmed -/
def mw_gw (w : Cond) : Bool := goodWord w || mw_nest w
/-- every such word of the tables holds, at every list of arguments -/
def mw_KW (U : State) : Prop := ∀ w ∈ lw_tbl, mw_gw w = true → ∀ a : Array Value, w.before a U = true
theorem mw_KW.warm {s U : State} (h : mw_KW s) (hW : s.WarmedH U.vm) : mw_KW U := by
  intro w hw h0 a
  have h1 := h0
  simp only [mw_gw, Bool.or_eq_true] at h1
  rcases h1 with h1 | h1
  · exact word_at hW (good_of_word h1) (h w hw h0 #[])
  · cases w with
    | fieldLinkNest a1 i b1 n1 d1 h2 => exact va_Nw.use rfl (va_Nw.warmF hW (h _ hw h0 #[]))
    | methodLinkNest a1 i x1 h2 => exact va_Nw.use rfl (va_Nw.warmM hW (h _ hw h0 #[]))
    | _ => cases h1
theorem mw_KW.of {s : State} {a : Array Value} (h : ∀ w ∈ lw_tbl, w.before a s = true) : mw_KW s := by
  intro w hw h1 a'
  simp only [mw_gw, Bool.or_eq_true] at h1
  rcases h1 with h1 | h1
  · exact word_at (State.WarmedH.refl s) (good_of_word h1) (h w hw)
  · cases w with
    | fieldLinkNest a1 i b1 n1 d1 h2 => exact va_tabs rfl rfl (h _ hw)
    | methodLinkNest a1 i x1 h2 => exact va_tabs rfl rfl (h _ hw)
    | _ => cases h1
abbrev mw_C : Type := va_G × (ClassId × ClassId × ClassId) × Nat × Nat
def mw_ty (Y : ClassId × ClassId × ClassId) : List (ClassId × FieldType) := [(Y.1, .int), (Y.2.1, .long), (Y.2.2, .object "MovedWays$Ways")]
/-- the sizes of the kinds of letters -/
def mw_sz (j : Nat) : Int32 := match j with
  | 0 => 5
  | 1 => 4
  | 2 => 4
  | 3 => 3
  | _ => 2
/-- what stays known at every state: the tables' words, the classes' numbers and slots, the static row of sizes -/
def mw_KK (Γ : mw_C) (U : State) : Prop := mw_KW U ∧ va_K Γ.1 vwCl (mw_ty Γ.2.1) U ∧ va_Z "MovedWays" "SIZES" "[I" (.ref Γ.2.2.1) (fun q => Γ.2.2.2 ≤ q) U U.heap ∧ va_T .int Γ.2.2.1 6 (fun j => .int (mw_sz j)) (fun q => Γ.2.2.2 ≤ q) U U.heap ∧ va_AO "MovedWays$Ways" U
theorem mw_KK.call {Γ : mw_C} {U : State} {g : JFrame} {mk : MethodId} {a : Array Value} (h : mw_KK Γ U) : mw_KK Γ (U.calling g mk a) :=
  ⟨h.1.warm (State.WarmedH.refl U), va_K.moved (u := U) (U := U.calling g mk a) (Vm.Alike.refl U.vm) h.2.1, va_Z.moved (u := U) (U := U.calling g mk a) (Vm.Alike.refl U.vm) h.2.2.1, va_T.moved (u := U) (U := U.calling g mk a) (Vm.Alike.refl U.vm) h.2.2.2.1, va_AO.moved (u := U) (U := U.calling g mk a) (Vm.Alike.refl U.vm) h.2.2.2.2⟩
theorem mw_KK.warm {Γ : mw_C} {A : Nat → Prop} {s U : State} {H : Heap} {locs : List Loc} (h : mw_KK Γ s) (hW : s.WarmedH U.vm) (hU : U.heap = H) (hA : ∀ q, A q → Γ.2.2.2 ≤ q) (hS : va_S A s.heap H locs) : mw_KK Γ U := by
  have hq : ∀ a : Nat, a < s.heap.size → ¬ (fun q => Γ.2.2.2 ≤ q) a → U.heap[a]? = s.heap[a]? := fun a h1 h2 => by rw [hU]; exact hS.2.1 a h1 (fun z => h2 (hA a z))
  exact ⟨h.1.warm hW, va_K.moved hW.alike h.2.1, (h.2.2.1.kept hq).moved hW.alike, (h.2.2.2.1.kept hq).moved hW.alike, va_AO.moved hW.alike h.2.2.2.2⟩
/-- a method: its name, its bytes, how many locals, what it returns -/
abbrev mw_M : Type := MethodName × ByteArray × Nat × Option FieldType
abbrev mw_rm (lev mc ms : Nat) : Room := { frames := lev, cells := mc, slots := ms, locals := 40 * lev }
abbrev mw_Qc (A : Nat → Prop) (E : Option Value → Heap → Prop) : Array Value → State → Outcome → State → Prop := fun _ st o t => (∃ v, o = .returned v ∧ E v t.heap) ∧ va_F A st t
/-- THE CONTRACT, at one heap: called with these arguments the method returns, and 'E answer heap' -/
def mw_Cn (l : Launch) (Γ : mw_C) (d : mw_M) (lev mc ms : Nat) (A : Nat → Prop) (as : List Value) (H : Heap) (E : Option Value → Heap → Prop) : Prop :=
  Met l d.1 [.code d.1 d.2.1 d.2.2.1 d.2.2.2] (mw_rm lev mc ms) (fun v U => v = as.toArray ∧ mw_KK Γ U ∧ U.heap = H) (mw_Qc A E) mc ms A
/-- the contract with one known answer -/
abbrev mw_Cr (l : Launch) (Γ : mw_C) (d : mw_M) (lev mc ms : Nat) (A : Nat → Prop) (as : List Value) (H : Heap) (ov : Option Value) (J : Heap → Prop) : Prop :=
  mw_Cn l Γ d lev mc ms A as H (fun v H' => v = ov ∧ J H')
theorem mw_Cn.mono {l : Launch} {Γ : mw_C} {d : mw_M} {lev mc ms : Nat} {A : Nat → Prop} {as : List Value} {H : Heap} {E E' : Option Value → Heap → Prop} (h : mw_Cn l Γ d lev mc ms A as H E) (hE : ∀ v H', E v H' → E' v H') : mw_Cn l Γ d lev mc ms A as H E' := by
  intro p e ha hc hk s m args below hf happ hP hT
  obtain ⟨t, o, h1, h2, h3, ⟨⟨v, hv, hE1⟩, hF⟩, hL⟩ := h p e ha hc hk s m args below hf happ hP hT
  exact ⟨t, o, h1, h2, h3, ⟨⟨v, hv, hE v _ hE1⟩, hF⟩, hL⟩
abbrev mw_Q (A : Nat → Prop) (E : Option Value → Heap → Prop) (below : List Frame) (args : Array Value) (s : State) (mc ms : Nat) : State → Prop := MQ below (mw_Qc A E) args s mc ms A
/-- THE WALK: from every heap with I, at this place with these locals and this stack, the machine comes to Q -/
def mw_G (p : Program) (l : Launch) (e : Env) (R : Room) (s : State) (m : MethodId) (args : Array Value) (below : List Frame) (meth : Method) (c : Code) (A : Nat → Prop) (nL : Nat) (Q : State → Prop) (I : Heap → Prop) (ce sl pc : Nat) (lv : List (Nat × Value)) (st : List Value) : Prop :=
  ∀ (H : Heap) (locs : List Loc) (ls : Array Slot), I H → va_S A s.heap H locs → lv_has ls nL lv → W p l e R s m args below meth c H locs ce sl Q (F0 m pc ls st)
/-- what a walk knows of its method -/
def mw_Ok (Γ : mw_C) (p : Program) (s : State) (m : MethodId) (args : Array Value) (meth : Method) (c : Code) (A : Nat → Prop) (d : mw_M) (P : List (Nat × Instr × Nat)) : Prop :=
  p.tables.exec = Jvm.exec ∧ c.code = d.2.1 ∧ meth.sig.returnType = d.2.2.2 ∧ c.maxLocals = d.2.2.1 ∧ s.vm.findClass d.1.cls = some m.cls ∧ mw_KK Γ s ∧ meth.locks = false ∧ (∀ q, A q → Γ.2.2.2 ≤ q) ∧ (∀ q ∈ P, decode d.2.1 q.1 = .ok (q.2.1, q.2.2)) ∧ meth.name = d.1.name
/-- a contract by its walk -/
theorem mw_ofG {l : Launch} {Γ : mw_C} {d : mw_M} {lev mc ms : Nat} {A : Nat → Prop} {as : List Value} {H : Heap} {E : Option Value → Heap → Prop} {P : List (Nat × Instr × Nat)} (hy : plainName d.1.cls = true) (hA : ∀ q, A q → Γ.2.2.2 ≤ q) (hP : ∀ q ∈ P, decode d.2.1 q.1 = .ok (q.2.1, q.2.2)) (hl : (lg_sl as).length ≤ d.2.2.1)
    (body : ∀ p e s m below meth c, mw_Ok Γ p s m as.toArray meth c A d P → s.heap = H → mw_G p l e (mw_rm lev mc ms) s m as.toArray below meth c A d.2.2.1 (mw_Q A E below as.toArray s mc ms) (fun H' => H' = H) 0 0 0 (lv_args 0 as) []) : mw_Cn l Γ d lev mc ms A as H E := by
  refine Met.ofW (cc := d.2.1) (maxL := d.2.2.1) (ret := d.2.2.2) hy rfl ?_
  intro p e s m args below meth c s₁ B hml hv
  obtain ⟨rfl, hK, hH⟩ := hv
  have hown : s.vm.findClass d.1.cls = some m.cls := findClass_of_methodNamed B.named
  have hl1 := lv_entry as (n := d.2.2.1) hl
  rw [lg_entry_eq]
  exact body p e s m below meth c ⟨B.exec, B.bytes, B.returns, hml, hown, hK, B.notSynchronized, hA, hP, (name_of_methodNamed B.named B.method).1⟩ hH s.heap [] _ hH va_S.rf hl1
/-- a local, by its number -/
def mw_lk : List (Nat × Value) → Nat → Option Value
  | [], _ => none
  | q :: r, i => bif Nat.beq q.1 i then some q.2 else mw_lk r i
theorem mw_lk_mem : ∀ {lv : List (Nat × Value)} {i : Nat} {v : Value}, mw_lk lv i = some v → (i, v) ∈ lv
  | [], i, v, h => by cases h
  | q :: r, i, v, h => by
    unfold mw_lk at h
    cases hb : Nat.beq q.1 i with
    | true =>
      rw [hb] at h
      have h1 : q.1 = i := Nat.eq_of_beq_eq_true hb
      have h2 : q.2 = v := Option.some.inj h
      rw [← h1, ← h2]
      exact List.mem_cons_self
    | false =>
      rw [hb] at h
      exact List.mem_cons_of_mem _ (mw_lk_mem h)
/-- an instruction, by its place -/
def mw_at : List (Nat × Instr × Nat) → Nat → Option (Instr × Nat)
  | [], _ => none
  | q :: r, i => bif Nat.beq q.1 i then some q.2 else mw_at r i
theorem mw_at_mem : ∀ {P : List (Nat × Instr × Nat)} {i : Nat} {x : Instr × Nat}, mw_at P i = some x → (i, x) ∈ P
  | [], i, v, h => by cases h
  | q :: r, i, v, h => by
    unfold mw_at at h
    cases hb : Nat.beq q.1 i with
    | true =>
      rw [hb] at h
      have h1 : q.1 = i := Nat.eq_of_beq_eq_true hb
      have h2 : q.2 = v := Option.some.inj h
      rw [← h1, ← h2]
      exact List.mem_cons_self
    | false =>
      rw [hb] at h
      exact List.mem_cons_of_mem _ (mw_at_mem h)
def mw_put1 (lv : List (Nat × Value)) (i : Nat) (v : Value) : List (Nat × Value) := (i, v) :: lv.filter (fun q => !(q.1 == i) && !(q.1 + 1 == i && q.2.category == 2))
def mw_put2 (lv : List (Nat × Value)) (i : Nat) (v : Value) : List (Nat × Value) := (i, v) :: lv.filter (fun q => !(q.1 == i) && (!(q.1 == i + 1) && !(q.1 + 1 == i && q.2.category == 2)))
end
section
/-! instructions on locals and stack alone, run by computation -/
def mw_ld (lv : List (Nat × Value)) (st : List Value) (i npc : Nat) (ty : Nat) : Option (Nat × List (Nat × Value) × List Value) := match mw_lk lv i, ty with
  | some (.int x), 0 => some (npc, lv, .int x :: st)
  | some (.long x), 1 => some (npc, lv, .long x :: st)
  | some (.ref x), 2 => some (npc, lv, .ref x :: st)
  | some .null, 2 => some (npc, lv, .null :: st)
  | _, _ => none
def mw_sto (nL : Nat) (lv : List (Nat × Value)) (st : List Value) (i npc : Nat) (ty : Nat) : Option (Nat × List (Nat × Value) × List Value) := match st, ty with
  | .int x :: r, 0 => bif Nat.blt i nL then some (npc, mw_put1 lv i (.int x), r) else none
  | .long x :: r, 1 => bif Nat.blt (i + 1) nL then some (npc, mw_put2 lv i (.long x), r) else none
  | .ref x :: r, 2 => bif Nat.blt i nL then some (npc, mw_put1 lv i (.ref x), r) else none
  | .null :: r, 2 => bif Nat.blt i nL then some (npc, mw_put1 lv i .null, r) else none
  | _, _ => none
def mw_tg (pc : Nat) (off : Int) : Option Nat := match (pc : Int) + off with
  | .ofNat n => some n
  | .negSucc _ => none
theorem mw_tg_ok {pc n : Nat} {off : Int} (h : mw_tg pc off = some n) : (pc : Int) + off = (n : Int) := by
  unfold mw_tg at h
  cases hz : (pc : Int) + off with
  | ofNat k => rw [hz] at h; cases h; rfl
  | negSucc k => rw [hz] at h; cases h
def mw_ii (npc : Nat) (lv : List (Nat × Value)) (st : List Value) (f : Int32 → Int32 → Int32) : Option (Nat × List (Nat × Value) × List Value) := match st with
  | .int y :: .int x :: r => some (npc, lv, .int (f x y) :: r)
  | _ => none
def mw_ll (npc : Nat) (lv : List (Nat × Value)) (st : List Value) (f : Int64 → Int64 → Int64) : Option (Nat × List (Nat × Value) × List Value) := match st with
  | .long y :: .long x :: r => some (npc, lv, .long (f x y) :: r)
  | _ => none
def mw_s1 (nL : Nat) (ins : Instr) (len pc : Nat) (lv : List (Nat × Value)) (st : List Value) : Option (Nat × List (Nat × Value) × List Value) := match ins, len with
  | .iconst n, 1 => some (pc + 1, lv, .int (Int32.ofInt n) :: st)
  | .bipush n, 2 => some (pc + 2, lv, .int (Int8.ofInt n).toInt32 :: st)
  | .sipush n, 3 => some (pc + 3, lv, .int (Int16.ofInt n).toInt32 :: st)
  | .lconst n, 1 => some (pc + 1, lv, .long (Int64.ofNat (n : Nat)) :: st)
  | .iload_n k, 1 => mw_ld lv st (k : Nat) (pc + 1) 0
  | .iload i, 2 => mw_ld lv st i (pc + 2) 0
  | .istore_n k, 1 => mw_sto nL lv st (k : Nat) (pc + 1) 0
  | .istore i, 2 => mw_sto nL lv st i (pc + 2) 0
  | .lload_n k, 1 => mw_ld lv st (k : Nat) (pc + 1) 1
  | .lload i, 2 => mw_ld lv st i (pc + 2) 1
  | .lstore_n k, 1 => mw_sto nL lv st (k : Nat) (pc + 1) 1
  | .lstore i, 2 => mw_sto nL lv st i (pc + 2) 1
  | .aload_n k, 1 => mw_ld lv st (k : Nat) (pc + 1) 2
  | .aload i, 2 => mw_ld lv st i (pc + 2) 2
  | .astore_n k, 1 => mw_sto nL lv st (k : Nat) (pc + 1) 2
  | .astore i, 2 => mw_sto nL lv st i (pc + 2) 2
  | .iinc i n, 3 => (match mw_lk lv i with | some (.int x) => bif Nat.blt i nL then some (pc + 3, mw_put1 lv i (.int (x + Int32.ofInt n)), st) else none | _ => none)
  | .iadd, 1 => mw_ii (pc + 1) lv st (fun x y => x + y)
  | .isub, 1 => mw_ii (pc + 1) lv st (fun x y => x - y)
  | .imul, 1 => mw_ii (pc + 1) lv st (fun x y => x * y)
  | .iand, 1 => mw_ii (pc + 1) lv st (fun x y => x &&& y)
  | .ior, 1 => mw_ii (pc + 1) lv st (fun x y => x ||| y)
  | .ishl, 1 => mw_ii (pc + 1) lv st (fun x y => x <<< (y &&& 31))
  | .ishr, 1 => mw_ii (pc + 1) lv st (fun x y => x >>> (y &&& 31))
  | .ladd, 1 => mw_ll (pc + 1) lv st (fun x y => x + y)
  | .lsub, 1 => mw_ll (pc + 1) lv st (fun x y => x - y)
  | .lmul, 1 => mw_ll (pc + 1) lv st (fun x y => x * y)
  | .land, 1 => mw_ll (pc + 1) lv st (fun x y => x &&& y)
  | .lor, 1 => mw_ll (pc + 1) lv st (fun x y => x ||| y)
  | .lxor, 1 => mw_ll (pc + 1) lv st (fun x y => x ^^^ y)
  | .i2l, 1 => (match st with | .int x :: r => some (pc + 1, lv, .long x.toInt64 :: r) | _ => none)
  | .l2i, 1 => (match st with | .long x :: r => some (pc + 1, lv, .int x.toInt32 :: r) | _ => none)
  | .lushr, 1 => (match st with | .int y :: .long x :: r => some (pc + 1, lv, .long (x.toUInt64 >>> (y.toInt64.toUInt64 &&& Int64.toUInt64 63)).toInt64 :: r) | _ => none)
  | .lshl, 1 => (match st with | .int y :: .long x :: r => some (pc + 1, lv, .long (x <<< (y.toInt64 &&& 63)) :: r) | _ => none)
  | .lcmp, 1 => (match st with | .long y :: .long x :: r => some (pc + 1, lv, .int (lg_cmp x y) :: r) | _ => none)
  | .dup, 1 => (match st with | .int x :: r => some (pc + 1, lv, .int x :: .int x :: r) | .ref x :: r => some (pc + 1, lv, .ref x :: .ref x :: r) | _ => none)
  | .dup2, 1 => (match st with | .int y :: .ref x :: r => some (pc + 1, lv, .int y :: .ref x :: .int y :: .ref x :: r) | _ => none)
  | .pop, 1 => (match st with | .int x :: r => some (pc + 1, lv, r) | _ => none)
  | .goto off, 3 => (match mw_tg pc off with | some n => some (n, lv, st) | none => none)
  | _, _ => none
section PS
variable {p : Program} {l : Launch} {e : Env} {R : Room} {s : State} {m : MethodId} {args : Array Value} {below : List Frame} {meth : Method} {c : Code} {H : Heap} {locs : List Loc} {ce sl : Nat} {Q : State → Prop} {ls : Array Slot} {cc : ByteArray} {nL pc len pc' : Nat} {lv lv' : List (Nat × Value)} {st st' : List Value} {ins : Instr}
theorem mw_lk_at {v : Value} {i : Nat} (h : lv_has ls nL lv) (hk : mw_lk lv i = some v) : ls[i]? = some (.val v) := h.2.2 (i, v) (mw_lk_mem hk)
theorem mw_lk_get {v : Value} {i : Nat} (hk : mw_lk lv i = some v) : ∃ k : Nat, lv[k]? = some (i, v) := List.getElem?_of_mem (mw_lk_mem hk)
theorem mw_blt {a b : Nat} (h : Nat.blt a b = true) : a < b := by simpa [Nat.blt_eq] using h
theorem mw_w_iload_n (k : Fin 4) (hx : p.tables.exec = Jvm.exec) (hb : c.code = cc) (hd : decode cc pc = .ok (.iload_n k, 1)) (hl : lv_has ls nL lv) (h : mw_ld lv st (k : Nat) (pc + 1) 0 = some (pc', lv', st')) (kk : ∀ ls, lv_has ls nL lv' → W p l e R s m args below meth c H locs ce sl Q (F0 m pc' ls st')) : W p l e R s m args below meth c H locs ce sl Q (F0 m pc ls st) := by
  unfold mw_ld at h
  cases hk : mw_lk lv (k : Nat) with
  | none => rw [hk] at h; cases h
  | some v =>
    rw [hk] at h
    cases v with
    | int x => cases h; exact lv_iload_n hx hb hd rfl (mw_lk_at hl hk) (kk ls hl)
    | _ => cases h
theorem mw_w_iload (k : Nat) (hx : p.tables.exec = Jvm.exec) (hb : c.code = cc) (hd : decode cc pc = .ok (.iload k, 2)) (hl : lv_has ls nL lv) (h : mw_ld lv st (k : Nat) (pc + 2) 0 = some (pc', lv', st')) (kk : ∀ ls, lv_has ls nL lv' → W p l e R s m args below meth c H locs ce sl Q (F0 m pc' ls st')) : W p l e R s m args below meth c H locs ce sl Q (F0 m pc ls st) := by
  unfold mw_ld at h
  cases hk : mw_lk lv (k : Nat) with
  | none => rw [hk] at h; cases h
  | some v =>
    rw [hk] at h
    cases v with
    | int x => cases h; exact lv_iload hx hb hd (mw_lk_at hl hk) (kk ls hl)
    | _ => cases h
theorem mw_w_lload_n (k : Fin 4) (hx : p.tables.exec = Jvm.exec) (hb : c.code = cc) (hd : decode cc pc = .ok (.lload_n k, 1)) (hl : lv_has ls nL lv) (h : mw_ld lv st (k : Nat) (pc + 1) 1 = some (pc', lv', st')) (kk : ∀ ls, lv_has ls nL lv' → W p l e R s m args below meth c H locs ce sl Q (F0 m pc' ls st')) : W p l e R s m args below meth c H locs ce sl Q (F0 m pc ls st) := by
  unfold mw_ld at h
  cases hk : mw_lk lv (k : Nat) with
  | none => rw [hk] at h; cases h
  | some v =>
    rw [hk] at h
    cases v with
    | long x => cases h; exact lv_lload_n hx hb hd rfl (mw_lk_at hl hk) (kk ls hl)
    | _ => cases h
theorem mw_w_lload (k : Nat) (hx : p.tables.exec = Jvm.exec) (hb : c.code = cc) (hd : decode cc pc = .ok (.lload k, 2)) (hl : lv_has ls nL lv) (h : mw_ld lv st (k : Nat) (pc + 2) 1 = some (pc', lv', st')) (kk : ∀ ls, lv_has ls nL lv' → W p l e R s m args below meth c H locs ce sl Q (F0 m pc' ls st')) : W p l e R s m args below meth c H locs ce sl Q (F0 m pc ls st) := by
  unfold mw_ld at h
  cases hk : mw_lk lv (k : Nat) with
  | none => rw [hk] at h; cases h
  | some v =>
    rw [hk] at h
    cases v with
    | long x => cases h; exact lv_lload hx hb hd (mw_lk_at hl hk) (kk ls hl)
    | _ => cases h
theorem mw_w_aload_n (k : Fin 4) (hx : p.tables.exec = Jvm.exec) (hb : c.code = cc) (hd : decode cc pc = .ok (.aload_n k, 1)) (hl : lv_has ls nL lv) (h : mw_ld lv st (k : Nat) (pc + 1) 2 = some (pc', lv', st')) (kk : ∀ ls, lv_has ls nL lv' → W p l e R s m args below meth c H locs ce sl Q (F0 m pc' ls st')) : W p l e R s m args below meth c H locs ce sl Q (F0 m pc ls st) := by
  unfold mw_ld at h
  cases hk : mw_lk lv (k : Nat) with
  | none => rw [hk] at h; cases h
  | some v =>
    rw [hk] at h
    cases v with
    | ref x => cases h; exact lv_aload_n hx hb hd rfl (mw_lk_at hl hk) (kk ls hl)
    | null => cases h; exact lv_aload_nN hx hb hd rfl (mw_lk_at hl hk) (kk ls hl)
    | _ => cases h
theorem mw_w_aload (k : Nat) (hx : p.tables.exec = Jvm.exec) (hb : c.code = cc) (hd : decode cc pc = .ok (.aload k, 2)) (hl : lv_has ls nL lv) (h : mw_ld lv st (k : Nat) (pc + 2) 2 = some (pc', lv', st')) (kk : ∀ ls, lv_has ls nL lv' → W p l e R s m args below meth c H locs ce sl Q (F0 m pc' ls st')) : W p l e R s m args below meth c H locs ce sl Q (F0 m pc ls st) := by
  unfold mw_ld at h
  cases hk : mw_lk lv (k : Nat) with
  | none => rw [hk] at h; cases h
  | some v =>
    rw [hk] at h
    cases v with
    | ref x => cases h; exact lv_aload hx hb hd (mw_lk_at hl hk) (kk ls hl)
    | null => cases h; exact lv_aloadN hx hb hd (mw_lk_at hl hk) (kk ls hl)
    | _ => cases h
theorem mw_w_istore_n (k : Fin 4) (hx : p.tables.exec = Jvm.exec) (hb : c.code = cc) (hd : decode cc pc = .ok (.istore_n k, 1)) (hl : lv_has ls nL lv) (h : mw_sto nL lv st (k : Nat) (pc + 1) 0 = some (pc', lv', st')) (kk : ∀ ls, lv_has ls nL lv' → W p l e R s m args below meth c H locs ce sl Q (F0 m pc' ls st')) : W p l e R s m args below meth c H locs ce sl Q (F0 m pc ls st) := by
  cases st with
  | nil => cases h
  | cons v r =>
    cases v with
    | int x =>
      replace h : (bif Nat.blt ((k : Nat)) nL then some (pc + 1, mw_put1 lv (k : Nat) (.int x), r) else none) = some (pc', lv', st') := h
      cases hn : Nat.blt ((k : Nat)) nL with
      | false => rw [hn] at h; cases h
      | true => rw [hn] at h; cases h; exact lv_istore_n hx hb hd rfl hl (mw_blt hn) rfl kk
    | _ => cases h
theorem mw_w_istore (k : Nat) (hx : p.tables.exec = Jvm.exec) (hb : c.code = cc) (hd : decode cc pc = .ok (.istore k, 2)) (hl : lv_has ls nL lv) (h : mw_sto nL lv st (k : Nat) (pc + 2) 0 = some (pc', lv', st')) (kk : ∀ ls, lv_has ls nL lv' → W p l e R s m args below meth c H locs ce sl Q (F0 m pc' ls st')) : W p l e R s m args below meth c H locs ce sl Q (F0 m pc ls st) := by
  cases st with
  | nil => cases h
  | cons v r =>
    cases v with
    | int x =>
      replace h : (bif Nat.blt ((k : Nat)) nL then some (pc + 2, mw_put1 lv (k : Nat) (.int x), r) else none) = some (pc', lv', st') := h
      cases hn : Nat.blt ((k : Nat)) nL with
      | false => rw [hn] at h; cases h
      | true => rw [hn] at h; cases h; exact lv_istore hx hb hd hl (mw_blt hn) rfl kk
    | _ => cases h
theorem mw_w_lstore_n (k : Fin 4) (hx : p.tables.exec = Jvm.exec) (hb : c.code = cc) (hd : decode cc pc = .ok (.lstore_n k, 1)) (hl : lv_has ls nL lv) (h : mw_sto nL lv st (k : Nat) (pc + 1) 1 = some (pc', lv', st')) (kk : ∀ ls, lv_has ls nL lv' → W p l e R s m args below meth c H locs ce sl Q (F0 m pc' ls st')) : W p l e R s m args below meth c H locs ce sl Q (F0 m pc ls st) := by
  cases st with
  | nil => cases h
  | cons v r =>
    cases v with
    | long x =>
      replace h : (bif Nat.blt ((k : Nat) + 1) nL then some (pc + 1, mw_put2 lv (k : Nat) (.long x), r) else none) = some (pc', lv', st') := h
      cases hn : Nat.blt ((k : Nat) + 1) nL with
      | false => rw [hn] at h; cases h
      | true => rw [hn] at h; cases h; exact lv_lstore_n hx hb hd rfl hl (mw_blt hn) rfl kk
    | _ => cases h
theorem mw_w_lstore (k : Nat) (hx : p.tables.exec = Jvm.exec) (hb : c.code = cc) (hd : decode cc pc = .ok (.lstore k, 2)) (hl : lv_has ls nL lv) (h : mw_sto nL lv st (k : Nat) (pc + 2) 1 = some (pc', lv', st')) (kk : ∀ ls, lv_has ls nL lv' → W p l e R s m args below meth c H locs ce sl Q (F0 m pc' ls st')) : W p l e R s m args below meth c H locs ce sl Q (F0 m pc ls st) := by
  cases st with
  | nil => cases h
  | cons v r =>
    cases v with
    | long x =>
      replace h : (bif Nat.blt ((k : Nat) + 1) nL then some (pc + 2, mw_put2 lv (k : Nat) (.long x), r) else none) = some (pc', lv', st') := h
      cases hn : Nat.blt ((k : Nat) + 1) nL with
      | false => rw [hn] at h; cases h
      | true => rw [hn] at h; cases h; exact lv_lstore hx hb hd hl (mw_blt hn) rfl kk
    | _ => cases h
theorem mw_w_astore_n (k : Fin 4) (hx : p.tables.exec = Jvm.exec) (hb : c.code = cc) (hd : decode cc pc = .ok (.astore_n k, 1)) (hl : lv_has ls nL lv) (h : mw_sto nL lv st (k : Nat) (pc + 1) 2 = some (pc', lv', st')) (kk : ∀ ls, lv_has ls nL lv' → W p l e R s m args below meth c H locs ce sl Q (F0 m pc' ls st')) : W p l e R s m args below meth c H locs ce sl Q (F0 m pc ls st) := by
  cases st with
  | nil => cases h
  | cons v r =>
    cases v with
    | ref x =>
      replace h : (bif Nat.blt ((k : Nat)) nL then some (pc + 1, mw_put1 lv (k : Nat) (.ref x), r) else none) = some (pc', lv', st') := h
      cases hn : Nat.blt ((k : Nat)) nL with
      | false => rw [hn] at h; cases h
      | true => rw [hn] at h; cases h; exact lv_astore_n hx hb hd rfl hl (mw_blt hn) rfl kk
    | null =>
      replace h : (bif Nat.blt ((k : Nat)) nL then some (pc + 1, mw_put1 lv (k : Nat) (.null), r) else none) = some (pc', lv', st') := h
      cases hn : Nat.blt ((k : Nat)) nL with
      | false => rw [hn] at h; cases h
      | true => rw [hn] at h; cases h; exact lv_astore_nN hx hb hd rfl hl (mw_blt hn) rfl kk
    | _ => cases h
theorem mw_w_astore (k : Nat) (hx : p.tables.exec = Jvm.exec) (hb : c.code = cc) (hd : decode cc pc = .ok (.astore k, 2)) (hl : lv_has ls nL lv) (h : mw_sto nL lv st (k : Nat) (pc + 2) 2 = some (pc', lv', st')) (kk : ∀ ls, lv_has ls nL lv' → W p l e R s m args below meth c H locs ce sl Q (F0 m pc' ls st')) : W p l e R s m args below meth c H locs ce sl Q (F0 m pc ls st) := by
  cases st with
  | nil => cases h
  | cons v r =>
    cases v with
    | ref x =>
      replace h : (bif Nat.blt ((k : Nat)) nL then some (pc + 2, mw_put1 lv (k : Nat) (.ref x), r) else none) = some (pc', lv', st') := h
      cases hn : Nat.blt ((k : Nat)) nL with
      | false => rw [hn] at h; cases h
      | true => rw [hn] at h; cases h; exact lv_astore hx hb hd hl (mw_blt hn) rfl kk
    | null =>
      replace h : (bif Nat.blt ((k : Nat)) nL then some (pc + 2, mw_put1 lv (k : Nat) (.null), r) else none) = some (pc', lv', st') := h
      cases hn : Nat.blt ((k : Nat)) nL with
      | false => rw [hn] at h; cases h
      | true => rw [hn] at h; cases h; exact lv_astoreN hx hb hd hl (mw_blt hn) rfl kk
    | _ => cases h
theorem mw_w_iinc {i : Nat} {n : Int} (hx : p.tables.exec = Jvm.exec) (hb : c.code = cc) (hd : decode cc pc = .ok (.iinc i n, 3)) (hl : lv_has ls nL lv) (h : mw_s1 nL (.iinc i n) 3 pc lv st = some (pc', lv', st')) (kk : ∀ ls, lv_has ls nL lv' → W p l e R s m args below meth c H locs ce sl Q (F0 m pc' ls st')) : W p l e R s m args below meth c H locs ce sl Q (F0 m pc ls st) := by
  replace h : (match mw_lk lv i with | some (.int x) => bif Nat.blt i nL then some (pc + 3, mw_put1 lv i (.int (x + Int32.ofInt n)), st) else none | _ => none) = some (pc', lv', st') := h
  cases hk : mw_lk lv i with
  | none => rw [hk] at h; cases h
  | some v =>
    rw [hk] at h
    cases v with
    | int x =>
      replace h : (bif Nat.blt i nL then some (pc + 3, mw_put1 lv i (.int (x + Int32.ofInt n)), st) else none) = some (pc', lv', st') := h
      cases hn : Nat.blt i nL with
      | false => rw [hn] at h; cases h
      | true =>
        rw [hn] at h
        cases h
        obtain ⟨k, hk2⟩ := mw_lk_get hk
        exact lv_iinc hx hb hd hl hk2 rfl (mw_blt hn) rfl kk
    | _ => cases h
theorem mw_w_ii {f : Int32 → Int32 → Int32} {npc : Nat} (h : mw_ii npc lv st f = some (pc', lv', st')) : ∃ x y r, st = .int y :: .int x :: r ∧ pc' = npc ∧ lv' = lv ∧ st' = .int (f x y) :: r := by
  cases st with
  | nil => cases h
  | cons v r =>
    cases v with
    | int y =>
      cases r with
      | nil => cases h
      | cons v r =>
        cases v with
        | int x => cases h; exact ⟨x, y, r, rfl, rfl, rfl, rfl⟩
        | _ => cases h
    | _ => cases r <;> cases h
theorem mw_w_ll {f : Int64 → Int64 → Int64} {npc : Nat} (h : mw_ll npc lv st f = some (pc', lv', st')) : ∃ x y r, st = .long y :: .long x :: r ∧ pc' = npc ∧ lv' = lv ∧ st' = .long (f x y) :: r := by
  cases st with
  | nil => cases h
  | cons v r =>
    cases v with
    | long y =>
      cases r with
      | nil => cases h
      | cons v r =>
        cases v with
        | long x => cases h; exact ⟨x, y, r, rfl, rfl, rfl, rfl⟩
        | _ => cases h
    | _ => cases r <;> cases h
set_option maxHeartbeats 4000000 in
theorem mw_s1_ok (hx : p.tables.exec = Jvm.exec) (hb : c.code = cc) (hd : decode cc pc = .ok (ins, len)) (hl : lv_has ls nL lv) (h : mw_s1 nL ins len pc lv st = some (pc', lv', st')) (kk : ∀ ls, lv_has ls nL lv' → W p l e R s m args below meth c H locs ce sl Q (F0 m pc' ls st')) : W p l e R s m args below meth c H locs ce sl Q (F0 m pc ls st) := by
  unfold mw_s1 at h
  split at h
  · cases h; exact lv_iconst hx hb hd rfl (kk ls hl)
  · cases h; exact lv_bipush hx hb hd rfl (kk ls hl)
  · cases h; exact lv_sipush hx hb hd rfl (kk ls hl)
  · cases h; exact lv_lconst hx hb hd rfl (kk ls hl)
  · exact mw_w_iload_n _ hx hb hd hl h kk
  · exact mw_w_iload _ hx hb hd hl h kk
  · exact mw_w_istore_n _ hx hb hd hl h kk
  · exact mw_w_istore _ hx hb hd hl h kk
  · exact mw_w_lload_n _ hx hb hd hl h kk
  · exact mw_w_lload _ hx hb hd hl h kk
  · exact mw_w_lstore_n _ hx hb hd hl h kk
  · exact mw_w_lstore _ hx hb hd hl h kk
  · exact mw_w_aload_n _ hx hb hd hl h kk
  · exact mw_w_aload _ hx hb hd hl h kk
  · exact mw_w_astore_n _ hx hb hd hl h kk
  · exact mw_w_astore _ hx hb hd hl h kk
  · exact mw_w_iinc hx hb hd hl h kk
  · obtain ⟨x, y, r, rfl, rfl, rfl, rfl⟩ := mw_w_ii h; exact lv_iadd hx hb hd (kk ls hl)
  · obtain ⟨x, y, r, rfl, rfl, rfl, rfl⟩ := mw_w_ii h; exact lv_isub hx hb hd (kk ls hl)
  · obtain ⟨x, y, r, rfl, rfl, rfl, rfl⟩ := mw_w_ii h; exact lv_imul hx hb hd (kk ls hl)
  · obtain ⟨x, y, r, rfl, rfl, rfl, rfl⟩ := mw_w_ii h; exact lv_iand hx hb hd (kk ls hl)
  · obtain ⟨x, y, r, rfl, rfl, rfl, rfl⟩ := mw_w_ii h; exact lv_ior hx hb hd (kk ls hl)
  · obtain ⟨x, y, r, rfl, rfl, rfl, rfl⟩ := mw_w_ii h; exact lv_ishl hx hb hd (kk ls hl)
  · obtain ⟨x, y, r, rfl, rfl, rfl, rfl⟩ := mw_w_ii h; exact lv_ishr hx hb hd (kk ls hl)
  · obtain ⟨x, y, r, rfl, rfl, rfl, rfl⟩ := mw_w_ll h; exact lv_ladd hx hb hd (kk ls hl)
  · obtain ⟨x, y, r, rfl, rfl, rfl, rfl⟩ := mw_w_ll h; exact lv_lsub hx hb hd (kk ls hl)
  · obtain ⟨x, y, r, rfl, rfl, rfl, rfl⟩ := mw_w_ll h; exact lv_lmul hx hb hd (kk ls hl)
  · obtain ⟨x, y, r, rfl, rfl, rfl, rfl⟩ := mw_w_ll h; exact lv_land hx hb hd (kk ls hl)
  · obtain ⟨x, y, r, rfl, rfl, rfl, rfl⟩ := mw_w_ll h; exact lv_lor hx hb hd (kk ls hl)
  · obtain ⟨x, y, r, rfl, rfl, rfl, rfl⟩ := mw_w_ll h; exact lv_lxor hx hb hd (kk ls hl)
  · split at h
    · cases h; exact lv_i2l hx hb hd rfl (kk ls hl)
    · cases h
  · split at h
    · cases h; exact lv_l2i hx hb hd rfl (kk ls hl)
    · cases h
  · split at h
    · cases h; exact lv_lushr hx hb hd rfl (kk ls hl)
    · cases h
  · split at h
    · cases h; exact lv_lshl hx hb hd rfl (kk ls hl)
    · cases h
  · split at h
    · cases h; exact W.lcmp hx hb hd (kk ls hl)
    · cases h
  · split at h
    · cases h; exact lv_dup hx hb hd rfl (kk ls hl)
    · cases h; exact lv_dup hx hb hd rfl (kk ls hl)
    · cases h
  · split at h
    · cases h; exact lv_dup2_11 hx hb hd rfl rfl (kk ls hl)
    · cases h
  · split at h
    · cases h; exact lv_pop hx hb hd rfl (kk ls hl)
    · cases h
  · split at h
    · next n hn => cases h; exact lv_goto hx hb hd (mw_tg_ok hn) (kk ls hl)
    · cases h
  · cases h
end PS
end
section
/-- n pure instructions, one behind another -/
def mw_run (nL : Nat) (P : List (Nat × Instr × Nat)) : Nat → Nat → List (Nat × Value) → List Value → Option (Nat × List (Nat × Value) × List Value)
  | 0, pc, lv, st => some (pc, lv, st)
  | n + 1, pc, lv, st => match mw_at P pc with
    | some (ins, len) => match mw_s1 nL ins len pc lv st with
      | some (pc', lv', st') => mw_run nL P n pc' lv' st'
      | none => none
    | none => none
section PG
variable {Γ : mw_C} {p : Program} {l : Launch} {e : Env} {R : Room} {s : State} {m : MethodId} {args : Array Value} {below : List Frame} {meth : Method} {c : Code} {A : Nat → Prop} {Q : State → Prop} {I : Heap → Prop} {ce sl : Nat} {d : mw_M} {P : List (Nat × Instr × Nat)}
theorem mw_Ok.hx (X : mw_Ok Γ p s m args meth c A d P) : p.tables.exec = Jvm.exec := by unfold mw_Ok at X; exact X.1
theorem mw_Ok.hb (X : mw_Ok Γ p s m args meth c A d P) : c.code = d.2.1 := by unfold mw_Ok at X; exact X.2.1
theorem mw_Ok.hr (X : mw_Ok Γ p s m args meth c A d P) : meth.sig.returnType = d.2.2.2 := by unfold mw_Ok at X; exact X.2.2.1
theorem mw_Ok.hml (X : mw_Ok Γ p s m args meth c A d P) : c.maxLocals = d.2.2.1 := by unfold mw_Ok at X; exact X.2.2.2.1
theorem mw_Ok.hown (X : mw_Ok Γ p s m args meth c A d P) : s.vm.findClass d.1.cls = some m.cls := by unfold mw_Ok at X; exact X.2.2.2.2.1
theorem mw_Ok.hK (X : mw_Ok Γ p s m args meth c A d P) : mw_KK Γ s := by unfold mw_Ok at X; exact X.2.2.2.2.2.1
theorem mw_Ok.hlo (X : mw_Ok Γ p s m args meth c A d P) : meth.locks = false := by unfold mw_Ok at X; exact X.2.2.2.2.2.2.1
theorem mw_Ok.hA (X : mw_Ok Γ p s m args meth c A d P) : ∀ q, A q → Γ.2.2.2 ≤ q := by unfold mw_Ok at X; exact X.2.2.2.2.2.2.2.1
theorem mw_Ok.hP (X : mw_Ok Γ p s m args meth c A d P) : ∀ q ∈ P, decode d.2.1 q.1 = .ok (q.2.1, q.2.2) := by unfold mw_Ok at X; exact X.2.2.2.2.2.2.2.2.1
theorem mw_Ok.hn (X : mw_Ok Γ p s m args meth c A d P) : meth.name = d.1.name := by unfold mw_Ok at X; exact X.2.2.2.2.2.2.2.2.2
theorem mw_Ok.hd (X : mw_Ok Γ p s m args meth c A d P) {pc len : Nat} {ins : Instr} (h : mw_at P pc = some (ins, len)) : decode d.2.1 pc = .ok (ins, len) := X.hP (pc, ins, len) (mw_at_mem h)
theorem mw_Ok.hw (X : mw_Ok Γ p s m args meth c A d P) {w : Cond} (h : w ∈ lw_tbl) (hg : mw_gw w = true) : w.before args s = true := X.hK.1 w h hg args
theorem mw_steps (X : mw_Ok Γ p s m args meth c A d P) : ∀ (n : Nat) {pc : Nat} {lv : List (Nat × Value)} {st : List Value} {pc' : Nat} {lv' : List (Nat × Value)} {st' : List Value}, mw_run d.2.2.1 P n pc lv st = some (pc', lv', st') → mw_G p l e R s m args below meth c A d.2.2.1 Q I ce sl pc' lv' st' → mw_G p l e R s m args below meth c A d.2.2.1 Q I ce sl pc lv st
  | 0, pc, lv, st, pc', lv', st', h, kk => by cases h; exact kk
  | n + 1, pc, lv, st, pc', lv', st', h, kk => by
    unfold mw_run at h
    cases ha : mw_at P pc with
    | none => rw [ha] at h; cases h
    | some q =>
      obtain ⟨ins, len⟩ := q
      rw [ha] at h
      replace h : (match mw_s1 d.2.2.1 ins len pc lv st with | some (pc', lv', st') => mw_run d.2.2.1 P n pc' lv' st' | none => none) = some (pc', lv', st') := h
      cases hs : mw_s1 d.2.2.1 ins len pc lv st with
      | none => rw [hs] at h; cases h
      | some q =>
        obtain ⟨pc1, lv1, st1⟩ := q
        rw [hs] at h
        have ih := mw_steps X n h kk
        intro H locs ls hI hS hl
        exact mw_s1_ok (cc := d.2.1) X.hx X.hb (X.hd ha) hl hs (fun ls hl => ih H locs ls hI hS hl)
/-- less is known of the heap -/
theorem mw_pre {I' : Heap → Prop} {nL pc : Nat} {lv : List (Nat × Value)} {st : List Value} (h : ∀ H, I H → I' H) (k : mw_G p l e R s m args below meth c A nL Q I' ce sl pc lv st) : mw_G p l e R s m args below meth c A nL Q I ce sl pc lv st := fun H locs ls hI hS hl => k H locs ls (h H hI) hS hl
/-- a fact that the heap's picture gives -/
theorem mw_fact {F : Prop} {nL pc : Nat} {lv : List (Nat × Value)} {st : List Value} (h : ∀ H, I H → F) (k : F → mw_G p l e R s m args below meth c A nL Q I ce sl pc lv st) : mw_G p l e R s m args below meth c A nL Q I ce sl pc lv st := fun H locs ls hI hS hl => k (h H hI) H locs ls hI hS hl
end PG
end
section
/-! loops; other names for locals -/
section PL
variable {p : Program} {l : Launch} {e : Env} {R : Room} {s : State} {m : MethodId} {args : Array Value} {below : List Frame} {meth : Method} {c : Code} {A : Nat → Prop} {Q : State → Prop} {ce sl pc nL : Nat} {st : List Value}
theorem mw_wf {σ : Type} (μ : σ → Nat) (Pre : σ → Prop) (J : σ → Heap → Prop) (lvf : σ → List (Nat × Value)) (h : ∀ a, Pre a → (∀ b, Pre b → μ b < μ a → mw_G p l e R s m args below meth c A nL Q (J b) ce sl pc (lvf b) st) → mw_G p l e R s m args below meth c A nL Q (J a) ce sl pc (lvf a) st) : ∀ a, Pre a → mw_G p l e R s m args below meth c A nL Q (J a) ce sl pc (lvf a) st := by
  have key : ∀ (n : Nat) (a : σ), μ a < n → Pre a → mw_G p l e R s m args below meth c A nL Q (J a) ce sl pc (lvf a) st := by
    intro n
    induction n with
    | zero => intro a ha; exact absurd ha (Nat.not_lt_zero _)
    | succ n ih => intro a ha hp; exact h a hp (fun b hb hlt => ih b (by omega) hb)
  intro a ha
  exact key (μ a + 1) a (Nat.lt_succ_self _) ha
theorem mw_lveq {I : Heap → Prop} {lv lv' : List (Nat × Value)} (h : lv = lv') (kk : mw_G p l e R s m args below meth c A nL Q I ce sl pc lv' st) : mw_G p l e R s m args below meth c A nL Q I ce sl pc lv st := h ▸ kk
theorem mw_steq {I : Heap → Prop} {lv : List (Nat × Value)} {st' : List Value} (h : st = st') (kk : mw_G p l e R s m args below meth c A nL Q I ce sl pc lv st') : mw_G p l e R s m args below meth c A nL Q I ce sl pc lv st := h ▸ kk
end PL
def mo_b (b : Bool) : Int32 := if b then nI 1 else nI 0
theorem mo_b_t : mo_b true = nI 1 := rfl
theorem mo_b_f : mo_b false = nI 0 := rfl
theorem mo_b_or (b : Bool) : mo_b b = 0 ∨ mo_b b = 1 := by cases b <;> decide
theorem mo_b_z {b : Bool} (h : mo_b b = 0) : b = false := by cases b; rfl; exact absurd h (by decide)
theorem mo_b_nz {b : Bool} (h : ¬ mo_b b = 0) : b = true := by cases b; exact absurd (by decide) h; rfl
end
section
/-! the walk's key rows: branches, fields, arrays, new cells, calls, returns -/
def mw_ob (Γ : mw_C) (a ci : Nat) (fs : List Value) (H : Heap) : Prop := va_at Γ.1 vwCl (a, .inr (ci, fs)) H
def mw_ia (Γ : mw_C) (a n : Nat) (f : Nat → Int32) (H : Heap) : Prop := H[a]? = some (arrV Γ.2.1.1 n (fun j => .int (f j)))
def mw_la (Γ : mw_C) (a n : Nat) (f : Nat → Int64) (H : Heap) : Prop := H[a]? = some (arrV Γ.2.1.2.1 n (fun j => .long (f j)))
def mw_ra (Γ : mw_C) (a n : Nat) (f : Nat → Option Nat) (H : Heap) : Prop := H[a]? = some (arrV Γ.2.1.2.2 n (fun j => va_rf (f j)))
/-- one cell has changed -/
def mw_one (a : Nat) (H H1 : Heap) : Prop := H1.size = H.size ∧ ∀ q : Nat, q ≠ a → H1[q]? = H[q]?
/-- one cell is new -/
def mw_new (h : Nat) (H H1 : Heap) : Prop := H.size = h ∧ H1.size = h + 1 ∧ ∀ q : Nat, q < h → H1[q]? = H[q]?
theorem mw_ob.kept {Γ : mw_C} {a ci : Nat} {fs : List Value} {H H1 : Heap} (h : mw_ob Γ a ci fs H) (hq : H1[a]? = H[a]?) : mw_ob Γ a ci fs H1 := va_at.kept h hq
theorem mw_ob.lt {Γ : mw_C} {a ci : Nat} {fs : List Value} {H : Heap} (h : mw_ob Γ a ci fs H) : a < H.size := va_at.lt h
theorem mw_ia.lt {Γ : mw_C} {a n : Nat} {f : Nat → Int32} {H : Heap} (h : mw_ia Γ a n f H) : a < H.size := (Array.getElem?_eq_some_iff.mp h).1
theorem mw_la.lt {Γ : mw_C} {a n : Nat} {f : Nat → Int64} {H : Heap} (h : mw_la Γ a n f H) : a < H.size := (Array.getElem?_eq_some_iff.mp h).1
theorem mw_ra.lt {Γ : mw_C} {a n : Nat} {f : Nat → Option Nat} {H : Heap} (h : mw_ra Γ a n f H) : a < H.size := (Array.getElem?_eq_some_iff.mp h).1
theorem mw_ia.kept {Γ : mw_C} {a n : Nat} {f : Nat → Int32} {H H1 : Heap} (h : mw_ia Γ a n f H) (hq : H1[a]? = H[a]?) : mw_ia Γ a n f H1 := hq.trans h
theorem mw_la.kept {Γ : mw_C} {a n : Nat} {f : Nat → Int64} {H H1 : Heap} (h : mw_la Γ a n f H) (hq : H1[a]? = H[a]?) : mw_la Γ a n f H1 := hq.trans h
theorem mw_ra.kept {Γ : mw_C} {a n : Nat} {f : Nat → Option Nat} {H H1 : Heap} (h : mw_ra Γ a n f H) (hq : H1[a]? = H[a]?) : mw_ra Γ a n f H1 := hq.trans h
theorem mw_one.S {A : Nat → Prop} {H0 H H1 : Heap} {locs : List Loc} {a k : Nat} (h : mw_one a H H1) (hS : va_S A H0 H locs) (ha : A a) : va_S A H0 H1 (locs ++ [⟨a, k⟩]) := hS.put h.1 h.2 ha
theorem mw_new.S {A : Nat → Prop} {H0 H H1 : Heap} {locs : List Loc} {h : Nat} (hn : mw_new h H H1) (hS : va_S A H0 H locs) : va_S A H0 H1 locs :=
  ⟨Nat.le_trans hS.1 (by rw [hn.1, hn.2.1]; exact Nat.le_succ h), fun x h1 h2 => (hn.2.2 x (by rw [← hn.1]; exact Nat.lt_of_lt_of_le h1 hS.1)).trans (hS.2.1 x h1 h2), hS.2.2⟩
/-- the words on a field's place: which class's object, which slot -/
def mw_Fl (own : String) (idx ci k : Nat) : Prop := ∃ (C : String) (T : u_T) (N : Nat), vwCl[ci]? = some (C, T, N) ∧ k < N ∧ (Cond.fieldLink own idx (T k).1 (T k).2.1 (T k).2.2.1 ∈ lw_tbl ∨ ∃ host, Cond.fieldLinkNest own idx (T k).1 (T k).2.1 (T k).2.2.1 host ∈ lw_tbl)
def mw_FlO (own : String) (idx ci k : Nat) : Prop := ∃ (C : String) (T : u_T) (N : Nat), vwCl[ci]? = some (C, T, N) ∧ k < N ∧ Cond.fieldLink own idx (T k).1 (T k).2.1 (T k).2.2.1 ∈ lw_tbl
/-- what the tables say of a class: its slots' words, types, names -/
def mw_Cl (ci : Nat) : Prop := ∀ (C : String) (T : u_T) (N : Nat), vwCl[ci]? = some (C, T, N) → (∀ w ∈ u_ws C T N, w ∈ lw_tbl) ∧ (∃ ty : Nat → FieldType, ∀ k, k < N → parseFieldDescriptor (T k).2.2.1 = some (ty k)) ∧ (∀ a, a < N → ∀ b, b < N → a ≠ b → (T a).2.1 ≠ (T b).2.1)
theorem mw_gw_lay (C : String) (T : u_T) (N : Nat) : ∀ w ∈ u_ws C T N, mw_gw w = true := by
  intro w hw
  obtain ⟨k, -, rfl⟩ := List.mem_map.mp hw
  unfold u_lay
  split <;> rfl
section KG
variable {Γ : mw_C} {p : Program} {l : Launch} {e : Env} {R : Room} {s : State} {m : MethodId} {args : Array Value} {below : List Frame} {meth : Method} {c : Code} {A : Nat → Prop} {Q : State → Prop} {I I1 : Heap → Prop} {ce sl pc : Nat} {d : mw_M} {P : List (Nat × Instr × Nat)} {lv : List (Nat × Value)} {rest : List Value}
theorem mw_if_eq (X : mw_Ok Γ p s m args meth c A d P) {x : Int32} {off : Int} (tgt : Nat) (ha : mw_at P pc = some (.ifCond .eq off, 3)) (ht : mw_tg pc off = some tgt) (kt : x = 0 → mw_G p l e R s m args below meth c A d.2.2.1 Q I ce sl tgt lv rest) (kf : ¬ x = 0 → mw_G p l e R s m args below meth c A d.2.2.1 Q I ce sl (pc + 3) lv rest) : mw_G p l e R s m args below meth c A d.2.2.1 Q I ce sl pc lv (.int x :: rest) :=
  fun H locs ls hI hS hl => lv_if_eq X.hx X.hb (X.hd ha) (mw_tg_ok ht) (fun h => kt h H locs ls hI hS hl) (fun h => kf h H locs ls hI hS hl)
theorem mw_icmp_eq (X : mw_Ok Γ p s m args meth c A d P) {x y : Int32} {off : Int} (tgt : Nat) (ha : mw_at P pc = some (.if_icmp .eq off, 3)) (ht : mw_tg pc off = some tgt) (kt : x = y → mw_G p l e R s m args below meth c A d.2.2.1 Q I ce sl tgt lv rest) (kf : ¬ x = y → mw_G p l e R s m args below meth c A d.2.2.1 Q I ce sl (pc + 3) lv rest) : mw_G p l e R s m args below meth c A d.2.2.1 Q I ce sl pc lv (.int y :: .int x :: rest) :=
  fun H locs ls hI hS hl => lv_icmp_eq X.hx X.hb (X.hd ha) (mw_tg_ok ht) (fun h => kt h H locs ls hI hS hl) (fun h => kf h H locs ls hI hS hl)
theorem mw_if_ne (X : mw_Ok Γ p s m args meth c A d P) {x : Int32} {off : Int} (tgt : Nat) (ha : mw_at P pc = some (.ifCond .ne off, 3)) (ht : mw_tg pc off = some tgt) (kt : ¬ x = 0 → mw_G p l e R s m args below meth c A d.2.2.1 Q I ce sl tgt lv rest) (kf : x = 0 → mw_G p l e R s m args below meth c A d.2.2.1 Q I ce sl (pc + 3) lv rest) : mw_G p l e R s m args below meth c A d.2.2.1 Q I ce sl pc lv (.int x :: rest) :=
  fun H locs ls hI hS hl => lv_if_ne X.hx X.hb (X.hd ha) (mw_tg_ok ht) (fun h => kt h H locs ls hI hS hl) (fun h => kf h H locs ls hI hS hl)
theorem mw_icmp_ne (X : mw_Ok Γ p s m args meth c A d P) {x y : Int32} {off : Int} (tgt : Nat) (ha : mw_at P pc = some (.if_icmp .ne off, 3)) (ht : mw_tg pc off = some tgt) (kt : ¬ x = y → mw_G p l e R s m args below meth c A d.2.2.1 Q I ce sl tgt lv rest) (kf : x = y → mw_G p l e R s m args below meth c A d.2.2.1 Q I ce sl (pc + 3) lv rest) : mw_G p l e R s m args below meth c A d.2.2.1 Q I ce sl pc lv (.int y :: .int x :: rest) :=
  fun H locs ls hI hS hl => lv_icmp_ne X.hx X.hb (X.hd ha) (mw_tg_ok ht) (fun h => kt h H locs ls hI hS hl) (fun h => kf h H locs ls hI hS hl)
theorem mw_if_lt (X : mw_Ok Γ p s m args meth c A d P) {x : Int32} {off : Int} (tgt : Nat) (ha : mw_at P pc = some (.ifCond .lt off, 3)) (ht : mw_tg pc off = some tgt) (kt : x < 0 → mw_G p l e R s m args below meth c A d.2.2.1 Q I ce sl tgt lv rest) (kf : ¬ x < 0 → mw_G p l e R s m args below meth c A d.2.2.1 Q I ce sl (pc + 3) lv rest) : mw_G p l e R s m args below meth c A d.2.2.1 Q I ce sl pc lv (.int x :: rest) :=
  fun H locs ls hI hS hl => lv_if_lt X.hx X.hb (X.hd ha) (mw_tg_ok ht) (fun h => kt h H locs ls hI hS hl) (fun h => kf h H locs ls hI hS hl)
theorem mw_icmp_lt (X : mw_Ok Γ p s m args meth c A d P) {x y : Int32} {off : Int} (tgt : Nat) (ha : mw_at P pc = some (.if_icmp .lt off, 3)) (ht : mw_tg pc off = some tgt) (kt : x < y → mw_G p l e R s m args below meth c A d.2.2.1 Q I ce sl tgt lv rest) (kf : ¬ x < y → mw_G p l e R s m args below meth c A d.2.2.1 Q I ce sl (pc + 3) lv rest) : mw_G p l e R s m args below meth c A d.2.2.1 Q I ce sl pc lv (.int y :: .int x :: rest) :=
  fun H locs ls hI hS hl => lv_icmp_lt X.hx X.hb (X.hd ha) (mw_tg_ok ht) (fun h => kt h H locs ls hI hS hl) (fun h => kf h H locs ls hI hS hl)
theorem mw_if_ge (X : mw_Ok Γ p s m args meth c A d P) {x : Int32} {off : Int} (tgt : Nat) (ha : mw_at P pc = some (.ifCond .ge off, 3)) (ht : mw_tg pc off = some tgt) (kt : 0 ≤ x → mw_G p l e R s m args below meth c A d.2.2.1 Q I ce sl tgt lv rest) (kf : ¬ 0 ≤ x → mw_G p l e R s m args below meth c A d.2.2.1 Q I ce sl (pc + 3) lv rest) : mw_G p l e R s m args below meth c A d.2.2.1 Q I ce sl pc lv (.int x :: rest) :=
  fun H locs ls hI hS hl => lv_if_ge X.hx X.hb (X.hd ha) (mw_tg_ok ht) (fun h => kt h H locs ls hI hS hl) (fun h => kf h H locs ls hI hS hl)
theorem mw_icmp_ge (X : mw_Ok Γ p s m args meth c A d P) {x y : Int32} {off : Int} (tgt : Nat) (ha : mw_at P pc = some (.if_icmp .ge off, 3)) (ht : mw_tg pc off = some tgt) (kt : y ≤ x → mw_G p l e R s m args below meth c A d.2.2.1 Q I ce sl tgt lv rest) (kf : ¬ y ≤ x → mw_G p l e R s m args below meth c A d.2.2.1 Q I ce sl (pc + 3) lv rest) : mw_G p l e R s m args below meth c A d.2.2.1 Q I ce sl pc lv (.int y :: .int x :: rest) :=
  fun H locs ls hI hS hl => lv_icmp_ge X.hx X.hb (X.hd ha) (mw_tg_ok ht) (fun h => kt h H locs ls hI hS hl) (fun h => kf h H locs ls hI hS hl)
theorem mw_if_gt (X : mw_Ok Γ p s m args meth c A d P) {x : Int32} {off : Int} (tgt : Nat) (ha : mw_at P pc = some (.ifCond .gt off, 3)) (ht : mw_tg pc off = some tgt) (kt : 0 < x → mw_G p l e R s m args below meth c A d.2.2.1 Q I ce sl tgt lv rest) (kf : ¬ 0 < x → mw_G p l e R s m args below meth c A d.2.2.1 Q I ce sl (pc + 3) lv rest) : mw_G p l e R s m args below meth c A d.2.2.1 Q I ce sl pc lv (.int x :: rest) :=
  fun H locs ls hI hS hl => lv_if_gt X.hx X.hb (X.hd ha) (mw_tg_ok ht) (fun h => kt h H locs ls hI hS hl) (fun h => kf h H locs ls hI hS hl)
theorem mw_icmp_gt (X : mw_Ok Γ p s m args meth c A d P) {x y : Int32} {off : Int} (tgt : Nat) (ha : mw_at P pc = some (.if_icmp .gt off, 3)) (ht : mw_tg pc off = some tgt) (kt : y < x → mw_G p l e R s m args below meth c A d.2.2.1 Q I ce sl tgt lv rest) (kf : ¬ y < x → mw_G p l e R s m args below meth c A d.2.2.1 Q I ce sl (pc + 3) lv rest) : mw_G p l e R s m args below meth c A d.2.2.1 Q I ce sl pc lv (.int y :: .int x :: rest) :=
  fun H locs ls hI hS hl => lv_icmp_gt X.hx X.hb (X.hd ha) (mw_tg_ok ht) (fun h => kt h H locs ls hI hS hl) (fun h => kf h H locs ls hI hS hl)
theorem mw_if_le (X : mw_Ok Γ p s m args meth c A d P) {x : Int32} {off : Int} (tgt : Nat) (ha : mw_at P pc = some (.ifCond .le off, 3)) (ht : mw_tg pc off = some tgt) (kt : x ≤ 0 → mw_G p l e R s m args below meth c A d.2.2.1 Q I ce sl tgt lv rest) (kf : ¬ x ≤ 0 → mw_G p l e R s m args below meth c A d.2.2.1 Q I ce sl (pc + 3) lv rest) : mw_G p l e R s m args below meth c A d.2.2.1 Q I ce sl pc lv (.int x :: rest) :=
  fun H locs ls hI hS hl => lv_if_le X.hx X.hb (X.hd ha) (mw_tg_ok ht) (fun h => kt h H locs ls hI hS hl) (fun h => kf h H locs ls hI hS hl)
theorem mw_icmp_le (X : mw_Ok Γ p s m args meth c A d P) {x y : Int32} {off : Int} (tgt : Nat) (ha : mw_at P pc = some (.if_icmp .le off, 3)) (ht : mw_tg pc off = some tgt) (kt : x ≤ y → mw_G p l e R s m args below meth c A d.2.2.1 Q I ce sl tgt lv rest) (kf : ¬ x ≤ y → mw_G p l e R s m args below meth c A d.2.2.1 Q I ce sl (pc + 3) lv rest) : mw_G p l e R s m args below meth c A d.2.2.1 Q I ce sl pc lv (.int y :: .int x :: rest) :=
  fun H locs ls hI hS hl => lv_icmp_le X.hx X.hb (X.hd ha) (mw_tg_ok ht) (fun h => kt h H locs ls hI hS hl) (fun h => kf h H locs ls hI hS hl)
theorem mw_ifnn (X : mw_Ok Γ p s m args meth c A d P) {x : Nat} {off : Int} (tgt : Nat) (ha : mw_at P pc = some (.ifnonnull off, 3)) (ht : mw_tg pc off = some tgt) (kt : mw_G p l e R s m args below meth c A d.2.2.1 Q I ce sl tgt lv rest) : mw_G p l e R s m args below meth c A d.2.2.1 Q I ce sl pc lv (.ref x :: rest) :=
  fun H locs ls hI hS hl => lv_ifnonnull X.hx X.hb (X.hd ha) (mw_tg_ok ht) (kt H locs ls hI hS hl)
theorem mw_ifnnN (X : mw_Ok Γ p s m args meth c A d P) {off : Int} (ha : mw_at P pc = some (.ifnonnull off, 3)) (kf : mw_G p l e R s m args below meth c A d.2.2.1 Q I ce sl (pc + 3) lv rest) : mw_G p l e R s m args below meth c A d.2.2.1 Q I ce sl pc lv (.null :: rest) :=
  fun H locs ls hI hS hl => lv_ifnonnullN X.hx X.hb (X.hd ha) (kf H locs ls hI hS hl)
theorem mw_tsIn (X : mw_Ok Γ p s m args meth c A d P) {x : Int32} (j : Nat) (hj : x = nI j) (hj2 : j < 2 ^ 31) {off dflt hi : Int} {offs : Array Int} {len : Nat} (tgt : Nat) (ha : mw_at P pc = some (.tableswitch dflt 0 hi offs, len)) (h2 : (j : Int) ≤ hi) (ho : offs[j]? = some off) (ht : mw_tg pc off = some tgt) (kt : mw_G p l e R s m args below meth c A d.2.2.1 Q I ce sl tgt lv rest) : mw_G p l e R s m args below meth c A d.2.2.1 Q I ce sl pc lv (.int x :: rest) :=
  fun H locs ls hI hS hl => lv_tableIn X.hx X.hb (X.hd ha) (by rw [hj, nI_toInt hj2]; omega) (by rw [hj, nI_toInt hj2]; omega) (by rw [hj, nI_toInt hj2]; simpa using ho) (mw_tg_ok ht) (kt H locs ls hI hS hl)
theorem mw_tsOut (X : mw_Ok Γ p s m args meth c A d P) {x : Int32} {dflt lo hi : Int} {offs : Array Int} {len : Nat} (tgt : Nat) (ha : mw_at P pc = some (.tableswitch dflt lo hi offs, len)) (h : x.toInt < lo ∨ hi < x.toInt) (ht : mw_tg pc dflt = some tgt) (kt : mw_G p l e R s m args below meth c A d.2.2.1 Q I ce sl tgt lv rest) : mw_G p l e R s m args below meth c A d.2.2.1 Q I ce sl pc lv (.int x :: rest) :=
  fun H locs ls hI hS hl => lv_tableOut X.hx X.hb (X.hd ha) h (mw_tg_ok ht) (kt H locs ls hI hS hl)
theorem mw_ldc (X : mw_Ok Γ p s m args meth c A d P) {idx : Nat} {v : Int32} (hw : Cond.constant d.1.cls idx v ∈ lw_tbl) (ha : mw_at P pc = some (.ldc idx, 2)) (kk : mw_G p l e R s m args below meth c A d.2.2.1 Q I ce sl (pc + 2) lv (.int v :: rest)) : mw_G p l e R s m args below meth c A d.2.2.1 Q I ce sl pc lv rest :=
  fun H locs ls hI hS hl => lv_ldc X.hx X.hb X.hown (X.hw hw rfl) (X.hd ha) (kk H locs ls hI hS hl)
theorem mw_ldc2 (X : mw_Ok Γ p s m args meth c A d P) {idx : Nat} {v : Int64} (hw : Cond.constantLong d.1.cls idx v ∈ lw_tbl) (ha : mw_at P pc = some (.ldc2_w idx, 3)) (kk : mw_G p l e R s m args below meth c A d.2.2.1 Q I ce sl (pc + 3) lv (.long v :: rest)) : mw_G p l e R s m args below meth c A d.2.2.1 Q I ce sl pc lv rest :=
  fun H locs ls hI hS hl => lv_ldc2 X.hx X.hb X.hown (X.hw hw rfl) (X.hd ha) (kk H locs ls hI hS hl)
theorem mw_idiv (X : mw_Ok Γ p s m args meth c A d P) {x y : Int32} (hne : ¬ y = 0) (ha : mw_at P pc = some (.idiv, 1)) (kk : mw_G p l e R s m args below meth c A d.2.2.1 Q I ce sl (pc + 1) lv (.int (x / y) :: rest)) : mw_G p l e R s m args below meth c A d.2.2.1 Q I ce sl pc lv (.int y :: .int x :: rest) :=
  fun H locs ls hI hS hl => lv_idiv X.hx X.hb (X.hd ha) hne (kk H locs ls hI hS hl)
theorem mw_irem (X : mw_Ok Γ p s m args meth c A d P) {x y : Int32} (hne : ¬ y = 0) (ha : mw_at P pc = some (.irem, 1)) (kk : mw_G p l e R s m args below meth c A d.2.2.1 Q I ce sl (pc + 1) lv (.int (x - x / y * y) :: rest)) : mw_G p l e R s m args below meth c A d.2.2.1 Q I ce sl pc lv (.int y :: .int x :: rest) :=
  fun H locs ls hI hS hl => lv_irem X.hx X.hb (X.hd ha) hne (kk H locs ls hI hS hl)
theorem mw_lrem (X : mw_Ok Γ p s m args meth c A d P) {x y : Int64} (hne : ¬ y = 0) (ha : mw_at P pc = some (.lrem, 1)) (kk : mw_G p l e R s m args below meth c A d.2.2.1 Q I ce sl (pc + 1) lv (.long (x - x / y * y) :: rest)) : mw_G p l e R s m args below meth c A d.2.2.1 Q I ce sl pc lv (.long y :: .long x :: rest) :=
  fun H locs ls hI hS hl => lv_lrem X.hx X.hb (X.hd ha) hne (kk H locs ls hI hS hl)
/-- another name for the number on top -/
theorem mw_top {x y : Int32} (h : x = y) (kk : mw_G p l e R s m args below meth c A d.2.2.1 Q I ce sl pc lv (.int y :: rest)) : mw_G p l e R s m args below meth c A d.2.2.1 Q I ce sl pc lv (.int x :: rest) := by rw [h]; exact kk
theorem mw_top2 {x y : Int32} {v : Value} (h : x = y) (kk : mw_G p l e R s m args below meth c A d.2.2.1 Q I ce sl pc lv (v :: .int y :: rest)) : mw_G p l e R s m args below meth c A d.2.2.1 Q I ce sl pc lv (v :: .int x :: rest) := by rw [h]; exact kk
theorem mw_get (X : mw_Ok Γ p s m args meth c A d P) {idx ci k a : Nat} {v : Value} (hF : mw_Fl d.1.cls idx ci k) (hC : mw_Cl ci) (ha : mw_at P pc = some (.getfield idx, 3)) (hI : ∀ H, I H → ∃ fs, mw_ob Γ a ci fs H ∧ fs[k]? = some v) (kk : mw_G p l e R s m args below meth c A d.2.2.1 Q I ce sl (pc + 3) lv (v :: rest)) : mw_G p l e R s m args below meth c A d.2.2.1 Q I ce sl pc lv (.ref a :: rest) := by
  intro H locs ls hH hS hl
  obtain ⟨fs, h1, hv⟩ := hI H hH
  obtain ⟨Cn, T, N, hc, hk, hw⟩ := hF
  obtain ⟨hin, -, -⟩ := hC Cn T N hc
  have hin' : ∀ w ∈ u_ws Cn T N, w.before args s = true := fun w hw => X.hw (hin w hw) (mw_gw_lay Cn T N w hw)
  have hP : va_P Γ.1 vwCl [(a, .inr (ci, fs))] H := fun j q hq => by
    have hz : j < 1 := (List.getElem?_eq_some_iff.mp hq).1
    rw [show j = 0 by omega] at hq
    cases hq
    exact h1
  rcases hw with hw | ⟨host, hw⟩
  · exact va_get X.hx X.hb hin' (fun _ h => h) X.hown X.hK.2.1 hP 0 rfl hc k hk (X.hw hw rfl) (fun _ h => h) hv (X.hd ha) (kk H locs ls hH hS hl)
  · exact va_getN X.hx X.hb hin' (fun _ h => h) X.hown X.hK.2.1 hP 0 rfl hc k hk (X.hw hw rfl) (fun _ h => h) hv (X.hd ha) (kk H locs ls hH hS hl)
/-- what a slot may take -/
def mw_fit (ci k : Nat) (fin : Bool) (v : Value) : Prop := ∃ (C : String) (T : u_T) (N : Nat) (ty : FieldType), vwCl[ci]? = some (C, T, N) ∧ (T k).2.2.2 = fin ∧ parseFieldDescriptor (T k).2.2.1 = some ty ∧ narrow ty v = v ∧ fits ty v = true
set_option maxHeartbeats 1000000 in
theorem mw_put (X : mw_Ok Γ p s m args meth c A d P) {idx ci k a : Nat} {v : Value} (hF : mw_Fl d.1.cls idx ci k) (hC : mw_Cl ci) (hft : mw_fit ci k false v) (ha : mw_at P pc = some (.putfield idx, 3)) (hI : ∀ H, I H → A a ∧ ∃ fs, mw_ob Γ a ci fs H ∧ k < fs.length ∧ ∀ H1, mw_one a H H1 → mw_ob Γ a ci (fs.set k v) H1 → I1 H1) (kk : mw_G p l e R s m args below meth c A d.2.2.1 Q I1 ce sl (pc + 3) lv rest) : mw_G p l e R s m args below meth c A d.2.2.1 Q I ce sl pc lv (v :: .ref a :: rest) := by
  intro H locs ls hH hS0 hl
  obtain ⟨hAa, fs, h1, hlen, hI1⟩ := hI H hH
  obtain ⟨Cn, T, N, hc, hk, hw⟩ := hF
  obtain ⟨hin, ⟨ty0, hty⟩, hnm⟩ := hC Cn T N hc
  obtain ⟨Cn2, T2, N2, ty, hc2, hfin, hd, hn, hfit⟩ := hft
  have he : (Cn2, T2, N2) = (Cn, T, N) := Option.some.inj (hc2.symm.trans hc)
  cases he
  have hin' : ∀ w ∈ u_ws Cn T N, w.before args s = true := fun w hw => X.hw (hin w hw) (mw_gw_lay Cn T N w hw)
  have hap := va_apart (own := d.1.cls) hin' (fun _ h => h) ty0 hty hnm X.hK.2.1 hc
  obtain ⟨r, h2, cell, q1, q2, q3, q4⟩ := h1
  have hr : r = (Cn, T, N) := Option.some.inj (h2.symm.trans hc)
  subst hr
  obtain ⟨hS, hfc, kC, hkC, hkind⟩ := X.hK.2.1.1 ci _ hc
  obtain ⟨cf, kf, fi, f, hi, hsl⟩ := hS k hk
  have hlay := hin' _ (u_in_lay hk)
  unfold u_lay at hlay
  rw [if_neg (by rw [hfin]; decide)] at hlay
  have hst := (u_facts hfc hkC (u_lays hin' (fun _ h => h) hk) hi).1
  have h6 := u_store hfc hkC hkind hlay hi hd hn hfit
  have fin : ∀ H' : Heap, H'[a]? = some (cell.setSlot f.slot v) → H'.size = H.size → (∀ q, q ≠ a → H'[q]? = H[q]?) → W p l e R s m args below meth c H' (locs ++ [⟨a, f.slot⟩]) ce sl Q (F0 m (pc + 3) ls rest) := fun H' e1 e2 e3 => by
    rw [hsl] at e1 ⊢
    have hone : mw_one a H H' := ⟨e2, e3⟩
    refine kk H' _ ls (hI1 H' hone ⟨_, hc, t_OB.to (V := updV (vp_V fs) k v) ⟨_, e1, q2, q3, t_set q4 hap hk v⟩ (fun j _ => vp_updV_set hlen v j)⟩) (hone.S hS0 hAa) hl
  rcases hw with hw | ⟨host, hw⟩
  · exact W.putK X.hx X.hb (f := f) ⟨X.hown, X.hw hw rfl, ⟨_, _, _, hi⟩, hst⟩ (by rw [q2]; exact h6) q1 q3 (by rw [hsl]; exact k2_hasslot (q4 k hk)) rfl rfl (X.hd ha) fin
  · exact va_WputK X.hx X.hb (f := f) X.hown (X.hw hw rfl) hi hst (by rw [q2]; exact h6) q1 q3 (by rw [hsl]; exact k2_hasslot (q4 k hk)) rfl rfl (X.hd ha) fin
set_option maxHeartbeats 1000000 in
theorem mw_putF (X : mw_Ok Γ p s m args meth c A d P) {idx ci k a : Nat} {v : Value} (hF : mw_FlO d.1.cls idx ci k) (hC : mw_Cl ci) (hft : mw_fit ci k true v) (hini : d.1.name = "<init>") (hdecl : ∀ (C : String) (T : u_T) (N : Nat), vwCl[ci]? = some (C, T, N) → (T k).1 = d.1.cls) (ha : mw_at P pc = some (.putfield idx, 3)) (hI : ∀ H, I H → A a ∧ ∃ fs, mw_ob Γ a ci fs H ∧ k < fs.length ∧ ∀ H1, mw_one a H H1 → mw_ob Γ a ci (fs.set k v) H1 → I1 H1) (kk : mw_G p l e R s m args below meth c A d.2.2.1 Q I1 ce sl (pc + 3) lv rest) : mw_G p l e R s m args below meth c A d.2.2.1 Q I ce sl pc lv (v :: .ref a :: rest) := by
  intro H locs ls hH hS0 hl
  obtain ⟨hAa, fs, h1, hlen, hI1⟩ := hI H hH
  obtain ⟨Cn, T, N, hc, hk, hw⟩ := hF
  obtain ⟨hin, ⟨ty0, hty⟩, hnm⟩ := hC Cn T N hc
  obtain ⟨Cn2, T2, N2, ty, hc2, hfin, hd, hn, hfit⟩ := hft
  have he : (Cn2, T2, N2) = (Cn, T, N) := Option.some.inj (hc2.symm.trans hc)
  cases he
  have hin' : ∀ w ∈ u_ws Cn T N, w.before args s = true := fun w hw => X.hw (hin w hw) (mw_gw_lay Cn T N w hw)
  have hap := va_apart (own := d.1.cls) hin' (fun _ h => h) ty0 hty hnm X.hK.2.1 hc
  obtain ⟨r, h2, cell, q1, q2, q3, q4⟩ := h1
  have hr : r = (Cn, T, N) := Option.some.inj (h2.symm.trans hc)
  subst hr
  obtain ⟨hS, hfc, kC, hkC, hkind⟩ := X.hK.2.1.1 ci _ hc
  obtain ⟨cf, kf, fi, f, hi, hsl⟩ := hS k hk
  have hlay := hin' _ (u_in_lay hk)
  unfold u_lay at hlay
  rw [if_pos hfin] at hlay
  have hst := (u_facts hfc hkC (u_lays hin' (fun _ h => h) hk) hi).1
  have hcf : m.cls = cf := by
    obtain ⟨_, _, c', _, _, _, -, -, hf', -, -, -, hown2, -⟩ := Cond.laysFinal_spec hlay
    have e1 : c' = cf := by have := hi.symm.trans hf'; simp at this; exact this.1.symm
    rw [hdecl _ _ _ hc] at hown2
    rw [← e1]; exact Option.some.inj (X.hown.symm.trans hown2)
  have h6 := u_fits hfc hkC hkind (Or.inr hlay) hi hd hn hfit
  refine W.putFinK X.hx X.hb X.hown (X.hw hw rfl) hi hst hcf (X.hn.trans hini) (by rw [q2]; exact h6) q1 q3 (by rw [hsl]; exact k2_hasslot (q4 k hk)) rfl rfl (X.hd ha) fun H' e1 e2 e3 => ?_
  rw [hsl] at e1 ⊢
  have hone : mw_one a H H' := ⟨e2, e3⟩
  exact kk H' _ ls (hI1 H' hone ⟨_, hc, t_OB.to (V := updV (vp_V fs) k v) ⟨_, e1, q2, q3, t_set q4 hap hk v⟩ (fun j _ => vp_updV_set hlen v j)⟩) (hone.S hS0 hAa) hl
end KG
end
section
/-! arrays, new cells, calls, returns -/
theorem mw_updI (f : Nat → Int32) (k : Nat) (x : Int32) : updV (fun j => Value.int (f j)) k (.int x) = fun j => .int (upd f k x j) := by
  funext j
  by_cases h : j = k <;> simp [updV, upd, h]
theorem mw_updL (f : Nat → Int64) (k : Nat) (x : Int64) : updV (fun j => Value.long (f j)) k (.long x) = fun j => .long (vp_updL f k x j) := by
  funext j
  by_cases h : j = k <;> simp [updV, vp_updL, h]
theorem mw_updQ (f : Nat → Option Nat) (k : Nat) (x : Nat) : updV (fun j => va_rf (f j)) k (.ref x) = fun j => va_rf (va_up f k (some x) j) := by
  funext j
  by_cases h : j = k <;> simp [updV, va_up, va_rf, h]
section KA
variable {Γ : mw_C} {p : Program} {l : Launch} {e : Env} {R : Room} {s : State} {m : MethodId} {args : Array Value} {below : List Frame} {meth : Method} {c : Code} {A : Nat → Prop} {Q : State → Prop} {I I1 : Heap → Prop} {ce sl pc : Nat} {d : mw_M} {P : List (Nat × Instr × Nat)} {lv : List (Nat × Value)} {rest : List Value}
theorem mw_iald (X : mw_Ok Γ p s m args meth c A d P) {a : Nat} {i : Int32} {v : Int32} (j : Nat) (hi : i = nI j) (ha : mw_at P pc = some (.iaload, 1)) (hI : ∀ H, I H → ∃ n f, mw_ia Γ a n f H ∧ j < n ∧ n ≤ 100000 ∧ f j = v) (kk : mw_G p l e R s m args below meth c A d.2.2.1 Q I ce sl (pc + 1) lv (.int v :: rest)) : mw_G p l e R s m args below meth c A d.2.2.1 Q I ce sl pc lv (.int i :: .ref a :: rest) := by
  intro H locs ls hH hS hl
  obtain ⟨n, f, h1, hj, hn, rfl⟩ := hI H hH
  subst hi
  have hcl : (nI j).toNatClampNeg = j := nI_clamp (by omega)
  refine W.iald X.hx X.hb h1 ((X.hK.2.1.2 0 _ rfl).1 n _) (fun q => by cases q) (by rw [arrV_size]; exact nI_in hj (by omega)) (v := .int (f j)) (by rw [hcl, arrV_read _ _ hj]) rfl rfl (X.hd ha) (kk H locs ls hH hS hl)
theorem mw_iast (X : mw_Ok Γ p s m args meth c A d P) {a : Nat} {i : Int32} {x : Int32} (j : Nat) (hi : i = nI j) (ha : mw_at P pc = some (.iastore, 1)) (hI : ∀ H, I H → A a ∧ ∃ n f, mw_ia Γ a n f H ∧ j < n ∧ n ≤ 100000 ∧ ∀ H1, mw_one a H H1 → mw_ia Γ a n (upd f j x) H1 → I1 H1) (kk : mw_G p l e R s m args below meth c A d.2.2.1 Q I1 ce sl (pc + 1) lv rest) : mw_G p l e R s m args below meth c A d.2.2.1 Q I ce sl pc lv (.int x :: .int i :: .ref a :: rest) := by
  intro H locs ls hH hS hl
  obtain ⟨hA, n, f, h1, hj, hn, h2⟩ := hI H hH
  subst hi
  have hcl : (nI j).toNatClampNeg = j := nI_clamp (by omega)
  refine W.iast X.hx X.hb h1 ((X.hK.2.1.2 0 _ rfl).1 n _) (fun q => by cases q) (by rw [arrV_size]; exact nI_in hj (by omega)) rfl rfl (X.hd ha) (fun H1 e1 e2 e3 => ?_)
  rw [hcl, arrV_store, mw_updI] at e1
  have hone : mw_one a H H1 := ⟨e2, e3⟩
  exact kk H1 _ ls (h2 H1 hone e1) (hone.S hS hA) hl
theorem mw_lald (X : mw_Ok Γ p s m args meth c A d P) {a : Nat} {i : Int32} {v : Int64} (j : Nat) (hi : i = nI j) (ha : mw_at P pc = some (.laload, 1)) (hI : ∀ H, I H → ∃ n f, mw_la Γ a n f H ∧ j < n ∧ n ≤ 100000 ∧ f j = v) (kk : mw_G p l e R s m args below meth c A d.2.2.1 Q I ce sl (pc + 1) lv (.long v :: rest)) : mw_G p l e R s m args below meth c A d.2.2.1 Q I ce sl pc lv (.int i :: .ref a :: rest) := by
  intro H locs ls hH hS hl
  obtain ⟨n, f, h1, hj, hn, rfl⟩ := hI H hH
  subst hi
  have hcl : (nI j).toNatClampNeg = j := nI_clamp (by omega)
  refine W.lald X.hx X.hb h1 ((X.hK.2.1.2 1 _ rfl).1 n _) (fun q => by cases q) (by rw [arrV_size]; exact nI_in hj (by omega)) (v := .long (f j)) (by rw [hcl, arrV_read _ _ hj]) rfl rfl (X.hd ha) (kk H locs ls hH hS hl)
theorem mw_last (X : mw_Ok Γ p s m args meth c A d P) {a : Nat} {i : Int32} {x : Int64} (j : Nat) (hi : i = nI j) (ha : mw_at P pc = some (.lastore, 1)) (hI : ∀ H, I H → A a ∧ ∃ n f, mw_la Γ a n f H ∧ j < n ∧ n ≤ 100000 ∧ ∀ H1, mw_one a H H1 → mw_la Γ a n (vp_updL f j x) H1 → I1 H1) (kk : mw_G p l e R s m args below meth c A d.2.2.1 Q I1 ce sl (pc + 1) lv rest) : mw_G p l e R s m args below meth c A d.2.2.1 Q I ce sl pc lv (.long x :: .int i :: .ref a :: rest) := by
  intro H locs ls hH hS hl
  obtain ⟨hA, n, f, h1, hj, hn, h2⟩ := hI H hH
  subst hi
  have hcl : (nI j).toNatClampNeg = j := nI_clamp (by omega)
  refine W.last X.hx X.hb h1 ((X.hK.2.1.2 1 _ rfl).1 n _) (fun q => by cases q) (by rw [arrV_size]; exact nI_in hj (by omega)) rfl rfl (X.hd ha) (fun H1 e1 e2 e3 => ?_)
  rw [hcl, arrV_store, mw_updL] at e1
  have hone : mw_one a H H1 := ⟨e2, e3⟩
  exact kk H1 _ ls (h2 H1 hone e1) (hone.S hS hA) hl
theorem mw_aald (X : mw_Ok Γ p s m args meth c A d P) {a : Nat} {i : Int32} {v : Option Nat} (j : Nat) (hi : i = nI j) (ha : mw_at P pc = some (.aaload, 1)) (hI : ∀ H, I H → ∃ n f, mw_ra Γ a n f H ∧ j < n ∧ n ≤ 100000 ∧ f j = v) (kk : mw_G p l e R s m args below meth c A d.2.2.1 Q I ce sl (pc + 1) lv (va_rf v :: rest)) : mw_G p l e R s m args below meth c A d.2.2.1 Q I ce sl pc lv (.int i :: .ref a :: rest) := by
  intro H locs ls hH hS hl
  obtain ⟨n, f, h1, hj, hn, rfl⟩ := hI H hH
  subst hi
  have hcl : (nI j).toNatClampNeg = j := nI_clamp (by omega)
  refine W.aald X.hx X.hb h1 ((X.hK.2.1.2 2 _ rfl).1 n _) rfl (fun q => by cases q) (by rw [arrV_size]; exact nI_in hj (by omega)) (v := va_rf (f j)) (by rw [hcl, arrV_read _ _ hj]) rfl rfl (X.hd ha) (kk H locs ls hH hS hl)
theorem mw_aast (X : mw_Ok Γ p s m args meth c A d P) {a v : Nat} {i : Int32} (j : Nat) (hi : i = nI j) (ha : mw_at P pc = some (.aastore, 1)) (hI : ∀ H, I H → A a ∧ (∃ fs, mw_ob Γ v 3 fs H) ∧ ∃ n f, mw_ra Γ a n f H ∧ j < n ∧ n ≤ 100000 ∧ ∀ H1, mw_one a H H1 → mw_ra Γ a n (va_up f j (some v)) H1 → I1 H1) (kk : mw_G p l e R s m args below meth c A d.2.2.1 Q I1 ce sl (pc + 1) lv rest) : mw_G p l e R s m args below meth c A d.2.2.1 Q I ce sl pc lv (.ref v :: .int i :: .ref a :: rest) := by
  intro H locs ls hH hS hl
  obtain ⟨hA, ⟨fs, hv⟩, n, f, h1, hj, hn, h2⟩ := hI H hH
  subst hi
  have hcl : (nI j).toNatClampNeg = j := nI_clamp (by omega)
  obtain ⟨r', hr', cellV, g1, g2, g3, -⟩ := hv
  have hc : vwCl[3]? = some (RX3, TX3, 15) := rfl
  have hcls := (X.hK.2.1.1 3 _ hc).2
  obtain ⟨kA, comp, k1, k2, k3, -⟩ := (X.hK.2.1.2 2 _ rfl).2
  have hcomp : comp = Γ.1.1 3 := Option.some.inj (k3.symm.trans hcls.1)
  subst hcomp
  obtain ⟨kC, hkC, -⟩ := hcls.2
  refine W.aast X.hx X.hb h1 (fun q h => by cases h) (fun h => by cases h) k1 k2 rfl hkC ⟨nI_pos (by omega), by rw [arrV_size, hcl]; exact hj⟩ g1 (fun q h => by rw [g3] at h; cases h) (by rw [g2]; exact hkC) (by rw [g2]; exact va_assign hcls) rfl rfl (X.hd ha) fun H1 e1 e2 e3 => ?_
  rw [hcl, arrV_store, mw_updQ] at e1
  have hone : mw_one a H H1 := ⟨e2, e3⟩
  exact kk H1 _ ls (h2 H1 hone e1) (hone.S hS hA) hl
theorem mw_ilen (X : mw_Ok Γ p s m args meth c A d P) {a : Nat} (n : Nat) (ha : mw_at P pc = some (.arraylength, 1)) (hI : ∀ H, I H → ∃ f, mw_ia Γ a n f H) (kk : mw_G p l e R s m args below meth c A d.2.2.1 Q I ce sl (pc + 1) lv (.int (nI n) :: rest)) : mw_G p l e R s m args below meth c A d.2.2.1 Q I ce sl pc lv (.ref a :: rest) := by
  intro H locs ls hH hS hl
  obtain ⟨f, h1⟩ := hI H hH
  exact W.alen (n := nI n) X.hx X.hb h1 ((X.hK.2.1.2 0 _ rfl).1 n _) (by rw [arrV_size]; rfl) rfl rfl (X.hd ha) (kk H locs ls hH hS hl)
theorem mw_llen (X : mw_Ok Γ p s m args meth c A d P) {a : Nat} (n : Nat) (ha : mw_at P pc = some (.arraylength, 1)) (hI : ∀ H, I H → ∃ f, mw_la Γ a n f H) (kk : mw_G p l e R s m args below meth c A d.2.2.1 Q I ce sl (pc + 1) lv (.int (nI n) :: rest)) : mw_G p l e R s m args below meth c A d.2.2.1 Q I ce sl pc lv (.ref a :: rest) := by
  intro H locs ls hH hS hl
  obtain ⟨f, h1⟩ := hI H hH
  exact W.alen (n := nI n) X.hx X.hb h1 ((X.hK.2.1.2 1 _ rfl).1 n _) (by rw [arrV_size]; rfl) rfl rfl (X.hd ha) (kk H locs ls hH hS hl)
theorem mw_rlen (X : mw_Ok Γ p s m args meth c A d P) {a : Nat} (n : Nat) (ha : mw_at P pc = some (.arraylength, 1)) (hI : ∀ H, I H → ∃ f, mw_ra Γ a n f H) (kk : mw_G p l e R s m args below meth c A d.2.2.1 Q I ce sl (pc + 1) lv (.int (nI n) :: rest)) : mw_G p l e R s m args below meth c A d.2.2.1 Q I ce sl pc lv (.ref a :: rest) := by
  intro H locs ls hH hS hl
  obtain ⟨f, h1⟩ := hI H hH
  exact W.alen (n := nI n) X.hx X.hb h1 ((X.hK.2.1.2 2 _ rfl).1 n _) (by rw [arrV_size]; rfl) rfl rfl (X.hd ha) (kk H locs ls hH hS hl)
theorem mw_gets (X : mw_Ok Γ p s m args meth c A d P) (hown : d.1.cls = "MovedWays$Ways") (hw : Cond.fieldLinkNest "MovedWays$Ways" 163 "MovedWays" "SIZES" "[I" "MovedWays" ∈ lw_tbl) (ha : mw_at P pc = some (.getstatic 163, 3)) (kk : mw_G p l e R s m args below meth c A d.2.2.1 Q I ce sl (pc + 3) lv (.ref Γ.2.2.1 :: rest)) : mw_G p l e R s m args below meth c A d.2.2.1 Q I ce sl pc lv rest := by
  intro H locs ls hH hS hl
  exact va_getsN X.hx X.hb (X.hK.2.2.1.narrow X.hA) hS (by rw [← hown]; exact X.hown) (X.hw hw rfl) (fun _ h => h) (X.hd ha) (kk H locs ls hH hS hl)
theorem mw_szlen (X : mw_Ok Γ p s m args meth c A d P) (ha : mw_at P pc = some (.arraylength, 1)) (kk : mw_G p l e R s m args below meth c A d.2.2.1 Q I ce sl (pc + 1) lv (.int (nI 6) :: rest)) : mw_G p l e R s m args below meth c A d.2.2.1 Q I ce sl pc lv (.ref Γ.2.2.1 :: rest) := by
  intro H locs ls hH hS hl
  obtain ⟨cell, h1, h2, h3, h4, h5, h6, h7⟩ := (X.hK.2.2.2.1.narrow X.hA).kept hS.2.1
  exact W.alen (n := nI 6) X.hx X.hb h1 h2 h5 rfl rfl (X.hd ha) (kk H locs ls hH hS hl)
theorem mw_szld (X : mw_Ok Γ p s m args meth c A d P) {i : Int32} (j : Nat) (hi : i = nI j) (hj : j < 6) (ha : mw_at P pc = some (.iaload, 1)) (kk : mw_G p l e R s m args below meth c A d.2.2.1 Q I ce sl (pc + 1) lv (.int (mw_sz j) :: rest)) : mw_G p l e R s m args below meth c A d.2.2.1 Q I ce sl pc lv (.int i :: .ref Γ.2.2.1 :: rest) := by
  intro H locs ls hH hS hl
  obtain ⟨cell, h1, h2, h3, h4, h5, h6, h7⟩ := (X.hK.2.2.2.1.narrow X.hA).kept hS.2.1
  subst hi
  have hcl : (nI j).toNatClampNeg = j := nI_clamp (by omega)
  refine W.iald X.hx X.hb h1 h2 h3 ?_ (v := .int (mw_sz j)) (by rw [hcl]; exact h6 j hj) rfl rfl (X.hd ha) (kk H locs ls hH hS hl)
  rw [hcl]
  rintro (h | h)
  · exact nI_pos (by omega) h
  · omega
theorem mw_newo (X : mw_Ok Γ p s m args meth c A d P) {idx ci : Nat} {C : String} {T : u_T} {N : Nat} {ty : Nat → FieldType} (fs : List Value) (hc : vwCl[ci]? = some (C, T, N)) (hC : mw_Cl ci) (hl : Cond.classLink d.1.cls idx C ∈ lw_tbl) (hin : Cond.instantiable C N ∈ lw_tbl) (hini : Cond.initialized C ∈ lw_tbl) (hty : ∀ k, k < N → parseFieldDescriptor (T k).2.2.1 = some (ty k)) (hfs : ∀ j, j < N → defaultValue (ty j) = vp_V fs j) (hcap : ce + 1 ≤ R.cells ∧ sl + N ≤ R.slots) (ha : mw_at P pc = some (.new idx, 3)) {h : Nat} (hI : ∀ H, I H → H.size = h ∧ ∀ H1, mw_new h H H1 → mw_ob Γ h ci fs H1 → I1 H1) (kk : mw_G p l e R s m args below meth c A d.2.2.1 Q I1 (ce + 1) (sl + N) (pc + 3) lv (.ref h :: rest)) : mw_G p l e R s m args below meth c A d.2.2.1 Q I ce sl pc lv rest := by
  intro H locs ls hH hS hl2
  obtain ⟨hh, h1⟩ := hI H hH
  obtain ⟨hin1, -, -⟩ := hC C T N hc
  have hin' : ∀ w ∈ u_ws C T N, w.before args s = true := fun w hw => X.hw (hin1 w hw) (mw_gw_lay C T N w hw)
  have hKn := X.hK.2.1.1 ci _ hc
  refine W.newcK X.hx X.hb X.hown (X.hw hl rfl) (X.hw hin rfl) (X.hw hini rfl) rfl (X.hd ha) hcap.1 hcap.2 hKn.2.1 hh fun H1 kC hkC e1 z1 o1 => ?_
  have hnew : mw_new h H H1 := ⟨hh, z1, o1⟩
  exact kk H1 _ ls (h1 H1 hnew ⟨_, hc, (u_born ty hin' (fun _ h => h) hKn hkC e1 hty).to hfs⟩) (hnew.S hS) hl2
theorem mw_newi (X : mw_Ok Γ p s m args meth c A d P) {i : Int32} (n : Nat) (hi : i = nI n) (hn : n ≤ 60000) (hw : Cond.arrayClass .int ∈ lw_tbl) (hcap : ce + 1 ≤ R.cells ∧ sl + n ≤ R.slots) (ha : mw_at P pc = some (.newarray .int, 2)) {h : Nat} (hI : ∀ H, I H → H.size = h ∧ ∀ H1, mw_new h H H1 → mw_ia Γ h n (fun _ => 0) H1 → I1 H1) (kk : mw_G p l e R s m args below meth c A d.2.2.1 Q I1 (ce + 1) (sl + n) (pc + 2) lv (.ref h :: rest)) : mw_G p l e R s m args below meth c A d.2.2.1 Q I ce sl pc lv (.int i :: rest) := by
  intro H locs ls hH hS hl2
  obtain ⟨hh, h1⟩ := hI H hH
  subst hi
  refine va_newaK (atype := .int) X.hx X.hb (X.hw hw rfl) rfl (X.hd ha) rfl (nI_pos (by omega)) (nI_clamp (by omega)) (by show n * _ ≤ _; simp only [newarray.typeOf, componentBytes]; omega) hcap.1 hcap.2 hh fun H1 cA e1 z1 o1 hAr hNm => ?_
  have hcA : cA = Γ.2.1.1 := Option.some.inj (hNm.symm.trans (X.hK.2.1.2 0 _ rfl).2)
  subst hcA
  have hnew : mw_new h H H1 := ⟨hh, z1, o1⟩
  exact kk H1 _ ls (h1 H1 hnew e1) (hnew.S hS) hl2
theorem mw_newl (X : mw_Ok Γ p s m args meth c A d P) {i : Int32} (n : Nat) (hi : i = nI n) (hn : n ≤ 60000) (hw : Cond.arrayClass .long ∈ lw_tbl) (hcap : ce + 1 ≤ R.cells ∧ sl + n ≤ R.slots) (ha : mw_at P pc = some (.newarray .long, 2)) {h : Nat} (hI : ∀ H, I H → H.size = h ∧ ∀ H1, mw_new h H H1 → mw_la Γ h n (fun _ => 0) H1 → I1 H1) (kk : mw_G p l e R s m args below meth c A d.2.2.1 Q I1 (ce + 1) (sl + n) (pc + 2) lv (.ref h :: rest)) : mw_G p l e R s m args below meth c A d.2.2.1 Q I ce sl pc lv (.int i :: rest) := by
  intro H locs ls hH hS hl2
  obtain ⟨hh, h1⟩ := hI H hH
  subst hi
  refine va_newaK (atype := .long) X.hx X.hb (X.hw hw rfl) rfl (X.hd ha) rfl (nI_pos (by omega)) (nI_clamp (by omega)) (by show n * _ ≤ _; simp only [newarray.typeOf, componentBytes]; omega) hcap.1 hcap.2 hh fun H1 cA e1 z1 o1 hAr hNm => ?_
  have hcA : cA = Γ.2.1.2.1 := Option.some.inj (hNm.symm.trans (X.hK.2.1.2 1 _ rfl).2)
  subst hcA
  have hnew : mw_new h H H1 := ⟨hh, z1, o1⟩
  exact kk H1 _ ls (h1 H1 hnew e1) (hnew.S hS) hl2
theorem mw_newr (X : mw_Ok Γ p s m args meth c A d P) {i : Int32} {idx : Nat} (n : Nat) (hi : i = nI n) (hn : n ≤ 60000) (hl : Cond.classLink d.1.cls idx "MovedWays$Ways" ∈ lw_tbl) (hcap : ce + 1 ≤ R.cells ∧ sl + n ≤ R.slots) (ha : mw_at P pc = some (.anewarray idx, 3)) {h : Nat} (hI : ∀ H, I H → H.size = h ∧ ∀ H1, mw_new h H H1 → mw_ra Γ h n (fun _ => none) H1 → I1 H1) (kk : mw_G p l e R s m args below meth c A d.2.2.1 Q I1 (ce + 1) (sl + n) (pc + 3) lv (.ref h :: rest)) : mw_G p l e R s m args below meth c A d.2.2.1 Q I ce sl pc lv (.int i :: rest) := by
  intro H locs ls hH hS hl2
  obtain ⟨hh, h1⟩ := hI H hH
  subst hi
  have hcl : (nI n).toNatClampNeg = n := nI_clamp (by omega)
  refine W.anew X.hx X.hb X.hown (X.hw hl rfl) (va_AO.use X.hK.2.2.2.2) rfl (X.hd ha) rfl (nI_pos (by omega)) (by rw [hcl]; omega) hcap.1 (by rw [hcl]; exact hcap.2) fun cA kA comp f1 f2 f3 f4 => ?_
  rw [hcl]
  generalize hH1 : H.push ({ cls := cA, slots := Array.replicate n .null, vm := .none } : Cell) = H1
  have z1 : H1.size = h + 1 := by rw [← hH1, Array.size_push, hh]
  have e1 : H1[h]? = some (arrV cA n (fun _ => .null)) := by rw [← hH1, ← hh, Array.getElem?_push_size, ← arrV_new]
  have o1 : ∀ q : Nat, q < h → H1[q]? = H[q]? := fun q hq => by rw [← hH1, Array.getElem?_push, if_neg (by omega)]
  obtain ⟨kA2, comp2, -, -, -, k4⟩ := (X.hK.2.1.2 2 _ rfl).2
  have hcA : cA = Γ.2.1.2.2 := Option.some.inj (f1.symm.trans k4)
  subst hcA
  have hnew : mw_new h H H1 := ⟨hh, z1, o1⟩
  rw [hh]
  exact kk H1 _ ls (h1 H1 hnew e1) (hnew.S hS) hl2
end KA
end
section
/-! calls and returns -/
/-- the words on a method: its code, its class made ready, how many parameters -/
def mw_Md (d : mw_M) (n : Nat) : Prop := Cond.code d.1 d.2.1 d.2.2.1 d.2.2.2 ∈ lw_tbl ∧ Cond.initialized d.1.cls ∈ lw_tbl ∧ d.1.cls ≠ "java/lang/invoke/MethodHandle" ∧ d.1.cls ≠ "java/lang/invoke/VarHandle" ∧ (parseMethodDescriptor d.1.desc).map (fun q => q.parameters.length) = some n
def mw_Mv (d : mw_M) : Prop := Cond.instanceMethod d.1 ∈ lw_tbl ∧ Cond.selects d.1.cls d.1 d.1 ∈ lw_tbl
section KC
variable {Γ : mw_C} {p : Program} {l : Launch} {e : Env} {R : Room} {s : State} {m : MethodId} {args : Array Value} {below : List Frame} {meth : Method} {c : Code} {A : Nat → Prop} {Q : State → Prop} {I I1 : Heap → Prop} {ce sl pc : Nat} {d : mw_M} {P : List (Nat × Instr × Nat)} {lv : List (Nat × Value)} {rest : List Value}
variable {H H0 : Heap} {locs : List Loc} {ls : Array Slot} {mc ms lev : Nat} {A' : Nat → Prop} {d' : mw_M} {as : List Value} {E : Option Value → Heap → Prop} {st0 : List Value} {a : Array Value}
theorem mw_back (hr : va_Run p l e R s m args below meth c H locs ce sl mc ms (F0 m pc ls st0) rest (mw_Qc A' E a) A') (hS : va_S A H0 H locs) (hAA : ∀ q, A' q → A q)
    (kk : ∀ (v : Option Value) (H1 : Heap) (locs1 : List Loc), E v H1 → va_S A H0 H1 locs1 → W p l e R s m args below meth c H1 locs1 (ce + mc) (sl + ms) Q (F0 m (pc + 3) ls (v.toList ++ rest))) : W p l e R s m args below meth c H locs ce sl Q (F0 m pc ls st0) := by
  intro T hT X
  obtain ⟨v, st₀, t, T', L, h0, X', hL, e1, e2, ⟨⟨v2, hv, hE⟩, hz, hk⟩, st⟩ := hr T hT X
  cases hv
  rw [h0] at hz hk
  obtain ⟨t2, a1, b1⟩ := kk v T'.heap (locs ++ L) (by rw [e1]; exact hE)
    ⟨Nat.le_trans hS.1 (by rw [e1]; exact hz), fun q h1 h2 => by rw [e1, hk q (Nat.lt_of_lt_of_le h1 hS.1) (fun z => h2 (hAA q z))]; exact hS.2.1 q h1 h2, fun q hq => by
      rcases List.mem_append.mp hq with h | h
      · exact hS.2.2 q h
      · exact hAA _ (hL q h)⟩ T' rfl X'
  exact ⟨t2, st t2 a1, b1⟩
theorem mw_blind : FrameBlind (fun (v : Array Value) U => v = as.toArray ∧ mw_KK Γ U ∧ U.heap = H) := fun _ _ _ _ h => ⟨h.1, h.2.1.call, h.2.2⟩
theorem mw_good {n : Nat} (hM : mw_Md d' n) (X : mw_Ok Γ p s m args meth c A d P) : ∀ w ∈ [Cond.code d'.1 d'.2.1 d'.2.2.1 d'.2.2.2], ∀ (a' : Array Value) (U : State), s.WarmedH U.vm → w.before a' U = true := by
  intro w hw a' U hW
  rw [List.mem_singleton] at hw
  subst hw
  exact (X.hK.1.warm hW) _ hM.1 rfl a'
theorem mw_CB (X : mw_Ok Γ p s m args meth c A d P) {idx n : Nat} (hM : mw_Md d' n) (hL : Cond.methodLink d.1.cls idx d'.1 ∈ lw_tbl) (hlev : lev + 1 ≤ R.frames ∧ 8 + (d'.2.2.1 + 11) + 40 * lev ≤ R.locals) :
    CallB R s args d.1.cls idx d'.1 d'.2.1 d'.2.2.1 d'.2.2.2 [.code d'.1 d'.2.1 d'.2.2.1 d'.2.2.2] (mw_rm lev mc ms) mc ms n :=
  ⟨rfl, rfl, hlev.1, hlev.2, mw_good hM X, List.mem_singleton.mpr rfl, X.hw hM.1 rfl, X.hw hM.2.1 rfl, ⟨hM.2.2.1, hM.2.2.2.1⟩, fun sig h => by
    have h2 := hM.2.2.2.2
    rw [h] at h2
    exact (Option.some.inj h2).symm, X.hw hL rfl⟩
/-- a call of an object's method -/
theorem mw_cV (X : mw_Ok Γ p s m args meth c A d P) {idx b ci n : Nat} {T : u_T} {N : Nat} (hM : mw_Md d' n) (hV : mw_Mv d') (hL : Cond.methodLink d.1.cls idx d'.1 ∈ lw_tbl) (hn : as.length = n) (hci : vwCl[ci]? = some (d'.1.cls, T, N)) (ha : mw_at P pc = some (.invokevirtual idx, 3)) (hst : st0 = as.reverse ++ .ref b :: rest) (hcat : (rest.map fun v => v.category).sum ≤ 8) (hlev : lev + 1 ≤ R.frames ∧ 8 + (d'.2.2.1 + 11) + 40 * lev ≤ R.locals) (hcap : ce + mc ≤ R.cells ∧ sl + ms ≤ R.slots) (hAA : ∀ q, A' q → A q)
    (hI : ∀ H, I H → (∃ fs, mw_ob Γ b ci fs H) ∧ mw_Cn l Γ d' lev mc ms A' (.ref b :: as) H E) (kk : ∀ v, mw_G p l e R s m args below meth c A d.2.2.1 Q (E v) (ce + mc) (sl + ms) (pc + 3) lv (v.toList ++ rest)) : mw_G p l e R s m args below meth c A d.2.2.1 Q I ce sl pc lv st0 := by
  intro H locs ls hH hS hl
  obtain ⟨⟨fs, hob⟩, hC⟩ := hI H hH
  obtain ⟨r, hr1, cell, q1, q2, q3, -⟩ := hob
  have hrecv : ∃ cellB : Cell, H[b]? = some cellB ∧ cellB.vm.isStatics = false ∧ s.vm.findClass d'.1.cls = some cellB.cls :=
    ⟨cell, q1, by rw [q3]; rfl, by rw [q2]; exact (X.hK.2.1.1 ci _ hci).2.1⟩
  refine mw_back (va_runV (As := as) (rest := rest) (b := b) (Ts := []) ⟨X.hx, X.hb, X.hml, X.hown, fun w hw => by cases hw⟩ hC ⟨mw_CB X hM hL hlev, X.hw hV.1 rfl, X.hw hV.2 rfl⟩ ⟨mw_blind, hrecv, fun U hU hW => ⟨rfl, X.hK.warm hW hU X.hA hS, hU⟩⟩ rfl hn hl.1 hst (lv_room hcat) (X.hd ha) hcap) hS hAA (fun v H1 locs1 hE hS1 => kk v H1 locs1 ls hE hS1 hl)
theorem mw_cS (X : mw_Ok Γ p s m args meth c A d P) {idx n : Nat} (hM : mw_Md d' n) (hV : Cond.static d'.1 ∈ lw_tbl) (hL : Cond.methodLink d.1.cls idx d'.1 ∈ lw_tbl) (hn : as.length = n) (ha : mw_at P pc = some (.invokestatic idx, 3)) (hst : st0 = as.reverse ++ rest) (hcat : (rest.map fun v => v.category).sum ≤ 8) (hlev : lev + 1 ≤ R.frames ∧ 8 + (d'.2.2.1 + 11) + 40 * lev ≤ R.locals) (hcap : ce + mc ≤ R.cells ∧ sl + ms ≤ R.slots) (hAA : ∀ q, A' q → A q)
    (hI : ∀ H, I H → mw_Cn l Γ d' lev mc ms A' as H E) (kk : ∀ v, mw_G p l e R s m args below meth c A d.2.2.1 Q (E v) (ce + mc) (sl + ms) (pc + 3) lv (v.toList ++ rest)) : mw_G p l e R s m args below meth c A d.2.2.1 Q I ce sl pc lv st0 := by
  intro H locs ls hH hS hl
  refine mw_back (va_runS (As := as) (rest := rest) (Ts := []) ⟨X.hx, X.hb, X.hml, X.hown, fun w hw => by cases hw⟩ (hI H hH) ⟨mw_CB X hM hL hlev, X.hw hV rfl⟩ ⟨mw_blind, fun U hU hW => ⟨rfl, X.hK.warm hW hU X.hA hS, hU⟩⟩ rfl hn hl.1 hst (lv_room hcat) (X.hd ha) hcap) hS hAA (fun v H1 locs1 hE hS1 => kk v H1 locs1 ls hE hS1 hl)
theorem mw_cI (X : mw_Ok Γ p s m args meth c A d P) {idx b n : Nat} (hM : mw_Md d' n) (hret : d'.2.2.2 = none) (hnm : d'.1.name = "<init>") (hV : Cond.instanceMethod d'.1 ∈ lw_tbl) (hL : Cond.methodLink d.1.cls idx d'.1 ∈ lw_tbl ∨ ∃ host, Cond.methodLinkNest d.1.cls idx d'.1 host ∈ lw_tbl) (hn : as.length = n) (ha : mw_at P pc = some (.invokespecial idx, 3)) (hst : st0 = as.reverse ++ .ref b :: rest) (hcat : (rest.map fun v => v.category).sum ≤ 8) (hlev : lev + 1 ≤ R.frames ∧ 8 + (d'.2.2.1 + 11) + 40 * lev ≤ R.locals) (hcap : ce + mc ≤ R.cells ∧ sl + ms ≤ R.slots) (hAA : ∀ q, A' q → A q)
    (hI : ∀ H, I H → mw_Cn l Γ d' lev mc ms A' (.ref b :: as) H E) (kk : ∀ v, mw_G p l e R s m args below meth c A d.2.2.1 Q (E v) (ce + mc) (sl + ms) (pc + 3) lv (v.toList ++ rest)) : mw_G p l e R s m args below meth c A d.2.2.1 Q I ce sl pc lv st0 := by
  intro H locs ls hH hS hl
  rcases hL with hL | ⟨host, hL⟩
  · have hB := mw_CB (mc := mc) (ms := ms) X hM hL hlev
    rw [hret] at hB
    have hC := hI H hH
    unfold mw_Cn at hC
    rw [hret] at hC
    exact mw_back (va_runI (As := as) (rest := rest) (b := b) (Ts := []) ⟨X.hx, X.hb, X.hml, X.hown, fun w hw => by cases hw⟩ hC ⟨hB, hnm, X.hw hV rfl⟩ ⟨mw_blind, fun U hU hW => ⟨rfl, X.hK.warm hW hU X.hA hS, hU⟩⟩ rfl hn hl.1 hst (lv_room hcat) (X.hd ha) hcap) hS hAA (fun v H1 locs1 hE hS1 => kk v H1 locs1 ls hE hS1 hl)
  · have hg := mw_good hM X
    have hM1 := hM.1
    have hC := hI H hH
    unfold mw_Cn at hC
    rw [hret] at hC hg hM1
    have hN : va_CN R s args d.1.cls idx d'.1 host d'.2.1 d'.2.2.1 none [.code d'.1 d'.2.1 d'.2.2.1 none] (mw_rm lev mc ms) mc ms n :=
      ⟨⟨rfl, rfl, hlev.1, hlev.2, hg, List.mem_singleton.mpr rfl⟩, X.hw hM1 rfl, X.hw hM.2.1 rfl, ⟨hM.2.2.1, hM.2.2.2.1⟩, fun sig h => by
        have h2 := hM.2.2.2.2
        rw [h] at h2
        exact (Option.some.inj h2).symm, X.hw hL rfl⟩
    exact mw_back (va_runIN (As := as) (rest := rest) (b := b) (Ts := []) ⟨X.hx, X.hb, X.hml, X.hown, fun w hw => by cases hw⟩ hC ⟨hN, hnm, X.hw hV rfl⟩ ⟨mw_blind, fun U hU hW => ⟨rfl, X.hK.warm hW hU X.hA hS, hU⟩⟩ rfl hn hl.1 hst (lv_room hcat) (X.hd ha) hcap) hS hAA (fun v H1 locs1 hE hS1 => kk v H1 locs1 ls hE hS1 hl)
theorem mw_cV0v (X : mw_Ok Γ p s m args meth c A d P) {idx b ci : Nat}  {T : u_T} {N : Nat} (hM : mw_Md d' 0) (hV : mw_Mv d') (hL : Cond.methodLink d.1.cls idx d'.1 ∈ lw_tbl) (hci : vwCl[ci]? = some (d'.1.cls, T, N)) (ha : mw_at P pc = some (.invokevirtual idx, 3)) (hcat : (rest.map fun v => v.category).sum ≤ 8) (hlev : lev + 1 ≤ R.frames ∧ 8 + (d'.2.2.1 + 11) + 40 * lev ≤ R.locals) (hcap : ce + mc ≤ R.cells ∧ sl + ms ≤ R.slots) (hAA : ∀ q, A' q → A q) (hI : ∀ H, I H → (∃ fs, mw_ob Γ b ci fs H) ∧ mw_Cr l Γ d' lev mc ms A' (.ref b :: []) H none I1) (kk : mw_G p l e R s m args below meth c A d.2.2.1 Q I1 (ce + mc) (sl + ms) (pc + 3) lv rest) : mw_G p l e R s m args below meth c A d.2.2.1 Q I ce sl pc lv (.ref b :: rest) :=
  mw_cV X (as := []) hM hV hL rfl hci ha rfl hcat hlev hcap hAA hI (fun v => by
    intro H locs ls hE hS hl
    obtain ⟨rfl, hE⟩ := hE
    exact kk H locs ls hE hS hl)
theorem mw_cV0r (X : mw_Ok Γ p s m args meth c A d P) {idx b ci : Nat}  {v : Value} {T : u_T} {N : Nat} (hM : mw_Md d' 0) (hV : mw_Mv d') (hL : Cond.methodLink d.1.cls idx d'.1 ∈ lw_tbl) (hci : vwCl[ci]? = some (d'.1.cls, T, N)) (ha : mw_at P pc = some (.invokevirtual idx, 3)) (hcat : (rest.map fun v => v.category).sum ≤ 8) (hlev : lev + 1 ≤ R.frames ∧ 8 + (d'.2.2.1 + 11) + 40 * lev ≤ R.locals) (hcap : ce + mc ≤ R.cells ∧ sl + ms ≤ R.slots) (hAA : ∀ q, A' q → A q) (hI : ∀ H, I H → (∃ fs, mw_ob Γ b ci fs H) ∧ mw_Cr l Γ d' lev mc ms A' (.ref b :: []) H (some v) I1) (kk : mw_G p l e R s m args below meth c A d.2.2.1 Q I1 (ce + mc) (sl + ms) (pc + 3) lv (v :: rest)) : mw_G p l e R s m args below meth c A d.2.2.1 Q I ce sl pc lv (.ref b :: rest) :=
  mw_cV X (as := []) hM hV hL rfl hci ha rfl hcat hlev hcap hAA hI (fun v => by
    intro H locs ls hE hS hl
    obtain ⟨rfl, hE⟩ := hE
    exact kk H locs ls hE hS hl)
theorem mw_cS0v (X : mw_Ok Γ p s m args meth c A d P) {idx : Nat}   (hM : mw_Md d' 0) (hV : Cond.static d'.1 ∈ lw_tbl) (hL : Cond.methodLink d.1.cls idx d'.1 ∈ lw_tbl) (ha : mw_at P pc = some (.invokestatic idx, 3)) (hcat : (rest.map fun v => v.category).sum ≤ 8) (hlev : lev + 1 ≤ R.frames ∧ 8 + (d'.2.2.1 + 11) + 40 * lev ≤ R.locals) (hcap : ce + mc ≤ R.cells ∧ sl + ms ≤ R.slots) (hAA : ∀ q, A' q → A q) (hI : ∀ H, I H → mw_Cr l Γ d' lev mc ms A' [] H none I1) (kk : mw_G p l e R s m args below meth c A d.2.2.1 Q I1 (ce + mc) (sl + ms) (pc + 3) lv rest) : mw_G p l e R s m args below meth c A d.2.2.1 Q I ce sl pc lv (rest) :=
  mw_cS X (as := []) hM hV hL rfl ha rfl hcat hlev hcap hAA hI (fun v => by
    intro H locs ls hE hS hl
    obtain ⟨rfl, hE⟩ := hE
    exact kk H locs ls hE hS hl)
theorem mw_cS0r (X : mw_Ok Γ p s m args meth c A d P) {idx : Nat}  {v : Value}  (hM : mw_Md d' 0) (hV : Cond.static d'.1 ∈ lw_tbl) (hL : Cond.methodLink d.1.cls idx d'.1 ∈ lw_tbl) (ha : mw_at P pc = some (.invokestatic idx, 3)) (hcat : (rest.map fun v => v.category).sum ≤ 8) (hlev : lev + 1 ≤ R.frames ∧ 8 + (d'.2.2.1 + 11) + 40 * lev ≤ R.locals) (hcap : ce + mc ≤ R.cells ∧ sl + ms ≤ R.slots) (hAA : ∀ q, A' q → A q) (hI : ∀ H, I H → mw_Cr l Γ d' lev mc ms A' [] H (some v) I1) (kk : mw_G p l e R s m args below meth c A d.2.2.1 Q I1 (ce + mc) (sl + ms) (pc + 3) lv (v :: rest)) : mw_G p l e R s m args below meth c A d.2.2.1 Q I ce sl pc lv (rest) :=
  mw_cS X (as := []) hM hV hL rfl ha rfl hcat hlev hcap hAA hI (fun v => by
    intro H locs ls hE hS hl
    obtain ⟨rfl, hE⟩ := hE
    exact kk H locs ls hE hS hl)
theorem mw_cI0 (X : mw_Ok Γ p s m args meth c A d P) {idx b : Nat}  (hM : mw_Md d' 0) (hret : d'.2.2.2 = none) (hnm : d'.1.name = "<init>") (hV : Cond.instanceMethod d'.1 ∈ lw_tbl) (hL : Cond.methodLink d.1.cls idx d'.1 ∈ lw_tbl ∨ ∃ host, Cond.methodLinkNest d.1.cls idx d'.1 host ∈ lw_tbl) (ha : mw_at P pc = some (.invokespecial idx, 3)) (hcat : (rest.map fun v => v.category).sum ≤ 8) (hlev : lev + 1 ≤ R.frames ∧ 8 + (d'.2.2.1 + 11) + 40 * lev ≤ R.locals) (hcap : ce + mc ≤ R.cells ∧ sl + ms ≤ R.slots) (hAA : ∀ q, A' q → A q) (hI : ∀ H, I H → mw_Cr l Γ d' lev mc ms A' (.ref b :: []) H none I1) (kk : mw_G p l e R s m args below meth c A d.2.2.1 Q I1 (ce + mc) (sl + ms) (pc + 3) lv rest) : mw_G p l e R s m args below meth c A d.2.2.1 Q I ce sl pc lv (.ref b :: rest) :=
  mw_cI X (as := []) hM hret hnm hV hL rfl ha rfl hcat hlev hcap hAA hI (fun v => by
    intro H locs ls hE hS hl
    obtain ⟨rfl, hE⟩ := hE
    exact kk H locs ls hE hS hl)
theorem mw_cV1v (X : mw_Ok Γ p s m args meth c A d P) {idx b ci : Nat} {v1 : Value} {T : u_T} {N : Nat} (hM : mw_Md d' 1) (hV : mw_Mv d') (hL : Cond.methodLink d.1.cls idx d'.1 ∈ lw_tbl) (hci : vwCl[ci]? = some (d'.1.cls, T, N)) (ha : mw_at P pc = some (.invokevirtual idx, 3)) (hcat : (rest.map fun v => v.category).sum ≤ 8) (hlev : lev + 1 ≤ R.frames ∧ 8 + (d'.2.2.1 + 11) + 40 * lev ≤ R.locals) (hcap : ce + mc ≤ R.cells ∧ sl + ms ≤ R.slots) (hAA : ∀ q, A' q → A q) (hI : ∀ H, I H → (∃ fs, mw_ob Γ b ci fs H) ∧ mw_Cr l Γ d' lev mc ms A' (.ref b :: [v1]) H none I1) (kk : mw_G p l e R s m args below meth c A d.2.2.1 Q I1 (ce + mc) (sl + ms) (pc + 3) lv rest) : mw_G p l e R s m args below meth c A d.2.2.1 Q I ce sl pc lv (v1 :: .ref b :: rest) :=
  mw_cV X (as := [v1]) hM hV hL rfl hci ha rfl hcat hlev hcap hAA hI (fun v => by
    intro H locs ls hE hS hl
    obtain ⟨rfl, hE⟩ := hE
    exact kk H locs ls hE hS hl)
theorem mw_cV1r (X : mw_Ok Γ p s m args meth c A d P) {idx b ci : Nat} {v1 : Value} {v : Value} {T : u_T} {N : Nat} (hM : mw_Md d' 1) (hV : mw_Mv d') (hL : Cond.methodLink d.1.cls idx d'.1 ∈ lw_tbl) (hci : vwCl[ci]? = some (d'.1.cls, T, N)) (ha : mw_at P pc = some (.invokevirtual idx, 3)) (hcat : (rest.map fun v => v.category).sum ≤ 8) (hlev : lev + 1 ≤ R.frames ∧ 8 + (d'.2.2.1 + 11) + 40 * lev ≤ R.locals) (hcap : ce + mc ≤ R.cells ∧ sl + ms ≤ R.slots) (hAA : ∀ q, A' q → A q) (hI : ∀ H, I H → (∃ fs, mw_ob Γ b ci fs H) ∧ mw_Cr l Γ d' lev mc ms A' (.ref b :: [v1]) H (some v) I1) (kk : mw_G p l e R s m args below meth c A d.2.2.1 Q I1 (ce + mc) (sl + ms) (pc + 3) lv (v :: rest)) : mw_G p l e R s m args below meth c A d.2.2.1 Q I ce sl pc lv (v1 :: .ref b :: rest) :=
  mw_cV X (as := [v1]) hM hV hL rfl hci ha rfl hcat hlev hcap hAA hI (fun v => by
    intro H locs ls hE hS hl
    obtain ⟨rfl, hE⟩ := hE
    exact kk H locs ls hE hS hl)
theorem mw_cS1v (X : mw_Ok Γ p s m args meth c A d P) {idx : Nat} {v1 : Value}  (hM : mw_Md d' 1) (hV : Cond.static d'.1 ∈ lw_tbl) (hL : Cond.methodLink d.1.cls idx d'.1 ∈ lw_tbl) (ha : mw_at P pc = some (.invokestatic idx, 3)) (hcat : (rest.map fun v => v.category).sum ≤ 8) (hlev : lev + 1 ≤ R.frames ∧ 8 + (d'.2.2.1 + 11) + 40 * lev ≤ R.locals) (hcap : ce + mc ≤ R.cells ∧ sl + ms ≤ R.slots) (hAA : ∀ q, A' q → A q) (hI : ∀ H, I H → mw_Cr l Γ d' lev mc ms A' [v1] H none I1) (kk : mw_G p l e R s m args below meth c A d.2.2.1 Q I1 (ce + mc) (sl + ms) (pc + 3) lv rest) : mw_G p l e R s m args below meth c A d.2.2.1 Q I ce sl pc lv (v1 :: rest) :=
  mw_cS X (as := [v1]) hM hV hL rfl ha rfl hcat hlev hcap hAA hI (fun v => by
    intro H locs ls hE hS hl
    obtain ⟨rfl, hE⟩ := hE
    exact kk H locs ls hE hS hl)
theorem mw_cS1r (X : mw_Ok Γ p s m args meth c A d P) {idx : Nat} {v1 : Value} {v : Value}  (hM : mw_Md d' 1) (hV : Cond.static d'.1 ∈ lw_tbl) (hL : Cond.methodLink d.1.cls idx d'.1 ∈ lw_tbl) (ha : mw_at P pc = some (.invokestatic idx, 3)) (hcat : (rest.map fun v => v.category).sum ≤ 8) (hlev : lev + 1 ≤ R.frames ∧ 8 + (d'.2.2.1 + 11) + 40 * lev ≤ R.locals) (hcap : ce + mc ≤ R.cells ∧ sl + ms ≤ R.slots) (hAA : ∀ q, A' q → A q) (hI : ∀ H, I H → mw_Cr l Γ d' lev mc ms A' [v1] H (some v) I1) (kk : mw_G p l e R s m args below meth c A d.2.2.1 Q I1 (ce + mc) (sl + ms) (pc + 3) lv (v :: rest)) : mw_G p l e R s m args below meth c A d.2.2.1 Q I ce sl pc lv (v1 :: rest) :=
  mw_cS X (as := [v1]) hM hV hL rfl ha rfl hcat hlev hcap hAA hI (fun v => by
    intro H locs ls hE hS hl
    obtain ⟨rfl, hE⟩ := hE
    exact kk H locs ls hE hS hl)
theorem mw_cI1 (X : mw_Ok Γ p s m args meth c A d P) {idx b : Nat} {v1 : Value} (hM : mw_Md d' 1) (hret : d'.2.2.2 = none) (hnm : d'.1.name = "<init>") (hV : Cond.instanceMethod d'.1 ∈ lw_tbl) (hL : Cond.methodLink d.1.cls idx d'.1 ∈ lw_tbl ∨ ∃ host, Cond.methodLinkNest d.1.cls idx d'.1 host ∈ lw_tbl) (ha : mw_at P pc = some (.invokespecial idx, 3)) (hcat : (rest.map fun v => v.category).sum ≤ 8) (hlev : lev + 1 ≤ R.frames ∧ 8 + (d'.2.2.1 + 11) + 40 * lev ≤ R.locals) (hcap : ce + mc ≤ R.cells ∧ sl + ms ≤ R.slots) (hAA : ∀ q, A' q → A q) (hI : ∀ H, I H → mw_Cr l Γ d' lev mc ms A' (.ref b :: [v1]) H none I1) (kk : mw_G p l e R s m args below meth c A d.2.2.1 Q I1 (ce + mc) (sl + ms) (pc + 3) lv rest) : mw_G p l e R s m args below meth c A d.2.2.1 Q I ce sl pc lv (v1 :: .ref b :: rest) :=
  mw_cI X (as := [v1]) hM hret hnm hV hL rfl ha rfl hcat hlev hcap hAA hI (fun v => by
    intro H locs ls hE hS hl
    obtain ⟨rfl, hE⟩ := hE
    exact kk H locs ls hE hS hl)
theorem mw_cV2v (X : mw_Ok Γ p s m args meth c A d P) {idx b ci : Nat} {v1 v2 : Value} {T : u_T} {N : Nat} (hM : mw_Md d' 2) (hV : mw_Mv d') (hL : Cond.methodLink d.1.cls idx d'.1 ∈ lw_tbl) (hci : vwCl[ci]? = some (d'.1.cls, T, N)) (ha : mw_at P pc = some (.invokevirtual idx, 3)) (hcat : (rest.map fun v => v.category).sum ≤ 8) (hlev : lev + 1 ≤ R.frames ∧ 8 + (d'.2.2.1 + 11) + 40 * lev ≤ R.locals) (hcap : ce + mc ≤ R.cells ∧ sl + ms ≤ R.slots) (hAA : ∀ q, A' q → A q) (hI : ∀ H, I H → (∃ fs, mw_ob Γ b ci fs H) ∧ mw_Cr l Γ d' lev mc ms A' (.ref b :: [v1, v2]) H none I1) (kk : mw_G p l e R s m args below meth c A d.2.2.1 Q I1 (ce + mc) (sl + ms) (pc + 3) lv rest) : mw_G p l e R s m args below meth c A d.2.2.1 Q I ce sl pc lv (v2 :: v1 :: .ref b :: rest) :=
  mw_cV X (as := [v1, v2]) hM hV hL rfl hci ha rfl hcat hlev hcap hAA hI (fun v => by
    intro H locs ls hE hS hl
    obtain ⟨rfl, hE⟩ := hE
    exact kk H locs ls hE hS hl)
theorem mw_cV2r (X : mw_Ok Γ p s m args meth c A d P) {idx b ci : Nat} {v1 v2 : Value} {v : Value} {T : u_T} {N : Nat} (hM : mw_Md d' 2) (hV : mw_Mv d') (hL : Cond.methodLink d.1.cls idx d'.1 ∈ lw_tbl) (hci : vwCl[ci]? = some (d'.1.cls, T, N)) (ha : mw_at P pc = some (.invokevirtual idx, 3)) (hcat : (rest.map fun v => v.category).sum ≤ 8) (hlev : lev + 1 ≤ R.frames ∧ 8 + (d'.2.2.1 + 11) + 40 * lev ≤ R.locals) (hcap : ce + mc ≤ R.cells ∧ sl + ms ≤ R.slots) (hAA : ∀ q, A' q → A q) (hI : ∀ H, I H → (∃ fs, mw_ob Γ b ci fs H) ∧ mw_Cr l Γ d' lev mc ms A' (.ref b :: [v1, v2]) H (some v) I1) (kk : mw_G p l e R s m args below meth c A d.2.2.1 Q I1 (ce + mc) (sl + ms) (pc + 3) lv (v :: rest)) : mw_G p l e R s m args below meth c A d.2.2.1 Q I ce sl pc lv (v2 :: v1 :: .ref b :: rest) :=
  mw_cV X (as := [v1, v2]) hM hV hL rfl hci ha rfl hcat hlev hcap hAA hI (fun v => by
    intro H locs ls hE hS hl
    obtain ⟨rfl, hE⟩ := hE
    exact kk H locs ls hE hS hl)
theorem mw_cS2v (X : mw_Ok Γ p s m args meth c A d P) {idx : Nat} {v1 v2 : Value}  (hM : mw_Md d' 2) (hV : Cond.static d'.1 ∈ lw_tbl) (hL : Cond.methodLink d.1.cls idx d'.1 ∈ lw_tbl) (ha : mw_at P pc = some (.invokestatic idx, 3)) (hcat : (rest.map fun v => v.category).sum ≤ 8) (hlev : lev + 1 ≤ R.frames ∧ 8 + (d'.2.2.1 + 11) + 40 * lev ≤ R.locals) (hcap : ce + mc ≤ R.cells ∧ sl + ms ≤ R.slots) (hAA : ∀ q, A' q → A q) (hI : ∀ H, I H → mw_Cr l Γ d' lev mc ms A' [v1, v2] H none I1) (kk : mw_G p l e R s m args below meth c A d.2.2.1 Q I1 (ce + mc) (sl + ms) (pc + 3) lv rest) : mw_G p l e R s m args below meth c A d.2.2.1 Q I ce sl pc lv (v2 :: v1 :: rest) :=
  mw_cS X (as := [v1, v2]) hM hV hL rfl ha rfl hcat hlev hcap hAA hI (fun v => by
    intro H locs ls hE hS hl
    obtain ⟨rfl, hE⟩ := hE
    exact kk H locs ls hE hS hl)
theorem mw_cS2r (X : mw_Ok Γ p s m args meth c A d P) {idx : Nat} {v1 v2 : Value} {v : Value}  (hM : mw_Md d' 2) (hV : Cond.static d'.1 ∈ lw_tbl) (hL : Cond.methodLink d.1.cls idx d'.1 ∈ lw_tbl) (ha : mw_at P pc = some (.invokestatic idx, 3)) (hcat : (rest.map fun v => v.category).sum ≤ 8) (hlev : lev + 1 ≤ R.frames ∧ 8 + (d'.2.2.1 + 11) + 40 * lev ≤ R.locals) (hcap : ce + mc ≤ R.cells ∧ sl + ms ≤ R.slots) (hAA : ∀ q, A' q → A q) (hI : ∀ H, I H → mw_Cr l Γ d' lev mc ms A' [v1, v2] H (some v) I1) (kk : mw_G p l e R s m args below meth c A d.2.2.1 Q I1 (ce + mc) (sl + ms) (pc + 3) lv (v :: rest)) : mw_G p l e R s m args below meth c A d.2.2.1 Q I ce sl pc lv (v2 :: v1 :: rest) :=
  mw_cS X (as := [v1, v2]) hM hV hL rfl ha rfl hcat hlev hcap hAA hI (fun v => by
    intro H locs ls hE hS hl
    obtain ⟨rfl, hE⟩ := hE
    exact kk H locs ls hE hS hl)
theorem mw_cI2 (X : mw_Ok Γ p s m args meth c A d P) {idx b : Nat} {v1 v2 : Value} (hM : mw_Md d' 2) (hret : d'.2.2.2 = none) (hnm : d'.1.name = "<init>") (hV : Cond.instanceMethod d'.1 ∈ lw_tbl) (hL : Cond.methodLink d.1.cls idx d'.1 ∈ lw_tbl ∨ ∃ host, Cond.methodLinkNest d.1.cls idx d'.1 host ∈ lw_tbl) (ha : mw_at P pc = some (.invokespecial idx, 3)) (hcat : (rest.map fun v => v.category).sum ≤ 8) (hlev : lev + 1 ≤ R.frames ∧ 8 + (d'.2.2.1 + 11) + 40 * lev ≤ R.locals) (hcap : ce + mc ≤ R.cells ∧ sl + ms ≤ R.slots) (hAA : ∀ q, A' q → A q) (hI : ∀ H, I H → mw_Cr l Γ d' lev mc ms A' (.ref b :: [v1, v2]) H none I1) (kk : mw_G p l e R s m args below meth c A d.2.2.1 Q I1 (ce + mc) (sl + ms) (pc + 3) lv rest) : mw_G p l e R s m args below meth c A d.2.2.1 Q I ce sl pc lv (v2 :: v1 :: .ref b :: rest) :=
  mw_cI X (as := [v1, v2]) hM hret hnm hV hL rfl ha rfl hcat hlev hcap hAA hI (fun v => by
    intro H locs ls hE hS hl
    obtain ⟨rfl, hE⟩ := hE
    exact kk H locs ls hE hS hl)
theorem mw_cV3v (X : mw_Ok Γ p s m args meth c A d P) {idx b ci : Nat} {v1 v2 v3 : Value} {T : u_T} {N : Nat} (hM : mw_Md d' 3) (hV : mw_Mv d') (hL : Cond.methodLink d.1.cls idx d'.1 ∈ lw_tbl) (hci : vwCl[ci]? = some (d'.1.cls, T, N)) (ha : mw_at P pc = some (.invokevirtual idx, 3)) (hcat : (rest.map fun v => v.category).sum ≤ 8) (hlev : lev + 1 ≤ R.frames ∧ 8 + (d'.2.2.1 + 11) + 40 * lev ≤ R.locals) (hcap : ce + mc ≤ R.cells ∧ sl + ms ≤ R.slots) (hAA : ∀ q, A' q → A q) (hI : ∀ H, I H → (∃ fs, mw_ob Γ b ci fs H) ∧ mw_Cr l Γ d' lev mc ms A' (.ref b :: [v1, v2, v3]) H none I1) (kk : mw_G p l e R s m args below meth c A d.2.2.1 Q I1 (ce + mc) (sl + ms) (pc + 3) lv rest) : mw_G p l e R s m args below meth c A d.2.2.1 Q I ce sl pc lv (v3 :: v2 :: v1 :: .ref b :: rest) :=
  mw_cV X (as := [v1, v2, v3]) hM hV hL rfl hci ha rfl hcat hlev hcap hAA hI (fun v => by
    intro H locs ls hE hS hl
    obtain ⟨rfl, hE⟩ := hE
    exact kk H locs ls hE hS hl)
theorem mw_cV3r (X : mw_Ok Γ p s m args meth c A d P) {idx b ci : Nat} {v1 v2 v3 : Value} {v : Value} {T : u_T} {N : Nat} (hM : mw_Md d' 3) (hV : mw_Mv d') (hL : Cond.methodLink d.1.cls idx d'.1 ∈ lw_tbl) (hci : vwCl[ci]? = some (d'.1.cls, T, N)) (ha : mw_at P pc = some (.invokevirtual idx, 3)) (hcat : (rest.map fun v => v.category).sum ≤ 8) (hlev : lev + 1 ≤ R.frames ∧ 8 + (d'.2.2.1 + 11) + 40 * lev ≤ R.locals) (hcap : ce + mc ≤ R.cells ∧ sl + ms ≤ R.slots) (hAA : ∀ q, A' q → A q) (hI : ∀ H, I H → (∃ fs, mw_ob Γ b ci fs H) ∧ mw_Cr l Γ d' lev mc ms A' (.ref b :: [v1, v2, v3]) H (some v) I1) (kk : mw_G p l e R s m args below meth c A d.2.2.1 Q I1 (ce + mc) (sl + ms) (pc + 3) lv (v :: rest)) : mw_G p l e R s m args below meth c A d.2.2.1 Q I ce sl pc lv (v3 :: v2 :: v1 :: .ref b :: rest) :=
  mw_cV X (as := [v1, v2, v3]) hM hV hL rfl hci ha rfl hcat hlev hcap hAA hI (fun v => by
    intro H locs ls hE hS hl
    obtain ⟨rfl, hE⟩ := hE
    exact kk H locs ls hE hS hl)
theorem mw_cS3v (X : mw_Ok Γ p s m args meth c A d P) {idx : Nat} {v1 v2 v3 : Value}  (hM : mw_Md d' 3) (hV : Cond.static d'.1 ∈ lw_tbl) (hL : Cond.methodLink d.1.cls idx d'.1 ∈ lw_tbl) (ha : mw_at P pc = some (.invokestatic idx, 3)) (hcat : (rest.map fun v => v.category).sum ≤ 8) (hlev : lev + 1 ≤ R.frames ∧ 8 + (d'.2.2.1 + 11) + 40 * lev ≤ R.locals) (hcap : ce + mc ≤ R.cells ∧ sl + ms ≤ R.slots) (hAA : ∀ q, A' q → A q) (hI : ∀ H, I H → mw_Cr l Γ d' lev mc ms A' [v1, v2, v3] H none I1) (kk : mw_G p l e R s m args below meth c A d.2.2.1 Q I1 (ce + mc) (sl + ms) (pc + 3) lv rest) : mw_G p l e R s m args below meth c A d.2.2.1 Q I ce sl pc lv (v3 :: v2 :: v1 :: rest) :=
  mw_cS X (as := [v1, v2, v3]) hM hV hL rfl ha rfl hcat hlev hcap hAA hI (fun v => by
    intro H locs ls hE hS hl
    obtain ⟨rfl, hE⟩ := hE
    exact kk H locs ls hE hS hl)
theorem mw_cS3r (X : mw_Ok Γ p s m args meth c A d P) {idx : Nat} {v1 v2 v3 : Value} {v : Value}  (hM : mw_Md d' 3) (hV : Cond.static d'.1 ∈ lw_tbl) (hL : Cond.methodLink d.1.cls idx d'.1 ∈ lw_tbl) (ha : mw_at P pc = some (.invokestatic idx, 3)) (hcat : (rest.map fun v => v.category).sum ≤ 8) (hlev : lev + 1 ≤ R.frames ∧ 8 + (d'.2.2.1 + 11) + 40 * lev ≤ R.locals) (hcap : ce + mc ≤ R.cells ∧ sl + ms ≤ R.slots) (hAA : ∀ q, A' q → A q) (hI : ∀ H, I H → mw_Cr l Γ d' lev mc ms A' [v1, v2, v3] H (some v) I1) (kk : mw_G p l e R s m args below meth c A d.2.2.1 Q I1 (ce + mc) (sl + ms) (pc + 3) lv (v :: rest)) : mw_G p l e R s m args below meth c A d.2.2.1 Q I ce sl pc lv (v3 :: v2 :: v1 :: rest) :=
  mw_cS X (as := [v1, v2, v3]) hM hV hL rfl ha rfl hcat hlev hcap hAA hI (fun v => by
    intro H locs ls hE hS hl
    obtain ⟨rfl, hE⟩ := hE
    exact kk H locs ls hE hS hl)
theorem mw_cV4v (X : mw_Ok Γ p s m args meth c A d P) {idx b ci : Nat} {v1 v2 v3 v4 : Value} {T : u_T} {N : Nat} (hM : mw_Md d' 4) (hV : mw_Mv d') (hL : Cond.methodLink d.1.cls idx d'.1 ∈ lw_tbl) (hci : vwCl[ci]? = some (d'.1.cls, T, N)) (ha : mw_at P pc = some (.invokevirtual idx, 3)) (hcat : (rest.map fun v => v.category).sum ≤ 8) (hlev : lev + 1 ≤ R.frames ∧ 8 + (d'.2.2.1 + 11) + 40 * lev ≤ R.locals) (hcap : ce + mc ≤ R.cells ∧ sl + ms ≤ R.slots) (hAA : ∀ q, A' q → A q) (hI : ∀ H, I H → (∃ fs, mw_ob Γ b ci fs H) ∧ mw_Cr l Γ d' lev mc ms A' (.ref b :: [v1, v2, v3, v4]) H none I1) (kk : mw_G p l e R s m args below meth c A d.2.2.1 Q I1 (ce + mc) (sl + ms) (pc + 3) lv rest) : mw_G p l e R s m args below meth c A d.2.2.1 Q I ce sl pc lv (v4 :: v3 :: v2 :: v1 :: .ref b :: rest) :=
  mw_cV X (as := [v1, v2, v3, v4]) hM hV hL rfl hci ha rfl hcat hlev hcap hAA hI (fun v => by
    intro H locs ls hE hS hl
    obtain ⟨rfl, hE⟩ := hE
    exact kk H locs ls hE hS hl)
theorem mw_cV4r (X : mw_Ok Γ p s m args meth c A d P) {idx b ci : Nat} {v1 v2 v3 v4 : Value} {v : Value} {T : u_T} {N : Nat} (hM : mw_Md d' 4) (hV : mw_Mv d') (hL : Cond.methodLink d.1.cls idx d'.1 ∈ lw_tbl) (hci : vwCl[ci]? = some (d'.1.cls, T, N)) (ha : mw_at P pc = some (.invokevirtual idx, 3)) (hcat : (rest.map fun v => v.category).sum ≤ 8) (hlev : lev + 1 ≤ R.frames ∧ 8 + (d'.2.2.1 + 11) + 40 * lev ≤ R.locals) (hcap : ce + mc ≤ R.cells ∧ sl + ms ≤ R.slots) (hAA : ∀ q, A' q → A q) (hI : ∀ H, I H → (∃ fs, mw_ob Γ b ci fs H) ∧ mw_Cr l Γ d' lev mc ms A' (.ref b :: [v1, v2, v3, v4]) H (some v) I1) (kk : mw_G p l e R s m args below meth c A d.2.2.1 Q I1 (ce + mc) (sl + ms) (pc + 3) lv (v :: rest)) : mw_G p l e R s m args below meth c A d.2.2.1 Q I ce sl pc lv (v4 :: v3 :: v2 :: v1 :: .ref b :: rest) :=
  mw_cV X (as := [v1, v2, v3, v4]) hM hV hL rfl hci ha rfl hcat hlev hcap hAA hI (fun v => by
    intro H locs ls hE hS hl
    obtain ⟨rfl, hE⟩ := hE
    exact kk H locs ls hE hS hl)
theorem mw_cV5v (X : mw_Ok Γ p s m args meth c A d P) {idx b ci : Nat} {v1 v2 v3 v4 v5 : Value} {T : u_T} {N : Nat} (hM : mw_Md d' 5) (hV : mw_Mv d') (hL : Cond.methodLink d.1.cls idx d'.1 ∈ lw_tbl) (hci : vwCl[ci]? = some (d'.1.cls, T, N)) (ha : mw_at P pc = some (.invokevirtual idx, 3)) (hcat : (rest.map fun v => v.category).sum ≤ 8) (hlev : lev + 1 ≤ R.frames ∧ 8 + (d'.2.2.1 + 11) + 40 * lev ≤ R.locals) (hcap : ce + mc ≤ R.cells ∧ sl + ms ≤ R.slots) (hAA : ∀ q, A' q → A q) (hI : ∀ H, I H → (∃ fs, mw_ob Γ b ci fs H) ∧ mw_Cr l Γ d' lev mc ms A' (.ref b :: [v1, v2, v3, v4, v5]) H none I1) (kk : mw_G p l e R s m args below meth c A d.2.2.1 Q I1 (ce + mc) (sl + ms) (pc + 3) lv rest) : mw_G p l e R s m args below meth c A d.2.2.1 Q I ce sl pc lv (v5 :: v4 :: v3 :: v2 :: v1 :: .ref b :: rest) :=
  mw_cV X (as := [v1, v2, v3, v4, v5]) hM hV hL rfl hci ha rfl hcat hlev hcap hAA hI (fun v => by
    intro H locs ls hE hS hl
    obtain ⟨rfl, hE⟩ := hE
    exact kk H locs ls hE hS hl)
theorem mw_cV5r (X : mw_Ok Γ p s m args meth c A d P) {idx b ci : Nat} {v1 v2 v3 v4 v5 : Value} {v : Value} {T : u_T} {N : Nat} (hM : mw_Md d' 5) (hV : mw_Mv d') (hL : Cond.methodLink d.1.cls idx d'.1 ∈ lw_tbl) (hci : vwCl[ci]? = some (d'.1.cls, T, N)) (ha : mw_at P pc = some (.invokevirtual idx, 3)) (hcat : (rest.map fun v => v.category).sum ≤ 8) (hlev : lev + 1 ≤ R.frames ∧ 8 + (d'.2.2.1 + 11) + 40 * lev ≤ R.locals) (hcap : ce + mc ≤ R.cells ∧ sl + ms ≤ R.slots) (hAA : ∀ q, A' q → A q) (hI : ∀ H, I H → (∃ fs, mw_ob Γ b ci fs H) ∧ mw_Cr l Γ d' lev mc ms A' (.ref b :: [v1, v2, v3, v4, v5]) H (some v) I1) (kk : mw_G p l e R s m args below meth c A d.2.2.1 Q I1 (ce + mc) (sl + ms) (pc + 3) lv (v :: rest)) : mw_G p l e R s m args below meth c A d.2.2.1 Q I ce sl pc lv (v5 :: v4 :: v3 :: v2 :: v1 :: .ref b :: rest) :=
  mw_cV X (as := [v1, v2, v3, v4, v5]) hM hV hL rfl hci ha rfl hcat hlev hcap hAA hI (fun v => by
    intro H locs ls hE hS hl
    obtain ⟨rfl, hE⟩ := hE
    exact kk H locs ls hE hS hl)
theorem mw_cV6v (X : mw_Ok Γ p s m args meth c A d P) {idx b ci : Nat} {v1 v2 v3 v4 v5 v6 : Value} {T : u_T} {N : Nat} (hM : mw_Md d' 6) (hV : mw_Mv d') (hL : Cond.methodLink d.1.cls idx d'.1 ∈ lw_tbl) (hci : vwCl[ci]? = some (d'.1.cls, T, N)) (ha : mw_at P pc = some (.invokevirtual idx, 3)) (hcat : (rest.map fun v => v.category).sum ≤ 8) (hlev : lev + 1 ≤ R.frames ∧ 8 + (d'.2.2.1 + 11) + 40 * lev ≤ R.locals) (hcap : ce + mc ≤ R.cells ∧ sl + ms ≤ R.slots) (hAA : ∀ q, A' q → A q) (hI : ∀ H, I H → (∃ fs, mw_ob Γ b ci fs H) ∧ mw_Cr l Γ d' lev mc ms A' (.ref b :: [v1, v2, v3, v4, v5, v6]) H none I1) (kk : mw_G p l e R s m args below meth c A d.2.2.1 Q I1 (ce + mc) (sl + ms) (pc + 3) lv rest) : mw_G p l e R s m args below meth c A d.2.2.1 Q I ce sl pc lv (v6 :: v5 :: v4 :: v3 :: v2 :: v1 :: .ref b :: rest) :=
  mw_cV X (as := [v1, v2, v3, v4, v5, v6]) hM hV hL rfl hci ha rfl hcat hlev hcap hAA hI (fun v => by
    intro H locs ls hE hS hl
    obtain ⟨rfl, hE⟩ := hE
    exact kk H locs ls hE hS hl)
theorem mw_cV6r (X : mw_Ok Γ p s m args meth c A d P) {idx b ci : Nat} {v1 v2 v3 v4 v5 v6 : Value} {v : Value} {T : u_T} {N : Nat} (hM : mw_Md d' 6) (hV : mw_Mv d') (hL : Cond.methodLink d.1.cls idx d'.1 ∈ lw_tbl) (hci : vwCl[ci]? = some (d'.1.cls, T, N)) (ha : mw_at P pc = some (.invokevirtual idx, 3)) (hcat : (rest.map fun v => v.category).sum ≤ 8) (hlev : lev + 1 ≤ R.frames ∧ 8 + (d'.2.2.1 + 11) + 40 * lev ≤ R.locals) (hcap : ce + mc ≤ R.cells ∧ sl + ms ≤ R.slots) (hAA : ∀ q, A' q → A q) (hI : ∀ H, I H → (∃ fs, mw_ob Γ b ci fs H) ∧ mw_Cr l Γ d' lev mc ms A' (.ref b :: [v1, v2, v3, v4, v5, v6]) H (some v) I1) (kk : mw_G p l e R s m args below meth c A d.2.2.1 Q I1 (ce + mc) (sl + ms) (pc + 3) lv (v :: rest)) : mw_G p l e R s m args below meth c A d.2.2.1 Q I ce sl pc lv (v6 :: v5 :: v4 :: v3 :: v2 :: v1 :: .ref b :: rest) :=
  mw_cV X (as := [v1, v2, v3, v4, v5, v6]) hM hV hL rfl hci ha rfl hcat hlev hcap hAA hI (fun v => by
    intro H locs ls hE hS hl
    obtain ⟨rfl, hE⟩ := hE
    exact kk H locs ls hE hS hl)
theorem mw_vret (X : mw_Ok Γ p s m args meth c A d P) (hret : d.2.2.2 = none) (ha : mw_at P pc = some (.return_, 1)) (hI : ∀ H, I H → E none H) : mw_G p l e R s m args below meth c A d.2.2.1 (mw_Q A E below args s ce sl) I ce sl pc lv [] := by
  intro H locs ls hH hS hl
  exact W.vret X.hx X.hb (X.hr.trans hret) (fun t ht hW => ⟨⟨_, rfl, by rw [ht]; exact hI H hH⟩, hS.F ht⟩) hS.2.2 (X.hd ha) X.hlo
theorem mw_iret (X : mw_Ok Γ p s m args meth c A d P) {v : Int32} (hret : d.2.2.2 = some .int) (ha : mw_at P pc = some (.ireturn, 1)) (hI : ∀ H, I H → E (some (.int v)) H) : mw_G p l e R s m args below meth c A d.2.2.1 (mw_Q A E below args s ce sl) I ce sl pc lv [.int v] := by
  intro H locs ls hH hS hl
  exact W.iret X.hx X.hb (X.hr.trans hret) (fun t ht hW => ⟨⟨_, rfl, by rw [ht]; exact hI H hH⟩, hS.F ht⟩) hS.2.2 (X.hd ha) X.hlo
theorem mw_zret (X : mw_Ok Γ p s m args meth c A d P) {v : Int32} (hret : d.2.2.2 = some .boolean) (hv : v = 0 ∨ v = 1) (ha : mw_at P pc = some (.ireturn, 1)) (hI : ∀ H, I H → E (some (.int v)) H) : mw_G p l e R s m args below meth c A d.2.2.1 (mw_Q A E below args s ce sl) I ce sl pc lv [.int v] := by
  intro H locs ls hH hS hl
  exact W.zret X.hx X.hb (X.hr.trans hret) (by rcases hv with rfl | rfl <;> decide) (fun t ht hW => ⟨⟨_, rfl, by rw [ht]; exact hI H hH⟩, hS.F ht⟩) hS.2.2 (X.hd ha) X.hlo
theorem mw_aret (X : mw_Ok Γ p s m args meth c A d P) {v : Nat} {C : String} (hret : d.2.2.2 = some (.object C)) (ha : mw_at P pc = some (.areturn, 1)) (hI : ∀ H, I H → E (some (.ref v)) H) : mw_G p l e R s m args below meth c A d.2.2.1 (mw_Q A E below args s ce sl) I ce sl pc lv [.ref v] := by
  intro H locs ls hH hS hl
  exact W.aret X.hx X.hb (X.hr.trans hret) (Or.inl ⟨C, rfl⟩) (Or.inr ⟨v, rfl⟩) (fun t ht hW => ⟨⟨_, rfl, by rw [ht]; exact hI H hH⟩, hS.F ht⟩) hS.2.2 (X.hd ha) X.hlo
theorem mw_widen {ce' sl' : Nat} {st : List Value} (h1 : ce ≤ ce') (h2 : sl ≤ sl') (kk : mw_G p l e R s m args below meth c A d.2.2.1 Q I ce' sl' pc lv st) : mw_G p l e R s m args below meth c A d.2.2.1 Q I ce sl pc lv st := fun H locs ls hH hS hl => W.widen h1 h2 (kk H locs ls hH hS hl)
theorem mw_oinit (X : mw_Ok Γ p s m args meth c A d P) {b idx : Nat} (hlk : Cond.methodLink d.1.cls idx objectInit ∈ lw_tbl) (h2 : Cond.instanceMethod objectInit ∈ lw_tbl) (h3 : Cond.code objectInit ⟨#[0xb1]⟩ 1 none ∈ lw_tbl) (ha : mw_at P pc = some (.invokespecial idx, 3)) (hfr : 1 ≤ R.frames) (hlo : 12 ≤ R.locals) (kk : mw_G p l e R s m args below meth c A d.2.2.1 Q I ce sl (pc + 3) lv []) : mw_G p l e R s m args below meth c A d.2.2.1 Q I ce sl pc lv [.ref b] := by
  intro H locs ls hH hS hl
  exact W.objInit X.hx X.hb X.hown (X.hw hlk rfl) (X.hw h2 rfl) (X.hw h3 rfl) rfl (by rw [X.hml]; exact hl.1) rfl (X.hd ha) hfr hlo (kk H locs ls hH hS hl)
theorem mw_mmax (X : mw_Ok Γ p s m args meth c A d P) {idx : Nat} {x y : Int32} (hlk : Cond.methodLink d.1.cls idx Lib.Math.max.name ∈ lw_tbl) (h2 : Cond.static Lib.Math.max.name ∈ lw_tbl) (h3 : Cond.initialized "java/lang/Math" ∈ lw_tbl) (h4 : Cond.code Lib.Math.max.name Lib.Math.max.code 2 (some .int) ∈ lw_tbl) (ha : mw_at P pc = some (.invokestatic idx, 3)) (hcat : (rest.map fun v => v.category).sum + 13 ≤ R.locals) (hfr : 1 ≤ R.frames) (hcap : ce ≤ R.cells ∧ sl ≤ R.slots) (kk : mw_G p l e R s m args below meth c A d.2.2.1 Q I ce sl (pc + 3) lv (.int (if x < y then y else x) :: rest)) : mw_G p l e R s m args below meth c A d.2.2.1 Q I ce sl pc lv (.int y :: .int x :: rest) := by
  intro H locs ls hH hS hl
  exact va_mmax X.hx X.hb (by rw [X.hml]; exact hl.1.symm) X.hown (X.hw hlk rfl) (X.hw h2 rfl) (X.hw h3 rfl) (X.hw h4 rfl) hfr hcat hcap.1 hcap.2 (X.hd ha) (kk H locs ls hH hS hl)
theorem mw_mmin (X : mw_Ok Γ p s m args meth c A d P) {idx : Nat} {x y : Int32} (hlk : Cond.methodLink d.1.cls idx Lib.Math.min.name ∈ lw_tbl) (h2 : Cond.static Lib.Math.min.name ∈ lw_tbl) (h3 : Cond.initialized "java/lang/Math" ∈ lw_tbl) (h4 : Cond.code Lib.Math.min.name Lib.Math.min.code 2 (some .int) ∈ lw_tbl) (ha : mw_at P pc = some (.invokestatic idx, 3)) (hcat : (rest.map fun v => v.category).sum + 13 ≤ R.locals) (hfr : 1 ≤ R.frames) (hcap : ce ≤ R.cells ∧ sl ≤ R.slots) (kk : mw_G p l e R s m args below meth c A d.2.2.1 Q I ce sl (pc + 3) lv (.int (if y < x then y else x) :: rest)) : mw_G p l e R s m args below meth c A d.2.2.1 Q I ce sl pc lv (.int y :: .int x :: rest) := by
  intro H locs ls hH hS hl
  exact va_mmin X.hx X.hb (by rw [X.hml]; exact hl.1.symm) X.hown (X.hw hlk rfl) (X.hw h2 rfl) (X.hw h3 rfl) (X.hw h4 rfl) hfr hcat hcap.1 hcap.2 (X.hd ha) (kk H locs ls hH hS hl)
end KC
end
section
theorem k_inX0 : Cond.initialized RX0 ∈ lw_tbl := List.mem_of_getElem? (i := 70) (by decide +kernel)
theorem k_inX1 : Cond.initialized RX1 ∈ lw_tbl := List.mem_of_getElem? (i := 69) (by decide +kernel)
theorem k_inX2 : Cond.initialized RX2 ∈ lw_tbl := List.mem_of_getElem? (i := 67) (by decide +kernel)
theorem k_inX3 : Cond.initialized RX3 ∈ lw_tbl := List.mem_of_getElem? (i := 66) (by decide +kernel)
theorem k_inX4 : Cond.initialized RX4 ∈ lw_tbl := List.mem_of_getElem? (i := 65) (by decide +kernel)
theorem k_inX5 : Cond.initialized RX5 ∈ lw_tbl := List.mem_of_getElem? (i := 71) (by decide +kernel)
theorem k_inL : Cond.initialized RL ∈ lw_tbl := List.mem_of_getElem? (i := 64) (by decide +kernel)
theorem k_inJ13 : Cond.initialized RJ13 ∈ lw_tbl := List.mem_of_getElem? (i := 72) (by decide +kernel)
theorem k_inJ9 : Cond.initialized RJ9 ∈ lw_tbl := List.mem_of_getElem? (i := 68) (by decide +kernel)
theorem k_inJ10 : Cond.initialized RJ10 ∈ lw_tbl := List.mem_of_getElem? (i := 73) (by decide +kernel)
def mX0_init : mw_M := (yX0_init, cX0_init, 1, none)
theorem kd_X0_init : mw_Md mX0_init 0 := ⟨List.mem_of_getElem? (i := 133) (by decide +kernel), k_inX0, by decide +kernel, by decide +kernel, by decide +kernel⟩
theorem ki_X0_init : Cond.instanceMethod (mX0_init).1 ∈ lw_tbl := List.mem_of_getElem? (i := 132) (by decide +kernel)
def mX0_confirm : mw_M := (yX0_confirm, cX0_confirm, 2, none)
theorem kd_X0_confirm : mw_Md mX0_confirm 1 := ⟨List.mem_of_getElem? (i := 511) (by decide +kernel), k_inX0, by decide +kernel, by decide +kernel, by decide +kernel⟩
theorem kv_X0_confirm : mw_Mv mX0_confirm := ⟨List.mem_of_getElem? (i := 509) (by decide +kernel), List.mem_of_getElem? (i := 510) (by decide +kernel)⟩
def mX0_moveTo : mw_M := (yX0_moveTo, cX0_moveTo, 2, none)
theorem kd_X0_moveTo : mw_Md mX0_moveTo 1 := ⟨List.mem_of_getElem? (i := 448) (by decide +kernel), k_inX0, by decide +kernel, by decide +kernel, by decide +kernel⟩
theorem kv_X0_moveTo : mw_Mv mX0_moveTo := ⟨List.mem_of_getElem? (i := 446) (by decide +kernel), List.mem_of_getElem? (i := 447) (by decide +kernel)⟩
def mX0_hasAllOf : mw_M := (yX0_hasAllOf, cX0_hasAllOf, 2, (some .boolean))
theorem kd_X0_hasAllOf : mw_Md mX0_hasAllOf 1 := ⟨List.mem_of_getElem? (i := 302) (by decide +kernel), k_inX0, by decide +kernel, by decide +kernel, by decide +kernel⟩
theorem kv_X0_hasAllOf : mw_Mv mX0_hasAllOf := ⟨List.mem_of_getElem? (i := 300) (by decide +kernel), List.mem_of_getElem? (i := 301) (by decide +kernel)⟩
def mX0_becomes : mw_M := (yX0_becomes, cX0_becomes, 2, none)
theorem kd_X0_becomes : mw_Md mX0_becomes 1 := ⟨List.mem_of_getElem? (i := 635) (by decide +kernel), k_inX0, by decide +kernel, by decide +kernel, by decide +kernel⟩
theorem kv_X0_becomes : mw_Mv mX0_becomes := ⟨List.mem_of_getElem? (i := 633) (by decide +kernel), List.mem_of_getElem? (i := 634) (by decide +kernel)⟩
def mX1_init : mw_M := (yX1_init, cX1_init, 2, none)
theorem kd_X1_init : mw_Md mX1_init 1 := ⟨List.mem_of_getElem? (i := 118) (by decide +kernel), k_inX1, by decide +kernel, by decide +kernel, by decide +kernel⟩
theorem ki_X1_init : Cond.instanceMethod (mX1_init).1 ∈ lw_tbl := List.mem_of_getElem? (i := 117) (by decide +kernel)
def mX1_has : mw_M := (yX1_has, cX1_has, 3, (some .boolean))
theorem kd_X1_has : mw_Md mX1_has 1 := ⟨List.mem_of_getElem? (i := 310) (by decide +kernel), k_inX1, by decide +kernel, by decide +kernel, by decide +kernel⟩
theorem kv_X1_has : mw_Mv mX1_has := ⟨List.mem_of_getElem? (i := 308) (by decide +kernel), List.mem_of_getElem? (i := 309) (by decide +kernel)⟩
def mX1_add : mw_M := (yX1_add, cX1_add, 3, none)
theorem kd_X1_add : mw_Md mX1_add 1 := ⟨List.mem_of_getElem? (i := 187) (by decide +kernel), k_inX1, by decide +kernel, by decide +kernel, by decide +kernel⟩
theorem kv_X1_add : mw_Mv mX1_add := ⟨List.mem_of_getElem? (i := 185) (by decide +kernel), List.mem_of_getElem? (i := 186) (by decide +kernel)⟩
def mX1_remove : mw_M := (yX1_remove, cX1_remove, 3, none)
theorem kd_X1_remove : mw_Md mX1_remove 1 := ⟨List.mem_of_getElem? (i := 431) (by decide +kernel), k_inX1, by decide +kernel, by decide +kernel, by decide +kernel⟩
theorem kv_X1_remove : mw_Mv mX1_remove := ⟨List.mem_of_getElem? (i := 429) (by decide +kernel), List.mem_of_getElem? (i := 430) (by decide +kernel)⟩
def mX1_size : mw_M := (yX1_size, cX1_size, 3, (some .int))
theorem kd_X1_size : mw_Md mX1_size 0 := ⟨List.mem_of_getElem? (i := 271) (by decide +kernel), k_inX1, by decide +kernel, by decide +kernel, by decide +kernel⟩
theorem kv_X1_size : mw_Mv mX1_size := ⟨List.mem_of_getElem? (i := 269) (by decide +kernel), List.mem_of_getElem? (i := 270) (by decide +kernel)⟩
def mX1_least : mw_M := (yX1_least, cX1_least, 2, (some .int))
theorem kd_X1_least : mw_Md mX1_least 0 := ⟨List.mem_of_getElem? (i := 427) (by decide +kernel), k_inX1, by decide +kernel, by decide +kernel, by decide +kernel⟩
theorem kv_X1_least : mw_Mv mX1_least := ⟨List.mem_of_getElem? (i := 425) (by decide +kernel), List.mem_of_getElem? (i := 426) (by decide +kernel)⟩
def mX1_inRow : mw_M := (yX1_inRow, cX1_inRow, 2, (some .int))
theorem kd_X1_inRow : mw_Md mX1_inRow 0 := ⟨List.mem_of_getElem? (i := 306) (by decide +kernel), k_inX1, by decide +kernel, by decide +kernel, by decide +kernel⟩
theorem kv_X1_inRow : mw_Mv mX1_inRow := ⟨List.mem_of_getElem? (i := 304) (by decide +kernel), List.mem_of_getElem? (i := 305) (by decide +kernel)⟩
def mX1_becomes : mw_M := (yX1_becomes, cX1_becomes, 2, none)
theorem kd_X1_becomes : mw_Md mX1_becomes 1 := ⟨List.mem_of_getElem? (i := 630) (by decide +kernel), k_inX1, by decide +kernel, by decide +kernel, by decide +kernel⟩
theorem kv_X1_becomes : mw_Mv mX1_becomes := ⟨List.mem_of_getElem? (i := 628) (by decide +kernel), List.mem_of_getElem? (i := 629) (by decide +kernel)⟩
def mX2_init : mw_M := (yX2_init, cX2_init, 3, none)
theorem kd_X2_init : mw_Md mX2_init 2 := ⟨List.mem_of_getElem? (i := 92) (by decide +kernel), k_inX2, by decide +kernel, by decide +kernel, by decide +kernel⟩
theorem ki_X2_init : Cond.instanceMethod (mX2_init).1 ∈ lw_tbl := List.mem_of_getElem? (i := 91) (by decide +kernel)
def mX2_size : mw_M := (yX2_size, cX2_size, 1, (some .int))
theorem kd_X2_size : mw_Md mX2_size 0 := ⟨List.mem_of_getElem? (i := 267) (by decide +kernel), k_inX2, by decide +kernel, by decide +kernel, by decide +kernel⟩
theorem kv_X2_size : mw_Mv mX2_size := ⟨List.mem_of_getElem? (i := 265) (by decide +kernel), List.mem_of_getElem? (i := 266) (by decide +kernel)⟩
def mX2_isFull : mw_M := (yX2_isFull, cX2_isFull, 1, (some .boolean))
theorem kd_X2_isFull : mw_Md mX2_isFull 0 := ⟨List.mem_of_getElem? (i := 406) (by decide +kernel), k_inX2, by decide +kernel, by decide +kernel, by decide +kernel⟩
theorem kv_X2_isFull : mw_Mv mX2_isFull := ⟨List.mem_of_getElem? (i := 404) (by decide +kernel), List.mem_of_getElem? (i := 405) (by decide +kernel)⟩
def mX2_hasRow : mw_M := (yX2_hasRow, cX2_hasRow, 2, (some .boolean))
theorem kd_X2_hasRow : mw_Md mX2_hasRow 1 := ⟨List.mem_of_getElem? (i := 348) (by decide +kernel), k_inX2, by decide +kernel, by decide +kernel, by decide +kernel⟩
theorem kv_X2_hasRow : mw_Mv mX2_hasRow := ⟨List.mem_of_getElem? (i := 346) (by decide +kernel), List.mem_of_getElem? (i := 347) (by decide +kernel)⟩
def mX2_hasColumn : mw_M := (yX2_hasColumn, cX2_hasColumn, 2, (some .boolean))
theorem kd_X2_hasColumn : mw_Md mX2_hasColumn 1 := ⟨List.mem_of_getElem? (i := 352) (by decide +kernel), k_inX2, by decide +kernel, by decide +kernel, by decide +kernel⟩
theorem kv_X2_hasColumn : mw_Mv mX2_hasColumn := ⟨List.mem_of_getElem? (i := 350) (by decide +kernel), List.mem_of_getElem? (i := 351) (by decide +kernel)⟩
def mX2_at : mw_M := (yX2_at, cX2_at, 5, (some .int))
theorem kd_X2_at : mw_Md mX2_at 2 := ⟨List.mem_of_getElem? (i := 293) (by decide +kernel), k_inX2, by decide +kernel, by decide +kernel, by decide +kernel⟩
theorem kv_X2_at : mw_Mv mX2_at := ⟨List.mem_of_getElem? (i := 291) (by decide +kernel), List.mem_of_getElem? (i := 292) (by decide +kernel)⟩
def mX2_put : mw_M := (yX2_put, cX2_put, 5, none)
theorem kd_X2_put : mw_Md mX2_put 3 := ⟨List.mem_of_getElem? (i := 183) (by decide +kernel), k_inX2, by decide +kernel, by decide +kernel, by decide +kernel⟩
theorem kv_X2_put : mw_Mv mX2_put := ⟨List.mem_of_getElem? (i := 181) (by decide +kernel), List.mem_of_getElem? (i := 182) (by decide +kernel)⟩
def mX2_add : mw_M := (yX2_add, cX2_add, 8, none)
theorem kd_X2_add : mw_Md mX2_add 6 := ⟨List.mem_of_getElem? (i := 179) (by decide +kernel), k_inX2, by decide +kernel, by decide +kernel, by decide +kernel⟩
theorem kv_X2_add : mw_Mv mX2_add := ⟨List.mem_of_getElem? (i := 177) (by decide +kernel), List.mem_of_getElem? (i := 178) (by decide +kernel)⟩
def mX2_repeat : mw_M := (yX2_repeat, cX2_repeat, 2, none)
theorem kd_X2_repeat : mw_Md mX2_repeat 1 := ⟨List.mem_of_getElem? (i := 538) (by decide +kernel), k_inX2, by decide +kernel, by decide +kernel, by decide +kernel⟩
theorem kv_X2_repeat : mw_Mv mX2_repeat := ⟨List.mem_of_getElem? (i := 536) (by decide +kernel), List.mem_of_getElem? (i := 537) (by decide +kernel)⟩
def mX2_drop : mw_M := (yX2_drop, cX2_drop, 2, none)
theorem kd_X2_drop : mw_Md mX2_drop 1 := ⟨List.mem_of_getElem? (i := 410) (by decide +kernel), k_inX2, by decide +kernel, by decide +kernel, by decide +kernel⟩
theorem kv_X2_drop : mw_Mv mX2_drop := ⟨List.mem_of_getElem? (i := 408) (by decide +kernel), List.mem_of_getElem? (i := 409) (by decide +kernel)⟩
def mX2_empty : mw_M := (yX2_empty, cX2_empty, 1, none)
theorem kd_X2_empty : mw_Md mX2_empty 0 := ⟨List.mem_of_getElem? (i := 610) (by decide +kernel), k_inX2, by decide +kernel, by decide +kernel, by decide +kernel⟩
theorem kv_X2_empty : mw_Mv mX2_empty := ⟨List.mem_of_getElem? (i := 608) (by decide +kernel), List.mem_of_getElem? (i := 609) (by decide +kernel)⟩
def mX2_becomes : mw_M := (yX2_becomes, cX2_becomes, 2, none)
theorem kd_X2_becomes : mw_Md mX2_becomes 1 := ⟨List.mem_of_getElem? (i := 626) (by decide +kernel), k_inX2, by decide +kernel, by decide +kernel, by decide +kernel⟩
theorem kv_X2_becomes : mw_Mv mX2_becomes := ⟨List.mem_of_getElem? (i := 624) (by decide +kernel), List.mem_of_getElem? (i := 625) (by decide +kernel)⟩
def mX3_init : mw_M := (yX3_init, cX3_init, 2, none)
theorem kd_X3_init : mw_Md mX3_init 0 := ⟨List.mem_of_getElem? (i := 86) (by decide +kernel), k_inX3, by decide +kernel, by decide +kernel, by decide +kernel⟩
theorem ki_X3_init : Cond.instanceMethod (mX3_init).1 ∈ lw_tbl := List.mem_of_getElem? (i := 85) (by decide +kernel)
def mX3_becomes : mw_M := (yX3_becomes, cX3_becomes, 3, none)
theorem kd_X3_becomes : mw_Md mX3_becomes 1 := ⟨List.mem_of_getElem? (i := 622) (by decide +kernel), k_inX3, by decide +kernel, by decide +kernel, by decide +kernel⟩
theorem kv_X3_becomes : mw_Mv mX3_becomes := ⟨List.mem_of_getElem? (i := 620) (by decide +kernel), List.mem_of_getElem? (i := 621) (by decide +kernel)⟩
def mX3_endOf : mw_M := (yX3_endOf, cX3_endOf, 2, (some (.object "MovedWays$End")))
theorem kd_X3_endOf : mw_Md mX3_endOf 1 := ⟨List.mem_of_getElem? (i := 319) (by decide +kernel), k_inX3, by decide +kernel, by decide +kernel, by decide +kernel⟩
theorem kv_X3_endOf : mw_Mv mX3_endOf := ⟨List.mem_of_getElem? (i := 317) (by decide +kernel), List.mem_of_getElem? (i := 318) (by decide +kernel)⟩
def mX3_isOpen : mw_M := (yX3_isOpen, cX3_isOpen, 2, (some .boolean))
theorem kd_X3_isOpen : mw_Md mX3_isOpen 1 := ⟨List.mem_of_getElem? (i := 297) (by decide +kernel), k_inX3, by decide +kernel, by decide +kernel, by decide +kernel⟩
theorem kv_X3_isOpen : mw_Mv mX3_isOpen := ⟨List.mem_of_getElem? (i := 295) (by decide +kernel), List.mem_of_getElem? (i := 296) (by decide +kernel)⟩
def mX3_isProved : mw_M := (yX3_isProved, cX3_isProved, 2, (some .boolean))
theorem kd_X3_isProved : mw_Md mX3_isProved 1 := ⟨List.mem_of_getElem? (i := 289) (by decide +kernel), k_inX3, by decide +kernel, by decide +kernel, by decide +kernel⟩
theorem kv_X3_isProved : mw_Mv mX3_isProved := ⟨List.mem_of_getElem? (i := 287) (by decide +kernel), List.mem_of_getElem? (i := 288) (by decide +kernel)⟩
def mX3_droppedBy : mw_M := (yX3_droppedBy, cX3_droppedBy, 2, (some .int))
theorem kd_X3_droppedBy : mw_Md mX3_droppedBy 1 := ⟨List.mem_of_getElem? (i := 281) (by decide +kernel), k_inX3, by decide +kernel, by decide +kernel, by decide +kernel⟩
theorem kv_X3_droppedBy : mw_Mv mX3_droppedBy := ⟨List.mem_of_getElem? (i := 279) (by decide +kernel), List.mem_of_getElem? (i := 280) (by decide +kernel)⟩
def mX3_waitingFor : mw_M := (yX3_waitingFor, cX3_waitingFor, 4, (some .int))
theorem kd_X3_waitingFor : mw_Md mX3_waitingFor 1 := ⟨List.mem_of_getElem? (i := 341) (by decide +kernel), k_inX3, by decide +kernel, by decide +kernel, by decide +kernel⟩
theorem kv_X3_waitingFor : mw_Mv mX3_waitingFor := ⟨List.mem_of_getElem? (i := 339) (by decide +kernel), List.mem_of_getElem? (i := 340) (by decide +kernel)⟩
def mX3_isSettled : mw_M := (yX3_isSettled, cX3_isSettled, 2, (some .boolean))
theorem kd_X3_isSettled : mw_Md mX3_isSettled 0 := ⟨List.mem_of_getElem? (i := 285) (by decide +kernel), k_inX3, by decide +kernel, by decide +kernel, by decide +kernel⟩
theorem kv_X3_isSettled : mw_Mv mX3_isSettled := ⟨List.mem_of_getElem? (i := 283) (by decide +kernel), List.mem_of_getElem? (i := 284) (by decide +kernel)⟩
def mX3_draw : mw_M := (yX3_draw, cX3_draw, 2, (some .int))
theorem kd_X3_draw : mw_Md mX3_draw 1 := ⟨List.mem_of_getElem? (i := 585) (by decide +kernel), k_inX3, by decide +kernel, by decide +kernel, by decide +kernel⟩
theorem kv_X3_draw : mw_Mv mX3_draw := ⟨List.mem_of_getElem? (i := 583) (by decide +kernel), List.mem_of_getElem? (i := 584) (by decide +kernel)⟩
def mX3_writes : mw_M := (yX3_writes, cX3_writes, 5, none)
theorem kd_X3_writes : mw_Md mX3_writes 4 := ⟨List.mem_of_getElem? (i := 388) (by decide +kernel), k_inX3, by decide +kernel, by decide +kernel, by decide +kernel⟩
theorem kv_X3_writes : mw_Mv mX3_writes := ⟨List.mem_of_getElem? (i := 386) (by decide +kernel), List.mem_of_getElem? (i := 387) (by decide +kernel)⟩
def mX3_sends : mw_M := (yX3_sends, cX3_sends, 8, none)
theorem kd_X3_sends : mw_Md mX3_sends 4 := ⟨List.mem_of_getElem? (i := 401) (by decide +kernel), k_inX3, by decide +kernel, by decide +kernel, by decide +kernel⟩
theorem kv_X3_sends : mw_Mv mX3_sends := ⟨List.mem_of_getElem? (i := 400) (by decide +kernel), List.mem_of_getElem? (i := 3) (by decide +kernel)⟩
def mX3_loses : mw_M := (yX3_loses, cX3_loses, 2, none)
theorem kd_X3_loses : mw_Md mX3_loses 1 := ⟨List.mem_of_getElem? (i := 528) (by decide +kernel), k_inX3, by decide +kernel, by decide +kernel, by decide +kernel⟩
theorem kv_X3_loses : mw_Mv mX3_loses := ⟨List.mem_of_getElem? (i := 526) (by decide +kernel), List.mem_of_getElem? (i := 527) (by decide +kernel)⟩
def mX3_delivers : mw_M := (yX3_delivers, cX3_delivers, 9, (some .int))
theorem kd_X3_delivers : mw_Md mX3_delivers 1 := ⟨List.mem_of_getElem? (i := 473) (by decide +kernel), k_inX3, by decide +kernel, by decide +kernel, by decide +kernel⟩
theorem kv_X3_delivers : mw_Mv mX3_delivers := ⟨List.mem_of_getElem? (i := 471) (by decide +kernel), List.mem_of_getElem? (i := 472) (by decide +kernel)⟩
def mX3_sizeOf : mw_M := (yX3_sizeOf, cX3_sizeOf, 1, (some .int))
theorem kd_X3_sizeOf : mw_Md mX3_sizeOf 1 := ⟨List.mem_of_getElem? (i := 395) (by decide +kernel), k_inX3, by decide +kernel, by decide +kernel, by decide +kernel⟩
theorem ks_X3_sizeOf : Cond.static (mX3_sizeOf).1 ∈ lw_tbl := List.mem_of_getElem? (i := 394) (by decide +kernel)
def mX3_mayGo : mw_M := (yX3_mayGo, cX3_mayGo, 3, (some .boolean))
theorem kd_X3_mayGo : mw_Md mX3_mayGo 2 := ⟨List.mem_of_getElem? (i := 392) (by decide +kernel), k_inX3, by decide +kernel, by decide +kernel, by decide +kernel⟩
theorem kv_X3_mayGo : mw_Mv mX3_mayGo := ⟨List.mem_of_getElem? (i := 391) (by decide +kernel), List.mem_of_getElem? (i := 2) (by decide +kernel)⟩
def mX3_letsOut : mw_M := (yX3_letsOut, cX3_letsOut, 6, none)
theorem kd_X3_letsOut : mw_Md mX3_letsOut 1 := ⟨List.mem_of_getElem? (i := 503) (by decide +kernel), k_inX3, by decide +kernel, by decide +kernel, by decide +kernel⟩
theorem kv_X3_letsOut : mw_Mv mX3_letsOut := ⟨List.mem_of_getElem? (i := 502) (by decide +kernel), List.mem_of_getElem? (i := 11) (by decide +kernel)⟩
def mX3_dropsHeldOf : mw_M := (yX3_dropsHeldOf, cX3_dropsHeldOf, 3, none)
theorem kd_X3_dropsHeldOf : mw_Md mX3_dropsHeldOf 1 := ⟨List.mem_of_getElem? (i := 567) (by decide +kernel), k_inX3, by decide +kernel, by decide +kernel, by decide +kernel⟩
theorem kv_X3_dropsHeldOf : mw_Mv mX3_dropsHeldOf := ⟨List.mem_of_getElem? (i := 566) (by decide +kernel), List.mem_of_getElem? (i := 18) (by decide +kernel)⟩
def mX3_challenges : mw_M := (yX3_challenges, cX3_challenges, 5, (some .int))
theorem kd_X3_challenges : mw_Md mX3_challenges 2 := ⟨List.mem_of_getElem? (i := 436) (by decide +kernel), k_inX3, by decide +kernel, by decide +kernel, by decide +kernel⟩
theorem kv_X3_challenges : mw_Mv mX3_challenges := ⟨List.mem_of_getElem? (i := 435) (by decide +kernel), List.mem_of_getElem? (i := 4) (by decide +kernel)⟩
def mX3_askedWith : mw_M := (yX3_askedWith, cX3_askedWith, 5, (some .int))
theorem kd_X3_askedWith : mw_Md mX3_askedWith 3 := ⟨List.mem_of_getElem? (i := 490) (by decide +kernel), k_inX3, by decide +kernel, by decide +kernel, by decide +kernel⟩
theorem kv_X3_askedWith : mw_Mv mX3_askedWith := ⟨List.mem_of_getElem? (i := 489) (by decide +kernel), List.mem_of_getElem? (i := 8) (by decide +kernel)⟩
def mX3_answered : mw_M := (yX3_answered, cX3_answered, 5, (some .int))
theorem kd_X3_answered : mw_Md mX3_answered 2 := ⟨List.mem_of_getElem? (i := 499) (by decide +kernel), k_inX3, by decide +kernel, by decide +kernel, by decide +kernel⟩
theorem kv_X3_answered : mw_Mv mX3_answered := ⟨List.mem_of_getElem? (i := 498) (by decide +kernel), List.mem_of_getElem? (i := 10) (by decide +kernel)⟩
def mX3_houseTakes : mw_M := (yX3_houseTakes, cX3_houseTakes, 6, (some .int))
theorem kd_X3_houseTakes : mw_Md mX3_houseTakes 5 := ⟨List.mem_of_getElem? (i := 477) (by decide +kernel), k_inX3, by decide +kernel, by decide +kernel, by decide +kernel⟩
theorem kv_X3_houseTakes : mw_Mv mX3_houseTakes := ⟨List.mem_of_getElem? (i := 476) (by decide +kernel), List.mem_of_getElem? (i := 5) (by decide +kernel)⟩
def mX3_houseFollows : mw_M := (yX3_houseFollows, cX3_houseFollows, 5, (some .boolean))
theorem kd_X3_houseFollows : mw_Md mX3_houseFollows 3 := ⟨List.mem_of_getElem? (i := 482) (by decide +kernel), k_inX3, by decide +kernel, by decide +kernel, by decide +kernel⟩
theorem kv_X3_houseFollows : mw_Mv mX3_houseFollows := ⟨List.mem_of_getElem? (i := 481) (by decide +kernel), List.mem_of_getElem? (i := 6) (by decide +kernel)⟩
def mX3_houseDoubts : mw_M := (yX3_houseDoubts, cX3_houseDoubts, 2, none)
theorem kd_X3_houseDoubts : mw_Md mX3_houseDoubts 1 := ⟨List.mem_of_getElem? (i := 486) (by decide +kernel), k_inX3, by decide +kernel, by decide +kernel, by decide +kernel⟩
theorem kv_X3_houseDoubts : mw_Mv mX3_houseDoubts := ⟨List.mem_of_getElem? (i := 485) (by decide +kernel), List.mem_of_getElem? (i := 7) (by decide +kernel)⟩
def mX3_houseActs : mw_M := (yX3_houseActs, cX3_houseActs, 7, none)
theorem kd_X3_houseActs : mw_Md mX3_houseActs 4 := ⟨List.mem_of_getElem? (i := 495) (by decide +kernel), k_inX3, by decide +kernel, by decide +kernel, by decide +kernel⟩
theorem kv_X3_houseActs : mw_Mv mX3_houseActs := ⟨List.mem_of_getElem? (i := 494) (by decide +kernel), List.mem_of_getElem? (i := 9) (by decide +kernel)⟩
def mX3_replaces : mw_M := (yX3_replaces, cX3_replaces, 3, (some .int))
theorem kd_X3_replaces : mw_Md mX3_replaces 1 := ⟨List.mem_of_getElem? (i := 507) (by decide +kernel), k_inX3, by decide +kernel, by decide +kernel, by decide +kernel⟩
theorem kv_X3_replaces : mw_Mv mX3_replaces := ⟨List.mem_of_getElem? (i := 506) (by decide +kernel), List.mem_of_getElem? (i := 12) (by decide +kernel)⟩
def mX3_guestTakes : mw_M := (yX3_guestTakes, cX3_guestTakes, 5, (some .int))
theorem kd_X3_guestTakes : mw_Md mX3_guestTakes 4 := ⟨List.mem_of_getElem? (i := 516) (by decide +kernel), k_inX3, by decide +kernel, by decide +kernel, by decide +kernel⟩
theorem kv_X3_guestTakes : mw_Mv mX3_guestTakes := ⟨List.mem_of_getElem? (i := 515) (by decide +kernel), List.mem_of_getElem? (i := 13) (by decide +kernel)⟩
def mX3_guestActs : mw_M := (yX3_guestActs, cX3_guestActs, 4, none)
theorem kd_X3_guestActs : mw_Md mX3_guestActs 3 := ⟨List.mem_of_getElem? (i := 520) (by decide +kernel), k_inX3, by decide +kernel, by decide +kernel, by decide +kernel⟩
theorem kv_X3_guestActs : mw_Mv mX3_guestActs := ⟨List.mem_of_getElem? (i := 519) (by decide +kernel), List.mem_of_getElem? (i := 14) (by decide +kernel)⟩
def mX3_opens : mw_M := (yX3_opens, cX3_opens, 3, (some .int))
theorem kd_X3_opens : mw_Md mX3_opens 1 := ⟨List.mem_of_getElem? (i := 423) (by decide +kernel), k_inX3, by decide +kernel, by decide +kernel, by decide +kernel⟩
theorem kv_X3_opens : mw_Mv mX3_opens := ⟨List.mem_of_getElem? (i := 421) (by decide +kernel), List.mem_of_getElem? (i := 422) (by decide +kernel)⟩
def mX3_closes : mw_M := (yX3_closes, cX3_closes, 3, (some .int))
theorem kd_X3_closes : mw_Md mX3_closes 1 := ⟨List.mem_of_getElem? (i := 457) (by decide +kernel), k_inX3, by decide +kernel, by decide +kernel, by decide +kernel⟩
theorem kv_X3_closes : mw_Mv mX3_closes := ⟨List.mem_of_getElem? (i := 455) (by decide +kernel), List.mem_of_getElem? (i := 456) (by decide +kernel)⟩
def mX3_goesTo : mw_M := (yX3_goesTo, cX3_goesTo, 2, none)
theorem kd_X3_goesTo : mw_Md mX3_goesTo 1 := ⟨List.mem_of_getElem? (i := 444) (by decide +kernel), k_inX3, by decide +kernel, by decide +kernel, by decide +kernel⟩
theorem kv_X3_goesTo : mw_Mv mX3_goesTo := ⟨List.mem_of_getElem? (i := 442) (by decide +kernel), List.mem_of_getElem? (i := 443) (by decide +kernel)⟩
def mX3_passes : mw_M := (yX3_passes, cX3_passes, 3, none)
theorem kd_X3_passes : mw_Md mX3_passes 0 := ⟨List.mem_of_getElem? (i := 551) (by decide +kernel), k_inX3, by decide +kernel, by decide +kernel, by decide +kernel⟩
theorem kv_X3_passes : mw_Mv mX3_passes := ⟨List.mem_of_getElem? (i := 549) (by decide +kernel), List.mem_of_getElem? (i := 550) (by decide +kernel)⟩
def mX3_asksAgain : mw_M := (yX3_asksAgain, cX3_asksAgain, 2, none)
theorem kd_X3_asksAgain : mw_Md mX3_asksAgain 1 := ⟨List.mem_of_getElem? (i := 555) (by decide +kernel), k_inX3, by decide +kernel, by decide +kernel, by decide +kernel⟩
theorem kv_X3_asksAgain : mw_Mv mX3_asksAgain := ⟨List.mem_of_getElem? (i := 554) (by decide +kernel), List.mem_of_getElem? (i := 15) (by decide +kernel)⟩
def mX3_givesUp : mw_M := (yX3_givesUp, cX3_givesUp, 4, none)
theorem kd_X3_givesUp : mw_Md mX3_givesUp 1 := ⟨List.mem_of_getElem? (i := 559) (by decide +kernel), k_inX3, by decide +kernel, by decide +kernel, by decide +kernel⟩
theorem kv_X3_givesUp : mw_Mv mX3_givesUp := ⟨List.mem_of_getElem? (i := 558) (by decide +kernel), List.mem_of_getElem? (i := 16) (by decide +kernel)⟩
def mX3_forgets : mw_M := (yX3_forgets, cX3_forgets, 2, none)
theorem kd_X3_forgets : mw_Md mX3_forgets 1 := ⟨List.mem_of_getElem? (i := 563) (by decide +kernel), k_inX3, by decide +kernel, by decide +kernel, by decide +kernel⟩
theorem kv_X3_forgets : mw_Mv mX3_forgets := ⟨List.mem_of_getElem? (i := 562) (by decide +kernel), List.mem_of_getElem? (i := 17) (by decide +kernel)⟩
def mX3_leaves : mw_M := (yX3_leaves, cX3_leaves, 2, none)
theorem kd_X3_leaves : mw_Md mX3_leaves 1 := ⟨List.mem_of_getElem? (i := 571) (by decide +kernel), k_inX3, by decide +kernel, by decide +kernel, by decide +kernel⟩
theorem kv_X3_leaves : mw_Mv mX3_leaves := ⟨List.mem_of_getElem? (i := 570) (by decide +kernel), List.mem_of_getElem? (i := 19) (by decide +kernel)⟩
def mX4_init : mw_M := (yX4_init, cX4_init, 1, none)
theorem kd_X4_init : mw_Md mX4_init 0 := ⟨List.mem_of_getElem? (i := 78) (by decide +kernel), k_inX4, by decide +kernel, by decide +kernel, by decide +kernel⟩
theorem ki_X4_init : Cond.instanceMethod (mX4_init).1 ∈ lw_tbl := List.mem_of_getElem? (i := 77) (by decide +kernel)
def mX4_told : mw_M := (yX4_told, cX4_told, 2, (some .int))
theorem kd_X4_told : mw_Md mX4_told 1 := ⟨List.mem_of_getElem? (i := 263) (by decide +kernel), k_inX4, by decide +kernel, by decide +kernel, by decide +kernel⟩
theorem kv_X4_told : mw_Mv mX4_told := ⟨List.mem_of_getElem? (i := 261) (by decide +kernel), List.mem_of_getElem? (i := 262) (by decide +kernel)⟩
def mX4_end : mw_M := (yX4_end, cX4_end, 4, (some .int))
theorem kd_X4_end : mw_Md mX4_end 2 := ⟨List.mem_of_getElem? (i := 325) (by decide +kernel), k_inX4, by decide +kernel, by decide +kernel, by decide +kernel⟩
theorem kv_X4_end : mw_Mv mX4_end := ⟨List.mem_of_getElem? (i := 323) (by decide +kernel), List.mem_of_getElem? (i := 324) (by decide +kernel)⟩
def mX4_place : mw_M := (yX4_place, cX4_place, 3, (some .int))
theorem kd_X4_place : mw_Md mX4_place 2 := ⟨List.mem_of_getElem? (i := 334) (by decide +kernel), k_inX4, by decide +kernel, by decide +kernel, by decide +kernel⟩
theorem kv_X4_place : mw_Mv mX4_place := ⟨List.mem_of_getElem? (i := 332) (by decide +kernel), List.mem_of_getElem? (i := 333) (by decide +kernel)⟩
def mX4_letter : mw_M := (yX4_letter, cX4_letter, 3, (some .int))
theorem kd_X4_letter : mw_Md mX4_letter 2 := ⟨List.mem_of_getElem? (i := 356) (by decide +kernel), k_inX4, by decide +kernel, by decide +kernel, by decide +kernel⟩
theorem kv_X4_letter : mw_Mv mX4_letter := ⟨List.mem_of_getElem? (i := 354) (by decide +kernel), List.mem_of_getElem? (i := 355) (by decide +kernel)⟩
def mX4_challenge : mw_M := (yX4_challenge, cX4_challenge, 3, (some .int))
theorem kd_X4_challenge : mw_Md mX4_challenge 2 := ⟨List.mem_of_getElem? (i := 360) (by decide +kernel), k_inX4, by decide +kernel, by decide +kernel, by decide +kernel⟩
theorem kv_X4_challenge : mw_Mv mX4_challenge := ⟨List.mem_of_getElem? (i := 358) (by decide +kernel), List.mem_of_getElem? (i := 359) (by decide +kernel)⟩
def mX4_held : mw_M := (yX4_held, cX4_held, 3, (some .int))
theorem kd_X4_held : mw_Md mX4_held 2 := ⟨List.mem_of_getElem? (i := 364) (by decide +kernel), k_inX4, by decide +kernel, by decide +kernel, by decide +kernel⟩
theorem kv_X4_held : mw_Mv mX4_held := ⟨List.mem_of_getElem? (i := 362) (by decide +kernel), List.mem_of_getElem? (i := 363) (by decide +kernel)⟩
def mX4_name : mw_M := (yX4_name, cX4_name, 2, (some .int))
theorem kd_X4_name : mw_Md mX4_name 1 := ⟨List.mem_of_getElem? (i := 368) (by decide +kernel), k_inX4, by decide +kernel, by decide +kernel, by decide +kernel⟩
theorem kv_X4_name : mw_Mv mX4_name := ⟨List.mem_of_getElem? (i := 366) (by decide +kernel), List.mem_of_getElem? (i := 367) (by decide +kernel)⟩
def mX4_word : mw_M := (yX4_word, cX4_word, 3, (some .int))
theorem kd_X4_word : mw_Md mX4_word 2 := ⟨List.mem_of_getElem? (i := 372) (by decide +kernel), k_inX4, by decide +kernel, by decide +kernel, by decide +kernel⟩
theorem kv_X4_word : mw_Mv mX4_word := ⟨List.mem_of_getElem? (i := 370) (by decide +kernel), List.mem_of_getElem? (i := 371) (by decide +kernel)⟩
def mX4_say : mw_M := (yX4_say, cX4_say, 1, (some .int))
theorem kd_X4_say : mw_Md mX4_say 0 := ⟨List.mem_of_getElem? (i := 379) (by decide +kernel), k_inX4, by decide +kernel, by decide +kernel, by decide +kernel⟩
theorem kv_X4_say : mw_Mv mX4_say := ⟨List.mem_of_getElem? (i := 377) (by decide +kernel), List.mem_of_getElem? (i := 378) (by decide +kernel)⟩
def mX4_open : mw_M := (yX4_open, cX4_open, 2, (some .int))
theorem kd_X4_open : mw_Md mX4_open 1 := ⟨List.mem_of_getElem? (i := 417) (by decide +kernel), k_inX4, by decide +kernel, by decide +kernel, by decide +kernel⟩
theorem kv_X4_open : mw_Mv mX4_open := ⟨List.mem_of_getElem? (i := 415) (by decide +kernel), List.mem_of_getElem? (i := 416) (by decide +kernel)⟩
def mX4_go : mw_M := (yX4_go, cX4_go, 2, (some .int))
theorem kd_X4_go : mw_Md mX4_go 1 := ⟨List.mem_of_getElem? (i := 440) (by decide +kernel), k_inX4, by decide +kernel, by decide +kernel, by decide +kernel⟩
theorem kv_X4_go : mw_Mv mX4_go := ⟨List.mem_of_getElem? (i := 438) (by decide +kernel), List.mem_of_getElem? (i := 439) (by decide +kernel)⟩
def mX4_close : mw_M := (yX4_close, cX4_close, 2, (some .int))
theorem kd_X4_close : mw_Md mX4_close 1 := ⟨List.mem_of_getElem? (i := 453) (by decide +kernel), k_inX4, by decide +kernel, by decide +kernel, by decide +kernel⟩
theorem kv_X4_close : mw_Mv mX4_close := ⟨List.mem_of_getElem? (i := 451) (by decide +kernel), List.mem_of_getElem? (i := 452) (by decide +kernel)⟩
def mX4_speak : mw_M := (yX4_speak, cX4_speak, 1, (some .int))
theorem kd_X4_speak : mw_Md mX4_speak 0 := ⟨List.mem_of_getElem? (i := 461) (by decide +kernel), k_inX4, by decide +kernel, by decide +kernel, by decide +kernel⟩
theorem kv_X4_speak : mw_Mv mX4_speak := ⟨List.mem_of_getElem? (i := 459) (by decide +kernel), List.mem_of_getElem? (i := 460) (by decide +kernel)⟩
def mX4_again : mw_M := (yX4_again, cX4_again, 3, (some .int))
theorem kd_X4_again : mw_Md mX4_again 1 := ⟨List.mem_of_getElem? (i := 465) (by decide +kernel), k_inX4, by decide +kernel, by decide +kernel, by decide +kernel⟩
theorem kv_X4_again : mw_Mv mX4_again := ⟨List.mem_of_getElem? (i := 463) (by decide +kernel), List.mem_of_getElem? (i := 464) (by decide +kernel)⟩
def mX4_arrive : mw_M := (yX4_arrive, cX4_arrive, 2, (some .int))
theorem kd_X4_arrive : mw_Md mX4_arrive 1 := ⟨List.mem_of_getElem? (i := 469) (by decide +kernel), k_inX4, by decide +kernel, by decide +kernel, by decide +kernel⟩
theorem kv_X4_arrive : mw_Mv mX4_arrive := ⟨List.mem_of_getElem? (i := 467) (by decide +kernel), List.mem_of_getElem? (i := 468) (by decide +kernel)⟩
def mX4_lose : mw_M := (yX4_lose, cX4_lose, 2, (some .int))
theorem kd_X4_lose : mw_Md mX4_lose 1 := ⟨List.mem_of_getElem? (i := 524) (by decide +kernel), k_inX4, by decide +kernel, by decide +kernel, by decide +kernel⟩
theorem kv_X4_lose : mw_Mv mX4_lose := ⟨List.mem_of_getElem? (i := 522) (by decide +kernel), List.mem_of_getElem? (i := 523) (by decide +kernel)⟩
def mX4_twice : mw_M := (yX4_twice, cX4_twice, 2, (some .int))
theorem kd_X4_twice : mw_Md mX4_twice 1 := ⟨List.mem_of_getElem? (i := 533) (by decide +kernel), k_inX4, by decide +kernel, by decide +kernel, by decide +kernel⟩
theorem kv_X4_twice : mw_Mv mX4_twice := ⟨List.mem_of_getElem? (i := 531) (by decide +kernel), List.mem_of_getElem? (i := 532) (by decide +kernel)⟩
def mX4_forge : mw_M := (yX4_forge, cX4_forge, 6, (some .int))
theorem kd_X4_forge : mw_Md mX4_forge 5 := ⟨List.mem_of_getElem? (i := 542) (by decide +kernel), k_inX4, by decide +kernel, by decide +kernel, by decide +kernel⟩
theorem kv_X4_forge : mw_Mv mX4_forge := ⟨List.mem_of_getElem? (i := 540) (by decide +kernel), List.mem_of_getElem? (i := 541) (by decide +kernel)⟩
def mX4_tick : mw_M := (yX4_tick, cX4_tick, 1, (some .int))
theorem kd_X4_tick : mw_Md mX4_tick 0 := ⟨List.mem_of_getElem? (i := 547) (by decide +kernel), k_inX4, by decide +kernel, by decide +kernel, by decide +kernel⟩
theorem kv_X4_tick : mw_Mv mX4_tick := ⟨List.mem_of_getElem? (i := 545) (by decide +kernel), List.mem_of_getElem? (i := 546) (by decide +kernel)⟩
def mX4_drift : mw_M := (yX4_drift, cX4_drift, 3, (some .int))
theorem kd_X4_drift : mw_Md mX4_drift 1 := ⟨List.mem_of_getElem? (i := 577) (by decide +kernel), k_inX4, by decide +kernel, by decide +kernel, by decide +kernel⟩
theorem kv_X4_drift : mw_Mv mX4_drift := ⟨List.mem_of_getElem? (i := 575) (by decide +kernel), List.mem_of_getElem? (i := 576) (by decide +kernel)⟩
def mX4_write : mw_M := (yX4_write, cX4_write, 4, (some .int))
theorem kd_X4_write : mw_Md mX4_write 3 := ⟨List.mem_of_getElem? (i := 602) (by decide +kernel), k_inX4, by decide +kernel, by decide +kernel, by decide +kernel⟩
theorem kv_X4_write : mw_Mv mX4_write := ⟨List.mem_of_getElem? (i := 600) (by decide +kernel), List.mem_of_getElem? (i := 601) (by decide +kernel)⟩
def mX4_tear : mw_M := (yX4_tear, cX4_tear, 2, (some .int))
theorem kd_X4_tear : mw_Md mX4_tear 0 := ⟨List.mem_of_getElem? (i := 606) (by decide +kernel), k_inX4, by decide +kernel, by decide +kernel, by decide +kernel⟩
theorem kv_X4_tear : mw_Mv mX4_tear := ⟨List.mem_of_getElem? (i := 604) (by decide +kernel), List.mem_of_getElem? (i := 605) (by decide +kernel)⟩
def mX4_seed : mw_M := (yX4_seed, cX4_seed, 3, (some .int))
theorem kd_X4_seed : mw_Md mX4_seed 1 := ⟨List.mem_of_getElem? (i := 614) (by decide +kernel), k_inX4, by decide +kernel, by decide +kernel, by decide +kernel⟩
theorem kv_X4_seed : mw_Mv mX4_seed := ⟨List.mem_of_getElem? (i := 612) (by decide +kernel), List.mem_of_getElem? (i := 613) (by decide +kernel)⟩
def mX4_keep : mw_M := (yX4_keep, cX4_keep, 3, (some .int))
theorem kd_X4_keep : mw_Md mX4_keep 1 := ⟨List.mem_of_getElem? (i := 618) (by decide +kernel), k_inX4, by decide +kernel, by decide +kernel, by decide +kernel⟩
theorem kv_X4_keep : mw_Mv mX4_keep := ⟨List.mem_of_getElem? (i := 616) (by decide +kernel), List.mem_of_getElem? (i := 617) (by decide +kernel)⟩
def mX4_goBack : mw_M := (yX4_goBack, cX4_goBack, 3, (some .int))
theorem kd_X4_goBack : mw_Md mX4_goBack 1 := ⟨List.mem_of_getElem? (i := 641) (by decide +kernel), k_inX4, by decide +kernel, by decide +kernel, by decide +kernel⟩
theorem kv_X4_goBack : mw_Mv mX4_goBack := ⟨List.mem_of_getElem? (i := 639) (by decide +kernel), List.mem_of_getElem? (i := 640) (by decide +kernel)⟩
def mX4_isEnd : mw_M := (yX4_isEnd, cX4_isEnd, 1, (some .boolean))
theorem kd_X4_isEnd : mw_Md mX4_isEnd 1 := ⟨List.mem_of_getElem? (i := 328) (by decide +kernel), k_inX4, by decide +kernel, by decide +kernel, by decide +kernel⟩
theorem ks_X4_isEnd : Cond.static (mX4_isEnd).1 ∈ lw_tbl := List.mem_of_getElem? (i := 327) (by decide +kernel)
def mX4_isPlace : mw_M := (yX4_isPlace, cX4_isPlace, 1, (some .boolean))
theorem kd_X4_isPlace : mw_Md mX4_isPlace 1 := ⟨List.mem_of_getElem? (i := 337) (by decide +kernel), k_inX4, by decide +kernel, by decide +kernel, by decide +kernel⟩
theorem ks_X4_isPlace : Cond.static (mX4_isPlace).1 ∈ lw_tbl := List.mem_of_getElem? (i := 336) (by decide +kernel)
def mX4_otherOf : mw_M := (yX4_otherOf, cX4_otherOf, 1, (some .int))
theorem kd_X4_otherOf : mw_Md mX4_otherOf 1 := ⟨List.mem_of_getElem? (i := 375) (by decide +kernel), k_inX4, by decide +kernel, by decide +kernel, by decide +kernel⟩
theorem ks_X4_otherOf : Cond.static (mX4_otherOf).1 ∈ lw_tbl := List.mem_of_getElem? (i := 374) (by decide +kernel)
def mX4_cell : mw_M := (yX4_cell, cX4_cell, 3, (some .int))
theorem kd_X4_cell : mw_Md mX4_cell 3 := ⟨List.mem_of_getElem? (i := 344) (by decide +kernel), k_inX4, by decide +kernel, by decide +kernel, by decide +kernel⟩
theorem ks_X4_cell : Cond.static (mX4_cell).1 ∈ lw_tbl := List.mem_of_getElem? (i := 343) (by decide +kernel)
def mX4_nextWord : mw_M := (yX4_nextWord, cX4_nextWord, 4, (some .int))
theorem kd_X4_nextWord : mw_Md mX4_nextWord 1 := ⟨List.mem_of_getElem? (i := 383) (by decide +kernel), k_inX4, by decide +kernel, by decide +kernel, by decide +kernel⟩
theorem kv_X4_nextWord : mw_Mv mX4_nextWord := ⟨List.mem_of_getElem? (i := 382) (by decide +kernel), List.mem_of_getElem? (i := 1) (by decide +kernel)⟩
def mX4_firstWrong : mw_M := (yX4_firstWrong, cX4_firstWrong, 3, (some .int))
theorem kd_X4_firstWrong : mw_Md mX4_firstWrong 0 := ⟨List.mem_of_getElem? (i := 314) (by decide +kernel), k_inX4, by decide +kernel, by decide +kernel, by decide +kernel⟩
theorem kv_X4_firstWrong : mw_Mv mX4_firstWrong := ⟨List.mem_of_getElem? (i := 313) (by decide +kernel), List.mem_of_getElem? (i := 0) (by decide +kernel)⟩
def mX4_drawOne : mw_M := (yX4_drawOne, cX4_drawOne, 2, none)
theorem kd_X4_drawOne : mw_Md mX4_drawOne 0 := ⟨List.mem_of_getElem? (i := 581) (by decide +kernel), k_inX4, by decide +kernel, by decide +kernel, by decide +kernel⟩
theorem kv_X4_drawOne : mw_Mv mX4_drawOne := ⟨List.mem_of_getElem? (i := 580) (by decide +kernel), List.mem_of_getElem? (i := 20) (by decide +kernel)⟩
def mX4_goOrOpen : mw_M := (yX4_goOrOpen, cX4_goOrOpen, 2, none)
theorem kd_X4_goOrOpen : mw_Md mX4_goOrOpen 1 := ⟨List.mem_of_getElem? (i := 595) (by decide +kernel), k_inX4, by decide +kernel, by decide +kernel, by decide +kernel⟩
theorem kv_X4_goOrOpen : mw_Mv mX4_goOrOpen := ⟨List.mem_of_getElem? (i := 594) (by decide +kernel), List.mem_of_getElem? (i := 21) (by decide +kernel)⟩
def mX5_init : mw_M := (yX5_init, cX5_init, 2, none)
theorem kd_X5_init : mw_Md mX5_init 0 := ⟨List.mem_of_getElem? (i := 646) (by decide +kernel), k_inX5, by decide +kernel, by decide +kernel, by decide +kernel⟩
theorem ki_X5_init : Cond.instanceMethod (mX5_init).1 ∈ lw_tbl := List.mem_of_getElem? (i := 645) (by decide +kernel)
def mX5_in : mw_M := (yX5_in, cX5_in, 6, (some .boolean))
theorem kd_X5_in : mw_Md mX5_in 3 := ⟨List.mem_of_getElem? (i := 707) (by decide +kernel), k_inX5, by decide +kernel, by decide +kernel, by decide +kernel⟩
theorem ks_X5_in : Cond.static (mX5_in).1 ∈ lw_tbl := List.mem_of_getElem? (i := 706) (by decide +kernel)
def mX5_sizeOf : mw_M := (yX5_sizeOf, cX5_sizeOf, 1, (some .int))
theorem kd_X5_sizeOf : mw_Md mX5_sizeOf 1 := ⟨List.mem_of_getElem? (i := 770) (by decide +kernel), k_inX5, by decide +kernel, by decide +kernel, by decide +kernel⟩
theorem ks_X5_sizeOf : Cond.static (mX5_sizeOf).1 ∈ lw_tbl := List.mem_of_getElem? (i := 769) (by decide +kernel)
def mX5_removeAt : mw_M := (yX5_removeAt, cX5_removeAt, 6, none)
theorem kd_X5_removeAt : mw_Md mX5_removeAt 4 := ⟨List.mem_of_getElem? (i := 782) (by decide +kernel), k_inX5, by decide +kernel, by decide +kernel, by decide +kernel⟩
theorem kv_X5_removeAt : mw_Mv mX5_removeAt := ⟨List.mem_of_getElem? (i := 781) (by decide +kernel), List.mem_of_getElem? (i := 35) (by decide +kernel)⟩
def mX5_send : mw_M := (yX5_send, cX5_send, 7, none)
theorem kd_X5_send : mw_Md mX5_send 4 := ⟨List.mem_of_getElem? (i := 774) (by decide +kernel), k_inX5, by decide +kernel, by decide +kernel, by decide +kernel⟩
theorem kv_X5_send : mw_Mv mX5_send := ⟨List.mem_of_getElem? (i := 773) (by decide +kernel), List.mem_of_getElem? (i := 33) (by decide +kernel)⟩
def mX5_maySend : mw_M := (yX5_maySend, cX5_maySend, 3, (some .boolean))
theorem kd_X5_maySend : mw_Md mX5_maySend 2 := ⟨List.mem_of_getElem? (i := 767) (by decide +kernel), k_inX5, by decide +kernel, by decide +kernel, by decide +kernel⟩
theorem kv_X5_maySend : mw_Mv mX5_maySend := ⟨List.mem_of_getElem? (i := 766) (by decide +kernel), List.mem_of_getElem? (i := 32) (by decide +kernel)⟩
def mX5_hold : mw_M := (yX5_hold, cX5_hold, 5, none)
theorem kd_X5_hold : mw_Md mX5_hold 3 := ⟨List.mem_of_getElem? (i := 778) (by decide +kernel), k_inX5, by decide +kernel, by decide +kernel, by decide +kernel⟩
theorem kv_X5_hold : mw_Mv mX5_hold := ⟨List.mem_of_getElem? (i := 777) (by decide +kernel), List.mem_of_getElem? (i := 34) (by decide +kernel)⟩
def mX5_goes : mw_M := (yX5_goes, cX5_goes, 5, none)
theorem kd_X5_goes : mw_Md mX5_goes 4 := ⟨List.mem_of_getElem? (i := 763) (by decide +kernel), k_inX5, by decide +kernel, by decide +kernel, by decide +kernel⟩
theorem kv_X5_goes : mw_Mv mX5_goes := ⟨List.mem_of_getElem? (i := 762) (by decide +kernel), List.mem_of_getElem? (i := 31) (by decide +kernel)⟩
def mX5_firstHeld : mw_M := (yX5_firstHeld, cX5_firstHeld, 3, (some .int))
theorem kd_X5_firstHeld : mw_Md mX5_firstHeld 1 := ⟨List.mem_of_getElem? (i := 875) (by decide +kernel), k_inX5, by decide +kernel, by decide +kernel, by decide +kernel⟩
theorem kv_X5_firstHeld : mw_Mv mX5_firstHeld := ⟨List.mem_of_getElem? (i := 874) (by decide +kernel), List.mem_of_getElem? (i := 52) (by decide +kernel)⟩
def mX5_letOut : mw_M := (yX5_letOut, cX5_letOut, 5, none)
theorem kd_X5_letOut : mw_Md mX5_letOut 1 := ⟨List.mem_of_getElem? (i := 871) (by decide +kernel), k_inX5, by decide +kernel, by decide +kernel, by decide +kernel⟩
theorem kv_X5_letOut : mw_Mv mX5_letOut := ⟨List.mem_of_getElem? (i := 870) (by decide +kernel), List.mem_of_getElem? (i := 51) (by decide +kernel)⟩
def mX5_challengeNow : mw_M := (yX5_challengeNow, cX5_challengeNow, 5, none)
theorem kd_X5_challengeNow : mw_Md mX5_challengeNow 2 := ⟨List.mem_of_getElem? (i := 799) (by decide +kernel), k_inX5, by decide +kernel, by decide +kernel, by decide +kernel⟩
theorem kv_X5_challengeNow : mw_Mv mX5_challengeNow := ⟨List.mem_of_getElem? (i := 798) (by decide +kernel), List.mem_of_getElem? (i := 37) (by decide +kernel)⟩
def mX5_findAsked : mw_M := (yX5_findAsked, cX5_findAsked, 5, (some .int))
theorem kd_X5_findAsked : mw_Md mX5_findAsked 3 := ⟨List.mem_of_getElem? (i := 863) (by decide +kernel), k_inX5, by decide +kernel, by decide +kernel, by decide +kernel⟩
theorem kv_X5_findAsked : mw_Mv mX5_findAsked := ⟨List.mem_of_getElem? (i := 862) (by decide +kernel), List.mem_of_getElem? (i := 49) (by decide +kernel)⟩
def mX5_challengeOnce : mw_M := (yX5_challengeOnce, cX5_challengeOnce, 2, none)
theorem kd_X5_challengeOnce : mw_Md mX5_challengeOnce 1 := ⟨List.mem_of_getElem? (i := 859) (by decide +kernel), k_inX5, by decide +kernel, by decide +kernel, by decide +kernel⟩
theorem kv_X5_challengeOnce : mw_Mv mX5_challengeOnce := ⟨List.mem_of_getElem? (i := 858) (by decide +kernel), List.mem_of_getElem? (i := 48) (by decide +kernel)⟩
def mX5_took : mw_M := (yX5_took, cX5_took, 3, (some .boolean))
theorem kd_X5_took : mw_Md mX5_took 2 := ⟨List.mem_of_getElem? (i := 847) (by decide +kernel), k_inX5, by decide +kernel, by decide +kernel, by decide +kernel⟩
theorem kv_X5_took : mw_Mv mX5_took := ⟨List.mem_of_getElem? (i := 846) (by decide +kernel), List.mem_of_getElem? (i := 45) (by decide +kernel)⟩
def mX5_note : mw_M := (yX5_note, cX5_note, 3, none)
theorem kd_X5_note : mw_Md mX5_note 2 := ⟨List.mem_of_getElem? (i := 851) (by decide +kernel), k_inX5, by decide +kernel, by decide +kernel, by decide +kernel⟩
theorem kv_X5_note : mw_Mv mX5_note := ⟨List.mem_of_getElem? (i := 850) (by decide +kernel), List.mem_of_getElem? (i := 46) (by decide +kernel)⟩
def mX5_inRow : mw_M := (yX5_inRow, cX5_inRow, 3, (some .int))
theorem kd_X5_inRow : mw_Md mX5_inRow 1 := ⟨List.mem_of_getElem? (i := 716) (by decide +kernel), k_inX5, by decide +kernel, by decide +kernel, by decide +kernel⟩
theorem kv_X5_inRow : mw_Mv mX5_inRow := ⟨List.mem_of_getElem? (i := 715) (by decide +kernel), List.mem_of_getElem? (i := 28) (by decide +kernel)⟩
def mX5_word : mw_M := (yX5_word, cX5_word, 4, none)
theorem kd_X5_word : mw_Md mX5_word 3 := ⟨List.mem_of_getElem? (i := 811) (by decide +kernel), k_inX5, by decide +kernel, by decide +kernel, by decide +kernel⟩
theorem kv_X5_word : mw_Mv mX5_word := ⟨List.mem_of_getElem? (i := 810) (by decide +kernel), List.mem_of_getElem? (i := 39) (by decide +kernel)⟩
def mX5_confirm : mw_M := (yX5_confirm, cX5_confirm, 3, none)
theorem kd_X5_confirm : mw_Md mX5_confirm 2 := ⟨List.mem_of_getElem? (i := 883) (by decide +kernel), k_inX5, by decide +kernel, by decide +kernel, by decide +kernel⟩
theorem kv_X5_confirm : mw_Mv mX5_confirm := ⟨List.mem_of_getElem? (i := 882) (by decide +kernel), List.mem_of_getElem? (i := 54) (by decide +kernel)⟩
def mX5_follow : mw_M := (yX5_follow, cX5_follow, 3, none)
theorem kd_X5_follow : mw_Md mX5_follow 1 := ⟨List.mem_of_getElem? (i := 855) (by decide +kernel), k_inX5, by decide +kernel, by decide +kernel, by decide +kernel⟩
theorem kv_X5_follow : mw_Mv mX5_follow := ⟨List.mem_of_getElem? (i := 854) (by decide +kernel), List.mem_of_getElem? (i := 47) (by decide +kernel)⟩
def mX5_proveBy : mw_M := (yX5_proveBy, cX5_proveBy, 4, none)
theorem kd_X5_proveBy : mw_Md mX5_proveBy 1 := ⟨List.mem_of_getElem? (i := 867) (by decide +kernel), k_inX5, by decide +kernel, by decide +kernel, by decide +kernel⟩
theorem kv_X5_proveBy : mw_Mv mX5_proveBy := ⟨List.mem_of_getElem? (i := 866) (by decide +kernel), List.mem_of_getElem? (i := 50) (by decide +kernel)⟩
def mX5_retire : mw_M := (yX5_retire, cX5_retire, 5, none)
theorem kd_X5_retire : mw_Md mX5_retire 2 := ⟨List.mem_of_getElem? (i := 879) (by decide +kernel), k_inX5, by decide +kernel, by decide +kernel, by decide +kernel⟩
theorem kv_X5_retire : mw_Mv mX5_retire := ⟨List.mem_of_getElem? (i := 878) (by decide +kernel), List.mem_of_getElem? (i := 53) (by decide +kernel)⟩
def mX5_isLive : mw_M := (yX5_isLive, cX5_isLive, 2, (some .boolean))
theorem kd_X5_isLive : mw_Md mX5_isLive 1 := ⟨List.mem_of_getElem? (i := 843) (by decide +kernel), k_inX5, by decide +kernel, by decide +kernel, by decide +kernel⟩
theorem kv_X5_isLive : mw_Mv mX5_isLive := ⟨List.mem_of_getElem? (i := 842) (by decide +kernel), List.mem_of_getElem? (i := 44) (by decide +kernel)⟩
def mX5_takenByHouse : mw_M := (yX5_takenByHouse, cX5_takenByHouse, 6, (some .int))
theorem kd_X5_takenByHouse : mw_Md mX5_takenByHouse 5 := ⟨List.mem_of_getElem? (i := 839) (by decide +kernel), k_inX5, by decide +kernel, by decide +kernel, by decide +kernel⟩
theorem kv_X5_takenByHouse : mw_Mv mX5_takenByHouse := ⟨List.mem_of_getElem? (i := 838) (by decide +kernel), List.mem_of_getElem? (i := 43) (by decide +kernel)⟩
def mX5_sureBy : mw_M := (yX5_sureBy, cX5_sureBy, 3, none)
theorem kd_X5_sureBy : mw_Md mX5_sureBy 1 := ⟨List.mem_of_getElem? (i := 891) (by decide +kernel), k_inX5, by decide +kernel, by decide +kernel, by decide +kernel⟩
theorem kv_X5_sureBy : mw_Mv mX5_sureBy := ⟨List.mem_of_getElem? (i := 890) (by decide +kernel), List.mem_of_getElem? (i := 56) (by decide +kernel)⟩
def mX5_takenByGuest : mw_M := (yX5_takenByGuest, cX5_takenByGuest, 5, (some .int))
theorem kd_X5_takenByGuest : mw_Md mX5_takenByGuest 4 := ⟨List.mem_of_getElem? (i := 887) (by decide +kernel), k_inX5, by decide +kernel, by decide +kernel, by decide +kernel⟩
theorem kv_X5_takenByGuest : mw_Mv mX5_takenByGuest := ⟨List.mem_of_getElem? (i := 886) (by decide +kernel), List.mem_of_getElem? (i := 55) (by decide +kernel)⟩
def mX5_goTo : mw_M := (yX5_goTo, cX5_goTo, 2, none)
theorem kd_X5_goTo : mw_Md mX5_goTo 1 := ⟨List.mem_of_getElem? (i := 807) (by decide +kernel), k_inX5, by decide +kernel, by decide +kernel, by decide +kernel⟩
theorem kv_X5_goTo : mw_Mv mX5_goTo := ⟨List.mem_of_getElem? (i := 806) (by decide +kernel), List.mem_of_getElem? (i := 38) (by decide +kernel)⟩
def mX5_closeNow : mw_M := (yX5_closeNow, cX5_closeNow, 3, none)
theorem kd_X5_closeNow : mw_Md mX5_closeNow 1 := ⟨List.mem_of_getElem? (i := 819) (by decide +kernel), k_inX5, by decide +kernel, by decide +kernel, by decide +kernel⟩
theorem kv_X5_closeNow : mw_Mv mX5_closeNow := ⟨List.mem_of_getElem? (i := 818) (by decide +kernel), List.mem_of_getElem? (i := 40) (by decide +kernel)⟩
def mX5_leastSpare : mw_M := (yX5_leastSpare, cX5_leastSpare, 2, (some .int))
theorem kd_X5_leastSpare : mw_Md mX5_leastSpare 0 := ⟨List.mem_of_getElem? (i := 794) (by decide +kernel), k_inX5, by decide +kernel, by decide +kernel, by decide +kernel⟩
theorem kv_X5_leastSpare : mw_Mv mX5_leastSpare := ⟨List.mem_of_getElem? (i := 793) (by decide +kernel), List.mem_of_getElem? (i := 36) (by decide +kernel)⟩
def mX5_forget : mw_M := (yX5_forget, cX5_forget, 3, none)
theorem kd_X5_forget : mw_Md mX5_forget 1 := ⟨List.mem_of_getElem? (i := 922) (by decide +kernel), k_inX5, by decide +kernel, by decide +kernel, by decide +kernel⟩
theorem kv_X5_forget : mw_Mv mX5_forget := ⟨List.mem_of_getElem? (i := 921) (by decide +kernel), List.mem_of_getElem? (i := 59) (by decide +kernel)⟩
def mX5_giveUp : mw_M := (yX5_giveUp, cX5_giveUp, 2, none)
theorem kd_X5_giveUp : mw_Md mX5_giveUp 1 := ⟨List.mem_of_getElem? (i := 926) (by decide +kernel), k_inX5, by decide +kernel, by decide +kernel, by decide +kernel⟩
theorem kv_X5_giveUp : mw_Mv mX5_giveUp := ⟨List.mem_of_getElem? (i := 925) (by decide +kernel), List.mem_of_getElem? (i := 60) (by decide +kernel)⟩
def mX5_lookAt : mw_M := (yX5_lookAt, cX5_lookAt, 5, (some .boolean))
theorem kd_X5_lookAt : mw_Md mX5_lookAt 1 := ⟨List.mem_of_getElem? (i := 918) (by decide +kernel), k_inX5, by decide +kernel, by decide +kernel, by decide +kernel⟩
theorem kv_X5_lookAt : mw_Mv mX5_lookAt := ⟨List.mem_of_getElem? (i := 917) (by decide +kernel), List.mem_of_getElem? (i := 58) (by decide +kernel)⟩
def mX5_tickNow : mw_M := (yX5_tickNow, cX5_tickNow, 3, (some .int))
theorem kd_X5_tickNow : mw_Md mX5_tickNow 0 := ⟨List.mem_of_getElem? (i := 914) (by decide +kernel), k_inX5, by decide +kernel, by decide +kernel, by decide +kernel⟩
theorem kv_X5_tickNow : mw_Mv mX5_tickNow := ⟨List.mem_of_getElem? (i := 913) (by decide +kernel), List.mem_of_getElem? (i := 57) (by decide +kernel)⟩
def mX5_manyHas : mw_M := (yX5_manyHas, cX5_manyHas, 4, (some .int))
theorem kd_X5_manyHas : mw_Md mX5_manyHas 1 := ⟨List.mem_of_getElem? (i := 712) (by decide +kernel), k_inX5, by decide +kernel, by decide +kernel, by decide +kernel⟩
theorem kv_X5_manyHas : mw_Mv mX5_manyHas := ⟨List.mem_of_getElem? (i := 711) (by decide +kernel), List.mem_of_getElem? (i := 27) (by decide +kernel)⟩
def mX5_hasAll : mw_M := (yX5_hasAll, cX5_hasAll, 4, (some .boolean))
theorem kd_X5_hasAll : mw_Md mX5_hasAll 1 := ⟨List.mem_of_getElem? (i := 692) (by decide +kernel), k_inX5, by decide +kernel, by decide +kernel, by decide +kernel⟩
theorem kv_X5_hasAll : mw_Mv mX5_hasAll := ⟨List.mem_of_getElem? (i := 691) (by decide +kernel), List.mem_of_getElem? (i := 25) (by decide +kernel)⟩
def mX5_isSettled : mw_M := (yX5_isSettled, cX5_isSettled, 3, (some .boolean))
theorem kd_X5_isSettled : mw_Md mX5_isSettled 0 := ⟨List.mem_of_getElem? (i := 688) (by decide +kernel), k_inX5, by decide +kernel, by decide +kernel, by decide +kernel⟩
theorem kv_X5_isSettled : mw_Mv mX5_isSettled := ⟨List.mem_of_getElem? (i := 687) (by decide +kernel), List.mem_of_getElem? (i := 24) (by decide +kernel)⟩
def mX5_manyOf : mw_M := (yX5_manyOf, cX5_manyOf, 5, (some .int))
theorem kd_X5_manyOf : mw_Md mX5_manyOf 2 := ⟨List.mem_of_getElem? (i := 680) (by decide +kernel), k_inX5, by decide +kernel, by decide +kernel, by decide +kernel⟩
theorem kv_X5_manyOf : mw_Mv mX5_manyOf := ⟨List.mem_of_getElem? (i := 679) (by decide +kernel), List.mem_of_getElem? (i := 22) (by decide +kernel)⟩
def mX5_wrong : mw_M := (yX5_wrong, cX5_wrong, 2, (some .int))
theorem kd_X5_wrong : mw_Md mX5_wrong 0 := ⟨List.mem_of_getElem? (i := 696) (by decide +kernel), k_inX5, by decide +kernel, by decide +kernel, by decide +kernel⟩
theorem kv_X5_wrong : mw_Mv mX5_wrong := ⟨List.mem_of_getElem? (i := 695) (by decide +kernel), List.mem_of_getElem? (i := 26) (by decide +kernel)⟩
def mX5_toldMore : mw_M := (yX5_toldMore, cX5_toldMore, 2, (some .int))
theorem kd_X5_toldMore : mw_Md mX5_toldMore 1 := ⟨List.mem_of_getElem? (i := 684) (by decide +kernel), k_inX5, by decide +kernel, by decide +kernel, by decide +kernel⟩
theorem kv_X5_toldMore : mw_Mv mX5_toldMore := ⟨List.mem_of_getElem? (i := 683) (by decide +kernel), List.mem_of_getElem? (i := 23) (by decide +kernel)⟩
def mX5_told : mw_M := (yX5_told, cX5_told, 2, (some .int))
theorem kd_X5_told : mw_Md mX5_told 1 := ⟨List.mem_of_getElem? (i := 676) (by decide +kernel), k_inX5, by decide +kernel, by decide +kernel, by decide +kernel⟩
theorem kv_X5_told : mw_Mv mX5_told := ⟨List.mem_of_getElem? (i := 674) (by decide +kernel), List.mem_of_getElem? (i := 675) (by decide +kernel)⟩
def mX5_isEnd : mw_M := (yX5_isEnd, cX5_isEnd, 1, (some .boolean))
theorem kd_X5_isEnd : mw_Md mX5_isEnd 1 := ⟨List.mem_of_getElem? (i := 704) (by decide +kernel), k_inX5, by decide +kernel, by decide +kernel, by decide +kernel⟩
theorem ks_X5_isEnd : Cond.static (mX5_isEnd).1 ∈ lw_tbl := List.mem_of_getElem? (i := 703) (by decide +kernel)
def mX5_isPlace : mw_M := (yX5_isPlace, cX5_isPlace, 1, (some .boolean))
theorem kd_X5_isPlace : mw_Md mX5_isPlace 1 := ⟨List.mem_of_getElem? (i := 723) (by decide +kernel), k_inX5, by decide +kernel, by decide +kernel, by decide +kernel⟩
theorem ks_X5_isPlace : Cond.static (mX5_isPlace).1 ∈ lw_tbl := List.mem_of_getElem? (i := 722) (by decide +kernel)
def mX5_end : mw_M := (yX5_end, cX5_end, 3, (some .int))
theorem kd_X5_end : mw_Md mX5_end 2 := ⟨List.mem_of_getElem? (i := 701) (by decide +kernel), k_inX5, by decide +kernel, by decide +kernel, by decide +kernel⟩
theorem kv_X5_end : mw_Mv mX5_end := ⟨List.mem_of_getElem? (i := 699) (by decide +kernel), List.mem_of_getElem? (i := 700) (by decide +kernel)⟩
def mX5_heldFor : mw_M := (yX5_heldFor, cX5_heldFor, 4, (some .int))
theorem kd_X5_heldFor : mw_Md mX5_heldFor 1 := ⟨List.mem_of_getElem? (i := 728) (by decide +kernel), k_inX5, by decide +kernel, by decide +kernel, by decide +kernel⟩
end
section
theorem kv_X5_heldFor : mw_Mv mX5_heldFor := ⟨List.mem_of_getElem? (i := 727) (by decide +kernel), List.mem_of_getElem? (i := 29) (by decide +kernel)⟩
def mX5_place : mw_M := (yX5_place, cX5_place, 3, (some .int))
theorem kd_X5_place : mw_Md mX5_place 2 := ⟨List.mem_of_getElem? (i := 720) (by decide +kernel), k_inX5, by decide +kernel, by decide +kernel, by decide +kernel⟩
theorem kv_X5_place : mw_Mv mX5_place := ⟨List.mem_of_getElem? (i := 718) (by decide +kernel), List.mem_of_getElem? (i := 719) (by decide +kernel)⟩
def mX5_letter : mw_M := (yX5_letter, cX5_letter, 3, (some .int))
theorem kd_X5_letter : mw_Md mX5_letter 2 := ⟨List.mem_of_getElem? (i := 732) (by decide +kernel), k_inX5, by decide +kernel, by decide +kernel, by decide +kernel⟩
theorem kv_X5_letter : mw_Mv mX5_letter := ⟨List.mem_of_getElem? (i := 730) (by decide +kernel), List.mem_of_getElem? (i := 731) (by decide +kernel)⟩
def mX5_challenge : mw_M := (yX5_challenge, cX5_challenge, 3, (some .int))
theorem kd_X5_challenge : mw_Md mX5_challenge 2 := ⟨List.mem_of_getElem? (i := 737) (by decide +kernel), k_inX5, by decide +kernel, by decide +kernel, by decide +kernel⟩
theorem kv_X5_challenge : mw_Mv mX5_challenge := ⟨List.mem_of_getElem? (i := 735) (by decide +kernel), List.mem_of_getElem? (i := 736) (by decide +kernel)⟩
def mX5_held : mw_M := (yX5_held, cX5_held, 3, (some .int))
theorem kd_X5_held : mw_Md mX5_held 2 := ⟨List.mem_of_getElem? (i := 741) (by decide +kernel), k_inX5, by decide +kernel, by decide +kernel, by decide +kernel⟩
theorem kv_X5_held : mw_Mv mX5_held := ⟨List.mem_of_getElem? (i := 739) (by decide +kernel), List.mem_of_getElem? (i := 740) (by decide +kernel)⟩
def mX5_name : mw_M := (yX5_name, cX5_name, 2, (some .int))
theorem kd_X5_name : mw_Md mX5_name 1 := ⟨List.mem_of_getElem? (i := 746) (by decide +kernel), k_inX5, by decide +kernel, by decide +kernel, by decide +kernel⟩
theorem kv_X5_name : mw_Mv mX5_name := ⟨List.mem_of_getElem? (i := 744) (by decide +kernel), List.mem_of_getElem? (i := 745) (by decide +kernel)⟩
def mX5_word_ : mw_M := (yX5_word_, cX5_word_, 3, (some .int))
theorem kd_X5_word_ : mw_Md mX5_word_ 2 := ⟨List.mem_of_getElem? (i := 750) (by decide +kernel), k_inX5, by decide +kernel, by decide +kernel, by decide +kernel⟩
theorem kv_X5_word_ : mw_Mv mX5_word_ := ⟨List.mem_of_getElem? (i := 748) (by decide +kernel), List.mem_of_getElem? (i := 749) (by decide +kernel)⟩
def mX5_next : mw_M := (yX5_next, cX5_next, 3, (some .int))
theorem kd_X5_next : mw_Md mX5_next 1 := ⟨List.mem_of_getElem? (i := 758) (by decide +kernel), k_inX5, by decide +kernel, by decide +kernel, by decide +kernel⟩
theorem kv_X5_next : mw_Mv mX5_next := ⟨List.mem_of_getElem? (i := 757) (by decide +kernel), List.mem_of_getElem? (i := 30) (by decide +kernel)⟩
def mX5_say : mw_M := (yX5_say, cX5_say, 1, (some .int))
theorem kd_X5_say : mw_Md mX5_say 0 := ⟨List.mem_of_getElem? (i := 754) (by decide +kernel), k_inX5, by decide +kernel, by decide +kernel, by decide +kernel⟩
theorem kv_X5_say : mw_Mv mX5_say := ⟨List.mem_of_getElem? (i := 752) (by decide +kernel), List.mem_of_getElem? (i := 753) (by decide +kernel)⟩
def mX5_speak : mw_M := (yX5_speak, cX5_speak, 1, (some .int))
theorem kd_X5_speak : mw_Md mX5_speak 0 := ⟨List.mem_of_getElem? (i := 786) (by decide +kernel), k_inX5, by decide +kernel, by decide +kernel, by decide +kernel⟩
theorem kv_X5_speak : mw_Mv mX5_speak := ⟨List.mem_of_getElem? (i := 784) (by decide +kernel), List.mem_of_getElem? (i := 785) (by decide +kernel)⟩
def mX5_open : mw_M := (yX5_open, cX5_open, 3, (some .int))
theorem kd_X5_open : mw_Md mX5_open 1 := ⟨List.mem_of_getElem? (i := 790) (by decide +kernel), k_inX5, by decide +kernel, by decide +kernel, by decide +kernel⟩
theorem kv_X5_open : mw_Mv mX5_open := ⟨List.mem_of_getElem? (i := 788) (by decide +kernel), List.mem_of_getElem? (i := 789) (by decide +kernel)⟩
def mX5_go : mw_M := (yX5_go, cX5_go, 2, (some .int))
theorem kd_X5_go : mw_Md mX5_go 1 := ⟨List.mem_of_getElem? (i := 803) (by decide +kernel), k_inX5, by decide +kernel, by decide +kernel, by decide +kernel⟩
theorem kv_X5_go : mw_Mv mX5_go := ⟨List.mem_of_getElem? (i := 801) (by decide +kernel), List.mem_of_getElem? (i := 802) (by decide +kernel)⟩
def mX5_close : mw_M := (yX5_close, cX5_close, 3, (some .int))
theorem kd_X5_close : mw_Md mX5_close 1 := ⟨List.mem_of_getElem? (i := 815) (by decide +kernel), k_inX5, by decide +kernel, by decide +kernel, by decide +kernel⟩
theorem kv_X5_close : mw_Mv mX5_close := ⟨List.mem_of_getElem? (i := 813) (by decide +kernel), List.mem_of_getElem? (i := 814) (by decide +kernel)⟩
def mX5_again : mw_M := (yX5_again, cX5_again, 3, (some .int))
theorem kd_X5_again : mw_Md mX5_again 1 := ⟨List.mem_of_getElem? (i := 823) (by decide +kernel), k_inX5, by decide +kernel, by decide +kernel, by decide +kernel⟩
theorem kv_X5_again : mw_Mv mX5_again := ⟨List.mem_of_getElem? (i := 821) (by decide +kernel), List.mem_of_getElem? (i := 822) (by decide +kernel)⟩
def mX5_arriveNow : mw_M := (yX5_arriveNow, cX5_arriveNow, 10, (some .int))
theorem kd_X5_arriveNow : mw_Md mX5_arriveNow 1 := ⟨List.mem_of_getElem? (i := 835) (by decide +kernel), k_inX5, by decide +kernel, by decide +kernel, by decide +kernel⟩
theorem kv_X5_arriveNow : mw_Mv mX5_arriveNow := ⟨List.mem_of_getElem? (i := 834) (by decide +kernel), List.mem_of_getElem? (i := 42) (by decide +kernel)⟩
def mX5_isLetter : mw_M := (yX5_isLetter, cX5_isLetter, 2, (some .boolean))
theorem kd_X5_isLetter : mw_Md mX5_isLetter 1 := ⟨List.mem_of_getElem? (i := 831) (by decide +kernel), k_inX5, by decide +kernel, by decide +kernel, by decide +kernel⟩
theorem kv_X5_isLetter : mw_Mv mX5_isLetter := ⟨List.mem_of_getElem? (i := 830) (by decide +kernel), List.mem_of_getElem? (i := 41) (by decide +kernel)⟩
def mX5_arrive : mw_M := (yX5_arrive, cX5_arrive, 2, (some .int))
theorem kd_X5_arrive : mw_Md mX5_arrive 1 := ⟨List.mem_of_getElem? (i := 827) (by decide +kernel), k_inX5, by decide +kernel, by decide +kernel, by decide +kernel⟩
theorem kv_X5_arrive : mw_Mv mX5_arrive := ⟨List.mem_of_getElem? (i := 825) (by decide +kernel), List.mem_of_getElem? (i := 826) (by decide +kernel)⟩
def mX5_lose : mw_M := (yX5_lose, cX5_lose, 2, (some .int))
theorem kd_X5_lose : mw_Md mX5_lose 1 := ⟨List.mem_of_getElem? (i := 895) (by decide +kernel), k_inX5, by decide +kernel, by decide +kernel, by decide +kernel⟩
theorem kv_X5_lose : mw_Mv mX5_lose := ⟨List.mem_of_getElem? (i := 893) (by decide +kernel), List.mem_of_getElem? (i := 894) (by decide +kernel)⟩
def mX5_twice : mw_M := (yX5_twice, cX5_twice, 3, (some .int))
theorem kd_X5_twice : mw_Md mX5_twice 1 := ⟨List.mem_of_getElem? (i := 899) (by decide +kernel), k_inX5, by decide +kernel, by decide +kernel, by decide +kernel⟩
theorem kv_X5_twice : mw_Mv mX5_twice := ⟨List.mem_of_getElem? (i := 897) (by decide +kernel), List.mem_of_getElem? (i := 898) (by decide +kernel)⟩
def mX5_forge : mw_M := (yX5_forge, cX5_forge, 8, (some .int))
theorem kd_X5_forge : mw_Md mX5_forge 5 := ⟨List.mem_of_getElem? (i := 903) (by decide +kernel), k_inX5, by decide +kernel, by decide +kernel, by decide +kernel⟩
theorem kv_X5_forge : mw_Mv mX5_forge := ⟨List.mem_of_getElem? (i := 901) (by decide +kernel), List.mem_of_getElem? (i := 902) (by decide +kernel)⟩
def mX5_tick : mw_M := (yX5_tick, cX5_tick, 1, (some .int))
theorem kd_X5_tick : mw_Md mX5_tick 0 := ⟨List.mem_of_getElem? (i := 910) (by decide +kernel), k_inX5, by decide +kernel, by decide +kernel, by decide +kernel⟩
theorem kv_X5_tick : mw_Mv mX5_tick := ⟨List.mem_of_getElem? (i := 908) (by decide +kernel), List.mem_of_getElem? (i := 909) (by decide +kernel)⟩
def mX5_draw : mw_M := (yX5_draw, cX5_draw, 2, (some .int))
theorem kd_X5_draw : mw_Md mX5_draw 1 := ⟨List.mem_of_getElem? (i := 939) (by decide +kernel), k_inX5, by decide +kernel, by decide +kernel, by decide +kernel⟩
theorem kv_X5_draw : mw_Mv mX5_draw := ⟨List.mem_of_getElem? (i := 938) (by decide +kernel), List.mem_of_getElem? (i := 62) (by decide +kernel)⟩
def mX5_chance : mw_M := (yX5_chance, cX5_chance, 3, (some .int))
theorem kd_X5_chance : mw_Md mX5_chance 0 := ⟨List.mem_of_getElem? (i := 935) (by decide +kernel), k_inX5, by decide +kernel, by decide +kernel, by decide +kernel⟩
theorem kv_X5_chance : mw_Mv mX5_chance := ⟨List.mem_of_getElem? (i := 934) (by decide +kernel), List.mem_of_getElem? (i := 61) (by decide +kernel)⟩
def mX5_drift : mw_M := (yX5_drift, cX5_drift, 4, (some .int))
theorem kd_X5_drift : mw_Md mX5_drift 1 := ⟨List.mem_of_getElem? (i := 930) (by decide +kernel), k_inX5, by decide +kernel, by decide +kernel, by decide +kernel⟩
theorem kv_X5_drift : mw_Mv mX5_drift := ⟨List.mem_of_getElem? (i := 928) (by decide +kernel), List.mem_of_getElem? (i := 929) (by decide +kernel)⟩
def mX5_write : mw_M := (yX5_write, cX5_write, 4, (some .int))
theorem kd_X5_write : mw_Md mX5_write 3 := ⟨List.mem_of_getElem? (i := 955) (by decide +kernel), k_inX5, by decide +kernel, by decide +kernel, by decide +kernel⟩
theorem kv_X5_write : mw_Mv mX5_write := ⟨List.mem_of_getElem? (i := 953) (by decide +kernel), List.mem_of_getElem? (i := 954) (by decide +kernel)⟩
def mX5_tear : mw_M := (yX5_tear, cX5_tear, 2, (some .int))
theorem kd_X5_tear : mw_Md mX5_tear 0 := ⟨List.mem_of_getElem? (i := 960) (by decide +kernel), k_inX5, by decide +kernel, by decide +kernel, by decide +kernel⟩
theorem kv_X5_tear : mw_Mv mX5_tear := ⟨List.mem_of_getElem? (i := 958) (by decide +kernel), List.mem_of_getElem? (i := 959) (by decide +kernel)⟩
def mX5_seed : mw_M := (yX5_seed, cX5_seed, 3, (some .int))
theorem kd_X5_seed : mw_Md mX5_seed 1 := ⟨List.mem_of_getElem? (i := 964) (by decide +kernel), k_inX5, by decide +kernel, by decide +kernel, by decide +kernel⟩
theorem kv_X5_seed : mw_Mv mX5_seed := ⟨List.mem_of_getElem? (i := 962) (by decide +kernel), List.mem_of_getElem? (i := 963) (by decide +kernel)⟩
def mX5_copy : mw_M := (yX5_copy, cX5_copy, 4, none)
theorem kd_X5_copy : mw_Md mX5_copy 2 := ⟨List.mem_of_getElem? (i := 972) (by decide +kernel), k_inX5, by decide +kernel, by decide +kernel, by decide +kernel⟩
theorem kv_X5_copy : mw_Mv mX5_copy := ⟨List.mem_of_getElem? (i := 971) (by decide +kernel), List.mem_of_getElem? (i := 63) (by decide +kernel)⟩
def mX5_keep : mw_M := (yX5_keep, cX5_keep, 2, (some .int))
theorem kd_X5_keep : mw_Md mX5_keep 1 := ⟨List.mem_of_getElem? (i := 968) (by decide +kernel), k_inX5, by decide +kernel, by decide +kernel, by decide +kernel⟩
theorem kv_X5_keep : mw_Mv mX5_keep := ⟨List.mem_of_getElem? (i := 966) (by decide +kernel), List.mem_of_getElem? (i := 967) (by decide +kernel)⟩
def mX5_goBack : mw_M := (yX5_goBack, cX5_goBack, 2, (some .int))
theorem kd_X5_goBack : mw_Md mX5_goBack 1 := ⟨List.mem_of_getElem? (i := 976) (by decide +kernel), k_inX5, by decide +kernel, by decide +kernel, by decide +kernel⟩
theorem kv_X5_goBack : mw_Mv mX5_goBack := ⟨List.mem_of_getElem? (i := 974) (by decide +kernel), List.mem_of_getElem? (i := 975) (by decide +kernel)⟩
def mJ13_bitCount_95d88 : mw_M := (yJ13_bitCount_95d88, cJ13_bitCount_95d88, 2, (some .int))
theorem kd_J13_bitCount_95d88 : mw_Md mJ13_bitCount_95d88 1 := ⟨List.mem_of_getElem? (i := 274) (by decide +kernel), k_inJ13, by decide +kernel, by decide +kernel, by decide +kernel⟩
theorem ks_J13_bitCount_95d88 : Cond.static (mJ13_bitCount_95d88).1 ∈ lw_tbl := List.mem_of_getElem? (i := 273) (by decide +kernel)
def mJ9_max_7cf53 : mw_M := (yJ9_max_7cf53, cJ9_max_7cf53, 2, (some .int))
theorem kd_J9_max_7cf53 : mw_Md mJ9_max_7cf53 2 := ⟨List.mem_of_getElem? (i := 96) (by decide +kernel), k_inJ9, by decide +kernel, by decide +kernel, by decide +kernel⟩
theorem ks_J9_max_7cf53 : Cond.static (mJ9_max_7cf53).1 ∈ lw_tbl := List.mem_of_getElem? (i := 95) (by decide +kernel)
def mJ9_min_7cf53 : mw_M := (yJ9_min_7cf53, cJ9_min_7cf53, 2, (some .int))
theorem kd_J9_min_7cf53 : mw_Md mJ9_min_7cf53 2 := ⟨List.mem_of_getElem? (i := 99) (by decide +kernel), k_inJ9, by decide +kernel, by decide +kernel, by decide +kernel⟩
theorem ks_J9_min_7cf53 : Cond.static (mJ9_min_7cf53).1 ∈ lw_tbl := List.mem_of_getElem? (i := 98) (by decide +kernel)
theorem ko_L_7 : Cond.classLink RL 7 RX4 ∈ lw_tbl := List.mem_of_getElem? (i := 74) (by decide +kernel)
theorem kn_X4 : Cond.instantiable RX4 3 ∈ lw_tbl := List.mem_of_getElem? (i := 75) (by decide +kernel)
theorem kl_L_9 : Cond.methodLink RL 9 yX4_init ∈ lw_tbl := List.mem_of_getElem? (i := 76) (by decide +kernel)
theorem kl_X4_1 : Cond.methodLink RX4 1 objectInit ∈ lw_tbl := List.mem_of_getElem? (i := 79) (by decide +kernel)
theorem ko_X4_7 : Cond.classLink RX4 7 RX3 ∈ lw_tbl := List.mem_of_getElem? (i := 82) (by decide +kernel)
theorem kn_X3 : Cond.instantiable RX3 15 ∈ lw_tbl := List.mem_of_getElem? (i := 83) (by decide +kernel)
theorem kl_X4_9 : Cond.methodLink RX4 9 yX3_init ∈ lw_tbl := List.mem_of_getElem? (i := 84) (by decide +kernel)
theorem kl_X3_3 : Cond.methodLink RX3 3 objectInit ∈ lw_tbl := List.mem_of_getElem? (i := 87) (by decide +kernel)
theorem ko_X3_9 : Cond.classLink RX3 9 RX2 ∈ lw_tbl := List.mem_of_getElem? (i := 88) (by decide +kernel)
theorem kn_X2 : Cond.instantiable RX2 4 ∈ lw_tbl := List.mem_of_getElem? (i := 89) (by decide +kernel)
theorem kl_X3_11 : Cond.methodLink RX3 11 yX2_init ∈ lw_tbl := List.mem_of_getElem? (i := 90) (by decide +kernel)
theorem kl_X2_3 : Cond.methodLink RX2 3 objectInit ∈ lw_tbl := List.mem_of_getElem? (i := 93) (by decide +kernel)
theorem kl_X2_9 : Cond.methodLink RX2 9 yJ9_max_7cf53 ∈ lw_tbl := List.mem_of_getElem? (i := 94) (by decide +kernel)
theorem kl_X2_21 : Cond.methodLink RX2 21 yJ9_min_7cf53 ∈ lw_tbl := List.mem_of_getElem? (i := 97) (by decide +kernel)
theorem kf_X2_15 : mw_FlO RX2 15 2 0 := ⟨_, _, _, rfl, by decide, List.mem_of_getElem? (i := 100) (by decide +kernel)⟩
theorem kf_X2_24 : mw_FlO RX2 24 2 1 := ⟨_, _, _, rfl, by decide, List.mem_of_getElem? (i := 101) (by decide +kernel)⟩
theorem kf_X2_27 : mw_FlO RX2 27 2 2 := ⟨_, _, _, rfl, by decide, List.mem_of_getElem? (i := 102) (by decide +kernel)⟩
theorem kf_X2_31 : mw_FlO RX2 31 2 3 := ⟨_, _, _, rfl, by decide, List.mem_of_getElem? (i := 103) (by decide +kernel)⟩
theorem ka_int : Cond.arrayClass .int ∈ lw_tbl := List.mem_of_getElem? (i := 113) (by decide +kernel)
theorem ko_X3_29 : Cond.classLink RX3 29 RX1 ∈ lw_tbl := List.mem_of_getElem? (i := 114) (by decide +kernel)
theorem kn_X1 : Cond.instantiable RX1 2 ∈ lw_tbl := List.mem_of_getElem? (i := 115) (by decide +kernel)
theorem kl_X3_31 : Cond.methodLink RX3 31 yX1_init ∈ lw_tbl := List.mem_of_getElem? (i := 116) (by decide +kernel)
theorem kl_X1_3 : Cond.methodLink RX1 3 objectInit ∈ lw_tbl := List.mem_of_getElem? (i := 119) (by decide +kernel)
theorem kl_X1_9 : Cond.methodLink RX1 9 yJ9_max_7cf53 ∈ lw_tbl := List.mem_of_getElem? (i := 120) (by decide +kernel)
theorem kf_X1_15 : mw_FlO RX1 15 1 0 := ⟨_, _, _, rfl, by decide, List.mem_of_getElem? (i := 121) (by decide +kernel)⟩
theorem kf_X1_21 : mw_FlO RX1 21 1 1 := ⟨_, _, _, rfl, by decide, List.mem_of_getElem? (i := 122) (by decide +kernel)⟩
theorem ka_long : Cond.arrayClass .long ∈ lw_tbl := List.mem_of_getElem? (i := 128) (by decide +kernel)
theorem ko_X3_44 : Cond.classLink RX3 44 RX0 ∈ lw_tbl := List.mem_of_getElem? (i := 129) (by decide +kernel)
theorem kn_X0 : Cond.instantiable RX0 8 ∈ lw_tbl := List.mem_of_getElem? (i := 130) (by decide +kernel)
theorem kl_X3_46 : Cond.methodLinkNest RX3 46 yX0_init "MovedWays" ∈ lw_tbl := List.mem_of_getElem? (i := 131) (by decide +kernel)
theorem kl_X0_3 : Cond.methodLink RX0 3 objectInit ∈ lw_tbl := List.mem_of_getElem? (i := 134) (by decide +kernel)
theorem ko_X0_9 : Cond.classLink RX0 9 RX1 ∈ lw_tbl := List.mem_of_getElem? (i := 135) (by decide +kernel)
theorem kl_X0_11 : Cond.methodLink RX0 11 yX1_init ∈ lw_tbl := List.mem_of_getElem? (i := 136) (by decide +kernel)
theorem kk_X0_20 : Cond.constant RX0 20 (32768) ∈ lw_tbl := List.mem_of_getElem? (i := 137) (by decide +kernel)
theorem kf_X0_14 : mw_FlO RX0 14 0 0 := ⟨_, _, _, rfl, by decide, List.mem_of_getElem? (i := 138) (by decide +kernel)⟩
theorem kf_X4_107 : mw_Fl RX4 107 0 0 := ⟨_, _, _, rfl, by decide, Or.inr ⟨"MovedWays", List.mem_of_getElem? (i := 139) (by decide +kernel)⟩⟩
theorem kf_X3_201 : mw_Fl RX3 201 0 0 := ⟨_, _, _, rfl, by decide, Or.inr ⟨"MovedWays", List.mem_of_getElem? (i := 140) (by decide +kernel)⟩⟩
theorem kf_X0_21 : mw_FlO RX0 21 0 1 := ⟨_, _, _, rfl, by decide, List.mem_of_getElem? (i := 141) (by decide +kernel)⟩
theorem kf_X3_176 : mw_Fl RX3 176 0 1 := ⟨_, _, _, rfl, by decide, Or.inr ⟨"MovedWays", List.mem_of_getElem? (i := 142) (by decide +kernel)⟩⟩
theorem kf_X4_104 : mw_Fl RX4 104 0 2 := ⟨_, _, _, rfl, by decide, Or.inr ⟨"MovedWays", List.mem_of_getElem? (i := 143) (by decide +kernel)⟩⟩
theorem kf_X0_44 : mw_FlO RX0 44 0 2 := ⟨_, _, _, rfl, by decide, List.mem_of_getElem? (i := 144) (by decide +kernel)⟩
theorem kf_X0_28 : mw_FlO RX0 28 0 3 := ⟨_, _, _, rfl, by decide, List.mem_of_getElem? (i := 145) (by decide +kernel)⟩
theorem kf_X4_113 : mw_Fl RX4 113 0 3 := ⟨_, _, _, rfl, by decide, Or.inr ⟨"MovedWays", List.mem_of_getElem? (i := 146) (by decide +kernel)⟩⟩
theorem kf_X4_116 : mw_Fl RX4 116 0 4 := ⟨_, _, _, rfl, by decide, Or.inr ⟨"MovedWays", List.mem_of_getElem? (i := 147) (by decide +kernel)⟩⟩
theorem kf_X0_51 : mw_FlO RX0 51 0 4 := ⟨_, _, _, rfl, by decide, List.mem_of_getElem? (i := 148) (by decide +kernel)⟩
theorem kf_X3_146 : mw_Fl RX3 146 0 4 := ⟨_, _, _, rfl, by decide, Or.inr ⟨"MovedWays", List.mem_of_getElem? (i := 149) (by decide +kernel)⟩⟩
theorem kf_X4_119 : mw_Fl RX4 119 0 5 := ⟨_, _, _, rfl, by decide, Or.inr ⟨"MovedWays", List.mem_of_getElem? (i := 150) (by decide +kernel)⟩⟩
theorem kf_X0_54 : mw_FlO RX0 54 0 5 := ⟨_, _, _, rfl, by decide, List.mem_of_getElem? (i := 151) (by decide +kernel)⟩
theorem kf_X3_166 : mw_Fl RX3 166 0 5 := ⟨_, _, _, rfl, by decide, Or.inr ⟨"MovedWays", List.mem_of_getElem? (i := 152) (by decide +kernel)⟩⟩
theorem kf_X4_50 : mw_Fl RX4 50 0 6 := ⟨_, _, _, rfl, by decide, Or.inr ⟨"MovedWays", List.mem_of_getElem? (i := 153) (by decide +kernel)⟩⟩
theorem kf_X0_37 : mw_FlO RX0 37 0 6 := ⟨_, _, _, rfl, by decide, List.mem_of_getElem? (i := 154) (by decide +kernel)⟩
theorem kf_X3_106 : mw_Fl RX3 106 0 6 := ⟨_, _, _, rfl, by decide, Or.inr ⟨"MovedWays", List.mem_of_getElem? (i := 155) (by decide +kernel)⟩⟩
theorem kf_X0_24 : mw_FlO RX0 24 0 7 := ⟨_, _, _, rfl, by decide, List.mem_of_getElem? (i := 156) (by decide +kernel)⟩
theorem kf_X4_58 : mw_Fl RX4 58 0 7 := ⟨_, _, _, rfl, by decide, Or.inr ⟨"MovedWays", List.mem_of_getElem? (i := 157) (by decide +kernel)⟩⟩
theorem kf_X3_192 : mw_Fl RX3 192 0 7 := ⟨_, _, _, rfl, by decide, Or.inr ⟨"MovedWays", List.mem_of_getElem? (i := 158) (by decide +kernel)⟩⟩
theorem kl_X3_65 : Cond.methodLink RX3 65 yX2_add ∈ lw_tbl := List.mem_of_getElem? (i := 176) (by decide +kernel)
theorem kl_X3_69 : Cond.methodLink RX3 69 yX2_put ∈ lw_tbl := List.mem_of_getElem? (i := 180) (by decide +kernel)
theorem kl_X3_73 : Cond.methodLink RX3 73 yX1_add ∈ lw_tbl := List.mem_of_getElem? (i := 184) (by decide +kernel)
theorem kf_X3_14 : mw_FlO RX3 14 3 0 := ⟨_, _, _, rfl, by decide, List.mem_of_getElem? (i := 188) (by decide +kernel)⟩
theorem kf_X4_33 : mw_Fl RX4 33 3 0 := ⟨_, _, _, rfl, by decide, Or.inr ⟨"MovedWays", List.mem_of_getElem? (i := 189) (by decide +kernel)⟩⟩
theorem kf_X3_20 : mw_FlO RX3 20 3 1 := ⟨_, _, _, rfl, by decide, List.mem_of_getElem? (i := 190) (by decide +kernel)⟩
theorem kf_X4_40 : mw_Fl RX4 40 3 1 := ⟨_, _, _, rfl, by decide, Or.inr ⟨"MovedWays", List.mem_of_getElem? (i := 191) (by decide +kernel)⟩⟩
theorem kf_X3_23 : mw_FlO RX3 23 3 2 := ⟨_, _, _, rfl, by decide, List.mem_of_getElem? (i := 192) (by decide +kernel)⟩
theorem kf_X4_43 : mw_Fl RX4 43 3 2 := ⟨_, _, _, rfl, by decide, Or.inr ⟨"MovedWays", List.mem_of_getElem? (i := 193) (by decide +kernel)⟩⟩
theorem kf_X3_26 : mw_FlO RX3 26 3 3 := ⟨_, _, _, rfl, by decide, List.mem_of_getElem? (i := 194) (by decide +kernel)⟩
theorem kf_X4_128 : mw_Fl RX4 128 3 3 := ⟨_, _, _, rfl, by decide, Or.inr ⟨"MovedWays", List.mem_of_getElem? (i := 195) (by decide +kernel)⟩⟩
theorem kf_X3_34 : mw_FlO RX3 34 3 4 := ⟨_, _, _, rfl, by decide, List.mem_of_getElem? (i := 196) (by decide +kernel)⟩
theorem kf_X4_64 : mw_Fl RX4 64 3 4 := ⟨_, _, _, rfl, by decide, Or.inr ⟨"MovedWays", List.mem_of_getElem? (i := 197) (by decide +kernel)⟩⟩
theorem kf_X3_38 : mw_FlO RX3 38 3 5 := ⟨_, _, _, rfl, by decide, List.mem_of_getElem? (i := 198) (by decide +kernel)⟩
theorem kf_X4_71 : mw_Fl RX4 71 3 5 := ⟨_, _, _, rfl, by decide, Or.inr ⟨"MovedWays", List.mem_of_getElem? (i := 199) (by decide +kernel)⟩⟩
theorem kf_X3_41 : mw_FlO RX3 41 3 6 := ⟨_, _, _, rfl, by decide, List.mem_of_getElem? (i := 200) (by decide +kernel)⟩
theorem kf_X3_47 : mw_FlO RX3 47 3 7 := ⟨_, _, _, rfl, by decide, List.mem_of_getElem? (i := 201) (by decide +kernel)⟩
theorem kf_X4_46 : mw_Fl RX4 46 3 7 := ⟨_, _, _, rfl, by decide, Or.inr ⟨"MovedWays", List.mem_of_getElem? (i := 202) (by decide +kernel)⟩⟩
theorem kf_X3_51 : mw_FlO RX3 51 3 8 := ⟨_, _, _, rfl, by decide, List.mem_of_getElem? (i := 203) (by decide +kernel)⟩
theorem kf_X4_55 : mw_Fl RX4 55 3 8 := ⟨_, _, _, rfl, by decide, Or.inr ⟨"MovedWays", List.mem_of_getElem? (i := 204) (by decide +kernel)⟩⟩
theorem kf_X3_54 : mw_FlO RX3 54 3 9 := ⟨_, _, _, rfl, by decide, List.mem_of_getElem? (i := 205) (by decide +kernel)⟩
theorem kf_X4_29 : mw_Fl RX4 29 3 10 := ⟨_, _, _, rfl, by decide, Or.inr ⟨"MovedWays", List.mem_of_getElem? (i := 206) (by decide +kernel)⟩⟩
theorem kf_X3_89 : mw_FlO RX3 89 3 10 := ⟨_, _, _, rfl, by decide, List.mem_of_getElem? (i := 207) (by decide +kernel)⟩
theorem kf_X3_58 : mw_FlO RX3 58 3 11 := ⟨_, _, _, rfl, by decide, List.mem_of_getElem? (i := 208) (by decide +kernel)⟩
theorem kf_X4_61 : mw_Fl RX4 61 3 11 := ⟨_, _, _, rfl, by decide, Or.inr ⟨"MovedWays", List.mem_of_getElem? (i := 209) (by decide +kernel)⟩⟩
theorem kf_X3_62 : mw_FlO RX3 62 3 12 := ⟨_, _, _, rfl, by decide, List.mem_of_getElem? (i := 210) (by decide +kernel)⟩
theorem kf_X4_74 : mw_Fl RX4 74 3 12 := ⟨_, _, _, rfl, by decide, Or.inr ⟨"MovedWays", List.mem_of_getElem? (i := 211) (by decide +kernel)⟩⟩
theorem kf_X3_92 : mw_FlO RX3 92 3 13 := ⟨_, _, _, rfl, by decide, List.mem_of_getElem? (i := 212) (by decide +kernel)⟩
theorem kf_X4_81 : mw_Fl RX4 81 3 13 := ⟨_, _, _, rfl, by decide, Or.inr ⟨"MovedWays", List.mem_of_getElem? (i := 213) (by decide +kernel)⟩⟩
theorem kf_X3_95 : mw_FlO RX3 95 3 14 := ⟨_, _, _, rfl, by decide, List.mem_of_getElem? (i := 214) (by decide +kernel)⟩
theorem kf_X4_91 : mw_Fl RX4 91 3 14 := ⟨_, _, _, rfl, by decide, Or.inr ⟨"MovedWays", List.mem_of_getElem? (i := 215) (by decide +kernel)⟩⟩
theorem ko_X4_16 : Cond.classLink RX4 16 RX2 ∈ lw_tbl := List.mem_of_getElem? (i := 247) (by decide +kernel)
theorem kl_X4_18 : Cond.methodLink RX4 18 yX2_init ∈ lw_tbl := List.mem_of_getElem? (i := 248) (by decide +kernel)
theorem kf_X4_10 : mw_FlO RX4 10 4 0 := ⟨_, _, _, rfl, by decide, List.mem_of_getElem? (i := 250) (by decide +kernel)⟩
theorem kf_X4_21 : mw_FlO RX4 21 4 1 := ⟨_, _, _, rfl, by decide, List.mem_of_getElem? (i := 251) (by decide +kernel)⟩
theorem kf_X4_25 : mw_FlO RX4 25 4 2 := ⟨_, _, _, rfl, by decide, List.mem_of_getElem? (i := 252) (by decide +kernel)⟩
theorem kl_L_13 : Cond.methodLink RL 13 yX4_told ∈ lw_tbl := List.mem_of_getElem? (i := 260) (by decide +kernel)
theorem kl_X4_36 : Cond.methodLink RX4 36 yX2_size ∈ lw_tbl := List.mem_of_getElem? (i := 264) (by decide +kernel)
theorem kl_X4_68 : Cond.methodLink RX4 68 yX1_size ∈ lw_tbl := List.mem_of_getElem? (i := 268) (by decide +kernel)
theorem kl_X1_27 : Cond.methodLink RX1 27 yJ13_bitCount_95d88 ∈ lw_tbl := List.mem_of_getElem? (i := 272) (by decide +kernel)
theorem kk_J13_314 : Cond.constantLong RJ13 314 (6148914691236517205) ∈ lw_tbl := List.mem_of_getElem? (i := 275) (by decide +kernel)
theorem kk_J13_316 : Cond.constantLong RJ13 316 (3689348814741910323) ∈ lw_tbl := List.mem_of_getElem? (i := 276) (by decide +kernel)
theorem kk_J13_318 : Cond.constantLong RJ13 318 (1085102592571150095) ∈ lw_tbl := List.mem_of_getElem? (i := 277) (by decide +kernel)
theorem kl_X4_77 : Cond.methodLink RX4 77 yX3_droppedBy ∈ lw_tbl := List.mem_of_getElem? (i := 278) (by decide +kernel)
theorem kl_X4_84 : Cond.methodLink RX4 84 yX3_isSettled ∈ lw_tbl := List.mem_of_getElem? (i := 282) (by decide +kernel)
theorem kl_X3_109 : Cond.methodLink RX3 109 yX3_isProved ∈ lw_tbl := List.mem_of_getElem? (i := 286) (by decide +kernel)
theorem kl_X3_98 : Cond.methodLink RX3 98 yX2_at ∈ lw_tbl := List.mem_of_getElem? (i := 290) (by decide +kernel)
theorem kl_X3_113 : Cond.methodLink RX3 113 yX3_isOpen ∈ lw_tbl := List.mem_of_getElem? (i := 294) (by decide +kernel)
theorem kl_X3_102 : Cond.methodLink RX3 102 yX2_size ∈ lw_tbl := List.mem_of_getElem? (i := 298) (by decide +kernel)
theorem kl_X3_116 : Cond.methodLink RX3 116 yX0_hasAllOf ∈ lw_tbl := List.mem_of_getElem? (i := 299) (by decide +kernel)
theorem kl_X0_40 : Cond.methodLink RX0 40 yX1_inRow ∈ lw_tbl := List.mem_of_getElem? (i := 303) (by decide +kernel)
theorem kl_X1_33 : Cond.methodLink RX1 33 yX1_has ∈ lw_tbl := List.mem_of_getElem? (i := 307) (by decide +kernel)
theorem kl_X4_88 : Cond.methodLink RX4 88 yX4_firstWrong ∈ lw_tbl := List.mem_of_getElem? (i := 311) (by decide +kernel)
theorem kl_X4_198 : Cond.methodLink RX4 198 yX2_at ∈ lw_tbl := List.mem_of_getElem? (i := 315) (by decide +kernel)
theorem kl_X4_100 : Cond.methodLink RX4 100 yX3_endOf ∈ lw_tbl := List.mem_of_getElem? (i := 316) (by decide +kernel)
theorem kl_X4_135 : Cond.methodLink RX4 135 yX1_has ∈ lw_tbl := List.mem_of_getElem? (i := 320) (by decide +kernel)
theorem kk_X4_94 : Cond.constant RX4 94 (-1000000002) ∈ lw_tbl := List.mem_of_getElem? (i := 321) (by decide +kernel)
theorem kl_L_18 : Cond.methodLink RL 18 yX4_end ∈ lw_tbl := List.mem_of_getElem? (i := 322) (by decide +kernel)
theorem kl_X4_95 : Cond.methodLink RX4 95 yX4_isEnd ∈ lw_tbl := List.mem_of_getElem? (i := 326) (by decide +kernel)
theorem kk_X4_99 : Cond.constant RX4 99 (-1000000001) ∈ lw_tbl := List.mem_of_getElem? (i := 329) (by decide +kernel)
theorem kl_X4_110 : Cond.methodLink RX4 110 yX1_inRow ∈ lw_tbl := List.mem_of_getElem? (i := 330) (by decide +kernel)
theorem kl_L_23 : Cond.methodLink RL 23 yX4_place ∈ lw_tbl := List.mem_of_getElem? (i := 331) (by decide +kernel)
theorem kl_X4_122 : Cond.methodLink RX4 122 yX4_isPlace ∈ lw_tbl := List.mem_of_getElem? (i := 335) (by decide +kernel)
theorem kl_X4_125 : Cond.methodLink RX4 125 yX3_waitingFor ∈ lw_tbl := List.mem_of_getElem? (i := 338) (by decide +kernel)
theorem kl_X4_131 : Cond.methodLink RX4 131 yX4_cell ∈ lw_tbl := List.mem_of_getElem? (i := 342) (by decide +kernel)
theorem kl_X4_162 : Cond.methodLink RX4 162 yX2_hasRow ∈ lw_tbl := List.mem_of_getElem? (i := 345) (by decide +kernel)
theorem kl_X4_195 : Cond.methodLink RX4 195 yX2_hasColumn ∈ lw_tbl := List.mem_of_getElem? (i := 349) (by decide +kernel)
theorem kl_L_27 : Cond.methodLink RL 27 yX4_letter ∈ lw_tbl := List.mem_of_getElem? (i := 353) (by decide +kernel)
theorem kl_L_31 : Cond.methodLink RL 31 yX4_challenge ∈ lw_tbl := List.mem_of_getElem? (i := 357) (by decide +kernel)
theorem kl_L_35 : Cond.methodLink RL 35 yX4_held ∈ lw_tbl := List.mem_of_getElem? (i := 361) (by decide +kernel)
theorem kl_L_39 : Cond.methodLink RL 39 yX4_name ∈ lw_tbl := List.mem_of_getElem? (i := 365) (by decide +kernel)
theorem kl_L_43 : Cond.methodLink RL 43 yX4_word ∈ lw_tbl := List.mem_of_getElem? (i := 369) (by decide +kernel)
theorem kl_X4_138 : Cond.methodLink RX4 138 yX4_otherOf ∈ lw_tbl := List.mem_of_getElem? (i := 373) (by decide +kernel)
theorem kl_L_47 : Cond.methodLink RL 47 yX4_say ∈ lw_tbl := List.mem_of_getElem? (i := 376) (by decide +kernel)
theorem kl_X4_141 : Cond.methodLink RX4 141 yX4_nextWord ∈ lw_tbl := List.mem_of_getElem? (i := 380) (by decide +kernel)
theorem kk_X4_174 : Cond.constant RX4 174 (-1000000004) ∈ lw_tbl := List.mem_of_getElem? (i := 384) (by decide +kernel)
theorem kl_X4_158 : Cond.methodLink RX4 158 yX3_writes ∈ lw_tbl := List.mem_of_getElem? (i := 385) (by decide +kernel)
theorem kl_X3_127 : Cond.methodLink RX3 127 yX3_mayGo ∈ lw_tbl := List.mem_of_getElem? (i := 389) (by decide +kernel)
theorem kl_X3_149 : Cond.methodLink RX3 149 yX3_sizeOf ∈ lw_tbl := List.mem_of_getElem? (i := 393) (by decide +kernel)
theorem kf_X3_163 : Cond.fieldLinkNest RX3 163 "MovedWays" "SIZES" "[I" "MovedWays" ∈ lw_tbl := List.mem_of_getElem? (i := 396) (by decide +kernel)
theorem kl_X3_131 : Cond.methodLink RX3 131 yX3_sends ∈ lw_tbl := List.mem_of_getElem? (i := 398) (by decide +kernel)
theorem kl_X3_142 : Cond.methodLink RX3 142 yX3_endOf ∈ lw_tbl := List.mem_of_getElem? (i := 402) (by decide +kernel)
theorem kl_X3_135 : Cond.methodLink RX3 135 yX2_isFull ∈ lw_tbl := List.mem_of_getElem? (i := 403) (by decide +kernel)
theorem kl_X3_139 : Cond.methodLink RX3 139 yX2_drop ∈ lw_tbl := List.mem_of_getElem? (i := 407) (by decide +kernel)
theorem kl_X2_34 : Cond.methodLink RX2 34 arraycopyName ∈ lw_tbl := List.mem_of_getElem? (i := 411) (by decide +kernel)
theorem kt_native : Cond.native arraycopyName ∈ lw_tbl := List.mem_of_getElem? (i := 413) (by decide +kernel)
theorem kl_L_52 : Cond.methodLink RL 52 yX4_open ∈ lw_tbl := List.mem_of_getElem? (i := 414) (by decide +kernel)
theorem kl_X4_144 : Cond.methodLink RX4 144 yX3_isOpen ∈ lw_tbl := List.mem_of_getElem? (i := 418) (by decide +kernel)
theorem kk_X4_147 : Cond.constant RX4 147 (-1000000003) ∈ lw_tbl := List.mem_of_getElem? (i := 419) (by decide +kernel)
theorem kl_X4_148 : Cond.methodLink RX4 148 yX3_opens ∈ lw_tbl := List.mem_of_getElem? (i := 420) (by decide +kernel)
theorem kl_X3_222 : Cond.methodLink RX3 222 yX1_least ∈ lw_tbl := List.mem_of_getElem? (i := 424) (by decide +kernel)
theorem kl_X3_216 : Cond.methodLink RX3 216 yX1_remove ∈ lw_tbl := List.mem_of_getElem? (i := 428) (by decide +kernel)
theorem kk_X1_25 : Cond.constantLong RX1 25 (-1) ∈ lw_tbl := List.mem_of_getElem? (i := 432) (by decide +kernel)
theorem kl_X3_195 : Cond.methodLink RX3 195 yX3_challenges ∈ lw_tbl := List.mem_of_getElem? (i := 433) (by decide +kernel)
theorem kl_L_56 : Cond.methodLink RL 56 yX4_go ∈ lw_tbl := List.mem_of_getElem? (i := 437) (by decide +kernel)
theorem kl_X4_151 : Cond.methodLink RX4 151 yX3_goesTo ∈ lw_tbl := List.mem_of_getElem? (i := 441) (by decide +kernel)
theorem kl_X3_225 : Cond.methodLink RX3 225 yX0_moveTo ∈ lw_tbl := List.mem_of_getElem? (i := 445) (by decide +kernel)
theorem kl_X3_204 : Cond.methodLink RX3 204 yX1_inRow ∈ lw_tbl := List.mem_of_getElem? (i := 449) (by decide +kernel)
theorem kl_L_60 : Cond.methodLink RL 60 yX4_close ∈ lw_tbl := List.mem_of_getElem? (i := 450) (by decide +kernel)
theorem kl_X4_155 : Cond.methodLink RX4 155 yX3_closes ∈ lw_tbl := List.mem_of_getElem? (i := 454) (by decide +kernel)
theorem kl_L_64 : Cond.methodLink RL 64 yX4_speak ∈ lw_tbl := List.mem_of_getElem? (i := 458) (by decide +kernel)
theorem kl_L_68 : Cond.methodLink RL 68 yX4_again ∈ lw_tbl := List.mem_of_getElem? (i := 462) (by decide +kernel)
theorem kl_L_72 : Cond.methodLink RL 72 yX4_arrive ∈ lw_tbl := List.mem_of_getElem? (i := 466) (by decide +kernel)
theorem kl_X4_165 : Cond.methodLink RX4 165 yX3_delivers ∈ lw_tbl := List.mem_of_getElem? (i := 470) (by decide +kernel)
theorem kl_X3_155 : Cond.methodLink RX3 155 yX3_houseTakes ∈ lw_tbl := List.mem_of_getElem? (i := 474) (by decide +kernel)
theorem kl_X3_173 : Cond.methodLink RX3 173 yX1_has ∈ lw_tbl := List.mem_of_getElem? (i := 478) (by decide +kernel)
theorem kl_X3_179 : Cond.methodLink RX3 179 yX3_houseFollows ∈ lw_tbl := List.mem_of_getElem? (i := 479) (by decide +kernel)
theorem kl_X3_183 : Cond.methodLink RX3 183 yX3_houseDoubts ∈ lw_tbl := List.mem_of_getElem? (i := 483) (by decide +kernel)
theorem kl_X3_169 : Cond.methodLink RX3 169 yX3_askedWith ∈ lw_tbl := List.mem_of_getElem? (i := 487) (by decide +kernel)
theorem kl_X3_198 : Cond.methodLink RX3 198 yX3_writes ∈ lw_tbl := List.mem_of_getElem? (i := 491) (by decide +kernel)
theorem kl_X3_186 : Cond.methodLink RX3 186 yX3_houseActs ∈ lw_tbl := List.mem_of_getElem? (i := 492) (by decide +kernel)
theorem kl_X3_207 : Cond.methodLink RX3 207 yX3_answered ∈ lw_tbl := List.mem_of_getElem? (i := 496) (by decide +kernel)
theorem kl_X3_189 : Cond.methodLink RX3 189 yX3_letsOut ∈ lw_tbl := List.mem_of_getElem? (i := 500) (by decide +kernel)
theorem kl_X3_210 : Cond.methodLink RX3 210 yX3_replaces ∈ lw_tbl := List.mem_of_getElem? (i := 504) (by decide +kernel)
theorem kl_X3_213 : Cond.methodLink RX3 213 yX0_confirm ∈ lw_tbl := List.mem_of_getElem? (i := 508) (by decide +kernel)
theorem kl_X0_31 : Cond.methodLink RX0 31 yJ9_max_7cf53 ∈ lw_tbl := List.mem_of_getElem? (i := 512) (by decide +kernel)
theorem kl_X3_159 : Cond.methodLink RX3 159 yX3_guestTakes ∈ lw_tbl := List.mem_of_getElem? (i := 513) (by decide +kernel)
theorem kl_X3_219 : Cond.methodLink RX3 219 yX3_guestActs ∈ lw_tbl := List.mem_of_getElem? (i := 517) (by decide +kernel)
theorem kl_L_76 : Cond.methodLink RL 76 yX4_lose ∈ lw_tbl := List.mem_of_getElem? (i := 521) (by decide +kernel)
theorem kl_X4_168 : Cond.methodLink RX4 168 yX3_loses ∈ lw_tbl := List.mem_of_getElem? (i := 525) (by decide +kernel)
theorem kl_X3_152 : Cond.methodLink RX3 152 yX2_hasRow ∈ lw_tbl := List.mem_of_getElem? (i := 529) (by decide +kernel)
theorem kl_L_80 : Cond.methodLink RL 80 yX4_twice ∈ lw_tbl := List.mem_of_getElem? (i := 530) (by decide +kernel)
theorem kl_X4_171 : Cond.methodLink RX4 171 yX2_isFull ∈ lw_tbl := List.mem_of_getElem? (i := 534) (by decide +kernel)
theorem kl_X4_175 : Cond.methodLink RX4 175 yX2_repeat ∈ lw_tbl := List.mem_of_getElem? (i := 535) (by decide +kernel)
theorem kl_L_84 : Cond.methodLink RL 84 yX4_forge ∈ lw_tbl := List.mem_of_getElem? (i := 539) (by decide +kernel)
theorem kl_X4_178 : Cond.methodLink RX4 178 yX2_add ∈ lw_tbl := List.mem_of_getElem? (i := 543) (by decide +kernel)
theorem kl_L_89 : Cond.methodLink RL 89 yX4_tick ∈ lw_tbl := List.mem_of_getElem? (i := 544) (by decide +kernel)
theorem kl_X4_182 : Cond.methodLink RX4 182 yX3_passes ∈ lw_tbl := List.mem_of_getElem? (i := 548) (by decide +kernel)
theorem kl_X3_228 : Cond.methodLink RX3 228 yX3_asksAgain ∈ lw_tbl := List.mem_of_getElem? (i := 552) (by decide +kernel)
theorem kl_X3_231 : Cond.methodLink RX3 231 yX3_givesUp ∈ lw_tbl := List.mem_of_getElem? (i := 556) (by decide +kernel)
theorem kl_X3_234 : Cond.methodLink RX3 234 yX3_forgets ∈ lw_tbl := List.mem_of_getElem? (i := 560) (by decide +kernel)
theorem kl_X3_240 : Cond.methodLink RX3 240 yX3_dropsHeldOf ∈ lw_tbl := List.mem_of_getElem? (i := 564) (by decide +kernel)
theorem kl_X3_237 : Cond.methodLink RX3 237 yX3_leaves ∈ lw_tbl := List.mem_of_getElem? (i := 568) (by decide +kernel)
theorem kl_X3_243 : Cond.methodLink RX3 243 yX3_goesTo ∈ lw_tbl := List.mem_of_getElem? (i := 572) (by decide +kernel)
theorem kl_X3_246 : Cond.methodLink RX3 246 yX3_closes ∈ lw_tbl := List.mem_of_getElem? (i := 573) (by decide +kernel)
theorem kl_L_93 : Cond.methodLink RL 93 yX4_drift ∈ lw_tbl := List.mem_of_getElem? (i := 574) (by decide +kernel)
theorem kl_X4_185 : Cond.methodLink RX4 185 yX4_drawOne ∈ lw_tbl := List.mem_of_getElem? (i := 578) (by decide +kernel)
theorem kl_X4_202 : Cond.methodLink RX4 202 yX3_draw ∈ lw_tbl := List.mem_of_getElem? (i := 582) (by decide +kernel)
theorem kk_X3_120 : Cond.constantLong RX3 120 (1103515245) ∈ lw_tbl := List.mem_of_getElem? (i := 586) (by decide +kernel)
theorem kk_X3_122 : Cond.constantLong RX3 122 (12345) ∈ lw_tbl := List.mem_of_getElem? (i := 587) (by decide +kernel)
theorem kk_X3_124 : Cond.constantLong RX3 124 (2147483647) ∈ lw_tbl := List.mem_of_getElem? (i := 588) (by decide +kernel)
theorem kk_X3_126 : Cond.constant RX3 126 (65536) ∈ lw_tbl := List.mem_of_getElem? (i := 589) (by decide +kernel)
theorem kl_X4_205 : Cond.methodLink RX4 205 yX4_say ∈ lw_tbl := List.mem_of_getElem? (i := 590) (by decide +kernel)
theorem kl_X4_208 : Cond.methodLink RX4 208 yX4_speak ∈ lw_tbl := List.mem_of_getElem? (i := 591) (by decide +kernel)
theorem kl_X4_211 : Cond.methodLink RX4 211 yX4_goOrOpen ∈ lw_tbl := List.mem_of_getElem? (i := 592) (by decide +kernel)
theorem kl_X4_217 : Cond.methodLink RX4 217 yX4_go ∈ lw_tbl := List.mem_of_getElem? (i := 596) (by decide +kernel)
theorem kl_X4_220 : Cond.methodLink RX4 220 yX4_open ∈ lw_tbl := List.mem_of_getElem? (i := 597) (by decide +kernel)
theorem kl_X4_214 : Cond.methodLink RX4 214 yX4_again ∈ lw_tbl := List.mem_of_getElem? (i := 598) (by decide +kernel)
theorem kl_L_97 : Cond.methodLink RL 97 yX4_write ∈ lw_tbl := List.mem_of_getElem? (i := 599) (by decide +kernel)
theorem kl_L_102 : Cond.methodLink RL 102 yX4_tear ∈ lw_tbl := List.mem_of_getElem? (i := 603) (by decide +kernel)
theorem kl_X4_188 : Cond.methodLink RX4 188 yX2_empty ∈ lw_tbl := List.mem_of_getElem? (i := 607) (by decide +kernel)
theorem kl_L_106 : Cond.methodLink RL 106 yX4_seed ∈ lw_tbl := List.mem_of_getElem? (i := 611) (by decide +kernel)
theorem kl_L_110 : Cond.methodLink RL 110 yX4_keep ∈ lw_tbl := List.mem_of_getElem? (i := 615) (by decide +kernel)
theorem kl_X4_191 : Cond.methodLink RX4 191 yX3_becomes ∈ lw_tbl := List.mem_of_getElem? (i := 619) (by decide +kernel)
theorem kl_X3_75 : Cond.methodLink RX3 75 yX2_becomes ∈ lw_tbl := List.mem_of_getElem? (i := 623) (by decide +kernel)
theorem kl_X3_79 : Cond.methodLink RX3 79 yX1_becomes ∈ lw_tbl := List.mem_of_getElem? (i := 627) (by decide +kernel)
theorem kl_X1_37 : Cond.methodLink RX1 37 arraycopyName ∈ lw_tbl := List.mem_of_getElem? (i := 631) (by decide +kernel)
theorem kl_X3_82 : Cond.methodLink RX3 82 yX0_becomes ∈ lw_tbl := List.mem_of_getElem? (i := 632) (by decide +kernel)
theorem kl_X0_47 : Cond.methodLink RX0 47 yX1_becomes ∈ lw_tbl := List.mem_of_getElem? (i := 636) (by decide +kernel)
theorem kl_X3_85 : Cond.methodLink RX3 85 yX3_droppedBy ∈ lw_tbl := List.mem_of_getElem? (i := 637) (by decide +kernel)
theorem kl_L_114 : Cond.methodLink RL 114 yX4_goBack ∈ lw_tbl := List.mem_of_getElem? (i := 638) (by decide +kernel)
theorem ko_L_10 : Cond.classLink RL 10 RX5 ∈ lw_tbl := List.mem_of_getElem? (i := 642) (by decide +kernel)
theorem kn_X5 : Cond.instantiable RX5 8 ∈ lw_tbl := List.mem_of_getElem? (i := 643) (by decide +kernel)
theorem kl_L_12 : Cond.methodLink RL 12 yX5_init ∈ lw_tbl := List.mem_of_getElem? (i := 644) (by decide +kernel)
theorem kl_X5_1 : Cond.methodLink RX5 1 objectInit ∈ lw_tbl := List.mem_of_getElem? (i := 647) (by decide +kernel)
theorem kf_X5_7 : mw_FlO RX5 7 5 0 := ⟨_, _, _, rfl, by decide, List.mem_of_getElem? (i := 648) (by decide +kernel)⟩
theorem kf_X5_236 : mw_FlO RX5 236 5 1 := ⟨_, _, _, rfl, by decide, List.mem_of_getElem? (i := 649) (by decide +kernel)⟩
theorem kf_X5_135 : mw_FlO RX5 135 5 2 := ⟨_, _, _, rfl, by decide, List.mem_of_getElem? (i := 650) (by decide +kernel)⟩
theorem kf_X5_13 : mw_FlO RX5 13 5 3 := ⟨_, _, _, rfl, by decide, List.mem_of_getElem? (i := 651) (by decide +kernel)⟩
theorem kf_X5_16 : mw_FlO RX5 16 5 4 := ⟨_, _, _, rfl, by decide, List.mem_of_getElem? (i := 652) (by decide +kernel)⟩
theorem kf_X5_19 : mw_FlO RX5 19 5 5 := ⟨_, _, _, rfl, by decide, List.mem_of_getElem? (i := 653) (by decide +kernel)⟩
theorem kf_X5_22 : mw_FlO RX5 22 5 6 := ⟨_, _, _, rfl, by decide, List.mem_of_getElem? (i := 654) (by decide +kernel)⟩
theorem kf_X5_119 : mw_FlO RX5 119 5 7 := ⟨_, _, _, rfl, by decide, List.mem_of_getElem? (i := 655) (by decide +kernel)⟩
theorem kl_L_17 : Cond.methodLink RL 17 yX5_told ∈ lw_tbl := List.mem_of_getElem? (i := 673) (by decide +kernel)
theorem kl_X5_123 : Cond.methodLink RX5 123 yX5_manyOf ∈ lw_tbl := List.mem_of_getElem? (i := 677) (by decide +kernel)
theorem kl_X5_139 : Cond.methodLink RX5 139 yX5_toldMore ∈ lw_tbl := List.mem_of_getElem? (i := 681) (by decide +kernel)
theorem kl_X5_127 : Cond.methodLink RX5 127 yX5_isSettled ∈ lw_tbl := List.mem_of_getElem? (i := 685) (by decide +kernel)
theorem kl_X5_116 : Cond.methodLink RX5 116 yX5_hasAll ∈ lw_tbl := List.mem_of_getElem? (i := 689) (by decide +kernel)
theorem kl_X5_131 : Cond.methodLink RX5 131 yX5_wrong ∈ lw_tbl := List.mem_of_getElem? (i := 693) (by decide +kernel)
theorem kk_X5_138 : Cond.constant RX5 138 (-1000000002) ∈ lw_tbl := List.mem_of_getElem? (i := 697) (by decide +kernel)
theorem kl_L_22 : Cond.methodLink RL 22 yX5_end ∈ lw_tbl := List.mem_of_getElem? (i := 698) (by decide +kernel)
theorem kl_X5_144 : Cond.methodLink RX5 144 yX5_isEnd ∈ lw_tbl := List.mem_of_getElem? (i := 702) (by decide +kernel)
theorem kl_X5_68 : Cond.methodLink RX5 68 yX5_in ∈ lw_tbl := List.mem_of_getElem? (i := 705) (by decide +kernel)
theorem kk_X5_147 : Cond.constant RX5 147 (-1000000001) ∈ lw_tbl := List.mem_of_getElem? (i := 708) (by decide +kernel)
theorem kl_X5_148 : Cond.methodLink RX5 148 yX5_manyHas ∈ lw_tbl := List.mem_of_getElem? (i := 709) (by decide +kernel)
theorem kl_X5_58 : Cond.methodLink RX5 58 yX5_inRow ∈ lw_tbl := List.mem_of_getElem? (i := 713) (by decide +kernel)
theorem kl_L_26 : Cond.methodLink RL 26 yX5_place ∈ lw_tbl := List.mem_of_getElem? (i := 717) (by decide +kernel)
theorem kl_X5_151 : Cond.methodLink RX5 151 yX5_isPlace ∈ lw_tbl := List.mem_of_getElem? (i := 721) (by decide +kernel)
theorem kk_X5_142 : Cond.constantLong RX5 142 (4) ∈ lw_tbl := List.mem_of_getElem? (i := 724) (by decide +kernel)
theorem kl_X5_154 : Cond.methodLink RX5 154 yX5_heldFor ∈ lw_tbl := List.mem_of_getElem? (i := 725) (by decide +kernel)
theorem kl_L_30 : Cond.methodLink RL 30 yX5_letter ∈ lw_tbl := List.mem_of_getElem? (i := 729) (by decide +kernel)
theorem kk_X5_157 : Cond.constantLong RX5 157 (5) ∈ lw_tbl := List.mem_of_getElem? (i := 733) (by decide +kernel)
theorem kl_L_34 : Cond.methodLink RL 34 yX5_challenge ∈ lw_tbl := List.mem_of_getElem? (i := 734) (by decide +kernel)
theorem kl_L_38 : Cond.methodLink RL 38 yX5_held ∈ lw_tbl := List.mem_of_getElem? (i := 738) (by decide +kernel)
theorem kk_X5_159 : Cond.constantLong RX5 159 (2) ∈ lw_tbl := List.mem_of_getElem? (i := 742) (by decide +kernel)
theorem kl_L_42 : Cond.methodLink RL 42 yX5_name ∈ lw_tbl := List.mem_of_getElem? (i := 743) (by decide +kernel)
theorem kl_L_46 : Cond.methodLink RL 46 yX5_word_ ∈ lw_tbl := List.mem_of_getElem? (i := 747) (by decide +kernel)
theorem kl_L_51 : Cond.methodLink RL 51 yX5_say ∈ lw_tbl := List.mem_of_getElem? (i := 751) (by decide +kernel)
theorem kl_X5_162 : Cond.methodLink RX5 162 yX5_next ∈ lw_tbl := List.mem_of_getElem? (i := 755) (by decide +kernel)
theorem kk_X5_161 : Cond.constant RX5 161 (-1000000004) ∈ lw_tbl := List.mem_of_getElem? (i := 759) (by decide +kernel)
theorem kl_X5_47 : Cond.methodLink RX5 47 yX5_goes ∈ lw_tbl := List.mem_of_getElem? (i := 760) (by decide +kernel)
theorem kl_X5_33 : Cond.methodLink RX5 33 yX5_maySend ∈ lw_tbl := List.mem_of_getElem? (i := 764) (by decide +kernel)
theorem kl_X5_25 : Cond.methodLink RX5 25 yX5_sizeOf ∈ lw_tbl := List.mem_of_getElem? (i := 768) (by decide +kernel)
theorem kl_X5_37 : Cond.methodLink RX5 37 yX5_send ∈ lw_tbl := List.mem_of_getElem? (i := 771) (by decide +kernel)
theorem kl_X5_40 : Cond.methodLink RX5 40 yX5_hold ∈ lw_tbl := List.mem_of_getElem? (i := 775) (by decide +kernel)
theorem kl_X5_29 : Cond.methodLink RX5 29 yX5_removeAt ∈ lw_tbl := List.mem_of_getElem? (i := 779) (by decide +kernel)
theorem kl_L_67 : Cond.methodLink RL 67 yX5_speak ∈ lw_tbl := List.mem_of_getElem? (i := 783) (by decide +kernel)
theorem kl_L_55 : Cond.methodLink RL 55 yX5_open ∈ lw_tbl := List.mem_of_getElem? (i := 787) (by decide +kernel)
theorem kl_X5_165 : Cond.methodLink RX5 165 yX5_leastSpare ∈ lw_tbl := List.mem_of_getElem? (i := 791) (by decide +kernel)
theorem kk_X5_168 : Cond.constant RX5 168 (-1000000003) ∈ lw_tbl := List.mem_of_getElem? (i := 795) (by decide +kernel)
theorem kl_X5_54 : Cond.methodLink RX5 54 yX5_challengeNow ∈ lw_tbl := List.mem_of_getElem? (i := 796) (by decide +kernel)
theorem kl_L_59 : Cond.methodLink RL 59 yX5_go ∈ lw_tbl := List.mem_of_getElem? (i := 800) (by decide +kernel)
theorem kl_X5_101 : Cond.methodLink RX5 101 yX5_goTo ∈ lw_tbl := List.mem_of_getElem? (i := 804) (by decide +kernel)
theorem kl_X5_85 : Cond.methodLink RX5 85 yX5_word ∈ lw_tbl := List.mem_of_getElem? (i := 808) (by decide +kernel)
theorem kl_L_63 : Cond.methodLink RL 63 yX5_close ∈ lw_tbl := List.mem_of_getElem? (i := 812) (by decide +kernel)
theorem kl_X5_104 : Cond.methodLink RX5 104 yX5_closeNow ∈ lw_tbl := List.mem_of_getElem? (i := 816) (by decide +kernel)
theorem kl_L_71 : Cond.methodLink RL 71 yX5_again ∈ lw_tbl := List.mem_of_getElem? (i := 820) (by decide +kernel)
theorem kl_L_75 : Cond.methodLink RL 75 yX5_arrive ∈ lw_tbl := List.mem_of_getElem? (i := 824) (by decide +kernel)
theorem kl_X5_177 : Cond.methodLink RX5 177 yX5_isLetter ∈ lw_tbl := List.mem_of_getElem? (i := 828) (by decide +kernel)
theorem kl_X5_180 : Cond.methodLink RX5 180 yX5_arriveNow ∈ lw_tbl := List.mem_of_getElem? (i := 832) (by decide +kernel)
theorem kl_X5_169 : Cond.methodLink RX5 169 yX5_takenByHouse ∈ lw_tbl := List.mem_of_getElem? (i := 836) (by decide +kernel)
theorem kl_X5_72 : Cond.methodLink RX5 72 yX5_isLive ∈ lw_tbl := List.mem_of_getElem? (i := 840) (by decide +kernel)
theorem kl_X5_76 : Cond.methodLink RX5 76 yX5_took ∈ lw_tbl := List.mem_of_getElem? (i := 844) (by decide +kernel)
theorem kl_X5_79 : Cond.methodLink RX5 79 yX5_note ∈ lw_tbl := List.mem_of_getElem? (i := 848) (by decide +kernel)
theorem kl_X5_82 : Cond.methodLink RX5 82 yX5_follow ∈ lw_tbl := List.mem_of_getElem? (i := 852) (by decide +kernel)
theorem kl_X5_61 : Cond.methodLink RX5 61 yX5_challengeOnce ∈ lw_tbl := List.mem_of_getElem? (i := 856) (by decide +kernel)
theorem kl_X5_50 : Cond.methodLink RX5 50 yX5_findAsked ∈ lw_tbl := List.mem_of_getElem? (i := 860) (by decide +kernel)
theorem kl_X5_89 : Cond.methodLink RX5 89 yX5_proveBy ∈ lw_tbl := List.mem_of_getElem? (i := 864) (by decide +kernel)
theorem kl_X5_65 : Cond.methodLink RX5 65 yX5_letOut ∈ lw_tbl := List.mem_of_getElem? (i := 868) (by decide +kernel)
theorem kl_X5_44 : Cond.methodLink RX5 44 yX5_firstHeld ∈ lw_tbl := List.mem_of_getElem? (i := 872) (by decide +kernel)
theorem kl_X5_92 : Cond.methodLink RX5 92 yX5_retire ∈ lw_tbl := List.mem_of_getElem? (i := 876) (by decide +kernel)
theorem kl_X5_95 : Cond.methodLink RX5 95 yX5_confirm ∈ lw_tbl := List.mem_of_getElem? (i := 880) (by decide +kernel)
theorem kl_X5_173 : Cond.methodLink RX5 173 yX5_takenByGuest ∈ lw_tbl := List.mem_of_getElem? (i := 884) (by decide +kernel)
theorem kl_X5_98 : Cond.methodLink RX5 98 yX5_sureBy ∈ lw_tbl := List.mem_of_getElem? (i := 888) (by decide +kernel)
theorem kl_L_79 : Cond.methodLink RL 79 yX5_lose ∈ lw_tbl := List.mem_of_getElem? (i := 892) (by decide +kernel)
theorem kl_L_83 : Cond.methodLink RL 83 yX5_twice ∈ lw_tbl := List.mem_of_getElem? (i := 896) (by decide +kernel)
theorem kl_L_88 : Cond.methodLink RL 88 yX5_forge ∈ lw_tbl := List.mem_of_getElem? (i := 900) (by decide +kernel)
theorem kk_X5_183 : Cond.constantLong RX5 183 (-1) ∈ lw_tbl := List.mem_of_getElem? (i := 904) (by decide +kernel)
theorem kk_X5_185 : Cond.constantLong RX5 185 (99) ∈ lw_tbl := List.mem_of_getElem? (i := 905) (by decide +kernel)
theorem kk_X5_187 : Cond.constantLong RX5 187 (9999) ∈ lw_tbl := List.mem_of_getElem? (i := 906) (by decide +kernel)
theorem kl_L_92 : Cond.methodLink RL 92 yX5_tick ∈ lw_tbl := List.mem_of_getElem? (i := 907) (by decide +kernel)
theorem kl_X5_189 : Cond.methodLink RX5 189 yX5_tickNow ∈ lw_tbl := List.mem_of_getElem? (i := 911) (by decide +kernel)
theorem kl_X5_113 : Cond.methodLink RX5 113 yX5_lookAt ∈ lw_tbl := List.mem_of_getElem? (i := 915) (by decide +kernel)
theorem kl_X5_107 : Cond.methodLink RX5 107 yX5_forget ∈ lw_tbl := List.mem_of_getElem? (i := 919) (by decide +kernel)
theorem kl_X5_110 : Cond.methodLink RX5 110 yX5_giveUp ∈ lw_tbl := List.mem_of_getElem? (i := 923) (by decide +kernel)
theorem kl_L_96 : Cond.methodLink RL 96 yX5_drift ∈ lw_tbl := List.mem_of_getElem? (i := 927) (by decide +kernel)
theorem kk_X5_226 : Cond.constantLong RX5 226 (20) ∈ lw_tbl := List.mem_of_getElem? (i := 931) (by decide +kernel)
theorem kl_X5_228 : Cond.methodLink RX5 228 yX5_chance ∈ lw_tbl := List.mem_of_getElem? (i := 932) (by decide +kernel)
theorem kl_X5_199 : Cond.methodLink RX5 199 yX5_draw ∈ lw_tbl := List.mem_of_getElem? (i := 936) (by decide +kernel)
theorem kk_X5_192 : Cond.constantLong RX5 192 (1103515245) ∈ lw_tbl := List.mem_of_getElem? (i := 940) (by decide +kernel)
theorem kk_X5_194 : Cond.constantLong RX5 194 (12345) ∈ lw_tbl := List.mem_of_getElem? (i := 941) (by decide +kernel)
theorem kk_X5_196 : Cond.constantLong RX5 196 (2147483648) ∈ lw_tbl := List.mem_of_getElem? (i := 942) (by decide +kernel)
theorem kk_X5_198 : Cond.constant RX5 198 (65536) ∈ lw_tbl := List.mem_of_getElem? (i := 943) (by decide +kernel)
theorem kl_X5_202 : Cond.methodLink RX5 202 yX5_arrive ∈ lw_tbl := List.mem_of_getElem? (i := 944) (by decide +kernel)
theorem kl_X5_205 : Cond.methodLink RX5 205 yX5_lose ∈ lw_tbl := List.mem_of_getElem? (i := 945) (by decide +kernel)
theorem kl_X5_208 : Cond.methodLink RX5 208 yX5_say ∈ lw_tbl := List.mem_of_getElem? (i := 946) (by decide +kernel)
theorem kl_X5_211 : Cond.methodLink RX5 211 yX5_speak ∈ lw_tbl := List.mem_of_getElem? (i := 947) (by decide +kernel)
theorem kl_X5_214 : Cond.methodLink RX5 214 yX5_tick ∈ lw_tbl := List.mem_of_getElem? (i := 948) (by decide +kernel)
theorem kl_X5_217 : Cond.methodLink RX5 217 yX5_go ∈ lw_tbl := List.mem_of_getElem? (i := 949) (by decide +kernel)
theorem kl_X5_220 : Cond.methodLink RX5 220 yX5_open ∈ lw_tbl := List.mem_of_getElem? (i := 950) (by decide +kernel)
theorem kl_X5_223 : Cond.methodLink RX5 223 yX5_again ∈ lw_tbl := List.mem_of_getElem? (i := 951) (by decide +kernel)
theorem kl_L_101 : Cond.methodLink RL 101 yX5_write ∈ lw_tbl := List.mem_of_getElem? (i := 952) (by decide +kernel)
theorem kk_X5_231 : Cond.constantLong RX5 231 (39) ∈ lw_tbl := List.mem_of_getElem? (i := 956) (by decide +kernel)
theorem kl_L_105 : Cond.methodLink RL 105 yX5_tear ∈ lw_tbl := List.mem_of_getElem? (i := 957) (by decide +kernel)
theorem kl_L_109 : Cond.methodLink RL 109 yX5_seed ∈ lw_tbl := List.mem_of_getElem? (i := 961) (by decide +kernel)
theorem kl_L_113 : Cond.methodLink RL 113 yX5_keep ∈ lw_tbl := List.mem_of_getElem? (i := 965) (by decide +kernel)
theorem kl_X5_233 : Cond.methodLink RX5 233 yX5_copy ∈ lw_tbl := List.mem_of_getElem? (i := 969) (by decide +kernel)
theorem kl_L_117 : Cond.methodLink RL 117 yX5_goBack ∈ lw_tbl := List.mem_of_getElem? (i := 973) (by decide +kernel)
theorem kt_stat : Cond.static arraycopyName ∈ lw_tbl := List.mem_of_getElem? (i := 412) (by decide +kernel)
theorem kt_oi : Cond.instanceMethod objectInit ∈ lw_tbl := List.mem_of_getElem? (i := 80) (by decide +kernel)
theorem kt_oc : Cond.code objectInit ⟨#[0xb1]⟩ 1 none ∈ lw_tbl := List.mem_of_getElem? (i := 81) (by decide +kernel)
theorem kw_X0 : ∀ w ∈ u_ws RX0 TX0 8, w ∈ lw_tbl := by
  intro w hw
  obtain ⟨k, hk, rfl⟩ := List.mem_map.mp hw
  have hk := List.mem_range.mp hk
  match k, hk with
  | 0, _ => exact List.mem_of_getElem? (i := 159) (by decide +kernel)
  | 1, _ => exact List.mem_of_getElem? (i := 161) (by decide +kernel)
  | 2, _ => exact List.mem_of_getElem? (i := 163) (by decide +kernel)
  | 3, _ => exact List.mem_of_getElem? (i := 165) (by decide +kernel)
  | 4, _ => exact List.mem_of_getElem? (i := 167) (by decide +kernel)
  | 5, _ => exact List.mem_of_getElem? (i := 169) (by decide +kernel)
  | 6, _ => exact List.mem_of_getElem? (i := 171) (by decide +kernel)
  | 7, _ => exact List.mem_of_getElem? (i := 173) (by decide +kernel)
  | k + 8, hk => exact absurd hk (by omega)
theorem kc_0 : mw_Cl 0 := fun C T N h => by cases h; exact ⟨kw_X0, ⟨tyX0, tyX0_ok⟩, nmX0⟩
theorem kw_X1 : ∀ w ∈ u_ws RX1 TX1 2, w ∈ lw_tbl := by
  intro w hw
  obtain ⟨k, hk, rfl⟩ := List.mem_map.mp hw
  have hk := List.mem_range.mp hk
  match k, hk with
  | 0, _ => exact List.mem_of_getElem? (i := 123) (by decide +kernel)
  | 1, _ => exact List.mem_of_getElem? (i := 125) (by decide +kernel)
  | k + 2, hk => exact absurd hk (by omega)
theorem kc_1 : mw_Cl 1 := fun C T N h => by cases h; exact ⟨kw_X1, ⟨tyX1, tyX1_ok⟩, nmX1⟩
theorem kw_X2 : ∀ w ∈ u_ws RX2 TX2 4, w ∈ lw_tbl := by
  intro w hw
  obtain ⟨k, hk, rfl⟩ := List.mem_map.mp hw
  have hk := List.mem_range.mp hk
  match k, hk with
  | 0, _ => exact List.mem_of_getElem? (i := 104) (by decide +kernel)
  | 1, _ => exact List.mem_of_getElem? (i := 106) (by decide +kernel)
  | 2, _ => exact List.mem_of_getElem? (i := 108) (by decide +kernel)
  | 3, _ => exact List.mem_of_getElem? (i := 110) (by decide +kernel)
  | k + 4, hk => exact absurd hk (by omega)
theorem kc_2 : mw_Cl 2 := fun C T N h => by cases h; exact ⟨kw_X2, ⟨tyX2, tyX2_ok⟩, nmX2⟩
theorem kw_X3 : ∀ w ∈ u_ws RX3 TX3 15, w ∈ lw_tbl := by
  intro w hw
  obtain ⟨k, hk, rfl⟩ := List.mem_map.mp hw
  have hk := List.mem_range.mp hk
  match k, hk with
  | 0, _ => exact List.mem_of_getElem? (i := 216) (by decide +kernel)
  | 1, _ => exact List.mem_of_getElem? (i := 218) (by decide +kernel)
  | 2, _ => exact List.mem_of_getElem? (i := 220) (by decide +kernel)
  | 3, _ => exact List.mem_of_getElem? (i := 222) (by decide +kernel)
  | 4, _ => exact List.mem_of_getElem? (i := 224) (by decide +kernel)
  | 5, _ => exact List.mem_of_getElem? (i := 226) (by decide +kernel)
  | 6, _ => exact List.mem_of_getElem? (i := 228) (by decide +kernel)
  | 7, _ => exact List.mem_of_getElem? (i := 230) (by decide +kernel)
  | 8, _ => exact List.mem_of_getElem? (i := 232) (by decide +kernel)
  | 9, _ => exact List.mem_of_getElem? (i := 234) (by decide +kernel)
  | 10, _ => exact List.mem_of_getElem? (i := 236) (by decide +kernel)
  | 11, _ => exact List.mem_of_getElem? (i := 238) (by decide +kernel)
  | 12, _ => exact List.mem_of_getElem? (i := 240) (by decide +kernel)
  | 13, _ => exact List.mem_of_getElem? (i := 242) (by decide +kernel)
  | 14, _ => exact List.mem_of_getElem? (i := 244) (by decide +kernel)
  | k + 15, hk => exact absurd hk (by omega)
theorem kc_3 : mw_Cl 3 := fun C T N h => by cases h; exact ⟨kw_X3, ⟨tyX3, tyX3_ok⟩, nmX3⟩
theorem kw_X4 : ∀ w ∈ u_ws RX4 TX4 3, w ∈ lw_tbl := by
  intro w hw
  obtain ⟨k, hk, rfl⟩ := List.mem_map.mp hw
  have hk := List.mem_range.mp hk
  match k, hk with
  | 0, _ => exact List.mem_of_getElem? (i := 253) (by decide +kernel)
  | 1, _ => exact List.mem_of_getElem? (i := 255) (by decide +kernel)
  | 2, _ => exact List.mem_of_getElem? (i := 257) (by decide +kernel)
  | k + 3, hk => exact absurd hk (by omega)
theorem kc_4 : mw_Cl 4 := fun C T N h => by cases h; exact ⟨kw_X4, ⟨tyX4, tyX4_ok⟩, nmX4⟩
theorem kw_X5 : ∀ w ∈ u_ws RX5 TX5 8, w ∈ lw_tbl := by
  intro w hw
  obtain ⟨k, hk, rfl⟩ := List.mem_map.mp hw
  have hk := List.mem_range.mp hk
  match k, hk with
  | 0, _ => exact List.mem_of_getElem? (i := 656) (by decide +kernel)
  | 1, _ => exact List.mem_of_getElem? (i := 658) (by decide +kernel)
  | 2, _ => exact List.mem_of_getElem? (i := 660) (by decide +kernel)
  | 3, _ => exact List.mem_of_getElem? (i := 662) (by decide +kernel)
  | 4, _ => exact List.mem_of_getElem? (i := 664) (by decide +kernel)
  | 5, _ => exact List.mem_of_getElem? (i := 666) (by decide +kernel)
  | 6, _ => exact List.mem_of_getElem? (i := 668) (by decide +kernel)
  | 7, _ => exact List.mem_of_getElem? (i := 670) (by decide +kernel)
  | k + 8, hk => exact absurd hk (by omega)
theorem kc_5 : mw_Cl 5 := fun C T N h => by cases h; exact ⟨kw_X5, ⟨tyX5, tyX5_ok⟩, nmX5⟩
theorem mw_FlO.fl {own : String} {idx ci k : Nat} (h : mw_FlO own idx ci k) : mw_Fl own idx ci k := by
  obtain ⟨C, T, N, h1, h2, h3⟩ := h
  exact ⟨C, T, N, h1, h2, Or.inl h3⟩
end
section
/-! System.arraycopy over rows of ints and of longs -/
section KY
variable {Γ : mw_C} {p : Program} {l : Launch} {e : Env} {R : Room} {s : State} {m : MethodId} {args : Array Value} {below : List Frame} {meth : Method} {c : Code} {A : Nat → Prop} {Q : State → Prop} {I I1 : Heap → Prop} {ce sl pc : Nat} {d : mw_M} {P : List (Nat × Instr × Nat)} {lv : List (Nat × Value)} {rest : List Value}
set_option maxHeartbeats 1000000 in
theorem mw_copyi (X : mw_Ok Γ p s m args meth c A d P) {idx a0 a : Nat} {sp dp n : Int32} (jp jd jn : Nat) (h1 : sp = nI jp) (h2 : dp = nI jd) (h3 : n = nI jn) (hlk : Cond.methodLink d.1.cls idx arraycopyName ∈ lw_tbl) (ha : mw_at P pc = some (.invokestatic idx, 3)) (hfr : 1 ≤ R.frames) (hlo : (rest.map fun v => v.category).sum + (nativeFrameWords "java/lang/System" "arraycopy" 5 + 11) ≤ R.locals)
    (hI : ∀ H, I H → A a ∧ ∃ n0 n1 f g, mw_ia Γ a0 n0 f H ∧ mw_ia Γ a n1 g H ∧ jp + jn ≤ n0 ∧ jd + jn ≤ n1 ∧ n0 ≤ 100000 ∧ n1 ≤ 100000 ∧ ∀ H1, mw_one a H H1 → mw_ia Γ a n1 (va_cpy f g jp jd jn) H1 → I1 H1) (kk : mw_G p l e R s m args below meth c A d.2.2.1 Q I1 ce sl (pc + 3) lv rest) : mw_G p l e R s m args below meth c A d.2.2.1 Q I ce sl pc lv (.int n :: .int dp :: .ref a :: .int sp :: .ref a0 :: rest) := by
  intro H locs ls hH hS hl T hT Y
  obtain ⟨hA, n0, n1, f, g, hc0, hc1, b1, b2, b3, b4, h4⟩ := hI H hH
  subst h1; subst h2; subst h3
  have hc0 : H[a0]? = some (arrV Γ.2.1.1 n0 (fun j => .int (f j))) := hc0
  have hc1 : H[a]? = some (arrV Γ.2.1.1 n1 (fun j => .int (g j))) := hc1
  have cp : (nI jp).toNatClampNeg = jp := nI_clamp (by omega)
  have cd : (nI jd).toNatClampNeg = jd := nI_clamp (by omega)
  have cn : (nI jn).toNatClampNeg = jn := nI_clamp (by omega)
  have tp : (nI jp).toInt = (jp : Int) := nI_toInt (by omega)
  have td : (nI jd).toInt = (jd : Int) := nI_toInt (by omega)
  have tn : (nI jn).toInt = (jn : Int) := nI_toInt (by omega)
  obtain ⟨-, k0, hk0, cm0, hkk0⟩ := (X.hK.2.1.2 0 _ rfl).1 n0 (fun j => .int (f j))
  obtain ⟨-, k1, hk1, cm1, hkk1⟩ := (X.hK.2.1.2 0 _ rfl).1 n1 (fun j => .int (g j))
  obtain ⟨vm', X', step⟩ := Y.arraycopy X.hx X.hown (X.hw hlk rfl) (X.hw kt_native rfl) (X.hw kt_stat rfl) (X.hw k_inJ10 rfl) (src := a0) (dst := a) (cs := arrV Γ.2.1.1 n0 (fun j => .int (f j))) (cd := arrV Γ.2.1.1 n1 (fun j => .int (g j))) (srcPos := nI jp) (destPos := nI jd) (n := nI jn) (by rw [hT]; exact hc0) (by rw [hT]; exact hc1)
    (fun _ h => by cases h) (fun _ h => by cases h) (fun h => by cases h) (fun h => by cases h) hk0 hk1 hkk0 hkk1 (by simp [show refKind .int = false from rfl]) (nI_pos (by omega)) (nI_pos (by omega)) (nI_pos (by omega))
    (by rw [tp, tn, arrV_size]; omega)
    (by rw [td, tn, arrV_size]; omega)
    (fun vm₁ _ i hi => by
      have e : (arrV Γ.2.1.1 n0 (fun j => Value.int (f j))).slots.getD ((nI jp).toNatClampNeg + i) .null = .int (f (jp + i)) := by
        rw [cn] at hi
        rw [Array.getD_eq_getD_getElem?, cp, arrV_read _ _ (by omega)]
        rfl
      refine ⟨?_, ?_⟩
      · rw [e]; rfl
      · rw [e]; exact trivial)
    (g := F0 m pc ls (.int (nI jn) :: .int (nI jd) :: .ref a :: .int (nI jp) :: .ref a0 :: rest)) rfl (by rw [X.hml]; exact hl.1) (rest := rest) rfl (by rw [X.hb]; exact X.hd ha) hfr (by show 2 * 0 + _ + _ ≤ _; omega)
  have e1 : copied (arrV Γ.2.1.1 n0 (fun j => Value.int (f j))) (arrV Γ.2.1.1 n1 (fun j => Value.int (g j))) (nI jp) (nI jd) (nI jn) = arrV Γ.2.1.1 n1 (fun j => .int (va_cpy f g jp jd jn j)) := by
    have := va_copied (fun z => Value.int z) Γ.2.1.1 Γ.2.1.1 (n1 := n1) (dp := jd) f g b1
    show (arrV Γ.2.1.1 n1 (fun j => Value.int (g j))).storeRun (nI jd).toNatClampNeg ((arrV Γ.2.1.1 n0 (fun j => Value.int (f j))).stretch (nI jp).toNatClampNeg (nI jn).toNatClampNeg) = _
    rw [cp, cd, cn]
    exact this
  rw [e1] at X' step
  have hlt : a < H.size := (Array.getElem?_eq_some_iff.mp hc1).1
  have hheap : ((T.setVm vm').setCell a (arrV Γ.2.1.1 n1 (fun j => .int (va_cpy f g jp jd jn j)))).heap = H.setIfInBounds a (arrV Γ.2.1.1 n1 (fun j => .int (va_cpy f g jp jd jn j))) := by rw [← hT]; rfl
  have hone : mw_one a H (H.setIfInBounds a (arrV Γ.2.1.1 n1 (fun j => .int (va_cpy f g jp jd jn j)))) := ⟨by simp, fun q hq => by simp [Array.getElem?_setIfInBounds, Ne.symm hq]⟩
  obtain ⟨t, a1, b5⟩ := kk _ _ ls (h4 _ hone (show (H.setIfInBounds a _)[a]? = some _ by simp [Array.getElem?_setIfInBounds, hlt])) ⟨by rw [hone.1]; exact hS.1, fun q g1 g2 => by
      rw [hone.2 q (fun e => g2 (by rw [e]; exact hA))]
      exact hS.2.1 q g1 g2, fun q hq => by
      rcases List.mem_append.mp hq with h | h
      · exact hS.2.2 q h
      · obtain ⟨z, -, hz⟩ := List.mem_map.mp h
        rw [← hz]
        exact hA⟩ hl _ hheap X'
  exact ⟨t, step t a1, b5⟩
set_option maxHeartbeats 1000000 in
theorem mw_copyl (X : mw_Ok Γ p s m args meth c A d P) {idx a0 a : Nat} {sp dp n : Int32} (jp jd jn : Nat) (h1 : sp = nI jp) (h2 : dp = nI jd) (h3 : n = nI jn) (hlk : Cond.methodLink d.1.cls idx arraycopyName ∈ lw_tbl) (ha : mw_at P pc = some (.invokestatic idx, 3)) (hfr : 1 ≤ R.frames) (hlo : (rest.map fun v => v.category).sum + (nativeFrameWords "java/lang/System" "arraycopy" 5 + 11) ≤ R.locals)
    (hI : ∀ H, I H → A a ∧ ∃ n0 n1 f g, mw_la Γ a0 n0 f H ∧ mw_la Γ a n1 g H ∧ jp + jn ≤ n0 ∧ jd + jn ≤ n1 ∧ n0 ≤ 100000 ∧ n1 ≤ 100000 ∧ ∀ H1, mw_one a H H1 → mw_la Γ a n1 (va_cpy f g jp jd jn) H1 → I1 H1) (kk : mw_G p l e R s m args below meth c A d.2.2.1 Q I1 ce sl (pc + 3) lv rest) : mw_G p l e R s m args below meth c A d.2.2.1 Q I ce sl pc lv (.int n :: .int dp :: .ref a :: .int sp :: .ref a0 :: rest) := by
  intro H locs ls hH hS hl T hT Y
  obtain ⟨hA, n0, n1, f, g, hc0, hc1, b1, b2, b3, b4, h4⟩ := hI H hH
  subst h1; subst h2; subst h3
  have hc0 : H[a0]? = some (arrV Γ.2.1.2.1 n0 (fun j => .long (f j))) := hc0
  have hc1 : H[a]? = some (arrV Γ.2.1.2.1 n1 (fun j => .long (g j))) := hc1
  have cp : (nI jp).toNatClampNeg = jp := nI_clamp (by omega)
  have cd : (nI jd).toNatClampNeg = jd := nI_clamp (by omega)
  have cn : (nI jn).toNatClampNeg = jn := nI_clamp (by omega)
  have tp : (nI jp).toInt = (jp : Int) := nI_toInt (by omega)
  have td : (nI jd).toInt = (jd : Int) := nI_toInt (by omega)
  have tn : (nI jn).toInt = (jn : Int) := nI_toInt (by omega)
  obtain ⟨-, k0, hk0, cm0, hkk0⟩ := (X.hK.2.1.2 1 _ rfl).1 n0 (fun j => .long (f j))
  obtain ⟨-, k1, hk1, cm1, hkk1⟩ := (X.hK.2.1.2 1 _ rfl).1 n1 (fun j => .long (g j))
  obtain ⟨vm', X', step⟩ := Y.arraycopy X.hx X.hown (X.hw hlk rfl) (X.hw kt_native rfl) (X.hw kt_stat rfl) (X.hw k_inJ10 rfl) (src := a0) (dst := a) (cs := arrV Γ.2.1.2.1 n0 (fun j => .long (f j))) (cd := arrV Γ.2.1.2.1 n1 (fun j => .long (g j))) (srcPos := nI jp) (destPos := nI jd) (n := nI jn) (by rw [hT]; exact hc0) (by rw [hT]; exact hc1)
    (fun _ h => by cases h) (fun _ h => by cases h) (fun h => by cases h) (fun h => by cases h) hk0 hk1 hkk0 hkk1 (by simp [show refKind .long = false from rfl]) (nI_pos (by omega)) (nI_pos (by omega)) (nI_pos (by omega))
    (by rw [tp, tn, arrV_size]; omega)
    (by rw [td, tn, arrV_size]; omega)
    (fun vm₁ _ i hi => by
      have e : (arrV Γ.2.1.2.1 n0 (fun j => Value.long (f j))).slots.getD ((nI jp).toNatClampNeg + i) .null = .long (f (jp + i)) := by
        rw [cn] at hi
        rw [Array.getD_eq_getD_getElem?, cp, arrV_read _ _ (by omega)]
        rfl
      refine ⟨?_, ?_⟩
      · rw [e]; rfl
      · rw [e]; exact trivial)
    (g := F0 m pc ls (.int (nI jn) :: .int (nI jd) :: .ref a :: .int (nI jp) :: .ref a0 :: rest)) rfl (by rw [X.hml]; exact hl.1) (rest := rest) rfl (by rw [X.hb]; exact X.hd ha) hfr (by show 2 * 0 + _ + _ ≤ _; omega)
  have e1 : copied (arrV Γ.2.1.2.1 n0 (fun j => Value.long (f j))) (arrV Γ.2.1.2.1 n1 (fun j => Value.long (g j))) (nI jp) (nI jd) (nI jn) = arrV Γ.2.1.2.1 n1 (fun j => .long (va_cpy f g jp jd jn j)) := by
    have := va_copied (fun z => Value.long z) Γ.2.1.2.1 Γ.2.1.2.1 (n1 := n1) (dp := jd) f g b1
    show (arrV Γ.2.1.2.1 n1 (fun j => Value.long (g j))).storeRun (nI jd).toNatClampNeg ((arrV Γ.2.1.2.1 n0 (fun j => Value.long (f j))).stretch (nI jp).toNatClampNeg (nI jn).toNatClampNeg) = _
    rw [cp, cd, cn]
    exact this
  rw [e1] at X' step
  have hlt : a < H.size := (Array.getElem?_eq_some_iff.mp hc1).1
  have hheap : ((T.setVm vm').setCell a (arrV Γ.2.1.2.1 n1 (fun j => .long (va_cpy f g jp jd jn j)))).heap = H.setIfInBounds a (arrV Γ.2.1.2.1 n1 (fun j => .long (va_cpy f g jp jd jn j))) := by rw [← hT]; rfl
  have hone : mw_one a H (H.setIfInBounds a (arrV Γ.2.1.2.1 n1 (fun j => .long (va_cpy f g jp jd jn j)))) := ⟨by simp, fun q hq => by simp [Array.getElem?_setIfInBounds, Ne.symm hq]⟩
  obtain ⟨t, a1, b5⟩ := kk _ _ ls (h4 _ hone (show (H.setIfInBounds a _)[a]? = some _ by simp [Array.getElem?_setIfInBounds, hlt])) ⟨by rw [hone.1]; exact hS.1, fun q g1 g2 => by
      rw [hone.2 q (fun e => g2 (by rw [e]; exact hA))]
      exact hS.2.1 q g1 g2, fun q hq => by
      rcases List.mem_append.mp hq with h | h
      · exact hS.2.2 q h
      · obtain ⟨z, -, hz⟩ := List.mem_map.mp h
        rw [← hz]
        exact hA⟩ hl _ hheap X'
  exact ⟨t, step t a1, b5⟩
end KY
end
section
/-! THE MODEL: what is so, as one row of numbers; what each happening makes of it -/
/-- n numbers are put from the place a on -/
def mo_put (W : Nat → Int32) (a n : Nat) (r : Nat → Int32) : Nat → Int32 := fun j => if a ≤ j ∧ j < a + n then r (j - a) else W j
theorem mo_put_in {W r : Nat → Int32} {a n j : Nat} (h : a ≤ j) (h2 : j < a + n) : mo_put W a n r j = r (j - a) := if_pos ⟨h, h2⟩
theorem mo_put_out {W r : Nat → Int32} {a n j : Nat} (h : j < a ∨ a + n ≤ j) : mo_put W a n r j = W j := if_neg (by omega)
def mo_r3 (a b c : Int32) : Nat → Int32 := fun j => match j with
  | 0 => a
  | 1 => b
  | _ => c
def mo_r5 (a b c d e : Int32) : Nat → Int32 := fun j => match j with
  | 0 => a
  | 1 => b
  | 2 => c
  | 3 => d
  | _ => e
def mo_r6 (a b c d e f : Int32) : Nat → Int32 := fun j => match j with
  | 0 => a
  | 1 => b
  | 2 => c
  | 3 => d
  | 4 => e
  | _ => f
/-- the place of the first one below n; n if there is none -/
def mo_fst (P : Nat → Bool) : Nat → Nat
  | 0 => 0
  | n + 1 => if mo_fst P n < n then mo_fst P n else if P n then n else n + 1
def mo_cnt (P : Nat → Bool) : Nat → Nat
  | 0 => 0
  | n + 1 => mo_cnt P n + if P n then 1 else 0
abbrev mo_n (x : Int32) : Nat := x.toNatClampNeg
/-- the k-th of a row of things of so many numbers goes; how many there are is told at cnt -/
def mo_rm (W : Nat → Int32) (frm size cnt k : Nat) : Nat → Int32 := upd (va_cpy W W (frm + size * (k + 1)) (frm + size * k) (size * (mo_n (W cnt) - 1 - k))) cnt (W cnt - nI 1)
def mo_send (W : Nat → Int32) (e p k : Nat) (v : Int32) : Nat → Int32 :=
  let W1 := upd W (14 + e) (W (14 + e) + nI 1)
  let W2 := if e = 1 then upd W1 (42 + p) (W1 (42 + p) + mw_sz k) else W1
  if W 11 = nI 24 then upd W2 10 (W 10 + nI 1)
  else upd (mo_put W2 (327 + 6 * mo_n (W 11)) 6 (mo_r6 (nI e) (nI p) (if e = 0 then W (22 + p) else -1) (W (14 + e)) (nI k) v)) 11 (W 11 + nI 1)
def mo_may (W : Nat → Int32) (p k : Nat) : Bool := decide (W (32 + p) = nI 1) || decide (W (42 + p) + mw_sz k ≤ nI 3 * W (37 + p))
def mo_hold (W : Nat → Int32) (p k : Nat) (v : Int32) : Nat → Int32 :=
  let W1 := if W 12 = nI 12 then mo_rm W 471 3 12 0 else W
  upd (mo_put W1 (471 + 3 * mo_n (W1 12)) 3 (mo_r3 (nI p) (nI k) v)) 12 (W1 12 + nI 1)
def mo_goes (W : Nat → Int32) (e p k : Nat) (v : Int32) : Nat → Int32 := if e = 0 ∨ mo_may W p k = true then mo_send W e p k v else mo_hold W p k v
/-- the first held one of a place -/
def mo_fh (W : Nat → Int32) (p : Nat) : Nat := mo_fst (fun k => decide (W (471 + 3 * k) = nI p)) (mo_n (W 12))
def mo_lo (p : Nat) : Nat → (Nat → Int32) → (Nat → Int32)
  | 0, W => W
  | n + 1, W => if mo_fh W p < mo_n (W 12) then
      (if mo_may W p (mo_n (W (471 + 3 * mo_fh W p + 1))) = true then mo_lo p n (mo_send (mo_rm W 471 3 12 (mo_fh W p)) 1 p (mo_n (W (471 + 3 * mo_fh W p + 1))) (W (471 + 3 * mo_fh W p + 2))) else W)
      else W
def mo_letOut (W : Nat → Int32) (p : Nat) : Nat → Int32 := mo_lo p (mo_n (W 12)) W
def mo_ask (W : Nat → Int32) (e p : Nat) : Nat → Int32 :=
  let W1 := if W 13 = nI 6 then mo_rm W 507 5 13 0 else W
  upd (mo_put (upd W1 (16 + e) (W (16 + e) + nI 1)) (507 + 5 * mo_n (W1 13)) 5 (mo_r5 (nI e) (W (16 + e)) (nI p) (W 0) (nI 0))) 13 (W1 13 + nI 1)
def mo_challenge (W : Nat → Int32) (e p : Nat) : Nat → Int32 := mo_goes (mo_ask W e p) e p 1 (W (16 + e))
/-- the first challenge of an end with a number in a column -/
def mo_fa (W : Nat → Int32) (e what : Nat) (v : Int32) : Nat := mo_fst (fun k => decide (W (507 + 5 * k) = nI e) && decide (W (507 + 5 * k + what) = v)) (mo_n (W 13))
def mo_once (W : Nat → Int32) (p : Nat) : Nat → Int32 := if W (32 + p) = 0 ∧ ¬ mo_fa W 1 2 (nI p) < mo_n (W 13) then mo_challenge W 1 p else W
/-- whether an end took a number -/
def mo_bit (W : Nat → Int32) (e y : Nat) : Bool := (W (537 + 1300 * e + y / 32)).toBitVec.getLsbD (y % 32)
def mo_note (W : Nat → Int32) (e y : Nat) : Nat → Int32 := upd W (537 + 1300 * e + y / 32) (W (537 + 1300 * e + y / 32) ||| nI 1 <<< (nI (y % 32) &&& 31))
def mo_row (W : Nat → Int32) (e : Nat) : Nat := mo_fst (fun k => !decide (W (127 + 100 * e + k) = nI 1)) 100
def mo_heard (W : Nat → Int32) (e : Nat) : Nat → Int32 := mo_goes W e (mo_n (W (2 + e))) 5 (nI (mo_row W e))
def mo_word (W : Nat → Int32) (e v : Nat) : Nat → Int32 := mo_heard (upd W (127 + 100 * e + v) (nI 1)) e
def mo_confirm (W : Nat → Int32) (e : Nat) (x : Int32) : Nat → Int32 := upd W (20 + e) (if W (20 + e) < x then x else W (20 + e))
def mo_follow (W : Nat → Int32) (p : Nat) : Nat → Int32 :=
  if W 3 = nI p then W else mo_once (upd (upd W 5 (if W (32 + mo_n (W 3)) = nI 1 then W 3 else W 5)) 3 (nI p)) p
def mo_prove (W : Nat → Int32) (x : Int32) : Nat → Int32 :=
  if mo_fa W 1 1 x < mo_n (W 13) then mo_letOut (upd (mo_rm W 507 5 13 (mo_fa W 1 1 x)) (32 + mo_n (W (507 + 5 * mo_fa W 1 1 x + 2))) (nI 1)) (mo_n (W (507 + 5 * mo_fa W 1 1 x + 2))) else W
def mo_live (W : Nat → Int32) (x : Int32) : Bool := decide (0 ≤ x) && decide (x < W 1) && decide (W (47 + mo_n x) = nI 1)
def mo_retire (W : Nat → Int32) (x own : Int32) : Nat → Int32 :=
  if mo_live W x = true ∧ ¬ x = own then
    (if W 1 < nI 40 then mo_goes (upd (upd (upd W (47 + mo_n x) (nI 0)) (47 + mo_n (W 1)) (nI 1)) 1 (W 1 + nI 1)) 1 (mo_n (W 3)) 3 (W 1) else upd W (47 + mo_n x) (nI 0))
  else W
/-- what the house does by the kind of a letter -/
def mo_houseBy (W : Nat → Int32) (p k : Nat) (name x : Int32) : Nat → Int32 :=
  if k = 0 then mo_word W 1 (mo_n x) else if k = 1 then mo_once (mo_goes W 1 p 2 x) p else if k = 2 then mo_prove W x else if k = 4 then mo_retire W x name else if k = 5 then mo_confirm W 1 x else W
def mo_new (W : Nat → Int32) (p k y : Nat) : Nat → Int32 := if (k = 0 ∨ 3 < k) ∧ W 6 < nI y then mo_follow (upd W 6 (nI y)) p else W
def mo_houseGot (W : Nat → Int32) (p k y : Nat) : Nat → Int32 := upd (mo_note W 1 y) (37 + p) (W (37 + p) + mw_sz k)
def mo_houseTook (W : Nat → Int32) (p k y : Nat) (name x : Int32) : Nat → Int32 := mo_letOut (mo_houseBy (mo_new (mo_houseGot W p k y) p k y) p k name x) p
/-- by what it is dropped -/
def mo_houseWhy (W : Nat → Int32) (name : Int32) (y : Nat) : Nat := if mo_live W name = true then (if mo_bit W 1 y = true then 3 else 0) else 1
def mo_house (W : Nat → Int32) (p : Nat) (name : Int32) (y k : Nat) (x : Int32) : Nat → Int32 := if mo_houseWhy W name y = 0 then mo_houseTook W p k y name x else W
def mo_sure (W : Nat → Int32) (x : Int32) : Nat → Int32 :=
  if mo_fa W 0 1 x < mo_n (W 13) then mo_rm (upd W (27 + mo_n (W (507 + 5 * mo_fa W 0 1 x + 2))) (nI 1)) 507 5 13 (mo_fa W 0 1 x) else W
def mo_guestBy (W : Nat → Int32) (p k : Nat) (x : Int32) : Nat → Int32 :=
  if k = 0 then mo_word W 0 (mo_n x) else if k = 1 then mo_goes W 0 p 2 x else if k = 2 then mo_sure W x else if k = 3 then upd W (87 + mo_n x) (if W (87 + mo_n x) = 0 then nI 1 else W (87 + mo_n x)) else if k = 5 then mo_confirm W 0 x else W
def mo_guestWhy (W : Nat → Int32) (p y : Nat) : Nat := if W (22 + p) < 0 then 2 else if mo_bit W 0 y = true then 3 else 0
def mo_guest (W : Nat → Int32) (p y k : Nat) (x : Int32) : Nat → Int32 := if mo_guestWhy W p y = 0 then mo_guestBy (mo_note W 0 y) p k x else W
def mo_goTo (W : Nat → Int32) (p : Nat) : Nat → Int32 := mo_heard (upd (upd W 4 (W 2)) 2 (nI p)) 0
def mo_close (W : Nat → Int32) (p : Nat) : Nat → Int32 := mo_send (upd W (22 + p) (-1)) 0 (mo_n (W 2)) 4 (W (22 + p))
def mo_least (W : Nat → Int32) : Nat := mo_fst (fun n => decide (W (87 + n) = nI 1)) 40
/-- held ones of a place go for good -/
def mo_dh (p : Nat) : Nat → (Nat → Int32) → (Nat → Int32)
  | 0, W => W
  | n + 1, W => if mo_fh W p < mo_n (W 12) then mo_dh p n (mo_rm W 471 3 12 (mo_fh W p)) else W
def mo_drop (W : Nat → Int32) (p : Nat) : Nat → Int32 := mo_dh p (mo_n (W 12)) W
def mo_forget (W : Nat → Int32) (p : Nat) : Nat → Int32 :=
  if W (32 + p) = nI 1 then W else
    let W1 := mo_drop (upd (upd W (37 + p) (nI 0)) (42 + p) (nI 0)) p
    upd W1 3 (if W 3 = nI p then W 5 else W 3)
def mo_leave (W : Nat → Int32) (p : Nat) : Nat → Int32 := if W 2 = nI p then W else mo_close W p
def mo_back (W : Nat → Int32) (p : Nat) : Nat → Int32 := if W 2 = nI p ∧ 0 ≤ W 4 ∧ 0 ≤ W (22 + mo_n (W 4)) then mo_goTo W (mo_n (W 4)) else W
def mo_giveUp (W : Nat → Int32) (p : Nat) : Nat → Int32 := if W (22 + p) < 0 ∨ W (27 + p) = nI 1 then W else mo_leave (mo_back W p) p
/-- a challenge is looked at: what is so then, and whether it is still in the row -/
def mo_stays (W : Nat → Int32) (k : Nat) : Bool := decide (W 0 - W (507 + 5 * k + 3) < nI 3) || decide (W (507 + 5 * k + 4) < nI 2)
def mo_look (W : Nat → Int32) (k : Nat) : Nat → Int32 :=
  if W 0 - W (507 + 5 * k + 3) < nI 3 then W
  else if W (507 + 5 * k + 4) < nI 2 then mo_goes (upd (upd W (507 + 5 * k + 4) (W (507 + 5 * k + 4) + nI 1)) (507 + 5 * k + 3) (W 0)) (mo_n (W (507 + 5 * k))) (mo_n (W (507 + 5 * k + 2))) 1 (W (507 + 5 * k + 1))
  else if W (507 + 5 * k) = nI 1 then mo_forget (mo_rm W 507 5 13 k) (mo_n (W (507 + 5 * k + 2))) else mo_giveUp (mo_rm W 507 5 13 k) (mo_n (W (507 + 5 * k + 2)))
def mo_looks : Nat → Nat → (Nat → Int32) → (Nat → Int32)
  | 0, _, W => W
  | n + 1, k, W => mo_looks n (if mo_stays W k = true then k + 1 else k) (mo_look W k)
def mo_tick (W : Nat → Int32) : Nat → Int32 := mo_looks (mo_n (W 13)) 0 (upd W 0 (W 0 + nI 1))
end
section
/-! the reference's cells -/
abbrev md_R : Type := Int32 × Int32 × (Nat → Int32) × (Nat → Int32) × (Nat → Int32) × (Nat → Int32) × Int32
def md_I (Γ : mw_C) (mb : Nat) (W : Nat → Int32) (ρ : md_R) (H : Heap) : Prop :=
  mw_ob Γ mb 5 [.ref (mb + 1), .int ρ.1, .int ρ.2.1, .ref (mb + 2), .ref (mb + 3), .ref (mb + 4), .ref (mb + 5), .int ρ.2.2.2.2.2.2] H ∧ mw_ia Γ (mb + 1) 9411 W H ∧ mw_ia Γ (mb + 2) 2 ρ.2.2.1 H ∧ mw_ia Γ (mb + 3) 20 ρ.2.2.2.1 H ∧ mw_ia Γ (mb + 4) 20 ρ.2.2.2.2.1 H ∧ mw_ia Γ (mb + 5) 20 ρ.2.2.2.2.2.1 H
def md_A (mb : Nat) : Nat → Prop := fun q => mb ≤ q ∧ q < mb + 6
theorem md_A0 {mb : Nat} : md_A mb mb := ⟨Nat.le_refl _, by omega⟩
theorem md_A1 {mb : Nat} : md_A mb (mb + 1) := ⟨by omega, by omega⟩
theorem md_A2 {mb : Nat} : md_A mb (mb + 2) := ⟨by omega, by omega⟩
theorem md_A3 {mb : Nat} : md_A mb (mb + 3) := ⟨by omega, by omega⟩
theorem md_A4 {mb : Nat} : md_A mb (mb + 4) := ⟨by omega, by omega⟩
theorem md_A5 {mb : Nat} : md_A mb (mb + 5) := ⟨by omega, by omega⟩
theorem md_As {Γ : mw_C} {mb : Nat} (h : Γ.2.2.2 ≤ mb) : ∀ q, md_A mb q → Γ.2.2.2 ≤ q := fun _ hq => Nat.le_trans h hq.1
theorem md_I.stw {Γ : mw_C} {mb : Nat} {W W' : Nat → Int32} {ρ : md_R} {H H1 : Heap} (h : md_I Γ mb W ρ H) (o : mw_one (mb + 1) H H1) (c : mw_ia Γ (mb + 1) 9411 W' H1) : md_I Γ mb W' ρ H1 :=
  ⟨h.1.kept (o.2 _ (by omega)), c, h.2.2.1.kept (o.2 _ (by omega)), h.2.2.2.1.kept (o.2 _ (by omega)), h.2.2.2.2.1.kept (o.2 _ (by omega)), h.2.2.2.2.2.kept (o.2 _ (by omega))⟩
end
section
/-! plain facts on rows of numbers -/
theorem mo_put6 (W : Nat → Int32) (a : Nat) (x0 x1 x2 x3 x4 x5 : Int32) : upd (upd (upd (upd (upd (upd W a x0) (a + 1) x1) (a + 2) x2) (a + 3) x3) (a + 4) x4) (a + 5) x5 = mo_put W a 6 (mo_r6 x0 x1 x2 x3 x4 x5) := by
  funext j
  unfold mo_put
  by_cases h : a ≤ j ∧ j < a + 6
  · rw [if_pos h]
    obtain ⟨i, rfl⟩ : ∃ i, j = a + i := ⟨j - a, by omega⟩
    rw [show a + i - a = i by omega]
    have hi : i < 6 := by omega
    match i, hi with
    | 0, _ => simp [upd, mo_r6]
    | 1, _ => simp [upd, mo_r6]
    | 2, _ => simp [upd, mo_r6]
    | 3, _ => simp [upd, mo_r6]
    | 4, _ => simp [upd, mo_r6]
    | 5, _ => simp [upd, mo_r6]
    | i + 6, hi => omega
  · rw [if_neg h]
    simp (disch := omega) only [pk_un]
theorem mo_put5 (W : Nat → Int32) (a : Nat) (x0 x1 x2 x3 x4 : Int32) : upd (upd (upd (upd (upd W a x0) (a + 1) x1) (a + 2) x2) (a + 3) x3) (a + 4) x4 = mo_put W a 5 (mo_r5 x0 x1 x2 x3 x4) := by
  funext j
  unfold mo_put
  by_cases h : a ≤ j ∧ j < a + 5
  · rw [if_pos h]
    obtain ⟨i, rfl⟩ : ∃ i, j = a + i := ⟨j - a, by omega⟩
    rw [show a + i - a = i by omega]
    have hi : i < 5 := by omega
    match i, hi with
    | 0, _ => simp [upd, mo_r5]
    | 1, _ => simp [upd, mo_r5]
    | 2, _ => simp [upd, mo_r5]
    | 3, _ => simp [upd, mo_r5]
    | 4, _ => simp [upd, mo_r5]
    | i + 5, hi => omega
  · rw [if_neg h]
    simp (disch := omega) only [pk_un]
theorem mo_put3 (W : Nat → Int32) (a : Nat) (x0 x1 x2 : Int32) : upd (upd (upd W a x0) (a + 1) x1) (a + 2) x2 = mo_put W a 3 (mo_r3 x0 x1 x2) := by
  funext j
  unfold mo_put
  by_cases h : a ≤ j ∧ j < a + 3
  · rw [if_pos h]
    obtain ⟨i, rfl⟩ : ∃ i, j = a + i := ⟨j - a, by omega⟩
    rw [show a + i - a = i by omega]
    have hi : i < 3 := by omega
    match i, hi with
    | 0, _ => simp [upd, mo_r3]
    | 1, _ => simp [upd, mo_r3]
    | 2, _ => simp [upd, mo_r3]
    | i + 3, hi => omega
  · rw [if_neg h]
    simp (disch := omega) only [pk_un]
theorem ml_same {W : Nat → Int32} {i : Nat} {x : Int32} (h : W i = x) : upd W i x = W := by
  funext j
  by_cases hj : j = i
  · subst hj; rw [pk_us, h]
  · rw [pk_un hj]
theorem ml_plus0 (x : Int32) : x + nI 0 = x := by rw [nI_0]; exact Int32.add_zero x
theorem ml_n {r : Nat} (h : r ≤ 100000) : mo_n (nI r) = r := nI_clamp (by omega)
theorem ml_send0_full {W : Nat → Int32} {p k : Nat} {v : Int32} (h : W 11 = nI 24) : mo_send W 0 p k v = upd (upd (upd W (14 + 0) (W (14 + 0) + nI 1)) (42 + p) (W (42 + p) + nI 0)) 10 (W 10 + nI 1) := by
  unfold mo_send
  rw [if_pos h, if_neg (by decide), ml_plus0, ml_same (W := upd W (14 + 0) (W (14 + 0) + nI 1)) (i := 42 + p) (by rw [pk_un (by omega)])]
theorem ml_send1_full {W : Nat → Int32} {p k : Nat} {v : Int32} (h : W 11 = nI 24) : mo_send W 1 p k v = upd (upd (upd W (14 + 1) (W (14 + 1) + nI 1)) (42 + p) (W (42 + p) + mw_sz k)) 10 (W 10 + nI 1) := by
  unfold mo_send
  rw [if_pos h, if_pos rfl, pk_un (show (42 + p) ≠ 14 + 1 by omega)]
theorem ml_send0_add {W : Nat → Int32} {p k r : Nat} {v : Int32} (hr : W 11 = nI r) (hr2 : r ≤ 24) (h : ¬ nI r = nI 24) : mo_send W 0 p k v = upd (upd (upd (upd (upd (upd (upd (upd (upd W (14 + 0) (W (14 + 0) + nI 1)) (42 + p) (W (42 + p) + nI 0)) (327 + 6 * r) (nI 0)) (327 + 6 * r + 1) (nI p)) (327 + 6 * r + 2) (W (22 + p))) (327 + 6 * r + 3) (W (14 + 0))) (327 + 6 * r + 4) (nI k)) (327 + 6 * r + 5) v) 11 (nI r + nI 1) := by
  unfold mo_send
  rw [hr, if_neg h, if_neg (by decide), if_pos rfl, ml_plus0, ml_same (W := upd W (14 + 0) (W (14 + 0) + nI 1)) (i := 42 + p) (by rw [pk_un (by omega)]), mo_put6, ml_n (by omega)]
theorem ml_send1_add {W : Nat → Int32} {p k r : Nat} {v : Int32} (hr : W 11 = nI r) (hr2 : r ≤ 24) (h : ¬ nI r = nI 24) : mo_send W 1 p k v = upd (upd (upd (upd (upd (upd (upd (upd (upd W (14 + 1) (W (14 + 1) + nI 1)) (42 + p) (W (42 + p) + mw_sz k)) (327 + 6 * r) (nI 1)) (327 + 6 * r + 1) (nI p)) (327 + 6 * r + 2) (-1)) (327 + 6 * r + 3) (W (14 + 1))) (327 + 6 * r + 4) (nI k)) (327 + 6 * r + 5) v) 11 (nI r + nI 1) := by
  unfold mo_send
  rw [hr, if_neg h, if_pos rfl, if_neg (by decide), pk_un (show (42 + p) ≠ 14 + 1 by omega), mo_put6, ml_n (by omega)]
end
section
theorem ml_cmp_lt {x y : Int64} : lg_cmp x y < 0 ↔ x < y := by
  unfold lg_cmp
  by_cases h1 : y < x
  · rw [if_pos h1]
    exact ⟨fun h => absurd h (by decide), fun h => by
      rw [Int64.lt_iff_toInt_lt] at h h1
      omega⟩
  · rw [if_neg h1]
    by_cases h2 : x = y
    · rw [if_pos h2]
      exact ⟨fun h => absurd h (by decide), fun h => by
        rw [h2, Int64.lt_iff_toInt_lt] at h
        omega⟩
    · rw [if_neg h2]
      refine ⟨fun _ => ?_, fun _ => by decide⟩
      rw [Int64.lt_iff_toInt_lt] at h1 ⊢
      rcases Int.lt_trichotomy x.toInt y.toInt with h | h | h
      · exact h
      · exact absurd (Int64.toInt_inj.mp h) h2
      · exact absurd h h1
theorem ml_cmp_gt {x y : Int64} : 0 < lg_cmp x y ↔ y < x := by
  unfold lg_cmp
  by_cases h1 : y < x
  · rw [if_pos h1]
    exact ⟨fun _ => h1, fun _ => by decide⟩
  · rw [if_neg h1]
    by_cases h2 : x = y
    · rw [if_pos h2]
      exact ⟨fun h => absurd h (by decide), fun h => absurd h h1⟩
    · rw [if_neg h2]
      exact ⟨fun h => absurd h (by decide), fun h => absurd h h1⟩
theorem ml_cmp_eq {x y : Int64} : lg_cmp x y = 0 ↔ x = y := by
  unfold lg_cmp
  by_cases h1 : y < x
  · rw [if_pos h1]
    exact ⟨fun h => absurd h (by decide), fun h => by
      rw [h, Int64.lt_iff_toInt_lt] at h1
      omega⟩
  · rw [if_neg h1]
    by_cases h2 : x = y
    · rw [if_pos h2]; exact ⟨fun _ => h2, fun _ => rfl⟩
    · rw [if_neg h2]
      exact ⟨fun h => absurd h (by decide), fun h => absurd h h2⟩
/-- Java's in(v, low, high) -/
def mo_in (x lo hi : Int64) : Bool := decide (lo ≤ x) && decide (x ≤ hi)
theorem ml_cpy0 (W : Nat → Int32) (sp dp : Nat) : va_cpy W W sp dp 0 = W := by
  funext j
  rw [pk_cpy_out (by omega)]
theorem ml_cpyS (W : Nat → Int32) {sp dp t : Nat} (h : dp ≤ sp) : upd (va_cpy W W sp dp t) (dp + t) (va_cpy W W sp dp t (sp + t)) = va_cpy W W sp dp (t + 1) := by
  funext j
  rw [pk_cpy_out (f := W) (g := W) (sp := sp) (dp := dp) (n := t) (j := sp + t) (by omega)]
  by_cases hj : j = dp + t
  · subst hj
    rw [pk_us, pk_cpy_in (by omega) (by omega)]
    congr 1
    omega
  · rw [pk_un hj]
    by_cases h2 : dp ≤ j ∧ j < dp + t
    · rw [pk_cpy_in h2.1 h2.2, pk_cpy_in h2.1 (by omega)]
    · rw [pk_cpy_out (by omega), pk_cpy_out (by omega)]
theorem ml_pred {n : Nat} (h : 0 < n) : nI n - nI 1 = nI (n - 1) := pk_sub h
theorem ml_fst_le (P : Nat → Bool) : ∀ n, mo_fst P n ≤ n
  | 0 => Nat.le_refl 0
  | n + 1 => by
    unfold mo_fst
    have ih := ml_fst_le P n
    split
    · omega
    · split <;> omega
theorem ml_fst_no (P : Nat → Bool) : ∀ n k, k < mo_fst P n → P k = false
  | 0, k, h => absurd h (Nat.not_lt_zero k)
  | n + 1, k, h => by
    have ih := ml_fst_no P n
    have hl := ml_fst_le P n
    unfold mo_fst at h
    split at h
    · exact ih k h
    · split at h
      · exact ih k (by omega)
      · next h1 h2 =>
        by_cases hk : k = n
        · subst hk; simpa using h2
        · exact ih k (by omega)
theorem ml_fst_yes (P : Nat → Bool) : ∀ n, mo_fst P n < n → P (mo_fst P n) = true
  | 0, h => absurd h (Nat.not_lt_zero _)
  | n + 1, h => by
    have ih := ml_fst_yes P n
    unfold mo_fst at h ⊢
    split at h
    · next h1 => rw [if_pos h1]; exact ih h1
    · next h1 =>
      rw [if_neg h1]
      split at h
      · next h2 => rw [if_pos h2]; exact h2
      · omega
/-- it is found by being the first -/
theorem ml_fst_is {P : Nat → Bool} {n k : Nat} (hk : k < n) (hy : P k = true) (hno : ∀ j, j < k → P j = false) : mo_fst P n = k := by
  have h1 : ¬ k < mo_fst P n := fun h => by rw [ml_fst_no P n k h] at hy; cases hy
  have h2 : ¬ mo_fst P n < k := fun h => by
    have := ml_fst_yes P n (by omega)
    rw [hno _ h] at this
    cases this
  omega
theorem ml_fst_none {P : Nat → Bool} {n : Nat} (hno : ∀ j, j < n → P j = false) : mo_fst P n = n := by
  have h1 := ml_fst_le P n
  by_cases h : mo_fst P n < n
  · have := ml_fst_yes P n h
    rw [hno _ h] at this
    cases this
  · omega
end
section
/-! THE INVARIANT of the row W; c is how many letters each end may still number -/
def iv_v (e kd : Nat) (x : Int32) : Prop := (kd = 0 → ∃ v, v < 100 ∧ x = nI v) ∧ (kd = 3 → e = 1 → ∃ v, v < 40 ∧ x = nI v) ∧ (kd = 5 → ∃ v, v ≤ 100 ∧ x = nI v)
def iv_c (W : Nat → Int32) : Prop := (∃ r, r ≤ 24 ∧ W 11 = nI r) ∧ (∃ n, n ≤ 12 ∧ W 12 = nI n) ∧ (∃ a, a ≤ 6 ∧ W 13 = nI a)
def iv_x (c : Nat) (W : Nat → Int32) : Prop := (∃ x, x + c ≤ 32700 ∧ W 14 = nI x) ∧ (∃ x, x + c ≤ 32700 ∧ W 15 = nI x)
def iv_r (W : Nat → Int32) : Prop := ∀ k, k < mo_n (W 11) → ∃ e p y kd : Nat, e < 2 ∧ p < 5 ∧ y < 32768 ∧ kd < 6 ∧ W (327 + 6 * k) = nI e ∧ W (327 + 6 * k + 1) = nI p ∧ W (327 + 6 * k + 3) = nI y ∧ W (327 + 6 * k + 4) = nI kd ∧ iv_v e kd (W (327 + 6 * k + 5))
def iv_h (W : Nat → Int32) : Prop := ∀ k, k < mo_n (W 12) → ∃ p kd : Nat, p < 5 ∧ kd < 6 ∧ W (471 + 3 * k) = nI p ∧ W (471 + 3 * k + 1) = nI kd ∧ iv_v 1 kd (W (471 + 3 * k + 2))
def iv_a (W : Nat → Int32) : Prop := ∀ k, k < mo_n (W 13) → ∃ e p t : Nat, e < 2 ∧ p < 5 ∧ t ≤ 2 ∧ W (507 + 5 * k) = nI e ∧ W (507 + 5 * k + 2) = nI p ∧ W (507 + 5 * k + 4) = nI t
def iv_p (W : Nat → Int32) : Prop := ∀ p, p < 5 → (W (22 + p) = -1 ∨ ∃ n, n < 40 ∧ W (22 + p) = nI n) ∧ (W (27 + p) = nI 0 ∨ W (27 + p) = nI 1) ∧ (W (32 + p) = nI 0 ∨ W (32 + p) = nI 1)
def iv_n (W : Nat → Int32) : Prop := ∃ g, 2 ≤ g ∧ g ≤ 40 ∧ W 1 = nI g ∧ ∀ n, n < 40 → (W (47 + n) = nI 0 ∨ W (47 + n) = nI 1) ∧ (g ≤ n → W (47 + n) = nI 0) ∧ (W (87 + n) = nI 0 ∨ W (87 + n) = nI 1 ∨ W (87 + n) = nI 2)
def iv_w (W : Nat → Int32) : Prop := ∀ e, e < 2 → (∃ n, n ≤ 40 ∧ W (18 + e) = nI n) ∧ (∃ v, v ≤ 100 ∧ W (20 + e) = nI v) ∧ (∃ p, p < 5 ∧ W (2 + e) = nI p) ∧ ∀ k, k < 100 → W (127 + 100 * e + k) = nI 0 ∨ W (127 + 100 * e + k) = nI 1
def iv_b (W : Nat → Int32) : Prop := (W 4 = -1 ∨ ∃ p, p < 5 ∧ W 4 = nI p) ∧ (W 5 = -1 ∨ ∃ p, p < 5 ∧ W 5 = nI p) ∧ (W (32 + mo_n (W 3)) = nI 1 ∨ ∃ p, p < 5 ∧ W 5 = nI p)
def iv (c : Nat) (W : Nat → Int32) : Prop := iv_c W ∧ iv_x c W ∧ iv_r W ∧ iv_h W ∧ iv_a W ∧ iv_p W ∧ iv_n W ∧ iv_w W ∧ iv_b W
section IVC
variable {W W' : Nat → Int32} {c : Nat}
theorem iv_c.cg (h : iv_c W) (q : ∀ j, 11 ≤ j → j < 14 → W' j = W j) : iv_c W' := by
  unfold iv_c
  rw [q 11 (by omega) (by omega), q 12 (by omega) (by omega), q 13 (by omega) (by omega)]
  exact h
theorem iv_x.cg (h : iv_x c W) (q : ∀ j, 14 ≤ j → j < 16 → W' j = W j) : iv_x c W' := by
  unfold iv_x
  rw [q 14 (by omega) (by omega), q 15 (by omega) (by omega)]
  exact h
theorem ml_n24 (h : iv_c W) : mo_n (W 11) ≤ 24 := by obtain ⟨⟨r, h1, h2⟩, -⟩ := h; rw [h2, ml_n (by omega)]; exact h1
theorem ml_n12 (h : iv_c W) : mo_n (W 12) ≤ 12 := by obtain ⟨-, ⟨r, h1, h2⟩, -⟩ := h; rw [h2, ml_n (by omega)]; exact h1
theorem ml_n6 (h : iv_c W) : mo_n (W 13) ≤ 6 := by obtain ⟨-, -, ⟨r, h1, h2⟩⟩ := h; rw [h2, ml_n (by omega)]; exact h1
theorem ml_i11 (h : iv_c W) : W 11 = nI (mo_n (W 11)) := by obtain ⟨⟨r, h1, h2⟩, -⟩ := h; rw [h2, ml_n (by omega)]
theorem ml_i12 (h : iv_c W) : W 12 = nI (mo_n (W 12)) := by obtain ⟨-, ⟨r, h1, h2⟩, -⟩ := h; rw [h2, ml_n (by omega)]
theorem ml_i13 (h : iv_c W) : W 13 = nI (mo_n (W 13)) := by obtain ⟨-, -, ⟨r, h1, h2⟩⟩ := h; rw [h2, ml_n (by omega)]
theorem iv_r.cg (h : iv_r W) (h0 : W' 11 = W 11) (hc : mo_n (W 11) ≤ 24) (q : ∀ j, 327 ≤ j → j < 471 → W' j = W j) : iv_r W' := by
  intro k hk
  rw [h0] at hk
  rw [q _ (by omega) (by omega), q _ (by omega) (by omega), q _ (by omega) (by omega), q _ (by omega) (by omega), q _ (by omega) (by omega)]
  exact h k hk
theorem iv_h.cg (h : iv_h W) (h0 : W' 12 = W 12) (hc : mo_n (W 12) ≤ 12) (q : ∀ j, 471 ≤ j → j < 507 → W' j = W j) : iv_h W' := by
  intro k hk
  rw [h0] at hk
  rw [q _ (by omega) (by omega), q _ (by omega) (by omega), q _ (by omega) (by omega)]
  exact h k hk
theorem iv_a.cg (h : iv_a W) (h0 : W' 13 = W 13) (hc : mo_n (W 13) ≤ 6) (q : ∀ j, 507 ≤ j → j < 537 → W' j = W j) : iv_a W' := by
  intro k hk
  rw [h0] at hk
  rw [q _ (by omega) (by omega), q _ (by omega) (by omega), q _ (by omega) (by omega)]
  exact h k hk
theorem iv_p.cg (h : iv_p W) (q : ∀ j, 22 ≤ j → j < 37 → W' j = W j) : iv_p W' := by
  intro p hp
  rw [q _ (by omega) (by omega), q _ (by omega) (by omega), q _ (by omega) (by omega)]
  exact h p hp
theorem iv_n.cg (h : iv_n W) (h0 : W' 1 = W 1) (q : ∀ j, 47 ≤ j → j < 127 → W' j = W j) : iv_n W' := by
  obtain ⟨g, h1, h2, h3, h4⟩ := h
  refine ⟨g, h1, h2, h0.trans h3, fun n hn => ?_⟩
  rw [q _ (by omega) (by omega), q _ (by omega) (by omega)]
  exact h4 n hn
theorem iv_w.cg (h : iv_w W) (q : ∀ j, (j = 2 ∨ j = 3 ∨ (18 ≤ j ∧ j < 22) ∨ (127 ≤ j ∧ j < 327)) → W' j = W j) : iv_w W' := by
  intro e he
  obtain ⟨h1, h2, h3, h4⟩ := h e he
  rw [q (18 + e) (by omega), q (20 + e) (by omega), q (2 + e) (by omega)]
  refine ⟨h1, h2, h3, fun k hk => ?_⟩
  rw [q _ (by omega)]
  exact h4 k hk
theorem ml_cur (h : iv_w W) {e : Nat} (he : e < 2) : mo_n (W (2 + e)) < 5 ∧ W (2 + e) = nI (mo_n (W (2 + e))) := by
  obtain ⟨-, -, ⟨p, hp, hw⟩, -⟩ := h e he
  rw [hw, ml_n (by omega)]
  exact ⟨hp, rfl⟩
theorem iv_b.cg (h : iv_b W) (hw : iv_w W) (q : ∀ j, ((3 ≤ j ∧ j < 6) ∨ (32 ≤ j ∧ j < 37)) → W' j = W j) : iv_b W' := by
  obtain ⟨h1, h2, h3⟩ := h
  have hc : mo_n (W 3) < 5 := (ml_cur hw (e := 1) (by omega)).1
  unfold iv_b
  rw [q 4 (by omega), q 5 (by omega), q 3 (by omega), q (32 + mo_n (W 3)) (by omega)]
  exact ⟨h1, h2, h3⟩
/-- places that the invariant doesn't speak of -/
theorem iv.free (h : iv c W) (q : ∀ j, (1 ≤ j ∧ j < 6) ∨ (11 ≤ j ∧ j < 16) ∨ (18 ≤ j ∧ j < 37) ∨ (47 ≤ j ∧ j < 537) → W' j = W j) : iv c W' := by
  obtain ⟨h1, h2, h3, h4, h5, h6, h7, h8, h9⟩ := h
  exact ⟨h1.cg (fun j a b => q j (by omega)), h2.cg (fun j a b => q j (by omega)), h3.cg (q 11 (by omega)) (ml_n24 h1) (fun j a b => q j (by omega)), h4.cg (q 12 (by omega)) (ml_n12 h1) (fun j a b => q j (by omega)), h5.cg (q 13 (by omega)) (ml_n6 h1) (fun j a b => q j (by omega)), h6.cg (fun j a b => q j (by omega)), h7.cg (q 1 (by omega)) (fun j a b => q j (by omega)), h8.cg (fun j a => q j (by omega)), h9.cg h8 (fun j a => q j (by omega))⟩
theorem iv.less {c' : Nat} (h : iv c W) (hc : c' ≤ c) : iv c' W := by
  obtain ⟨h1, ⟨⟨x, a, b⟩, ⟨y, d, e⟩⟩, h3⟩ := h
  exact ⟨h1, ⟨⟨x, by omega, b⟩, ⟨y, by omega, e⟩⟩, h3⟩
end IVC
theorem ml_put_cnt {W r : Nat → Int32} {a n q : Nat} {x : Int32} (h : q < a) : upd (mo_put W a n r) q x q = x := pk_us
theorem iv_send {W : Nat → Int32} {c e p k : Nat} {v : Int32} (h : iv (c + 1) W) (he : e < 2) (hp : p < 5) (hk : k < 6) (hv : iv_v e k v) : iv c (mo_send W e p k v) := by
  obtain ⟨h1, h2, h3, h4, h5, h6, h7, h8, h9⟩ := h
  obtain ⟨x, hx, hxe⟩ : ∃ x, x + (c + 1) ≤ 32700 ∧ W (14 + e) = nI x := by
    rcases (show e = 0 ∨ e = 1 by omega) with rfl | rfl
    · exact h2.1
    · exact h2.2
  have hr := ml_n24 h1
  have hi := ml_i11 h1
  -- outside the road, its count, the numbers, PUT and LOST nothing changes
  have hout : ∀ j, (j < 10 ∨ 11 < j) → j ≠ 14 + e → ¬ (42 ≤ j ∧ j < 47) → (j < 327 ∨ 471 ≤ j) → mo_send W e p k v j = W j := by
    intro j a b d f
    unfold mo_send
    by_cases hf : W 11 = nI 24
    · rw [if_pos hf, pk_un (by omega)]
      split
      · rw [pk_un (by omega), pk_un (by omega)]
      · rw [pk_un (by omega)]
    · rw [if_neg hf, pk_un (by omega), mo_put_out (by
        by_cases hq : mo_n (W 11) = 24
        · exact absurd (by rw [hi, hq]) hf
        · omega)]
      split
      · rw [pk_un (by omega), pk_un (by omega)]
      · rw [pk_un (by omega)]
  have hnum : mo_send W e p k v (14 + e) = nI (x + 1) := by
    unfold mo_send
    by_cases hf : W 11 = nI 24
    · rw [if_pos hf, pk_un (by omega)]
      split
      · rw [pk_un (by omega), pk_us, hxe, nI_add]
      · rw [pk_us, hxe, nI_add]
    · rw [if_neg hf, pk_un (by omega), mo_put_out (by omega)]
      split
      · rw [pk_un (by omega), pk_us, hxe, nI_add]
      · rw [pk_us, hxe, nI_add]
  have hroad : (mo_send W e p k v 11 = W 11 ∧ ∀ j, 327 ≤ j → j < 471 → mo_send W e p k v j = W j) ∨ (mo_n (W 11) < 24 ∧ mo_send W e p k v 11 = nI (mo_n (W 11) + 1) ∧ ∀ j, 327 ≤ j → j < 471 → mo_send W e p k v j = mo_put W (327 + 6 * mo_n (W 11)) 6 (mo_r6 (nI e) (nI p) (if e = 0 then W (22 + p) else -1) (W (14 + e)) (nI k) v) j) := by
    unfold mo_send
    by_cases hf : W 11 = nI 24
    · left
      rw [if_pos hf]
      refine ⟨?_, fun j a b => ?_⟩
      · rw [pk_un (by omega)]
        split
        · rw [pk_un (by omega), pk_un (by omega)]
        · rw [pk_un (by omega)]
      · rw [pk_un (by omega)]
        split
        · rw [pk_un (by omega), pk_un (by omega)]
        · rw [pk_un (by omega)]
    · right
      rw [if_neg hf]
      have h24 : mo_n (W 11) < 24 := by
        by_cases hq : mo_n (W 11) = 24
        · exact absurd (by rw [hi, hq]) hf
        · omega
      refine ⟨h24, ?_, fun j a b => ?_⟩
      · rw [pk_us]
        conv => lhs; rw [hi]
        rw [nI_add]
      · rw [pk_un (by omega)]
        by_cases hj : 327 + 6 * mo_n (W 11) ≤ j ∧ j < 327 + 6 * mo_n (W 11) + 6
        · rw [mo_put_in hj.1 hj.2, mo_put_in hj.1 hj.2]
        · rw [mo_put_out (by omega), mo_put_out (by omega)]
          split
          · rw [pk_un (by omega), pk_un (by omega)]
          · rw [pk_un (by omega)]
  refine ⟨⟨?_, ?_, ?_⟩, ⟨?_, ?_⟩, ?_, ?_, ?_, ?_, ?_, ?_, ?_⟩
  · rcases hroad with ⟨a, -⟩ | ⟨a, b, -⟩
    · rw [a]; exact h1.1
    · exact ⟨_, by omega, b⟩
  · rw [hout 12 (by omega) (by omega) (by omega) (by omega)]; exact h1.2.1
  · rw [hout 13 (by omega) (by omega) (by omega) (by omega)]; exact h1.2.2
  · rcases (show e = 0 ∨ e = 1 by omega) with rfl | rfl
    · exact ⟨x + 1, by omega, hnum⟩
    · rw [hout 14 (by omega) (by omega) (by omega) (by omega)]
      obtain ⟨z, a, b⟩ := h2.1
      exact ⟨z, by omega, b⟩
  · rcases (show e = 0 ∨ e = 1 by omega) with rfl | rfl
    · rw [hout 15 (by omega) (by omega) (by omega) (by omega)]
      obtain ⟨z, a, b⟩ := h2.2
      exact ⟨z, by omega, b⟩
    · exact ⟨x + 1, by omega, hnum⟩
  · rcases hroad with ⟨a, b⟩ | ⟨a, b, d⟩
    · exact h3.cg a hr b
    · intro j hj
      rw [b, ml_n (by omega)] at hj
      rw [d _ (by omega) (by omega), d _ (by omega) (by omega), d _ (by omega) (by omega), d _ (by omega) (by omega), d _ (by omega) (by omega)]
      by_cases hjr : j = mo_n (W 11)
      · subst hjr
        rw [mo_put_in (by omega) (by omega), mo_put_in (by omega) (by omega), mo_put_in (by omega) (by omega), mo_put_in (by omega) (by omega), mo_put_in (by omega) (by omega)]
        simp only [Nat.sub_self, show 327 + 6 * mo_n (W 11) + 1 - (327 + 6 * mo_n (W 11)) = 1 by omega, show 327 + 6 * mo_n (W 11) + 3 - (327 + 6 * mo_n (W 11)) = 3 by omega, show 327 + 6 * mo_n (W 11) + 4 - (327 + 6 * mo_n (W 11)) = 4 by omega, show 327 + 6 * mo_n (W 11) + 5 - (327 + 6 * mo_n (W 11)) = 5 by omega, mo_r6]
        exact ⟨e, p, x, k, he, hp, by omega, hk, rfl, rfl, hxe, rfl, hv⟩
      · rw [mo_put_out (by omega), mo_put_out (by omega), mo_put_out (by omega), mo_put_out (by omega), mo_put_out (by omega)]
        exact h3 j (by omega)
  · exact h4.cg (hout 12 (by omega) (by omega) (by omega) (by omega)) (ml_n12 h1) (fun j a b => hout j (by omega) (by omega) (by omega) (by omega))
  · exact h5.cg (hout 13 (by omega) (by omega) (by omega) (by omega)) (ml_n6 h1) (fun j a b => hout j (by omega) (by omega) (by omega) (by omega))
  · exact h6.cg (fun j a b => hout j (by omega) (by omega) (by omega) (by omega))
  · exact h7.cg (hout 1 (by omega) (by omega) (by omega) (by omega)) (fun j a b => hout j (by omega) (by omega) (by omega) (by omega))
  · exact h8.cg (fun j a => hout j (by omega) (by omega) (by omega) (by omega))
  · exact h9.cg h8 (fun j a => hout j (by omega) (by omega) (by omega) (by omega))
end
section
theorem ml_rmh_q {W : Nat → Int32} {k n : Nat} (hn : W 12 = nI n) (h0 : 0 < n) : mo_rm W 471 3 12 k 12 = nI (n - 1) := by
  unfold mo_rm
  rw [pk_us, hn, ml_pred h0]
theorem ml_rmh_out {W : Nat → Int32} {k n j : Nat} (hn : W 12 = nI n) (h24 : n ≤ 24) (hk : k < n) (hj : j < 471 + 3 * k ∨ 471 + 3 * (n - 1) ≤ j) (hq : j ≠ 12) : mo_rm W 471 3 12 k j = W j := by
  unfold mo_rm
  rw [pk_un hq, hn, ml_n (by omega), pk_cpy_out (by omega)]
theorem ml_rmh_row {W : Nat → Int32} {k n i j : Nat} (hn : W 12 = nI n) (h24 : n ≤ 24) (hk : k < n) (hi : i < n - 1) (hj : j < 3) : mo_rm W 471 3 12 k (471 + 3 * i + j) = W (471 + 3 * (if i < k then i else i + 1) + j) := by
  by_cases h : i < k
  · rw [if_pos h, ml_rmh_out hn h24 hk (by omega) (by omega)]
  · rw [if_neg h]
    unfold mo_rm
    rw [pk_un (by omega), hn, ml_n (by omega), pk_cpy_in (by omega) (by omega)]
    congr 1
    omega
theorem ml_rmh_row0 {W : Nat → Int32} {k n i : Nat} (hn : W 12 = nI n) (h24 : n ≤ 24) (hk : k < n) (hi : i < n - 1) : mo_rm W 471 3 12 k (471 + 3 * i) = W (471 + 3 * (if i < k then i else i + 1)) := ml_rmh_row (j := 0) hn h24 hk hi (by omega)
theorem ml_rma_q {W : Nat → Int32} {k n : Nat} (hn : W 13 = nI n) (h0 : 0 < n) : mo_rm W 507 5 13 k 13 = nI (n - 1) := by
  unfold mo_rm
  rw [pk_us, hn, ml_pred h0]
theorem ml_rma_out {W : Nat → Int32} {k n j : Nat} (hn : W 13 = nI n) (h24 : n ≤ 24) (hk : k < n) (hj : j < 507 + 5 * k ∨ 507 + 5 * (n - 1) ≤ j) (hq : j ≠ 13) : mo_rm W 507 5 13 k j = W j := by
  unfold mo_rm
  rw [pk_un hq, hn, ml_n (by omega), pk_cpy_out (by omega)]
theorem ml_rma_row {W : Nat → Int32} {k n i j : Nat} (hn : W 13 = nI n) (h24 : n ≤ 24) (hk : k < n) (hi : i < n - 1) (hj : j < 5) : mo_rm W 507 5 13 k (507 + 5 * i + j) = W (507 + 5 * (if i < k then i else i + 1) + j) := by
  by_cases h : i < k
  · rw [if_pos h, ml_rma_out hn h24 hk (by omega) (by omega)]
  · rw [if_neg h]
    unfold mo_rm
    rw [pk_un (by omega), hn, ml_n (by omega), pk_cpy_in (by omega) (by omega)]
    congr 1
    omega
theorem ml_rma_row0 {W : Nat → Int32} {k n i : Nat} (hn : W 13 = nI n) (h24 : n ≤ 24) (hk : k < n) (hi : i < n - 1) : mo_rm W 507 5 13 k (507 + 5 * i) = W (507 + 5 * (if i < k then i else i + 1)) := ml_rma_row (j := 0) hn h24 hk hi (by omega)
theorem ml_rmr_q {W : Nat → Int32} {k n : Nat} (hn : W 11 = nI n) (h0 : 0 < n) : mo_rm W 327 6 11 k 11 = nI (n - 1) := by
  unfold mo_rm
  rw [pk_us, hn, ml_pred h0]
theorem ml_rmr_out {W : Nat → Int32} {k n j : Nat} (hn : W 11 = nI n) (h24 : n ≤ 24) (hk : k < n) (hj : j < 327 + 6 * k ∨ 327 + 6 * (n - 1) ≤ j) (hq : j ≠ 11) : mo_rm W 327 6 11 k j = W j := by
  unfold mo_rm
  rw [pk_un hq, hn, ml_n (by omega), pk_cpy_out (by omega)]
theorem ml_rmr_row {W : Nat → Int32} {k n i j : Nat} (hn : W 11 = nI n) (h24 : n ≤ 24) (hk : k < n) (hi : i < n - 1) (hj : j < 6) : mo_rm W 327 6 11 k (327 + 6 * i + j) = W (327 + 6 * (if i < k then i else i + 1) + j) := by
  by_cases h : i < k
  · rw [if_pos h, ml_rmr_out hn h24 hk (by omega) (by omega)]
  · rw [if_neg h]
    unfold mo_rm
    rw [pk_un (by omega), hn, ml_n (by omega), pk_cpy_in (by omega) (by omega)]
    congr 1
    omega
theorem ml_rmr_row0 {W : Nat → Int32} {k n i : Nat} (hn : W 11 = nI n) (h24 : n ≤ 24) (hk : k < n) (hi : i < n - 1) : mo_rm W 327 6 11 k (327 + 6 * i) = W (327 + 6 * (if i < k then i else i + 1)) := ml_rmr_row (j := 0) hn h24 hk hi (by omega)
theorem ml_shift {k n i : Nat} (hi : i < n - 1) : (if i < k then i else i + 1) < n := by split <;> omega
theorem iv_rmh {W : Nat → Int32} {c k : Nat} (h : iv c W) (hk : k < mo_n (W 12)) : iv c (mo_rm W 471 3 12 k) := by
  obtain ⟨h1, h2, h3, h4, h5, h6, h7, h8, h9⟩ := h
  have hn := ml_i12 h1
  have hl := ml_n12 h1
  have o : ∀ j, (j < 471 ∨ 507 ≤ j) → j ≠ 12 → mo_rm W 471 3 12 k j = W j := fun j a b => ml_rmh_out hn (by omega) hk (by omega) b
  have hq := ml_rmh_q (k := k) hn (by omega)
  refine ⟨⟨?_, ⟨_, by omega, hq⟩, ?_⟩, h2.cg (fun j a b => o j (by omega) (by omega)), h3.cg (o 11 (by omega) (by omega)) (ml_n24 h1) (fun j a b => o j (by omega) (by omega)), ?_, h5.cg (o 13 (by omega) (by omega)) (ml_n6 h1) (fun j a b => o j (by omega) (by omega)), h6.cg (fun j a b => o j (by omega) (by omega)), h7.cg (o 1 (by omega) (by omega)) (fun j a b => o j (by omega) (by omega)), h8.cg (fun j a => o j (by omega) (by omega)), h9.cg h8 (fun j a => o j (by omega) (by omega))⟩
  · rw [o 11 (by omega) (by omega)]; exact h1.1
  · rw [o 13 (by omega) (by omega)]; exact h1.2.2
  · intro i hi
    rw [hq, ml_n (by omega)] at hi
    rw [ml_rmh_row0 hn (by omega) hk hi, ml_rmh_row hn (by omega) hk hi (by omega), ml_rmh_row hn (by omega) hk hi (by omega)]
    exact h4 _ (ml_shift hi)
theorem iv_rma {W : Nat → Int32} {c k : Nat} (h : iv c W) (hk : k < mo_n (W 13)) : iv c (mo_rm W 507 5 13 k) := by
  obtain ⟨h1, h2, h3, h4, h5, h6, h7, h8, h9⟩ := h
  have hn := ml_i13 h1
  have hl := ml_n6 h1
  have o : ∀ j, (j < 507 ∨ 537 ≤ j) → j ≠ 13 → mo_rm W 507 5 13 k j = W j := fun j a b => ml_rma_out hn (by omega) hk (by omega) b
  have hq := ml_rma_q (k := k) hn (by omega)
  refine ⟨⟨?_, ?_, ⟨_, by omega, hq⟩⟩, h2.cg (fun j a b => o j (by omega) (by omega)), h3.cg (o 11 (by omega) (by omega)) (ml_n24 h1) (fun j a b => o j (by omega) (by omega)), h4.cg (o 12 (by omega) (by omega)) (ml_n12 h1) (fun j a b => o j (by omega) (by omega)), ?_, h6.cg (fun j a b => o j (by omega) (by omega)), h7.cg (o 1 (by omega) (by omega)) (fun j a b => o j (by omega) (by omega)), h8.cg (fun j a => o j (by omega) (by omega)), h9.cg h8 (fun j a => o j (by omega) (by omega))⟩
  · rw [o 11 (by omega) (by omega)]; exact h1.1
  · rw [o 12 (by omega) (by omega)]; exact h1.2.1
  · intro i hi
    rw [hq, ml_n (by omega)] at hi
    rw [ml_rma_row0 hn (by omega) hk hi, ml_rma_row hn (by omega) hk hi (by omega), ml_rma_row hn (by omega) hk hi (by omega)]
    exact h5 _ (ml_shift hi)
theorem iv_rmr {W : Nat → Int32} {c k : Nat} (h : iv c W) (hk : k < mo_n (W 11)) : iv c (mo_rm W 327 6 11 k) := by
  obtain ⟨h1, h2, h3, h4, h5, h6, h7, h8, h9⟩ := h
  have hn := ml_i11 h1
  have hl := ml_n24 h1
  have o : ∀ j, (j < 327 ∨ 471 ≤ j) → j ≠ 11 → mo_rm W 327 6 11 k j = W j := fun j a b => ml_rmr_out hn (by omega) hk (by omega) b
  have hq := ml_rmr_q (k := k) hn (by omega)
  refine ⟨⟨⟨_, by omega, hq⟩, ?_, ?_⟩, h2.cg (fun j a b => o j (by omega) (by omega)), ?_, h4.cg (o 12 (by omega) (by omega)) (ml_n12 h1) (fun j a b => o j (by omega) (by omega)), h5.cg (o 13 (by omega) (by omega)) (ml_n6 h1) (fun j a b => o j (by omega) (by omega)), h6.cg (fun j a b => o j (by omega) (by omega)), h7.cg (o 1 (by omega) (by omega)) (fun j a b => o j (by omega) (by omega)), h8.cg (fun j a => o j (by omega) (by omega)), h9.cg h8 (fun j a => o j (by omega) (by omega))⟩
  · rw [o 12 (by omega) (by omega)]; exact h1.2.1
  · rw [o 13 (by omega) (by omega)]; exact h1.2.2
  · intro i hi
    rw [hq, ml_n (by omega)] at hi
    rw [ml_rmr_row0 hn (by omega) hk hi, ml_rmr_row hn (by omega) hk hi (by omega), ml_rmr_row hn (by omega) hk hi (by omega), ml_rmr_row hn (by omega) hk hi (by omega), ml_rmr_row hn (by omega) hk hi (by omega)]
    exact h3 _ (ml_shift hi)
/-- a held one comes behind the others -/
theorem iv_addh {W : Nat → Int32} {c p k n : Nat} {v : Int32} (h : iv c W) (hn : W 12 = nI n) (hn2 : n < 12) (hp : p < 5) (hk : k < 6) (hv : iv_v 1 k v) : iv c (upd (mo_put W (471 + 3 * n) 3 (mo_r3 (nI p) (nI k) v)) 12 (nI (n + 1))) := by
  obtain ⟨h1, h2, h3, h4, h5, h6, h7, h8, h9⟩ := h
  have o : ∀ j, (j < 471 ∨ 507 ≤ j) → j ≠ 12 → upd (mo_put W (471 + 3 * n) 3 (mo_r3 (nI p) (nI k) v)) 12 (nI (n + 1)) j = W j := fun j a b => by rw [pk_un b, mo_put_out (by omega)]
  refine ⟨⟨?_, ⟨n + 1, by omega, pk_us⟩, ?_⟩, h2.cg (fun j a b => o j (by omega) (by omega)), h3.cg (o 11 (by omega) (by omega)) (ml_n24 h1) (fun j a b => o j (by omega) (by omega)), ?_, h5.cg (o 13 (by omega) (by omega)) (ml_n6 h1) (fun j a b => o j (by omega) (by omega)), h6.cg (fun j a b => o j (by omega) (by omega)), h7.cg (o 1 (by omega) (by omega)) (fun j a b => o j (by omega) (by omega)), h8.cg (fun j a => o j (by omega) (by omega)), h9.cg h8 (fun j a => o j (by omega) (by omega))⟩
  · rw [o 11 (by omega) (by omega)]; exact h1.1
  · rw [o 13 (by omega) (by omega)]; exact h1.2.2
  · intro i hi
    rw [pk_us, ml_n (by omega)] at hi
    rw [pk_un (by omega), pk_un (by omega), pk_un (by omega)]
    by_cases hin : i = n
    · subst hin
      rw [mo_put_in (by omega) (by omega), mo_put_in (by omega) (by omega), mo_put_in (by omega) (by omega)]
      simp only [Nat.sub_self, show 471 + 3 * i + 1 - (471 + 3 * i) = 1 by omega, show 471 + 3 * i + 2 - (471 + 3 * i) = 2 by omega, mo_r3]
      exact ⟨p, k, hp, hk, rfl, rfl, hv⟩
    · rw [mo_put_out (by omega), mo_put_out (by omega), mo_put_out (by omega)]
      exact h4 i (by rw [hn, ml_n (by omega)]; omega)
theorem iv_hold {W : Nat → Int32} {c p k : Nat} {v : Int32} (h : iv c W) (hp : p < 5) (hk : k < 6) (hv : iv_v 1 k v) : iv c (mo_hold W p k v) := by
  have hn := ml_i12 h.1
  have hl := ml_n12 h.1
  unfold mo_hold
  by_cases hf : W 12 = nI 12
  · have h12 : mo_n (W 12) = 12 := by rw [hf]; rfl
    have h2 := iv_rmh (k := 0) h (by omega)
    have hq := ml_rmh_q (k := 0) hn (by omega)
    rw [h12] at hq
    rw [if_pos hf]
    dsimp only
    rw [hq, ml_n (by omega), nI_add]
    exact iv_addh h2 hq (by omega) hp hk hv
  · have h12 : mo_n (W 12) < 12 := by
      by_cases hq : mo_n (W 12) = 12
      · exact absurd (by rw [hn, hq]) hf
      · omega
    rw [if_neg hf]
    have := iv_addh h hn h12 hp hk hv
    rw [← nI_add, ← hn] at this
    exact this
theorem iv_goes {W : Nat → Int32} {c e p k : Nat} {v : Int32} (h : iv (c + 1) W) (he : e < 2) (hp : p < 5) (hk : k < 6) (hv : iv_v e k v) : iv c (mo_goes W e p k v) := by
  unfold mo_goes
  split
  · exact iv_send h he hp hk hv
  · next hh =>
    have h1 : e = 1 := by
      by_cases h0 : e = 0
      · exact absurd (Or.inl h0) hh
      · omega
    subst h1
    exact iv_hold (h.less (by omega)) hp hk hv
theorem ml_fh_lt {W : Nat → Int32} {p : Nat} : mo_fh W p ≤ mo_n (W 12) := ml_fst_le _ _
theorem iv_lo {p : Nat} (hp : p < 5) : ∀ (n c : Nat) (W : Nat → Int32), iv (c + n) W → iv c (mo_lo p n W)
  | 0, c, W, h => h
  | n + 1, c, W, h => by
    unfold mo_lo
    split
    · next h1 =>
      split
      · refine iv_lo hp n c _ ?_
        obtain ⟨q, kd, -, hk, -, hkd, hv⟩ := h.2.2.2.1 _ h1
        rw [hkd, ml_n (by omega)]
        exact iv_send (c := c + n) (iv_rmh h h1) (by omega) hp hk hv
      · exact h.less (by omega)
    · exact h.less (by omega)
theorem iv_letOut {W : Nat → Int32} {c p : Nat} (h : iv (c + 12) W) (hp : p < 5) : iv c (mo_letOut W p) := by
  have hl := ml_n12 h.1
  exact iv_lo hp _ c W (h.less (by omega))
theorem iv_adda {W : Nat → Int32} {c e p n : Nat} {v t : Int32} (h : iv c W) (hn : W 13 = nI n) (hn2 : n < 6) (he : e < 2) (hp : p < 5) (z : Nat) (hz : z = 16 + e) (x : Int32) : iv c (upd (mo_put (upd W z x) (507 + 5 * n) 5 (mo_r5 (nI e) v (nI p) t (nI 0))) 13 (nI (n + 1))) := by
  obtain ⟨h1, h2, h3, h4, h5, h6, h7, h8, h9⟩ := h
  have o : ∀ j, (j < 507 ∨ 537 ≤ j) → j ≠ 13 → j ≠ z → upd (mo_put (upd W z x) (507 + 5 * n) 5 (mo_r5 (nI e) v (nI p) t (nI 0))) 13 (nI (n + 1)) j = W j := fun j a b d => by rw [pk_un b, mo_put_out (by omega), pk_un d]
  refine ⟨⟨?_, ?_, ⟨n + 1, by omega, pk_us⟩⟩, h2.cg (fun j a b => o j (by omega) (by omega) (by omega)), h3.cg (o 11 (by omega) (by omega) (by omega)) (ml_n24 h1) (fun j a b => o j (by omega) (by omega) (by omega)), h4.cg (o 12 (by omega) (by omega) (by omega)) (ml_n12 h1) (fun j a b => o j (by omega) (by omega) (by omega)), ?_, h6.cg (fun j a b => o j (by omega) (by omega) (by omega)), h7.cg (o 1 (by omega) (by omega) (by omega)) (fun j a b => o j (by omega) (by omega) (by omega)), h8.cg (fun j a => o j (by omega) (by omega) (by omega)), h9.cg h8 (fun j a => o j (by omega) (by omega) (by omega))⟩
  · rw [o 11 (by omega) (by omega) (by omega)]; exact h1.1
  · rw [o 12 (by omega) (by omega) (by omega)]; exact h1.2.1
  · intro i hi
    rw [pk_us, ml_n (by omega)] at hi
    rw [pk_un (by omega), pk_un (by omega), pk_un (by omega)]
    by_cases hin : i = n
    · subst hin
      rw [mo_put_in (by omega) (by omega), mo_put_in (by omega) (by omega), mo_put_in (by omega) (by omega)]
      simp only [Nat.sub_self, show 507 + 5 * i + 2 - (507 + 5 * i) = 2 by omega, show 507 + 5 * i + 4 - (507 + 5 * i) = 4 by omega, mo_r5]
      exact ⟨e, p, 0, he, hp, by omega, rfl, rfl, rfl⟩
    · rw [mo_put_out (by omega), mo_put_out (by omega), mo_put_out (by omega), pk_un (by omega), pk_un (by omega), pk_un (by omega)]
      exact h5 i (by rw [hn, ml_n (by omega)]; omega)
theorem iv_ask {W : Nat → Int32} {c e p : Nat} (h : iv c W) (he : e < 2) (hp : p < 5) : iv c (mo_ask W e p) := by
  have hn := ml_i13 h.1
  have hl := ml_n6 h.1
  unfold mo_ask
  by_cases hf : W 13 = nI 6
  · have h6 : mo_n (W 13) = 6 := by rw [hf]; rfl
    have h2 := iv_rma (k := 0) h (by omega)
    have hq := ml_rma_q (k := 0) hn (by omega)
    rw [h6] at hq
    rw [if_pos hf]
    dsimp only
    rw [hq, ml_n (by omega), nI_add]
    exact iv_adda h2 hq (by omega) he hp _ rfl _
  · have h6 : mo_n (W 13) < 6 := by
      by_cases hq : mo_n (W 13) = 6
      · exact absurd (by rw [hn, hq]) hf
      · omega
    rw [if_neg hf]
    have := iv_adda (v := W (16 + e)) (t := W 0) h hn h6 he hp _ rfl (W (16 + e) + nI 1)
    rw [← nI_add, ← hn] at this
    exact this
theorem iv_v1 (e k : Nat) (x : Int32) (h0 : k ≠ 0) (h3 : k ≠ 3) (h5 : k ≠ 5) : iv_v e k x := ⟨fun h => absurd h h0, fun h => absurd h h3, fun h => absurd h h5⟩
theorem iv_challenge {W : Nat → Int32} {c e p : Nat} (h : iv (c + 1) W) (he : e < 2) (hp : p < 5) : iv c (mo_challenge W e p) := iv_goes (iv_ask h he hp) he hp (by omega) (iv_v1 _ _ _ (by omega) (by omega) (by omega))
theorem iv_once {W : Nat → Int32} {c p : Nat} (h : iv (c + 1) W) (hp : p < 5) : iv c (mo_once W p) := by
  unfold mo_once
  split
  · exact iv_challenge h (by omega) hp
  · exact h.less (by omega)
theorem ml_row_le (W : Nat → Int32) (e : Nat) : mo_row W e ≤ 100 := ml_fst_le _ _
theorem iv_heard {W : Nat → Int32} {c e : Nat} (h : iv (c + 1) W) (he : e < 2) : iv c (mo_heard W e) :=
  iv_goes h he (ml_cur h.2.2.2.2.2.2.2.1 he).1 (by omega) ⟨fun q => absurd q (by omega), fun q => absurd q (by omega), fun _ => ⟨_, ml_row_le W e, rfl⟩⟩
end
section
section IVU
variable {W : Nat → Int32} {c : Nat}
/-- OPEN, SURE, PROVED of a place -/
theorem iv_open {p : Nat} {x : Int32} (h : iv c W) (hp : p < 5) (hx : x = -1 ∨ ∃ n, n < 40 ∧ x = nI n) : iv c (upd W (22 + p) x) := by
  obtain ⟨h1, h2, h3, h4, h5, h6, h7, h8, h9⟩ := h
  have o : ∀ j, j ≠ 22 + p → upd W (22 + p) x j = W j := fun j a => pk_un a
  refine ⟨h1.cg (fun j a b => o j (by omega)), h2.cg (fun j a b => o j (by omega)), h3.cg (o 11 (by omega)) (ml_n24 h1) (fun j a b => o j (by omega)), h4.cg (o 12 (by omega)) (ml_n12 h1) (fun j a b => o j (by omega)), h5.cg (o 13 (by omega)) (ml_n6 h1) (fun j a b => o j (by omega)), ?_, h7.cg (o 1 (by omega)) (fun j a b => o j (by omega)), h8.cg (fun j a => o j (by omega)), h9.cg h8 (fun j a => o j (by omega))⟩
  intro q hq
  obtain ⟨a, b, d⟩ := h6 q hq
  rw [o (27 + q) (by omega), o (32 + q) (by omega)]
  by_cases e : q = p
  · subst e; rw [pk_us]; exact ⟨hx, b, d⟩
  · rw [o (22 + q) (by omega)]; exact ⟨a, b, d⟩
theorem iv_sureU {p : Nat} {x : Int32} (h : iv c W) (hp : p < 5) (hx : x = nI 0 ∨ x = nI 1) : iv c (upd W (27 + p) x) := by
  obtain ⟨h1, h2, h3, h4, h5, h6, h7, h8, h9⟩ := h
  have o : ∀ j, j ≠ 27 + p → upd W (27 + p) x j = W j := fun j a => pk_un a
  refine ⟨h1.cg (fun j a b => o j (by omega)), h2.cg (fun j a b => o j (by omega)), h3.cg (o 11 (by omega)) (ml_n24 h1) (fun j a b => o j (by omega)), h4.cg (o 12 (by omega)) (ml_n12 h1) (fun j a b => o j (by omega)), h5.cg (o 13 (by omega)) (ml_n6 h1) (fun j a b => o j (by omega)), ?_, h7.cg (o 1 (by omega)) (fun j a b => o j (by omega)), h8.cg (fun j a => o j (by omega)), h9.cg h8 (fun j a => o j (by omega))⟩
  intro q hq
  obtain ⟨a, b, d⟩ := h6 q hq
  rw [o (22 + q) (by omega), o (32 + q) (by omega)]
  by_cases e : q = p
  · subst e; rw [pk_us]; exact ⟨a, hx, d⟩
  · rw [o (27 + q) (by omega)]; exact ⟨a, b, d⟩
theorem iv_proved {p : Nat} (h : iv c W) (hp : p < 5) : iv c (upd W (32 + p) (nI 1)) := by
  obtain ⟨h1, h2, h3, h4, h5, h6, h7, h8, h9⟩ := h
  have o : ∀ j, j ≠ 32 + p → upd W (32 + p) (nI 1) j = W j := fun j a => pk_un a
  refine ⟨h1.cg (fun j a b => o j (by omega)), h2.cg (fun j a b => o j (by omega)), h3.cg (o 11 (by omega)) (ml_n24 h1) (fun j a b => o j (by omega)), h4.cg (o 12 (by omega)) (ml_n12 h1) (fun j a b => o j (by omega)), h5.cg (o 13 (by omega)) (ml_n6 h1) (fun j a b => o j (by omega)), ?_, h7.cg (o 1 (by omega)) (fun j a b => o j (by omega)), h8.cg (fun j a => o j (by omega)), ?_⟩
  · intro q hq
    obtain ⟨a, b, d⟩ := h6 q hq
    rw [o (22 + q) (by omega), o (27 + q) (by omega)]
    by_cases e : q = p
    · subst e; rw [pk_us]; exact ⟨a, b, Or.inr rfl⟩
    · rw [o (32 + q) (by omega)]; exact ⟨a, b, d⟩
  · obtain ⟨a, b, d⟩ := h9
    unfold iv_b
    rw [o 4 (by omega), o 5 (by omega), o 3 (by omega)]
    refine ⟨a, b, ?_⟩
    by_cases e : 32 + mo_n (W 3) = 32 + p
    · rw [e, pk_us]; exact Or.inl rfl
    · rw [o _ e]; exact d
/-- WORDS, CONFIRMED, CURRENT, HAS of an end -/
theorem iv_wU {W' : Nat → Int32} {e : Nat} (h : iv c W) (he : e < 2) (o : ∀ j, j ≠ 18 + e → j ≠ 20 + e → ¬ (127 + 100 * e ≤ j ∧ j < 227 + 100 * e) → W' j = W j) (a : ∃ n, n ≤ 40 ∧ W' (18 + e) = nI n) (b : ∃ v, v ≤ 100 ∧ W' (20 + e) = nI v) (d : ∀ k, k < 100 → W' (127 + 100 * e + k) = nI 0 ∨ W' (127 + 100 * e + k) = nI 1) : iv c W' := by
  obtain ⟨h1, h2, h3, h4, h5, h6, h7, h8, h9⟩ := h
  refine ⟨h1.cg (fun j a b => o j (by omega) (by omega) (by omega)), h2.cg (fun j a b => o j (by omega) (by omega) (by omega)), h3.cg (o 11 (by omega) (by omega) (by omega)) (ml_n24 h1) (fun j a b => o j (by omega) (by omega) (by omega)), h4.cg (o 12 (by omega) (by omega) (by omega)) (ml_n12 h1) (fun j a b => o j (by omega) (by omega) (by omega)), h5.cg (o 13 (by omega) (by omega) (by omega)) (ml_n6 h1) (fun j a b => o j (by omega) (by omega) (by omega)), h6.cg (fun j a b => o j (by omega) (by omega) (by omega)), h7.cg (o 1 (by omega) (by omega) (by omega)) (fun j a b => o j (by omega) (by omega) (by omega)), ?_, h9.cg h8 (fun j a => o j (by omega) (by omega) (by omega))⟩
  intro q hq
  obtain ⟨q1, q2, q3, q4⟩ := h8 q hq
  rw [o (2 + q) (by omega) (by omega) (by omega)]
  by_cases hqe : q = e
  · subst hqe; exact ⟨a, b, q3, d⟩
  · rw [o (18 + q) (by omega) (by omega) (by omega), o (20 + q) (by omega) (by omega) (by omega)]
    refine ⟨q1, q2, q3, fun k hk => ?_⟩
    rw [o (127 + 100 * q + k) (by omega) (by omega) (by omega)]
    exact q4 k hk
theorem iv_has {e v : Nat} (h : iv c W) (he : e < 2) (hv : v < 100) : iv c (upd W (127 + 100 * e + v) (nI 1)) := by
  obtain ⟨q1, q2, q3, q4⟩ := h.2.2.2.2.2.2.2.1 e he
  refine iv_wU h he (fun j a b d => pk_un (by omega)) ?_ ?_ ?_
  · rw [pk_un (by omega)]; exact q1
  · rw [pk_un (by omega)]; exact q2
  · intro k hk
    by_cases hkv : k = v
    · subst hkv; rw [pk_us]; exact Or.inr rfl
    · rw [pk_un (by omega)]; exact q4 k hk
theorem iv_conf {e v : Nat} (h : iv c W) (he : e < 2) (hv : v ≤ 100) : iv c (upd W (20 + e) (nI v)) := by
  obtain ⟨q1, q2, q3, q4⟩ := h.2.2.2.2.2.2.2.1 e he
  refine iv_wU h he (fun j a b d => pk_un (by omega)) ?_ ?_ ?_
  · rw [pk_un (by omega)]; exact q1
  · exact ⟨v, hv, pk_us⟩
  · intro k hk
    rw [pk_un (by omega)]; exact q4 k hk
theorem iv_words {e n : Nat} (h : iv c W) (he : e < 2) (hn : n ≤ 40) : iv c (upd W (18 + e) (nI n)) := by
  obtain ⟨q1, q2, q3, q4⟩ := h.2.2.2.2.2.2.2.1 e he
  refine iv_wU h he (fun j a b d => pk_un (by omega)) ?_ ?_ ?_
  · exact ⟨n, hn, pk_us⟩
  · rw [pk_un (by omega)]; exact q2
  · intro k hk
    rw [pk_un (by omega)]; exact q4 k hk
theorem iv_confirm {e : Nat} {x : Int32} (h : iv c W) (he : e < 2) (hx : ∃ v, v ≤ 100 ∧ x = nI v) : iv c (mo_confirm W e x) := by
  unfold mo_confirm
  obtain ⟨v, hv, rfl⟩ := hx
  obtain ⟨-, ⟨u, hu, hw⟩, -⟩ := h.2.2.2.2.2.2.2.1 e he
  rw [hw]
  split
  · exact iv_conf h he hv
  · exact iv_conf h he hu
theorem iv_word {e v : Nat} (h : iv (c + 1) W) (he : e < 2) (hv : v < 100) : iv c (mo_word W e v) := iv_heard (iv_has h he hv) he
/-- CURRENT and FORMER of the guest; CURRENT and BACK of the house -/
theorem iv_cur {W' : Nat → Int32} (h : iv c W) (o : ∀ j, ¬ (2 ≤ j ∧ j < 6) → W' j = W j) (a : ∃ p, p < 5 ∧ W' 2 = nI p) (b : ∃ p, p < 5 ∧ W' 3 = nI p) (d : W' 4 = -1 ∨ ∃ p, p < 5 ∧ W' 4 = nI p) (f : W' 5 = -1 ∨ ∃ p, p < 5 ∧ W' 5 = nI p) (g : W (32 + mo_n (W' 3)) = nI 1 ∨ ∃ p, p < 5 ∧ W' 5 = nI p) : iv c W' := by
  obtain ⟨h1, h2, h3, h4, h5, h6, h7, h8, h9⟩ := h
  refine ⟨h1.cg (fun j a b => o j (by omega)), h2.cg (fun j a b => o j (by omega)), h3.cg (o 11 (by omega)) (ml_n24 h1) (fun j a b => o j (by omega)), h4.cg (o 12 (by omega)) (ml_n12 h1) (fun j a b => o j (by omega)), h5.cg (o 13 (by omega)) (ml_n6 h1) (fun j a b => o j (by omega)), h6.cg (fun j a b => o j (by omega)), h7.cg (o 1 (by omega)) (fun j a b => o j (by omega)), ?_, ⟨d, f, ?_⟩⟩
  · intro e he
    obtain ⟨q1, q2, q3, q4⟩ := h8 e he
    rw [o (18 + e) (by omega), o (20 + e) (by omega)]
    refine ⟨q1, q2, ?_, fun k hk => by rw [o _ (by omega)]; exact q4 k hk⟩
    rcases (show e = 0 ∨ e = 1 by omega) with rfl | rfl
    · exact a
    · exact b
  · rw [o (32 + mo_n (W' 3)) (by omega)]; exact g
theorem ml_c2 (h : iv c W) : ∃ p, p < 5 ∧ W 2 = nI p := (h.2.2.2.2.2.2.2.1 0 (by omega)).2.2.1
theorem ml_c3 (h : iv c W) : ∃ p, p < 5 ∧ W 3 = nI p := (h.2.2.2.2.2.2.2.1 1 (by omega)).2.2.1
theorem iv_follow {p : Nat} (h : iv (c + 1) W) (hp : p < 5) : iv c (mo_follow W p) := by
  unfold mo_follow
  split
  · exact h.less (by omega)
  · refine iv_once ?_ hp
    obtain ⟨q, hq, h3⟩ := ml_c3 h
    obtain ⟨b1, b2, b3⟩ := h.2.2.2.2.2.2.2.2
    have hb : (if W (32 + mo_n (W 3)) = nI 1 then W 3 else W 5) = -1 ∨ ∃ p, p < 5 ∧ (if W (32 + mo_n (W 3)) = nI 1 then W 3 else W 5) = nI p := by
      split
      · exact Or.inr ⟨q, hq, h3⟩
      · exact b2
    have hb2 : ∃ p, p < 5 ∧ (if W (32 + mo_n (W 3)) = nI 1 then W 3 else W 5) = nI p := by
      split
      · exact ⟨q, hq, h3⟩
      · next hn =>
        rcases b3 with z | z
        · exact absurd z hn
        · exact z
    refine iv_cur h (fun j a => by rw [pk_un (by omega), pk_un (by omega)]) ?_ ⟨p, hp, pk_us⟩ ?_ ?_ (Or.inr ?_)
    · rw [pk_un (by omega), pk_un (by omega)]; exact ml_c2 h
    · rw [pk_un (by omega), pk_un (by omega)]; exact b1
    · rw [pk_un (by omega), pk_us]; exact hb
    · rw [pk_un (by omega), pk_us]; exact hb2
theorem iv_goTo {p : Nat} (h : iv (c + 1) W) (hp : p < 5) : iv c (mo_goTo W p) := by
  unfold mo_goTo
  refine iv_heard ?_ (by omega)
  obtain ⟨q, hq, h2⟩ := ml_c2 h
  obtain ⟨b1, b2, b3⟩ := h.2.2.2.2.2.2.2.2
  refine iv_cur h (fun j a => by rw [pk_un (by omega), pk_un (by omega)]) ⟨p, hp, pk_us⟩ ?_ (Or.inr ⟨q, hq, ?_⟩) ?_ ?_
  · rw [pk_un (by omega), pk_un (by omega)]; exact ml_c3 h
  · rw [pk_un (by omega), pk_us]; exact h2
  · rw [pk_un (by omega), pk_un (by omega)]; exact b2
  · rw [pk_un (by omega), pk_un (by omega), pk_un (by omega), pk_un (by omega)]; exact b3
theorem iv_prove {x : Int32} (h : iv (c + 12) W) : iv c (mo_prove W x) := by
  unfold mo_prove
  split
  · next hf =>
    obtain ⟨e, p, t, -, hp, -, -, hpl, -⟩ := h.2.2.2.2.1 _ hf
    rw [hpl, ml_n (by omega)]
    exact iv_letOut (iv_proved (iv_rma h hf) hp) hp
  · exact h.less (by omega)
theorem iv_names {W' : Nat → Int32} (h : iv c W) (o : ∀ j, j ≠ 1 → ¬ (47 ≤ j ∧ j < 127) → W' j = W j) (hn : iv_n W') : iv c W' := by
  obtain ⟨h1, h2, h3, h4, h5, h6, h7, h8, h9⟩ := h
  exact ⟨h1.cg (fun j a b => o j (by omega) (by omega)), h2.cg (fun j a b => o j (by omega) (by omega)), h3.cg (o 11 (by omega) (by omega)) (ml_n24 h1) (fun j a b => o j (by omega) (by omega)), h4.cg (o 12 (by omega) (by omega)) (ml_n12 h1) (fun j a b => o j (by omega) (by omega)), h5.cg (o 13 (by omega) (by omega)) (ml_n6 h1) (fun j a b => o j (by omega) (by omega)), h6.cg (fun j a b => o j (by omega) (by omega)), hn, h8.cg (fun j a => o j (by omega) (by omega)), h9.cg h8 (fun j a => o j (by omega) (by omega))⟩
theorem ml_live {x : Int32} (h : iv c W) (hl : mo_live W x = true) : mo_n x < mo_n (W 1) ∧ x = nI (mo_n x) ∧ mo_n (W 1) ≤ 40 ∧ W 1 = nI (mo_n (W 1)) ∧ 2 ≤ mo_n (W 1) := by
  obtain ⟨g, g1, g2, g3, -⟩ := h.2.2.2.2.2.2.1
  simp only [mo_live, Bool.and_eq_true, decide_eq_true_eq] at hl
  have e1 : mo_n (W 1) = g := by rw [g3, ml_n (by omega)]
  obtain ⟨j, hj, rfl⟩ := nI_of (x := x) (Int32.not_lt.mpr hl.1.1)
  have e2 : mo_n (nI j) = j := nI_clamp hj
  have e3 := hl.1.2
  rw [g3, nI_ltI hj (by omega)] at e3
  rw [e1, e2]
  exact ⟨e3, rfl, g2, g3, g1⟩
theorem iv_retire {x own : Int32} (h : iv (c + 1) W) : iv c (mo_retire W x own) := by
  unfold mo_retire
  split
  · next hl =>
    obtain ⟨a1, a2, a3, a4, a5⟩ := ml_live h hl.1
    obtain ⟨g, g1, g2, g3, g4⟩ := h.2.2.2.2.2.2.1
    have e1 : mo_n (W 1) = g := by rw [g3, ml_n (by omega)]
    have hfirst : iv (c + 1) (upd W (47 + mo_n x) (nI 0)) := by
      refine iv_names h (fun j a b => pk_un (by omega)) ⟨g, g1, g2, by rw [pk_un (by omega)]; exact g3, fun n hn => ?_⟩
      obtain ⟨b1, b2, b3⟩ := g4 n hn
      rw [pk_un (show 87 + n ≠ 47 + mo_n x by omega)]
      by_cases hnx : n = mo_n x
      · subst hnx; rw [pk_us]; exact ⟨Or.inl rfl, fun _ => rfl, b3⟩
      · rw [pk_un (by omega)]; exact ⟨b1, b2, b3⟩
    split
    · next h40 =>
      have hg40 : g < 40 := by rw [g3, nI_ltI (by omega) (by omega)] at h40; exact h40
      have hcur := (ml_cur h.2.2.2.2.2.2.2.1 (e := 1) (by omega)).1
      refine iv_goes (c := c) (iv_names hfirst (fun j a b => by rw [pk_un a, pk_un (by omega)]) ⟨g + 1, by omega, by omega, by rw [pk_us, g3, nI_add], fun n hn => ?_⟩) (by omega) hcur (by omega) ⟨fun q => absurd q (by omega), fun _ _ => ⟨g, hg40, g3⟩, fun q => absurd q (by omega)⟩
      obtain ⟨b1, b2, b3⟩ := g4 n hn
      rw [e1, pk_un (show 47 + n ≠ 1 by omega), pk_un (show 87 + n ≠ 1 by omega), pk_un (show 87 + n ≠ 47 + g by omega), pk_un (show 87 + n ≠ 47 + mo_n x by omega)]
      by_cases hng : n = g
      · subst hng; rw [pk_us]; exact ⟨Or.inr rfl, fun q => absurd q (by omega), b3⟩
      · rw [pk_un (by omega)]
        by_cases hnx : n = mo_n x
        · subst hnx; rw [pk_us]; exact ⟨Or.inl rfl, fun _ => rfl, b3⟩
        · rw [pk_un (by omega)]; exact ⟨b1, fun q => b2 (by omega), b3⟩
    · exact hfirst.less (by omega)
  · exact h.less (by omega)
theorem iv_note {e y : Nat} (h : iv c W) (he : e < 2) : iv c (mo_note W e y) := h.free (fun j a => by unfold mo_note; rw [pk_un (by omega)])
theorem iv_got {p k y : Nat} (h : iv c W) (hp : p < 5) : iv c (mo_houseGot W p k y) := (iv_note (e := 1) (y := y) h (by omega)).free (fun j a => by unfold mo_houseGot; rw [pk_un (by omega)])
theorem iv_new {p k y : Nat} (h : iv (c + 1) W) (hp : p < 5) : iv c (mo_new W p k y) := by
  unfold mo_new
  split
  · exact iv_follow (h.free (fun j a => pk_un (by omega))) hp
  · exact h.less (by omega)
theorem iv_sure {x : Int32} (h : iv c W) : iv c (mo_sure W x) := by
  unfold mo_sure
  split
  · next hf =>
    obtain ⟨e, p, t, -, hp, -, -, hpl, -⟩ := h.2.2.2.2.1 _ hf
    rw [hpl, ml_n (by omega)]
    refine iv_rma (iv_sureU h hp (Or.inr rfl)) ?_
    rw [pk_un (by omega)]
    exact hf
  · exact h
theorem iv_spare {n : Nat} {x : Int32} (h : iv c W) (hn : n < 40) (hx : x = nI 0 ∨ x = nI 1 ∨ x = nI 2) : iv c (upd W (87 + n) x) := by
  obtain ⟨g, g1, g2, g3, g4⟩ := h.2.2.2.2.2.2.1
  refine iv_names h (fun j a b => pk_un (by omega)) ⟨g, g1, g2, by rw [pk_un (by omega)]; exact g3, fun q hq => ?_⟩
  obtain ⟨b1, b2, b3⟩ := g4 q hq
  rw [pk_un (show 47 + q ≠ 87 + n by omega)]
  by_cases hqn : q = n
  · subst hqn; rw [pk_us]; exact ⟨b1, b2, hx⟩
  · rw [pk_un (by omega)]; exact ⟨b1, b2, b3⟩
theorem iv_named {v : Nat} (h : iv c W) (hv : v < 40) : iv c (upd W (87 + v) (if W (87 + v) = 0 then nI 1 else W (87 + v))) := by
  refine iv_spare h hv ?_
  split
  · exact Or.inr (Or.inl rfl)
  · obtain ⟨g, g1, g2, g3, g4⟩ := h.2.2.2.2.2.2.1
    exact (g4 v hv).2.2
theorem ml_gb0 {p : Nat} {x : Int32} : mo_guestBy W p 0 x = mo_word W 0 (mo_n x) := by unfold mo_guestBy; rw [if_pos rfl]
theorem ml_gb1 {p : Nat} {x : Int32} : mo_guestBy W p 1 x = mo_goes W 0 p 2 x := by unfold mo_guestBy; rw [if_neg (by decide), if_pos rfl]
theorem ml_gb2 {p : Nat} {x : Int32} : mo_guestBy W p 2 x = mo_sure W x := by unfold mo_guestBy; rw [if_neg (by decide), if_neg (by decide), if_pos rfl]
theorem ml_gb3 {p : Nat} {x : Int32} : mo_guestBy W p 3 x = upd W (87 + mo_n x) (if W (87 + mo_n x) = 0 then nI 1 else W (87 + mo_n x)) := by unfold mo_guestBy; rw [if_neg (by decide), if_neg (by decide), if_neg (by decide), if_pos rfl]
theorem ml_gb4 {p : Nat} {x : Int32} : mo_guestBy W p 4 x = W := by unfold mo_guestBy; rw [if_neg (by decide), if_neg (by decide), if_neg (by decide), if_neg (by decide), if_neg (by decide)]
theorem ml_gb5 {p : Nat} {x : Int32} : mo_guestBy W p 5 x = mo_confirm W 0 x := by unfold mo_guestBy; rw [if_neg (by decide), if_neg (by decide), if_neg (by decide), if_neg (by decide), if_pos rfl]
theorem ml_hb0 {p : Nat} {name x : Int32} : mo_houseBy W p 0 name x = mo_word W 1 (mo_n x) := by unfold mo_houseBy; rw [if_pos rfl]
theorem ml_hb1 {p : Nat} {name x : Int32} : mo_houseBy W p 1 name x = mo_once (mo_goes W 1 p 2 x) p := by unfold mo_houseBy; rw [if_neg (by decide), if_pos rfl]
theorem ml_hb2 {p : Nat} {name x : Int32} : mo_houseBy W p 2 name x = mo_prove W x := by unfold mo_houseBy; rw [if_neg (by decide), if_neg (by decide), if_pos rfl]
theorem ml_hb3 {p : Nat} {name x : Int32} : mo_houseBy W p 3 name x = W := by unfold mo_houseBy; rw [if_neg (by decide), if_neg (by decide), if_neg (by decide), if_neg (by decide), if_neg (by decide)]
theorem ml_hb4 {p : Nat} {name x : Int32} : mo_houseBy W p 4 name x = mo_retire W x name := by unfold mo_houseBy; rw [if_neg (by decide), if_neg (by decide), if_neg (by decide), if_pos rfl]
theorem ml_hb5 {p : Nat} {name x : Int32} : mo_houseBy W p 5 name x = mo_confirm W 1 x := by unfold mo_houseBy; rw [if_neg (by decide), if_neg (by decide), if_neg (by decide), if_neg (by decide), if_pos rfl]
theorem iv_houseBy {p k : Nat} {name x : Int32} (h : iv (c + 12) W) (hp : p < 5) (hk : k < 6) (hv : iv_v 0 k x) : iv c (mo_houseBy W p k name x) := by
  rcases (show k = 0 ∨ k = 1 ∨ k = 2 ∨ k = 3 ∨ k = 4 ∨ k = 5 by omega) with rfl | rfl | rfl | rfl | rfl | rfl
  · obtain ⟨v, hv2, hx⟩ := hv.1 rfl
    have hm : mo_n x = v := by rw [hx, ml_n (by omega)]
    rw [ml_hb0, hm]
    exact iv_word (h.less (by omega)) (by omega) hv2
  · rw [ml_hb1]
    exact iv_once (iv_goes (c := c + 1) (h.less (by omega)) (by omega) hp (by omega) (iv_v1 _ _ _ (by omega) (by omega) (by omega))) hp
  · rw [ml_hb2]; exact iv_prove h
  · rw [ml_hb3]; exact h.less (by omega)
  · rw [ml_hb4]; exact iv_retire (h.less (by omega))
  · rw [ml_hb5]; exact iv_confirm (h.less (by omega)) (by omega) (hv.2.2 rfl)
theorem iv_house {p y k : Nat} {name x : Int32} (h : iv (c + 25) W) (hp : p < 5) (hk : k < 6) (hv : iv_v 0 k x) : iv c (mo_house W p name y k x) := by
  unfold mo_house
  split
  · exact iv_letOut (iv_houseBy (c := c + 12) (iv_new (c := c + 24) (iv_got h hp) hp) hp hk hv) hp
  · exact h.less (by omega)
theorem iv_gb0 {p : Nat} {x : Int32} (h : iv (c + 1) W) (hv : iv_v 1 0 x) : iv c (mo_guestBy W p 0 x) := by
  obtain ⟨v, hv2, hx⟩ := hv.1 rfl
  have hm : mo_n x = v := by rw [hx, ml_n (by omega)]
  rw [ml_gb0, hm]
  exact iv_word h (e := 0) (v := v) (by omega) hv2
theorem iv_gb3 {p : Nat} {x : Int32} (h : iv c W) (hv : iv_v 1 3 x) : iv c (mo_guestBy W p 3 x) := by
  obtain ⟨v, hv2, hx⟩ := hv.2.1 rfl rfl
  have hm : mo_n x = v := by rw [hx, ml_n (by omega)]
  rw [ml_gb3, hm]
  exact iv_named h hv2
theorem iv_guestBy {p k : Nat} {x : Int32} (h : iv (c + 1) W) (hp : p < 5) (hk : k < 6) (hv : iv_v 1 k x) : iv c (mo_guestBy W p k x) := by
  have h0 : iv c W := h.less (by omega)
  rcases (show k = 0 ∨ k = 1 ∨ k = 2 ∨ k = 3 ∨ k = 4 ∨ k = 5 by omega) with rfl | rfl | rfl | rfl | rfl | rfl
  · exact iv_gb0 h hv
  · rw [ml_gb1]; exact iv_goes h (by omega) hp (by omega) (iv_v1 _ _ _ (by omega) (by omega) (by omega))
  · rw [ml_gb2]; exact iv_sure h0
  · exact iv_gb3 h0 hv
  · rw [ml_gb4]; exact h0
  · rw [ml_gb5]; exact iv_confirm h0 (by omega) (hv.2.2 rfl)
theorem iv_guest {p y k : Nat} {x : Int32} (h : iv (c + 1) W) (hp : p < 5) (hk : k < 6) (hv : iv_v 1 k x) : iv c (mo_guest W p y k x) := by
  unfold mo_guest
  split
  · exact iv_guestBy (iv_note h (by omega)) hp hk hv
  · exact h.less (by omega)
theorem iv_close {p : Nat} (h : iv (c + 1) W) (hp : p < 5) : iv c (mo_close W p) := by
  unfold mo_close
  exact iv_send (iv_open h hp (Or.inl rfl)) (by omega) (ml_cur h.2.2.2.2.2.2.2.1 (e := 0) (by omega)).1 (by omega) (iv_v1 _ _ _ (by omega) (by omega) (by omega))
theorem iv_dh {p : Nat} : ∀ (n : Nat) (W : Nat → Int32), iv c W → iv c (mo_dh p n W)
  | 0, W, h => h
  | n + 1, W, h => by
    unfold mo_dh
    split
    · next hf => exact iv_dh n _ (iv_rmh h hf)
    · exact h
theorem ml_dh_out {p : Nat} : ∀ (n : Nat) (W : Nat → Int32) (j : Nat), iv_c W → (j < 471 ∨ 507 ≤ j) → j ≠ 12 → mo_dh p n W j = W j
  | 0, W, j, h, a, b => rfl
  | n + 1, W, j, h, a, b => by
    unfold mo_dh
    split
    · next hf =>
      have hn := ml_i12 h
      have hl := ml_n12 h
      have o : ∀ j, (j < 471 ∨ 507 ≤ j) → j ≠ 12 → mo_rm W 471 3 12 (mo_fh W p) j = W j := fun j a b => ml_rmh_out hn (by omega) hf (by omega) b
      rw [ml_dh_out n _ j ⟨by rw [o 11 (by omega) (by omega)]; exact h.1, ⟨_, by omega, ml_rmh_q hn (by omega)⟩, by rw [o 13 (by omega) (by omega)]; exact h.2.2⟩ a b, o j a b]
    · rfl
theorem iv_forget {p : Nat} (h : iv c W) (hp : p < 5) : iv c (mo_forget W p) := by
  unfold mo_forget
  split
  · exact h
  · next hpr =>
    have h0 : iv c (upd (upd W (37 + p) (nI 0)) (42 + p) (nI 0)) := h.free (fun j a => by rw [pk_un (by omega), pk_un (by omega)])
    have h1 : iv c (mo_drop (upd (upd W (37 + p) (nI 0)) (42 + p) (nI 0)) p) := iv_dh _ _ h0
    have o : ∀ j, (j < 37 ∨ 47 ≤ j) → (j < 471 ∨ 507 ≤ j) → j ≠ 12 → mo_drop (upd (upd W (37 + p) (nI 0)) (42 + p) (nI 0)) p j = W j := fun j a b d => by
      unfold mo_drop
      rw [ml_dh_out _ _ j h0.1 b d, pk_un (by omega), pk_un (by omega)]
    obtain ⟨q, hq, h3⟩ := ml_c3 h
    obtain ⟨b1, b2, b3⟩ := h.2.2.2.2.2.2.2.2
    refine iv_cur h1 (fun j a => pk_un (by omega)) ?_ ?_ ?_ ?_ ?_
    · rw [pk_un (by omega)]; exact ml_c2 h1
    · rw [pk_us]
      split
      · next he =>
        rcases b3 with z | z
        · rw [he, ml_n (by omega)] at z
          exact absurd z hpr
        · exact z
      · exact ⟨q, hq, h3⟩
    · rw [pk_un (by omega), o 4 (by omega) (by omega) (by omega)]; exact b1
    · rw [pk_un (by omega), o 5 (by omega) (by omega) (by omega)]; exact b2
    · rw [pk_us, pk_un (by omega), o 5 (by omega) (by omega) (by omega)]
      by_cases he : W 3 = nI p
      · right
        rcases b3 with z | z
        · rw [he, ml_n (by omega)] at z
          exact absurd z hpr
        · exact z
      · rw [if_neg he, h3, ml_n (by omega), o (32 + q) (by omega) (by omega) (by omega)]
        rw [h3, ml_n (by omega)] at b3
        exact b3
theorem iv_leave {p : Nat} (h : iv (c + 1) W) (hp : p < 5) : iv c (mo_leave W p) := by
  unfold mo_leave
  split
  · exact h.less (by omega)
  · exact iv_close h hp
theorem iv_back {p : Nat} (h : iv (c + 1) W) : iv c (mo_back W p) := by
  unfold mo_back
  split
  · next hh =>
    obtain ⟨b1, -, -⟩ := h.2.2.2.2.2.2.2.2
    rcases b1 with z | ⟨q, hq, z⟩
    · exact absurd hh.2.1 (by rw [z]; decide)
    · exact iv_goTo h (by rw [z, ml_n (by omega)]; exact hq)
  · exact h.less (by omega)
theorem iv_giveUp {p : Nat} (h : iv (c + 2) W) (hp : p < 5) : iv c (mo_giveUp W p) := by
  unfold mo_giveUp
  split
  · exact h.less (by omega)
  · exact iv_leave (iv_back (c := c + 1) h) hp
theorem iv_tries {k t : Nat} {z : Int32} (h : iv c W) (hk : k < mo_n (W 13)) (ht : t ≤ 2) : iv c (upd (upd W (507 + 5 * k + 4) (nI t)) (507 + 5 * k + 3) z) := by
  obtain ⟨h1, h2, h3, h4, h5, h6, h7, h8, h9⟩ := h
  have hl := ml_n6 h1
  have o : ∀ j, j ≠ 507 + 5 * k + 4 → j ≠ 507 + 5 * k + 3 → upd (upd W (507 + 5 * k + 4) (nI t)) (507 + 5 * k + 3) z j = W j := fun j a b => by rw [pk_un b, pk_un a]
  refine ⟨h1.cg (fun j a b => o j (by omega) (by omega)), h2.cg (fun j a b => o j (by omega) (by omega)), h3.cg (o 11 (by omega) (by omega)) (ml_n24 h1) (fun j a b => o j (by omega) (by omega)), h4.cg (o 12 (by omega) (by omega)) (ml_n12 h1) (fun j a b => o j (by omega) (by omega)), ?_, h6.cg (fun j a b => o j (by omega) (by omega)), h7.cg (o 1 (by omega) (by omega)) (fun j a b => o j (by omega) (by omega)), h8.cg (fun j a => o j (by omega) (by omega)), h9.cg h8 (fun j a => o j (by omega) (by omega))⟩
  intro i hi
  rw [o 13 (by omega) (by omega)] at hi
  obtain ⟨e, p, t0, a1, a2, a3, a4, a5, a6⟩ := h5 i hi
  rw [o (507 + 5 * i) (by omega) (by omega), o (507 + 5 * i + 2) (by omega) (by omega)]
  by_cases hik : i = k
  · subst hik
    refine ⟨e, p, t, a1, a2, ht, a4, a5, ?_⟩
    rw [pk_un (by omega), pk_us]
  · rw [o (507 + 5 * i + 4) (by omega) (by omega)]
    exact ⟨e, p, t0, a1, a2, a3, a4, a5, a6⟩
theorem iv_look {k : Nat} (h : iv (c + 2) W) (hk : k < mo_n (W 13)) : iv c (mo_look W k) := by
  obtain ⟨e, p, t, a1, a2, a3, a4, a5, a6⟩ := h.2.2.2.2.1 k hk
  unfold mo_look
  split
  · exact h.less (by omega)
  · split
    · next ht =>
      rw [a6, nI_ltI (by omega) (by omega)] at ht
      rw [a4, a5, a6, ml_n (by omega), ml_n (by omega), nI_add]
      exact (iv_goes (c := c + 1) (iv_tries h hk (by omega)) a1 a2 (by omega) (iv_v1 _ _ _ (by omega) (by omega) (by omega))).less (by omega)
    · rw [a5, ml_n (by omega)]
      split
      · exact (iv_forget (iv_rma h hk) a2).less (by omega)
      · exact iv_giveUp (iv_rma h hk) a2
theorem ml_lt_of {W : Nat → Int32} {k : Nat} : k < mo_n (W 13) → k < mo_n (W 13) := id
/-- a look leaves the row as long, or one shorter; those behind it stay -/
theorem ml_send_out {W : Nat → Int32} {e p k j : Nat} {v : Int32} (hc : iv_c W) (hp : p < 5) (a : j < 10 ∨ 11 < j) (b : j ≠ 14 + e) (d : ¬ (42 ≤ j ∧ j < 47)) (f : j < 327 ∨ 471 ≤ j) : mo_send W e p k v j = W j := by
  have hi := ml_i11 hc
  have hr := ml_n24 hc
  unfold mo_send
  by_cases hf : W 11 = nI 24
  · rw [if_pos hf, pk_un (by omega)]
    split
    · rw [pk_un (by omega), pk_un (by omega)]
    · rw [pk_un (by omega)]
  · rw [if_neg hf, pk_un (by omega), mo_put_out (by
      by_cases hq : mo_n (W 11) = 24
      · exact absurd (by rw [hi, hq]) hf
      · omega)]
    split
    · rw [pk_un (by omega), pk_un (by omega)]
    · rw [pk_un (by omega)]
theorem ml_hold_out {W : Nat → Int32} {p k j : Nat} {v : Int32} (hc : iv_c W) (a : j < 471 ∨ 507 ≤ j) (b : j ≠ 12) : mo_hold W p k v j = W j := by
  have hi := ml_i12 hc
  have hr := ml_n12 hc
  unfold mo_hold
  by_cases hf : W 12 = nI 12
  · have h12 : mo_n (W 12) = 12 := by rw [hf]; rfl
    have hq := ml_rmh_q (k := 0) hi (by omega)
    rw [h12] at hq
    rw [if_pos hf]
    rw [pk_un b, hq, ml_n (by omega), mo_put_out (by omega), ml_rmh_out hi (by omega) (by omega) (by omega) b]
  · have h12 : mo_n (W 12) < 12 := by
      by_cases hq : mo_n (W 12) = 12
      · exact absurd (by rw [hi, hq]) hf
      · omega
    rw [if_neg hf]
    rw [pk_un b, mo_put_out (by omega)]
theorem ml_goes_out {W : Nat → Int32} {e p k j : Nat} {v : Int32} (hc : iv_c W) (hp : p < 5) (a : j < 10 ∨ 12 < j) (b : j ≠ 14 + e) (d : ¬ (42 ≤ j ∧ j < 47)) (f : j < 327 ∨ 507 ≤ j) : mo_goes W e p k v j = W j := by
  unfold mo_goes
  split
  · exact ml_send_out hc hp (by omega) b d (by omega)
  · exact ml_hold_out hc (by omega) (by omega)
theorem ml_heard_out {W : Nat → Int32} {c e j : Nat} (h : iv c W) (he : e < 2) (a : j < 10 ∨ 12 < j) (b : j ≠ 14 + e) (d : ¬ (42 ≤ j ∧ j < 47)) (f : j < 327 ∨ 507 ≤ j) : mo_heard W e j = W j := ml_goes_out h.1 (ml_cur h.2.2.2.2.2.2.2.1 he).1 a b d f
theorem ml_look_n {W : Nat → Int32} {c k : Nat} (h : iv (c + 2) W) (hk : k < mo_n (W 13)) : mo_n (mo_look W k 13) = (if mo_stays W k = true then mo_n (W 13) else mo_n (W 13) - 1) := by
  obtain ⟨e, p, t, a1, a2, a3, a4, a5, a6⟩ := h.2.2.2.2.1 k hk
  have hn := ml_i13 h.1
  have hl := ml_n6 h.1
  have hrm := iv_rma h hk
  have hq := ml_rma_q (k := k) hn (by omega)
  unfold mo_look mo_stays
  by_cases h1 : W 0 - W (507 + 5 * k + 3) < nI 3
  · simp [h1]
  · by_cases h2 : W (507 + 5 * k + 4) < nI 2
    · rw [if_neg h1, if_pos h2, a4, a5, ml_n (by omega), ml_n (by omega), ml_goes_out (by
        have ht := h2
        rw [a6, nI_ltI (by omega) (by omega)] at ht
        rw [a6, nI_add]
        exact (iv_tries h hk (by omega)).1) a2 (by omega) (by omega) (by omega) (by omega), pk_un (by omega), pk_un (by omega)]
      simp [h2]
    · rw [if_neg h1, if_neg h2, a5, ml_n (by omega)]
      have hst : (decide (W 0 - W (507 + 5 * k + 3) < nI 3) || decide (W (507 + 5 * k + 4) < nI 2)) = false := by simp [h1, h2]
      rw [hst, if_neg (show ¬ (false = true) by decide)]
      split
      · -- forget
        have e1 : mo_forget (mo_rm W 507 5 13 k) p 13 = mo_rm W 507 5 13 k 13 := by
          unfold mo_forget
          split
          · rfl
          · dsimp only
            rw [pk_un (by omega)]
            unfold mo_drop
            rw [ml_dh_out _ _ 13 (hrm.free (fun j a => by rw [pk_un (by omega), pk_un (by omega)])).1 (by omega) (by omega), pk_un (by omega), pk_un (by omega)]
        rw [e1, hq, ml_n (by omega)]
      · have e1 : mo_giveUp (mo_rm W 507 5 13 k) p 13 = mo_rm W 507 5 13 k 13 := by
          unfold mo_giveUp
          split
          · rfl
          · have hb := iv_back (c := c + 1) (p := p) hrm
            have e2 : mo_back (mo_rm W 507 5 13 k) p 13 = mo_rm W 507 5 13 k 13 := by
              unfold mo_back
              split
              · next hh =>
                obtain ⟨b1, -, -⟩ := hrm.2.2.2.2.2.2.2.2
                rcases b1 with z | ⟨q, hq2, z⟩
                · exact absurd hh.2.1 (by rw [z]; decide)
                · unfold mo_goTo
                  have hcc := iv_cur hrm (W' := upd (upd (mo_rm W 507 5 13 k) 4 (mo_rm W 507 5 13 k 2)) 2 (nI (mo_n (mo_rm W 507 5 13 k 4)))) (fun j a => by rw [pk_un (by omega), pk_un (by omega)]) ⟨q, hq2, by rw [pk_us, z, ml_n (by omega)]⟩ (by rw [pk_un (by omega), pk_un (by omega)]; exact ml_c3 hrm) (by
                    obtain ⟨q3, hq3, z3⟩ := ml_c2 hrm
                    exact Or.inr ⟨q3, hq3, by rw [pk_un (by omega), pk_us, z3]⟩) (by rw [pk_un (by omega), pk_un (by omega)]; exact hrm.2.2.2.2.2.2.2.2.2.1) (by rw [pk_un (by omega), pk_un (by omega), pk_un (by omega), pk_un (by omega)]; exact hrm.2.2.2.2.2.2.2.2.2.2)
                  rw [ml_heard_out hcc (by omega) (by omega) (by omega) (by omega) (by omega), pk_un (by omega), pk_un (by omega)]
              · rfl
            unfold mo_leave
            split
            · exact e2
            · unfold mo_close
              rw [ml_send_out (iv_open hb a2 (Or.inl rfl)).1 (ml_cur hb.2.2.2.2.2.2.2.1 (e := 0) (by omega)).1 (by omega) (by omega) (by omega) (by omega), pk_un (by omega), e2]
        rw [e1, hq, ml_n (by omega)]
theorem iv_looks : ∀ (n c k : Nat) (W : Nat → Int32), iv (c + 2 * n) W → k + n ≤ mo_n (W 13) → iv c (mo_looks n k W)
  | 0, c, k, W, h, _ => h
  | n + 1, c, k, W, h, hk => by
    unfold mo_looks
    have h1 : iv (c + 2 * n) (mo_look W k) := iv_look (c := c + 2 * n) h (by omega)
    refine iv_looks n c _ _ h1 ?_
    rw [ml_look_n (c := c + 2 * n) h (by omega)]
    split <;> omega
theorem iv_tick {W : Nat → Int32} {c : Nat} (h : iv (c + 12) W) : iv c (mo_tick W) := by
  have hl := ml_n6 h.1
  unfold mo_tick
  refine iv_looks _ c 0 _ ((h.free (fun j a => pk_un (by omega))).less (by omega)) ?_
  rw [pk_un (by omega)]
  omega
end IVU
end
section
/-! fewer locals, in any order -/
theorem mw_lvs {p : Program} {l : Launch} {e : Env} {R : Room} {s : State} {m : MethodId} {args : Array Value} {below : List Frame} {meth : Method} {c : Code} {A : Nat → Prop} {Q : State → Prop} {ce sl pc nL : Nat} {st : List Value} {I : Heap → Prop} {lv lv' : List (Nat × Value)} (ks : List Nat) (h : lv_pick lv ks = lv') (kk : mw_G p l e R s m args below meth c A nL Q I ce sl pc lv' st) : mw_G p l e R s m args below meth c A nL Q I ce sl pc lv st := fun H locs ls hI hS hl => kk H locs ls hI hS (lv_sub hl ks h)
/-- a place that was found, or NONE -/
def mo_ix (k n : Nat) : Int32 := if k < n then nI k else -1
theorem ml_may_t1 {W : Nat → Int32} {p k : Nat} (h : W (32 + p) = nI 1) : mo_may W p k = true := by simp [mo_may, h]
theorem ml_may_t2 {W : Nat → Int32} {p k : Nat} (h : ¬ nI 3 * W (37 + p) < W (42 + p) + mw_sz k) : mo_may W p k = true := by simp [mo_may, Int32.not_lt.mp h]
theorem ml_may_f {W : Nat → Int32} {p k : Nat} (h : ¬ W (32 + p) = nI 1) (h2 : nI 3 * W (37 + p) < W (42 + p) + mw_sz k) : mo_may W p k = false := by simp [mo_may, h, Int32.not_le.mpr h2]
theorem ml_hold_add {W : Nat → Int32} {p k n : Nat} {v : Int32} (hn : W 12 = nI n) (hn2 : n ≤ 12) (h : ¬ nI n = nI 12) : mo_hold W p k v = upd (upd (upd (upd W (471 + 3 * n) (nI p)) (471 + 3 * n + 1) (nI k)) (471 + 3 * n + 2) v) 12 (nI n + nI 1) := by
  unfold mo_hold
  rw [hn, if_neg h]
  dsimp only
  rw [hn, mo_put3, ml_n (by omega)]
theorem ml_hold_full {W V : Nat → Int32} {p k : Nat} {v : Int32} (hn : W 12 = nI 12) (hV : V = mo_rm W 471 3 12 0) : mo_hold W p k v = upd (upd (upd (upd V (471 + 3 * 11) (nI p)) (471 + 3 * 11 + 1) (nI k)) (471 + 3 * 11 + 2) v) 12 (nI 11 + nI 1) := by
  have hq : V 12 = nI 11 := by rw [hV]; exact ml_rmh_q hn (by omega)
  unfold mo_hold
  rw [if_pos hn, ← hV]
  dsimp only
  rw [hq, mo_put3, ml_n (by omega)]
theorem ml_goes_send0 {W : Nat → Int32} {p k : Nat} {v : Int32} : mo_goes W 0 p k v = mo_send W 0 p k v := by unfold mo_goes; rw [if_pos (Or.inl rfl)]
theorem ml_goes_send {W : Nat → Int32} {e p k : Nat} {v : Int32} (h : mo_may W p k = true) : mo_goes W e p k v = mo_send W e p k v := by unfold mo_goes; rw [if_pos (Or.inr h)]
theorem ml_goes_hold {W : Nat → Int32} {p k : Nat} {v : Int32} (h : mo_may W p k = false) : mo_goes W 1 p k v = mo_hold W p k v := by unfold mo_goes; rw [if_neg (by rw [h]; decide)]
theorem ml_fh_is {W : Nat → Int32} {p n t : Nat} (hn : W 12 = nI n) (hn2 : n ≤ 12) (ht : t < n) (hy : W (471 + 3 * t) = nI p) (hno : ∀ j, j < t → ¬ W (471 + 3 * j) = nI p) : mo_fh W p = t := by
  unfold mo_fh
  rw [hn, ml_n (by omega)]
  exact ml_fst_is ht (by simp [hy]) (fun j hj => by simp [hno j hj])
theorem ml_fh_none {W : Nat → Int32} {p n : Nat} (hn : W 12 = nI n) (hn2 : n ≤ 12) (hno : ∀ j, j < n → ¬ W (471 + 3 * j) = nI p) : mo_fh W p = n := by
  unfold mo_fh
  rw [hn, ml_n (by omega)]
  exact ml_fst_none (fun j hj => by simp [hno j hj])
theorem ml_fa_is {W : Nat → Int32} {e wh n t : Nat} {v : Int32} (hn : W 13 = nI n) (hn2 : n ≤ 6) (ht : t < n) (hy : W (507 + 5 * t) = nI e) (hy2 : W (507 + 5 * t + wh) = v) (hno : ∀ j, j < t → ¬ (W (507 + 5 * j) = nI e ∧ W (507 + 5 * j + wh) = v)) : mo_fa W e wh v = t := by
  unfold mo_fa
  rw [hn, ml_n (by omega)]
  exact ml_fst_is ht (by simp [hy, hy2]) (fun j hj => by
    have := hno j hj
    simpa using this)
theorem ml_fa_none {W : Nat → Int32} {e wh n : Nat} {v : Int32} (hn : W 13 = nI n) (hn2 : n ≤ 6) (hno : ∀ j, j < n → ¬ (W (507 + 5 * j) = nI e ∧ W (507 + 5 * j + wh) = v)) : mo_fa W e wh v = n := by
  unfold mo_fa
  rw [hn, ml_n (by omega)]
  exact ml_fst_none (fun j hj => by
    have := hno j hj
    simpa using this)
theorem ml_succ {t : Nat} {Q : Nat → Prop} (h : ∀ j, j < t → Q j) (ht : Q t) : ∀ j, j < t + 1 → Q j := fun j hj => by
  rcases Nat.lt_or_ge j t with q | q
  · exact h j q
  · rw [show j = t by omega]; exact ht
theorem ml_send_12 {W : Nat → Int32} {e p k : Nat} {v : Int32} (hc : iv_c W) (he : e < 2) (hp : p < 5) : mo_send W e p k v 12 = W 12 := ml_send_out hc hp (by omega) (by omega) (by omega) (by omega)
end
section
/-! bits -/
theorem mb_amt : ∀ m : Nat, m < 32 → ((nI m &&& 31).toBitVec.smod 32).toNat = m := by decide +kernel
theorem mb_one (x : BitVec 32) : x &&& 1#32 = 1#32 ↔ x.getLsbD 0 = true := by
  constructor
  · intro h
    have := congrArg (fun z => BitVec.getLsbD z 0) h
    simpa using this
  · intro h
    apply BitVec.eq_of_getLsbD_eq
    intro i hi
    by_cases h0 : i = 0
    · subst h0; simp [h]
    · simp [h0]
theorem mb_get (x : Int32) {m : Nat} (hm : m < 32) : (x >>> (nI m &&& 31)) &&& nI 1 = nI 1 ↔ x.toBitVec.getLsbD m = true := by
  rw [← Int32.toBitVec_inj]
  show (x.toBitVec.sshiftRight ((nI m &&& 31).toBitVec.smod 32).toNat) &&& 1#32 = 1#32 ↔ _
  rw [mb_one, mb_amt m hm, BitVec.getLsbD_sshiftRight]
  simp [hm]
theorem mb_set (x : Int32) {m i : Nat} (hm : m < 32) (hi : i < 32) : (x ||| nI 1 <<< (nI m &&& 31)).toBitVec.getLsbD i = (x.toBitVec.getLsbD i || decide (i = m)) := by
  show (x.toBitVec ||| (1#32 <<< ((nI m &&& 31).toBitVec.smod 32).toNat)).getLsbD i = _
  rw [mb_amt m hm, BitVec.getLsbD_or, BitVec.getLsbD_shiftLeft]
  congr 1
  by_cases h1 : i = m
  · subst h1; simp [hi]
  · by_cases h2 : i < m
    · simp [h2, h1]
    · have h3 : i - m ≠ 0 := by omega
      simp [hi, h2, h1, h3]
theorem mb_note {W : Nat → Int32} {e y : Nat} (he : e < 2) (y2 : Nat) (hy : y < 32768) (hy2 : y2 < 32768) : mo_bit (mo_note W e y) e y2 = (mo_bit W e y2 || decide (y2 = y)) := by
  unfold mo_bit mo_note
  by_cases h : y2 / 32 = y / 32
  · rw [h, pk_us, mb_set _ (by omega) (by omega)]
    congr 1
    by_cases h2 : y2 = y
    · subst h2; simp
    · have : ¬ y2 % 32 = y % 32 := by omega
      simp [h2, this]
  · rw [pk_un (by omega)]
    have : ¬ y2 = y := fun q => h (by rw [q])
    simp [this]
theorem mb_wide_le (a b : Int32) : a.toInt64 ≤ b.toInt64 ↔ a ≤ b := by rw [Int64.le_iff_toInt_le, Int32.le_iff_toInt_le, Int32.toInt_toInt64, Int32.toInt_toInt64]
theorem ml_in0 {x : Int32} {g : Nat} (hg : 0 < g) (hg2 : g ≤ 100000) : mo_in x.toInt64 0 (nI g - nI 1).toInt64 = true ↔ 0 ≤ x ∧ x < nI g := by
  rw [ml_pred hg]
  unfold mo_in
  rw [Bool.and_eq_true, decide_eq_true_eq, decide_eq_true_eq, mb_wide_le, show (0 : Int64) = (0 : Int32).toInt64 by decide, mb_wide_le]
  constructor
  · rintro ⟨h1, h2⟩
    obtain ⟨j, hj, rfl⟩ := nI_of (x := x) (Int32.not_lt.mpr h1)
    rw [nI_leI hj (by omega)] at h2
    exact ⟨h1, nI_lt (by omega) (by omega)⟩
  · rintro ⟨h1, h2⟩
    obtain ⟨j, hj, rfl⟩ := nI_of (x := x) (Int32.not_lt.mpr h1)
    rw [nI_ltI hj (by omega)] at h2
    exact ⟨h1, nI_le (by omega) (by omega)⟩
theorem ml_of_range {x : Int32} {g : Nat} (h1 : 0 ≤ x) (h2 : x < nI g) (hg : g ≤ 100000) : ∃ j, j < g ∧ x = nI j := by
  obtain ⟨j, hj, rfl⟩ := nI_of (x := x) (Int32.not_lt.mpr h1)
  rw [nI_ltI hj (by omega)] at h2
  exact ⟨j, h2, rfl⟩
theorem ml_ask_add {W : Nat → Int32} {e p n : Nat} (hn : W 13 = nI n) (hn2 : n ≤ 6) (h : ¬ nI n = nI 6) : mo_ask W e p = upd (upd (upd (upd (upd (upd (upd W (16 + e) (W (16 + e) + nI 1)) (507 + 5 * n) (nI e)) (507 + 5 * n + 1) (W (16 + e))) (507 + 5 * n + 2) (nI p)) (507 + 5 * n + 3) (W 0)) (507 + 5 * n + 4) (nI 0)) 13 (nI n + nI 1) := by
  unfold mo_ask
  rw [hn, if_neg h]
  dsimp only
  rw [hn, mo_put5, ml_n (by omega)]
theorem ml_ask_full {W V : Nat → Int32} {e p : Nat} (hn : W 13 = nI 6) (hV : V = mo_rm W 507 5 13 0) (he : e < 2) : mo_ask W e p = upd (upd (upd (upd (upd (upd (upd V (16 + e) (W (16 + e) + nI 1)) (507 + 5 * 5) (nI e)) (507 + 5 * 5 + 1) (W (16 + e))) (507 + 5 * 5 + 2) (nI p)) (507 + 5 * 5 + 3) (W 0)) (507 + 5 * 5 + 4) (nI 0)) 13 (nI 5 + nI 1) := by
  have hq : V 13 = nI 5 := by rw [hV]; exact ml_rma_q hn (by omega)
  unfold mo_ask
  rw [if_pos hn, ← hV]
  dsimp only
  rw [hq, mo_put5, ml_n (by omega)]
theorem ml_ix_ge {k n : Nat} (hn : n ≤ 100) : 0 ≤ mo_ix k n ↔ k < n := by
  unfold mo_ix
  split
  · next h => exact ⟨fun _ => h, fun _ => nI_pos' (by omega)⟩
  · next h => exact ⟨fun q => absurd q (by decide), fun q => absurd q h⟩
theorem ml_once_t {W : Nat → Int32} {p : Nat} (h : W (32 + p) = 0) (h2 : ¬ mo_fa W 1 2 (nI p) < mo_n (W 13)) : mo_once W p = mo_challenge W 1 p := by unfold mo_once; rw [if_pos ⟨h, h2⟩]
theorem ml_once_f1 {W : Nat → Int32} {p : Nat} (h : ¬ W (32 + p) = 0) : mo_once W p = W := by unfold mo_once; rw [if_neg (fun q => h q.1)]
theorem ml_once_f2 {W : Nat → Int32} {p : Nat} (h2 : mo_fa W 1 2 (nI p) < mo_n (W 13)) : mo_once W p = W := by unfold mo_once; rw [if_neg (fun q => q.2 h2)]
theorem ml_row_is {W : Nat → Int32} {e t : Nat} (ht : t < 100) (hy : ¬ W (127 + 100 * e + t) = nI 1) (hno : ∀ j, j < t → W (127 + 100 * e + j) = nI 1) : mo_row W e = t := ml_fst_is ht (by simp [hy]) (fun j hj => by simp [hno j hj])
theorem ml_row_all {W : Nat → Int32} {e : Nat} (hno : ∀ j, j < 100 → W (127 + 100 * e + j) = nI 1) : mo_row W e = 100 := ml_fst_none (fun j hj => by simp [hno j hj])
def mo_fol (W : Nat → Int32) (p : Nat) : Nat → Int32 := upd (upd W 5 (if W (32 + mo_n (W 3)) = nI 1 then W 3 else W 5)) 3 (nI p)
theorem ml_follow_t {W : Nat → Int32} {p : Nat} (h : W 3 = nI p) : mo_follow W p = W := by unfold mo_follow; rw [if_pos h]
theorem ml_follow_f {W : Nat → Int32} {p : Nat} (h : ¬ W 3 = nI p) : mo_follow W p = mo_once (mo_fol W p) p := by unfold mo_follow; rw [if_neg h]; rfl
theorem iv_fol {W : Nat → Int32} {c p : Nat} (h : iv c W) (hp : p < 5) : iv c (mo_fol W p) := by
  unfold mo_fol
  obtain ⟨q, hq, h3⟩ := ml_c3 h
  obtain ⟨b1, b2, b3⟩ := h.2.2.2.2.2.2.2.2
  have hb2 : ∃ p, p < 5 ∧ (if W (32 + mo_n (W 3)) = nI 1 then W 3 else W 5) = nI p := by
    split
    · exact ⟨q, hq, h3⟩
    · next hn =>
      rcases b3 with z | z
      · exact absurd z hn
      · exact z
  refine iv_cur h (fun j a => by rw [pk_un (by omega), pk_un (by omega)]) ?_ ⟨p, hp, pk_us⟩ ?_ ?_ (Or.inr ?_)
  · rw [pk_un (by omega), pk_un (by omega)]; exact ml_c2 h
  · rw [pk_un (by omega), pk_un (by omega)]; exact b1
  · rw [pk_un (by omega), pk_us]; exact Or.inr hb2
  · rw [pk_un (by omega), pk_us]; exact hb2
theorem ml_prove_t {W : Nat → Int32} {x : Int32} {k pl : Nat} (hk : k = mo_fa W 1 1 x) (hf : k < mo_n (W 13)) (hp : W (507 + 5 * k + 2) = nI pl) (hpl : pl < 5) : mo_prove W x = mo_letOut (upd (mo_rm W 507 5 13 k) (32 + pl) (nI 1)) pl := by
  unfold mo_prove
  rw [← hk, if_pos hf, hp, ml_n (by omega)]
theorem ml_prove_f {W : Nat → Int32} {x : Int32} (hf : ¬ mo_fa W 1 1 x < mo_n (W 13)) : mo_prove W x = W := by unfold mo_prove; rw [if_neg hf]
theorem ml_live_in {W : Nat → Int32} {x : Int32} {g : Nat} (hg : W 1 = nI g) (h1 : 0 < g) (h2 : g ≤ 40) : mo_live W x = (mo_in x.toInt64 0 (nI g - nI 1).toInt64 && decide (W (47 + mo_n x) = nI 1)) := by
  unfold mo_live
  rw [hg]
  congr 1
  have := ml_in0 (x := x) h1 (by omega : g ≤ 100000)
  cases hb : mo_in x.toInt64 0 (nI g - nI 1).toInt64 with
  | true => rw [hb] at this; simpa using this.mp rfl
  | false =>
    rw [hb] at this
    have h3 : ¬ (0 ≤ x ∧ x < nI g) := fun q => by cases this.mpr q
    cases hc : (decide (0 ≤ x) && decide (x < nI g)) with
    | false => rfl
    | true =>
      rw [Bool.and_eq_true, decide_eq_true_eq, decide_eq_true_eq] at hc
      exact absurd hc h3
end
section
set_option maxHeartbeats 4000000 in
theorem cm_sizeOf {l : Launch} {Γ : mw_C} {mb : Nat} (hmb : Γ.2.2.2 ≤ mb) {H : Heap} {k : Nat} (hk : k < 6) {J : Heap → Prop} (hJ : J H) : mw_Cr l Γ mX5_sizeOf 1 0 0 (md_A mb) [.int (nI k)] H (some (.int (mw_sz k))) J := by
  refine mw_ofG (P := pX5_sizeOf) (by decide) (md_As hmb) oX5_sizeOf (Nat.le_of_ble_eq_true rfl) ?_
  intro pg e0 sg mg below meth cd X hs
  refine mw_pre (I' := J) (fun H1 h1 => by rw [h1]; exact hJ) ?_
  match k, hk with
  | 0, _ =>
    refine mw_steps X 1 (pc' := 1) (lv' := [(0, .int (nI 0))]) (st' := [.int (nI 0)]) rfl ?_
    refine mw_if_ne X 8 rfl rfl (fun c1 => absurd (by decide) c1) (fun c1 => ?_)
    refine mw_steps X 2 (pc' := 27) (lv' := [(0, .int (nI 0))]) (st' := [.int (nI 5)]) rfl ?_
    exact mw_iret X rfl rfl (fun H h => ⟨rfl, h⟩)
  | 1, _ =>
    refine mw_steps X 1 (pc' := 1) (lv' := [(0, .int (nI 1))]) (st' := [.int (nI 1)]) rfl ?_
    refine mw_if_ne X 8 rfl rfl (fun c1 => ?_) (fun c1 => absurd c1 (by decide))
    refine mw_steps X 2 (pc' := 10) (lv' := [(0, .int (nI 1))]) (st' := [.int (nI 3), .int (nI 1)]) rfl ?_
    refine mw_icmp_ge X 17 rfl rfl (fun c10 => absurd c10 (by decide)) (fun c10 => ?_)
    refine mw_steps X 2 (pc' := 27) (lv' := [(0, .int (nI 1))]) (st' := [.int (nI 4)]) rfl ?_
    exact mw_iret X rfl rfl (fun H h => ⟨rfl, h⟩)
  | 2, _ =>
    refine mw_steps X 1 (pc' := 1) (lv' := [(0, .int (nI 2))]) (st' := [.int (nI 2)]) rfl ?_
    refine mw_if_ne X 8 rfl rfl (fun c1 => ?_) (fun c1 => absurd c1 (by decide))
    refine mw_steps X 2 (pc' := 10) (lv' := [(0, .int (nI 2))]) (st' := [.int (nI 3), .int (nI 2)]) rfl ?_
    refine mw_icmp_ge X 17 rfl rfl (fun c10 => absurd c10 (by decide)) (fun c10 => ?_)
    refine mw_steps X 2 (pc' := 27) (lv' := [(0, .int (nI 2))]) (st' := [.int (nI 4)]) rfl ?_
    exact mw_iret X rfl rfl (fun H h => ⟨rfl, h⟩)
  | 3, _ =>
    refine mw_steps X 1 (pc' := 1) (lv' := [(0, .int (nI 3))]) (st' := [.int (nI 3)]) rfl ?_
    refine mw_if_ne X 8 rfl rfl (fun c1 => ?_) (fun c1 => absurd c1 (by decide))
    refine mw_steps X 2 (pc' := 10) (lv' := [(0, .int (nI 3))]) (st' := [.int (nI 3), .int (nI 3)]) rfl ?_
    refine mw_icmp_ge X 17 rfl rfl (fun c10 => ?_) (fun c10 => absurd (by decide) c10)
    refine mw_steps X 2 (pc' := 19) (lv' := [(0, .int (nI 3))]) (st' := [.int (nI 3), .int (nI 3)]) rfl ?_
    refine mw_icmp_ne X 26 rfl rfl (fun c19 => absurd (by decide) c19) (fun c19 => ?_)
    refine mw_steps X 2 (pc' := 27) (lv' := [(0, .int (nI 3))]) (st' := [.int (nI 3)]) rfl ?_
    exact mw_iret X rfl rfl (fun H h => ⟨rfl, h⟩)
  | 4, _ =>
    refine mw_steps X 1 (pc' := 1) (lv' := [(0, .int (nI 4))]) (st' := [.int (nI 4)]) rfl ?_
    refine mw_if_ne X 8 rfl rfl (fun c1 => ?_) (fun c1 => absurd c1 (by decide))
    refine mw_steps X 2 (pc' := 10) (lv' := [(0, .int (nI 4))]) (st' := [.int (nI 3), .int (nI 4)]) rfl ?_
    refine mw_icmp_ge X 17 rfl rfl (fun c10 => ?_) (fun c10 => absurd (by decide) c10)
    refine mw_steps X 2 (pc' := 19) (lv' := [(0, .int (nI 4))]) (st' := [.int (nI 3), .int (nI 4)]) rfl ?_
    refine mw_icmp_ne X 26 rfl rfl (fun c19 => ?_) (fun c19 => absurd c19 (by decide))
    refine mw_steps X 1 (pc' := 27) (lv' := [(0, .int (nI 4))]) (st' := [.int (nI 2)]) rfl ?_
    exact mw_iret X rfl rfl (fun H h => ⟨rfl, h⟩)
  | 5, _ =>
    refine mw_steps X 1 (pc' := 1) (lv' := [(0, .int (nI 5))]) (st' := [.int (nI 5)]) rfl ?_
    refine mw_if_ne X 8 rfl rfl (fun c1 => ?_) (fun c1 => absurd c1 (by decide))
    refine mw_steps X 2 (pc' := 10) (lv' := [(0, .int (nI 5))]) (st' := [.int (nI 3), .int (nI 5)]) rfl ?_
    refine mw_icmp_ge X 17 rfl rfl (fun c10 => ?_) (fun c10 => absurd (by decide) c10)
    refine mw_steps X 2 (pc' := 19) (lv' := [(0, .int (nI 5))]) (st' := [.int (nI 3), .int (nI 5)]) rfl ?_
    refine mw_icmp_ne X 26 rfl rfl (fun c19 => ?_) (fun c19 => absurd c19 (by decide))
    refine mw_steps X 1 (pc' := 27) (lv' := [(0, .int (nI 5))]) (st' := [.int (nI 2)]) rfl ?_
    exact mw_iret X rfl rfl (fun H h => ⟨rfl, h⟩)
  | k + 6, hk => exact absurd hk (by omega)
set_option maxHeartbeats 4000000 in
set_option maxRecDepth 20000 in
theorem cm_send0 {l : Launch} {Γ : mw_C} {mb : Nat} (hmb : Γ.2.2.2 ≤ mb) {W : Nat → Int32} {ρ : md_R} {H : Heap} {p k r : Nat} {v : Int32} (hH : md_I Γ mb W ρ H) (hp : p < 5) (hk : k < 6) (hr : W 11 = nI r) (hr2 : r ≤ 24) : mw_Cr l Γ mX5_send 2 0 0 (md_A mb) [.ref mb, .int (nI 0), .int (nI p), .int (nI k), .int v] H none (md_I Γ mb (mo_send W 0 p k v) ρ) := by
  refine mw_ofG (P := pX5_send) (by decide) (md_As hmb) oX5_send (Nat.le_of_ble_eq_true rfl) ?_
  intro pg e0 sg mg below meth cd X hs
  refine mw_pre (I' := md_I Γ mb W ρ) (fun H1 h1 => by rw [h1]; exact hH) ?_
  refine mw_steps X 1 (pc' := 1) (lv' := [(0, .ref mb), (1, .int (nI 0)), (2, .int (nI p)), (3, .int (nI k)), (4, .int v)]) (st' := [.ref mb]) rfl ?_
  refine mw_get X kf_X5_7.fl kc_5 rfl (v := .ref (mb + 1)) (fun H h => ⟨_, h.1, rfl⟩) ?_
  refine mw_steps X 3 (pc' := 8) (lv' := [(0, .ref mb), (1, .int (nI 0)), (2, .int (nI p)), (3, .int (nI k)), (4, .int v)]) (st' := [.int ((nI 14) + (nI 0)), .ref (mb + 1)]) rfl ?_
  refine mw_iald X (v := W (14 + 0)) (14 + 0) (by simp only [nI_add, pk_mul]) rfl (fun H h => ⟨_, _, h.2.1, by omega, by decide, rfl⟩) ?_
  refine mw_steps X 2 (pc' := 12) (lv' := [(5, .int (W (14 + 0))), (0, .ref mb), (1, .int (nI 0)), (2, .int (nI p)), (3, .int (nI k)), (4, .int v)]) (st' := [.ref mb]) rfl ?_
  refine mw_get X kf_X5_7.fl kc_5 rfl (v := .ref (mb + 1)) (fun H h => ⟨_, h.1, rfl⟩) ?_
  refine mw_steps X 4 (pc' := 20) (lv' := [(5, .int (W (14 + 0))), (0, .ref mb), (1, .int (nI 0)), (2, .int (nI p)), (3, .int (nI k)), (4, .int v)]) (st' := [.int ((nI 14) + (nI 0)), .ref (mb + 1), .int ((nI 14) + (nI 0)), .ref (mb + 1)]) rfl ?_
  refine mw_iald X (v := W (14 + 0)) (14 + 0) (by simp only [nI_add, pk_mul]) rfl (fun H h => ⟨_, _, h.2.1, by omega, by decide, rfl⟩) ?_
  refine mw_steps X 2 (pc' := 23) (lv' := [(5, .int (W (14 + 0))), (0, .ref mb), (1, .int (nI 0)), (2, .int (nI p)), (3, .int (nI k)), (4, .int v)]) (st' := [.int ((W (14 + 0)) + (nI 1)), .int ((nI 14) + (nI 0)), .ref (mb + 1)]) rfl ?_
  refine mw_iast X (I1 := md_I Γ mb (upd W (14 + 0) ((W (14 + 0)) + (nI 1))) ρ) (14 + 0) (by simp only [nI_add, pk_mul]) rfl (fun H h => ⟨md_A1, _, _, h.2.1, by omega, by decide, fun H1 o c => h.stw o c⟩) ?_
  refine mw_steps X 1 (pc' := 25) (lv' := [(5, .int (W (14 + 0))), (0, .ref mb), (1, .int (nI 0)), (2, .int (nI p)), (3, .int (nI k)), (4, .int v)]) (st' := [.ref mb]) rfl ?_
  refine mw_get X kf_X5_7.fl kc_5 rfl (v := .ref (mb + 1)) (fun H h => ⟨_, h.1, rfl⟩) ?_
  refine mw_steps X 4 (pc' := 33) (lv' := [(5, .int (W (14 + 0))), (0, .ref mb), (1, .int (nI 0)), (2, .int (nI p)), (3, .int (nI k)), (4, .int v)]) (st' := [.int ((nI 42) + (nI p)), .ref (mb + 1), .int ((nI 42) + (nI p)), .ref (mb + 1)]) rfl ?_
  refine mw_iald X (v := W (42 + p)) (42 + p) (by simp only [nI_add, pk_mul]) rfl (fun H h => ⟨_, _, h.2.1, by omega, by decide, (by simp (disch := omega) only [pk_un])⟩) ?_
  refine mw_steps X 2 (pc' := 36) (lv' := [(5, .int (W (14 + 0))), (0, .ref mb), (1, .int (nI 0)), (2, .int (nI p)), (3, .int (nI k)), (4, .int v)]) (st' := [.int (nI 1), .int (nI 0), .int (W (42 + p)), .int ((nI 42) + (nI p)), .ref (mb + 1)]) rfl ?_
  refine mw_icmp_ne X 46 rfl rfl (fun c36 => ?_) (fun c36 => absurd c36 (by decide))
  refine mw_steps X 2 (pc' := 48) (lv' := [(5, .int (W (14 + 0))), (0, .ref mb), (1, .int (nI 0)), (2, .int (nI p)), (3, .int (nI k)), (4, .int v)]) (st' := [.int ((W (42 + p)) + (nI 0)), .int ((nI 42) + (nI p)), .ref (mb + 1)]) rfl ?_
  refine mw_iast X (I1 := md_I Γ mb (upd (upd W (14 + 0) ((W (14 + 0)) + (nI 1))) (42 + p) ((W (42 + p)) + (nI 0))) ρ) (42 + p) (by simp only [nI_add, pk_mul]) rfl (fun H h => ⟨md_A1, _, _, h.2.1, by omega, by decide, fun H1 o c => h.stw o c⟩) ?_
  refine mw_steps X 1 (pc' := 50) (lv' := [(5, .int (W (14 + 0))), (0, .ref mb), (1, .int (nI 0)), (2, .int (nI p)), (3, .int (nI k)), (4, .int v)]) (st' := [.ref mb]) rfl ?_
  refine mw_get X kf_X5_7.fl kc_5 rfl (v := .ref (mb + 1)) (fun H h => ⟨_, h.1, rfl⟩) ?_
  refine mw_steps X 1 (pc' := 55) (lv' := [(5, .int (W (14 + 0))), (0, .ref mb), (1, .int (nI 0)), (2, .int (nI p)), (3, .int (nI k)), (4, .int v)]) (st' := [.int (nI 11), .ref (mb + 1)]) rfl ?_
  refine mw_iald X (v := nI r) (11) rfl rfl (fun H h => ⟨_, _, h.2.1, by omega, by decide, (by simp (disch := omega) only [pk_un]; exact hr)⟩) ?_
  refine mw_steps X 1 (pc' := 58) (lv' := [(5, .int (W (14 + 0))), (0, .ref mb), (1, .int (nI 0)), (2, .int (nI p)), (3, .int (nI k)), (4, .int v)]) (st' := [.int (nI 24), .int (nI r)]) rfl ?_
  refine mw_icmp_ne X 73 rfl rfl (fun c58 => ?_) (fun c58 => ?_)
  · refine mw_steps X 3 (pc' := 79) (lv' := [(5, .int (W (14 + 0))), (0, .ref mb), (1, .int (nI 0)), (2, .int (nI p)), (3, .int (nI k)), (4, .int v)]) (st' := [.ref mb, .int (nI 6), .int (nI 327)]) rfl ?_
    refine mw_get X kf_X5_7.fl kc_5 rfl (v := .ref (mb + 1)) (fun H h => ⟨_, h.1, rfl⟩) ?_
    refine mw_steps X 1 (pc' := 84) (lv' := [(5, .int (W (14 + 0))), (0, .ref mb), (1, .int (nI 0)), (2, .int (nI p)), (3, .int (nI k)), (4, .int v)]) (st' := [.int (nI 11), .ref (mb + 1), .int (nI 6), .int (nI 327)]) rfl ?_
    refine mw_iald X (v := nI r) (11) rfl rfl (fun H h => ⟨_, _, h.2.1, by omega, by decide, (by simp (disch := omega) only [pk_un]; exact hr)⟩) ?_
    refine mw_steps X 4 (pc' := 90) (lv' := [(6, .int ((nI 327) + ((nI 6) * (nI r)))), (5, .int (W (14 + 0))), (0, .ref mb), (1, .int (nI 0)), (2, .int (nI p)), (3, .int (nI k)), (4, .int v)]) (st' := [.ref mb]) rfl ?_
    refine mw_get X kf_X5_7.fl kc_5 rfl (v := .ref (mb + 1)) (fun H h => ⟨_, h.1, rfl⟩) ?_
    refine mw_steps X 2 (pc' := 96) (lv' := [(6, .int ((nI 327) + ((nI 6) * (nI r)))), (5, .int (W (14 + 0))), (0, .ref mb), (1, .int (nI 0)), (2, .int (nI p)), (3, .int (nI k)), (4, .int v)]) (st' := [.int (nI 0), .int ((nI 327) + ((nI 6) * (nI r))), .ref (mb + 1)]) rfl ?_
    refine mw_iast X (I1 := md_I Γ mb (upd (upd (upd W (14 + 0) ((W (14 + 0)) + (nI 1))) (42 + p) ((W (42 + p)) + (nI 0))) (327 + 6 * r) (nI 0)) ρ) (327 + 6 * r) (by simp only [nI_add, pk_mul]) rfl (fun H h => ⟨md_A1, _, _, h.2.1, by omega, by decide, fun H1 o c => h.stw o c⟩) ?_
    refine mw_steps X 1 (pc' := 98) (lv' := [(6, .int ((nI 327) + ((nI 6) * (nI r)))), (5, .int (W (14 + 0))), (0, .ref mb), (1, .int (nI 0)), (2, .int (nI p)), (3, .int (nI k)), (4, .int v)]) (st' := [.ref mb]) rfl ?_
    refine mw_get X kf_X5_7.fl kc_5 rfl (v := .ref (mb + 1)) (fun H h => ⟨_, h.1, rfl⟩) ?_
    refine mw_steps X 4 (pc' := 106) (lv' := [(6, .int ((nI 327) + ((nI 6) * (nI r)))), (5, .int (W (14 + 0))), (0, .ref mb), (1, .int (nI 0)), (2, .int (nI p)), (3, .int (nI k)), (4, .int v)]) (st' := [.int (nI p), .int (((nI 327) + ((nI 6) * (nI r))) + (nI 1)), .ref (mb + 1)]) rfl ?_
    refine mw_iast X (I1 := md_I Γ mb (upd (upd (upd (upd W (14 + 0) ((W (14 + 0)) + (nI 1))) (42 + p) ((W (42 + p)) + (nI 0))) (327 + 6 * r) (nI 0)) (327 + 6 * r + 1) (nI p)) ρ) (327 + 6 * r + 1) (by simp only [nI_add, pk_mul]) rfl (fun H h => ⟨md_A1, _, _, h.2.1, by omega, by decide, fun H1 o c => h.stw o c⟩) ?_
    refine mw_steps X 1 (pc' := 108) (lv' := [(6, .int ((nI 327) + ((nI 6) * (nI r)))), (5, .int (W (14 + 0))), (0, .ref mb), (1, .int (nI 0)), (2, .int (nI p)), (3, .int (nI k)), (4, .int v)]) (st' := [.ref mb]) rfl ?_
    refine mw_get X kf_X5_7.fl kc_5 rfl (v := .ref (mb + 1)) (fun H h => ⟨_, h.1, rfl⟩) ?_
    refine mw_steps X 4 (pc' := 116) (lv' := [(6, .int ((nI 327) + ((nI 6) * (nI r)))), (5, .int (W (14 + 0))), (0, .ref mb), (1, .int (nI 0)), (2, .int (nI p)), (3, .int (nI k)), (4, .int v)]) (st' := [.int (nI 0), .int (((nI 327) + ((nI 6) * (nI r))) + (nI 2)), .ref (mb + 1)]) rfl ?_
    refine mw_if_ne X 131 rfl rfl (fun c116 => absurd (by decide) c116) (fun c116 => ?_)
    refine mw_steps X 1 (pc' := 120) (lv' := [(6, .int ((nI 327) + ((nI 6) * (nI r)))), (5, .int (W (14 + 0))), (0, .ref mb), (1, .int (nI 0)), (2, .int (nI p)), (3, .int (nI k)), (4, .int v)]) (st' := [.ref mb, .int (((nI 327) + ((nI 6) * (nI r))) + (nI 2)), .ref (mb + 1)]) rfl ?_
    refine mw_get X kf_X5_7.fl kc_5 rfl (v := .ref (mb + 1)) (fun H h => ⟨_, h.1, rfl⟩) ?_
    refine mw_steps X 3 (pc' := 127) (lv' := [(6, .int ((nI 327) + ((nI 6) * (nI r)))), (5, .int (W (14 + 0))), (0, .ref mb), (1, .int (nI 0)), (2, .int (nI p)), (3, .int (nI k)), (4, .int v)]) (st' := [.int ((nI 22) + (nI p)), .ref (mb + 1), .int (((nI 327) + ((nI 6) * (nI r))) + (nI 2)), .ref (mb + 1)]) rfl ?_
    refine mw_iald X (v := W (22 + p)) (22 + p) (by simp only [nI_add, pk_mul]) rfl (fun H h => ⟨_, _, h.2.1, by omega, by decide, (by simp (disch := omega) only [pk_un])⟩) ?_
    refine mw_steps X 1 (pc' := 132) (lv' := [(6, .int ((nI 327) + ((nI 6) * (nI r)))), (5, .int (W (14 + 0))), (0, .ref mb), (1, .int (nI 0)), (2, .int (nI p)), (3, .int (nI k)), (4, .int v)]) (st' := [.int (W (22 + p)), .int (((nI 327) + ((nI 6) * (nI r))) + (nI 2)), .ref (mb + 1)]) rfl ?_
    refine mw_iast X (I1 := md_I Γ mb (upd (upd (upd (upd (upd W (14 + 0) ((W (14 + 0)) + (nI 1))) (42 + p) ((W (42 + p)) + (nI 0))) (327 + 6 * r) (nI 0)) (327 + 6 * r + 1) (nI p)) (327 + 6 * r + 2) (W (22 + p))) ρ) (327 + 6 * r + 2) (by simp only [nI_add, pk_mul]) rfl (fun H h => ⟨md_A1, _, _, h.2.1, by omega, by decide, fun H1 o c => h.stw o c⟩) ?_
    refine mw_steps X 1 (pc' := 134) (lv' := [(6, .int ((nI 327) + ((nI 6) * (nI r)))), (5, .int (W (14 + 0))), (0, .ref mb), (1, .int (nI 0)), (2, .int (nI p)), (3, .int (nI k)), (4, .int v)]) (st' := [.ref mb]) rfl ?_
    refine mw_get X kf_X5_7.fl kc_5 rfl (v := .ref (mb + 1)) (fun H h => ⟨_, h.1, rfl⟩) ?_
    refine mw_steps X 4 (pc' := 143) (lv' := [(6, .int ((nI 327) + ((nI 6) * (nI r)))), (5, .int (W (14 + 0))), (0, .ref mb), (1, .int (nI 0)), (2, .int (nI p)), (3, .int (nI k)), (4, .int v)]) (st' := [.int (W (14 + 0)), .int (((nI 327) + ((nI 6) * (nI r))) + (nI 3)), .ref (mb + 1)]) rfl ?_
    refine mw_iast X (I1 := md_I Γ mb (upd (upd (upd (upd (upd (upd W (14 + 0) ((W (14 + 0)) + (nI 1))) (42 + p) ((W (42 + p)) + (nI 0))) (327 + 6 * r) (nI 0)) (327 + 6 * r + 1) (nI p)) (327 + 6 * r + 2) (W (22 + p))) (327 + 6 * r + 3) (W (14 + 0))) ρ) (327 + 6 * r + 3) (by simp only [nI_add, pk_mul]) rfl (fun H h => ⟨md_A1, _, _, h.2.1, by omega, by decide, fun H1 o c => h.stw o c⟩) ?_
    refine mw_steps X 1 (pc' := 145) (lv' := [(6, .int ((nI 327) + ((nI 6) * (nI r)))), (5, .int (W (14 + 0))), (0, .ref mb), (1, .int (nI 0)), (2, .int (nI p)), (3, .int (nI k)), (4, .int v)]) (st' := [.ref mb]) rfl ?_
    refine mw_get X kf_X5_7.fl kc_5 rfl (v := .ref (mb + 1)) (fun H h => ⟨_, h.1, rfl⟩) ?_
    refine mw_steps X 4 (pc' := 153) (lv' := [(6, .int ((nI 327) + ((nI 6) * (nI r)))), (5, .int (W (14 + 0))), (0, .ref mb), (1, .int (nI 0)), (2, .int (nI p)), (3, .int (nI k)), (4, .int v)]) (st' := [.int (nI k), .int (((nI 327) + ((nI 6) * (nI r))) + (nI 4)), .ref (mb + 1)]) rfl ?_
    refine mw_iast X (I1 := md_I Γ mb (upd (upd (upd (upd (upd (upd (upd W (14 + 0) ((W (14 + 0)) + (nI 1))) (42 + p) ((W (42 + p)) + (nI 0))) (327 + 6 * r) (nI 0)) (327 + 6 * r + 1) (nI p)) (327 + 6 * r + 2) (W (22 + p))) (327 + 6 * r + 3) (W (14 + 0))) (327 + 6 * r + 4) (nI k)) ρ) (327 + 6 * r + 4) (by simp only [nI_add, pk_mul]) rfl (fun H h => ⟨md_A1, _, _, h.2.1, by omega, by decide, fun H1 o c => h.stw o c⟩) ?_
    refine mw_steps X 1 (pc' := 155) (lv' := [(6, .int ((nI 327) + ((nI 6) * (nI r)))), (5, .int (W (14 + 0))), (0, .ref mb), (1, .int (nI 0)), (2, .int (nI p)), (3, .int (nI k)), (4, .int v)]) (st' := [.ref mb]) rfl ?_
    refine mw_get X kf_X5_7.fl kc_5 rfl (v := .ref (mb + 1)) (fun H h => ⟨_, h.1, rfl⟩) ?_
    refine mw_steps X 4 (pc' := 164) (lv' := [(6, .int ((nI 327) + ((nI 6) * (nI r)))), (5, .int (W (14 + 0))), (0, .ref mb), (1, .int (nI 0)), (2, .int (nI p)), (3, .int (nI k)), (4, .int v)]) (st' := [.int v, .int (((nI 327) + ((nI 6) * (nI r))) + (nI 5)), .ref (mb + 1)]) rfl ?_
    refine mw_iast X (I1 := md_I Γ mb (upd (upd (upd (upd (upd (upd (upd (upd W (14 + 0) ((W (14 + 0)) + (nI 1))) (42 + p) ((W (42 + p)) + (nI 0))) (327 + 6 * r) (nI 0)) (327 + 6 * r + 1) (nI p)) (327 + 6 * r + 2) (W (22 + p))) (327 + 6 * r + 3) (W (14 + 0))) (327 + 6 * r + 4) (nI k)) (327 + 6 * r + 5) v) ρ) (327 + 6 * r + 5) (by simp only [nI_add, pk_mul]) rfl (fun H h => ⟨md_A1, _, _, h.2.1, by omega, by decide, fun H1 o c => h.stw o c⟩) ?_
    refine mw_steps X 1 (pc' := 166) (lv' := [(6, .int ((nI 327) + ((nI 6) * (nI r)))), (5, .int (W (14 + 0))), (0, .ref mb), (1, .int (nI 0)), (2, .int (nI p)), (3, .int (nI k)), (4, .int v)]) (st' := [.ref mb]) rfl ?_
    refine mw_get X kf_X5_7.fl kc_5 rfl (v := .ref (mb + 1)) (fun H h => ⟨_, h.1, rfl⟩) ?_
    refine mw_steps X 2 (pc' := 172) (lv' := [(6, .int ((nI 327) + ((nI 6) * (nI r)))), (5, .int (W (14 + 0))), (0, .ref mb), (1, .int (nI 0)), (2, .int (nI p)), (3, .int (nI k)), (4, .int v)]) (st' := [.int (nI 11), .ref (mb + 1), .int (nI 11), .ref (mb + 1)]) rfl ?_
    refine mw_iald X (v := nI r) (11) rfl rfl (fun H h => ⟨_, _, h.2.1, by omega, by decide, (by simp (disch := omega) only [pk_un]; exact hr)⟩) ?_
    refine mw_steps X 2 (pc' := 175) (lv' := [(6, .int ((nI 327) + ((nI 6) * (nI r)))), (5, .int (W (14 + 0))), (0, .ref mb), (1, .int (nI 0)), (2, .int (nI p)), (3, .int (nI k)), (4, .int v)]) (st' := [.int ((nI r) + (nI 1)), .int (nI 11), .ref (mb + 1)]) rfl ?_
    refine mw_iast X (I1 := md_I Γ mb (upd (upd (upd (upd (upd (upd (upd (upd (upd W (14 + 0) ((W (14 + 0)) + (nI 1))) (42 + p) ((W (42 + p)) + (nI 0))) (327 + 6 * r) (nI 0)) (327 + 6 * r + 1) (nI p)) (327 + 6 * r + 2) (W (22 + p))) (327 + 6 * r + 3) (W (14 + 0))) (327 + 6 * r + 4) (nI k)) (327 + 6 * r + 5) v) (11) ((nI r) + (nI 1))) ρ) (11) rfl rfl (fun H h => ⟨md_A1, _, _, h.2.1, by omega, by decide, fun H1 o c => h.stw o c⟩) ?_
    refine mw_vret X rfl rfl (fun H h => ⟨rfl, (show mo_send W 0 p k v = upd (upd (upd (upd (upd (upd (upd (upd (upd W (14 + 0) ((W (14 + 0)) + (nI 1))) (42 + p) ((W (42 + p)) + (nI 0))) (327 + 6 * r) (nI 0)) (327 + 6 * r + 1) (nI p)) (327 + 6 * r + 2) (W (22 + p))) (327 + 6 * r + 3) (W (14 + 0))) (327 + 6 * r + 4) (nI k)) (327 + 6 * r + 5) v) (11) ((nI r) + (nI 1)) from ?_) ▸ h⟩)
    first | exact ml_send0_full (by rw [hr]; assumption) | exact ml_send0_add hr hr2 (by assumption)
  · refine mw_steps X 1 (pc' := 62) (lv' := [(5, .int (W (14 + 0))), (0, .ref mb), (1, .int (nI 0)), (2, .int (nI p)), (3, .int (nI k)), (4, .int v)]) (st' := [.ref mb]) rfl ?_
    refine mw_get X kf_X5_7.fl kc_5 rfl (v := .ref (mb + 1)) (fun H h => ⟨_, h.1, rfl⟩) ?_
    refine mw_steps X 2 (pc' := 68) (lv' := [(5, .int (W (14 + 0))), (0, .ref mb), (1, .int (nI 0)), (2, .int (nI p)), (3, .int (nI k)), (4, .int v)]) (st' := [.int (nI 10), .ref (mb + 1), .int (nI 10), .ref (mb + 1)]) rfl ?_
    refine mw_iald X (v := W (10)) (10) rfl rfl (fun H h => ⟨_, _, h.2.1, by omega, by decide, (by simp (disch := omega) only [pk_un])⟩) ?_
    refine mw_steps X 2 (pc' := 71) (lv' := [(5, .int (W (14 + 0))), (0, .ref mb), (1, .int (nI 0)), (2, .int (nI p)), (3, .int (nI k)), (4, .int v)]) (st' := [.int ((W (10)) + (nI 1)), .int (nI 10), .ref (mb + 1)]) rfl ?_
    refine mw_iast X (I1 := md_I Γ mb (upd (upd (upd W (14 + 0) ((W (14 + 0)) + (nI 1))) (42 + p) ((W (42 + p)) + (nI 0))) (10) ((W (10)) + (nI 1))) ρ) (10) rfl rfl (fun H h => ⟨md_A1, _, _, h.2.1, by omega, by decide, fun H1 o c => h.stw o c⟩) ?_
    refine mw_vret X rfl rfl (fun H h => ⟨rfl, (show mo_send W 0 p k v = upd (upd (upd W (14 + 0) ((W (14 + 0)) + (nI 1))) (42 + p) ((W (42 + p)) + (nI 0))) (10) ((W (10)) + (nI 1)) from ?_) ▸ h⟩)
    first | exact ml_send0_full (by rw [hr]; assumption) | exact ml_send0_add hr hr2 (by assumption)
set_option maxHeartbeats 4000000 in
set_option maxRecDepth 20000 in
theorem cm_send1 {l : Launch} {Γ : mw_C} {mb : Nat} (hmb : Γ.2.2.2 ≤ mb) {W : Nat → Int32} {ρ : md_R} {H : Heap} {p k r : Nat} {v : Int32} (hH : md_I Γ mb W ρ H) (hp : p < 5) (hk : k < 6) (hr : W 11 = nI r) (hr2 : r ≤ 24) : mw_Cr l Γ mX5_send 2 0 0 (md_A mb) [.ref mb, .int (nI 1), .int (nI p), .int (nI k), .int v] H none (md_I Γ mb (mo_send W 1 p k v) ρ) := by
  refine mw_ofG (P := pX5_send) (by decide) (md_As hmb) oX5_send (Nat.le_of_ble_eq_true rfl) ?_
  intro pg e0 sg mg below meth cd X hs
  refine mw_pre (I' := md_I Γ mb W ρ) (fun H1 h1 => by rw [h1]; exact hH) ?_
  refine mw_steps X 1 (pc' := 1) (lv' := [(0, .ref mb), (1, .int (nI 1)), (2, .int (nI p)), (3, .int (nI k)), (4, .int v)]) (st' := [.ref mb]) rfl ?_
  refine mw_get X kf_X5_7.fl kc_5 rfl (v := .ref (mb + 1)) (fun H h => ⟨_, h.1, rfl⟩) ?_
  refine mw_steps X 3 (pc' := 8) (lv' := [(0, .ref mb), (1, .int (nI 1)), (2, .int (nI p)), (3, .int (nI k)), (4, .int v)]) (st' := [.int ((nI 14) + (nI 1)), .ref (mb + 1)]) rfl ?_
  refine mw_iald X (v := W (14 + 1)) (14 + 1) (by simp only [nI_add, pk_mul]) rfl (fun H h => ⟨_, _, h.2.1, by omega, by decide, rfl⟩) ?_
  refine mw_steps X 2 (pc' := 12) (lv' := [(5, .int (W (14 + 1))), (0, .ref mb), (1, .int (nI 1)), (2, .int (nI p)), (3, .int (nI k)), (4, .int v)]) (st' := [.ref mb]) rfl ?_
  refine mw_get X kf_X5_7.fl kc_5 rfl (v := .ref (mb + 1)) (fun H h => ⟨_, h.1, rfl⟩) ?_
  refine mw_steps X 4 (pc' := 20) (lv' := [(5, .int (W (14 + 1))), (0, .ref mb), (1, .int (nI 1)), (2, .int (nI p)), (3, .int (nI k)), (4, .int v)]) (st' := [.int ((nI 14) + (nI 1)), .ref (mb + 1), .int ((nI 14) + (nI 1)), .ref (mb + 1)]) rfl ?_
  refine mw_iald X (v := W (14 + 1)) (14 + 1) (by simp only [nI_add, pk_mul]) rfl (fun H h => ⟨_, _, h.2.1, by omega, by decide, rfl⟩) ?_
  refine mw_steps X 2 (pc' := 23) (lv' := [(5, .int (W (14 + 1))), (0, .ref mb), (1, .int (nI 1)), (2, .int (nI p)), (3, .int (nI k)), (4, .int v)]) (st' := [.int ((W (14 + 1)) + (nI 1)), .int ((nI 14) + (nI 1)), .ref (mb + 1)]) rfl ?_
  refine mw_iast X (I1 := md_I Γ mb (upd W (14 + 1) ((W (14 + 1)) + (nI 1))) ρ) (14 + 1) (by simp only [nI_add, pk_mul]) rfl (fun H h => ⟨md_A1, _, _, h.2.1, by omega, by decide, fun H1 o c => h.stw o c⟩) ?_
  refine mw_steps X 1 (pc' := 25) (lv' := [(5, .int (W (14 + 1))), (0, .ref mb), (1, .int (nI 1)), (2, .int (nI p)), (3, .int (nI k)), (4, .int v)]) (st' := [.ref mb]) rfl ?_
  refine mw_get X kf_X5_7.fl kc_5 rfl (v := .ref (mb + 1)) (fun H h => ⟨_, h.1, rfl⟩) ?_
  refine mw_steps X 4 (pc' := 33) (lv' := [(5, .int (W (14 + 1))), (0, .ref mb), (1, .int (nI 1)), (2, .int (nI p)), (3, .int (nI k)), (4, .int v)]) (st' := [.int ((nI 42) + (nI p)), .ref (mb + 1), .int ((nI 42) + (nI p)), .ref (mb + 1)]) rfl ?_
  refine mw_iald X (v := W (42 + p)) (42 + p) (by simp only [nI_add, pk_mul]) rfl (fun H h => ⟨_, _, h.2.1, by omega, by decide, (by simp (disch := omega) only [pk_un])⟩) ?_
  refine mw_steps X 2 (pc' := 36) (lv' := [(5, .int (W (14 + 1))), (0, .ref mb), (1, .int (nI 1)), (2, .int (nI p)), (3, .int (nI k)), (4, .int v)]) (st' := [.int (nI 1), .int (nI 1), .int (W (42 + p)), .int ((nI 42) + (nI p)), .ref (mb + 1)]) rfl ?_
  refine mw_icmp_ne X 46 rfl rfl (fun c36 => absurd (by decide) c36) (fun c36 => ?_)
  refine mw_steps X 1 (pc' := 40) (lv' := [(5, .int (W (14 + 1))), (0, .ref mb), (1, .int (nI 1)), (2, .int (nI p)), (3, .int (nI k)), (4, .int v)]) (st' := [.int (nI k), .int (W (42 + p)), .int ((nI 42) + (nI p)), .ref (mb + 1)]) rfl ?_
  refine mw_cS1r X kd_X5_sizeOf ks_X5_sizeOf kl_X5_25 rfl (Nat.le_of_ble_eq_true rfl) ⟨Nat.le_of_ble_eq_true rfl, Nat.le_of_ble_eq_true rfl⟩ ⟨Nat.le_of_ble_eq_true rfl, Nat.le_of_ble_eq_true rfl⟩ (fun _ h => h) (fun H h => cm_sizeOf hmb hk h) ?_
  refine mw_steps X 2 (pc' := 48) (lv' := [(5, .int (W (14 + 1))), (0, .ref mb), (1, .int (nI 1)), (2, .int (nI p)), (3, .int (nI k)), (4, .int v)]) (st' := [.int ((W (42 + p)) + (mw_sz k)), .int ((nI 42) + (nI p)), .ref (mb + 1)]) rfl ?_
  refine mw_iast X (I1 := md_I Γ mb (upd (upd W (14 + 1) ((W (14 + 1)) + (nI 1))) (42 + p) ((W (42 + p)) + (mw_sz k))) ρ) (42 + p) (by simp only [nI_add, pk_mul]) rfl (fun H h => ⟨md_A1, _, _, h.2.1, by omega, by decide, fun H1 o c => h.stw o c⟩) ?_
  refine mw_steps X 1 (pc' := 50) (lv' := [(5, .int (W (14 + 1))), (0, .ref mb), (1, .int (nI 1)), (2, .int (nI p)), (3, .int (nI k)), (4, .int v)]) (st' := [.ref mb]) rfl ?_
  refine mw_get X kf_X5_7.fl kc_5 rfl (v := .ref (mb + 1)) (fun H h => ⟨_, h.1, rfl⟩) ?_
  refine mw_steps X 1 (pc' := 55) (lv' := [(5, .int (W (14 + 1))), (0, .ref mb), (1, .int (nI 1)), (2, .int (nI p)), (3, .int (nI k)), (4, .int v)]) (st' := [.int (nI 11), .ref (mb + 1)]) rfl ?_
  refine mw_iald X (v := nI r) (11) rfl rfl (fun H h => ⟨_, _, h.2.1, by omega, by decide, (by simp (disch := omega) only [pk_un]; exact hr)⟩) ?_
  refine mw_steps X 1 (pc' := 58) (lv' := [(5, .int (W (14 + 1))), (0, .ref mb), (1, .int (nI 1)), (2, .int (nI p)), (3, .int (nI k)), (4, .int v)]) (st' := [.int (nI 24), .int (nI r)]) rfl ?_
  refine mw_icmp_ne X 73 rfl rfl (fun c58 => ?_) (fun c58 => ?_)
  · refine mw_steps X 3 (pc' := 79) (lv' := [(5, .int (W (14 + 1))), (0, .ref mb), (1, .int (nI 1)), (2, .int (nI p)), (3, .int (nI k)), (4, .int v)]) (st' := [.ref mb, .int (nI 6), .int (nI 327)]) rfl ?_
    refine mw_get X kf_X5_7.fl kc_5 rfl (v := .ref (mb + 1)) (fun H h => ⟨_, h.1, rfl⟩) ?_
    refine mw_steps X 1 (pc' := 84) (lv' := [(5, .int (W (14 + 1))), (0, .ref mb), (1, .int (nI 1)), (2, .int (nI p)), (3, .int (nI k)), (4, .int v)]) (st' := [.int (nI 11), .ref (mb + 1), .int (nI 6), .int (nI 327)]) rfl ?_
    refine mw_iald X (v := nI r) (11) rfl rfl (fun H h => ⟨_, _, h.2.1, by omega, by decide, (by simp (disch := omega) only [pk_un]; exact hr)⟩) ?_
    refine mw_steps X 4 (pc' := 90) (lv' := [(6, .int ((nI 327) + ((nI 6) * (nI r)))), (5, .int (W (14 + 1))), (0, .ref mb), (1, .int (nI 1)), (2, .int (nI p)), (3, .int (nI k)), (4, .int v)]) (st' := [.ref mb]) rfl ?_
    refine mw_get X kf_X5_7.fl kc_5 rfl (v := .ref (mb + 1)) (fun H h => ⟨_, h.1, rfl⟩) ?_
    refine mw_steps X 2 (pc' := 96) (lv' := [(6, .int ((nI 327) + ((nI 6) * (nI r)))), (5, .int (W (14 + 1))), (0, .ref mb), (1, .int (nI 1)), (2, .int (nI p)), (3, .int (nI k)), (4, .int v)]) (st' := [.int (nI 1), .int ((nI 327) + ((nI 6) * (nI r))), .ref (mb + 1)]) rfl ?_
    refine mw_iast X (I1 := md_I Γ mb (upd (upd (upd W (14 + 1) ((W (14 + 1)) + (nI 1))) (42 + p) ((W (42 + p)) + (mw_sz k))) (327 + 6 * r) (nI 1)) ρ) (327 + 6 * r) (by simp only [nI_add, pk_mul]) rfl (fun H h => ⟨md_A1, _, _, h.2.1, by omega, by decide, fun H1 o c => h.stw o c⟩) ?_
    refine mw_steps X 1 (pc' := 98) (lv' := [(6, .int ((nI 327) + ((nI 6) * (nI r)))), (5, .int (W (14 + 1))), (0, .ref mb), (1, .int (nI 1)), (2, .int (nI p)), (3, .int (nI k)), (4, .int v)]) (st' := [.ref mb]) rfl ?_
    refine mw_get X kf_X5_7.fl kc_5 rfl (v := .ref (mb + 1)) (fun H h => ⟨_, h.1, rfl⟩) ?_
    refine mw_steps X 4 (pc' := 106) (lv' := [(6, .int ((nI 327) + ((nI 6) * (nI r)))), (5, .int (W (14 + 1))), (0, .ref mb), (1, .int (nI 1)), (2, .int (nI p)), (3, .int (nI k)), (4, .int v)]) (st' := [.int (nI p), .int (((nI 327) + ((nI 6) * (nI r))) + (nI 1)), .ref (mb + 1)]) rfl ?_
    refine mw_iast X (I1 := md_I Γ mb (upd (upd (upd (upd W (14 + 1) ((W (14 + 1)) + (nI 1))) (42 + p) ((W (42 + p)) + (mw_sz k))) (327 + 6 * r) (nI 1)) (327 + 6 * r + 1) (nI p)) ρ) (327 + 6 * r + 1) (by simp only [nI_add, pk_mul]) rfl (fun H h => ⟨md_A1, _, _, h.2.1, by omega, by decide, fun H1 o c => h.stw o c⟩) ?_
    refine mw_steps X 1 (pc' := 108) (lv' := [(6, .int ((nI 327) + ((nI 6) * (nI r)))), (5, .int (W (14 + 1))), (0, .ref mb), (1, .int (nI 1)), (2, .int (nI p)), (3, .int (nI k)), (4, .int v)]) (st' := [.ref mb]) rfl ?_
    refine mw_get X kf_X5_7.fl kc_5 rfl (v := .ref (mb + 1)) (fun H h => ⟨_, h.1, rfl⟩) ?_
    refine mw_steps X 4 (pc' := 116) (lv' := [(6, .int ((nI 327) + ((nI 6) * (nI r)))), (5, .int (W (14 + 1))), (0, .ref mb), (1, .int (nI 1)), (2, .int (nI p)), (3, .int (nI k)), (4, .int v)]) (st' := [.int (nI 1), .int (((nI 327) + ((nI 6) * (nI r))) + (nI 2)), .ref (mb + 1)]) rfl ?_
    refine mw_if_ne X 131 rfl rfl (fun c116 => ?_) (fun c116 => absurd c116 (by decide))
    refine mw_steps X 1 (pc' := 132) (lv' := [(6, .int ((nI 327) + ((nI 6) * (nI r)))), (5, .int (W (14 + 1))), (0, .ref mb), (1, .int (nI 1)), (2, .int (nI p)), (3, .int (nI k)), (4, .int v)]) (st' := [.int (-1), .int (((nI 327) + ((nI 6) * (nI r))) + (nI 2)), .ref (mb + 1)]) rfl ?_
    refine mw_iast X (I1 := md_I Γ mb (upd (upd (upd (upd (upd W (14 + 1) ((W (14 + 1)) + (nI 1))) (42 + p) ((W (42 + p)) + (mw_sz k))) (327 + 6 * r) (nI 1)) (327 + 6 * r + 1) (nI p)) (327 + 6 * r + 2) (-1)) ρ) (327 + 6 * r + 2) (by simp only [nI_add, pk_mul]) rfl (fun H h => ⟨md_A1, _, _, h.2.1, by omega, by decide, fun H1 o c => h.stw o c⟩) ?_
    refine mw_steps X 1 (pc' := 134) (lv' := [(6, .int ((nI 327) + ((nI 6) * (nI r)))), (5, .int (W (14 + 1))), (0, .ref mb), (1, .int (nI 1)), (2, .int (nI p)), (3, .int (nI k)), (4, .int v)]) (st' := [.ref mb]) rfl ?_
    refine mw_get X kf_X5_7.fl kc_5 rfl (v := .ref (mb + 1)) (fun H h => ⟨_, h.1, rfl⟩) ?_
    refine mw_steps X 4 (pc' := 143) (lv' := [(6, .int ((nI 327) + ((nI 6) * (nI r)))), (5, .int (W (14 + 1))), (0, .ref mb), (1, .int (nI 1)), (2, .int (nI p)), (3, .int (nI k)), (4, .int v)]) (st' := [.int (W (14 + 1)), .int (((nI 327) + ((nI 6) * (nI r))) + (nI 3)), .ref (mb + 1)]) rfl ?_
    refine mw_iast X (I1 := md_I Γ mb (upd (upd (upd (upd (upd (upd W (14 + 1) ((W (14 + 1)) + (nI 1))) (42 + p) ((W (42 + p)) + (mw_sz k))) (327 + 6 * r) (nI 1)) (327 + 6 * r + 1) (nI p)) (327 + 6 * r + 2) (-1)) (327 + 6 * r + 3) (W (14 + 1))) ρ) (327 + 6 * r + 3) (by simp only [nI_add, pk_mul]) rfl (fun H h => ⟨md_A1, _, _, h.2.1, by omega, by decide, fun H1 o c => h.stw o c⟩) ?_
    refine mw_steps X 1 (pc' := 145) (lv' := [(6, .int ((nI 327) + ((nI 6) * (nI r)))), (5, .int (W (14 + 1))), (0, .ref mb), (1, .int (nI 1)), (2, .int (nI p)), (3, .int (nI k)), (4, .int v)]) (st' := [.ref mb]) rfl ?_
    refine mw_get X kf_X5_7.fl kc_5 rfl (v := .ref (mb + 1)) (fun H h => ⟨_, h.1, rfl⟩) ?_
    refine mw_steps X 4 (pc' := 153) (lv' := [(6, .int ((nI 327) + ((nI 6) * (nI r)))), (5, .int (W (14 + 1))), (0, .ref mb), (1, .int (nI 1)), (2, .int (nI p)), (3, .int (nI k)), (4, .int v)]) (st' := [.int (nI k), .int (((nI 327) + ((nI 6) * (nI r))) + (nI 4)), .ref (mb + 1)]) rfl ?_
    refine mw_iast X (I1 := md_I Γ mb (upd (upd (upd (upd (upd (upd (upd W (14 + 1) ((W (14 + 1)) + (nI 1))) (42 + p) ((W (42 + p)) + (mw_sz k))) (327 + 6 * r) (nI 1)) (327 + 6 * r + 1) (nI p)) (327 + 6 * r + 2) (-1)) (327 + 6 * r + 3) (W (14 + 1))) (327 + 6 * r + 4) (nI k)) ρ) (327 + 6 * r + 4) (by simp only [nI_add, pk_mul]) rfl (fun H h => ⟨md_A1, _, _, h.2.1, by omega, by decide, fun H1 o c => h.stw o c⟩) ?_
    refine mw_steps X 1 (pc' := 155) (lv' := [(6, .int ((nI 327) + ((nI 6) * (nI r)))), (5, .int (W (14 + 1))), (0, .ref mb), (1, .int (nI 1)), (2, .int (nI p)), (3, .int (nI k)), (4, .int v)]) (st' := [.ref mb]) rfl ?_
    refine mw_get X kf_X5_7.fl kc_5 rfl (v := .ref (mb + 1)) (fun H h => ⟨_, h.1, rfl⟩) ?_
    refine mw_steps X 4 (pc' := 164) (lv' := [(6, .int ((nI 327) + ((nI 6) * (nI r)))), (5, .int (W (14 + 1))), (0, .ref mb), (1, .int (nI 1)), (2, .int (nI p)), (3, .int (nI k)), (4, .int v)]) (st' := [.int v, .int (((nI 327) + ((nI 6) * (nI r))) + (nI 5)), .ref (mb + 1)]) rfl ?_
    refine mw_iast X (I1 := md_I Γ mb (upd (upd (upd (upd (upd (upd (upd (upd W (14 + 1) ((W (14 + 1)) + (nI 1))) (42 + p) ((W (42 + p)) + (mw_sz k))) (327 + 6 * r) (nI 1)) (327 + 6 * r + 1) (nI p)) (327 + 6 * r + 2) (-1)) (327 + 6 * r + 3) (W (14 + 1))) (327 + 6 * r + 4) (nI k)) (327 + 6 * r + 5) v) ρ) (327 + 6 * r + 5) (by simp only [nI_add, pk_mul]) rfl (fun H h => ⟨md_A1, _, _, h.2.1, by omega, by decide, fun H1 o c => h.stw o c⟩) ?_
    refine mw_steps X 1 (pc' := 166) (lv' := [(6, .int ((nI 327) + ((nI 6) * (nI r)))), (5, .int (W (14 + 1))), (0, .ref mb), (1, .int (nI 1)), (2, .int (nI p)), (3, .int (nI k)), (4, .int v)]) (st' := [.ref mb]) rfl ?_
    refine mw_get X kf_X5_7.fl kc_5 rfl (v := .ref (mb + 1)) (fun H h => ⟨_, h.1, rfl⟩) ?_
    refine mw_steps X 2 (pc' := 172) (lv' := [(6, .int ((nI 327) + ((nI 6) * (nI r)))), (5, .int (W (14 + 1))), (0, .ref mb), (1, .int (nI 1)), (2, .int (nI p)), (3, .int (nI k)), (4, .int v)]) (st' := [.int (nI 11), .ref (mb + 1), .int (nI 11), .ref (mb + 1)]) rfl ?_
    refine mw_iald X (v := nI r) (11) rfl rfl (fun H h => ⟨_, _, h.2.1, by omega, by decide, (by simp (disch := omega) only [pk_un]; exact hr)⟩) ?_
    refine mw_steps X 2 (pc' := 175) (lv' := [(6, .int ((nI 327) + ((nI 6) * (nI r)))), (5, .int (W (14 + 1))), (0, .ref mb), (1, .int (nI 1)), (2, .int (nI p)), (3, .int (nI k)), (4, .int v)]) (st' := [.int ((nI r) + (nI 1)), .int (nI 11), .ref (mb + 1)]) rfl ?_
    refine mw_iast X (I1 := md_I Γ mb (upd (upd (upd (upd (upd (upd (upd (upd (upd W (14 + 1) ((W (14 + 1)) + (nI 1))) (42 + p) ((W (42 + p)) + (mw_sz k))) (327 + 6 * r) (nI 1)) (327 + 6 * r + 1) (nI p)) (327 + 6 * r + 2) (-1)) (327 + 6 * r + 3) (W (14 + 1))) (327 + 6 * r + 4) (nI k)) (327 + 6 * r + 5) v) (11) ((nI r) + (nI 1))) ρ) (11) rfl rfl (fun H h => ⟨md_A1, _, _, h.2.1, by omega, by decide, fun H1 o c => h.stw o c⟩) ?_
    refine mw_vret X rfl rfl (fun H h => ⟨rfl, (show mo_send W 1 p k v = upd (upd (upd (upd (upd (upd (upd (upd (upd W (14 + 1) ((W (14 + 1)) + (nI 1))) (42 + p) ((W (42 + p)) + (mw_sz k))) (327 + 6 * r) (nI 1)) (327 + 6 * r + 1) (nI p)) (327 + 6 * r + 2) (-1)) (327 + 6 * r + 3) (W (14 + 1))) (327 + 6 * r + 4) (nI k)) (327 + 6 * r + 5) v) (11) ((nI r) + (nI 1)) from ?_) ▸ h⟩)
    first | exact ml_send1_full (by rw [hr]; assumption) | exact ml_send1_add hr hr2 (by assumption)
  · refine mw_steps X 1 (pc' := 62) (lv' := [(5, .int (W (14 + 1))), (0, .ref mb), (1, .int (nI 1)), (2, .int (nI p)), (3, .int (nI k)), (4, .int v)]) (st' := [.ref mb]) rfl ?_
    refine mw_get X kf_X5_7.fl kc_5 rfl (v := .ref (mb + 1)) (fun H h => ⟨_, h.1, rfl⟩) ?_
    refine mw_steps X 2 (pc' := 68) (lv' := [(5, .int (W (14 + 1))), (0, .ref mb), (1, .int (nI 1)), (2, .int (nI p)), (3, .int (nI k)), (4, .int v)]) (st' := [.int (nI 10), .ref (mb + 1), .int (nI 10), .ref (mb + 1)]) rfl ?_
    refine mw_iald X (v := W (10)) (10) rfl rfl (fun H h => ⟨_, _, h.2.1, by omega, by decide, (by simp (disch := omega) only [pk_un])⟩) ?_
    refine mw_steps X 2 (pc' := 71) (lv' := [(5, .int (W (14 + 1))), (0, .ref mb), (1, .int (nI 1)), (2, .int (nI p)), (3, .int (nI k)), (4, .int v)]) (st' := [.int ((W (10)) + (nI 1)), .int (nI 10), .ref (mb + 1)]) rfl ?_
    refine mw_iast X (I1 := md_I Γ mb (upd (upd (upd W (14 + 1) ((W (14 + 1)) + (nI 1))) (42 + p) ((W (42 + p)) + (mw_sz k))) (10) ((W (10)) + (nI 1))) ρ) (10) rfl rfl (fun H h => ⟨md_A1, _, _, h.2.1, by omega, by decide, fun H1 o c => h.stw o c⟩) ?_
    refine mw_vret X rfl rfl (fun H h => ⟨rfl, (show mo_send W 1 p k v = upd (upd (upd W (14 + 1) ((W (14 + 1)) + (nI 1))) (42 + p) ((W (42 + p)) + (mw_sz k))) (10) ((W (10)) + (nI 1)) from ?_) ▸ h⟩)
    first | exact ml_send1_full (by rw [hr]; assumption) | exact ml_send1_add hr hr2 (by assumption)
end
section
set_option maxHeartbeats 4000000 in
theorem cm_in {l : Launch} {Γ : mw_C} {mb : Nat} (hmb : Γ.2.2.2 ≤ mb) {H : Heap} {x lo hi : Int64} {J : Heap → Prop} (hJ : J H) : mw_Cr l Γ mX5_in 1 0 0 (md_A mb) [.long x, .long lo, .long hi] H (some (.int (mo_b (mo_in x lo hi)))) J := by
  refine mw_ofG (P := pX5_in) (by decide) (md_As hmb) oX5_in (Nat.le_of_ble_eq_true rfl) ?_
  intro pg e0 sg mg below meth cd X hs
  refine mw_pre (I' := J) (fun H1 h1 => by rw [h1]; exact hJ) ?_
  refine mw_steps X 3 (pc' := 3) (lv' := [(0, .long x), (2, .long lo), (4, .long hi)]) (st' := [.int (lg_cmp x lo)]) rfl ?_
  refine mw_if_lt X 17 rfl rfl (fun c3 => ?_) (fun c3 => ?_)
  · refine mw_steps X 1 (pc' := 18) (lv' := [(0, .long x), (2, .long lo), (4, .long hi)]) (st' := [.int (nI 0)]) rfl ?_
    exact mw_zret X rfl (by decide) rfl (fun H h => ⟨congrArg (fun z => some (Value.int z)) (by rw [show mo_in x lo hi = false from by simp only [mo_in, Bool.and_eq_false_iff, decide_eq_false_iff_not]; first | exact Or.inl (Int64.not_le.mpr (ml_cmp_lt.mp c3)) | exact Or.inr (Int64.not_le.mpr (ml_cmp_gt.mp c10))]; rfl), h⟩)
  · refine mw_steps X 3 (pc' := 10) (lv' := [(0, .long x), (2, .long lo), (4, .long hi)]) (st' := [.int (lg_cmp x hi)]) rfl ?_
    refine mw_if_gt X 17 rfl rfl (fun c10 => ?_) (fun c10 => ?_)
    · refine mw_steps X 1 (pc' := 18) (lv' := [(0, .long x), (2, .long lo), (4, .long hi)]) (st' := [.int (nI 0)]) rfl ?_
      exact mw_zret X rfl (by decide) rfl (fun H h => ⟨congrArg (fun z => some (Value.int z)) (by rw [show mo_in x lo hi = false from by simp only [mo_in, Bool.and_eq_false_iff, decide_eq_false_iff_not]; first | exact Or.inl (Int64.not_le.mpr (ml_cmp_lt.mp c3)) | exact Or.inr (Int64.not_le.mpr (ml_cmp_gt.mp c10))]; rfl), h⟩)
    · refine mw_steps X 2 (pc' := 18) (lv' := [(0, .long x), (2, .long lo), (4, .long hi)]) (st' := [.int (nI 1)]) rfl ?_
      exact mw_zret X rfl (by decide) rfl (fun H h => ⟨congrArg (fun z => some (Value.int z)) (by rw [show mo_in x lo hi = true from by simp only [mo_in, Bool.and_eq_true, decide_eq_true_eq]; exact ⟨Int64.not_lt.mp (fun q => c3 (ml_cmp_lt.mpr q)), Int64.not_lt.mp (fun q => c10 (ml_cmp_gt.mpr q))⟩]; rfl), h⟩)
set_option maxHeartbeats 4000000 in
set_option maxRecDepth 20000 in
theorem cm_removeAt {l : Launch} {Γ : mw_C} {mb : Nat} (hmb : Γ.2.2.2 ≤ mb) {W : Nat → Int32} {ρ : md_R} {H : Heap} {f z q k n : Nat} (hH : md_I Γ mb W ρ H) (hn : W q = nI n) (hk : k < n) (hn2 : n ≤ 24) (hz : z ≤ 6) (hb : f + z * n ≤ 3137) (hq : q < f) : mw_Cr l Γ mX5_removeAt 1 0 0 (md_A mb) [.ref mb, .int (nI f), .int (nI z), .int (nI q), .int (nI k)] H none (md_I Γ mb (mo_rm W f z q k) ρ) := by
  refine mw_ofG (P := pX5_removeAt) (by decide) (md_As hmb) oX5_removeAt (Nat.le_of_ble_eq_true rfl) ?_
  intro pg e0 sg mg below meth cd X hs
  refine mw_pre (I' := md_I Γ mb W ρ) (fun H1 h1 => by rw [h1]; exact hH) ?_
  have hmono : z * (k + 1) ≤ z * n := Nat.mul_le_mul_left z hk
  have hzn : z * n ≤ 144 := Nat.le_trans (Nat.mul_le_mul hz hn2) (by decide)
  have hzk : z * (k + 1) = z * k + z := Nat.mul_succ z k
  have hN : z * (n - 1 - k) = z * n - z * (k + 1) := by rw [show n - 1 - k = n - (k + 1) by omega, Nat.mul_sub]
  have hN1 : z * (n - 1) = z * n - z := by rw [Nat.mul_sub, Nat.mul_one]
  refine mw_steps X 6 (pc' := 8) (lv' := [(5, .int ((nI f) + ((nI z) * (nI k)))), (0, .ref mb), (1, .int (nI f)), (2, .int (nI z)), (3, .int (nI q)), (4, .int (nI k))]) (st' := []) rfl ?_
  refine mw_lveq (lv' := [(5, .int (nI (f + z * k + 0))), (0, .ref mb), (1, .int (nI f)), (2, .int (nI z)), (3, .int (nI q)), (4, .int (nI k))]) (by simp only [nI_add, pk_mul]; rfl) ?_
  refine mw_pre (I' := md_I Γ mb (va_cpy W W (f + z * (k + 1)) (f + z * k) 0) ρ) (fun H h => by rw [ml_cpy0]; exact h) ?_
  refine mw_wf (fun t => z * (n - 1 - k) - t) (fun t => t ≤ z * (n - 1 - k)) (fun t => md_I Γ mb (va_cpy W W (f + z * (k + 1)) (f + z * k) t) ρ) (fun t => [(5, .int (nI (f + z * k + t))), (0, .ref mb), (1, .int (nI f)), (2, .int (nI z)), (3, .int (nI q)), (4, .int (nI k))]) (fun t ht ih => ?_) 0 (Nat.zero_le _)
  have hr : va_cpy W W (f + z * (k + 1)) (f + z * k) t q = nI n := by rw [pk_cpy_out (by omega)]; exact hn
  refine mw_steps X 4 (pc' := 13) (lv' := [(5, .int (nI (f + z * k + t))), (0, .ref mb), (1, .int (nI f)), (2, .int (nI z)), (3, .int (nI q)), (4, .int (nI k))]) (st' := [.ref mb, .int (nI z), .int (nI f), .int (nI (f + z * k + t))]) rfl ?_
  refine mw_get X kf_X5_7.fl kc_5 rfl (v := .ref (mb + 1)) (fun H h => ⟨_, h.1, rfl⟩) ?_
  refine mw_steps X 1 (pc' := 17) (lv' := [(5, .int (nI (f + z * k + t))), (0, .ref mb), (1, .int (nI f)), (2, .int (nI z)), (3, .int (nI q)), (4, .int (nI k))]) (st' := [.int (nI q), .ref (mb + 1), .int (nI z), .int (nI f), .int (nI (f + z * k + t))]) rfl ?_
  refine mw_iald X (v := nI n) (q) rfl rfl (fun H h => ⟨_, _, h.2.1, by omega, by decide, hr⟩) ?_
  refine mw_steps X 4 (pc' := 22) (lv' := [(5, .int (nI (f + z * k + t))), (0, .ref mb), (1, .int (nI f)), (2, .int (nI z)), (3, .int (nI q)), (4, .int (nI k))]) (st' := [.int ((nI f) + ((nI z) * ((nI n) - (nI 1)))), .int (nI (f + z * k + t))]) rfl ?_
  refine mw_icmp_ge X 47 rfl rfl (fun c22 => ?_) (fun c22 => ?_)
  · have hge : z * (n - 1 - k) ≤ t := by
      rw [ml_pred (by omega), pk_mul, nI_add, nI_leI (by omega) (by omega)] at c22
      omega
    refine mw_steps X 1 (pc' := 48) (lv' := [(5, .int (nI (f + z * k + t))), (0, .ref mb), (1, .int (nI f)), (2, .int (nI z)), (3, .int (nI q)), (4, .int (nI k))]) (st' := [.ref mb]) rfl ?_
    refine mw_get X kf_X5_7.fl kc_5 rfl (v := .ref (mb + 1)) (fun H h => ⟨_, h.1, rfl⟩) ?_
    refine mw_steps X 2 (pc' := 53) (lv' := [(5, .int (nI (f + z * k + t))), (0, .ref mb), (1, .int (nI f)), (2, .int (nI z)), (3, .int (nI q)), (4, .int (nI k))]) (st' := [.int (nI q), .ref (mb + 1), .int (nI q), .ref (mb + 1)]) rfl ?_
    refine mw_iald X (v := nI n) (q) rfl rfl (fun H h => ⟨_, _, h.2.1, by omega, by decide, hr⟩) ?_
    refine mw_steps X 2 (pc' := 56) (lv' := [(5, .int (nI (f + z * k + t))), (0, .ref mb), (1, .int (nI f)), (2, .int (nI z)), (3, .int (nI q)), (4, .int (nI k))]) (st' := [.int ((nI n) - (nI 1)), .int (nI q), .ref (mb + 1)]) rfl ?_
    refine mw_iast X (I1 := md_I Γ mb (upd (va_cpy W W (f + z * (k + 1)) (f + z * k) t) (q) ((nI n) - (nI 1))) ρ) (q) rfl rfl (fun H h => ⟨md_A1, _, _, h.2.1, by omega, by decide, fun H1 o c => h.stw o c⟩) ?_
    exact mw_vret X rfl rfl (fun H h => ⟨rfl, by rw [show mo_rm W f z q k = upd (va_cpy W W (f + z * (k + 1)) (f + z * k) t) (q) ((nI n) - (nI 1)) from by unfold mo_rm; rw [hn, ml_n (by omega), show t = z * (n - 1 - k) by omega]]; exact h⟩)
  · have hlt : t < z * (n - 1 - k) := by
      rw [ml_pred (by omega), pk_mul, nI_add, nI_leI (by omega) (by omega)] at c22
      omega
    refine mw_steps X 1 (pc' := 26) (lv' := [(5, .int (nI (f + z * k + t))), (0, .ref mb), (1, .int (nI f)), (2, .int (nI z)), (3, .int (nI q)), (4, .int (nI k))]) (st' := [.ref mb]) rfl ?_
    refine mw_get X kf_X5_7.fl kc_5 rfl (v := .ref (mb + 1)) (fun H h => ⟨_, h.1, rfl⟩) ?_
    refine mw_steps X 2 (pc' := 32) (lv' := [(5, .int (nI (f + z * k + t))), (0, .ref mb), (1, .int (nI f)), (2, .int (nI z)), (3, .int (nI q)), (4, .int (nI k))]) (st' := [.ref mb, .int (nI (f + z * k + t)), .ref (mb + 1)]) rfl ?_
    refine mw_get X kf_X5_7.fl kc_5 rfl (v := .ref (mb + 1)) (fun H h => ⟨_, h.1, rfl⟩) ?_
    refine mw_steps X 3 (pc' := 39) (lv' := [(5, .int (nI (f + z * k + t))), (0, .ref mb), (1, .int (nI f)), (2, .int (nI z)), (3, .int (nI q)), (4, .int (nI k))]) (st' := [.int ((nI (f + z * k + t)) + (nI z)), .ref (mb + 1), .int (nI (f + z * k + t)), .ref (mb + 1)]) rfl ?_
    refine mw_iald X (v := (va_cpy W W (f + z * (k + 1)) (f + z * k) t) (f + z * k + t + z)) (f + z * k + t + z) (by simp only [nI_add, pk_mul]) rfl (fun H h => ⟨_, _, h.2.1, by omega, by decide, rfl⟩) ?_
    refine mw_iast X (I1 := md_I Γ mb (upd (va_cpy W W (f + z * (k + 1)) (f + z * k) t) (f + z * k + t) ((va_cpy W W (f + z * (k + 1)) (f + z * k) t) (f + z * k + t + z))) ρ) (f + z * k + t) (by simp only [nI_add, pk_mul]) rfl (fun H h => ⟨md_A1, _, _, h.2.1, by omega, by decide, fun H1 o c => h.stw o c⟩) ?_
    refine mw_steps X 2 (pc' := 8) (lv' := [(5, .int ((nI (f + z * k + t)) + (nI 1))), (0, .ref mb), (1, .int (nI f)), (2, .int (nI z)), (3, .int (nI q)), (4, .int (nI k))]) (st' := []) rfl ?_
    refine mw_lveq (lv' := [(5, .int (nI (f + z * k + (t + 1)))), (0, .ref mb), (1, .int (nI f)), (2, .int (nI z)), (3, .int (nI q)), (4, .int (nI k))]) (by simp only [nI_add]; rfl) ?_
    refine mw_pre (fun H h => ?_) (ih (t + 1) (by omega) (by omega))
    rw [← ml_cpyS W (by omega)]
    rw [show f + z * (k + 1) + t = f + z * k + t + z by omega]; exact h
end
section
set_option maxHeartbeats 4000000 in
set_option maxRecDepth 20000 in
theorem cm_may {l : Launch} {Γ : mw_C} {mb : Nat} (hmb : Γ.2.2.2 ≤ mb) {W : Nat → Int32} {ρ : md_R} {H : Heap} {p k : Nat} (hH : md_I Γ mb W ρ H) (hp : p < 5) (hk : k < 6) : mw_Cr l Γ mX5_maySend 2 0 0 (md_A mb) [.ref mb, .int (nI p), .int (nI k)] H (some (.int (mo_b (mo_may W p k)))) (md_I Γ mb W ρ) := by
  refine mw_ofG (P := pX5_maySend) (by decide) (md_As hmb) oX5_maySend (Nat.le_of_ble_eq_true rfl) ?_
  intro pg e0 sg mg below meth cd X hs
  refine mw_pre (I' := md_I Γ mb W ρ) (fun H1 h1 => by rw [h1]; exact hH) ?_
  refine mw_steps X 1 (pc' := 1) (lv' := [(0, .ref mb), (1, .int (nI p)), (2, .int (nI k))]) (st' := [.ref mb]) rfl ?_
  refine mw_get X kf_X5_7.fl kc_5 rfl (v := .ref (mb + 1)) (fun H h => ⟨_, h.1, rfl⟩) ?_
  refine mw_steps X 3 (pc' := 8) (lv' := [(0, .ref mb), (1, .int (nI p)), (2, .int (nI k))]) (st' := [.int ((nI 32) + (nI p)), .ref (mb + 1)]) rfl ?_
  refine mw_iald X (v := W (32 + p)) (32 + p) (by simp only [nI_add, pk_mul]) rfl (fun H h => ⟨_, _, h.2.1, by omega, by decide, rfl⟩) ?_
  refine mw_steps X 1 (pc' := 10) (lv' := [(0, .ref mb), (1, .int (nI p)), (2, .int (nI k))]) (st' := [.int (nI 1), .int (W (32 + p))]) rfl ?_
  refine mw_icmp_eq X 41 rfl rfl (fun c10 => ?_) (fun c10 => ?_)
  · refine mw_steps X 2 (pc' := 46) (lv' := [(0, .ref mb), (1, .int (nI p)), (2, .int (nI k))]) (st' := [.int (nI 1)]) rfl ?_
    exact mw_zret X rfl (by decide) rfl (fun H h => ⟨congrArg (fun z => some (Value.int z)) (by first | rw [ml_may_t1 c10]; rfl | rw [ml_may_t2 c38]; rfl), h⟩)
  · refine mw_steps X 1 (pc' := 14) (lv' := [(0, .ref mb), (1, .int (nI p)), (2, .int (nI k))]) (st' := [.ref mb]) rfl ?_
    refine mw_get X kf_X5_7.fl kc_5 rfl (v := .ref (mb + 1)) (fun H h => ⟨_, h.1, rfl⟩) ?_
    refine mw_steps X 3 (pc' := 21) (lv' := [(0, .ref mb), (1, .int (nI p)), (2, .int (nI k))]) (st' := [.int ((nI 42) + (nI p)), .ref (mb + 1)]) rfl ?_
    refine mw_iald X (v := W (42 + p)) (42 + p) (by simp only [nI_add, pk_mul]) rfl (fun H h => ⟨_, _, h.2.1, by omega, by decide, rfl⟩) ?_
    refine mw_steps X 1 (pc' := 23) (lv' := [(0, .ref mb), (1, .int (nI p)), (2, .int (nI k))]) (st' := [.int (nI k), .int (W (42 + p))]) rfl ?_
    refine mw_cS1r X kd_X5_sizeOf ks_X5_sizeOf kl_X5_25 rfl (Nat.le_of_ble_eq_true rfl) ⟨Nat.le_of_ble_eq_true rfl, Nat.le_of_ble_eq_true rfl⟩ ⟨Nat.le_of_ble_eq_true rfl, Nat.le_of_ble_eq_true rfl⟩ (fun _ h => h) (fun H h => cm_sizeOf hmb hk h) ?_
    refine mw_steps X 3 (pc' := 29) (lv' := [(0, .ref mb), (1, .int (nI p)), (2, .int (nI k))]) (st' := [.ref mb, .int (nI 3), .int ((W (42 + p)) + (mw_sz k))]) rfl ?_
    refine mw_get X kf_X5_7.fl kc_5 rfl (v := .ref (mb + 1)) (fun H h => ⟨_, h.1, rfl⟩) ?_
    refine mw_steps X 3 (pc' := 36) (lv' := [(0, .ref mb), (1, .int (nI p)), (2, .int (nI k))]) (st' := [.int ((nI 37) + (nI p)), .ref (mb + 1), .int (nI 3), .int ((W (42 + p)) + (mw_sz k))]) rfl ?_
    refine mw_iald X (v := W (37 + p)) (37 + p) (by simp only [nI_add, pk_mul]) rfl (fun H h => ⟨_, _, h.2.1, by omega, by decide, rfl⟩) ?_
    refine mw_steps X 1 (pc' := 38) (lv' := [(0, .ref mb), (1, .int (nI p)), (2, .int (nI k))]) (st' := [.int ((nI 3) * (W (37 + p))), .int ((W (42 + p)) + (mw_sz k))]) rfl ?_
    refine mw_icmp_gt X 45 rfl rfl (fun c38 => ?_) (fun c38 => ?_)
    · refine mw_steps X 1 (pc' := 46) (lv' := [(0, .ref mb), (1, .int (nI p)), (2, .int (nI k))]) (st' := [.int (nI 0)]) rfl ?_
      exact mw_zret X rfl (by decide) rfl (fun H h => ⟨congrArg (fun z => some (Value.int z)) (by rw [ml_may_f c10 c38]; rfl), h⟩)
    · refine mw_steps X 2 (pc' := 46) (lv' := [(0, .ref mb), (1, .int (nI p)), (2, .int (nI k))]) (st' := [.int (nI 1)]) rfl ?_
      exact mw_zret X rfl (by decide) rfl (fun H h => ⟨congrArg (fun z => some (Value.int z)) (by first | rw [ml_may_t1 c10]; rfl | rw [ml_may_t2 c38]; rfl), h⟩)
set_option maxHeartbeats 4000000 in
set_option maxRecDepth 20000 in
theorem cm_hold {l : Launch} {Γ : mw_C} {mb : Nat} (hmb : Γ.2.2.2 ≤ mb) {W : Nat → Int32} {ρ : md_R} {H : Heap} {p k n : Nat} {v : Int32} (hH : md_I Γ mb W ρ H) (hp : p < 5) (hk : k < 6) (hn : W 12 = nI n) (hn2 : n ≤ 12) : mw_Cr l Γ mX5_hold 2 0 0 (md_A mb) [.ref mb, .int (nI p), .int (nI k), .int v] H none (md_I Γ mb (mo_hold W p k v) ρ) := by
  refine mw_ofG (P := pX5_hold) (by decide) (md_As hmb) oX5_hold (Nat.le_of_ble_eq_true rfl) ?_
  intro pg e0 sg mg below meth cd X hs
  refine mw_pre (I' := md_I Γ mb W ρ) (fun H1 h1 => by rw [h1]; exact hH) ?_
  refine mw_steps X 1 (pc' := 1) (lv' := [(0, .ref mb), (1, .int (nI p)), (2, .int (nI k)), (3, .int v)]) (st' := [.ref mb]) rfl ?_
  refine mw_get X kf_X5_7.fl kc_5 rfl (v := .ref (mb + 1)) (fun H h => ⟨_, h.1, rfl⟩) ?_
  refine mw_steps X 1 (pc' := 6) (lv' := [(0, .ref mb), (1, .int (nI p)), (2, .int (nI k)), (3, .int v)]) (st' := [.int (nI 12), .ref (mb + 1)]) rfl ?_
  refine mw_iald X (v := nI n) (12) rfl rfl (fun H h => ⟨_, _, h.2.1, by omega, by decide, hn⟩) ?_
  refine mw_steps X 1 (pc' := 9) (lv' := [(0, .ref mb), (1, .int (nI p)), (2, .int (nI k)), (3, .int v)]) (st' := [.int (nI 12), .int (nI n)]) rfl ?_
  refine mw_icmp_ne X 23 rfl rfl (fun c9 => ?_) (fun c9 => ?_)
  · refine mw_steps X 3 (pc' := 28) (lv' := [(0, .ref mb), (1, .int (nI p)), (2, .int (nI k)), (3, .int v)]) (st' := [.ref mb, .int (nI 3), .int (nI 471)]) rfl ?_
    refine mw_get X kf_X5_7.fl kc_5 rfl (v := .ref (mb + 1)) (fun H h => ⟨_, h.1, rfl⟩) ?_
    refine mw_steps X 1 (pc' := 33) (lv' := [(0, .ref mb), (1, .int (nI p)), (2, .int (nI k)), (3, .int v)]) (st' := [.int (nI 12), .ref (mb + 1), .int (nI 3), .int (nI 471)]) rfl ?_
    refine mw_iald X (v := nI n) (12) rfl rfl (fun H h => ⟨_, _, h.2.1, by omega, by decide, hn⟩) ?_
    refine mw_steps X 4 (pc' := 39) (lv' := [(4, .int ((nI 471) + ((nI 3) * (nI n)))), (0, .ref mb), (1, .int (nI p)), (2, .int (nI k)), (3, .int v)]) (st' := [.ref mb]) rfl ?_
    refine mw_get X kf_X5_7.fl kc_5 rfl (v := .ref (mb + 1)) (fun H h => ⟨_, h.1, rfl⟩) ?_
    refine mw_steps X 2 (pc' := 45) (lv' := [(4, .int ((nI 471) + ((nI 3) * (nI n)))), (0, .ref mb), (1, .int (nI p)), (2, .int (nI k)), (3, .int v)]) (st' := [.int (nI p), .int ((nI 471) + ((nI 3) * (nI n))), .ref (mb + 1)]) rfl ?_
    refine mw_iast X (I1 := md_I Γ mb (upd W (471 + 3 * n) (nI p)) ρ) (471 + 3 * n) (by simp only [nI_add, pk_mul]) rfl (fun H h => ⟨md_A1, _, _, h.2.1, by omega, by decide, fun H1 o c => h.stw o c⟩) ?_
    refine mw_steps X 1 (pc' := 47) (lv' := [(4, .int ((nI 471) + ((nI 3) * (nI n)))), (0, .ref mb), (1, .int (nI p)), (2, .int (nI k)), (3, .int v)]) (st' := [.ref mb]) rfl ?_
    refine mw_get X kf_X5_7.fl kc_5 rfl (v := .ref (mb + 1)) (fun H h => ⟨_, h.1, rfl⟩) ?_
    refine mw_steps X 4 (pc' := 55) (lv' := [(4, .int ((nI 471) + ((nI 3) * (nI n)))), (0, .ref mb), (1, .int (nI p)), (2, .int (nI k)), (3, .int v)]) (st' := [.int (nI k), .int (((nI 471) + ((nI 3) * (nI n))) + (nI 1)), .ref (mb + 1)]) rfl ?_
    refine mw_iast X (I1 := md_I Γ mb (upd (upd W (471 + 3 * n) (nI p)) (471 + 3 * n + 1) (nI k)) ρ) (471 + 3 * n + 1) (by simp only [nI_add, pk_mul]) rfl (fun H h => ⟨md_A1, _, _, h.2.1, by omega, by decide, fun H1 o c => h.stw o c⟩) ?_
    refine mw_steps X 1 (pc' := 57) (lv' := [(4, .int ((nI 471) + ((nI 3) * (nI n)))), (0, .ref mb), (1, .int (nI p)), (2, .int (nI k)), (3, .int v)]) (st' := [.ref mb]) rfl ?_
    refine mw_get X kf_X5_7.fl kc_5 rfl (v := .ref (mb + 1)) (fun H h => ⟨_, h.1, rfl⟩) ?_
    refine mw_steps X 4 (pc' := 65) (lv' := [(4, .int ((nI 471) + ((nI 3) * (nI n)))), (0, .ref mb), (1, .int (nI p)), (2, .int (nI k)), (3, .int v)]) (st' := [.int v, .int (((nI 471) + ((nI 3) * (nI n))) + (nI 2)), .ref (mb + 1)]) rfl ?_
    refine mw_iast X (I1 := md_I Γ mb (upd (upd (upd W (471 + 3 * n) (nI p)) (471 + 3 * n + 1) (nI k)) (471 + 3 * n + 2) v) ρ) (471 + 3 * n + 2) (by simp only [nI_add, pk_mul]) rfl (fun H h => ⟨md_A1, _, _, h.2.1, by omega, by decide, fun H1 o c => h.stw o c⟩) ?_
    refine mw_steps X 1 (pc' := 67) (lv' := [(4, .int ((nI 471) + ((nI 3) * (nI n)))), (0, .ref mb), (1, .int (nI p)), (2, .int (nI k)), (3, .int v)]) (st' := [.ref mb]) rfl ?_
    refine mw_get X kf_X5_7.fl kc_5 rfl (v := .ref (mb + 1)) (fun H h => ⟨_, h.1, rfl⟩) ?_
    refine mw_steps X 2 (pc' := 73) (lv' := [(4, .int ((nI 471) + ((nI 3) * (nI n)))), (0, .ref mb), (1, .int (nI p)), (2, .int (nI k)), (3, .int v)]) (st' := [.int (nI 12), .ref (mb + 1), .int (nI 12), .ref (mb + 1)]) rfl ?_
    refine mw_iald X (v := nI n) (12) rfl rfl (fun H h => ⟨_, _, h.2.1, by omega, by decide, (by simp (disch := omega) only [pk_un]; exact hn)⟩) ?_
    refine mw_steps X 2 (pc' := 76) (lv' := [(4, .int ((nI 471) + ((nI 3) * (nI n)))), (0, .ref mb), (1, .int (nI p)), (2, .int (nI k)), (3, .int v)]) (st' := [.int ((nI n) + (nI 1)), .int (nI 12), .ref (mb + 1)]) rfl ?_
    refine mw_iast X (I1 := md_I Γ mb (upd (upd (upd (upd W (471 + 3 * n) (nI p)) (471 + 3 * n + 1) (nI k)) (471 + 3 * n + 2) v) (12) ((nI n) + (nI 1))) ρ) (12) rfl rfl (fun H h => ⟨md_A1, _, _, h.2.1, by omega, by decide, fun H1 o c => h.stw o c⟩) ?_
    exact mw_vret X rfl rfl (fun H h => ⟨rfl, by rw [show mo_hold W p k v = upd (upd (upd (upd W (471 + 3 * n) (nI p)) (471 + 3 * n + 1) (nI k)) (471 + 3 * n + 2) v) (12) ((nI n) + (nI 1)) from by exact ml_hold_add hn hn2 c9]; exact h⟩)
  · have hn12 : n = 12 := (nI_eq (by omega) (by omega)).mp c9
    subst hn12
    refine mw_steps X 5 (pc' := 20) (lv' := [(0, .ref mb), (1, .int (nI p)), (2, .int (nI k)), (3, .int v)]) (st' := [.int (nI 0), .int (nI 12), .int (nI 3), .int (nI 471), .ref mb]) rfl ?_
    refine mw_cV4v X kd_X5_removeAt kv_X5_removeAt kl_X5_29 (ci := 5) rfl rfl (Nat.le_of_ble_eq_true rfl) ⟨Nat.le_of_ble_eq_true rfl, Nat.le_of_ble_eq_true rfl⟩ ⟨Nat.le_of_ble_eq_true rfl, Nat.le_of_ble_eq_true rfl⟩ (fun _ h => h) (fun H h => ⟨⟨_, h.1⟩, cm_removeAt hmb h (f := 471) (z := 3) (q := 12) hn (by omega) (by omega) (by omega) (by omega) (by omega)⟩) ?_
    obtain ⟨V, hV⟩ : ∃ V, V = mo_rm W 471 3 12 0 := ⟨_, rfl⟩
    rw [← hV]
    have hV12 : V 12 = nI 11 := by rw [hV]; exact ml_rmh_q hn (by omega)
    refine mw_steps X 3 (pc' := 28) (lv' := [(0, .ref mb), (1, .int (nI p)), (2, .int (nI k)), (3, .int v)]) (st' := [.ref mb, .int (nI 3), .int (nI 471)]) rfl ?_
    refine mw_get X kf_X5_7.fl kc_5 rfl (v := .ref (mb + 1)) (fun H h => ⟨_, h.1, rfl⟩) ?_
    refine mw_steps X 1 (pc' := 33) (lv' := [(0, .ref mb), (1, .int (nI p)), (2, .int (nI k)), (3, .int v)]) (st' := [.int (nI 12), .ref (mb + 1), .int (nI 3), .int (nI 471)]) rfl ?_
    refine mw_iald X (v := nI 11) (12) rfl rfl (fun H h => ⟨_, _, h.2.1, by omega, by decide, hV12⟩) ?_
    refine mw_steps X 4 (pc' := 39) (lv' := [(4, .int ((nI 471) + ((nI 3) * (nI 11)))), (0, .ref mb), (1, .int (nI p)), (2, .int (nI k)), (3, .int v)]) (st' := [.ref mb]) rfl ?_
    refine mw_get X kf_X5_7.fl kc_5 rfl (v := .ref (mb + 1)) (fun H h => ⟨_, h.1, rfl⟩) ?_
    refine mw_steps X 2 (pc' := 45) (lv' := [(4, .int ((nI 471) + ((nI 3) * (nI 11)))), (0, .ref mb), (1, .int (nI p)), (2, .int (nI k)), (3, .int v)]) (st' := [.int (nI p), .int ((nI 471) + ((nI 3) * (nI 11))), .ref (mb + 1)]) rfl ?_
    refine mw_iast X (I1 := md_I Γ mb (upd V (471 + 3 * 11) (nI p)) ρ) (471 + 3 * 11) (by simp only [nI_add, pk_mul]) rfl (fun H h => ⟨md_A1, _, _, h.2.1, by omega, by decide, fun H1 o c => h.stw o c⟩) ?_
    refine mw_steps X 1 (pc' := 47) (lv' := [(4, .int ((nI 471) + ((nI 3) * (nI 11)))), (0, .ref mb), (1, .int (nI p)), (2, .int (nI k)), (3, .int v)]) (st' := [.ref mb]) rfl ?_
    refine mw_get X kf_X5_7.fl kc_5 rfl (v := .ref (mb + 1)) (fun H h => ⟨_, h.1, rfl⟩) ?_
    refine mw_steps X 4 (pc' := 55) (lv' := [(4, .int ((nI 471) + ((nI 3) * (nI 11)))), (0, .ref mb), (1, .int (nI p)), (2, .int (nI k)), (3, .int v)]) (st' := [.int (nI k), .int (((nI 471) + ((nI 3) * (nI 11))) + (nI 1)), .ref (mb + 1)]) rfl ?_
    refine mw_iast X (I1 := md_I Γ mb (upd (upd V (471 + 3 * 11) (nI p)) (471 + 3 * 11 + 1) (nI k)) ρ) (471 + 3 * 11 + 1) (by simp only [nI_add, pk_mul]) rfl (fun H h => ⟨md_A1, _, _, h.2.1, by omega, by decide, fun H1 o c => h.stw o c⟩) ?_
    refine mw_steps X 1 (pc' := 57) (lv' := [(4, .int ((nI 471) + ((nI 3) * (nI 11)))), (0, .ref mb), (1, .int (nI p)), (2, .int (nI k)), (3, .int v)]) (st' := [.ref mb]) rfl ?_
    refine mw_get X kf_X5_7.fl kc_5 rfl (v := .ref (mb + 1)) (fun H h => ⟨_, h.1, rfl⟩) ?_
    refine mw_steps X 4 (pc' := 65) (lv' := [(4, .int ((nI 471) + ((nI 3) * (nI 11)))), (0, .ref mb), (1, .int (nI p)), (2, .int (nI k)), (3, .int v)]) (st' := [.int v, .int (((nI 471) + ((nI 3) * (nI 11))) + (nI 2)), .ref (mb + 1)]) rfl ?_
    refine mw_iast X (I1 := md_I Γ mb (upd (upd (upd V (471 + 3 * 11) (nI p)) (471 + 3 * 11 + 1) (nI k)) (471 + 3 * 11 + 2) v) ρ) (471 + 3 * 11 + 2) (by simp only [nI_add, pk_mul]) rfl (fun H h => ⟨md_A1, _, _, h.2.1, by omega, by decide, fun H1 o c => h.stw o c⟩) ?_
    refine mw_steps X 1 (pc' := 67) (lv' := [(4, .int ((nI 471) + ((nI 3) * (nI 11)))), (0, .ref mb), (1, .int (nI p)), (2, .int (nI k)), (3, .int v)]) (st' := [.ref mb]) rfl ?_
    refine mw_get X kf_X5_7.fl kc_5 rfl (v := .ref (mb + 1)) (fun H h => ⟨_, h.1, rfl⟩) ?_
    refine mw_steps X 2 (pc' := 73) (lv' := [(4, .int ((nI 471) + ((nI 3) * (nI 11)))), (0, .ref mb), (1, .int (nI p)), (2, .int (nI k)), (3, .int v)]) (st' := [.int (nI 12), .ref (mb + 1), .int (nI 12), .ref (mb + 1)]) rfl ?_
    refine mw_iald X (v := nI 11) (12) rfl rfl (fun H h => ⟨_, _, h.2.1, by omega, by decide, (by simp (disch := omega) only [pk_un]; exact hV12)⟩) ?_
    refine mw_steps X 2 (pc' := 76) (lv' := [(4, .int ((nI 471) + ((nI 3) * (nI 11)))), (0, .ref mb), (1, .int (nI p)), (2, .int (nI k)), (3, .int v)]) (st' := [.int ((nI 11) + (nI 1)), .int (nI 12), .ref (mb + 1)]) rfl ?_
    refine mw_iast X (I1 := md_I Γ mb (upd (upd (upd (upd V (471 + 3 * 11) (nI p)) (471 + 3 * 11 + 1) (nI k)) (471 + 3 * 11 + 2) v) (12) ((nI 11) + (nI 1))) ρ) (12) rfl rfl (fun H h => ⟨md_A1, _, _, h.2.1, by omega, by decide, fun H1 o c => h.stw o c⟩) ?_
    exact mw_vret X rfl rfl (fun H h => ⟨rfl, by rw [show mo_hold W p k v = upd (upd (upd (upd V (471 + 3 * 11) (nI p)) (471 + 3 * 11 + 1) (nI k)) (471 + 3 * 11 + 2) v) (12) ((nI 11) + (nI 1)) from by exact ml_hold_full hn hV]; exact h⟩)
set_option maxHeartbeats 4000000 in
set_option maxRecDepth 20000 in
theorem cm_goes0 {l : Launch} {Γ : mw_C} {mb : Nat} (hmb : Γ.2.2.2 ≤ mb) {W : Nat → Int32} {ρ : md_R} {H : Heap} {p k : Nat} {v : Int32} (hH : md_I Γ mb W ρ H) (hc : iv_c W) (hp : p < 5) (hk : k < 6) : mw_Cr l Γ mX5_goes 3 0 0 (md_A mb) [.ref mb, .int (nI 0), .int (nI p), .int (nI k), .int v] H none (md_I Γ mb (mo_goes W 0 p k v) ρ) := by
  have hr := ml_i11 hc
  have hr2 := ml_n24 hc
  have hn := ml_i12 hc
  have hn2 := ml_n12 hc
  refine mw_ofG (P := pX5_goes) (by decide) (md_As hmb) oX5_goes (Nat.le_of_ble_eq_true rfl) ?_
  intro pg e0 sg mg below meth cd X hs
  refine mw_pre (I' := md_I Γ mb W ρ) (fun H1 h1 => by rw [h1]; exact hH) ?_
  refine mw_steps X 1 (pc' := 1) (lv' := [(0, .ref mb), (1, .int (nI 0)), (2, .int (nI p)), (3, .int (nI k)), (4, .int v)]) (st' := [.int (nI 0)]) rfl ?_
  refine mw_if_eq X 13 rfl rfl (fun c1 => ?_) (fun c1 => absurd (by decide) c1)
  refine mw_steps X 5 (pc' := 19) (lv' := [(0, .ref mb), (1, .int (nI 0)), (2, .int (nI p)), (3, .int (nI k)), (4, .int v)]) (st' := [.int v, .int (nI k), .int (nI p), .int (nI 0), .ref mb]) rfl ?_
  refine mw_cV4v X kd_X5_send kv_X5_send kl_X5_37 (ci := 5) rfl rfl (Nat.le_of_ble_eq_true rfl) ⟨Nat.le_of_ble_eq_true rfl, Nat.le_of_ble_eq_true rfl⟩ ⟨Nat.le_of_ble_eq_true rfl, Nat.le_of_ble_eq_true rfl⟩ (fun _ h => h) (fun H h => ⟨⟨_, h.1⟩, cm_send0 hmb h hp hk hr hr2⟩) ?_
  refine mw_steps X 1 (pc' := 33) (lv' := [(0, .ref mb), (1, .int (nI 0)), (2, .int (nI p)), (3, .int (nI k)), (4, .int v)]) (st' := []) rfl ?_
  exact mw_vret X rfl rfl (fun H h => ⟨rfl, by rw [show mo_goes W 0 p k v = mo_send W 0 p k v from by exact ml_goes_send0]; exact h⟩)
set_option maxHeartbeats 4000000 in
set_option maxRecDepth 20000 in
theorem cm_goes1 {l : Launch} {Γ : mw_C} {mb : Nat} (hmb : Γ.2.2.2 ≤ mb) {W : Nat → Int32} {ρ : md_R} {H : Heap} {p k : Nat} {v : Int32} (hH : md_I Γ mb W ρ H) (hc : iv_c W) (hp : p < 5) (hk : k < 6) : mw_Cr l Γ mX5_goes 3 0 0 (md_A mb) [.ref mb, .int (nI 1), .int (nI p), .int (nI k), .int v] H none (md_I Γ mb (mo_goes W 1 p k v) ρ) := by
  have hr := ml_i11 hc
  have hr2 := ml_n24 hc
  have hn := ml_i12 hc
  have hn2 := ml_n12 hc
  refine mw_ofG (P := pX5_goes) (by decide) (md_As hmb) oX5_goes (Nat.le_of_ble_eq_true rfl) ?_
  intro pg e0 sg mg below meth cd X hs
  refine mw_pre (I' := md_I Γ mb W ρ) (fun H1 h1 => by rw [h1]; exact hH) ?_
  refine mw_steps X 1 (pc' := 1) (lv' := [(0, .ref mb), (1, .int (nI 1)), (2, .int (nI p)), (3, .int (nI k)), (4, .int v)]) (st' := [.int (nI 1)]) rfl ?_
  refine mw_if_eq X 13 rfl rfl (fun c1 => absurd c1 (by decide)) (fun c1 => ?_)
  refine mw_steps X 3 (pc' := 7) (lv' := [(0, .ref mb), (1, .int (nI 1)), (2, .int (nI p)), (3, .int (nI k)), (4, .int v)]) (st' := [.int (nI k), .int (nI p), .ref mb]) rfl ?_
  refine mw_cV2r X kd_X5_maySend kv_X5_maySend kl_X5_33 (ci := 5) rfl rfl (Nat.le_of_ble_eq_true rfl) ⟨Nat.le_of_ble_eq_true rfl, Nat.le_of_ble_eq_true rfl⟩ ⟨Nat.le_of_ble_eq_true rfl, Nat.le_of_ble_eq_true rfl⟩ (fun _ h => h) (fun H h => ⟨⟨_, h.1⟩, cm_may hmb h hp hk⟩) ?_
  refine mw_if_eq X 25 rfl rfl (fun c10 => ?_) (fun c10 => ?_)
  · refine mw_steps X 4 (pc' := 30) (lv' := [(0, .ref mb), (1, .int (nI 1)), (2, .int (nI p)), (3, .int (nI k)), (4, .int v)]) (st' := [.int v, .int (nI k), .int (nI p), .ref mb]) rfl ?_
    refine mw_cV3v X kd_X5_hold kv_X5_hold kl_X5_40 (ci := 5) rfl rfl (Nat.le_of_ble_eq_true rfl) ⟨Nat.le_of_ble_eq_true rfl, Nat.le_of_ble_eq_true rfl⟩ ⟨Nat.le_of_ble_eq_true rfl, Nat.le_of_ble_eq_true rfl⟩ (fun _ h => h) (fun H h => ⟨⟨_, h.1⟩, cm_hold hmb h hp hk hn hn2⟩) ?_
    exact mw_vret X rfl rfl (fun H h => ⟨rfl, by rw [show mo_goes W 1 p k v = mo_hold W p k v from by exact ml_goes_hold (mo_b_z c10)]; exact h⟩)
  · refine mw_steps X 5 (pc' := 19) (lv' := [(0, .ref mb), (1, .int (nI 1)), (2, .int (nI p)), (3, .int (nI k)), (4, .int v)]) (st' := [.int v, .int (nI k), .int (nI p), .int (nI 1), .ref mb]) rfl ?_
    refine mw_cV4v X kd_X5_send kv_X5_send kl_X5_37 (ci := 5) rfl rfl (Nat.le_of_ble_eq_true rfl) ⟨Nat.le_of_ble_eq_true rfl, Nat.le_of_ble_eq_true rfl⟩ ⟨Nat.le_of_ble_eq_true rfl, Nat.le_of_ble_eq_true rfl⟩ (fun _ h => h) (fun H h => ⟨⟨_, h.1⟩, cm_send1 hmb h hp hk hr hr2⟩) ?_
    refine mw_steps X 1 (pc' := 33) (lv' := [(0, .ref mb), (1, .int (nI 1)), (2, .int (nI p)), (3, .int (nI k)), (4, .int v)]) (st' := []) rfl ?_
    exact mw_vret X rfl rfl (fun H h => ⟨rfl, by rw [show mo_goes W 1 p k v = mo_send W 1 p k v from by exact ml_goes_send (mo_b_nz c10)]; exact h⟩)
theorem cm_goes {l : Launch} {Γ : mw_C} {mb : Nat} (hmb : Γ.2.2.2 ≤ mb) {W : Nat → Int32} {ρ : md_R} {H : Heap} {e p k : Nat} {v : Int32} (hH : md_I Γ mb W ρ H) (hc : iv_c W) (he : e < 2) (hp : p < 5) (hk : k < 6) : mw_Cr l Γ mX5_goes 3 0 0 (md_A mb) [.ref mb, .int (nI e), .int (nI p), .int (nI k), .int v] H none (md_I Γ mb (mo_goes W e p k v) ρ) := by
  rcases (show e = 0 ∨ e = 1 by omega) with rfl | rfl
  · exact cm_goes0 hmb hH hc hp hk
  · exact cm_goes1 hmb hH hc hp hk
set_option maxHeartbeats 4000000 in
set_option maxRecDepth 20000 in
theorem cm_fh {l : Launch} {Γ : mw_C} {mb : Nat} (hmb : Γ.2.2.2 ≤ mb) {W : Nat → Int32} {ρ : md_R} {H : Heap} {p n : Nat} (hH : md_I Γ mb W ρ H) (hn : W 12 = nI n) (hn2 : n ≤ 12) : mw_Cr l Γ mX5_firstHeld 1 0 0 (md_A mb) [.ref mb, .int (nI p)] H (some (.int (mo_ix (mo_fh W p) n))) (md_I Γ mb W ρ) := by
  refine mw_ofG (P := pX5_firstHeld) (by decide) (md_As hmb) oX5_firstHeld (Nat.le_of_ble_eq_true rfl) ?_
  intro pg e0 sg mg below meth cd X hs
  refine mw_pre (I' := md_I Γ mb W ρ) (fun H1 h1 => by rw [h1]; exact hH) ?_
  refine mw_steps X 2 (pc' := 2) (lv' := [(2, .int (nI 0)), (0, .ref mb), (1, .int (nI p))]) (st' := []) rfl ?_
  refine mw_wf (fun t => n - t) (fun t => t ≤ n ∧ ∀ j, j < t → ¬ W (471 + 3 * j) = nI p) (fun _ => md_I Γ mb W ρ) (fun t => [(2, .int (nI t)), (0, .ref mb), (1, .int (nI p))]) (fun t ht ih => ?_) 0 ⟨Nat.zero_le _, fun j hj => absurd hj (Nat.not_lt_zero j)⟩
  obtain ⟨ht, hno⟩ := ht
  refine mw_steps X 2 (pc' := 4) (lv' := [(2, .int (nI t)), (0, .ref mb), (1, .int (nI p))]) (st' := [.ref mb, .int (nI t)]) rfl ?_
  refine mw_get X kf_X5_7.fl kc_5 rfl (v := .ref (mb + 1)) (fun H h => ⟨_, h.1, rfl⟩) ?_
  refine mw_steps X 1 (pc' := 9) (lv' := [(2, .int (nI t)), (0, .ref mb), (1, .int (nI p))]) (st' := [.int (nI 12), .ref (mb + 1), .int (nI t)]) rfl ?_
  refine mw_iald X (v := nI n) (12) rfl rfl (fun H h => ⟨_, _, h.2.1, by omega, by decide, hn⟩) ?_
  refine mw_icmp_ge X 37 rfl rfl (fun c10 => ?_) (fun c10 => ?_)
  · have htn : t = n := by rw [nI_leI (by omega) (by omega)] at c10; omega
    refine mw_steps X 1 (pc' := 38) (lv' := [(2, .int (nI t)), (0, .ref mb), (1, .int (nI p))]) (st' := [.int (-1)]) rfl ?_
    exact mw_iret X rfl rfl (fun H h => ⟨congrArg (fun z => some (Value.int z)) (by subst htn; unfold mo_ix; rw [ml_fh_none hn hn2 hno, if_neg (by omega)]), h⟩)
  · have htn : t < n := by rw [nI_leI (by omega) (by omega)] at c10; omega
    refine mw_steps X 1 (pc' := 14) (lv' := [(2, .int (nI t)), (0, .ref mb), (1, .int (nI p))]) (st' := [.ref mb]) rfl ?_
    refine mw_get X kf_X5_7.fl kc_5 rfl (v := .ref (mb + 1)) (fun H h => ⟨_, h.1, rfl⟩) ?_
    refine mw_steps X 5 (pc' := 24) (lv' := [(2, .int (nI t)), (0, .ref mb), (1, .int (nI p))]) (st' := [.int ((nI 471) + ((nI 3) * (nI t))), .ref (mb + 1)]) rfl ?_
    refine mw_iald X (v := W (471 + 3 * t)) (471 + 3 * t) (by simp only [nI_add, pk_mul]) rfl (fun H h => ⟨_, _, h.2.1, by omega, by decide, rfl⟩) ?_
    refine mw_steps X 1 (pc' := 26) (lv' := [(2, .int (nI t)), (0, .ref mb), (1, .int (nI p))]) (st' := [.int (nI p), .int (W (471 + 3 * t))]) rfl ?_
    refine mw_icmp_ne X 31 rfl rfl (fun c26 => ?_) (fun c26 => ?_)
    · refine mw_steps X 2 (pc' := 2) (lv' := [(2, .int ((nI t) + (nI 1))), (0, .ref mb), (1, .int (nI p))]) (st' := []) rfl ?_
      refine mw_lveq (lv' := [(2, .int (nI (t + 1))), (0, .ref mb), (1, .int (nI p))]) (by simp only [nI_add]) ?_
      exact ih (t + 1) ⟨by omega, ml_succ hno c26⟩ (by omega)
    · refine mw_steps X 1 (pc' := 30) (lv' := [(2, .int (nI t)), (0, .ref mb), (1, .int (nI p))]) (st' := [.int (nI t)]) rfl ?_
      exact mw_iret X rfl rfl (fun H h => ⟨congrArg (fun z => some (Value.int z)) (by unfold mo_ix; rw [ml_fh_is hn hn2 htn c26 hno, if_pos htn]), h⟩)
set_option maxHeartbeats 4000000 in
set_option maxRecDepth 20000 in
theorem cm_letOut {l : Launch} {Γ : mw_C} {mb : Nat} (hmb : Γ.2.2.2 ≤ mb) {W : Nat → Int32} {ρ : md_R} {H : Heap} {p c : Nat} (hH : md_I Γ mb W ρ H) (hv : iv (c + 12) W) (hp : p < 5) : mw_Cr l Γ mX5_letOut 3 0 0 (md_A mb) [.ref mb, .int (nI p)] H none (md_I Γ mb (mo_letOut W p) ρ) := by
  refine mw_ofG (P := pX5_letOut) (by decide) (md_As hmb) oX5_letOut (Nat.le_of_ble_eq_true rfl) ?_
  intro pg e0 sg mg below meth cd X hs
  refine mw_pre (I' := md_I Γ mb W ρ) (fun H1 h1 => by rw [h1]; exact hH) ?_
  refine mw_steps X 2 (pc' := 2) (lv' := [(0, .ref mb), (1, .int (nI p))]) (st' := [.int (nI p), .ref mb]) rfl ?_
  refine mw_cV1r X kd_X5_firstHeld kv_X5_firstHeld kl_X5_44 (ci := 5) rfl rfl (Nat.le_of_ble_eq_true rfl) ⟨Nat.le_of_ble_eq_true rfl, Nat.le_of_ble_eq_true rfl⟩ ⟨Nat.le_of_ble_eq_true rfl, Nat.le_of_ble_eq_true rfl⟩ (fun _ h => h) (fun H h => ⟨⟨_, h.1⟩, cm_fh hmb h (ml_i12 hv.1) (ml_n12 hv.1)⟩) ?_
  refine mw_steps X 1 (pc' := 6) (lv' := [(2, .int (mo_ix (mo_fh W p) (mo_n (W 12)))), (0, .ref mb), (1, .int (nI p))]) (st' := []) rfl ?_
  refine mw_wf (σ := Nat → Int32) (fun V => mo_n (V 12)) (fun V => iv (mo_n (V 12)) V ∧ mo_lo p (mo_n (V 12)) V = mo_letOut W p) (fun V => md_I Γ mb V ρ) (fun V => [(2, .int (mo_ix (mo_fh V p) (mo_n (V 12)))), (0, .ref mb), (1, .int (nI p))]) (fun V hV ih => ?_) W ⟨hv.less (by have := ml_n12 hv.1; omega), rfl⟩
  obtain ⟨hv, hlo⟩ := hV
  have hc := hv.1
  have hn := ml_i12 hc
  have hn2 := ml_n12 hc
  by_cases hf : mo_fh V p < mo_n (V 12)
  · have hix : mo_ix (mo_fh V p) (mo_n (V 12)) = nI (mo_fh V p) := if_pos hf
    rw [hix]
    obtain ⟨q, kd, -, hkd, -, hkk, hvv⟩ := hv.2.2.2.1 _ hf
    obtain ⟨k, hk⟩ : ∃ k, k = mo_fh V p := ⟨_, rfl⟩
    rw [← hk] at hf hkk hvv ⊢
    obtain ⟨r, hr⟩ : ∃ r, mo_n (V 12) = r + 1 := ⟨mo_n (V 12) - 1, by omega⟩
    have hlo2 : mo_lo p (r + 1) V = mo_letOut W p := by rw [← hr]; exact hlo
    unfold mo_lo at hlo2
    rw [← hk, if_pos hf, hkk, ml_n (by omega)] at hlo2
    refine mw_steps X 1 (pc' := 7) (lv' := [(2, .int (nI k)), (0, .ref mb), (1, .int (nI p))]) (st' := [.int (nI k)]) rfl ?_
    refine mw_if_lt X 92 rfl rfl (fun c7 => absurd c7 (nI_pos (by omega))) (fun c7 => ?_)
    refine mw_steps X 3 (pc' := 13) (lv' := [(2, .int (nI k)), (0, .ref mb), (1, .int (nI p))]) (st' := [.ref mb, .int (nI p), .ref mb]) rfl ?_
    refine mw_get X kf_X5_7.fl kc_5 rfl (v := .ref (mb + 1)) (fun H h => ⟨_, h.1, rfl⟩) ?_
    refine mw_steps X 7 (pc' := 25) (lv' := [(2, .int (nI k)), (0, .ref mb), (1, .int (nI p))]) (st' := [.int (((nI 471) + ((nI 3) * (nI k))) + (nI 1)), .ref (mb + 1), .int (nI p), .ref mb]) rfl ?_
    refine mw_iald X (v := nI kd) (471 + 3 * k + 1) (by simp only [nI_add, pk_mul]) rfl (fun H h => ⟨_, _, h.2.1, by omega, by decide, hkk⟩) ?_
    refine mw_cV2r X kd_X5_maySend kv_X5_maySend kl_X5_33 (ci := 5) rfl rfl (Nat.le_of_ble_eq_true rfl) ⟨Nat.le_of_ble_eq_true rfl, Nat.le_of_ble_eq_true rfl⟩ ⟨Nat.le_of_ble_eq_true rfl, Nat.le_of_ble_eq_true rfl⟩ (fun _ h => h) (fun H h => ⟨⟨_, h.1⟩, cm_may hmb h hp hkd⟩) ?_
    refine mw_if_eq X 92 rfl rfl (fun c29 => ?_) (fun c29 => ?_)
    · exact mw_vret X rfl rfl (fun H h => ⟨rfl, by rw [if_neg (by rw [mo_b_z c29]; decide)] at hlo2; rw [← hlo2]; exact h⟩)
    · rw [if_pos (mo_b_nz c29)] at hlo2
      have hrm := iv_rmh hv hf
      refine mw_steps X 1 (pc' := 33) (lv' := [(2, .int (nI k)), (0, .ref mb), (1, .int (nI p))]) (st' := [.ref mb]) rfl ?_
      refine mw_get X kf_X5_7.fl kc_5 rfl (v := .ref (mb + 1)) (fun H h => ⟨_, h.1, rfl⟩) ?_
      refine mw_steps X 7 (pc' := 45) (lv' := [(2, .int (nI k)), (0, .ref mb), (1, .int (nI p))]) (st' := [.int (((nI 471) + ((nI 3) * (nI k))) + (nI 1)), .ref (mb + 1)]) rfl ?_
      refine mw_iald X (v := nI kd) (471 + 3 * k + 1) (by simp only [nI_add, pk_mul]) rfl (fun H h => ⟨_, _, h.2.1, by omega, by decide, hkk⟩) ?_
      refine mw_steps X 2 (pc' := 48) (lv' := [(3, .int (nI kd)), (2, .int (nI k)), (0, .ref mb), (1, .int (nI p))]) (st' := [.ref mb]) rfl ?_
      refine mw_get X kf_X5_7.fl kc_5 rfl (v := .ref (mb + 1)) (fun H h => ⟨_, h.1, rfl⟩) ?_
      refine mw_steps X 7 (pc' := 60) (lv' := [(3, .int (nI kd)), (2, .int (nI k)), (0, .ref mb), (1, .int (nI p))]) (st' := [.int (((nI 471) + ((nI 3) * (nI k))) + (nI 2)), .ref (mb + 1)]) rfl ?_
      refine mw_iald X (v := V (471 + 3 * k + 2)) (471 + 3 * k + 2) (by simp only [nI_add, pk_mul]) rfl (fun H h => ⟨_, _, h.2.1, by omega, by decide, rfl⟩) ?_
      refine mw_steps X 6 (pc' := 71) (lv' := [(4, .int (V (471 + 3 * k + 2))), (3, .int (nI kd)), (2, .int (nI k)), (0, .ref mb), (1, .int (nI p))]) (st' := [.int (nI k), .int (nI 12), .int (nI 3), .int (nI 471), .ref mb]) rfl ?_
      refine mw_cV4v X kd_X5_removeAt kv_X5_removeAt kl_X5_29 (ci := 5) rfl rfl (Nat.le_of_ble_eq_true rfl) ⟨Nat.le_of_ble_eq_true rfl, Nat.le_of_ble_eq_true rfl⟩ ⟨Nat.le_of_ble_eq_true rfl, Nat.le_of_ble_eq_true rfl⟩ (fun _ h => h) (fun H h => ⟨⟨_, h.1⟩, cm_removeAt hmb h (f := 471) (z := 3) (q := 12) hn (by omega) (by omega) (by omega) (by omega) (by omega)⟩) ?_
      refine mw_steps X 5 (pc' := 80) (lv' := [(4, .int (V (471 + 3 * k + 2))), (3, .int (nI kd)), (2, .int (nI k)), (0, .ref mb), (1, .int (nI p))]) (st' := [.int (V (471 + 3 * k + 2)), .int (nI kd), .int (nI p), .int (nI 1), .ref mb]) rfl ?_
      refine mw_cV4v X kd_X5_send kv_X5_send kl_X5_37 (ci := 5) rfl rfl (Nat.le_of_ble_eq_true rfl) ⟨Nat.le_of_ble_eq_true rfl, Nat.le_of_ble_eq_true rfl⟩ ⟨Nat.le_of_ble_eq_true rfl, Nat.le_of_ble_eq_true rfl⟩ (fun _ h => h) (fun H h => ⟨⟨_, h.1⟩, cm_send1 hmb h hp hkd (ml_i11 hrm.1) (ml_n24 hrm.1)⟩) ?_
      obtain ⟨V2, hV2⟩ : ∃ V2, V2 = mo_send (mo_rm V 471 3 12 k) 1 p kd (V (471 + 3 * k + 2)) := ⟨_, rfl⟩
      rw [← hV2] at hlo2 ⊢
      have hi2 : iv r V2 := by rw [hV2]; exact iv_send (c := r) (by rw [← hr]; exact hrm) (by omega) hp hkd hvv
      have h12 : mo_n (V2 12) = r := by rw [hV2, ml_send_12 hrm.1 (by omega) hp, ml_rmh_q hn (by omega), ml_n (by omega)]; omega
      refine mw_steps X 2 (pc' := 85) (lv' := [(4, .int (V (471 + 3 * k + 2))), (3, .int (nI kd)), (2, .int (nI k)), (0, .ref mb), (1, .int (nI p))]) (st' := [.int (nI p), .ref mb]) rfl ?_
      refine mw_cV1r X kd_X5_firstHeld kv_X5_firstHeld kl_X5_44 (ci := 5) rfl rfl (Nat.le_of_ble_eq_true rfl) ⟨Nat.le_of_ble_eq_true rfl, Nat.le_of_ble_eq_true rfl⟩ ⟨Nat.le_of_ble_eq_true rfl, Nat.le_of_ble_eq_true rfl⟩ (fun _ h => h) (fun H h => ⟨⟨_, h.1⟩, cm_fh hmb h (ml_i12 hi2.1) (ml_n12 hi2.1)⟩) ?_
      refine mw_steps X 2 (pc' := 6) (lv' := [(2, .int (mo_ix (mo_fh V2 p) (mo_n (V2 12)))), (4, .int (V (471 + 3 * k + 2))), (3, .int (nI kd)), (0, .ref mb), (1, .int (nI p))]) (st' := []) rfl ?_
      refine mw_lvs [0, 3, 4] rfl ?_
      exact ih V2 ⟨by rw [h12]; exact hi2, by rw [h12]; exact hlo2⟩ (by omega)
  · have hix : mo_ix (mo_fh V p) (mo_n (V 12)) = -1 := if_neg hf
    rw [hix]
    have hlo2 : V = mo_letOut W p := by
      rw [← hlo]
      cases hz : mo_n (V 12) with
      | zero => rfl
      | succ r => unfold mo_lo; rw [if_neg hf]
    refine mw_steps X 1 (pc' := 7) (lv' := [(2, .int (-1)), (0, .ref mb), (1, .int (nI p))]) (st' := [.int (-1)]) rfl ?_
    refine mw_if_lt X 92 rfl rfl (fun c7 => ?_) (fun c7 => absurd (by decide) c7)
    exact mw_vret X rfl rfl (fun H h => ⟨rfl, by rw [← hlo2]; exact h⟩)
end
section
set_option maxHeartbeats 4000000 in
set_option maxRecDepth 20000 in
theorem cm_challenge {l : Launch} {Γ : mw_C} {mb : Nat} (hmb : Γ.2.2.2 ≤ mb) {W : Nat → Int32} {ρ : md_R} {H : Heap} {e p c : Nat} (hH : md_I Γ mb W ρ H) (hv : iv c W) (he : e < 2) (hp : p < 5) : mw_Cr l Γ mX5_challengeNow 4 0 0 (md_A mb) [.ref mb, .int (nI e), .int (nI p)] H none (md_I Γ mb (mo_challenge W e p) ρ) := by
  have hc := hv.1
  obtain ⟨n, hn2, hn⟩ := hc.2.2
  refine mw_ofG (P := pX5_challengeNow) (by decide) (md_As hmb) oX5_challengeNow (Nat.le_of_ble_eq_true rfl) ?_
  intro pg e0 sg mg below meth cd X hs
  refine mw_pre (I' := md_I Γ mb W ρ) (fun H1 h1 => by rw [h1]; exact hH) ?_
  refine mw_steps X 1 (pc' := 1) (lv' := [(0, .ref mb), (1, .int (nI e)), (2, .int (nI p))]) (st' := [.ref mb]) rfl ?_
  refine mw_get X kf_X5_7.fl kc_5 rfl (v := .ref (mb + 1)) (fun H h => ⟨_, h.1, rfl⟩) ?_
  refine mw_steps X 1 (pc' := 6) (lv' := [(0, .ref mb), (1, .int (nI e)), (2, .int (nI p))]) (st' := [.int (nI 13), .ref (mb + 1)]) rfl ?_
  refine mw_iald X (v := nI n) (13) rfl rfl (fun H h => ⟨_, _, h.2.1, by omega, by decide, hn⟩) ?_
  refine mw_steps X 1 (pc' := 9) (lv' := [(0, .ref mb), (1, .int (nI e)), (2, .int (nI p))]) (st' := [.int (nI 6), .int (nI n)]) rfl ?_
  refine mw_icmp_ne X 23 rfl rfl (fun c9 => ?_) (fun c9 => ?_)
  · refine mw_steps X 3 (pc' := 28) (lv' := [(0, .ref mb), (1, .int (nI e)), (2, .int (nI p))]) (st' := [.ref mb, .int (nI 5), .int (nI 507)]) rfl ?_
    refine mw_get X kf_X5_7.fl kc_5 rfl (v := .ref (mb + 1)) (fun H h => ⟨_, h.1, rfl⟩) ?_
    refine mw_steps X 1 (pc' := 33) (lv' := [(0, .ref mb), (1, .int (nI e)), (2, .int (nI p))]) (st' := [.int (nI 13), .ref (mb + 1), .int (nI 5), .int (nI 507)]) rfl ?_
    refine mw_iald X (v := nI n) (13) rfl rfl (fun H h => ⟨_, _, h.2.1, by omega, by decide, hn⟩) ?_
    refine mw_steps X 4 (pc' := 38) (lv' := [(3, .int ((nI 507) + ((nI 5) * (nI n)))), (0, .ref mb), (1, .int (nI e)), (2, .int (nI p))]) (st' := [.ref mb]) rfl ?_
    refine mw_get X kf_X5_7.fl kc_5 rfl (v := .ref (mb + 1)) (fun H h => ⟨_, h.1, rfl⟩) ?_
    refine mw_steps X 3 (pc' := 45) (lv' := [(3, .int ((nI 507) + ((nI 5) * (nI n)))), (0, .ref mb), (1, .int (nI e)), (2, .int (nI p))]) (st' := [.int ((nI 16) + (nI e)), .ref (mb + 1)]) rfl ?_
    refine mw_iald X (v := W (16 + e)) (16 + e) (by simp only [nI_add, pk_mul]) rfl (fun H h => ⟨_, _, h.2.1, by omega, by decide, rfl⟩) ?_
    refine mw_steps X 2 (pc' := 49) (lv' := [(4, .int (W (16 + e))), (3, .int ((nI 507) + ((nI 5) * (nI n)))), (0, .ref mb), (1, .int (nI e)), (2, .int (nI p))]) (st' := [.ref mb]) rfl ?_
    refine mw_get X kf_X5_7.fl kc_5 rfl (v := .ref (mb + 1)) (fun H h => ⟨_, h.1, rfl⟩) ?_
    refine mw_steps X 4 (pc' := 57) (lv' := [(4, .int (W (16 + e))), (3, .int ((nI 507) + ((nI 5) * (nI n)))), (0, .ref mb), (1, .int (nI e)), (2, .int (nI p))]) (st' := [.int ((nI 16) + (nI e)), .ref (mb + 1), .int ((nI 16) + (nI e)), .ref (mb + 1)]) rfl ?_
    refine mw_iald X (v := W (16 + e)) (16 + e) (by simp only [nI_add, pk_mul]) rfl (fun H h => ⟨_, _, h.2.1, by omega, by decide, rfl⟩) ?_
    refine mw_steps X 2 (pc' := 60) (lv' := [(4, .int (W (16 + e))), (3, .int ((nI 507) + ((nI 5) * (nI n)))), (0, .ref mb), (1, .int (nI e)), (2, .int (nI p))]) (st' := [.int ((W (16 + e)) + (nI 1)), .int ((nI 16) + (nI e)), .ref (mb + 1)]) rfl ?_
    refine mw_iast X (I1 := md_I Γ mb (upd W (16 + e) ((W (16 + e)) + (nI 1))) ρ) (16 + e) (by simp only [nI_add, pk_mul]) rfl (fun H h => ⟨md_A1, _, _, h.2.1, by omega, by decide, fun H1 o c => h.stw o c⟩) ?_
    refine mw_steps X 1 (pc' := 62) (lv' := [(4, .int (W (16 + e))), (3, .int ((nI 507) + ((nI 5) * (nI n)))), (0, .ref mb), (1, .int (nI e)), (2, .int (nI p))]) (st' := [.ref mb]) rfl ?_
    refine mw_get X kf_X5_7.fl kc_5 rfl (v := .ref (mb + 1)) (fun H h => ⟨_, h.1, rfl⟩) ?_
    refine mw_steps X 2 (pc' := 67) (lv' := [(4, .int (W (16 + e))), (3, .int ((nI 507) + ((nI 5) * (nI n)))), (0, .ref mb), (1, .int (nI e)), (2, .int (nI p))]) (st' := [.int (nI e), .int ((nI 507) + ((nI 5) * (nI n))), .ref (mb + 1)]) rfl ?_
    refine mw_iast X (I1 := md_I Γ mb (upd (upd W (16 + e) ((W (16 + e)) + (nI 1))) (507 + 5 * n) (nI e)) ρ) (507 + 5 * n) (by simp only [nI_add, pk_mul]) rfl (fun H h => ⟨md_A1, _, _, h.2.1, by omega, by decide, fun H1 o c => h.stw o c⟩) ?_
    refine mw_steps X 1 (pc' := 69) (lv' := [(4, .int (W (16 + e))), (3, .int ((nI 507) + ((nI 5) * (nI n)))), (0, .ref mb), (1, .int (nI e)), (2, .int (nI p))]) (st' := [.ref mb]) rfl ?_
    refine mw_get X kf_X5_7.fl kc_5 rfl (v := .ref (mb + 1)) (fun H h => ⟨_, h.1, rfl⟩) ?_
    refine mw_steps X 4 (pc' := 77) (lv' := [(4, .int (W (16 + e))), (3, .int ((nI 507) + ((nI 5) * (nI n)))), (0, .ref mb), (1, .int (nI e)), (2, .int (nI p))]) (st' := [.int (W (16 + e)), .int (((nI 507) + ((nI 5) * (nI n))) + (nI 1)), .ref (mb + 1)]) rfl ?_
    refine mw_iast X (I1 := md_I Γ mb (upd (upd (upd W (16 + e) ((W (16 + e)) + (nI 1))) (507 + 5 * n) (nI e)) (507 + 5 * n + 1) (W (16 + e))) ρ) (507 + 5 * n + 1) (by simp only [nI_add, pk_mul]) rfl (fun H h => ⟨md_A1, _, _, h.2.1, by omega, by decide, fun H1 o c => h.stw o c⟩) ?_
    refine mw_steps X 1 (pc' := 79) (lv' := [(4, .int (W (16 + e))), (3, .int ((nI 507) + ((nI 5) * (nI n)))), (0, .ref mb), (1, .int (nI e)), (2, .int (nI p))]) (st' := [.ref mb]) rfl ?_
    refine mw_get X kf_X5_7.fl kc_5 rfl (v := .ref (mb + 1)) (fun H h => ⟨_, h.1, rfl⟩) ?_
    refine mw_steps X 4 (pc' := 86) (lv' := [(4, .int (W (16 + e))), (3, .int ((nI 507) + ((nI 5) * (nI n)))), (0, .ref mb), (1, .int (nI e)), (2, .int (nI p))]) (st' := [.int (nI p), .int (((nI 507) + ((nI 5) * (nI n))) + (nI 2)), .ref (mb + 1)]) rfl ?_
    refine mw_iast X (I1 := md_I Γ mb (upd (upd (upd (upd W (16 + e) ((W (16 + e)) + (nI 1))) (507 + 5 * n) (nI e)) (507 + 5 * n + 1) (W (16 + e))) (507 + 5 * n + 2) (nI p)) ρ) (507 + 5 * n + 2) (by simp only [nI_add, pk_mul]) rfl (fun H h => ⟨md_A1, _, _, h.2.1, by omega, by decide, fun H1 o c => h.stw o c⟩) ?_
    refine mw_steps X 1 (pc' := 88) (lv' := [(4, .int (W (16 + e))), (3, .int ((nI 507) + ((nI 5) * (nI n)))), (0, .ref mb), (1, .int (nI e)), (2, .int (nI p))]) (st' := [.ref mb]) rfl ?_
    refine mw_get X kf_X5_7.fl kc_5 rfl (v := .ref (mb + 1)) (fun H h => ⟨_, h.1, rfl⟩) ?_
    refine mw_steps X 4 (pc' := 95) (lv' := [(4, .int (W (16 + e))), (3, .int ((nI 507) + ((nI 5) * (nI n)))), (0, .ref mb), (1, .int (nI e)), (2, .int (nI p))]) (st' := [.ref mb, .int (((nI 507) + ((nI 5) * (nI n))) + (nI 3)), .ref (mb + 1)]) rfl ?_
    refine mw_get X kf_X5_7.fl kc_5 rfl (v := .ref (mb + 1)) (fun H h => ⟨_, h.1, rfl⟩) ?_
    refine mw_steps X 1 (pc' := 99) (lv' := [(4, .int (W (16 + e))), (3, .int ((nI 507) + ((nI 5) * (nI n)))), (0, .ref mb), (1, .int (nI e)), (2, .int (nI p))]) (st' := [.int (nI 0), .ref (mb + 1), .int (((nI 507) + ((nI 5) * (nI n))) + (nI 3)), .ref (mb + 1)]) rfl ?_
    refine mw_iald X (v := W (0)) (0) rfl rfl (fun H h => ⟨_, _, h.2.1, by omega, by decide, (by simp (disch := omega) only [pk_un])⟩) ?_
    refine mw_iast X (I1 := md_I Γ mb (upd (upd (upd (upd (upd W (16 + e) ((W (16 + e)) + (nI 1))) (507 + 5 * n) (nI e)) (507 + 5 * n + 1) (W (16 + e))) (507 + 5 * n + 2) (nI p)) (507 + 5 * n + 3) (W (0))) ρ) (507 + 5 * n + 3) (by simp only [nI_add, pk_mul]) rfl (fun H h => ⟨md_A1, _, _, h.2.1, by omega, by decide, fun H1 o c => h.stw o c⟩) ?_
    refine mw_steps X 1 (pc' := 102) (lv' := [(4, .int (W (16 + e))), (3, .int ((nI 507) + ((nI 5) * (nI n)))), (0, .ref mb), (1, .int (nI e)), (2, .int (nI p))]) (st' := [.ref mb]) rfl ?_
    refine mw_get X kf_X5_7.fl kc_5 rfl (v := .ref (mb + 1)) (fun H h => ⟨_, h.1, rfl⟩) ?_
    refine mw_steps X 4 (pc' := 109) (lv' := [(4, .int (W (16 + e))), (3, .int ((nI 507) + ((nI 5) * (nI n)))), (0, .ref mb), (1, .int (nI e)), (2, .int (nI p))]) (st' := [.int (nI 0), .int (((nI 507) + ((nI 5) * (nI n))) + (nI 4)), .ref (mb + 1)]) rfl ?_
    refine mw_iast X (I1 := md_I Γ mb (upd (upd (upd (upd (upd (upd W (16 + e) ((W (16 + e)) + (nI 1))) (507 + 5 * n) (nI e)) (507 + 5 * n + 1) (W (16 + e))) (507 + 5 * n + 2) (nI p)) (507 + 5 * n + 3) (W (0))) (507 + 5 * n + 4) (nI 0)) ρ) (507 + 5 * n + 4) (by simp only [nI_add, pk_mul]) rfl (fun H h => ⟨md_A1, _, _, h.2.1, by omega, by decide, fun H1 o c => h.stw o c⟩) ?_
    refine mw_steps X 1 (pc' := 111) (lv' := [(4, .int (W (16 + e))), (3, .int ((nI 507) + ((nI 5) * (nI n)))), (0, .ref mb), (1, .int (nI e)), (2, .int (nI p))]) (st' := [.ref mb]) rfl ?_
    refine mw_get X kf_X5_7.fl kc_5 rfl (v := .ref (mb + 1)) (fun H h => ⟨_, h.1, rfl⟩) ?_
    refine mw_steps X 2 (pc' := 117) (lv' := [(4, .int (W (16 + e))), (3, .int ((nI 507) + ((nI 5) * (nI n)))), (0, .ref mb), (1, .int (nI e)), (2, .int (nI p))]) (st' := [.int (nI 13), .ref (mb + 1), .int (nI 13), .ref (mb + 1)]) rfl ?_
    refine mw_iald X (v := nI n) (13) rfl rfl (fun H h => ⟨_, _, h.2.1, by omega, by decide, (by simp (disch := omega) only [pk_un]; exact hn)⟩) ?_
    refine mw_steps X 2 (pc' := 120) (lv' := [(4, .int (W (16 + e))), (3, .int ((nI 507) + ((nI 5) * (nI n)))), (0, .ref mb), (1, .int (nI e)), (2, .int (nI p))]) (st' := [.int ((nI n) + (nI 1)), .int (nI 13), .ref (mb + 1)]) rfl ?_
    refine mw_iast X (I1 := md_I Γ mb (upd (upd (upd (upd (upd (upd (upd W (16 + e) ((W (16 + e)) + (nI 1))) (507 + 5 * n) (nI e)) (507 + 5 * n + 1) (W (16 + e))) (507 + 5 * n + 2) (nI p)) (507 + 5 * n + 3) (W (0))) (507 + 5 * n + 4) (nI 0)) (13) ((nI n) + (nI 1))) ρ) (13) rfl rfl (fun H h => ⟨md_A1, _, _, h.2.1, by omega, by decide, fun H1 o c => h.stw o c⟩) ?_
    refine mw_steps X 5 (pc' := 127) (lv' := [(4, .int (W (16 + e))), (3, .int ((nI 507) + ((nI 5) * (nI n)))), (0, .ref mb), (1, .int (nI e)), (2, .int (nI p))]) (st' := [.int (W (16 + e)), .int (nI 1), .int (nI p), .int (nI e), .ref mb]) rfl ?_
    rw [show upd (upd (upd (upd (upd (upd (upd W (16 + e) ((W (16 + e)) + (nI 1))) (507 + 5 * n) (nI e)) (507 + 5 * n + 1) (W (16 + e))) (507 + 5 * n + 2) (nI p)) (507 + 5 * n + 3) (W (0))) (507 + 5 * n + 4) (nI 0)) (13) ((nI n) + (nI 1)) = mo_ask W e p from Eq.symm (by exact ml_ask_add hn hn2 c9)]
    refine mw_cV4v X kd_X5_goes kv_X5_goes kl_X5_47 (ci := 5) rfl rfl (Nat.le_of_ble_eq_true rfl) ⟨Nat.le_of_ble_eq_true rfl, Nat.le_of_ble_eq_true rfl⟩ ⟨Nat.le_of_ble_eq_true rfl, Nat.le_of_ble_eq_true rfl⟩ (fun _ h => h) (fun H h => ⟨⟨_, h.1⟩, cm_goes hmb h (iv_ask hv he hp).1 he hp (by omega)⟩) ?_
    exact mw_vret X rfl rfl (fun H h => ⟨rfl, by rw [show mo_challenge W e p = mo_goes (mo_ask W e p) e p 1 (W (16 + e)) from by rfl]; exact h⟩)
  · have hn6 : n = 6 := (nI_eq (by omega) (by omega)).mp c9
    subst hn6
    refine mw_steps X 5 (pc' := 20) (lv' := [(0, .ref mb), (1, .int (nI e)), (2, .int (nI p))]) (st' := [.int (nI 0), .int (nI 13), .int (nI 5), .int (nI 507), .ref mb]) rfl ?_
    refine mw_cV4v X kd_X5_removeAt kv_X5_removeAt kl_X5_29 (ci := 5) rfl rfl (Nat.le_of_ble_eq_true rfl) ⟨Nat.le_of_ble_eq_true rfl, Nat.le_of_ble_eq_true rfl⟩ ⟨Nat.le_of_ble_eq_true rfl, Nat.le_of_ble_eq_true rfl⟩ (fun _ h => h) (fun H h => ⟨⟨_, h.1⟩, cm_removeAt hmb h (f := 507) (z := 5) (q := 13) hn (by omega) (by omega) (by omega) (by omega) (by omega)⟩) ?_
    obtain ⟨V, hV⟩ : ∃ V, V = mo_rm W 507 5 13 0 := ⟨_, rfl⟩
    rw [← hV]
    have hV13 : V 13 = nI 5 := by rw [hV]; exact ml_rma_q hn (by omega)
    have hV16 : V (16 + e) = W (16 + e) := by rw [hV]; exact ml_rma_out hn (by omega) (by omega) (by omega) (by omega)
    have hV0 : V 0 = W 0 := by rw [hV]; exact ml_rma_out hn (by omega) (by omega) (by omega) (by omega)
    refine mw_steps X 3 (pc' := 28) (lv' := [(0, .ref mb), (1, .int (nI e)), (2, .int (nI p))]) (st' := [.ref mb, .int (nI 5), .int (nI 507)]) rfl ?_
    refine mw_get X kf_X5_7.fl kc_5 rfl (v := .ref (mb + 1)) (fun H h => ⟨_, h.1, rfl⟩) ?_
    refine mw_steps X 1 (pc' := 33) (lv' := [(0, .ref mb), (1, .int (nI e)), (2, .int (nI p))]) (st' := [.int (nI 13), .ref (mb + 1), .int (nI 5), .int (nI 507)]) rfl ?_
    refine mw_iald X (v := nI 5) (13) rfl rfl (fun H h => ⟨_, _, h.2.1, by omega, by decide, hV13⟩) ?_
    refine mw_steps X 4 (pc' := 38) (lv' := [(3, .int ((nI 507) + ((nI 5) * (nI 5)))), (0, .ref mb), (1, .int (nI e)), (2, .int (nI p))]) (st' := [.ref mb]) rfl ?_
    refine mw_get X kf_X5_7.fl kc_5 rfl (v := .ref (mb + 1)) (fun H h => ⟨_, h.1, rfl⟩) ?_
    refine mw_steps X 3 (pc' := 45) (lv' := [(3, .int ((nI 507) + ((nI 5) * (nI 5)))), (0, .ref mb), (1, .int (nI e)), (2, .int (nI p))]) (st' := [.int ((nI 16) + (nI e)), .ref (mb + 1)]) rfl ?_
    refine mw_iald X (v := W (16 + e)) (16 + e) (by simp only [nI_add, pk_mul]) rfl (fun H h => ⟨_, _, h.2.1, by omega, by decide, hV16⟩) ?_
    refine mw_steps X 2 (pc' := 49) (lv' := [(4, .int (W (16 + e))), (3, .int ((nI 507) + ((nI 5) * (nI 5)))), (0, .ref mb), (1, .int (nI e)), (2, .int (nI p))]) (st' := [.ref mb]) rfl ?_
    refine mw_get X kf_X5_7.fl kc_5 rfl (v := .ref (mb + 1)) (fun H h => ⟨_, h.1, rfl⟩) ?_
    refine mw_steps X 4 (pc' := 57) (lv' := [(4, .int (W (16 + e))), (3, .int ((nI 507) + ((nI 5) * (nI 5)))), (0, .ref mb), (1, .int (nI e)), (2, .int (nI p))]) (st' := [.int ((nI 16) + (nI e)), .ref (mb + 1), .int ((nI 16) + (nI e)), .ref (mb + 1)]) rfl ?_
    refine mw_iald X (v := W (16 + e)) (16 + e) (by simp only [nI_add, pk_mul]) rfl (fun H h => ⟨_, _, h.2.1, by omega, by decide, hV16⟩) ?_
    refine mw_steps X 2 (pc' := 60) (lv' := [(4, .int (W (16 + e))), (3, .int ((nI 507) + ((nI 5) * (nI 5)))), (0, .ref mb), (1, .int (nI e)), (2, .int (nI p))]) (st' := [.int ((W (16 + e)) + (nI 1)), .int ((nI 16) + (nI e)), .ref (mb + 1)]) rfl ?_
    refine mw_iast X (I1 := md_I Γ mb (upd V (16 + e) ((W (16 + e)) + (nI 1))) ρ) (16 + e) (by simp only [nI_add, pk_mul]) rfl (fun H h => ⟨md_A1, _, _, h.2.1, by omega, by decide, fun H1 o c => h.stw o c⟩) ?_
    refine mw_steps X 1 (pc' := 62) (lv' := [(4, .int (W (16 + e))), (3, .int ((nI 507) + ((nI 5) * (nI 5)))), (0, .ref mb), (1, .int (nI e)), (2, .int (nI p))]) (st' := [.ref mb]) rfl ?_
    refine mw_get X kf_X5_7.fl kc_5 rfl (v := .ref (mb + 1)) (fun H h => ⟨_, h.1, rfl⟩) ?_
    refine mw_steps X 2 (pc' := 67) (lv' := [(4, .int (W (16 + e))), (3, .int ((nI 507) + ((nI 5) * (nI 5)))), (0, .ref mb), (1, .int (nI e)), (2, .int (nI p))]) (st' := [.int (nI e), .int ((nI 507) + ((nI 5) * (nI 5))), .ref (mb + 1)]) rfl ?_
    refine mw_iast X (I1 := md_I Γ mb (upd (upd V (16 + e) ((W (16 + e)) + (nI 1))) (507 + 5 * 5) (nI e)) ρ) (507 + 5 * 5) (by simp only [nI_add, pk_mul]) rfl (fun H h => ⟨md_A1, _, _, h.2.1, by omega, by decide, fun H1 o c => h.stw o c⟩) ?_
    refine mw_steps X 1 (pc' := 69) (lv' := [(4, .int (W (16 + e))), (3, .int ((nI 507) + ((nI 5) * (nI 5)))), (0, .ref mb), (1, .int (nI e)), (2, .int (nI p))]) (st' := [.ref mb]) rfl ?_
    refine mw_get X kf_X5_7.fl kc_5 rfl (v := .ref (mb + 1)) (fun H h => ⟨_, h.1, rfl⟩) ?_
    refine mw_steps X 4 (pc' := 77) (lv' := [(4, .int (W (16 + e))), (3, .int ((nI 507) + ((nI 5) * (nI 5)))), (0, .ref mb), (1, .int (nI e)), (2, .int (nI p))]) (st' := [.int (W (16 + e)), .int (((nI 507) + ((nI 5) * (nI 5))) + (nI 1)), .ref (mb + 1)]) rfl ?_
    refine mw_iast X (I1 := md_I Γ mb (upd (upd (upd V (16 + e) ((W (16 + e)) + (nI 1))) (507 + 5 * 5) (nI e)) (507 + 5 * 5 + 1) (W (16 + e))) ρ) (507 + 5 * 5 + 1) (by simp only [nI_add, pk_mul]) rfl (fun H h => ⟨md_A1, _, _, h.2.1, by omega, by decide, fun H1 o c => h.stw o c⟩) ?_
    refine mw_steps X 1 (pc' := 79) (lv' := [(4, .int (W (16 + e))), (3, .int ((nI 507) + ((nI 5) * (nI 5)))), (0, .ref mb), (1, .int (nI e)), (2, .int (nI p))]) (st' := [.ref mb]) rfl ?_
    refine mw_get X kf_X5_7.fl kc_5 rfl (v := .ref (mb + 1)) (fun H h => ⟨_, h.1, rfl⟩) ?_
    refine mw_steps X 4 (pc' := 86) (lv' := [(4, .int (W (16 + e))), (3, .int ((nI 507) + ((nI 5) * (nI 5)))), (0, .ref mb), (1, .int (nI e)), (2, .int (nI p))]) (st' := [.int (nI p), .int (((nI 507) + ((nI 5) * (nI 5))) + (nI 2)), .ref (mb + 1)]) rfl ?_
    refine mw_iast X (I1 := md_I Γ mb (upd (upd (upd (upd V (16 + e) ((W (16 + e)) + (nI 1))) (507 + 5 * 5) (nI e)) (507 + 5 * 5 + 1) (W (16 + e))) (507 + 5 * 5 + 2) (nI p)) ρ) (507 + 5 * 5 + 2) (by simp only [nI_add, pk_mul]) rfl (fun H h => ⟨md_A1, _, _, h.2.1, by omega, by decide, fun H1 o c => h.stw o c⟩) ?_
    refine mw_steps X 1 (pc' := 88) (lv' := [(4, .int (W (16 + e))), (3, .int ((nI 507) + ((nI 5) * (nI 5)))), (0, .ref mb), (1, .int (nI e)), (2, .int (nI p))]) (st' := [.ref mb]) rfl ?_
    refine mw_get X kf_X5_7.fl kc_5 rfl (v := .ref (mb + 1)) (fun H h => ⟨_, h.1, rfl⟩) ?_
    refine mw_steps X 4 (pc' := 95) (lv' := [(4, .int (W (16 + e))), (3, .int ((nI 507) + ((nI 5) * (nI 5)))), (0, .ref mb), (1, .int (nI e)), (2, .int (nI p))]) (st' := [.ref mb, .int (((nI 507) + ((nI 5) * (nI 5))) + (nI 3)), .ref (mb + 1)]) rfl ?_
    refine mw_get X kf_X5_7.fl kc_5 rfl (v := .ref (mb + 1)) (fun H h => ⟨_, h.1, rfl⟩) ?_
    refine mw_steps X 1 (pc' := 99) (lv' := [(4, .int (W (16 + e))), (3, .int ((nI 507) + ((nI 5) * (nI 5)))), (0, .ref mb), (1, .int (nI e)), (2, .int (nI p))]) (st' := [.int (nI 0), .ref (mb + 1), .int (((nI 507) + ((nI 5) * (nI 5))) + (nI 3)), .ref (mb + 1)]) rfl ?_
    refine mw_iald X (v := W 0) (0) rfl rfl (fun H h => ⟨_, _, h.2.1, by omega, by decide, (by simp (disch := omega) only [pk_un]; exact hV0)⟩) ?_
    refine mw_iast X (I1 := md_I Γ mb (upd (upd (upd (upd (upd V (16 + e) ((W (16 + e)) + (nI 1))) (507 + 5 * 5) (nI e)) (507 + 5 * 5 + 1) (W (16 + e))) (507 + 5 * 5 + 2) (nI p)) (507 + 5 * 5 + 3) (W 0)) ρ) (507 + 5 * 5 + 3) (by simp only [nI_add, pk_mul]) rfl (fun H h => ⟨md_A1, _, _, h.2.1, by omega, by decide, fun H1 o c => h.stw o c⟩) ?_
    refine mw_steps X 1 (pc' := 102) (lv' := [(4, .int (W (16 + e))), (3, .int ((nI 507) + ((nI 5) * (nI 5)))), (0, .ref mb), (1, .int (nI e)), (2, .int (nI p))]) (st' := [.ref mb]) rfl ?_
    refine mw_get X kf_X5_7.fl kc_5 rfl (v := .ref (mb + 1)) (fun H h => ⟨_, h.1, rfl⟩) ?_
    refine mw_steps X 4 (pc' := 109) (lv' := [(4, .int (W (16 + e))), (3, .int ((nI 507) + ((nI 5) * (nI 5)))), (0, .ref mb), (1, .int (nI e)), (2, .int (nI p))]) (st' := [.int (nI 0), .int (((nI 507) + ((nI 5) * (nI 5))) + (nI 4)), .ref (mb + 1)]) rfl ?_
    refine mw_iast X (I1 := md_I Γ mb (upd (upd (upd (upd (upd (upd V (16 + e) ((W (16 + e)) + (nI 1))) (507 + 5 * 5) (nI e)) (507 + 5 * 5 + 1) (W (16 + e))) (507 + 5 * 5 + 2) (nI p)) (507 + 5 * 5 + 3) (W 0)) (507 + 5 * 5 + 4) (nI 0)) ρ) (507 + 5 * 5 + 4) (by simp only [nI_add, pk_mul]) rfl (fun H h => ⟨md_A1, _, _, h.2.1, by omega, by decide, fun H1 o c => h.stw o c⟩) ?_
    refine mw_steps X 1 (pc' := 111) (lv' := [(4, .int (W (16 + e))), (3, .int ((nI 507) + ((nI 5) * (nI 5)))), (0, .ref mb), (1, .int (nI e)), (2, .int (nI p))]) (st' := [.ref mb]) rfl ?_
    refine mw_get X kf_X5_7.fl kc_5 rfl (v := .ref (mb + 1)) (fun H h => ⟨_, h.1, rfl⟩) ?_
    refine mw_steps X 2 (pc' := 117) (lv' := [(4, .int (W (16 + e))), (3, .int ((nI 507) + ((nI 5) * (nI 5)))), (0, .ref mb), (1, .int (nI e)), (2, .int (nI p))]) (st' := [.int (nI 13), .ref (mb + 1), .int (nI 13), .ref (mb + 1)]) rfl ?_
    refine mw_iald X (v := nI 5) (13) rfl rfl (fun H h => ⟨_, _, h.2.1, by omega, by decide, (by simp (disch := omega) only [pk_un]; exact hV13)⟩) ?_
    refine mw_steps X 2 (pc' := 120) (lv' := [(4, .int (W (16 + e))), (3, .int ((nI 507) + ((nI 5) * (nI 5)))), (0, .ref mb), (1, .int (nI e)), (2, .int (nI p))]) (st' := [.int ((nI 5) + (nI 1)), .int (nI 13), .ref (mb + 1)]) rfl ?_
    refine mw_iast X (I1 := md_I Γ mb (upd (upd (upd (upd (upd (upd (upd V (16 + e) ((W (16 + e)) + (nI 1))) (507 + 5 * 5) (nI e)) (507 + 5 * 5 + 1) (W (16 + e))) (507 + 5 * 5 + 2) (nI p)) (507 + 5 * 5 + 3) (W 0)) (507 + 5 * 5 + 4) (nI 0)) (13) ((nI 5) + (nI 1))) ρ) (13) rfl rfl (fun H h => ⟨md_A1, _, _, h.2.1, by omega, by decide, fun H1 o c => h.stw o c⟩) ?_
    refine mw_steps X 5 (pc' := 127) (lv' := [(4, .int (W (16 + e))), (3, .int ((nI 507) + ((nI 5) * (nI 5)))), (0, .ref mb), (1, .int (nI e)), (2, .int (nI p))]) (st' := [.int (W (16 + e)), .int (nI 1), .int (nI p), .int (nI e), .ref mb]) rfl ?_
    rw [show upd (upd (upd (upd (upd (upd (upd V (16 + e) ((W (16 + e)) + (nI 1))) (507 + 5 * 5) (nI e)) (507 + 5 * 5 + 1) (W (16 + e))) (507 + 5 * 5 + 2) (nI p)) (507 + 5 * 5 + 3) (W 0)) (507 + 5 * 5 + 4) (nI 0)) (13) ((nI 5) + (nI 1)) = mo_ask W e p from Eq.symm (by exact ml_ask_full hn hV he)]
    refine mw_cV4v X kd_X5_goes kv_X5_goes kl_X5_47 (ci := 5) rfl rfl (Nat.le_of_ble_eq_true rfl) ⟨Nat.le_of_ble_eq_true rfl, Nat.le_of_ble_eq_true rfl⟩ ⟨Nat.le_of_ble_eq_true rfl, Nat.le_of_ble_eq_true rfl⟩ (fun _ h => h) (fun H h => ⟨⟨_, h.1⟩, cm_goes hmb h (iv_ask hv he hp).1 he hp (by omega)⟩) ?_
    exact mw_vret X rfl rfl (fun H h => ⟨rfl, by rw [show mo_challenge W e p = mo_goes (mo_ask W e p) e p 1 (W (16 + e)) from by rfl]; exact h⟩)
set_option maxHeartbeats 4000000 in
set_option maxRecDepth 20000 in
theorem cm_fa {l : Launch} {Γ : mw_C} {mb : Nat} (hmb : Γ.2.2.2 ≤ mb) {W : Nat → Int32} {ρ : md_R} {H : Heap} {e wh n : Nat} {v : Int32} (hH : md_I Γ mb W ρ H) (hn : W 13 = nI n) (hn2 : n ≤ 6) (hw : wh < 5) : mw_Cr l Γ mX5_findAsked 1 0 0 (md_A mb) [.ref mb, .int (nI e), .int (nI wh), .int v] H (some (.int (mo_ix (mo_fa W e wh v) n))) (md_I Γ mb W ρ) := by
  refine mw_ofG (P := pX5_findAsked) (by decide) (md_As hmb) oX5_findAsked (Nat.le_of_ble_eq_true rfl) ?_
  intro pg e0 sg mg below meth cd X hs
  refine mw_pre (I' := md_I Γ mb W ρ) (fun H1 h1 => by rw [h1]; exact hH) ?_
  refine mw_steps X 2 (pc' := 3) (lv' := [(4, .int (nI 0)), (0, .ref mb), (1, .int (nI e)), (2, .int (nI wh)), (3, .int v)]) (st' := []) rfl ?_
  refine mw_wf (fun t => n - t) (fun t => t ≤ n ∧ ∀ j, j < t → ¬ (W (507 + 5 * j) = nI e ∧ W (507 + 5 * j + wh) = v)) (fun _ => md_I Γ mb W ρ) (fun t => [(4, .int (nI t)), (0, .ref mb), (1, .int (nI e)), (2, .int (nI wh)), (3, .int v)]) (fun t ht ih => ?_) 0 ⟨Nat.zero_le _, fun j hj => absurd hj (Nat.not_lt_zero j)⟩
  obtain ⟨ht, hno⟩ := ht
  refine mw_steps X 2 (pc' := 6) (lv' := [(4, .int (nI t)), (0, .ref mb), (1, .int (nI e)), (2, .int (nI wh)), (3, .int v)]) (st' := [.ref mb, .int (nI t)]) rfl ?_
  refine mw_get X kf_X5_7.fl kc_5 rfl (v := .ref (mb + 1)) (fun H h => ⟨_, h.1, rfl⟩) ?_
  refine mw_steps X 1 (pc' := 11) (lv' := [(4, .int (nI t)), (0, .ref mb), (1, .int (nI e)), (2, .int (nI wh)), (3, .int v)]) (st' := [.int (nI 13), .ref (mb + 1), .int (nI t)]) rfl ?_
  refine mw_iald X (v := nI n) (13) rfl rfl (fun H h => ⟨_, _, h.2.1, by omega, by decide, hn⟩) ?_
  refine mw_icmp_ge X 60 rfl rfl (fun c12 => ?_) (fun c12 => ?_)
  · have htn : t = n := by rw [nI_leI (by omega) (by omega)] at c12; omega
    refine mw_steps X 1 (pc' := 61) (lv' := [(4, .int (nI t)), (0, .ref mb), (1, .int (nI e)), (2, .int (nI wh)), (3, .int v)]) (st' := [.int (-1)]) rfl ?_
    exact mw_iret X rfl rfl (fun H h => ⟨congrArg (fun z => some (Value.int z)) (by subst htn; unfold mo_ix; rw [ml_fa_none hn hn2 hno, if_neg (by omega)]), h⟩)
  · have htn : t < n := by rw [nI_leI (by omega) (by omega)] at c12; omega
    refine mw_steps X 1 (pc' := 16) (lv' := [(4, .int (nI t)), (0, .ref mb), (1, .int (nI e)), (2, .int (nI wh)), (3, .int v)]) (st' := [.ref mb]) rfl ?_
    refine mw_get X kf_X5_7.fl kc_5 rfl (v := .ref (mb + 1)) (fun H h => ⟨_, h.1, rfl⟩) ?_
    refine mw_steps X 5 (pc' := 27) (lv' := [(4, .int (nI t)), (0, .ref mb), (1, .int (nI e)), (2, .int (nI wh)), (3, .int v)]) (st' := [.int ((nI 507) + ((nI 5) * (nI t))), .ref (mb + 1)]) rfl ?_
    refine mw_iald X (v := W (507 + 5 * t)) (507 + 5 * t) (by simp only [nI_add, pk_mul]) rfl (fun H h => ⟨_, _, h.2.1, by omega, by decide, rfl⟩) ?_
    refine mw_steps X 1 (pc' := 29) (lv' := [(4, .int (nI t)), (0, .ref mb), (1, .int (nI e)), (2, .int (nI wh)), (3, .int v)]) (st' := [.int (nI e), .int (W (507 + 5 * t))]) rfl ?_
    refine mw_icmp_ne X 54 rfl rfl (fun c29 => ?_) (fun c29 => ?_)
    · refine mw_steps X 2 (pc' := 3) (lv' := [(4, .int ((nI t) + (nI 1))), (0, .ref mb), (1, .int (nI e)), (2, .int (nI wh)), (3, .int v)]) (st' := []) rfl ?_
      refine mw_lveq (lv' := [(4, .int (nI (t + 1))), (0, .ref mb), (1, .int (nI e)), (2, .int (nI wh)), (3, .int v)]) (by simp only [nI_add]) ?_
      exact ih (t + 1) ⟨by omega, ml_succ hno (by first | exact fun q => c29 q.1 | exact fun q => c48 q.2)⟩ (by omega)
    · refine mw_steps X 1 (pc' := 33) (lv' := [(4, .int (nI t)), (0, .ref mb), (1, .int (nI e)), (2, .int (nI wh)), (3, .int v)]) (st' := [.ref mb]) rfl ?_
      refine mw_get X kf_X5_7.fl kc_5 rfl (v := .ref (mb + 1)) (fun H h => ⟨_, h.1, rfl⟩) ?_
      refine mw_steps X 7 (pc' := 46) (lv' := [(4, .int (nI t)), (0, .ref mb), (1, .int (nI e)), (2, .int (nI wh)), (3, .int v)]) (st' := [.int (((nI 507) + ((nI 5) * (nI t))) + (nI wh)), .ref (mb + 1)]) rfl ?_
      refine mw_iald X (v := W (507 + 5 * t + wh)) (507 + 5 * t + wh) (by simp only [nI_add, pk_mul]) rfl (fun H h => ⟨_, _, h.2.1, by omega, by decide, rfl⟩) ?_
      refine mw_steps X 1 (pc' := 48) (lv' := [(4, .int (nI t)), (0, .ref mb), (1, .int (nI e)), (2, .int (nI wh)), (3, .int v)]) (st' := [.int v, .int (W (507 + 5 * t + wh))]) rfl ?_
      refine mw_icmp_ne X 54 rfl rfl (fun c48 => ?_) (fun c48 => ?_)
      · refine mw_steps X 2 (pc' := 3) (lv' := [(4, .int ((nI t) + (nI 1))), (0, .ref mb), (1, .int (nI e)), (2, .int (nI wh)), (3, .int v)]) (st' := []) rfl ?_
        refine mw_lveq (lv' := [(4, .int (nI (t + 1))), (0, .ref mb), (1, .int (nI e)), (2, .int (nI wh)), (3, .int v)]) (by simp only [nI_add]) ?_
        exact ih (t + 1) ⟨by omega, ml_succ hno (by first | exact fun q => c29 q.1 | exact fun q => c48 q.2)⟩ (by omega)
      · refine mw_steps X 1 (pc' := 53) (lv' := [(4, .int (nI t)), (0, .ref mb), (1, .int (nI e)), (2, .int (nI wh)), (3, .int v)]) (st' := [.int (nI t)]) rfl ?_
        exact mw_iret X rfl rfl (fun H h => ⟨congrArg (fun z => some (Value.int z)) (by unfold mo_ix; rw [ml_fa_is hn hn2 htn c29 c48 hno, if_pos htn]), h⟩)
set_option maxHeartbeats 4000000 in
set_option maxRecDepth 20000 in
theorem cm_once {l : Launch} {Γ : mw_C} {mb : Nat} (hmb : Γ.2.2.2 ≤ mb) {W : Nat → Int32} {ρ : md_R} {H : Heap} {p c : Nat} (hH : md_I Γ mb W ρ H) (hv : iv c W) (hp : p < 5) : mw_Cr l Γ mX5_challengeOnce 5 0 0 (md_A mb) [.ref mb, .int (nI p)] H none (md_I Γ mb (mo_once W p) ρ) := by
  have hn := ml_i13 hv.1
  have hn2 := ml_n6 hv.1
  refine mw_ofG (P := pX5_challengeOnce) (by decide) (md_As hmb) oX5_challengeOnce (Nat.le_of_ble_eq_true rfl) ?_
  intro pg e0 sg mg below meth cd X hs
  refine mw_pre (I' := md_I Γ mb W ρ) (fun H1 h1 => by rw [h1]; exact hH) ?_
  refine mw_steps X 1 (pc' := 1) (lv' := [(0, .ref mb), (1, .int (nI p))]) (st' := [.ref mb]) rfl ?_
  refine mw_get X kf_X5_7.fl kc_5 rfl (v := .ref (mb + 1)) (fun H h => ⟨_, h.1, rfl⟩) ?_
  refine mw_steps X 3 (pc' := 8) (lv' := [(0, .ref mb), (1, .int (nI p))]) (st' := [.int ((nI 32) + (nI p)), .ref (mb + 1)]) rfl ?_
  refine mw_iald X (v := W (32 + p)) (32 + p) (by simp only [nI_add, pk_mul]) rfl (fun H h => ⟨_, _, h.2.1, by omega, by decide, rfl⟩) ?_
  refine mw_if_ne X 28 rfl rfl (fun c9 => ?_) (fun c9 => ?_)
  · exact mw_vret X rfl rfl (fun H h => ⟨rfl, by rw [show mo_once W p = W from by first | exact ml_once_f1 c9 | exact ml_once_f2 ((ml_ix_ge (by omega)).mp c19)]; exact h⟩)
  · refine mw_steps X 4 (pc' := 16) (lv' := [(0, .ref mb), (1, .int (nI p))]) (st' := [.int (nI p), .int (nI 2), .int (nI 1), .ref mb]) rfl ?_
    refine mw_cV3r X kd_X5_findAsked kv_X5_findAsked kl_X5_50 (ci := 5) rfl rfl (Nat.le_of_ble_eq_true rfl) ⟨Nat.le_of_ble_eq_true rfl, Nat.le_of_ble_eq_true rfl⟩ ⟨Nat.le_of_ble_eq_true rfl, Nat.le_of_ble_eq_true rfl⟩ (fun _ h => h) (fun H h => ⟨⟨_, h.1⟩, cm_fa hmb h (e := 1) (wh := 2) hn hn2 (by omega)⟩) ?_
    refine mw_if_ge X 28 rfl rfl (fun c19 => ?_) (fun c19 => ?_)
    · exact mw_vret X rfl rfl (fun H h => ⟨rfl, by rw [show mo_once W p = W from by first | exact ml_once_f1 c9 | exact ml_once_f2 ((ml_ix_ge (by omega)).mp c19)]; exact h⟩)
    · refine mw_steps X 3 (pc' := 25) (lv' := [(0, .ref mb), (1, .int (nI p))]) (st' := [.int (nI p), .int (nI 1), .ref mb]) rfl ?_
      refine mw_cV2v X kd_X5_challengeNow kv_X5_challengeNow kl_X5_54 (ci := 5) rfl rfl (Nat.le_of_ble_eq_true rfl) ⟨Nat.le_of_ble_eq_true rfl, Nat.le_of_ble_eq_true rfl⟩ ⟨Nat.le_of_ble_eq_true rfl, Nat.le_of_ble_eq_true rfl⟩ (fun _ h => h) (fun H h => ⟨⟨_, h.1⟩, cm_challenge hmb h (e := 1) hv (by omega) hp⟩) ?_
      exact mw_vret X rfl rfl (fun H h => ⟨rfl, by rw [show mo_once W p = mo_challenge W 1 p from by exact ml_once_t c9 (fun q => c19 ((ml_ix_ge (by omega)).mpr q))]; exact h⟩)
set_option maxHeartbeats 4000000 in
set_option maxRecDepth 20000 in
theorem cm_took {l : Launch} {Γ : mw_C} {mb : Nat} (hmb : Γ.2.2.2 ≤ mb) {W : Nat → Int32} {ρ : md_R} {H : Heap} {e y : Nat} (hH : md_I Γ mb W ρ H) (he : e < 2) (hy : y < 32768) : mw_Cr l Γ mX5_took 1 0 0 (md_A mb) [.ref mb, .int (nI e), .int (nI y)] H (some (.int (mo_b (mo_bit W e y)))) (md_I Γ mb W ρ) := by
  refine mw_ofG (P := pX5_took) (by decide) (md_As hmb) oX5_took (Nat.le_of_ble_eq_true rfl) ?_
  intro pg e0 sg mg below meth cd X hs
  refine mw_pre (I' := md_I Γ mb W ρ) (fun H1 h1 => by rw [h1]; exact hH) ?_
  refine mw_steps X 1 (pc' := 1) (lv' := [(0, .ref mb), (1, .int (nI e)), (2, .int (nI y))]) (st' := [.ref mb]) rfl ?_
  refine mw_get X kf_X5_7.fl kc_5 rfl (v := .ref (mb + 1)) (fun H h => ⟨_, h.1, rfl⟩) ?_
  refine mw_steps X 7 (pc' := 16) (lv' := [(0, .ref mb), (1, .int (nI e)), (2, .int (nI y))]) (st' := [.int (nI 32), .int (nI y), .int ((nI 537) + ((nI 1300) * (nI e))), .ref (mb + 1)]) rfl ?_
  refine mw_idiv X (by decide) rfl ?_
  refine mw_top (y := nI (y / 32)) (pk_div (by omega) (by decide) (by decide)) ?_
  refine mw_steps X 1 (pc' := 18) (lv' := [(0, .ref mb), (1, .int (nI e)), (2, .int (nI y))]) (st' := [.int (((nI 537) + ((nI 1300) * (nI e))) + (nI (y / 32))), .ref (mb + 1)]) rfl ?_
  refine mw_iald X (v := W (537 + 1300 * e + y / 32)) (537 + 1300 * e + y / 32) (by simp only [nI_add, pk_mul]) rfl (fun H h => ⟨_, _, h.2.1, by omega, by decide, rfl⟩) ?_
  refine mw_steps X 2 (pc' := 22) (lv' := [(0, .ref mb), (1, .int (nI e)), (2, .int (nI y))]) (st' := [.int (nI 32), .int (nI y), .int (W (537 + 1300 * e + y / 32))]) rfl ?_
  refine mw_irem X (by decide) rfl ?_
  refine mw_top (y := nI (y % 32)) (pk_rem (by omega) (by decide) (by decide)) ?_
  refine mw_steps X 4 (pc' := 27) (lv' := [(0, .ref mb), (1, .int (nI e)), (2, .int (nI y))]) (st' := [.int (nI 1), .int (((W (537 + 1300 * e + y / 32)) >>> ((nI (y % 32)) &&& 31)) &&& (nI 1))]) rfl ?_
  refine mw_icmp_ne X 34 rfl rfl (fun c27 => ?_) (fun c27 => ?_)
  · refine mw_steps X 1 (pc' := 35) (lv' := [(0, .ref mb), (1, .int (nI e)), (2, .int (nI y))]) (st' := [.int (nI 0)]) rfl ?_
    exact mw_zret X rfl (by decide) rfl (fun H h => ⟨congrArg (fun z => some (Value.int z)) (by rw [show mo_bit W e y = false from Bool.eq_false_iff.mpr (fun q => c27 ((mb_get _ (by omega)).mpr q))]; rfl), h⟩)
  · refine mw_steps X 2 (pc' := 35) (lv' := [(0, .ref mb), (1, .int (nI e)), (2, .int (nI y))]) (st' := [.int (nI 1)]) rfl ?_
    exact mw_zret X rfl (by decide) rfl (fun H h => ⟨congrArg (fun z => some (Value.int z)) (by rw [show mo_bit W e y = true from (mb_get _ (by omega)).mp c27]; rfl), h⟩)
set_option maxHeartbeats 4000000 in
set_option maxRecDepth 20000 in
theorem cm_note {l : Launch} {Γ : mw_C} {mb : Nat} (hmb : Γ.2.2.2 ≤ mb) {W : Nat → Int32} {ρ : md_R} {H : Heap} {e y : Nat} (hH : md_I Γ mb W ρ H) (he : e < 2) (hy : y < 32768) : mw_Cr l Γ mX5_note 1 0 0 (md_A mb) [.ref mb, .int (nI e), .int (nI y)] H none (md_I Γ mb (mo_note W e y) ρ) := by
  refine mw_ofG (P := pX5_note) (by decide) (md_As hmb) oX5_note (Nat.le_of_ble_eq_true rfl) ?_
  intro pg e0 sg mg below meth cd X hs
  refine mw_pre (I' := md_I Γ mb W ρ) (fun H1 h1 => by rw [h1]; exact hH) ?_
  refine mw_steps X 1 (pc' := 1) (lv' := [(0, .ref mb), (1, .int (nI e)), (2, .int (nI y))]) (st' := [.ref mb]) rfl ?_
  refine mw_get X kf_X5_7.fl kc_5 rfl (v := .ref (mb + 1)) (fun H h => ⟨_, h.1, rfl⟩) ?_
  refine mw_steps X 7 (pc' := 16) (lv' := [(0, .ref mb), (1, .int (nI e)), (2, .int (nI y))]) (st' := [.int (nI 32), .int (nI y), .int ((nI 537) + ((nI 1300) * (nI e))), .ref (mb + 1)]) rfl ?_
  refine mw_idiv X (by decide) rfl ?_
  refine mw_top (y := nI (y / 32)) (pk_div (by omega) (by decide) (by decide)) ?_
  refine mw_steps X 2 (pc' := 19) (lv' := [(0, .ref mb), (1, .int (nI e)), (2, .int (nI y))]) (st' := [.int (((nI 537) + ((nI 1300) * (nI e))) + (nI (y / 32))), .ref (mb + 1), .int (((nI 537) + ((nI 1300) * (nI e))) + (nI (y / 32))), .ref (mb + 1)]) rfl ?_
  refine mw_iald X (v := W (537 + 1300 * e + y / 32)) (537 + 1300 * e + y / 32) (by simp only [nI_add, pk_mul]) rfl (fun H h => ⟨_, _, h.2.1, by omega, by decide, rfl⟩) ?_
  refine mw_steps X 3 (pc' := 24) (lv' := [(0, .ref mb), (1, .int (nI e)), (2, .int (nI y))]) (st' := [.int (nI 32), .int (nI y), .int (nI 1), .int (W (537 + 1300 * e + y / 32)), .int (((nI 537) + ((nI 1300) * (nI e))) + (nI (y / 32))), .ref (mb + 1)]) rfl ?_
  refine mw_irem X (by decide) rfl ?_
  refine mw_top (y := nI (y % 32)) (pk_rem (by omega) (by decide) (by decide)) ?_
  refine mw_steps X 2 (pc' := 27) (lv' := [(0, .ref mb), (1, .int (nI e)), (2, .int (nI y))]) (st' := [.int ((W (537 + 1300 * e + y / 32)) ||| ((nI 1) <<< ((nI (y % 32)) &&& 31))), .int (((nI 537) + ((nI 1300) * (nI e))) + (nI (y / 32))), .ref (mb + 1)]) rfl ?_
  refine mw_iast X (I1 := md_I Γ mb (upd W (537 + 1300 * e + y / 32) ((W (537 + 1300 * e + y / 32)) ||| ((nI 1) <<< ((nI (y % 32)) &&& 31)))) ρ) (537 + 1300 * e + y / 32) (by simp only [nI_add, pk_mul]) rfl (fun H h => ⟨md_A1, _, _, h.2.1, by omega, by decide, fun H1 o c => h.stw o c⟩) ?_
  exact mw_vret X rfl rfl (fun H h => ⟨rfl, by rw [show mo_note W e y = upd W (537 + 1300 * e + y / 32) ((W (537 + 1300 * e + y / 32)) ||| ((nI 1) <<< ((nI (y % 32)) &&& 31))) from by rfl]; exact h⟩)
set_option maxHeartbeats 4000000 in
set_option maxRecDepth 20000 in
theorem cm_inRow {l : Launch} {Γ : mw_C} {mb : Nat} (hmb : Γ.2.2.2 ≤ mb) {W : Nat → Int32} {ρ : md_R} {H : Heap} {e : Nat} (hH : md_I Γ mb W ρ H) (he : e < 2) : mw_Cr l Γ mX5_inRow 1 0 0 (md_A mb) [.ref mb, .int (nI e)] H (some (.int (nI (mo_row W e)))) (md_I Γ mb W ρ) := by
  refine mw_ofG (P := pX5_inRow) (by decide) (md_As hmb) oX5_inRow (Nat.le_of_ble_eq_true rfl) ?_
  intro pg e0 sg mg below meth cd X hs
  refine mw_pre (I' := md_I Γ mb W ρ) (fun H1 h1 => by rw [h1]; exact hH) ?_
  refine mw_steps X 2 (pc' := 2) (lv' := [(2, .int (nI 0)), (0, .ref mb), (1, .int (nI e))]) (st' := []) rfl ?_
  refine mw_wf (fun t => 100 - t) (fun t => t ≤ 100 ∧ ∀ j, j < t → W (127 + 100 * e + j) = nI 1) (fun _ => md_I Γ mb W ρ) (fun t => [(2, .int (nI t)), (0, .ref mb), (1, .int (nI e))]) (fun t ht ih => ?_) 0 ⟨Nat.zero_le _, fun j hj => absurd hj (Nat.not_lt_zero j)⟩
  obtain ⟨ht, hno⟩ := ht
  refine mw_steps X 2 (pc' := 5) (lv' := [(2, .int (nI t)), (0, .ref mb), (1, .int (nI e))]) (st' := [.int (nI 100), .int (nI t)]) rfl ?_
  refine mw_icmp_ge X 32 rfl rfl (fun c5 => ?_) (fun c5 => ?_)
  · have htn : t = 100 := by rw [nI_leI (by omega) (by omega)] at c5; omega
    refine mw_steps X 1 (pc' := 33) (lv' := [(2, .int (nI t)), (0, .ref mb), (1, .int (nI e))]) (st' := [.int (nI t)]) rfl ?_
    exact mw_iret X rfl rfl (fun H h => ⟨congrArg (fun z => some (Value.int z)) (by first | rw [ml_row_is htn c23 hno] | (subst htn; rw [ml_row_all hno])), h⟩)
  · have htn : t < 100 := by rw [nI_leI (by omega) (by omega)] at c5; omega
    refine mw_steps X 1 (pc' := 9) (lv' := [(2, .int (nI t)), (0, .ref mb), (1, .int (nI e))]) (st' := [.ref mb]) rfl ?_
    refine mw_get X kf_X5_7.fl kc_5 rfl (v := .ref (mb + 1)) (fun H h => ⟨_, h.1, rfl⟩) ?_
    refine mw_steps X 7 (pc' := 21) (lv' := [(2, .int (nI t)), (0, .ref mb), (1, .int (nI e))]) (st' := [.int (((nI 127) + ((nI 100) * (nI e))) + (nI t)), .ref (mb + 1)]) rfl ?_
    refine mw_iald X (v := W (127 + 100 * e + t)) (127 + 100 * e + t) (by simp only [nI_add, pk_mul]) rfl (fun H h => ⟨_, _, h.2.1, by omega, by decide, rfl⟩) ?_
    refine mw_steps X 1 (pc' := 23) (lv' := [(2, .int (nI t)), (0, .ref mb), (1, .int (nI e))]) (st' := [.int (nI 1), .int (W (127 + 100 * e + t))]) rfl ?_
    refine mw_icmp_ne X 32 rfl rfl (fun c23 => ?_) (fun c23 => ?_)
    · refine mw_steps X 1 (pc' := 33) (lv' := [(2, .int (nI t)), (0, .ref mb), (1, .int (nI e))]) (st' := [.int (nI t)]) rfl ?_
      exact mw_iret X rfl rfl (fun H h => ⟨congrArg (fun z => some (Value.int z)) (by first | rw [ml_row_is htn c23 hno] | (subst htn; rw [ml_row_all hno])), h⟩)
    · refine mw_steps X 2 (pc' := 2) (lv' := [(2, .int ((nI t) + (nI 1))), (0, .ref mb), (1, .int (nI e))]) (st' := []) rfl ?_
      refine mw_lveq (lv' := [(2, .int (nI (t + 1))), (0, .ref mb), (1, .int (nI e))]) (by simp only [nI_add]) ?_
      exact ih (t + 1) ⟨by omega, ml_succ hno c23⟩ (by omega)
set_option maxHeartbeats 4000000 in
set_option maxRecDepth 20000 in
theorem cm_heard {l : Launch} {Γ : mw_C} {mb : Nat} (hmb : Γ.2.2.2 ≤ mb) {W : Nat → Int32} {ρ : md_R} {H : Heap} {e c : Nat} {v : Int32} (hH : md_I Γ mb W ρ H) (hv : iv c W) (he : e < 2) : mw_Cr l Γ mX5_word 4 0 0 (md_A mb) [.ref mb, .int (nI e), .int v, .int (nI 0)] H none (md_I Γ mb (mo_heard W e) ρ) := by
  obtain ⟨-, -, ⟨cu, hcu5, hcu⟩, -⟩ := hv.2.2.2.2.2.2.2.1 e he
  refine mw_ofG (P := pX5_word) (by decide) (md_As hmb) oX5_word (Nat.le_of_ble_eq_true rfl) ?_
  intro pg e0 sg mg below meth cd X hs
  refine mw_pre (I' := md_I Γ mb W ρ) (fun H1 h1 => by rw [h1]; exact hH) ?_
  refine mw_steps X 1 (pc' := 1) (lv' := [(0, .ref mb), (1, .int (nI e)), (2, .int v), (3, .int (nI 0))]) (st' := [.int (nI 0)]) rfl ?_
  refine mw_if_eq X 19 rfl rfl (fun c1 => ?_) (fun c1 => absurd (by decide) c1)
  refine mw_steps X 3 (pc' := 22) (lv' := [(0, .ref mb), (1, .int (nI e)), (2, .int v), (3, .int (nI 0))]) (st' := [.ref mb, .int (nI e), .ref mb]) rfl ?_
  refine mw_get X kf_X5_7.fl kc_5 rfl (v := .ref (mb + 1)) (fun H h => ⟨_, h.1, rfl⟩) ?_
  refine mw_steps X 3 (pc' := 28) (lv' := [(0, .ref mb), (1, .int (nI e)), (2, .int v), (3, .int (nI 0))]) (st' := [.int ((nI 2) + (nI e)), .ref (mb + 1), .int (nI e), .ref mb]) rfl ?_
  refine mw_iald X (v := nI cu) (2 + e) (by simp only [nI_add, pk_mul]) rfl (fun H h => ⟨_, _, h.2.1, by omega, by decide, hcu⟩) ?_
  refine mw_steps X 3 (pc' := 32) (lv' := [(0, .ref mb), (1, .int (nI e)), (2, .int v), (3, .int (nI 0))]) (st' := [.int (nI e), .ref mb, .int (nI 5), .int (nI cu), .int (nI e), .ref mb]) rfl ?_
  refine mw_cV1r X kd_X5_inRow kv_X5_inRow kl_X5_58 (ci := 5) rfl rfl (Nat.le_of_ble_eq_true rfl) ⟨Nat.le_of_ble_eq_true rfl, Nat.le_of_ble_eq_true rfl⟩ ⟨Nat.le_of_ble_eq_true rfl, Nat.le_of_ble_eq_true rfl⟩ (fun _ h => h) (fun H h => ⟨⟨_, h.1⟩, cm_inRow hmb h he⟩) ?_
  refine mw_cV4v X kd_X5_goes kv_X5_goes kl_X5_47 (ci := 5) rfl rfl (Nat.le_of_ble_eq_true rfl) ⟨Nat.le_of_ble_eq_true rfl, Nat.le_of_ble_eq_true rfl⟩ ⟨Nat.le_of_ble_eq_true rfl, Nat.le_of_ble_eq_true rfl⟩ (fun _ h => h) (fun H h => ⟨⟨_, h.1⟩, cm_goes hmb h hv.1 he hcu5 (by omega)⟩) ?_
  exact mw_vret X rfl rfl (fun H h => ⟨rfl, by rw [show mo_heard W e = mo_goes W e cu 5 (nI (mo_row W e)) from by unfold mo_heard; rw [hcu, ml_n (by omega)]]; exact h⟩)
set_option maxHeartbeats 4000000 in
set_option maxRecDepth 20000 in
theorem cm_word {l : Launch} {Γ : mw_C} {mb : Nat} (hmb : Γ.2.2.2 ≤ mb) {W : Nat → Int32} {ρ : md_R} {H : Heap} {e c : Nat} {v : Nat} (hH : md_I Γ mb W ρ H) (hv : iv c W) (he : e < 2) (hvv : v < 100) : mw_Cr l Γ mX5_word 4 0 0 (md_A mb) [.ref mb, .int (nI e), .int (nI v), .int (nI 1)] H none (md_I Γ mb (mo_word W e v) ρ) := by
  obtain ⟨-, -, ⟨cu, hcu5, hcu⟩, -⟩ := hv.2.2.2.2.2.2.2.1 e he
  refine mw_ofG (P := pX5_word) (by decide) (md_As hmb) oX5_word (Nat.le_of_ble_eq_true rfl) ?_
  intro pg e0 sg mg below meth cd X hs
  refine mw_pre (I' := md_I Γ mb W ρ) (fun H1 h1 => by rw [h1]; exact hH) ?_
  refine mw_steps X 1 (pc' := 1) (lv' := [(0, .ref mb), (1, .int (nI e)), (2, .int (nI v)), (3, .int (nI 1))]) (st' := [.int (nI 1)]) rfl ?_
  refine mw_if_eq X 19 rfl rfl (fun c1 => absurd c1 (by decide)) (fun c1 => ?_)
  refine mw_steps X 1 (pc' := 5) (lv' := [(0, .ref mb), (1, .int (nI e)), (2, .int (nI v)), (3, .int (nI 1))]) (st' := [.ref mb]) rfl ?_
  refine mw_get X kf_X5_7.fl kc_5 rfl (v := .ref (mb + 1)) (fun H h => ⟨_, h.1, rfl⟩) ?_
  refine mw_steps X 8 (pc' := 18) (lv' := [(0, .ref mb), (1, .int (nI e)), (2, .int (nI v)), (3, .int (nI 1))]) (st' := [.int (nI 1), .int (((nI 127) + ((nI 100) * (nI e))) + (nI v)), .ref (mb + 1)]) rfl ?_
  refine mw_iast X (I1 := md_I Γ mb (upd W (127 + 100 * e + v) (nI 1)) ρ) (127 + 100 * e + v) (by simp only [nI_add, pk_mul]) rfl (fun H h => ⟨md_A1, _, _, h.2.1, by omega, by decide, fun H1 o c => h.stw o c⟩) ?_
  refine mw_steps X 3 (pc' := 22) (lv' := [(0, .ref mb), (1, .int (nI e)), (2, .int (nI v)), (3, .int (nI 1))]) (st' := [.ref mb, .int (nI e), .ref mb]) rfl ?_
  refine mw_get X kf_X5_7.fl kc_5 rfl (v := .ref (mb + 1)) (fun H h => ⟨_, h.1, rfl⟩) ?_
  refine mw_steps X 3 (pc' := 28) (lv' := [(0, .ref mb), (1, .int (nI e)), (2, .int (nI v)), (3, .int (nI 1))]) (st' := [.int ((nI 2) + (nI e)), .ref (mb + 1), .int (nI e), .ref mb]) rfl ?_
  refine mw_iald X (v := nI cu) (2 + e) (by simp only [nI_add, pk_mul]) rfl (fun H h => ⟨_, _, h.2.1, by omega, by decide, (by simp (disch := omega) only [pk_un]; exact hcu)⟩) ?_
  refine mw_steps X 3 (pc' := 32) (lv' := [(0, .ref mb), (1, .int (nI e)), (2, .int (nI v)), (3, .int (nI 1))]) (st' := [.int (nI e), .ref mb, .int (nI 5), .int (nI cu), .int (nI e), .ref mb]) rfl ?_
  refine mw_cV1r X kd_X5_inRow kv_X5_inRow kl_X5_58 (ci := 5) rfl rfl (Nat.le_of_ble_eq_true rfl) ⟨Nat.le_of_ble_eq_true rfl, Nat.le_of_ble_eq_true rfl⟩ ⟨Nat.le_of_ble_eq_true rfl, Nat.le_of_ble_eq_true rfl⟩ (fun _ h => h) (fun H h => ⟨⟨_, h.1⟩, cm_inRow hmb h he⟩) ?_
  refine mw_cV4v X kd_X5_goes kv_X5_goes kl_X5_47 (ci := 5) rfl rfl (Nat.le_of_ble_eq_true rfl) ⟨Nat.le_of_ble_eq_true rfl, Nat.le_of_ble_eq_true rfl⟩ ⟨Nat.le_of_ble_eq_true rfl, Nat.le_of_ble_eq_true rfl⟩ (fun _ h => h) (fun H h => ⟨⟨_, h.1⟩, cm_goes hmb h (iv_has hv he hvv).1 he hcu5 (by omega)⟩) ?_
  exact mw_vret X rfl rfl (fun H h => ⟨rfl, by rw [show mo_word W e v = mo_goes (upd W (127 + 100 * e + v) (nI 1)) e cu 5 (nI (mo_row (upd W (127 + 100 * e + v) (nI 1)) e)) from by unfold mo_word mo_heard; rw [pk_un (by omega), hcu, ml_n (by omega)]]; exact h⟩)
set_option maxHeartbeats 4000000 in
set_option maxRecDepth 20000 in
theorem cm_confirm {l : Launch} {Γ : mw_C} {mb : Nat} (hmb : Γ.2.2.2 ≤ mb) {W : Nat → Int32} {ρ : md_R} {H : Heap} {e : Nat} {x : Int32} (hH : md_I Γ mb W ρ H) (he : e < 2) : mw_Cr l Γ mX5_confirm 1 0 0 (md_A mb) [.ref mb, .int (nI e), .int x] H none (md_I Γ mb (mo_confirm W e x) ρ) := by
  refine mw_ofG (P := pX5_confirm) (by decide) (md_As hmb) oX5_confirm (Nat.le_of_ble_eq_true rfl) ?_
  intro pg e0 sg mg below meth cd X hs
  refine mw_pre (I' := md_I Γ mb W ρ) (fun H1 h1 => by rw [h1]; exact hH) ?_
  refine mw_steps X 1 (pc' := 1) (lv' := [(0, .ref mb), (1, .int (nI e)), (2, .int x)]) (st' := [.ref mb]) rfl ?_
  refine mw_get X kf_X5_7.fl kc_5 rfl (v := .ref (mb + 1)) (fun H h => ⟨_, h.1, rfl⟩) ?_
  refine mw_steps X 5 (pc' := 10) (lv' := [(0, .ref mb), (1, .int (nI e)), (2, .int x)]) (st' := [.ref mb, .int x, .int ((nI 20) + (nI e)), .ref (mb + 1)]) rfl ?_
  refine mw_get X kf_X5_7.fl kc_5 rfl (v := .ref (mb + 1)) (fun H h => ⟨_, h.1, rfl⟩) ?_
  refine mw_steps X 3 (pc' := 17) (lv' := [(0, .ref mb), (1, .int (nI e)), (2, .int x)]) (st' := [.int ((nI 20) + (nI e)), .ref (mb + 1), .int x, .int ((nI 20) + (nI e)), .ref (mb + 1)]) rfl ?_
  refine mw_iald X (v := W (20 + e)) (20 + e) (by simp only [nI_add, pk_mul]) rfl (fun H h => ⟨_, _, h.2.1, by omega, by decide, rfl⟩) ?_
  refine mw_icmp_le X 25 rfl rfl (fun c18 => ?_) (fun c18 => ?_)
  · refine mw_steps X 1 (pc' := 26) (lv' := [(0, .ref mb), (1, .int (nI e)), (2, .int x)]) (st' := [.ref mb, .int ((nI 20) + (nI e)), .ref (mb + 1)]) rfl ?_
    refine mw_get X kf_X5_7.fl kc_5 rfl (v := .ref (mb + 1)) (fun H h => ⟨_, h.1, rfl⟩) ?_
    refine mw_steps X 3 (pc' := 33) (lv' := [(0, .ref mb), (1, .int (nI e)), (2, .int x)]) (st' := [.int ((nI 20) + (nI e)), .ref (mb + 1), .int ((nI 20) + (nI e)), .ref (mb + 1)]) rfl ?_
    refine mw_iald X (v := W (20 + e)) (20 + e) (by simp only [nI_add, pk_mul]) rfl (fun H h => ⟨_, _, h.2.1, by omega, by decide, rfl⟩) ?_
    refine mw_iast X (I1 := md_I Γ mb (upd W (20 + e) (W (20 + e))) ρ) (20 + e) (by simp only [nI_add, pk_mul]) rfl (fun H h => ⟨md_A1, _, _, h.2.1, by omega, by decide, fun H1 o c => h.stw o c⟩) ?_
    exact mw_vret X rfl rfl (fun H h => ⟨rfl, by rw [show mo_confirm W e x = upd W (20 + e) (W (20 + e)) from by unfold mo_confirm; first | rw [if_neg (Int32.not_lt.mpr c18)] | rw [if_pos (Int32.not_le.mp c18)]]; exact h⟩)
  · refine mw_steps X 2 (pc' := 34) (lv' := [(0, .ref mb), (1, .int (nI e)), (2, .int x)]) (st' := [.int x, .int ((nI 20) + (nI e)), .ref (mb + 1)]) rfl ?_
    refine mw_iast X (I1 := md_I Γ mb (upd W (20 + e) x) ρ) (20 + e) (by simp only [nI_add, pk_mul]) rfl (fun H h => ⟨md_A1, _, _, h.2.1, by omega, by decide, fun H1 o c => h.stw o c⟩) ?_
    exact mw_vret X rfl rfl (fun H h => ⟨rfl, by rw [show mo_confirm W e x = upd W (20 + e) x from by unfold mo_confirm; first | rw [if_neg (Int32.not_lt.mpr c18)] | rw [if_pos (Int32.not_le.mp c18)]]; exact h⟩)
set_option maxHeartbeats 4000000 in
set_option maxRecDepth 20000 in
theorem cm_follow {l : Launch} {Γ : mw_C} {mb : Nat} (hmb : Γ.2.2.2 ≤ mb) {W : Nat → Int32} {ρ : md_R} {H : Heap} {p c : Nat} (hH : md_I Γ mb W ρ H) (hv : iv c W) (hp : p < 5) : mw_Cr l Γ mX5_follow 6 0 0 (md_A mb) [.ref mb, .int (nI p)] H none (md_I Γ mb (mo_follow W p) ρ) := by
  obtain ⟨cu, hcu5, hcu⟩ := ml_c3 hv
  refine mw_ofG (P := pX5_follow) (by decide) (md_As hmb) oX5_follow (Nat.le_of_ble_eq_true rfl) ?_
  intro pg e0 sg mg below meth cd X hs
  refine mw_pre (I' := md_I Γ mb W ρ) (fun H1 h1 => by rw [h1]; exact hH) ?_
  refine mw_steps X 1 (pc' := 1) (lv' := [(0, .ref mb), (1, .int (nI p))]) (st' := [.ref mb]) rfl ?_
  refine mw_get X kf_X5_7.fl kc_5 rfl (v := .ref (mb + 1)) (fun H h => ⟨_, h.1, rfl⟩) ?_
  refine mw_steps X 1 (pc' := 5) (lv' := [(0, .ref mb), (1, .int (nI p))]) (st' := [.int (nI 3), .ref (mb + 1)]) rfl ?_
  refine mw_iald X (v := nI cu) (3) rfl rfl (fun H h => ⟨_, _, h.2.1, by omega, by decide, hcu⟩) ?_
  refine mw_steps X 1 (pc' := 7) (lv' := [(0, .ref mb), (1, .int (nI p))]) (st' := [.int (nI p), .int (nI cu)]) rfl ?_
  refine mw_icmp_eq X 58 rfl rfl (fun c7 => ?_) (fun c7 => ?_)
  · exact mw_vret X rfl rfl (fun H h => ⟨rfl, by rw [show mo_follow W p = W from by exact ml_follow_t (by rw [hcu]; exact c7)]; exact h⟩)
  · refine mw_steps X 1 (pc' := 11) (lv' := [(0, .ref mb), (1, .int (nI p))]) (st' := [.ref mb]) rfl ?_
    refine mw_get X kf_X5_7.fl kc_5 rfl (v := .ref (mb + 1)) (fun H h => ⟨_, h.1, rfl⟩) ?_
    refine mw_steps X 1 (pc' := 15) (lv' := [(0, .ref mb), (1, .int (nI p))]) (st' := [.int (nI 3), .ref (mb + 1)]) rfl ?_
    refine mw_iald X (v := nI cu) (3) rfl rfl (fun H h => ⟨_, _, h.2.1, by omega, by decide, hcu⟩) ?_
    refine mw_steps X 2 (pc' := 18) (lv' := [(2, .int (nI cu)), (0, .ref mb), (1, .int (nI p))]) (st' := [.ref mb]) rfl ?_
    refine mw_get X kf_X5_7.fl kc_5 rfl (v := .ref (mb + 1)) (fun H h => ⟨_, h.1, rfl⟩) ?_
    refine mw_steps X 2 (pc' := 23) (lv' := [(2, .int (nI cu)), (0, .ref mb), (1, .int (nI p))]) (st' := [.ref mb, .int (nI 5), .ref (mb + 1)]) rfl ?_
    refine mw_get X kf_X5_7.fl kc_5 rfl (v := .ref (mb + 1)) (fun H h => ⟨_, h.1, rfl⟩) ?_
    refine mw_steps X 3 (pc' := 30) (lv' := [(2, .int (nI cu)), (0, .ref mb), (1, .int (nI p))]) (st' := [.int ((nI 32) + (nI cu)), .ref (mb + 1), .int (nI 5), .ref (mb + 1)]) rfl ?_
    refine mw_iald X (v := W (32 + cu)) (32 + cu) (by simp only [nI_add, pk_mul]) rfl (fun H h => ⟨_, _, h.2.1, by omega, by decide, rfl⟩) ?_
    refine mw_steps X 1 (pc' := 32) (lv' := [(2, .int (nI cu)), (0, .ref mb), (1, .int (nI p))]) (st' := [.int (nI 1), .int (W (32 + cu)), .int (nI 5), .ref (mb + 1)]) rfl ?_
    refine mw_icmp_ne X 39 rfl rfl (fun c32 => ?_) (fun c32 => ?_)
    · refine mw_steps X 1 (pc' := 40) (lv' := [(2, .int (nI cu)), (0, .ref mb), (1, .int (nI p))]) (st' := [.ref mb, .int (nI 5), .ref (mb + 1)]) rfl ?_
      refine mw_get X kf_X5_7.fl kc_5 rfl (v := .ref (mb + 1)) (fun H h => ⟨_, h.1, rfl⟩) ?_
      refine mw_steps X 1 (pc' := 44) (lv' := [(2, .int (nI cu)), (0, .ref mb), (1, .int (nI p))]) (st' := [.int (nI 5), .ref (mb + 1), .int (nI 5), .ref (mb + 1)]) rfl ?_
      refine mw_iald X (v := W (5)) (5) rfl rfl (fun H h => ⟨_, _, h.2.1, by omega, by decide, rfl⟩) ?_
      refine mw_iast X (I1 := md_I Γ mb (upd W (5) (W (5))) ρ) (5) rfl rfl (fun H h => ⟨md_A1, _, _, h.2.1, by omega, by decide, fun H1 o c => h.stw o c⟩) ?_
      refine mw_steps X 1 (pc' := 47) (lv' := [(2, .int (nI cu)), (0, .ref mb), (1, .int (nI p))]) (st' := [.ref mb]) rfl ?_
      refine mw_get X kf_X5_7.fl kc_5 rfl (v := .ref (mb + 1)) (fun H h => ⟨_, h.1, rfl⟩) ?_
      refine mw_steps X 2 (pc' := 52) (lv' := [(2, .int (nI cu)), (0, .ref mb), (1, .int (nI p))]) (st' := [.int (nI p), .int (nI 3), .ref (mb + 1)]) rfl ?_
      refine mw_iast X (I1 := md_I Γ mb (upd (upd W (5) (W (5))) (3) (nI p)) ρ) (3) rfl rfl (fun H h => ⟨md_A1, _, _, h.2.1, by omega, by decide, fun H1 o c => h.stw o c⟩) ?_
      refine mw_steps X 2 (pc' := 55) (lv' := [(2, .int (nI cu)), (0, .ref mb), (1, .int (nI p))]) (st' := [.int (nI p), .ref mb]) rfl ?_
      rw [show upd (upd W (5) (W (5))) (3) (nI p) = mo_fol W p from by unfold mo_fol; rw [hcu, ml_n (by omega)]; first | rw [if_pos c32] | rw [if_neg c32]]
      refine mw_cV1v X kd_X5_challengeOnce kv_X5_challengeOnce kl_X5_61 (ci := 5) rfl rfl (Nat.le_of_ble_eq_true rfl) ⟨Nat.le_of_ble_eq_true rfl, Nat.le_of_ble_eq_true rfl⟩ ⟨Nat.le_of_ble_eq_true rfl, Nat.le_of_ble_eq_true rfl⟩ (fun _ h => h) (fun H h => ⟨⟨_, h.1⟩, cm_once hmb h (iv_fol hv hp) hp⟩) ?_
      exact mw_vret X rfl rfl (fun H h => ⟨rfl, by rw [show mo_follow W p = mo_once (mo_fol W p) p from by exact ml_follow_f (by rw [hcu]; exact c7)]; exact h⟩)
    · refine mw_steps X 2 (pc' := 45) (lv' := [(2, .int (nI cu)), (0, .ref mb), (1, .int (nI p))]) (st' := [.int (nI cu), .int (nI 5), .ref (mb + 1)]) rfl ?_
      refine mw_iast X (I1 := md_I Γ mb (upd W (5) (nI cu)) ρ) (5) rfl rfl (fun H h => ⟨md_A1, _, _, h.2.1, by omega, by decide, fun H1 o c => h.stw o c⟩) ?_
      refine mw_steps X 1 (pc' := 47) (lv' := [(2, .int (nI cu)), (0, .ref mb), (1, .int (nI p))]) (st' := [.ref mb]) rfl ?_
      refine mw_get X kf_X5_7.fl kc_5 rfl (v := .ref (mb + 1)) (fun H h => ⟨_, h.1, rfl⟩) ?_
      refine mw_steps X 2 (pc' := 52) (lv' := [(2, .int (nI cu)), (0, .ref mb), (1, .int (nI p))]) (st' := [.int (nI p), .int (nI 3), .ref (mb + 1)]) rfl ?_
      refine mw_iast X (I1 := md_I Γ mb (upd (upd W (5) (nI cu)) (3) (nI p)) ρ) (3) rfl rfl (fun H h => ⟨md_A1, _, _, h.2.1, by omega, by decide, fun H1 o c => h.stw o c⟩) ?_
      refine mw_steps X 2 (pc' := 55) (lv' := [(2, .int (nI cu)), (0, .ref mb), (1, .int (nI p))]) (st' := [.int (nI p), .ref mb]) rfl ?_
      rw [show upd (upd W (5) (nI cu)) (3) (nI p) = mo_fol W p from by unfold mo_fol; rw [hcu, ml_n (by omega)]; first | rw [if_pos c32] | rw [if_neg c32]]
      refine mw_cV1v X kd_X5_challengeOnce kv_X5_challengeOnce kl_X5_61 (ci := 5) rfl rfl (Nat.le_of_ble_eq_true rfl) ⟨Nat.le_of_ble_eq_true rfl, Nat.le_of_ble_eq_true rfl⟩ ⟨Nat.le_of_ble_eq_true rfl, Nat.le_of_ble_eq_true rfl⟩ (fun _ h => h) (fun H h => ⟨⟨_, h.1⟩, cm_once hmb h (iv_fol hv hp) hp⟩) ?_
      exact mw_vret X rfl rfl (fun H h => ⟨rfl, by rw [show mo_follow W p = mo_once (mo_fol W p) p from by exact ml_follow_f (by rw [hcu]; exact c7)]; exact h⟩)
set_option maxHeartbeats 4000000 in
set_option maxRecDepth 20000 in
theorem cm_prove {l : Launch} {Γ : mw_C} {mb : Nat} (hmb : Γ.2.2.2 ≤ mb) {W : Nat → Int32} {ρ : md_R} {H : Heap} {c : Nat} {x : Int32} (hH : md_I Γ mb W ρ H) (hv : iv (c + 12) W) : mw_Cr l Γ mX5_proveBy 4 0 0 (md_A mb) [.ref mb, .int x] H none (md_I Γ mb (mo_prove W x) ρ) := by
  have hn := ml_i13 hv.1
  have hn2 := ml_n6 hv.1
  refine mw_ofG (P := pX5_proveBy) (by decide) (md_As hmb) oX5_proveBy (Nat.le_of_ble_eq_true rfl) ?_
  intro pg e0 sg mg below meth cd X hs
  refine mw_pre (I' := md_I Γ mb W ρ) (fun H1 h1 => by rw [h1]; exact hH) ?_
  refine mw_steps X 4 (pc' := 4) (lv' := [(0, .ref mb), (1, .int x)]) (st' := [.int x, .int (nI 1), .int (nI 1), .ref mb]) rfl ?_
  refine mw_cV3r X kd_X5_findAsked kv_X5_findAsked kl_X5_50 (ci := 5) rfl rfl (Nat.le_of_ble_eq_true rfl) ⟨Nat.le_of_ble_eq_true rfl, Nat.le_of_ble_eq_true rfl⟩ ⟨Nat.le_of_ble_eq_true rfl, Nat.le_of_ble_eq_true rfl⟩ (fun _ h => h) (fun H h => ⟨⟨_, h.1⟩, cm_fa hmb h (e := 1) (wh := 1) hn hn2 (by omega)⟩) ?_
  refine mw_steps X 1 (pc' := 8) (lv' := [(2, .int (mo_ix (mo_fa W 1 1 x) (mo_n (W 13)))), (0, .ref mb), (1, .int x)]) (st' := []) rfl ?_
  by_cases hf : mo_fa W 1 1 x < mo_n (W 13)
  · obtain ⟨e1, pl, tr, -, hpl, -, -, hpp, -⟩ := hv.2.2.2.2.1 _ hf
    rw [show mo_ix (mo_fa W 1 1 x) (mo_n (W 13)) = nI (mo_fa W 1 1 x) from if_pos hf]
    obtain ⟨k, hk⟩ : ∃ k, k = mo_fa W 1 1 x := ⟨_, rfl⟩
    rw [← hk] at hf hpp ⊢
    refine mw_steps X 1 (pc' := 9) (lv' := [(2, .int (nI k)), (0, .ref mb), (1, .int x)]) (st' := [.int (nI k)]) rfl ?_
    refine mw_if_lt X 53 rfl rfl (fun c9 => absurd c9 (nI_pos (by omega))) (fun c9 => ?_)
    refine mw_steps X 1 (pc' := 13) (lv' := [(2, .int (nI k)), (0, .ref mb), (1, .int x)]) (st' := [.ref mb]) rfl ?_
    refine mw_get X kf_X5_7.fl kc_5 rfl (v := .ref (mb + 1)) (fun H h => ⟨_, h.1, rfl⟩) ?_
    refine mw_steps X 7 (pc' := 25) (lv' := [(2, .int (nI k)), (0, .ref mb), (1, .int x)]) (st' := [.int (((nI 507) + ((nI 5) * (nI k))) + (nI 2)), .ref (mb + 1)]) rfl ?_
    refine mw_iald X (v := nI pl) (507 + 5 * k + 2) (by simp only [nI_add, pk_mul]) rfl (fun H h => ⟨_, _, h.2.1, by omega, by decide, hpp⟩) ?_
    refine mw_steps X 6 (pc' := 35) (lv' := [(3, .int (nI pl)), (2, .int (nI k)), (0, .ref mb), (1, .int x)]) (st' := [.int (nI k), .int (nI 13), .int (nI 5), .int (nI 507), .ref mb]) rfl ?_
    refine mw_cV4v X kd_X5_removeAt kv_X5_removeAt kl_X5_29 (ci := 5) rfl rfl (Nat.le_of_ble_eq_true rfl) ⟨Nat.le_of_ble_eq_true rfl, Nat.le_of_ble_eq_true rfl⟩ ⟨Nat.le_of_ble_eq_true rfl, Nat.le_of_ble_eq_true rfl⟩ (fun _ h => h) (fun H h => ⟨⟨_, h.1⟩, cm_removeAt hmb h (f := 507) (z := 5) (q := 13) hn (by omega) (by omega) (by omega) (by omega) (by omega)⟩) ?_
    refine mw_steps X 1 (pc' := 39) (lv' := [(3, .int (nI pl)), (2, .int (nI k)), (0, .ref mb), (1, .int x)]) (st' := [.ref mb]) rfl ?_
    refine mw_get X kf_X5_7.fl kc_5 rfl (v := .ref (mb + 1)) (fun H h => ⟨_, h.1, rfl⟩) ?_
    refine mw_steps X 4 (pc' := 47) (lv' := [(3, .int (nI pl)), (2, .int (nI k)), (0, .ref mb), (1, .int x)]) (st' := [.int (nI 1), .int ((nI 32) + (nI pl)), .ref (mb + 1)]) rfl ?_
    refine mw_iast X (I1 := md_I Γ mb (upd (mo_rm W 507 5 13 k) (32 + pl) (nI 1)) ρ) (32 + pl) (by simp only [nI_add, pk_mul]) rfl (fun H h => ⟨md_A1, _, _, h.2.1, by omega, by decide, fun H1 o c => h.stw o c⟩) ?_
    refine mw_steps X 2 (pc' := 50) (lv' := [(3, .int (nI pl)), (2, .int (nI k)), (0, .ref mb), (1, .int x)]) (st' := [.int (nI pl), .ref mb]) rfl ?_
    refine mw_cV1v X kd_X5_letOut kv_X5_letOut kl_X5_65 (ci := 5) rfl rfl (Nat.le_of_ble_eq_true rfl) ⟨Nat.le_of_ble_eq_true rfl, Nat.le_of_ble_eq_true rfl⟩ ⟨Nat.le_of_ble_eq_true rfl, Nat.le_of_ble_eq_true rfl⟩ (fun _ h => h) (fun H h => ⟨⟨_, h.1⟩, cm_letOut hmb h (iv_proved (iv_rma hv hf) hpl) hpl⟩) ?_
    exact mw_vret X rfl rfl (fun H h => ⟨rfl, by rw [show mo_prove W x = mo_letOut (upd (mo_rm W 507 5 13 k) (32 + pl) (nI 1)) pl from by exact ml_prove_t hk hf hpp hpl]; exact h⟩)
  · rw [show mo_ix (mo_fa W 1 1 x) (mo_n (W 13)) = -1 from if_neg hf]
    refine mw_steps X 1 (pc' := 9) (lv' := [(2, .int (-1)), (0, .ref mb), (1, .int x)]) (st' := [.int (-1)]) rfl ?_
    refine mw_if_lt X 53 rfl rfl (fun c9 => ?_) (fun c9 => absurd (by decide) c9)
    exact mw_vret X rfl rfl (fun H h => ⟨rfl, by rw [show mo_prove W x = W from by exact ml_prove_f hf]; exact h⟩)
set_option maxHeartbeats 4000000 in
set_option maxRecDepth 20000 in
theorem cm_isLive {l : Launch} {Γ : mw_C} {mb : Nat} (hmb : Γ.2.2.2 ≤ mb) {W : Nat → Int32} {ρ : md_R} {H : Heap} {c : Nat} {x : Int32} (hH : md_I Γ mb W ρ H) (hv : iv c W) : mw_Cr l Γ mX5_isLive 2 0 0 (md_A mb) [.ref mb, .int x] H (some (.int (mo_b (mo_live W x)))) (md_I Γ mb W ρ) := by
  obtain ⟨g, hg2, hg40, hg, -⟩ := hv.2.2.2.2.2.2.1
  have hlive := ml_live_in (x := x) hg (by omega) hg40
  refine mw_ofG (P := pX5_isLive) (by decide) (md_As hmb) oX5_isLive (Nat.le_of_ble_eq_true rfl) ?_
  intro pg e0 sg mg below meth cd X hs
  refine mw_pre (I' := md_I Γ mb W ρ) (fun H1 h1 => by rw [h1]; exact hH) ?_
  refine mw_steps X 4 (pc' := 4) (lv' := [(0, .ref mb), (1, .int x)]) (st' := [.ref mb, .long 0, .long x.toInt64]) rfl ?_
  refine mw_get X kf_X5_7.fl kc_5 rfl (v := .ref (mb + 1)) (fun H h => ⟨_, h.1, rfl⟩) ?_
  refine mw_steps X 1 (pc' := 8) (lv' := [(0, .ref mb), (1, .int x)]) (st' := [.int (nI 1), .ref (mb + 1), .long 0, .long x.toInt64]) rfl ?_
  refine mw_iald X (v := nI g) (1) rfl rfl (fun H h => ⟨_, _, h.2.1, by omega, by decide, hg⟩) ?_
  refine mw_steps X 3 (pc' := 12) (lv' := [(0, .ref mb), (1, .int x)]) (st' := [.long (((nI g) - (nI 1)).toInt64), .long 0, .long x.toInt64]) rfl ?_
  refine mw_cS3r X kd_X5_in ks_X5_in kl_X5_68 rfl (Nat.le_of_ble_eq_true rfl) ⟨Nat.le_of_ble_eq_true rfl, Nat.le_of_ble_eq_true rfl⟩ ⟨Nat.le_of_ble_eq_true rfl, Nat.le_of_ble_eq_true rfl⟩ (fun _ h => h) (fun H h => cm_in hmb h) ?_
  refine mw_if_eq X 35 rfl rfl (fun c15 => ?_) (fun c15 => ?_)
  · refine mw_steps X 1 (pc' := 36) (lv' := [(0, .ref mb), (1, .int x)]) (st' := [.int (nI 0)]) rfl ?_
    exact mw_zret X rfl (by decide) rfl (fun H h => ⟨congrArg (fun z => some (Value.int z)) (by first | rw [hlive, decide_eq_false c28]; rfl | rw [hlive, mo_b_z c15]; rfl), h⟩)
  · rw [mo_b_nz c15, Bool.true_and] at hlive
    obtain ⟨hx0, hxg⟩ := (ml_in0 (by omega) (by omega)).mp (mo_b_nz c15)
    obtain ⟨j, hj, rfl⟩ := ml_of_range hx0 hxg (by omega)
    rw [ml_n (by omega)] at hlive
    refine mw_steps X 1 (pc' := 19) (lv' := [(0, .ref mb), (1, .int (nI j))]) (st' := [.ref mb]) rfl ?_
    refine mw_get X kf_X5_7.fl kc_5 rfl (v := .ref (mb + 1)) (fun H h => ⟨_, h.1, rfl⟩) ?_
    refine mw_steps X 3 (pc' := 26) (lv' := [(0, .ref mb), (1, .int (nI j))]) (st' := [.int ((nI 47) + (nI j)), .ref (mb + 1)]) rfl ?_
    refine mw_iald X (v := W (47 + j)) (47 + j) (by simp only [nI_add, pk_mul]) rfl (fun H h => ⟨_, _, h.2.1, by omega, by decide, rfl⟩) ?_
    refine mw_steps X 1 (pc' := 28) (lv' := [(0, .ref mb), (1, .int (nI j))]) (st' := [.int (nI 1), .int (W (47 + j))]) rfl ?_
    refine mw_icmp_ne X 35 rfl rfl (fun c28 => ?_) (fun c28 => ?_)
    · refine mw_steps X 1 (pc' := 36) (lv' := [(0, .ref mb), (1, .int (nI j))]) (st' := [.int (nI 0)]) rfl ?_
      exact mw_zret X rfl (by decide) rfl (fun H h => ⟨congrArg (fun z => some (Value.int z)) (by first | rw [hlive, decide_eq_false c28]; rfl | rw [hlive, mo_b_z c15]; rfl), h⟩)
    · refine mw_steps X 2 (pc' := 36) (lv' := [(0, .ref mb), (1, .int (nI j))]) (st' := [.int (nI 1)]) rfl ?_
      exact mw_zret X rfl (by decide) rfl (fun H h => ⟨congrArg (fun z => some (Value.int z)) (by rw [hlive, decide_eq_true c28]; rfl), h⟩)
end
section
theorem ml_retire_f {W : Nat → Int32} {x own : Int32} (h : ¬ (mo_live W x = true ∧ ¬ x = own)) : mo_retire W x own = W := by unfold mo_retire; rw [if_neg h]
theorem ml_retire_full {W : Nat → Int32} {j g : Nat} {own : Int32} (hl : mo_live W (nI j) = true) (hne : ¬ nI j = own) (hj : j < 40) (hg : W 1 = nI g) (h : ¬ W 1 < nI 40) : mo_retire W (nI j) own = upd W (47 + j) (nI 0) := by
  unfold mo_retire
  rw [if_pos ⟨hl, hne⟩, if_neg h, ml_n (by omega)]
theorem ml_retire_new {W : Nat → Int32} {j g cu : Nat} {own : Int32} (hl : mo_live W (nI j) = true) (hne : ¬ nI j = own) (hj : j < 40) (hg : W 1 = nI g) (hg2 : g ≤ 40) (hcu : W 3 = nI cu) (hcu5 : cu < 5) (h : W 1 < nI 40) : mo_retire W (nI j) own = mo_goes (upd (upd (upd W (47 + j) (nI 0)) (47 + g) (nI 1)) 1 (nI g + nI 1)) 1 cu 3 (nI g) := by
  unfold mo_retire
  rw [if_pos ⟨hl, hne⟩, if_pos h, ml_n (by omega), hg, ml_n (by omega), hcu, ml_n (by omega)]
theorem ml_house_1 {W : Nat → Int32} {p y k : Nat} {name x : Int32} (h : mo_live W name = false) : mo_houseWhy W name y = 1 ∧ mo_house W p name y k x = W := by
  have h1 : mo_houseWhy W name y = 1 := by unfold mo_houseWhy; rw [if_neg (by rw [h]; decide)]
  exact ⟨h1, by unfold mo_house; rw [h1, if_neg (by decide)]⟩
theorem ml_house_3 {W : Nat → Int32} {p y k : Nat} {name x : Int32} (h : mo_live W name = true) (h2 : mo_bit W 1 y = true) : mo_houseWhy W name y = 3 ∧ mo_house W p name y k x = W := by
  have h1 : mo_houseWhy W name y = 3 := by unfold mo_houseWhy; rw [if_pos h, if_pos h2]
  exact ⟨h1, by unfold mo_house; rw [h1, if_neg (by decide)]⟩
theorem ml_house_0 {W : Nat → Int32} {p y k : Nat} {name x : Int32} (h : mo_live W name = true) (h2 : mo_bit W 1 y = false) : mo_houseWhy W name y = 0 ∧ mo_house W p name y k x = mo_letOut (mo_houseBy (mo_new (mo_houseGot W p k y) p k y) p k name x) p := by
  have h1 : mo_houseWhy W name y = 0 := by unfold mo_houseWhy; rw [if_pos h, if_neg (by rw [h2]; decide)]
  exact ⟨h1, by unfold mo_house mo_houseTook; rw [if_pos h1]⟩
theorem ml_new_k {G : Nat → Int32} {p k y : Nat} (h : ¬ (k = 0 ∨ 3 < k)) : mo_new G p k y = G := by unfold mo_new; rw [if_neg (fun q => h q.1)]
theorem ml_new_n {G : Nat → Int32} {p k y : Nat} (h : nI y ≤ G 6) : mo_new G p k y = G := by unfold mo_new; rw [if_neg (fun q => Int32.not_lt.mpr h q.2)]
theorem ml_new_y {G : Nat → Int32} {p k y : Nat} (h : k = 0 ∨ 3 < k) (h2 : ¬ nI y ≤ G 6) : mo_new G p k y = mo_follow (upd G 6 (nI y)) p := by unfold mo_new; rw [if_pos ⟨h, Int32.not_le.mp h2⟩]
theorem ml_guest_2 {W : Nat → Int32} {p y k : Nat} {x : Int32} (h : W (22 + p) < 0) : mo_guestWhy W p y = 2 ∧ mo_guest W p y k x = W := by
  have h1 : mo_guestWhy W p y = 2 := by unfold mo_guestWhy; rw [if_pos h]
  exact ⟨h1, by unfold mo_guest; rw [h1, if_neg (by decide)]⟩
theorem ml_guest_3 {W : Nat → Int32} {p y k : Nat} {x : Int32} (h : ¬ W (22 + p) < 0) (h2 : mo_bit W 0 y = true) : mo_guestWhy W p y = 3 ∧ mo_guest W p y k x = W := by
  have h1 : mo_guestWhy W p y = 3 := by unfold mo_guestWhy; rw [if_neg h, if_pos h2]
  exact ⟨h1, by unfold mo_guest; rw [h1, if_neg (by decide)]⟩
theorem ml_guest_0 {W : Nat → Int32} {p y k : Nat} {x : Int32} (h : ¬ W (22 + p) < 0) (h2 : mo_bit W 0 y = false) : mo_guestWhy W p y = 0 ∧ mo_guest W p y k x = mo_guestBy (mo_note W 0 y) p k x := by
  have h1 : mo_guestWhy W p y = 0 := by unfold mo_guestWhy; rw [if_neg h, if_neg (by rw [h2]; decide)]
  exact ⟨h1, by unfold mo_guest; rw [if_pos h1]⟩
theorem ml_sure_t {W : Nat → Int32} {x : Int32} {k pl : Nat} (hk : k = mo_fa W 0 1 x) (hf : k < mo_n (W 13)) (hp : W (507 + 5 * k + 2) = nI pl) (hpl : pl < 5) : mo_sure W x = mo_rm (upd W (27 + pl) (nI 1)) 507 5 13 k := by
  unfold mo_sure
  rw [← hk, if_pos hf, hp, ml_n (by omega)]
theorem ml_sure_f {W : Nat → Int32} {x : Int32} (hf : ¬ mo_fa W 0 1 x < mo_n (W 13)) : mo_sure W x = W := by unfold mo_sure; rw [if_neg hf]
theorem iv_goMid {W : Nat → Int32} {c p : Nat} (h : iv c W) (hp : p < 5) : iv c (upd (upd W 4 (W 2)) 2 (nI p)) := by
  obtain ⟨q, hq, h2⟩ := ml_c2 h
  obtain ⟨b1, b2, b3⟩ := h.2.2.2.2.2.2.2.2
  refine iv_cur h (fun j a => by rw [pk_un (by omega), pk_un (by omega)]) ⟨p, hp, pk_us⟩ ?_ (Or.inr ⟨q, hq, ?_⟩) ?_ ?_
  · rw [pk_un (by omega), pk_un (by omega)]; exact ml_c3 h
  · rw [pk_un (by omega), pk_us]; exact h2
  · rw [pk_un (by omega), pk_un (by omega)]; exact b2
  · rw [pk_un (by omega), pk_un (by omega), pk_un (by omega), pk_un (by omega)]; exact b3
theorem ml_least_is {W : Nat → Int32} {t : Nat} (ht : t < 40) (hy : W (87 + t) = nI 1) (hno : ∀ j, j < t → ¬ W (87 + j) = nI 1) : mo_least W = t := ml_fst_is ht (by simp [hy]) (fun j hj => by simp [hno j hj])
theorem ml_least_none {W : Nat → Int32} (hno : ∀ j, j < 40 → ¬ W (87 + j) = nI 1) : mo_least W = 40 := ml_fst_none (fun j hj => by simp [hno j hj])
theorem ml_forget_t {W : Nat → Int32} {p : Nat} (h : W (32 + p) = nI 1) : mo_forget W p = W := by unfold mo_forget; rw [if_pos h]
theorem ml_forget_f {W V : Nat → Int32} {p : Nat} (h : ¬ W (32 + p) = nI 1) (hV : V = mo_drop (upd (upd W (37 + p) (nI 0)) (42 + p) (nI 0)) p) : mo_forget W p = upd V 3 (if W 3 = nI p then W 5 else W 3) := by unfold mo_forget; rw [if_neg h, ← hV]
theorem ml_giveUp_t {W : Nat → Int32} {p : Nat} (h : W (22 + p) < 0 ∨ W (27 + p) = nI 1) : mo_giveUp W p = W := by unfold mo_giveUp; rw [if_pos h]
theorem ml_giveUp_f {W : Nat → Int32} {p : Nat} (h : ¬ W (22 + p) < 0) (h2 : ¬ W (27 + p) = nI 1) : mo_giveUp W p = mo_leave (mo_back W p) p := by unfold mo_giveUp; rw [if_neg (by rintro (q | q); exact h q; exact h2 q)]
theorem ml_back_f {W : Nat → Int32} {p : Nat} (h : ¬ (W 2 = nI p ∧ 0 ≤ W 4 ∧ 0 ≤ W (22 + mo_n (W 4)))) : mo_back W p = W := by unfold mo_back; rw [if_neg h]
theorem ml_back_t {W : Nat → Int32} {p f : Nat} (h : W 2 = nI p) (h2 : W 4 = nI f) (hf : f < 5) (h3 : ¬ W (22 + f) < 0) : mo_back W p = mo_goTo W f := by
  unfold mo_back
  rw [h2, ml_n (by omega), if_pos ⟨h, nI_pos' (by omega), Int32.not_lt.mp h3⟩]
theorem ml_look_1 {W : Nat → Int32} {k : Nat} (h : W 0 - W (507 + 5 * k + 3) < nI 3) : mo_stays W k = true ∧ mo_look W k = W := by
  exact ⟨by simp [mo_stays, h], by unfold mo_look; rw [if_pos h]⟩
theorem ml_look_2 {W : Nat → Int32} {k e p : Nat} (h : ¬ W 0 - W (507 + 5 * k + 3) < nI 3) (h2 : W (507 + 5 * k + 4) < nI 2) (he : W (507 + 5 * k) = nI e) (hp : W (507 + 5 * k + 2) = nI p) (he2 : e < 2) (hp5 : p < 5) : mo_stays W k = true ∧ mo_look W k = mo_goes (upd (upd W (507 + 5 * k + 4) (W (507 + 5 * k + 4) + nI 1)) (507 + 5 * k + 3) (W 0)) e p 1 (W (507 + 5 * k + 1)) := by
  exact ⟨by simp [mo_stays, h2], by unfold mo_look; rw [if_neg h, if_pos h2, he, hp, ml_n (by omega), ml_n (by omega)]⟩
theorem ml_look_3 {W : Nat → Int32} {k e p : Nat} (h : ¬ W 0 - W (507 + 5 * k + 3) < nI 3) (h2 : ¬ W (507 + 5 * k + 4) < nI 2) (he : W (507 + 5 * k) = nI e) (hp : W (507 + 5 * k + 2) = nI p) (he2 : e < 2) (hp5 : p < 5) : mo_stays W k = false ∧ mo_look W k = (if nI e = nI 1 then mo_forget (mo_rm W 507 5 13 k) p else mo_giveUp (mo_rm W 507 5 13 k) p) := by
  exact ⟨by simp [mo_stays, h, h2], by unfold mo_look; rw [if_neg h, if_neg h2, he, hp, ml_n (by omega)]⟩
end
section
/-! what each call answers and makes, on the row W -/
abbrev oU : Int32 := -1000000001
abbrev oO : Int32 := -1000000002
abbrev oN : Int32 := -1000000003
abbrev oF : Int32 := -1000000004
/-- a number from 0 on below n -/
def mo_bl (x : Int32) (n : Nat) : Bool := decide (0 ≤ x) && decide (x < nI n)
theorem mo_bl_t {x : Int32} {n : Nat} (h : mo_bl x n = true) (hn : n ≤ 100000) : ∃ j, j < n ∧ x = nI j := by
  simp only [mo_bl, Bool.and_eq_true, decide_eq_true_eq] at h
  exact ml_of_range h.1 h.2 hn
theorem mo_bl_n {j n : Nat} (hj : j < n) (hn : n ≤ 100000) : mo_bl (nI j) n = true := by
  simp only [mo_bl, Bool.and_eq_true, decide_eq_true_eq]
  exact ⟨nI_pos' (by omega), nI_lt hj (by omega)⟩
theorem mo_in_bl {x : Int32} {g : Nat} (hg : 0 < g) (hg2 : g ≤ 100000) : mo_in x.toInt64 0 (nI (g - 1)).toInt64 = mo_bl x g := by
  have h := ml_in0 (x := x) hg hg2
  rw [ml_pred hg] at h
  unfold mo_bl
  cases hb : mo_in x.toInt64 0 (nI (g - 1)).toInt64 with
  | true => rw [hb] at h; simpa using h.mp rfl
  | false =>
    rw [hb] at h
    have h3 : ¬ (0 ≤ x ∧ x < nI g) := fun q => by cases h.mpr q
    cases hc : (decide (0 ≤ x) && decide (x < nI g)) with
    | false => rfl
    | true =>
      rw [Bool.and_eq_true, decide_eq_true_eq, decide_eq_true_eq] at hc
      exact absurd hc h3
theorem mo_in_bl0 {x : Int32} : mo_in x.toInt64 0 (nI 0 - nI 1).toInt64 = mo_bl x 0 := by
  have e1 : mo_bl x 0 = false := by
    cases hb : mo_bl x 0 with
    | false => rfl
    | true => obtain ⟨j, hj, -⟩ := mo_bl_t hb (by omega); omega
  rw [e1]
  unfold mo_in
  rw [show (0 : Int64) = (0 : Int32).toInt64 by decide]
  rw [Bool.and_eq_false_iff, decide_eq_false_iff_not, decide_eq_false_iff_not, mb_wide_le, mb_wide_le]
  by_cases h : 0 ≤ x
  · right
    intro h2
    have h3 : (0 : Int32) ≤ nI 0 - nI 1 := by
      rw [Int32.le_iff_toInt_le] at *
      omega
    exact absurd h3 (by decide)
  · exact Or.inl h
/-- the count's place, whatever it is -/
theorem mo_in_cnt {x : Int32} {n : Nat} (hn : n ≤ 1000) : mo_in x.toInt64 0 (nI n - nI 1).toInt64 = mo_bl x n := by
  rcases Nat.eq_zero_or_pos n with rfl | h
  · exact mo_in_bl0
  · rw [ml_pred h]; exact mo_in_bl h (by omega)
def op_next (W : Nat → Int32) (e : Nat) : Int32 × (Nat → Int32) :=
  if W (18 + e) = nI 40 then (oF, W) else (W (18 + e), mo_goes (upd W (18 + e) (W (18 + e) + nI 1)) e (mo_n (W (2 + e))) 0 (W (18 + e)))
def op_open (W : Nat → Int32) (x : Int32) : Int32 × (Nat → Int32) :=
  if mo_bl x 5 = true then
    (if 0 ≤ W (22 + mo_n x) ∨ ¬ mo_least W < 40 then (oN, W)
     else (nI (mo_least W), mo_challenge (upd (upd (upd W (87 + mo_least W) (nI 2)) (22 + mo_n x) (nI (mo_least W))) (27 + mo_n x) (nI 0)) 0 (mo_n x)))
  else (oU, W)
def op_go (W : Nat → Int32) (x : Int32) : Int32 × (Nat → Int32) :=
  if mo_bl x 5 = true then (if W (22 + mo_n x) < 0 ∨ W 2 = x then (oN, W) else (mo_goTo W (mo_n x) 4, mo_goTo W (mo_n x))) else (oU, W)
def op_close (W : Nat → Int32) (x : Int32) : Int32 × (Nat → Int32) :=
  if mo_bl x 5 = true then (if W (22 + mo_n x) < 0 ∨ W 2 = x then (oN, W) else (W (22 + mo_n x), mo_close W (mo_n x))) else (oU, W)
def op_again (W : Nat → Int32) (x : Int32) : Int32 × (Nat → Int32) :=
  if mo_bl x 2 = true then (if W (20 + mo_n x) < W (18 + mo_n x) then (W (20 + mo_n x), mo_goes W (mo_n x) (mo_n (W (2 + mo_n x))) 0 (W (20 + mo_n x))) else (oN, W)) else (oU, W)
/-- LETTER k is taken: by what it is dropped; what is so then -/
def mo_why (W : Nat → Int32) (k : Nat) : Nat :=
  if W (327 + 6 * k) = 0 then mo_houseWhy (mo_rm W 327 6 11 k) (W (327 + 6 * k + 2)) (mo_n (W (327 + 6 * k + 3)))
  else mo_guestWhy (mo_rm W 327 6 11 k) (mo_n (W (327 + 6 * k + 1))) (mo_n (W (327 + 6 * k + 3)))
def mo_taken (W : Nat → Int32) (k : Nat) : Nat → Int32 :=
  if W (327 + 6 * k) = 0 then mo_house (mo_rm W 327 6 11 k) (mo_n (W (327 + 6 * k + 1))) (W (327 + 6 * k + 2)) (mo_n (W (327 + 6 * k + 3))) (mo_n (W (327 + 6 * k + 4))) (W (327 + 6 * k + 5))
  else mo_guest (mo_rm W 327 6 11 k) (mo_n (W (327 + 6 * k + 1))) (mo_n (W (327 + 6 * k + 3))) (mo_n (W (327 + 6 * k + 4))) (W (327 + 6 * k + 5))
def mo_arr (W : Nat → Int32) (k : Nat) : Nat → Int32 := if mo_why W k = 0 then mo_taken W k else upd (mo_taken W k) (6 + mo_why W k) (mo_taken W k (6 + mo_why W k) + nI 1)
def op_arrive (W : Nat → Int32) (x : Int32) : Int32 × (Nat → Int32) := if mo_bl x (mo_n (W 11)) = true then (nI (mo_why W (mo_n x)), mo_arr W (mo_n x)) else (oU, W)
def mo_lose (W : Nat → Int32) (k : Nat) : Nat → Int32 := upd (mo_rm W 327 6 11 k) 10 (W 10 + nI 1)
def op_lose (W : Nat → Int32) (x : Int32) : Int32 × (Nat → Int32) := if mo_bl x (mo_n (W 11)) = true then (nI (mo_n (W 11) - 1), mo_lose W (mo_n x)) else (oU, W)
def mo_twice (W : Nat → Int32) (k : Nat) : Nat → Int32 := upd (mo_put W (327 + 6 * mo_n (W 11)) 6 (fun j => W (327 + 6 * k + j))) 11 (W 11 + nI 1)
def op_twice (W : Nat → Int32) (x : Int32) : Int32 × (Nat → Int32) := if mo_bl x (mo_n (W 11)) = true then (if W 11 = nI 24 then (oF, W) else (W 11 + nI 1, mo_twice W (mo_n x))) else (oU, W)
def mo_good (name number kind value : Int32) : Bool := (decide (-1 ≤ name) && decide (name < nI 100)) && mo_bl number 10000 && mo_bl kind 6 && mo_bl value 100
def mo_forge (W : Nat → Int32) (a b c d e : Int32) : Nat → Int32 := upd (mo_put W (327 + 6 * mo_n (W 11)) 6 (mo_r6 (nI 0) a b c d e)) 11 (W 11 + nI 1)
def op_forge (W : Nat → Int32) (a b c d e : Int32) : Int32 × (Nat → Int32) :=
  if mo_bl a 5 = true then (if mo_good b c d e = true then (if W 11 = nI 24 then (oF, W) else (W 11 + nI 1, mo_forge W a b c d e)) else (oO, W)) else (oU, W)
/-- what is told -/
def mo_ha (W : Nat → Int32) (e : Nat) : Bool := decide (mo_n (W (19 - e)) ≤ mo_row W e)
def mo_settled (W : Nat → Int32) : Bool := decide (W 2 = W 3) && decide (W (32 + mo_n (W 2)) = nI 1) && decide (0 ≤ W (22 + mo_n (W 2))) && decide (W 11 = 0) && decide (W 12 = 0) && mo_ha W 0 && mo_ha W 1
def mo_wr (W bo ba bi : Nat → Int32) (n : Nat) : Nat := mo_fst (fun k => !decide (W (127 + 100 * mo_n (bo k) + mo_n (ba k)) = bi k)) n
def an_told (W : Nat → Int32) (ρ : md_R) (j : Nat) : Int32 :=
  if j = 0 then W 0 else if j = 1 then W 11 else if j = 2 then W 12 else if j = 3 then W 13 else if j = 4 then W 2 else if j = 5 then W 3 else if j = 6 then W 4 else if j = 7 then W 5 else if j = 8 then W 1
  else if j = 9 then nI (mo_cnt (fun k => decide (W (47 + k) = nI 1)) 40) else if j = 10 then nI (mo_cnt (fun k => decide (W (87 + k) = nI 1)) 40) else if j = 11 then W 6 else if j = 12 then W 7 else if j = 13 then W 8 else if j = 14 then W 9 else if j = 15 then W 10
  else if j = 16 then mo_b (mo_settled W) else if j = 17 then ρ.2.2.2.2.2.2 else if j = 18 then mo_ix (mo_wr W ρ.2.2.2.1 ρ.2.2.2.2.1 ρ.2.2.2.2.2.1 (mo_n ρ.2.2.2.2.2.2)) (mo_n ρ.2.2.2.2.2.2) else ρ.2.1
def op_told (W : Nat → Int32) (ρ : md_R) (x : Int32) : Int32 := if mo_bl x 20 = true then an_told W ρ (mo_n x) else oO
def an_end (W : Nat → Int32) (e j : Nat) : Int32 :=
  if j = 0 then W (18 + e) else if j = 1 then nI (mo_cnt (fun k => decide (W (127 + 100 * e + k) = nI 1)) 100) else if j = 2 then nI (mo_row W e) else if j = 3 then W (20 + e) else if j = 4 then W (14 + e) else W (16 + e)
def op_end (W : Nat → Int32) (x y : Int32) : Int32 := if mo_bl x 2 = true then (if mo_bl y 6 = true then an_end W (mo_n x) (mo_n y) else oO) else oU
def mo_hf (W : Nat → Int32) (p : Nat) : Nat := mo_cnt (fun k => decide (W (471 + 3 * k) = nI p)) (mo_n (W 12))
def an_place (W : Nat → Int32) (p j : Nat) : Int32 :=
  if j = 0 then W (22 + p) else if j = 1 then W (27 + p) else if j = 2 then W (32 + p) else if j = 3 then W (37 + p) else if j = 4 then W (42 + p) else nI (mo_hf W p)
def op_place (W : Nat → Int32) (x y : Int32) : Int32 := if mo_bl x 5 = true then (if mo_bl y 6 = true then an_place W (mo_n x) (mo_n y) else oO) else oU
def op_letter (W : Nat → Int32) (x y : Int32) : Int32 := if mo_bl x (mo_n (W 11)) = true then (if mo_bl y 6 = true then W (327 + 6 * mo_n x + mo_n y) else oO) else oU
def op_asked (W : Nat → Int32) (x y : Int32) : Int32 := if mo_bl x (mo_n (W 13)) = true then (if mo_bl y 5 = true then W (507 + 5 * mo_n x + mo_n y) else oO) else oU
def op_held (W : Nat → Int32) (x y : Int32) : Int32 := if mo_bl x (mo_n (W 12)) = true then (if mo_bl y 3 = true then W (471 + 3 * mo_n x + mo_n y) else oO) else oU
def op_name (W : Nat → Int32) (x : Int32) : Int32 := if mo_bl x (mo_n (W 1)) = true then W (47 + mo_n x) + (if W (87 + mo_n x) = nI 1 then nI 2 else nI 0) else oU
def op_word (W : Nat → Int32) (x y : Int32) : Int32 := if mo_bl x 2 = true then (if mo_bl y (mo_n (W (19 - mo_n x))) = true then W (127 + 100 * mo_n x + mo_n y) else oU) else oU
/-- a draw: the seed's next, the number below n -/
def mo_seed (sd : Int32) : Int32 := ((sd.toInt64 * 1103515245 + 12345) - (sd.toInt64 * 1103515245 + 12345) / 2147483648 * 2147483648).toInt32
def mo_draw (sd n : Int32) : Int32 := mo_seed sd / 65536 - mo_seed sd / 65536 / n * n
/-- one of the draws: the answer, the row, the seed -/
def op_chance (W : Nat → Int32) (sd : Int32) : Int32 × (Nat → Int32) × Int32 :=
  let d := mo_draw sd (nI 10)
  let s1 := mo_seed sd
  if d < nI 5 then
    let x := if 0 < W 11 then mo_draw s1 (W 11) else -1
    let s2 := if 0 < W 11 then mo_seed s1 else s1
    if d < nI 4 then ((op_arrive W x).1, (op_arrive W x).2, s2) else ((op_lose W x).1, (op_lose W x).2, s2)
  else if d = nI 5 then ((op_next W 0).1, (op_next W 0).2, s1)
  else if d = nI 6 then ((op_next W 1).1, (op_next W 1).2, s1)
  else if d = nI 7 then (mo_tick W 13, mo_tick W, s1)
  else if d = nI 8 then
    let p := mo_draw s1 (nI 5)
    if 0 ≤ W (22 + mo_n p) then ((op_go W p).1, (op_go W p).2, mo_seed s1) else ((op_open W p).1, (op_open W p).2, mo_seed s1)
  else ((op_again W (mo_draw s1 (nI 2))).1, (op_again W (mo_draw s1 (nI 2))).2, mo_seed s1)
def mo_drift : Nat → (Nat → Int32) × Int32 → (Nat → Int32) × Int32
  | 0, q => q
  | n + 1, q => mo_drift n ((op_chance q.1 q.2).2.1, (op_chance q.1 q.2).2.2)
end
section
set_option maxHeartbeats 4000000 in
set_option maxRecDepth 20000 in
theorem cm_retire {l : Launch} {Γ : mw_C} {mb : Nat} (hmb : Γ.2.2.2 ≤ mb) {W : Nat → Int32} {ρ : md_R} {H : Heap} {c : Nat} {x own : Int32} (hH : md_I Γ mb W ρ H) (hv : iv c W) : mw_Cr l Γ mX5_retire 4 0 0 (md_A mb) [.ref mb, .int x, .int own] H none (md_I Γ mb (mo_retire W x own) ρ) := by
  obtain ⟨g, hg2, hg40, hg, -⟩ := hv.2.2.2.2.2.2.1
  obtain ⟨cu, hcu5, hcu⟩ := ml_c3 hv
  have hlive := ml_live_in (x := x) hg (by omega) hg40
  refine mw_ofG (P := pX5_retire) (by decide) (md_As hmb) oX5_retire (Nat.le_of_ble_eq_true rfl) ?_
  intro pg e0 sg mg below meth cd X hs
  refine mw_pre (I' := md_I Γ mb W ρ) (fun H1 h1 => by rw [h1]; exact hH) ?_
  refine mw_steps X 4 (pc' := 4) (lv' := [(0, .ref mb), (1, .int x), (2, .int own)]) (st' := [.ref mb, .long 0, .long x.toInt64]) rfl ?_
  refine mw_get X kf_X5_7.fl kc_5 rfl (v := .ref (mb + 1)) (fun H h => ⟨_, h.1, rfl⟩) ?_
  refine mw_steps X 1 (pc' := 8) (lv' := [(0, .ref mb), (1, .int x), (2, .int own)]) (st' := [.int (nI 1), .ref (mb + 1), .long 0, .long x.toInt64]) rfl ?_
  refine mw_iald X (v := nI g) (1) rfl rfl (fun H h => ⟨_, _, h.2.1, by omega, by decide, hg⟩) ?_
  refine mw_steps X 3 (pc' := 12) (lv' := [(0, .ref mb), (1, .int x), (2, .int own)]) (st' := [.long (((nI g) - (nI 1)).toInt64), .long 0, .long x.toInt64]) rfl ?_
  refine mw_cS3r X kd_X5_in ks_X5_in kl_X5_68 rfl (Nat.le_of_ble_eq_true rfl) ⟨Nat.le_of_ble_eq_true rfl, Nat.le_of_ble_eq_true rfl⟩ ⟨Nat.le_of_ble_eq_true rfl, Nat.le_of_ble_eq_true rfl⟩ (fun _ h => h) (fun H h => cm_in hmb h) ?_
  refine mw_if_eq X 40 rfl rfl (fun c15 => ?_) (fun c15 => ?_)
  · refine mw_steps X 3 (pc' := 43) (lv' := [(3, .int (nI 0)), (0, .ref mb), (1, .int x), (2, .int own)]) (st' := [.int (nI 0)]) rfl ?_
    refine mw_if_eq X 110 rfl rfl (fun c43 => ?_) (fun c43 => absurd (by decide) c43)
    exact mw_vret X rfl rfl (fun H h => ⟨rfl, by rw [show mo_retire W x own = W from by exact ml_retire_f (by first | (rw [hlive, mo_b_z c15]; exact fun q => by cases q.1) | (rw [hlive]; exact fun q => c28 (of_decide_eq_true q.1)) | exact fun q => q.2 c33)]; exact h⟩)
  · rw [mo_b_nz c15, Bool.true_and] at hlive
    obtain ⟨hx0, hxg⟩ := (ml_in0 (by omega) (by omega)).mp (mo_b_nz c15)
    obtain ⟨j, hj, rfl⟩ := ml_of_range hx0 hxg (by omega)
    rw [ml_n (by omega)] at hlive
    refine mw_steps X 1 (pc' := 19) (lv' := [(0, .ref mb), (1, .int (nI j)), (2, .int own)]) (st' := [.ref mb]) rfl ?_
    refine mw_get X kf_X5_7.fl kc_5 rfl (v := .ref (mb + 1)) (fun H h => ⟨_, h.1, rfl⟩) ?_
    refine mw_steps X 3 (pc' := 26) (lv' := [(0, .ref mb), (1, .int (nI j)), (2, .int own)]) (st' := [.int ((nI 47) + (nI j)), .ref (mb + 1)]) rfl ?_
    refine mw_iald X (v := W (47 + j)) (47 + j) (by simp only [nI_add, pk_mul]) rfl (fun H h => ⟨_, _, h.2.1, by omega, by decide, rfl⟩) ?_
    refine mw_steps X 1 (pc' := 28) (lv' := [(0, .ref mb), (1, .int (nI j)), (2, .int own)]) (st' := [.int (nI 1), .int (W (47 + j))]) rfl ?_
    refine mw_icmp_ne X 40 rfl rfl (fun c28 => ?_) (fun c28 => ?_)
    · refine mw_steps X 3 (pc' := 43) (lv' := [(3, .int (nI 0)), (0, .ref mb), (1, .int (nI j)), (2, .int own)]) (st' := [.int (nI 0)]) rfl ?_
      refine mw_if_eq X 110 rfl rfl (fun c43 => ?_) (fun c43 => absurd (by decide) c43)
      exact mw_vret X rfl rfl (fun H h => ⟨rfl, by rw [show mo_retire W (nI j) own = W from by exact ml_retire_f (by first | (rw [hlive, mo_b_z c15]; exact fun q => by cases q.1) | (rw [hlive]; exact fun q => c28 (of_decide_eq_true q.1)) | exact fun q => q.2 c33)]; exact h⟩)
    · refine mw_steps X 2 (pc' := 33) (lv' := [(0, .ref mb), (1, .int (nI j)), (2, .int own)]) (st' := [.int own, .int (nI j)]) rfl ?_
      refine mw_icmp_eq X 40 rfl rfl (fun c33 => ?_) (fun c33 => ?_)
      · refine mw_steps X 3 (pc' := 43) (lv' := [(3, .int (nI 0)), (0, .ref mb), (1, .int (nI j)), (2, .int own)]) (st' := [.int (nI 0)]) rfl ?_
        refine mw_if_eq X 110 rfl rfl (fun c43 => ?_) (fun c43 => absurd (by decide) c43)
        exact mw_vret X rfl rfl (fun H h => ⟨rfl, by rw [show mo_retire W (nI j) own = W from by exact ml_retire_f (by first | (rw [hlive, mo_b_z c15]; exact fun q => by cases q.1) | (rw [hlive]; exact fun q => c28 (of_decide_eq_true q.1)) | exact fun q => q.2 c33)]; exact h⟩)
      · refine mw_steps X 4 (pc' := 43) (lv' := [(3, .int (nI 1)), (0, .ref mb), (1, .int (nI j)), (2, .int own)]) (st' := [.int (nI 1)]) rfl ?_
        refine mw_if_eq X 110 rfl rfl (fun c43 => absurd c43 (by decide)) (fun c43 => ?_)
        refine mw_steps X 1 (pc' := 47) (lv' := [(3, .int (nI 1)), (0, .ref mb), (1, .int (nI j)), (2, .int own)]) (st' := [.ref mb]) rfl ?_
        refine mw_get X kf_X5_7.fl kc_5 rfl (v := .ref (mb + 1)) (fun H h => ⟨_, h.1, rfl⟩) ?_
        refine mw_steps X 4 (pc' := 55) (lv' := [(3, .int (nI 1)), (0, .ref mb), (1, .int (nI j)), (2, .int own)]) (st' := [.int (nI 0), .int ((nI 47) + (nI j)), .ref (mb + 1)]) rfl ?_
        refine mw_iast X (I1 := md_I Γ mb (upd W (47 + j) (nI 0)) ρ) (47 + j) (by simp only [nI_add, pk_mul]) rfl (fun H h => ⟨md_A1, _, _, h.2.1, by omega, by decide, fun H1 o c => h.stw o c⟩) ?_
        refine mw_steps X 1 (pc' := 57) (lv' := [(3, .int (nI 1)), (0, .ref mb), (1, .int (nI j)), (2, .int own)]) (st' := [.ref mb]) rfl ?_
        refine mw_get X kf_X5_7.fl kc_5 rfl (v := .ref (mb + 1)) (fun H h => ⟨_, h.1, rfl⟩) ?_
        refine mw_steps X 1 (pc' := 61) (lv' := [(3, .int (nI 1)), (0, .ref mb), (1, .int (nI j)), (2, .int own)]) (st' := [.int (nI 1), .ref (mb + 1)]) rfl ?_
        refine mw_iald X (v := nI g) (1) rfl rfl (fun H h => ⟨_, _, h.2.1, by omega, by decide, (by simp (disch := omega) only [pk_un]; exact hg)⟩) ?_
        refine mw_steps X 1 (pc' := 64) (lv' := [(3, .int (nI 1)), (0, .ref mb), (1, .int (nI j)), (2, .int own)]) (st' := [.int (nI 40), .int (nI g)]) rfl ?_
        refine mw_icmp_ge X 110 rfl rfl (fun c64 => ?_) (fun c64 => ?_)
        · exact mw_vret X rfl rfl (fun H h => ⟨rfl, by rw [show mo_retire W (nI j) own = upd W (47 + j) (nI 0) from by exact ml_retire_full (by rw [hlive]; exact decide_eq_true c28) c33 (by omega) hg (by rw [hg]; exact Int32.not_lt.mpr c64)]; exact h⟩)
        · refine mw_steps X 1 (pc' := 68) (lv' := [(3, .int (nI 1)), (0, .ref mb), (1, .int (nI j)), (2, .int own)]) (st' := [.ref mb]) rfl ?_
          refine mw_get X kf_X5_7.fl kc_5 rfl (v := .ref (mb + 1)) (fun H h => ⟨_, h.1, rfl⟩) ?_
          refine mw_steps X 1 (pc' := 72) (lv' := [(3, .int (nI 1)), (0, .ref mb), (1, .int (nI j)), (2, .int own)]) (st' := [.int (nI 1), .ref (mb + 1)]) rfl ?_
          refine mw_iald X (v := nI g) (1) rfl rfl (fun H h => ⟨_, _, h.2.1, by omega, by decide, (by simp (disch := omega) only [pk_un]; exact hg)⟩) ?_
          refine mw_steps X 2 (pc' := 76) (lv' := [(4, .int (nI g)), (3, .int (nI 1)), (0, .ref mb), (1, .int (nI j)), (2, .int own)]) (st' := [.ref mb]) rfl ?_
          refine mw_get X kf_X5_7.fl kc_5 rfl (v := .ref (mb + 1)) (fun H h => ⟨_, h.1, rfl⟩) ?_
          refine mw_steps X 4 (pc' := 85) (lv' := [(4, .int (nI g)), (3, .int (nI 1)), (0, .ref mb), (1, .int (nI j)), (2, .int own)]) (st' := [.int (nI 1), .int ((nI 47) + (nI g)), .ref (mb + 1)]) rfl ?_
          refine mw_iast X (I1 := md_I Γ mb (upd (upd W (47 + j) (nI 0)) (47 + g) (nI 1)) ρ) (47 + g) (by simp only [nI_add, pk_mul]) rfl (fun H h => ⟨md_A1, _, _, h.2.1, by omega, by decide, fun H1 o c => h.stw o c⟩) ?_
          refine mw_steps X 1 (pc' := 87) (lv' := [(4, .int (nI g)), (3, .int (nI 1)), (0, .ref mb), (1, .int (nI j)), (2, .int own)]) (st' := [.ref mb]) rfl ?_
          refine mw_get X kf_X5_7.fl kc_5 rfl (v := .ref (mb + 1)) (fun H h => ⟨_, h.1, rfl⟩) ?_
          refine mw_steps X 2 (pc' := 92) (lv' := [(4, .int (nI g)), (3, .int (nI 1)), (0, .ref mb), (1, .int (nI j)), (2, .int own)]) (st' := [.int (nI 1), .ref (mb + 1), .int (nI 1), .ref (mb + 1)]) rfl ?_
          refine mw_iald X (v := nI g) (1) rfl rfl (fun H h => ⟨_, _, h.2.1, by omega, by decide, (by simp (disch := omega) only [pk_un]; exact hg)⟩) ?_
          refine mw_steps X 2 (pc' := 95) (lv' := [(4, .int (nI g)), (3, .int (nI 1)), (0, .ref mb), (1, .int (nI j)), (2, .int own)]) (st' := [.int ((nI g) + (nI 1)), .int (nI 1), .ref (mb + 1)]) rfl ?_
          refine mw_iast X (I1 := md_I Γ mb (upd (upd (upd W (47 + j) (nI 0)) (47 + g) (nI 1)) (1) ((nI g) + (nI 1))) ρ) (1) rfl rfl (fun H h => ⟨md_A1, _, _, h.2.1, by omega, by decide, fun H1 o c => h.stw o c⟩) ?_
          refine mw_steps X 3 (pc' := 99) (lv' := [(4, .int (nI g)), (3, .int (nI 1)), (0, .ref mb), (1, .int (nI j)), (2, .int own)]) (st' := [.ref mb, .int (nI 1), .ref mb]) rfl ?_
          refine mw_get X kf_X5_7.fl kc_5 rfl (v := .ref (mb + 1)) (fun H h => ⟨_, h.1, rfl⟩) ?_
          refine mw_steps X 1 (pc' := 103) (lv' := [(4, .int (nI g)), (3, .int (nI 1)), (0, .ref mb), (1, .int (nI j)), (2, .int own)]) (st' := [.int (nI 3), .ref (mb + 1), .int (nI 1), .ref mb]) rfl ?_
          refine mw_iald X (v := nI cu) (3) rfl rfl (fun H h => ⟨_, _, h.2.1, by omega, by decide, (by simp (disch := omega) only [pk_un]; exact hcu)⟩) ?_
          refine mw_steps X 2 (pc' := 107) (lv' := [(4, .int (nI g)), (3, .int (nI 1)), (0, .ref mb), (1, .int (nI j)), (2, .int own)]) (st' := [.int (nI g), .int (nI 3), .int (nI cu), .int (nI 1), .ref mb]) rfl ?_
          refine mw_cV4v X kd_X5_goes kv_X5_goes kl_X5_47 (ci := 5) rfl rfl (Nat.le_of_ble_eq_true rfl) ⟨Nat.le_of_ble_eq_true rfl, Nat.le_of_ble_eq_true rfl⟩ ⟨Nat.le_of_ble_eq_true rfl, Nat.le_of_ble_eq_true rfl⟩ (fun _ h => h) (fun H h => ⟨⟨_, h.1⟩, cm_goes hmb h (e := 1) (k := 3) (hv.1.cg (fun j a b => by simp (disch := omega) only [pk_un])) (by omega) hcu5 (by omega)⟩) ?_
          exact mw_vret X rfl rfl (fun H h => ⟨rfl, by rw [show mo_retire W (nI j) own = mo_goes (upd (upd (upd W (47 + j) (nI 0)) (47 + g) (nI 1)) (1) ((nI g) + (nI 1))) 1 cu 3 (nI g) from by exact ml_retire_new (by rw [hlive]; exact decide_eq_true c28) c33 (by omega) hg hg40 hcu hcu5 (by rw [hg]; exact Int32.not_le.mp c64)]; exact h⟩)
set_option maxHeartbeats 4000000 in
set_option maxRecDepth 20000 in
theorem cm_house0 {l : Launch} {Γ : mw_C} {mb : Nat} (hmb : Γ.2.2.2 ≤ mb) {W : Nat → Int32} {ρ : md_R} {H : Heap} {p y c : Nat} {name x : Int32} (hH : md_I Γ mb W ρ H) (hv : iv (c + 25) W) (hp : p < 5) (hy : y < 32768) (hvx : iv_v 0 0 x) : mw_Cr l Γ mX5_takenByHouse 7 0 0 (md_A mb) [.ref mb, .int (nI p), .int name, .int (nI y), .int (nI 0), .int x] H (some (.int (nI (mo_houseWhy W name y)))) (md_I Γ mb (mo_house W p name y 0 x) ρ) := by
  obtain ⟨v, hv100, hxv⟩ := hvx.1 rfl
  refine mw_ofG (P := pX5_takenByHouse) (by decide) (md_As hmb) oX5_takenByHouse (Nat.le_of_ble_eq_true rfl) ?_
  intro pg e0 sg mg below meth cd X hs
  refine mw_pre (I' := md_I Γ mb W ρ) (fun H1 h1 => by rw [h1]; exact hH) ?_
  refine mw_steps X 2 (pc' := 2) (lv' := [(0, .ref mb), (1, .int (nI p)), (2, .int name), (3, .int (nI y)), (4, .int (nI 0)), (5, .int x)]) (st' := [.int name, .ref mb]) rfl ?_
  refine mw_cV1r X kd_X5_isLive kv_X5_isLive kl_X5_72 (ci := 5) rfl rfl (Nat.le_of_ble_eq_true rfl) ⟨Nat.le_of_ble_eq_true rfl, Nat.le_of_ble_eq_true rfl⟩ ⟨Nat.le_of_ble_eq_true rfl, Nat.le_of_ble_eq_true rfl⟩ (fun _ h => h) (fun H h => ⟨⟨_, h.1⟩, cm_isLive hmb h hv⟩) ?_
  refine mw_if_ne X 10 rfl rfl (fun c5 => ?_) (fun c5 => ?_)
  · refine mw_steps X 3 (pc' := 13) (lv' := [(0, .ref mb), (1, .int (nI p)), (2, .int name), (3, .int (nI y)), (4, .int (nI 0)), (5, .int x)]) (st' := [.int (nI y), .int (nI 1), .ref mb]) rfl ?_
    refine mw_cV2r X kd_X5_took kv_X5_took kl_X5_76 (ci := 5) rfl rfl (Nat.le_of_ble_eq_true rfl) ⟨Nat.le_of_ble_eq_true rfl, Nat.le_of_ble_eq_true rfl⟩ ⟨Nat.le_of_ble_eq_true rfl, Nat.le_of_ble_eq_true rfl⟩ (fun _ h => h) (fun H h => ⟨⟨_, h.1⟩, cm_took hmb h (e := 1) (by omega) hy⟩) ?_
    refine mw_if_eq X 21 rfl rfl (fun c16 => ?_) (fun c16 => ?_)
    · refine mw_steps X 3 (pc' := 24) (lv' := [(0, .ref mb), (1, .int (nI p)), (2, .int name), (3, .int (nI y)), (4, .int (nI 0)), (5, .int x)]) (st' := [.int (nI y), .int (nI 1), .ref mb]) rfl ?_
      refine mw_cV2v X kd_X5_note kv_X5_note kl_X5_79 (ci := 5) rfl rfl (Nat.le_of_ble_eq_true rfl) ⟨Nat.le_of_ble_eq_true rfl, Nat.le_of_ble_eq_true rfl⟩ ⟨Nat.le_of_ble_eq_true rfl, Nat.le_of_ble_eq_true rfl⟩ (fun _ h => h) (fun H h => ⟨⟨_, h.1⟩, cm_note hmb h (e := 1) (by omega) hy⟩) ?_
      have hn37 : mo_note W 1 y (37 + p) = W (37 + p) := pk_un (by omega)
      refine mw_steps X 1 (pc' := 28) (lv' := [(0, .ref mb), (1, .int (nI p)), (2, .int name), (3, .int (nI y)), (4, .int (nI 0)), (5, .int x)]) (st' := [.ref mb]) rfl ?_
      refine mw_get X kf_X5_7.fl kc_5 rfl (v := .ref (mb + 1)) (fun H h => ⟨_, h.1, rfl⟩) ?_
      refine mw_steps X 4 (pc' := 36) (lv' := [(0, .ref mb), (1, .int (nI p)), (2, .int name), (3, .int (nI y)), (4, .int (nI 0)), (5, .int x)]) (st' := [.int ((nI 37) + (nI p)), .ref (mb + 1), .int ((nI 37) + (nI p)), .ref (mb + 1)]) rfl ?_
      refine mw_iald X (v := W (37 + p)) (37 + p) (by simp only [nI_add, pk_mul]) rfl (fun H h => ⟨_, _, h.2.1, by omega, by decide, hn37⟩) ?_
      refine mw_steps X 1 (pc' := 39) (lv' := [(0, .ref mb), (1, .int (nI p)), (2, .int name), (3, .int (nI y)), (4, .int (nI 0)), (5, .int x)]) (st' := [.int (nI 0), .int (W (37 + p)), .int ((nI 37) + (nI p)), .ref (mb + 1)]) rfl ?_
      refine mw_cS1r X kd_X5_sizeOf ks_X5_sizeOf kl_X5_25 rfl (Nat.le_of_ble_eq_true rfl) ⟨Nat.le_of_ble_eq_true rfl, Nat.le_of_ble_eq_true rfl⟩ ⟨Nat.le_of_ble_eq_true rfl, Nat.le_of_ble_eq_true rfl⟩ (fun _ h => h) (fun H h => cm_sizeOf hmb (k := 0) (by omega) h) ?_
      refine mw_steps X 1 (pc' := 43) (lv' := [(0, .ref mb), (1, .int (nI p)), (2, .int name), (3, .int (nI y)), (4, .int (nI 0)), (5, .int x)]) (st' := [.int ((W (37 + p)) + (mw_sz 0)), .int ((nI 37) + (nI p)), .ref (mb + 1)]) rfl ?_
      refine mw_iast X (I1 := md_I Γ mb (upd (mo_note W 1 y) (37 + p) ((W (37 + p)) + (mw_sz 0))) ρ) (37 + p) (by simp only [nI_add, pk_mul]) rfl (fun H h => ⟨md_A1, _, _, h.2.1, by omega, by decide, fun H1 o c => h.stw o c⟩) ?_
      obtain ⟨G, hG⟩ : ∃ G, G = mo_houseGot W p 0 y := ⟨_, rfl⟩
      rw [show upd (mo_note W 1 y) (37 + p) ((W (37 + p)) + (mw_sz 0)) = G from hG.symm]
      have hiG : iv (c + 25) G := by rw [hG]; exact iv_got hv hp
      refine mw_steps X 1 (pc' := 46) (lv' := [(0, .ref mb), (1, .int (nI p)), (2, .int name), (3, .int (nI y)), (4, .int (nI 0)), (5, .int x)]) (st' := [.int (nI 0)]) rfl ?_
      refine mw_if_eq X 55 rfl rfl (fun c46 => ?_) (fun c46 => absurd (by decide) c46)
      refine mw_steps X 2 (pc' := 57) (lv' := [(0, .ref mb), (1, .int (nI p)), (2, .int name), (3, .int (nI y)), (4, .int (nI 0)), (5, .int x)]) (st' := [.ref mb, .int (nI y)]) rfl ?_
      refine mw_get X kf_X5_7.fl kc_5 rfl (v := .ref (mb + 1)) (fun H h => ⟨_, h.1, rfl⟩) ?_
      refine mw_steps X 1 (pc' := 62) (lv' := [(0, .ref mb), (1, .int (nI p)), (2, .int name), (3, .int (nI y)), (4, .int (nI 0)), (5, .int x)]) (st' := [.int (nI 6), .ref (mb + 1), .int (nI y)]) rfl ?_
      refine mw_iald X (v := G (6)) (6) rfl rfl (fun H h => ⟨_, _, h.2.1, by omega, by decide, rfl⟩) ?_
      refine mw_icmp_le X 79 rfl rfl (fun c63 => ?_) (fun c63 => ?_)
      · rw [show G = mo_new G p 0 y from by first | exact (ml_new_k (by decide)).symm | exact (ml_new_n c63).symm | exact (ml_new_y (by decide) c63).symm]
        have hiN : iv (c + 24) (mo_new G p 0 y) := iv_new hiG hp
        obtain ⟨N, hN⟩ : ∃ N, N = mo_new G p 0 y := ⟨_, rfl⟩
        rw [← hN] at hiN ⊢
        subst hxv
        refine mw_steps X 1 (pc' := 81) (lv' := [(0, .ref mb), (1, .int (nI p)), (2, .int name), (3, .int (nI y)), (4, .int (nI 0)), (5, .int (nI v))]) (st' := [.int (nI 0)]) rfl ?_
        refine mw_tsIn X 0 rfl (by decide) 120 rfl (by decide) rfl rfl ?_
        refine mw_steps X 4 (pc' := 125) (lv' := [(0, .ref mb), (1, .int (nI p)), (2, .int name), (3, .int (nI y)), (4, .int (nI 0)), (5, .int (nI v))]) (st' := [.int (nI 1), .int (nI v), .int (nI 1), .ref mb]) rfl ?_
        refine mw_cV3v X kd_X5_word kv_X5_word kl_X5_85 (ci := 5) rfl rfl (Nat.le_of_ble_eq_true rfl) ⟨Nat.le_of_ble_eq_true rfl, Nat.le_of_ble_eq_true rfl⟩ ⟨Nat.le_of_ble_eq_true rfl, Nat.le_of_ble_eq_true rfl⟩ (fun _ h => h) (fun H h => ⟨⟨_, h.1⟩, cm_word hmb h (e := 1) hiN (by omega) hv100⟩) ?_
        refine mw_steps X 3 (pc' := 179) (lv' := [(0, .ref mb), (1, .int (nI p)), (2, .int name), (3, .int (nI y)), (4, .int (nI 0)), (5, .int (nI v))]) (st' := [.int (nI p), .ref mb]) rfl ?_
        rw [show mo_word N 1 v = mo_houseBy N p 0 name (nI v) from Eq.symm (by rw [ml_hb0, ml_n (by omega)])]
        refine mw_cV1v X kd_X5_letOut kv_X5_letOut kl_X5_65 (ci := 5) rfl rfl (Nat.le_of_ble_eq_true rfl) ⟨Nat.le_of_ble_eq_true rfl, Nat.le_of_ble_eq_true rfl⟩ ⟨Nat.le_of_ble_eq_true rfl, Nat.le_of_ble_eq_true rfl⟩ (fun _ h => h) (fun H h => ⟨⟨_, h.1⟩, cm_letOut hmb h (c := c) (iv_houseBy (c := c + 12) hiN hp (by omega) hvx) hp⟩) ?_
        refine mw_steps X 1 (pc' := 183) (lv' := [(0, .ref mb), (1, .int (nI p)), (2, .int name), (3, .int (nI y)), (4, .int (nI 0)), (5, .int (nI v))]) (st' := [.int (nI 0)]) rfl ?_
        exact mw_iret X rfl rfl (fun H h => ⟨by rw [(ml_house_0 (p := p) (k := 0) (x := (nI v)) (mo_b_nz c5) (mo_b_z c16)).1], by rw [(ml_house_0 (mo_b_nz c5) (mo_b_z c16)).2, ← hG, ← hN]; exact h⟩)
      · refine mw_steps X 1 (pc' := 67) (lv' := [(0, .ref mb), (1, .int (nI p)), (2, .int name), (3, .int (nI y)), (4, .int (nI 0)), (5, .int x)]) (st' := [.ref mb]) rfl ?_
        refine mw_get X kf_X5_7.fl kc_5 rfl (v := .ref (mb + 1)) (fun H h => ⟨_, h.1, rfl⟩) ?_
        refine mw_steps X 2 (pc' := 73) (lv' := [(0, .ref mb), (1, .int (nI p)), (2, .int name), (3, .int (nI y)), (4, .int (nI 0)), (5, .int x)]) (st' := [.int (nI y), .int (nI 6), .ref (mb + 1)]) rfl ?_
        refine mw_iast X (I1 := md_I Γ mb (upd G (6) (nI y)) ρ) (6) rfl rfl (fun H h => ⟨md_A1, _, _, h.2.1, by omega, by decide, fun H1 o c => h.stw o c⟩) ?_
        refine mw_steps X 2 (pc' := 76) (lv' := [(0, .ref mb), (1, .int (nI p)), (2, .int name), (3, .int (nI y)), (4, .int (nI 0)), (5, .int x)]) (st' := [.int (nI p), .ref mb]) rfl ?_
        refine mw_cV1v X kd_X5_follow kv_X5_follow kl_X5_82 (ci := 5) rfl rfl (Nat.le_of_ble_eq_true rfl) ⟨Nat.le_of_ble_eq_true rfl, Nat.le_of_ble_eq_true rfl⟩ ⟨Nat.le_of_ble_eq_true rfl, Nat.le_of_ble_eq_true rfl⟩ (fun _ h => h) (fun H h => ⟨⟨_, h.1⟩, cm_follow hmb h (hiG.free (fun j a => pk_un (by omega))) hp⟩) ?_
        rw [show mo_follow (upd G 6 (nI y)) p = mo_new G p 0 y from by first | exact (ml_new_k (by decide)).symm | exact (ml_new_n c63).symm | exact (ml_new_y (by decide) c63).symm]
        have hiN : iv (c + 24) (mo_new G p 0 y) := iv_new hiG hp
        obtain ⟨N, hN⟩ : ∃ N, N = mo_new G p 0 y := ⟨_, rfl⟩
        rw [← hN] at hiN ⊢
        subst hxv
        refine mw_steps X 1 (pc' := 81) (lv' := [(0, .ref mb), (1, .int (nI p)), (2, .int name), (3, .int (nI y)), (4, .int (nI 0)), (5, .int (nI v))]) (st' := [.int (nI 0)]) rfl ?_
        refine mw_tsIn X 0 rfl (by decide) 120 rfl (by decide) rfl rfl ?_
        refine mw_steps X 4 (pc' := 125) (lv' := [(0, .ref mb), (1, .int (nI p)), (2, .int name), (3, .int (nI y)), (4, .int (nI 0)), (5, .int (nI v))]) (st' := [.int (nI 1), .int (nI v), .int (nI 1), .ref mb]) rfl ?_
        refine mw_cV3v X kd_X5_word kv_X5_word kl_X5_85 (ci := 5) rfl rfl (Nat.le_of_ble_eq_true rfl) ⟨Nat.le_of_ble_eq_true rfl, Nat.le_of_ble_eq_true rfl⟩ ⟨Nat.le_of_ble_eq_true rfl, Nat.le_of_ble_eq_true rfl⟩ (fun _ h => h) (fun H h => ⟨⟨_, h.1⟩, cm_word hmb h (e := 1) hiN (by omega) hv100⟩) ?_
        refine mw_steps X 3 (pc' := 179) (lv' := [(0, .ref mb), (1, .int (nI p)), (2, .int name), (3, .int (nI y)), (4, .int (nI 0)), (5, .int (nI v))]) (st' := [.int (nI p), .ref mb]) rfl ?_
        rw [show mo_word N 1 v = mo_houseBy N p 0 name (nI v) from Eq.symm (by rw [ml_hb0, ml_n (by omega)])]
        refine mw_cV1v X kd_X5_letOut kv_X5_letOut kl_X5_65 (ci := 5) rfl rfl (Nat.le_of_ble_eq_true rfl) ⟨Nat.le_of_ble_eq_true rfl, Nat.le_of_ble_eq_true rfl⟩ ⟨Nat.le_of_ble_eq_true rfl, Nat.le_of_ble_eq_true rfl⟩ (fun _ h => h) (fun H h => ⟨⟨_, h.1⟩, cm_letOut hmb h (c := c) (iv_houseBy (c := c + 12) hiN hp (by omega) hvx) hp⟩) ?_
        refine mw_steps X 1 (pc' := 183) (lv' := [(0, .ref mb), (1, .int (nI p)), (2, .int name), (3, .int (nI y)), (4, .int (nI 0)), (5, .int (nI v))]) (st' := [.int (nI 0)]) rfl ?_
        exact mw_iret X rfl rfl (fun H h => ⟨by rw [(ml_house_0 (p := p) (k := 0) (x := (nI v)) (mo_b_nz c5) (mo_b_z c16)).1], by rw [(ml_house_0 (mo_b_nz c5) (mo_b_z c16)).2, ← hG, ← hN]; exact h⟩)
    · refine mw_steps X 1 (pc' := 20) (lv' := [(0, .ref mb), (1, .int (nI p)), (2, .int name), (3, .int (nI y)), (4, .int (nI 0)), (5, .int x)]) (st' := [.int (nI 3)]) rfl ?_
      exact mw_iret X rfl rfl (fun H h => ⟨by rw [(ml_house_3 (p := p) (k := 0) (x := x) (mo_b_nz c5) (mo_b_nz c16)).1], by rw [(ml_house_3 (p := p) (k := 0) (x := x) (mo_b_nz c5) (mo_b_nz c16)).2]; exact h⟩)
  · refine mw_steps X 1 (pc' := 9) (lv' := [(0, .ref mb), (1, .int (nI p)), (2, .int name), (3, .int (nI y)), (4, .int (nI 0)), (5, .int x)]) (st' := [.int (nI 1)]) rfl ?_
    exact mw_iret X rfl rfl (fun H h => ⟨by rw [(ml_house_1 (p := p) (y := y) (k := 0) (x := x) (mo_b_z c5)).1], by rw [(ml_house_1 (p := p) (y := y) (k := 0) (x := x) (mo_b_z c5)).2]; exact h⟩)
set_option maxHeartbeats 4000000 in
set_option maxRecDepth 20000 in
theorem cm_house1 {l : Launch} {Γ : mw_C} {mb : Nat} (hmb : Γ.2.2.2 ≤ mb) {W : Nat → Int32} {ρ : md_R} {H : Heap} {p y c : Nat} {name x : Int32} (hH : md_I Γ mb W ρ H) (hv : iv (c + 25) W) (hp : p < 5) (hy : y < 32768) (hvx : iv_v 0 1 x) : mw_Cr l Γ mX5_takenByHouse 7 0 0 (md_A mb) [.ref mb, .int (nI p), .int name, .int (nI y), .int (nI 1), .int x] H (some (.int (nI (mo_houseWhy W name y)))) (md_I Γ mb (mo_house W p name y 1 x) ρ) := by
  refine mw_ofG (P := pX5_takenByHouse) (by decide) (md_As hmb) oX5_takenByHouse (Nat.le_of_ble_eq_true rfl) ?_
  intro pg e0 sg mg below meth cd X hs
  refine mw_pre (I' := md_I Γ mb W ρ) (fun H1 h1 => by rw [h1]; exact hH) ?_
  refine mw_steps X 2 (pc' := 2) (lv' := [(0, .ref mb), (1, .int (nI p)), (2, .int name), (3, .int (nI y)), (4, .int (nI 1)), (5, .int x)]) (st' := [.int name, .ref mb]) rfl ?_
  refine mw_cV1r X kd_X5_isLive kv_X5_isLive kl_X5_72 (ci := 5) rfl rfl (Nat.le_of_ble_eq_true rfl) ⟨Nat.le_of_ble_eq_true rfl, Nat.le_of_ble_eq_true rfl⟩ ⟨Nat.le_of_ble_eq_true rfl, Nat.le_of_ble_eq_true rfl⟩ (fun _ h => h) (fun H h => ⟨⟨_, h.1⟩, cm_isLive hmb h hv⟩) ?_
  refine mw_if_ne X 10 rfl rfl (fun c5 => ?_) (fun c5 => ?_)
  · refine mw_steps X 3 (pc' := 13) (lv' := [(0, .ref mb), (1, .int (nI p)), (2, .int name), (3, .int (nI y)), (4, .int (nI 1)), (5, .int x)]) (st' := [.int (nI y), .int (nI 1), .ref mb]) rfl ?_
    refine mw_cV2r X kd_X5_took kv_X5_took kl_X5_76 (ci := 5) rfl rfl (Nat.le_of_ble_eq_true rfl) ⟨Nat.le_of_ble_eq_true rfl, Nat.le_of_ble_eq_true rfl⟩ ⟨Nat.le_of_ble_eq_true rfl, Nat.le_of_ble_eq_true rfl⟩ (fun _ h => h) (fun H h => ⟨⟨_, h.1⟩, cm_took hmb h (e := 1) (by omega) hy⟩) ?_
    refine mw_if_eq X 21 rfl rfl (fun c16 => ?_) (fun c16 => ?_)
    · refine mw_steps X 3 (pc' := 24) (lv' := [(0, .ref mb), (1, .int (nI p)), (2, .int name), (3, .int (nI y)), (4, .int (nI 1)), (5, .int x)]) (st' := [.int (nI y), .int (nI 1), .ref mb]) rfl ?_
      refine mw_cV2v X kd_X5_note kv_X5_note kl_X5_79 (ci := 5) rfl rfl (Nat.le_of_ble_eq_true rfl) ⟨Nat.le_of_ble_eq_true rfl, Nat.le_of_ble_eq_true rfl⟩ ⟨Nat.le_of_ble_eq_true rfl, Nat.le_of_ble_eq_true rfl⟩ (fun _ h => h) (fun H h => ⟨⟨_, h.1⟩, cm_note hmb h (e := 1) (by omega) hy⟩) ?_
      have hn37 : mo_note W 1 y (37 + p) = W (37 + p) := pk_un (by omega)
      refine mw_steps X 1 (pc' := 28) (lv' := [(0, .ref mb), (1, .int (nI p)), (2, .int name), (3, .int (nI y)), (4, .int (nI 1)), (5, .int x)]) (st' := [.ref mb]) rfl ?_
      refine mw_get X kf_X5_7.fl kc_5 rfl (v := .ref (mb + 1)) (fun H h => ⟨_, h.1, rfl⟩) ?_
      refine mw_steps X 4 (pc' := 36) (lv' := [(0, .ref mb), (1, .int (nI p)), (2, .int name), (3, .int (nI y)), (4, .int (nI 1)), (5, .int x)]) (st' := [.int ((nI 37) + (nI p)), .ref (mb + 1), .int ((nI 37) + (nI p)), .ref (mb + 1)]) rfl ?_
      refine mw_iald X (v := W (37 + p)) (37 + p) (by simp only [nI_add, pk_mul]) rfl (fun H h => ⟨_, _, h.2.1, by omega, by decide, hn37⟩) ?_
      refine mw_steps X 1 (pc' := 39) (lv' := [(0, .ref mb), (1, .int (nI p)), (2, .int name), (3, .int (nI y)), (4, .int (nI 1)), (5, .int x)]) (st' := [.int (nI 1), .int (W (37 + p)), .int ((nI 37) + (nI p)), .ref (mb + 1)]) rfl ?_
      refine mw_cS1r X kd_X5_sizeOf ks_X5_sizeOf kl_X5_25 rfl (Nat.le_of_ble_eq_true rfl) ⟨Nat.le_of_ble_eq_true rfl, Nat.le_of_ble_eq_true rfl⟩ ⟨Nat.le_of_ble_eq_true rfl, Nat.le_of_ble_eq_true rfl⟩ (fun _ h => h) (fun H h => cm_sizeOf hmb (k := 1) (by omega) h) ?_
      refine mw_steps X 1 (pc' := 43) (lv' := [(0, .ref mb), (1, .int (nI p)), (2, .int name), (3, .int (nI y)), (4, .int (nI 1)), (5, .int x)]) (st' := [.int ((W (37 + p)) + (mw_sz 1)), .int ((nI 37) + (nI p)), .ref (mb + 1)]) rfl ?_
      refine mw_iast X (I1 := md_I Γ mb (upd (mo_note W 1 y) (37 + p) ((W (37 + p)) + (mw_sz 1))) ρ) (37 + p) (by simp only [nI_add, pk_mul]) rfl (fun H h => ⟨md_A1, _, _, h.2.1, by omega, by decide, fun H1 o c => h.stw o c⟩) ?_
      obtain ⟨G, hG⟩ : ∃ G, G = mo_houseGot W p 1 y := ⟨_, rfl⟩
      rw [show upd (mo_note W 1 y) (37 + p) ((W (37 + p)) + (mw_sz 1)) = G from hG.symm]
      have hiG : iv (c + 25) G := by rw [hG]; exact iv_got hv hp
      refine mw_steps X 1 (pc' := 46) (lv' := [(0, .ref mb), (1, .int (nI p)), (2, .int name), (3, .int (nI y)), (4, .int (nI 1)), (5, .int x)]) (st' := [.int (nI 1)]) rfl ?_
      refine mw_if_eq X 55 rfl rfl (fun c46 => absurd c46 (by decide)) (fun c46 => ?_)
      refine mw_steps X 2 (pc' := 52) (lv' := [(0, .ref mb), (1, .int (nI p)), (2, .int name), (3, .int (nI y)), (4, .int (nI 1)), (5, .int x)]) (st' := [.int (nI 3), .int (nI 1)]) rfl ?_
      refine mw_icmp_le X 79 rfl rfl (fun c52 => ?_) (fun c52 => absurd (by decide) c52)
      rw [show G = mo_new G p 1 y from by first | exact (ml_new_k (by decide)).symm | exact (ml_new_n c63).symm | exact (ml_new_y (by decide) c63).symm]
      have hiN : iv (c + 24) (mo_new G p 1 y) := iv_new hiG hp
      obtain ⟨N, hN⟩ : ∃ N, N = mo_new G p 1 y := ⟨_, rfl⟩
      rw [← hN] at hiN ⊢
      refine mw_steps X 1 (pc' := 81) (lv' := [(0, .ref mb), (1, .int (nI p)), (2, .int name), (3, .int (nI y)), (4, .int (nI 1)), (5, .int x)]) (st' := [.int (nI 1)]) rfl ?_
      refine mw_tsIn X 1 rfl (by decide) 131 rfl (by decide) rfl rfl ?_
      refine mw_steps X 5 (pc' := 137) (lv' := [(0, .ref mb), (1, .int (nI p)), (2, .int name), (3, .int (nI y)), (4, .int (nI 1)), (5, .int x)]) (st' := [.int x, .int (nI 2), .int (nI p), .int (nI 1), .ref mb]) rfl ?_
      refine mw_cV4v X kd_X5_goes kv_X5_goes kl_X5_47 (ci := 5) rfl rfl (Nat.le_of_ble_eq_true rfl) ⟨Nat.le_of_ble_eq_true rfl, Nat.le_of_ble_eq_true rfl⟩ ⟨Nat.le_of_ble_eq_true rfl, Nat.le_of_ble_eq_true rfl⟩ (fun _ h => h) (fun H h => ⟨⟨_, h.1⟩, cm_goes hmb h (e := 1) (k := 2) hiN.1 (by omega) hp (by omega)⟩) ?_
      refine mw_steps X 2 (pc' := 142) (lv' := [(0, .ref mb), (1, .int (nI p)), (2, .int name), (3, .int (nI y)), (4, .int (nI 1)), (5, .int x)]) (st' := [.int (nI p), .ref mb]) rfl ?_
      refine mw_cV1v X kd_X5_challengeOnce kv_X5_challengeOnce kl_X5_61 (ci := 5) rfl rfl (Nat.le_of_ble_eq_true rfl) ⟨Nat.le_of_ble_eq_true rfl, Nat.le_of_ble_eq_true rfl⟩ ⟨Nat.le_of_ble_eq_true rfl, Nat.le_of_ble_eq_true rfl⟩ (fun _ h => h) (fun H h => ⟨⟨_, h.1⟩, cm_once hmb h (iv_goes (c := c + 23) hiN (e := 1) (k := 2) (by omega) hp (by omega) (iv_v1 _ _ _ (by omega) (by omega) (by omega))) hp⟩) ?_
      refine mw_steps X 3 (pc' := 179) (lv' := [(0, .ref mb), (1, .int (nI p)), (2, .int name), (3, .int (nI y)), (4, .int (nI 1)), (5, .int x)]) (st' := [.int (nI p), .ref mb]) rfl ?_
      rw [show mo_once (mo_goes N 1 p 2 x) p = mo_houseBy N p 1 name x from Eq.symm (ml_hb1)]
      refine mw_cV1v X kd_X5_letOut kv_X5_letOut kl_X5_65 (ci := 5) rfl rfl (Nat.le_of_ble_eq_true rfl) ⟨Nat.le_of_ble_eq_true rfl, Nat.le_of_ble_eq_true rfl⟩ ⟨Nat.le_of_ble_eq_true rfl, Nat.le_of_ble_eq_true rfl⟩ (fun _ h => h) (fun H h => ⟨⟨_, h.1⟩, cm_letOut hmb h (c := c) (iv_houseBy (c := c + 12) hiN hp (by omega) hvx) hp⟩) ?_
      refine mw_steps X 1 (pc' := 183) (lv' := [(0, .ref mb), (1, .int (nI p)), (2, .int name), (3, .int (nI y)), (4, .int (nI 1)), (5, .int x)]) (st' := [.int (nI 0)]) rfl ?_
      exact mw_iret X rfl rfl (fun H h => ⟨by rw [(ml_house_0 (p := p) (k := 1) (x := x) (mo_b_nz c5) (mo_b_z c16)).1], by rw [(ml_house_0 (mo_b_nz c5) (mo_b_z c16)).2, ← hG, ← hN]; exact h⟩)
    · refine mw_steps X 1 (pc' := 20) (lv' := [(0, .ref mb), (1, .int (nI p)), (2, .int name), (3, .int (nI y)), (4, .int (nI 1)), (5, .int x)]) (st' := [.int (nI 3)]) rfl ?_
      exact mw_iret X rfl rfl (fun H h => ⟨by rw [(ml_house_3 (p := p) (k := 1) (x := x) (mo_b_nz c5) (mo_b_nz c16)).1], by rw [(ml_house_3 (p := p) (k := 1) (x := x) (mo_b_nz c5) (mo_b_nz c16)).2]; exact h⟩)
  · refine mw_steps X 1 (pc' := 9) (lv' := [(0, .ref mb), (1, .int (nI p)), (2, .int name), (3, .int (nI y)), (4, .int (nI 1)), (5, .int x)]) (st' := [.int (nI 1)]) rfl ?_
    exact mw_iret X rfl rfl (fun H h => ⟨by rw [(ml_house_1 (p := p) (y := y) (k := 1) (x := x) (mo_b_z c5)).1], by rw [(ml_house_1 (p := p) (y := y) (k := 1) (x := x) (mo_b_z c5)).2]; exact h⟩)
set_option maxHeartbeats 4000000 in
set_option maxRecDepth 20000 in
theorem cm_house2 {l : Launch} {Γ : mw_C} {mb : Nat} (hmb : Γ.2.2.2 ≤ mb) {W : Nat → Int32} {ρ : md_R} {H : Heap} {p y c : Nat} {name x : Int32} (hH : md_I Γ mb W ρ H) (hv : iv (c + 25) W) (hp : p < 5) (hy : y < 32768) (hvx : iv_v 0 2 x) : mw_Cr l Γ mX5_takenByHouse 7 0 0 (md_A mb) [.ref mb, .int (nI p), .int name, .int (nI y), .int (nI 2), .int x] H (some (.int (nI (mo_houseWhy W name y)))) (md_I Γ mb (mo_house W p name y 2 x) ρ) := by
  refine mw_ofG (P := pX5_takenByHouse) (by decide) (md_As hmb) oX5_takenByHouse (Nat.le_of_ble_eq_true rfl) ?_
  intro pg e0 sg mg below meth cd X hs
  refine mw_pre (I' := md_I Γ mb W ρ) (fun H1 h1 => by rw [h1]; exact hH) ?_
  refine mw_steps X 2 (pc' := 2) (lv' := [(0, .ref mb), (1, .int (nI p)), (2, .int name), (3, .int (nI y)), (4, .int (nI 2)), (5, .int x)]) (st' := [.int name, .ref mb]) rfl ?_
  refine mw_cV1r X kd_X5_isLive kv_X5_isLive kl_X5_72 (ci := 5) rfl rfl (Nat.le_of_ble_eq_true rfl) ⟨Nat.le_of_ble_eq_true rfl, Nat.le_of_ble_eq_true rfl⟩ ⟨Nat.le_of_ble_eq_true rfl, Nat.le_of_ble_eq_true rfl⟩ (fun _ h => h) (fun H h => ⟨⟨_, h.1⟩, cm_isLive hmb h hv⟩) ?_
  refine mw_if_ne X 10 rfl rfl (fun c5 => ?_) (fun c5 => ?_)
  · refine mw_steps X 3 (pc' := 13) (lv' := [(0, .ref mb), (1, .int (nI p)), (2, .int name), (3, .int (nI y)), (4, .int (nI 2)), (5, .int x)]) (st' := [.int (nI y), .int (nI 1), .ref mb]) rfl ?_
    refine mw_cV2r X kd_X5_took kv_X5_took kl_X5_76 (ci := 5) rfl rfl (Nat.le_of_ble_eq_true rfl) ⟨Nat.le_of_ble_eq_true rfl, Nat.le_of_ble_eq_true rfl⟩ ⟨Nat.le_of_ble_eq_true rfl, Nat.le_of_ble_eq_true rfl⟩ (fun _ h => h) (fun H h => ⟨⟨_, h.1⟩, cm_took hmb h (e := 1) (by omega) hy⟩) ?_
    refine mw_if_eq X 21 rfl rfl (fun c16 => ?_) (fun c16 => ?_)
    · refine mw_steps X 3 (pc' := 24) (lv' := [(0, .ref mb), (1, .int (nI p)), (2, .int name), (3, .int (nI y)), (4, .int (nI 2)), (5, .int x)]) (st' := [.int (nI y), .int (nI 1), .ref mb]) rfl ?_
      refine mw_cV2v X kd_X5_note kv_X5_note kl_X5_79 (ci := 5) rfl rfl (Nat.le_of_ble_eq_true rfl) ⟨Nat.le_of_ble_eq_true rfl, Nat.le_of_ble_eq_true rfl⟩ ⟨Nat.le_of_ble_eq_true rfl, Nat.le_of_ble_eq_true rfl⟩ (fun _ h => h) (fun H h => ⟨⟨_, h.1⟩, cm_note hmb h (e := 1) (by omega) hy⟩) ?_
      have hn37 : mo_note W 1 y (37 + p) = W (37 + p) := pk_un (by omega)
      refine mw_steps X 1 (pc' := 28) (lv' := [(0, .ref mb), (1, .int (nI p)), (2, .int name), (3, .int (nI y)), (4, .int (nI 2)), (5, .int x)]) (st' := [.ref mb]) rfl ?_
      refine mw_get X kf_X5_7.fl kc_5 rfl (v := .ref (mb + 1)) (fun H h => ⟨_, h.1, rfl⟩) ?_
      refine mw_steps X 4 (pc' := 36) (lv' := [(0, .ref mb), (1, .int (nI p)), (2, .int name), (3, .int (nI y)), (4, .int (nI 2)), (5, .int x)]) (st' := [.int ((nI 37) + (nI p)), .ref (mb + 1), .int ((nI 37) + (nI p)), .ref (mb + 1)]) rfl ?_
      refine mw_iald X (v := W (37 + p)) (37 + p) (by simp only [nI_add, pk_mul]) rfl (fun H h => ⟨_, _, h.2.1, by omega, by decide, hn37⟩) ?_
      refine mw_steps X 1 (pc' := 39) (lv' := [(0, .ref mb), (1, .int (nI p)), (2, .int name), (3, .int (nI y)), (4, .int (nI 2)), (5, .int x)]) (st' := [.int (nI 2), .int (W (37 + p)), .int ((nI 37) + (nI p)), .ref (mb + 1)]) rfl ?_
      refine mw_cS1r X kd_X5_sizeOf ks_X5_sizeOf kl_X5_25 rfl (Nat.le_of_ble_eq_true rfl) ⟨Nat.le_of_ble_eq_true rfl, Nat.le_of_ble_eq_true rfl⟩ ⟨Nat.le_of_ble_eq_true rfl, Nat.le_of_ble_eq_true rfl⟩ (fun _ h => h) (fun H h => cm_sizeOf hmb (k := 2) (by omega) h) ?_
      refine mw_steps X 1 (pc' := 43) (lv' := [(0, .ref mb), (1, .int (nI p)), (2, .int name), (3, .int (nI y)), (4, .int (nI 2)), (5, .int x)]) (st' := [.int ((W (37 + p)) + (mw_sz 2)), .int ((nI 37) + (nI p)), .ref (mb + 1)]) rfl ?_
      refine mw_iast X (I1 := md_I Γ mb (upd (mo_note W 1 y) (37 + p) ((W (37 + p)) + (mw_sz 2))) ρ) (37 + p) (by simp only [nI_add, pk_mul]) rfl (fun H h => ⟨md_A1, _, _, h.2.1, by omega, by decide, fun H1 o c => h.stw o c⟩) ?_
      obtain ⟨G, hG⟩ : ∃ G, G = mo_houseGot W p 2 y := ⟨_, rfl⟩
      rw [show upd (mo_note W 1 y) (37 + p) ((W (37 + p)) + (mw_sz 2)) = G from hG.symm]
      have hiG : iv (c + 25) G := by rw [hG]; exact iv_got hv hp
      refine mw_steps X 1 (pc' := 46) (lv' := [(0, .ref mb), (1, .int (nI p)), (2, .int name), (3, .int (nI y)), (4, .int (nI 2)), (5, .int x)]) (st' := [.int (nI 2)]) rfl ?_
      refine mw_if_eq X 55 rfl rfl (fun c46 => absurd c46 (by decide)) (fun c46 => ?_)
      refine mw_steps X 2 (pc' := 52) (lv' := [(0, .ref mb), (1, .int (nI p)), (2, .int name), (3, .int (nI y)), (4, .int (nI 2)), (5, .int x)]) (st' := [.int (nI 3), .int (nI 2)]) rfl ?_
      refine mw_icmp_le X 79 rfl rfl (fun c52 => ?_) (fun c52 => absurd (by decide) c52)
      rw [show G = mo_new G p 2 y from by first | exact (ml_new_k (by decide)).symm | exact (ml_new_n c63).symm | exact (ml_new_y (by decide) c63).symm]
      have hiN : iv (c + 24) (mo_new G p 2 y) := iv_new hiG hp
      obtain ⟨N, hN⟩ : ∃ N, N = mo_new G p 2 y := ⟨_, rfl⟩
      rw [← hN] at hiN ⊢
      refine mw_steps X 1 (pc' := 81) (lv' := [(0, .ref mb), (1, .int (nI p)), (2, .int name), (3, .int (nI y)), (4, .int (nI 2)), (5, .int x)]) (st' := [.int (nI 2)]) rfl ?_
      refine mw_tsIn X 2 rfl (by decide) 148 rfl (by decide) rfl rfl ?_
      refine mw_steps X 2 (pc' := 151) (lv' := [(0, .ref mb), (1, .int (nI p)), (2, .int name), (3, .int (nI y)), (4, .int (nI 2)), (5, .int x)]) (st' := [.int x, .ref mb]) rfl ?_
      refine mw_cV1v X kd_X5_proveBy kv_X5_proveBy kl_X5_89 (ci := 5) rfl rfl (Nat.le_of_ble_eq_true rfl) ⟨Nat.le_of_ble_eq_true rfl, Nat.le_of_ble_eq_true rfl⟩ ⟨Nat.le_of_ble_eq_true rfl, Nat.le_of_ble_eq_true rfl⟩ (fun _ h => h) (fun H h => ⟨⟨_, h.1⟩, cm_prove hmb h (c := c + 12) hiN⟩) ?_
      refine mw_steps X 3 (pc' := 179) (lv' := [(0, .ref mb), (1, .int (nI p)), (2, .int name), (3, .int (nI y)), (4, .int (nI 2)), (5, .int x)]) (st' := [.int (nI p), .ref mb]) rfl ?_
      rw [show mo_prove N x = mo_houseBy N p 2 name x from Eq.symm (ml_hb2)]
      refine mw_cV1v X kd_X5_letOut kv_X5_letOut kl_X5_65 (ci := 5) rfl rfl (Nat.le_of_ble_eq_true rfl) ⟨Nat.le_of_ble_eq_true rfl, Nat.le_of_ble_eq_true rfl⟩ ⟨Nat.le_of_ble_eq_true rfl, Nat.le_of_ble_eq_true rfl⟩ (fun _ h => h) (fun H h => ⟨⟨_, h.1⟩, cm_letOut hmb h (c := c) (iv_houseBy (c := c + 12) hiN hp (by omega) hvx) hp⟩) ?_
      refine mw_steps X 1 (pc' := 183) (lv' := [(0, .ref mb), (1, .int (nI p)), (2, .int name), (3, .int (nI y)), (4, .int (nI 2)), (5, .int x)]) (st' := [.int (nI 0)]) rfl ?_
      exact mw_iret X rfl rfl (fun H h => ⟨by rw [(ml_house_0 (p := p) (k := 2) (x := x) (mo_b_nz c5) (mo_b_z c16)).1], by rw [(ml_house_0 (mo_b_nz c5) (mo_b_z c16)).2, ← hG, ← hN]; exact h⟩)
    · refine mw_steps X 1 (pc' := 20) (lv' := [(0, .ref mb), (1, .int (nI p)), (2, .int name), (3, .int (nI y)), (4, .int (nI 2)), (5, .int x)]) (st' := [.int (nI 3)]) rfl ?_
      exact mw_iret X rfl rfl (fun H h => ⟨by rw [(ml_house_3 (p := p) (k := 2) (x := x) (mo_b_nz c5) (mo_b_nz c16)).1], by rw [(ml_house_3 (p := p) (k := 2) (x := x) (mo_b_nz c5) (mo_b_nz c16)).2]; exact h⟩)
  · refine mw_steps X 1 (pc' := 9) (lv' := [(0, .ref mb), (1, .int (nI p)), (2, .int name), (3, .int (nI y)), (4, .int (nI 2)), (5, .int x)]) (st' := [.int (nI 1)]) rfl ?_
    exact mw_iret X rfl rfl (fun H h => ⟨by rw [(ml_house_1 (p := p) (y := y) (k := 2) (x := x) (mo_b_z c5)).1], by rw [(ml_house_1 (p := p) (y := y) (k := 2) (x := x) (mo_b_z c5)).2]; exact h⟩)
set_option maxHeartbeats 4000000 in
set_option maxRecDepth 20000 in
theorem cm_house3 {l : Launch} {Γ : mw_C} {mb : Nat} (hmb : Γ.2.2.2 ≤ mb) {W : Nat → Int32} {ρ : md_R} {H : Heap} {p y c : Nat} {name x : Int32} (hH : md_I Γ mb W ρ H) (hv : iv (c + 25) W) (hp : p < 5) (hy : y < 32768) (hvx : iv_v 0 3 x) : mw_Cr l Γ mX5_takenByHouse 7 0 0 (md_A mb) [.ref mb, .int (nI p), .int name, .int (nI y), .int (nI 3), .int x] H (some (.int (nI (mo_houseWhy W name y)))) (md_I Γ mb (mo_house W p name y 3 x) ρ) := by
  refine mw_ofG (P := pX5_takenByHouse) (by decide) (md_As hmb) oX5_takenByHouse (Nat.le_of_ble_eq_true rfl) ?_
  intro pg e0 sg mg below meth cd X hs
  refine mw_pre (I' := md_I Γ mb W ρ) (fun H1 h1 => by rw [h1]; exact hH) ?_
  refine mw_steps X 2 (pc' := 2) (lv' := [(0, .ref mb), (1, .int (nI p)), (2, .int name), (3, .int (nI y)), (4, .int (nI 3)), (5, .int x)]) (st' := [.int name, .ref mb]) rfl ?_
  refine mw_cV1r X kd_X5_isLive kv_X5_isLive kl_X5_72 (ci := 5) rfl rfl (Nat.le_of_ble_eq_true rfl) ⟨Nat.le_of_ble_eq_true rfl, Nat.le_of_ble_eq_true rfl⟩ ⟨Nat.le_of_ble_eq_true rfl, Nat.le_of_ble_eq_true rfl⟩ (fun _ h => h) (fun H h => ⟨⟨_, h.1⟩, cm_isLive hmb h hv⟩) ?_
  refine mw_if_ne X 10 rfl rfl (fun c5 => ?_) (fun c5 => ?_)
  · refine mw_steps X 3 (pc' := 13) (lv' := [(0, .ref mb), (1, .int (nI p)), (2, .int name), (3, .int (nI y)), (4, .int (nI 3)), (5, .int x)]) (st' := [.int (nI y), .int (nI 1), .ref mb]) rfl ?_
    refine mw_cV2r X kd_X5_took kv_X5_took kl_X5_76 (ci := 5) rfl rfl (Nat.le_of_ble_eq_true rfl) ⟨Nat.le_of_ble_eq_true rfl, Nat.le_of_ble_eq_true rfl⟩ ⟨Nat.le_of_ble_eq_true rfl, Nat.le_of_ble_eq_true rfl⟩ (fun _ h => h) (fun H h => ⟨⟨_, h.1⟩, cm_took hmb h (e := 1) (by omega) hy⟩) ?_
    refine mw_if_eq X 21 rfl rfl (fun c16 => ?_) (fun c16 => ?_)
    · refine mw_steps X 3 (pc' := 24) (lv' := [(0, .ref mb), (1, .int (nI p)), (2, .int name), (3, .int (nI y)), (4, .int (nI 3)), (5, .int x)]) (st' := [.int (nI y), .int (nI 1), .ref mb]) rfl ?_
      refine mw_cV2v X kd_X5_note kv_X5_note kl_X5_79 (ci := 5) rfl rfl (Nat.le_of_ble_eq_true rfl) ⟨Nat.le_of_ble_eq_true rfl, Nat.le_of_ble_eq_true rfl⟩ ⟨Nat.le_of_ble_eq_true rfl, Nat.le_of_ble_eq_true rfl⟩ (fun _ h => h) (fun H h => ⟨⟨_, h.1⟩, cm_note hmb h (e := 1) (by omega) hy⟩) ?_
      have hn37 : mo_note W 1 y (37 + p) = W (37 + p) := pk_un (by omega)
      refine mw_steps X 1 (pc' := 28) (lv' := [(0, .ref mb), (1, .int (nI p)), (2, .int name), (3, .int (nI y)), (4, .int (nI 3)), (5, .int x)]) (st' := [.ref mb]) rfl ?_
      refine mw_get X kf_X5_7.fl kc_5 rfl (v := .ref (mb + 1)) (fun H h => ⟨_, h.1, rfl⟩) ?_
      refine mw_steps X 4 (pc' := 36) (lv' := [(0, .ref mb), (1, .int (nI p)), (2, .int name), (3, .int (nI y)), (4, .int (nI 3)), (5, .int x)]) (st' := [.int ((nI 37) + (nI p)), .ref (mb + 1), .int ((nI 37) + (nI p)), .ref (mb + 1)]) rfl ?_
      refine mw_iald X (v := W (37 + p)) (37 + p) (by simp only [nI_add, pk_mul]) rfl (fun H h => ⟨_, _, h.2.1, by omega, by decide, hn37⟩) ?_
      refine mw_steps X 1 (pc' := 39) (lv' := [(0, .ref mb), (1, .int (nI p)), (2, .int name), (3, .int (nI y)), (4, .int (nI 3)), (5, .int x)]) (st' := [.int (nI 3), .int (W (37 + p)), .int ((nI 37) + (nI p)), .ref (mb + 1)]) rfl ?_
      refine mw_cS1r X kd_X5_sizeOf ks_X5_sizeOf kl_X5_25 rfl (Nat.le_of_ble_eq_true rfl) ⟨Nat.le_of_ble_eq_true rfl, Nat.le_of_ble_eq_true rfl⟩ ⟨Nat.le_of_ble_eq_true rfl, Nat.le_of_ble_eq_true rfl⟩ (fun _ h => h) (fun H h => cm_sizeOf hmb (k := 3) (by omega) h) ?_
      refine mw_steps X 1 (pc' := 43) (lv' := [(0, .ref mb), (1, .int (nI p)), (2, .int name), (3, .int (nI y)), (4, .int (nI 3)), (5, .int x)]) (st' := [.int ((W (37 + p)) + (mw_sz 3)), .int ((nI 37) + (nI p)), .ref (mb + 1)]) rfl ?_
      refine mw_iast X (I1 := md_I Γ mb (upd (mo_note W 1 y) (37 + p) ((W (37 + p)) + (mw_sz 3))) ρ) (37 + p) (by simp only [nI_add, pk_mul]) rfl (fun H h => ⟨md_A1, _, _, h.2.1, by omega, by decide, fun H1 o c => h.stw o c⟩) ?_
      obtain ⟨G, hG⟩ : ∃ G, G = mo_houseGot W p 3 y := ⟨_, rfl⟩
      rw [show upd (mo_note W 1 y) (37 + p) ((W (37 + p)) + (mw_sz 3)) = G from hG.symm]
      have hiG : iv (c + 25) G := by rw [hG]; exact iv_got hv hp
      refine mw_steps X 1 (pc' := 46) (lv' := [(0, .ref mb), (1, .int (nI p)), (2, .int name), (3, .int (nI y)), (4, .int (nI 3)), (5, .int x)]) (st' := [.int (nI 3)]) rfl ?_
      refine mw_if_eq X 55 rfl rfl (fun c46 => absurd c46 (by decide)) (fun c46 => ?_)
      refine mw_steps X 2 (pc' := 52) (lv' := [(0, .ref mb), (1, .int (nI p)), (2, .int name), (3, .int (nI y)), (4, .int (nI 3)), (5, .int x)]) (st' := [.int (nI 3), .int (nI 3)]) rfl ?_
      refine mw_icmp_le X 79 rfl rfl (fun c52 => ?_) (fun c52 => absurd (by decide) c52)
      rw [show G = mo_new G p 3 y from by first | exact (ml_new_k (by decide)).symm | exact (ml_new_n c63).symm | exact (ml_new_y (by decide) c63).symm]
      have hiN : iv (c + 24) (mo_new G p 3 y) := iv_new hiG hp
      obtain ⟨N, hN⟩ : ∃ N, N = mo_new G p 3 y := ⟨_, rfl⟩
      rw [← hN] at hiN ⊢
      refine mw_steps X 1 (pc' := 81) (lv' := [(0, .ref mb), (1, .int (nI p)), (2, .int name), (3, .int (nI y)), (4, .int (nI 3)), (5, .int x)]) (st' := [.int (nI 3)]) rfl ?_
      refine mw_tsIn X 3 rfl (by decide) 177 rfl (by decide) rfl rfl ?_
      refine mw_steps X 2 (pc' := 179) (lv' := [(0, .ref mb), (1, .int (nI p)), (2, .int name), (3, .int (nI y)), (4, .int (nI 3)), (5, .int x)]) (st' := [.int (nI p), .ref mb]) rfl ?_
      rw [show N = mo_houseBy N p 3 name x from Eq.symm (ml_hb3)]
      refine mw_cV1v X kd_X5_letOut kv_X5_letOut kl_X5_65 (ci := 5) rfl rfl (Nat.le_of_ble_eq_true rfl) ⟨Nat.le_of_ble_eq_true rfl, Nat.le_of_ble_eq_true rfl⟩ ⟨Nat.le_of_ble_eq_true rfl, Nat.le_of_ble_eq_true rfl⟩ (fun _ h => h) (fun H h => ⟨⟨_, h.1⟩, cm_letOut hmb h (c := c) (iv_houseBy (c := c + 12) hiN hp (by omega) hvx) hp⟩) ?_
      refine mw_steps X 1 (pc' := 183) (lv' := [(0, .ref mb), (1, .int (nI p)), (2, .int name), (3, .int (nI y)), (4, .int (nI 3)), (5, .int x)]) (st' := [.int (nI 0)]) rfl ?_
      exact mw_iret X rfl rfl (fun H h => ⟨by rw [(ml_house_0 (p := p) (k := 3) (x := x) (mo_b_nz c5) (mo_b_z c16)).1], by rw [(ml_house_0 (mo_b_nz c5) (mo_b_z c16)).2, ← hG, ← hN]; exact h⟩)
    · refine mw_steps X 1 (pc' := 20) (lv' := [(0, .ref mb), (1, .int (nI p)), (2, .int name), (3, .int (nI y)), (4, .int (nI 3)), (5, .int x)]) (st' := [.int (nI 3)]) rfl ?_
      exact mw_iret X rfl rfl (fun H h => ⟨by rw [(ml_house_3 (p := p) (k := 3) (x := x) (mo_b_nz c5) (mo_b_nz c16)).1], by rw [(ml_house_3 (p := p) (k := 3) (x := x) (mo_b_nz c5) (mo_b_nz c16)).2]; exact h⟩)
  · refine mw_steps X 1 (pc' := 9) (lv' := [(0, .ref mb), (1, .int (nI p)), (2, .int name), (3, .int (nI y)), (4, .int (nI 3)), (5, .int x)]) (st' := [.int (nI 1)]) rfl ?_
    exact mw_iret X rfl rfl (fun H h => ⟨by rw [(ml_house_1 (p := p) (y := y) (k := 3) (x := x) (mo_b_z c5)).1], by rw [(ml_house_1 (p := p) (y := y) (k := 3) (x := x) (mo_b_z c5)).2]; exact h⟩)
set_option maxHeartbeats 4000000 in
set_option maxRecDepth 20000 in
theorem cm_house4 {l : Launch} {Γ : mw_C} {mb : Nat} (hmb : Γ.2.2.2 ≤ mb) {W : Nat → Int32} {ρ : md_R} {H : Heap} {p y c : Nat} {name x : Int32} (hH : md_I Γ mb W ρ H) (hv : iv (c + 25) W) (hp : p < 5) (hy : y < 32768) (hvx : iv_v 0 4 x) : mw_Cr l Γ mX5_takenByHouse 7 0 0 (md_A mb) [.ref mb, .int (nI p), .int name, .int (nI y), .int (nI 4), .int x] H (some (.int (nI (mo_houseWhy W name y)))) (md_I Γ mb (mo_house W p name y 4 x) ρ) := by
  refine mw_ofG (P := pX5_takenByHouse) (by decide) (md_As hmb) oX5_takenByHouse (Nat.le_of_ble_eq_true rfl) ?_
  intro pg e0 sg mg below meth cd X hs
  refine mw_pre (I' := md_I Γ mb W ρ) (fun H1 h1 => by rw [h1]; exact hH) ?_
  refine mw_steps X 2 (pc' := 2) (lv' := [(0, .ref mb), (1, .int (nI p)), (2, .int name), (3, .int (nI y)), (4, .int (nI 4)), (5, .int x)]) (st' := [.int name, .ref mb]) rfl ?_
  refine mw_cV1r X kd_X5_isLive kv_X5_isLive kl_X5_72 (ci := 5) rfl rfl (Nat.le_of_ble_eq_true rfl) ⟨Nat.le_of_ble_eq_true rfl, Nat.le_of_ble_eq_true rfl⟩ ⟨Nat.le_of_ble_eq_true rfl, Nat.le_of_ble_eq_true rfl⟩ (fun _ h => h) (fun H h => ⟨⟨_, h.1⟩, cm_isLive hmb h hv⟩) ?_
  refine mw_if_ne X 10 rfl rfl (fun c5 => ?_) (fun c5 => ?_)
  · refine mw_steps X 3 (pc' := 13) (lv' := [(0, .ref mb), (1, .int (nI p)), (2, .int name), (3, .int (nI y)), (4, .int (nI 4)), (5, .int x)]) (st' := [.int (nI y), .int (nI 1), .ref mb]) rfl ?_
    refine mw_cV2r X kd_X5_took kv_X5_took kl_X5_76 (ci := 5) rfl rfl (Nat.le_of_ble_eq_true rfl) ⟨Nat.le_of_ble_eq_true rfl, Nat.le_of_ble_eq_true rfl⟩ ⟨Nat.le_of_ble_eq_true rfl, Nat.le_of_ble_eq_true rfl⟩ (fun _ h => h) (fun H h => ⟨⟨_, h.1⟩, cm_took hmb h (e := 1) (by omega) hy⟩) ?_
    refine mw_if_eq X 21 rfl rfl (fun c16 => ?_) (fun c16 => ?_)
    · refine mw_steps X 3 (pc' := 24) (lv' := [(0, .ref mb), (1, .int (nI p)), (2, .int name), (3, .int (nI y)), (4, .int (nI 4)), (5, .int x)]) (st' := [.int (nI y), .int (nI 1), .ref mb]) rfl ?_
      refine mw_cV2v X kd_X5_note kv_X5_note kl_X5_79 (ci := 5) rfl rfl (Nat.le_of_ble_eq_true rfl) ⟨Nat.le_of_ble_eq_true rfl, Nat.le_of_ble_eq_true rfl⟩ ⟨Nat.le_of_ble_eq_true rfl, Nat.le_of_ble_eq_true rfl⟩ (fun _ h => h) (fun H h => ⟨⟨_, h.1⟩, cm_note hmb h (e := 1) (by omega) hy⟩) ?_
      have hn37 : mo_note W 1 y (37 + p) = W (37 + p) := pk_un (by omega)
      refine mw_steps X 1 (pc' := 28) (lv' := [(0, .ref mb), (1, .int (nI p)), (2, .int name), (3, .int (nI y)), (4, .int (nI 4)), (5, .int x)]) (st' := [.ref mb]) rfl ?_
      refine mw_get X kf_X5_7.fl kc_5 rfl (v := .ref (mb + 1)) (fun H h => ⟨_, h.1, rfl⟩) ?_
      refine mw_steps X 4 (pc' := 36) (lv' := [(0, .ref mb), (1, .int (nI p)), (2, .int name), (3, .int (nI y)), (4, .int (nI 4)), (5, .int x)]) (st' := [.int ((nI 37) + (nI p)), .ref (mb + 1), .int ((nI 37) + (nI p)), .ref (mb + 1)]) rfl ?_
      refine mw_iald X (v := W (37 + p)) (37 + p) (by simp only [nI_add, pk_mul]) rfl (fun H h => ⟨_, _, h.2.1, by omega, by decide, hn37⟩) ?_
      refine mw_steps X 1 (pc' := 39) (lv' := [(0, .ref mb), (1, .int (nI p)), (2, .int name), (3, .int (nI y)), (4, .int (nI 4)), (5, .int x)]) (st' := [.int (nI 4), .int (W (37 + p)), .int ((nI 37) + (nI p)), .ref (mb + 1)]) rfl ?_
      refine mw_cS1r X kd_X5_sizeOf ks_X5_sizeOf kl_X5_25 rfl (Nat.le_of_ble_eq_true rfl) ⟨Nat.le_of_ble_eq_true rfl, Nat.le_of_ble_eq_true rfl⟩ ⟨Nat.le_of_ble_eq_true rfl, Nat.le_of_ble_eq_true rfl⟩ (fun _ h => h) (fun H h => cm_sizeOf hmb (k := 4) (by omega) h) ?_
      refine mw_steps X 1 (pc' := 43) (lv' := [(0, .ref mb), (1, .int (nI p)), (2, .int name), (3, .int (nI y)), (4, .int (nI 4)), (5, .int x)]) (st' := [.int ((W (37 + p)) + (mw_sz 4)), .int ((nI 37) + (nI p)), .ref (mb + 1)]) rfl ?_
      refine mw_iast X (I1 := md_I Γ mb (upd (mo_note W 1 y) (37 + p) ((W (37 + p)) + (mw_sz 4))) ρ) (37 + p) (by simp only [nI_add, pk_mul]) rfl (fun H h => ⟨md_A1, _, _, h.2.1, by omega, by decide, fun H1 o c => h.stw o c⟩) ?_
      obtain ⟨G, hG⟩ : ∃ G, G = mo_houseGot W p 4 y := ⟨_, rfl⟩
      rw [show upd (mo_note W 1 y) (37 + p) ((W (37 + p)) + (mw_sz 4)) = G from hG.symm]
      have hiG : iv (c + 25) G := by rw [hG]; exact iv_got hv hp
      refine mw_steps X 1 (pc' := 46) (lv' := [(0, .ref mb), (1, .int (nI p)), (2, .int name), (3, .int (nI y)), (4, .int (nI 4)), (5, .int x)]) (st' := [.int (nI 4)]) rfl ?_
      refine mw_if_eq X 55 rfl rfl (fun c46 => absurd c46 (by decide)) (fun c46 => ?_)
      refine mw_steps X 2 (pc' := 52) (lv' := [(0, .ref mb), (1, .int (nI p)), (2, .int name), (3, .int (nI y)), (4, .int (nI 4)), (5, .int x)]) (st' := [.int (nI 3), .int (nI 4)]) rfl ?_
      refine mw_icmp_le X 79 rfl rfl (fun c52 => absurd c52 (by decide)) (fun c52 => ?_)
      refine mw_steps X 2 (pc' := 57) (lv' := [(0, .ref mb), (1, .int (nI p)), (2, .int name), (3, .int (nI y)), (4, .int (nI 4)), (5, .int x)]) (st' := [.ref mb, .int (nI y)]) rfl ?_
      refine mw_get X kf_X5_7.fl kc_5 rfl (v := .ref (mb + 1)) (fun H h => ⟨_, h.1, rfl⟩) ?_
      refine mw_steps X 1 (pc' := 62) (lv' := [(0, .ref mb), (1, .int (nI p)), (2, .int name), (3, .int (nI y)), (4, .int (nI 4)), (5, .int x)]) (st' := [.int (nI 6), .ref (mb + 1), .int (nI y)]) rfl ?_
      refine mw_iald X (v := G (6)) (6) rfl rfl (fun H h => ⟨_, _, h.2.1, by omega, by decide, rfl⟩) ?_
      refine mw_icmp_le X 79 rfl rfl (fun c63 => ?_) (fun c63 => ?_)
      · rw [show G = mo_new G p 4 y from by first | exact (ml_new_k (by decide)).symm | exact (ml_new_n c63).symm | exact (ml_new_y (by decide) c63).symm]
        have hiN : iv (c + 24) (mo_new G p 4 y) := iv_new hiG hp
        obtain ⟨N, hN⟩ : ∃ N, N = mo_new G p 4 y := ⟨_, rfl⟩
        rw [← hN] at hiN ⊢
        refine mw_steps X 1 (pc' := 81) (lv' := [(0, .ref mb), (1, .int (nI p)), (2, .int name), (3, .int (nI y)), (4, .int (nI 4)), (5, .int x)]) (st' := [.int (nI 4)]) rfl ?_
        refine mw_tsIn X 4 rfl (by decide) 157 rfl (by decide) rfl rfl ?_
        refine mw_steps X 3 (pc' := 161) (lv' := [(0, .ref mb), (1, .int (nI p)), (2, .int name), (3, .int (nI y)), (4, .int (nI 4)), (5, .int x)]) (st' := [.int name, .int x, .ref mb]) rfl ?_
        refine mw_cV2v X kd_X5_retire kv_X5_retire kl_X5_92 (ci := 5) rfl rfl (Nat.le_of_ble_eq_true rfl) ⟨Nat.le_of_ble_eq_true rfl, Nat.le_of_ble_eq_true rfl⟩ ⟨Nat.le_of_ble_eq_true rfl, Nat.le_of_ble_eq_true rfl⟩ (fun _ h => h) (fun H h => ⟨⟨_, h.1⟩, cm_retire hmb h hiN⟩) ?_
        refine mw_steps X 3 (pc' := 179) (lv' := [(0, .ref mb), (1, .int (nI p)), (2, .int name), (3, .int (nI y)), (4, .int (nI 4)), (5, .int x)]) (st' := [.int (nI p), .ref mb]) rfl ?_
        rw [show mo_retire N x name = mo_houseBy N p 4 name x from Eq.symm (ml_hb4)]
        refine mw_cV1v X kd_X5_letOut kv_X5_letOut kl_X5_65 (ci := 5) rfl rfl (Nat.le_of_ble_eq_true rfl) ⟨Nat.le_of_ble_eq_true rfl, Nat.le_of_ble_eq_true rfl⟩ ⟨Nat.le_of_ble_eq_true rfl, Nat.le_of_ble_eq_true rfl⟩ (fun _ h => h) (fun H h => ⟨⟨_, h.1⟩, cm_letOut hmb h (c := c) (iv_houseBy (c := c + 12) hiN hp (by omega) hvx) hp⟩) ?_
        refine mw_steps X 1 (pc' := 183) (lv' := [(0, .ref mb), (1, .int (nI p)), (2, .int name), (3, .int (nI y)), (4, .int (nI 4)), (5, .int x)]) (st' := [.int (nI 0)]) rfl ?_
        exact mw_iret X rfl rfl (fun H h => ⟨by rw [(ml_house_0 (p := p) (k := 4) (x := x) (mo_b_nz c5) (mo_b_z c16)).1], by rw [(ml_house_0 (mo_b_nz c5) (mo_b_z c16)).2, ← hG, ← hN]; exact h⟩)
      · refine mw_steps X 1 (pc' := 67) (lv' := [(0, .ref mb), (1, .int (nI p)), (2, .int name), (3, .int (nI y)), (4, .int (nI 4)), (5, .int x)]) (st' := [.ref mb]) rfl ?_
        refine mw_get X kf_X5_7.fl kc_5 rfl (v := .ref (mb + 1)) (fun H h => ⟨_, h.1, rfl⟩) ?_
        refine mw_steps X 2 (pc' := 73) (lv' := [(0, .ref mb), (1, .int (nI p)), (2, .int name), (3, .int (nI y)), (4, .int (nI 4)), (5, .int x)]) (st' := [.int (nI y), .int (nI 6), .ref (mb + 1)]) rfl ?_
        refine mw_iast X (I1 := md_I Γ mb (upd G (6) (nI y)) ρ) (6) rfl rfl (fun H h => ⟨md_A1, _, _, h.2.1, by omega, by decide, fun H1 o c => h.stw o c⟩) ?_
        refine mw_steps X 2 (pc' := 76) (lv' := [(0, .ref mb), (1, .int (nI p)), (2, .int name), (3, .int (nI y)), (4, .int (nI 4)), (5, .int x)]) (st' := [.int (nI p), .ref mb]) rfl ?_
        refine mw_cV1v X kd_X5_follow kv_X5_follow kl_X5_82 (ci := 5) rfl rfl (Nat.le_of_ble_eq_true rfl) ⟨Nat.le_of_ble_eq_true rfl, Nat.le_of_ble_eq_true rfl⟩ ⟨Nat.le_of_ble_eq_true rfl, Nat.le_of_ble_eq_true rfl⟩ (fun _ h => h) (fun H h => ⟨⟨_, h.1⟩, cm_follow hmb h (hiG.free (fun j a => pk_un (by omega))) hp⟩) ?_
        rw [show mo_follow (upd G 6 (nI y)) p = mo_new G p 4 y from by first | exact (ml_new_k (by decide)).symm | exact (ml_new_n c63).symm | exact (ml_new_y (by decide) c63).symm]
        have hiN : iv (c + 24) (mo_new G p 4 y) := iv_new hiG hp
        obtain ⟨N, hN⟩ : ∃ N, N = mo_new G p 4 y := ⟨_, rfl⟩
        rw [← hN] at hiN ⊢
        refine mw_steps X 1 (pc' := 81) (lv' := [(0, .ref mb), (1, .int (nI p)), (2, .int name), (3, .int (nI y)), (4, .int (nI 4)), (5, .int x)]) (st' := [.int (nI 4)]) rfl ?_
        refine mw_tsIn X 4 rfl (by decide) 157 rfl (by decide) rfl rfl ?_
        refine mw_steps X 3 (pc' := 161) (lv' := [(0, .ref mb), (1, .int (nI p)), (2, .int name), (3, .int (nI y)), (4, .int (nI 4)), (5, .int x)]) (st' := [.int name, .int x, .ref mb]) rfl ?_
        refine mw_cV2v X kd_X5_retire kv_X5_retire kl_X5_92 (ci := 5) rfl rfl (Nat.le_of_ble_eq_true rfl) ⟨Nat.le_of_ble_eq_true rfl, Nat.le_of_ble_eq_true rfl⟩ ⟨Nat.le_of_ble_eq_true rfl, Nat.le_of_ble_eq_true rfl⟩ (fun _ h => h) (fun H h => ⟨⟨_, h.1⟩, cm_retire hmb h hiN⟩) ?_
        refine mw_steps X 3 (pc' := 179) (lv' := [(0, .ref mb), (1, .int (nI p)), (2, .int name), (3, .int (nI y)), (4, .int (nI 4)), (5, .int x)]) (st' := [.int (nI p), .ref mb]) rfl ?_
        rw [show mo_retire N x name = mo_houseBy N p 4 name x from Eq.symm (ml_hb4)]
        refine mw_cV1v X kd_X5_letOut kv_X5_letOut kl_X5_65 (ci := 5) rfl rfl (Nat.le_of_ble_eq_true rfl) ⟨Nat.le_of_ble_eq_true rfl, Nat.le_of_ble_eq_true rfl⟩ ⟨Nat.le_of_ble_eq_true rfl, Nat.le_of_ble_eq_true rfl⟩ (fun _ h => h) (fun H h => ⟨⟨_, h.1⟩, cm_letOut hmb h (c := c) (iv_houseBy (c := c + 12) hiN hp (by omega) hvx) hp⟩) ?_
        refine mw_steps X 1 (pc' := 183) (lv' := [(0, .ref mb), (1, .int (nI p)), (2, .int name), (3, .int (nI y)), (4, .int (nI 4)), (5, .int x)]) (st' := [.int (nI 0)]) rfl ?_
        exact mw_iret X rfl rfl (fun H h => ⟨by rw [(ml_house_0 (p := p) (k := 4) (x := x) (mo_b_nz c5) (mo_b_z c16)).1], by rw [(ml_house_0 (mo_b_nz c5) (mo_b_z c16)).2, ← hG, ← hN]; exact h⟩)
    · refine mw_steps X 1 (pc' := 20) (lv' := [(0, .ref mb), (1, .int (nI p)), (2, .int name), (3, .int (nI y)), (4, .int (nI 4)), (5, .int x)]) (st' := [.int (nI 3)]) rfl ?_
      exact mw_iret X rfl rfl (fun H h => ⟨by rw [(ml_house_3 (p := p) (k := 4) (x := x) (mo_b_nz c5) (mo_b_nz c16)).1], by rw [(ml_house_3 (p := p) (k := 4) (x := x) (mo_b_nz c5) (mo_b_nz c16)).2]; exact h⟩)
  · refine mw_steps X 1 (pc' := 9) (lv' := [(0, .ref mb), (1, .int (nI p)), (2, .int name), (3, .int (nI y)), (4, .int (nI 4)), (5, .int x)]) (st' := [.int (nI 1)]) rfl ?_
    exact mw_iret X rfl rfl (fun H h => ⟨by rw [(ml_house_1 (p := p) (y := y) (k := 4) (x := x) (mo_b_z c5)).1], by rw [(ml_house_1 (p := p) (y := y) (k := 4) (x := x) (mo_b_z c5)).2]; exact h⟩)
set_option maxHeartbeats 4000000 in
set_option maxRecDepth 20000 in
theorem cm_house5 {l : Launch} {Γ : mw_C} {mb : Nat} (hmb : Γ.2.2.2 ≤ mb) {W : Nat → Int32} {ρ : md_R} {H : Heap} {p y c : Nat} {name x : Int32} (hH : md_I Γ mb W ρ H) (hv : iv (c + 25) W) (hp : p < 5) (hy : y < 32768) (hvx : iv_v 0 5 x) : mw_Cr l Γ mX5_takenByHouse 7 0 0 (md_A mb) [.ref mb, .int (nI p), .int name, .int (nI y), .int (nI 5), .int x] H (some (.int (nI (mo_houseWhy W name y)))) (md_I Γ mb (mo_house W p name y 5 x) ρ) := by
  refine mw_ofG (P := pX5_takenByHouse) (by decide) (md_As hmb) oX5_takenByHouse (Nat.le_of_ble_eq_true rfl) ?_
  intro pg e0 sg mg below meth cd X hs
  refine mw_pre (I' := md_I Γ mb W ρ) (fun H1 h1 => by rw [h1]; exact hH) ?_
  refine mw_steps X 2 (pc' := 2) (lv' := [(0, .ref mb), (1, .int (nI p)), (2, .int name), (3, .int (nI y)), (4, .int (nI 5)), (5, .int x)]) (st' := [.int name, .ref mb]) rfl ?_
  refine mw_cV1r X kd_X5_isLive kv_X5_isLive kl_X5_72 (ci := 5) rfl rfl (Nat.le_of_ble_eq_true rfl) ⟨Nat.le_of_ble_eq_true rfl, Nat.le_of_ble_eq_true rfl⟩ ⟨Nat.le_of_ble_eq_true rfl, Nat.le_of_ble_eq_true rfl⟩ (fun _ h => h) (fun H h => ⟨⟨_, h.1⟩, cm_isLive hmb h hv⟩) ?_
  refine mw_if_ne X 10 rfl rfl (fun c5 => ?_) (fun c5 => ?_)
  · refine mw_steps X 3 (pc' := 13) (lv' := [(0, .ref mb), (1, .int (nI p)), (2, .int name), (3, .int (nI y)), (4, .int (nI 5)), (5, .int x)]) (st' := [.int (nI y), .int (nI 1), .ref mb]) rfl ?_
    refine mw_cV2r X kd_X5_took kv_X5_took kl_X5_76 (ci := 5) rfl rfl (Nat.le_of_ble_eq_true rfl) ⟨Nat.le_of_ble_eq_true rfl, Nat.le_of_ble_eq_true rfl⟩ ⟨Nat.le_of_ble_eq_true rfl, Nat.le_of_ble_eq_true rfl⟩ (fun _ h => h) (fun H h => ⟨⟨_, h.1⟩, cm_took hmb h (e := 1) (by omega) hy⟩) ?_
    refine mw_if_eq X 21 rfl rfl (fun c16 => ?_) (fun c16 => ?_)
    · refine mw_steps X 3 (pc' := 24) (lv' := [(0, .ref mb), (1, .int (nI p)), (2, .int name), (3, .int (nI y)), (4, .int (nI 5)), (5, .int x)]) (st' := [.int (nI y), .int (nI 1), .ref mb]) rfl ?_
      refine mw_cV2v X kd_X5_note kv_X5_note kl_X5_79 (ci := 5) rfl rfl (Nat.le_of_ble_eq_true rfl) ⟨Nat.le_of_ble_eq_true rfl, Nat.le_of_ble_eq_true rfl⟩ ⟨Nat.le_of_ble_eq_true rfl, Nat.le_of_ble_eq_true rfl⟩ (fun _ h => h) (fun H h => ⟨⟨_, h.1⟩, cm_note hmb h (e := 1) (by omega) hy⟩) ?_
      have hn37 : mo_note W 1 y (37 + p) = W (37 + p) := pk_un (by omega)
      refine mw_steps X 1 (pc' := 28) (lv' := [(0, .ref mb), (1, .int (nI p)), (2, .int name), (3, .int (nI y)), (4, .int (nI 5)), (5, .int x)]) (st' := [.ref mb]) rfl ?_
      refine mw_get X kf_X5_7.fl kc_5 rfl (v := .ref (mb + 1)) (fun H h => ⟨_, h.1, rfl⟩) ?_
      refine mw_steps X 4 (pc' := 36) (lv' := [(0, .ref mb), (1, .int (nI p)), (2, .int name), (3, .int (nI y)), (4, .int (nI 5)), (5, .int x)]) (st' := [.int ((nI 37) + (nI p)), .ref (mb + 1), .int ((nI 37) + (nI p)), .ref (mb + 1)]) rfl ?_
      refine mw_iald X (v := W (37 + p)) (37 + p) (by simp only [nI_add, pk_mul]) rfl (fun H h => ⟨_, _, h.2.1, by omega, by decide, hn37⟩) ?_
      refine mw_steps X 1 (pc' := 39) (lv' := [(0, .ref mb), (1, .int (nI p)), (2, .int name), (3, .int (nI y)), (4, .int (nI 5)), (5, .int x)]) (st' := [.int (nI 5), .int (W (37 + p)), .int ((nI 37) + (nI p)), .ref (mb + 1)]) rfl ?_
      refine mw_cS1r X kd_X5_sizeOf ks_X5_sizeOf kl_X5_25 rfl (Nat.le_of_ble_eq_true rfl) ⟨Nat.le_of_ble_eq_true rfl, Nat.le_of_ble_eq_true rfl⟩ ⟨Nat.le_of_ble_eq_true rfl, Nat.le_of_ble_eq_true rfl⟩ (fun _ h => h) (fun H h => cm_sizeOf hmb (k := 5) (by omega) h) ?_
      refine mw_steps X 1 (pc' := 43) (lv' := [(0, .ref mb), (1, .int (nI p)), (2, .int name), (3, .int (nI y)), (4, .int (nI 5)), (5, .int x)]) (st' := [.int ((W (37 + p)) + (mw_sz 5)), .int ((nI 37) + (nI p)), .ref (mb + 1)]) rfl ?_
      refine mw_iast X (I1 := md_I Γ mb (upd (mo_note W 1 y) (37 + p) ((W (37 + p)) + (mw_sz 5))) ρ) (37 + p) (by simp only [nI_add, pk_mul]) rfl (fun H h => ⟨md_A1, _, _, h.2.1, by omega, by decide, fun H1 o c => h.stw o c⟩) ?_
      obtain ⟨G, hG⟩ : ∃ G, G = mo_houseGot W p 5 y := ⟨_, rfl⟩
      rw [show upd (mo_note W 1 y) (37 + p) ((W (37 + p)) + (mw_sz 5)) = G from hG.symm]
      have hiG : iv (c + 25) G := by rw [hG]; exact iv_got hv hp
      refine mw_steps X 1 (pc' := 46) (lv' := [(0, .ref mb), (1, .int (nI p)), (2, .int name), (3, .int (nI y)), (4, .int (nI 5)), (5, .int x)]) (st' := [.int (nI 5)]) rfl ?_
      refine mw_if_eq X 55 rfl rfl (fun c46 => absurd c46 (by decide)) (fun c46 => ?_)
      refine mw_steps X 2 (pc' := 52) (lv' := [(0, .ref mb), (1, .int (nI p)), (2, .int name), (3, .int (nI y)), (4, .int (nI 5)), (5, .int x)]) (st' := [.int (nI 3), .int (nI 5)]) rfl ?_
      refine mw_icmp_le X 79 rfl rfl (fun c52 => absurd c52 (by decide)) (fun c52 => ?_)
      refine mw_steps X 2 (pc' := 57) (lv' := [(0, .ref mb), (1, .int (nI p)), (2, .int name), (3, .int (nI y)), (4, .int (nI 5)), (5, .int x)]) (st' := [.ref mb, .int (nI y)]) rfl ?_
      refine mw_get X kf_X5_7.fl kc_5 rfl (v := .ref (mb + 1)) (fun H h => ⟨_, h.1, rfl⟩) ?_
      refine mw_steps X 1 (pc' := 62) (lv' := [(0, .ref mb), (1, .int (nI p)), (2, .int name), (3, .int (nI y)), (4, .int (nI 5)), (5, .int x)]) (st' := [.int (nI 6), .ref (mb + 1), .int (nI y)]) rfl ?_
      refine mw_iald X (v := G (6)) (6) rfl rfl (fun H h => ⟨_, _, h.2.1, by omega, by decide, rfl⟩) ?_
      refine mw_icmp_le X 79 rfl rfl (fun c63 => ?_) (fun c63 => ?_)
      · rw [show G = mo_new G p 5 y from by first | exact (ml_new_k (by decide)).symm | exact (ml_new_n c63).symm | exact (ml_new_y (by decide) c63).symm]
        have hiN : iv (c + 24) (mo_new G p 5 y) := iv_new hiG hp
        obtain ⟨N, hN⟩ : ∃ N, N = mo_new G p 5 y := ⟨_, rfl⟩
        rw [← hN] at hiN ⊢
        refine mw_steps X 1 (pc' := 81) (lv' := [(0, .ref mb), (1, .int (nI p)), (2, .int name), (3, .int (nI y)), (4, .int (nI 5)), (5, .int x)]) (st' := [.int (nI 5)]) rfl ?_
        refine mw_tsIn X 5 rfl (by decide) 167 rfl (by decide) rfl rfl ?_
        refine mw_steps X 3 (pc' := 171) (lv' := [(0, .ref mb), (1, .int (nI p)), (2, .int name), (3, .int (nI y)), (4, .int (nI 5)), (5, .int x)]) (st' := [.int x, .int (nI 1), .ref mb]) rfl ?_
        refine mw_cV2v X kd_X5_confirm kv_X5_confirm kl_X5_95 (ci := 5) rfl rfl (Nat.le_of_ble_eq_true rfl) ⟨Nat.le_of_ble_eq_true rfl, Nat.le_of_ble_eq_true rfl⟩ ⟨Nat.le_of_ble_eq_true rfl, Nat.le_of_ble_eq_true rfl⟩ (fun _ h => h) (fun H h => ⟨⟨_, h.1⟩, cm_confirm hmb h (e := 1) (by omega)⟩) ?_
        refine mw_steps X 3 (pc' := 179) (lv' := [(0, .ref mb), (1, .int (nI p)), (2, .int name), (3, .int (nI y)), (4, .int (nI 5)), (5, .int x)]) (st' := [.int (nI p), .ref mb]) rfl ?_
        rw [show mo_confirm N 1 x = mo_houseBy N p 5 name x from Eq.symm (ml_hb5)]
        refine mw_cV1v X kd_X5_letOut kv_X5_letOut kl_X5_65 (ci := 5) rfl rfl (Nat.le_of_ble_eq_true rfl) ⟨Nat.le_of_ble_eq_true rfl, Nat.le_of_ble_eq_true rfl⟩ ⟨Nat.le_of_ble_eq_true rfl, Nat.le_of_ble_eq_true rfl⟩ (fun _ h => h) (fun H h => ⟨⟨_, h.1⟩, cm_letOut hmb h (c := c) (iv_houseBy (c := c + 12) hiN hp (by omega) hvx) hp⟩) ?_
        refine mw_steps X 1 (pc' := 183) (lv' := [(0, .ref mb), (1, .int (nI p)), (2, .int name), (3, .int (nI y)), (4, .int (nI 5)), (5, .int x)]) (st' := [.int (nI 0)]) rfl ?_
        exact mw_iret X rfl rfl (fun H h => ⟨by rw [(ml_house_0 (p := p) (k := 5) (x := x) (mo_b_nz c5) (mo_b_z c16)).1], by rw [(ml_house_0 (mo_b_nz c5) (mo_b_z c16)).2, ← hG, ← hN]; exact h⟩)
      · refine mw_steps X 1 (pc' := 67) (lv' := [(0, .ref mb), (1, .int (nI p)), (2, .int name), (3, .int (nI y)), (4, .int (nI 5)), (5, .int x)]) (st' := [.ref mb]) rfl ?_
        refine mw_get X kf_X5_7.fl kc_5 rfl (v := .ref (mb + 1)) (fun H h => ⟨_, h.1, rfl⟩) ?_
        refine mw_steps X 2 (pc' := 73) (lv' := [(0, .ref mb), (1, .int (nI p)), (2, .int name), (3, .int (nI y)), (4, .int (nI 5)), (5, .int x)]) (st' := [.int (nI y), .int (nI 6), .ref (mb + 1)]) rfl ?_
        refine mw_iast X (I1 := md_I Γ mb (upd G (6) (nI y)) ρ) (6) rfl rfl (fun H h => ⟨md_A1, _, _, h.2.1, by omega, by decide, fun H1 o c => h.stw o c⟩) ?_
        refine mw_steps X 2 (pc' := 76) (lv' := [(0, .ref mb), (1, .int (nI p)), (2, .int name), (3, .int (nI y)), (4, .int (nI 5)), (5, .int x)]) (st' := [.int (nI p), .ref mb]) rfl ?_
        refine mw_cV1v X kd_X5_follow kv_X5_follow kl_X5_82 (ci := 5) rfl rfl (Nat.le_of_ble_eq_true rfl) ⟨Nat.le_of_ble_eq_true rfl, Nat.le_of_ble_eq_true rfl⟩ ⟨Nat.le_of_ble_eq_true rfl, Nat.le_of_ble_eq_true rfl⟩ (fun _ h => h) (fun H h => ⟨⟨_, h.1⟩, cm_follow hmb h (hiG.free (fun j a => pk_un (by omega))) hp⟩) ?_
        rw [show mo_follow (upd G 6 (nI y)) p = mo_new G p 5 y from by first | exact (ml_new_k (by decide)).symm | exact (ml_new_n c63).symm | exact (ml_new_y (by decide) c63).symm]
        have hiN : iv (c + 24) (mo_new G p 5 y) := iv_new hiG hp
        obtain ⟨N, hN⟩ : ∃ N, N = mo_new G p 5 y := ⟨_, rfl⟩
        rw [← hN] at hiN ⊢
        refine mw_steps X 1 (pc' := 81) (lv' := [(0, .ref mb), (1, .int (nI p)), (2, .int name), (3, .int (nI y)), (4, .int (nI 5)), (5, .int x)]) (st' := [.int (nI 5)]) rfl ?_
        refine mw_tsIn X 5 rfl (by decide) 167 rfl (by decide) rfl rfl ?_
        refine mw_steps X 3 (pc' := 171) (lv' := [(0, .ref mb), (1, .int (nI p)), (2, .int name), (3, .int (nI y)), (4, .int (nI 5)), (5, .int x)]) (st' := [.int x, .int (nI 1), .ref mb]) rfl ?_
        refine mw_cV2v X kd_X5_confirm kv_X5_confirm kl_X5_95 (ci := 5) rfl rfl (Nat.le_of_ble_eq_true rfl) ⟨Nat.le_of_ble_eq_true rfl, Nat.le_of_ble_eq_true rfl⟩ ⟨Nat.le_of_ble_eq_true rfl, Nat.le_of_ble_eq_true rfl⟩ (fun _ h => h) (fun H h => ⟨⟨_, h.1⟩, cm_confirm hmb h (e := 1) (by omega)⟩) ?_
        refine mw_steps X 3 (pc' := 179) (lv' := [(0, .ref mb), (1, .int (nI p)), (2, .int name), (3, .int (nI y)), (4, .int (nI 5)), (5, .int x)]) (st' := [.int (nI p), .ref mb]) rfl ?_
        rw [show mo_confirm N 1 x = mo_houseBy N p 5 name x from Eq.symm (ml_hb5)]
        refine mw_cV1v X kd_X5_letOut kv_X5_letOut kl_X5_65 (ci := 5) rfl rfl (Nat.le_of_ble_eq_true rfl) ⟨Nat.le_of_ble_eq_true rfl, Nat.le_of_ble_eq_true rfl⟩ ⟨Nat.le_of_ble_eq_true rfl, Nat.le_of_ble_eq_true rfl⟩ (fun _ h => h) (fun H h => ⟨⟨_, h.1⟩, cm_letOut hmb h (c := c) (iv_houseBy (c := c + 12) hiN hp (by omega) hvx) hp⟩) ?_
        refine mw_steps X 1 (pc' := 183) (lv' := [(0, .ref mb), (1, .int (nI p)), (2, .int name), (3, .int (nI y)), (4, .int (nI 5)), (5, .int x)]) (st' := [.int (nI 0)]) rfl ?_
        exact mw_iret X rfl rfl (fun H h => ⟨by rw [(ml_house_0 (p := p) (k := 5) (x := x) (mo_b_nz c5) (mo_b_z c16)).1], by rw [(ml_house_0 (mo_b_nz c5) (mo_b_z c16)).2, ← hG, ← hN]; exact h⟩)
    · refine mw_steps X 1 (pc' := 20) (lv' := [(0, .ref mb), (1, .int (nI p)), (2, .int name), (3, .int (nI y)), (4, .int (nI 5)), (5, .int x)]) (st' := [.int (nI 3)]) rfl ?_
      exact mw_iret X rfl rfl (fun H h => ⟨by rw [(ml_house_3 (p := p) (k := 5) (x := x) (mo_b_nz c5) (mo_b_nz c16)).1], by rw [(ml_house_3 (p := p) (k := 5) (x := x) (mo_b_nz c5) (mo_b_nz c16)).2]; exact h⟩)
  · refine mw_steps X 1 (pc' := 9) (lv' := [(0, .ref mb), (1, .int (nI p)), (2, .int name), (3, .int (nI y)), (4, .int (nI 5)), (5, .int x)]) (st' := [.int (nI 1)]) rfl ?_
    exact mw_iret X rfl rfl (fun H h => ⟨by rw [(ml_house_1 (p := p) (y := y) (k := 5) (x := x) (mo_b_z c5)).1], by rw [(ml_house_1 (p := p) (y := y) (k := 5) (x := x) (mo_b_z c5)).2]; exact h⟩)
theorem cm_house {l : Launch} {Γ : mw_C} {mb : Nat} (hmb : Γ.2.2.2 ≤ mb) {W : Nat → Int32} {ρ : md_R} {H : Heap} {p y k c : Nat} {name x : Int32} (hH : md_I Γ mb W ρ H) (hv : iv (c + 25) W) (hp : p < 5) (hy : y < 32768) (hk : k < 6) (hvx : iv_v 0 k x) : mw_Cr l Γ mX5_takenByHouse 7 0 0 (md_A mb) [.ref mb, .int (nI p), .int name, .int (nI y), .int (nI k), .int x] H (some (.int (nI (mo_houseWhy W name y)))) (md_I Γ mb (mo_house W p name y k x) ρ) := by
  rcases (show k = 0 ∨ k = 1 ∨ k = 2 ∨ k = 3 ∨ k = 4 ∨ k = 5 by omega) with rfl | rfl | rfl | rfl | rfl | rfl
  · exact cm_house0 hmb hH hv hp hy hvx
  · exact cm_house1 hmb hH hv hp hy hvx
  · exact cm_house2 hmb hH hv hp hy hvx
  · exact cm_house3 hmb hH hv hp hy hvx
  · exact cm_house4 hmb hH hv hp hy hvx
  · exact cm_house5 hmb hH hv hp hy hvx
end
section
set_option maxHeartbeats 4000000 in
set_option maxRecDepth 20000 in
theorem cm_sure {l : Launch} {Γ : mw_C} {mb : Nat} (hmb : Γ.2.2.2 ≤ mb) {W : Nat → Int32} {ρ : md_R} {H : Heap} {c : Nat} {x : Int32} (hH : md_I Γ mb W ρ H) (hv : iv c W) : mw_Cr l Γ mX5_sureBy 4 0 0 (md_A mb) [.ref mb, .int x] H none (md_I Γ mb (mo_sure W x) ρ) := by
  have hn := ml_i13 hv.1
  have hn2 := ml_n6 hv.1
  refine mw_ofG (P := pX5_sureBy) (by decide) (md_As hmb) oX5_sureBy (Nat.le_of_ble_eq_true rfl) ?_
  intro pg e0 sg mg below meth cd X hs
  refine mw_pre (I' := md_I Γ mb W ρ) (fun H1 h1 => by rw [h1]; exact hH) ?_
  refine mw_steps X 4 (pc' := 4) (lv' := [(0, .ref mb), (1, .int x)]) (st' := [.int x, .int (nI 1), .int (nI 0), .ref mb]) rfl ?_
  refine mw_cV3r X kd_X5_findAsked kv_X5_findAsked kl_X5_50 (ci := 5) rfl rfl (Nat.le_of_ble_eq_true rfl) ⟨Nat.le_of_ble_eq_true rfl, Nat.le_of_ble_eq_true rfl⟩ ⟨Nat.le_of_ble_eq_true rfl, Nat.le_of_ble_eq_true rfl⟩ (fun _ h => h) (fun H h => ⟨⟨_, h.1⟩, cm_fa hmb h (e := 0) (wh := 1) hn hn2 (by omega)⟩) ?_
  refine mw_steps X 1 (pc' := 8) (lv' := [(2, .int (mo_ix (mo_fa W 0 1 x) (mo_n (W 13)))), (0, .ref mb), (1, .int x)]) (st' := []) rfl ?_
  by_cases hf : mo_fa W 0 1 x < mo_n (W 13)
  · obtain ⟨e1, pl, tr, -, hpl, -, -, hpp, -⟩ := hv.2.2.2.2.1 _ hf
    rw [show mo_ix (mo_fa W 0 1 x) (mo_n (W 13)) = nI (mo_fa W 0 1 x) from if_pos hf]
    obtain ⟨k, hk⟩ : ∃ k, k = mo_fa W 0 1 x := ⟨_, rfl⟩
    rw [← hk] at hf hpp ⊢
    refine mw_steps X 1 (pc' := 9) (lv' := [(2, .int (nI k)), (0, .ref mb), (1, .int x)]) (st' := [.int (nI k)]) rfl ?_
    refine mw_if_lt X 46 rfl rfl (fun c9 => absurd c9 (nI_pos (by omega))) (fun c9 => ?_)
    refine mw_steps X 1 (pc' := 13) (lv' := [(2, .int (nI k)), (0, .ref mb), (1, .int x)]) (st' := [.ref mb]) rfl ?_
    refine mw_get X kf_X5_7.fl kc_5 rfl (v := .ref (mb + 1)) (fun H h => ⟨_, h.1, rfl⟩) ?_
    refine mw_steps X 2 (pc' := 19) (lv' := [(2, .int (nI k)), (0, .ref mb), (1, .int x)]) (st' := [.ref mb, .int (nI 27), .ref (mb + 1)]) rfl ?_
    refine mw_get X kf_X5_7.fl kc_5 rfl (v := .ref (mb + 1)) (fun H h => ⟨_, h.1, rfl⟩) ?_
    refine mw_steps X 7 (pc' := 31) (lv' := [(2, .int (nI k)), (0, .ref mb), (1, .int x)]) (st' := [.int (((nI 507) + ((nI 5) * (nI k))) + (nI 2)), .ref (mb + 1), .int (nI 27), .ref (mb + 1)]) rfl ?_
    refine mw_iald X (v := nI pl) (507 + 5 * k + 2) (by simp only [nI_add, pk_mul]) rfl (fun H h => ⟨_, _, h.2.1, by omega, by decide, hpp⟩) ?_
    refine mw_steps X 2 (pc' := 34) (lv' := [(2, .int (nI k)), (0, .ref mb), (1, .int x)]) (st' := [.int (nI 1), .int ((nI 27) + (nI pl)), .ref (mb + 1)]) rfl ?_
    refine mw_iast X (I1 := md_I Γ mb (upd W (27 + pl) (nI 1)) ρ) (27 + pl) (by simp only [nI_add, pk_mul]) rfl (fun H h => ⟨md_A1, _, _, h.2.1, by omega, by decide, fun H1 o c => h.stw o c⟩) ?_
    refine mw_steps X 5 (pc' := 43) (lv' := [(2, .int (nI k)), (0, .ref mb), (1, .int x)]) (st' := [.int (nI k), .int (nI 13), .int (nI 5), .int (nI 507), .ref mb]) rfl ?_
    refine mw_cV4v X kd_X5_removeAt kv_X5_removeAt kl_X5_29 (ci := 5) rfl rfl (Nat.le_of_ble_eq_true rfl) ⟨Nat.le_of_ble_eq_true rfl, Nat.le_of_ble_eq_true rfl⟩ ⟨Nat.le_of_ble_eq_true rfl, Nat.le_of_ble_eq_true rfl⟩ (fun _ h => h) (fun H h => ⟨⟨_, h.1⟩, cm_removeAt hmb h (f := 507) (z := 5) (q := 13) (by rw [pk_un (by omega)]; exact hn) (by omega) (by omega) (by omega) (by omega) (by omega)⟩) ?_
    exact mw_vret X rfl rfl (fun H h => ⟨rfl, by rw [show mo_sure W x = mo_rm (upd W (27 + pl) (nI 1)) 507 5 13 k from by exact ml_sure_t hk hf hpp hpl]; exact h⟩)
  · rw [show mo_ix (mo_fa W 0 1 x) (mo_n (W 13)) = -1 from if_neg hf]
    refine mw_steps X 1 (pc' := 9) (lv' := [(2, .int (-1)), (0, .ref mb), (1, .int x)]) (st' := [.int (-1)]) rfl ?_
    refine mw_if_lt X 46 rfl rfl (fun c9 => ?_) (fun c9 => absurd (by decide) c9)
    exact mw_vret X rfl rfl (fun H h => ⟨rfl, by rw [show mo_sure W x = W from by exact ml_sure_f hf]; exact h⟩)
set_option maxHeartbeats 4000000 in
set_option maxRecDepth 20000 in
theorem cm_guest0 {l : Launch} {Γ : mw_C} {mb : Nat} (hmb : Γ.2.2.2 ≤ mb) {W : Nat → Int32} {ρ : md_R} {H : Heap} {p y c : Nat} {x : Int32} (hH : md_I Γ mb W ρ H) (hv : iv (c + 1) W) (hp : p < 5) (hy : y < 32768) (hvx : iv_v 1 0 x) : mw_Cr l Γ mX5_takenByGuest 7 0 0 (md_A mb) [.ref mb, .int (nI p), .int (nI y), .int (nI 0), .int x] H (some (.int (nI (mo_guestWhy W p y)))) (md_I Γ mb (mo_guest W p y 0 x) ρ) := by
  obtain ⟨v, hv100, rfl⟩ := hvx.1 rfl
  refine mw_ofG (P := pX5_takenByGuest) (by decide) (md_As hmb) oX5_takenByGuest (Nat.le_of_ble_eq_true rfl) ?_
  intro pg e0 sg mg below meth cd X hs
  refine mw_pre (I' := md_I Γ mb W ρ) (fun H1 h1 => by rw [h1]; exact hH) ?_
  refine mw_steps X 1 (pc' := 1) (lv' := [(0, .ref mb), (1, .int (nI p)), (2, .int (nI y)), (3, .int (nI 0)), (4, .int (nI v))]) (st' := [.ref mb]) rfl ?_
  refine mw_get X kf_X5_7.fl kc_5 rfl (v := .ref (mb + 1)) (fun H h => ⟨_, h.1, rfl⟩) ?_
  refine mw_steps X 3 (pc' := 8) (lv' := [(0, .ref mb), (1, .int (nI p)), (2, .int (nI y)), (3, .int (nI 0)), (4, .int (nI v))]) (st' := [.int ((nI 22) + (nI p)), .ref (mb + 1)]) rfl ?_
  refine mw_iald X (v := W (22 + p)) (22 + p) (by simp only [nI_add, pk_mul]) rfl (fun H h => ⟨_, _, h.2.1, by omega, by decide, rfl⟩) ?_
  refine mw_if_ge X 14 rfl rfl (fun c9 => ?_) (fun c9 => ?_)
  · refine mw_steps X 3 (pc' := 17) (lv' := [(0, .ref mb), (1, .int (nI p)), (2, .int (nI y)), (3, .int (nI 0)), (4, .int (nI v))]) (st' := [.int (nI y), .int (nI 0), .ref mb]) rfl ?_
    refine mw_cV2r X kd_X5_took kv_X5_took kl_X5_76 (ci := 5) rfl rfl (Nat.le_of_ble_eq_true rfl) ⟨Nat.le_of_ble_eq_true rfl, Nat.le_of_ble_eq_true rfl⟩ ⟨Nat.le_of_ble_eq_true rfl, Nat.le_of_ble_eq_true rfl⟩ (fun _ h => h) (fun H h => ⟨⟨_, h.1⟩, cm_took hmb h (e := 0) (by omega) hy⟩) ?_
    refine mw_if_eq X 25 rfl rfl (fun c20 => ?_) (fun c20 => ?_)
    · refine mw_steps X 3 (pc' := 28) (lv' := [(0, .ref mb), (1, .int (nI p)), (2, .int (nI y)), (3, .int (nI 0)), (4, .int (nI v))]) (st' := [.int (nI y), .int (nI 0), .ref mb]) rfl ?_
      refine mw_cV2v X kd_X5_note kv_X5_note kl_X5_79 (ci := 5) rfl rfl (Nat.le_of_ble_eq_true rfl) ⟨Nat.le_of_ble_eq_true rfl, Nat.le_of_ble_eq_true rfl⟩ ⟨Nat.le_of_ble_eq_true rfl, Nat.le_of_ble_eq_true rfl⟩ (fun _ h => h) (fun H h => ⟨⟨_, h.1⟩, cm_note hmb h (e := 0) (by omega) hy⟩) ?_
      obtain ⟨N, hN⟩ : ∃ N, N = mo_note W 0 y := ⟨_, rfl⟩
      rw [← hN]
      have hiN : iv (c + 1) N := by rw [hN]; exact iv_note hv (by omega)
      refine mw_steps X 1 (pc' := 32) (lv' := [(0, .ref mb), (1, .int (nI p)), (2, .int (nI y)), (3, .int (nI 0)), (4, .int (nI v))]) (st' := [.int (nI 0)]) rfl ?_
      refine mw_tsIn X 0 rfl (by decide) 72 rfl (by decide) rfl rfl ?_
      refine mw_steps X 4 (pc' := 77) (lv' := [(0, .ref mb), (1, .int (nI p)), (2, .int (nI y)), (3, .int (nI 0)), (4, .int (nI v))]) (st' := [.int (nI 1), .int (nI v), .int (nI 0), .ref mb]) rfl ?_
      refine mw_cV3v X kd_X5_word kv_X5_word kl_X5_85 (ci := 5) rfl rfl (Nat.le_of_ble_eq_true rfl) ⟨Nat.le_of_ble_eq_true rfl, Nat.le_of_ble_eq_true rfl⟩ ⟨Nat.le_of_ble_eq_true rfl, Nat.le_of_ble_eq_true rfl⟩ (fun _ h => h) (fun H h => ⟨⟨_, h.1⟩, cm_word hmb h (e := 0) hiN (by omega) hv100⟩) ?_
      refine mw_steps X 2 (pc' := 155) (lv' := [(0, .ref mb), (1, .int (nI p)), (2, .int (nI y)), (3, .int (nI 0)), (4, .int (nI v))]) (st' := [.int (nI 0)]) rfl ?_
      exact mw_iret X rfl rfl (fun H h => ⟨by rw [(ml_guest_0 (k := 0) (x := (nI v)) (Int32.not_lt.mpr c9) (mo_b_z c20)).1], by rw [(ml_guest_0 (k := 0) (x := (nI v)) (Int32.not_lt.mpr c9) (mo_b_z c20)).2, ← hN, show mo_guestBy N p 0 (nI v) = mo_word N 0 v from by rw [ml_gb0, ml_n (by omega)]]; exact h⟩)
    · refine mw_steps X 1 (pc' := 24) (lv' := [(0, .ref mb), (1, .int (nI p)), (2, .int (nI y)), (3, .int (nI 0)), (4, .int (nI v))]) (st' := [.int (nI 3)]) rfl ?_
      exact mw_iret X rfl rfl (fun H h => ⟨by rw [(ml_guest_3 (k := 0) (x := (nI v)) (Int32.not_lt.mpr c9) (mo_b_nz c20)).1], by rw [(ml_guest_3 (k := 0) (x := (nI v)) (Int32.not_lt.mpr c9) (mo_b_nz c20)).2]; exact h⟩)
  · refine mw_steps X 1 (pc' := 13) (lv' := [(0, .ref mb), (1, .int (nI p)), (2, .int (nI y)), (3, .int (nI 0)), (4, .int (nI v))]) (st' := [.int (nI 2)]) rfl ?_
    exact mw_iret X rfl rfl (fun H h => ⟨by rw [(ml_guest_2 (y := y) (k := 0) (x := (nI v)) (Int32.not_le.mp c9)).1], by rw [(ml_guest_2 (y := y) (k := 0) (x := (nI v)) (Int32.not_le.mp c9)).2]; exact h⟩)
set_option maxHeartbeats 4000000 in
set_option maxRecDepth 20000 in
theorem cm_guest1 {l : Launch} {Γ : mw_C} {mb : Nat} (hmb : Γ.2.2.2 ≤ mb) {W : Nat → Int32} {ρ : md_R} {H : Heap} {p y c : Nat} {x : Int32} (hH : md_I Γ mb W ρ H) (hv : iv (c + 1) W) (hp : p < 5) (hy : y < 32768) (hvx : iv_v 1 1 x) : mw_Cr l Γ mX5_takenByGuest 7 0 0 (md_A mb) [.ref mb, .int (nI p), .int (nI y), .int (nI 1), .int x] H (some (.int (nI (mo_guestWhy W p y)))) (md_I Γ mb (mo_guest W p y 1 x) ρ) := by
  refine mw_ofG (P := pX5_takenByGuest) (by decide) (md_As hmb) oX5_takenByGuest (Nat.le_of_ble_eq_true rfl) ?_
  intro pg e0 sg mg below meth cd X hs
  refine mw_pre (I' := md_I Γ mb W ρ) (fun H1 h1 => by rw [h1]; exact hH) ?_
  refine mw_steps X 1 (pc' := 1) (lv' := [(0, .ref mb), (1, .int (nI p)), (2, .int (nI y)), (3, .int (nI 1)), (4, .int x)]) (st' := [.ref mb]) rfl ?_
  refine mw_get X kf_X5_7.fl kc_5 rfl (v := .ref (mb + 1)) (fun H h => ⟨_, h.1, rfl⟩) ?_
  refine mw_steps X 3 (pc' := 8) (lv' := [(0, .ref mb), (1, .int (nI p)), (2, .int (nI y)), (3, .int (nI 1)), (4, .int x)]) (st' := [.int ((nI 22) + (nI p)), .ref (mb + 1)]) rfl ?_
  refine mw_iald X (v := W (22 + p)) (22 + p) (by simp only [nI_add, pk_mul]) rfl (fun H h => ⟨_, _, h.2.1, by omega, by decide, rfl⟩) ?_
  refine mw_if_ge X 14 rfl rfl (fun c9 => ?_) (fun c9 => ?_)
  · refine mw_steps X 3 (pc' := 17) (lv' := [(0, .ref mb), (1, .int (nI p)), (2, .int (nI y)), (3, .int (nI 1)), (4, .int x)]) (st' := [.int (nI y), .int (nI 0), .ref mb]) rfl ?_
    refine mw_cV2r X kd_X5_took kv_X5_took kl_X5_76 (ci := 5) rfl rfl (Nat.le_of_ble_eq_true rfl) ⟨Nat.le_of_ble_eq_true rfl, Nat.le_of_ble_eq_true rfl⟩ ⟨Nat.le_of_ble_eq_true rfl, Nat.le_of_ble_eq_true rfl⟩ (fun _ h => h) (fun H h => ⟨⟨_, h.1⟩, cm_took hmb h (e := 0) (by omega) hy⟩) ?_
    refine mw_if_eq X 25 rfl rfl (fun c20 => ?_) (fun c20 => ?_)
    · refine mw_steps X 3 (pc' := 28) (lv' := [(0, .ref mb), (1, .int (nI p)), (2, .int (nI y)), (3, .int (nI 1)), (4, .int x)]) (st' := [.int (nI y), .int (nI 0), .ref mb]) rfl ?_
      refine mw_cV2v X kd_X5_note kv_X5_note kl_X5_79 (ci := 5) rfl rfl (Nat.le_of_ble_eq_true rfl) ⟨Nat.le_of_ble_eq_true rfl, Nat.le_of_ble_eq_true rfl⟩ ⟨Nat.le_of_ble_eq_true rfl, Nat.le_of_ble_eq_true rfl⟩ (fun _ h => h) (fun H h => ⟨⟨_, h.1⟩, cm_note hmb h (e := 0) (by omega) hy⟩) ?_
      obtain ⟨N, hN⟩ : ∃ N, N = mo_note W 0 y := ⟨_, rfl⟩
      rw [← hN]
      have hiN : iv (c + 1) N := by rw [hN]; exact iv_note hv (by omega)
      refine mw_steps X 1 (pc' := 32) (lv' := [(0, .ref mb), (1, .int (nI p)), (2, .int (nI y)), (3, .int (nI 1)), (4, .int x)]) (st' := [.int (nI 1)]) rfl ?_
      refine mw_tsIn X 1 rfl (by decide) 83 rfl (by decide) rfl rfl ?_
      refine mw_steps X 5 (pc' := 89) (lv' := [(0, .ref mb), (1, .int (nI p)), (2, .int (nI y)), (3, .int (nI 1)), (4, .int x)]) (st' := [.int x, .int (nI 2), .int (nI p), .int (nI 0), .ref mb]) rfl ?_
      refine mw_cV4v X kd_X5_goes kv_X5_goes kl_X5_47 (ci := 5) rfl rfl (Nat.le_of_ble_eq_true rfl) ⟨Nat.le_of_ble_eq_true rfl, Nat.le_of_ble_eq_true rfl⟩ ⟨Nat.le_of_ble_eq_true rfl, Nat.le_of_ble_eq_true rfl⟩ (fun _ h => h) (fun H h => ⟨⟨_, h.1⟩, cm_goes hmb h (e := 0) (k := 2) hiN.1 (by omega) hp (by omega)⟩) ?_
      refine mw_steps X 2 (pc' := 155) (lv' := [(0, .ref mb), (1, .int (nI p)), (2, .int (nI y)), (3, .int (nI 1)), (4, .int x)]) (st' := [.int (nI 0)]) rfl ?_
      exact mw_iret X rfl rfl (fun H h => ⟨by rw [(ml_guest_0 (k := 1) (x := x) (Int32.not_lt.mpr c9) (mo_b_z c20)).1], by rw [(ml_guest_0 (k := 1) (x := x) (Int32.not_lt.mpr c9) (mo_b_z c20)).2, ← hN, show mo_guestBy N p 1 x = mo_goes N 0 p 2 x from by exact ml_gb1]; exact h⟩)
    · refine mw_steps X 1 (pc' := 24) (lv' := [(0, .ref mb), (1, .int (nI p)), (2, .int (nI y)), (3, .int (nI 1)), (4, .int x)]) (st' := [.int (nI 3)]) rfl ?_
      exact mw_iret X rfl rfl (fun H h => ⟨by rw [(ml_guest_3 (k := 1) (x := x) (Int32.not_lt.mpr c9) (mo_b_nz c20)).1], by rw [(ml_guest_3 (k := 1) (x := x) (Int32.not_lt.mpr c9) (mo_b_nz c20)).2]; exact h⟩)
  · refine mw_steps X 1 (pc' := 13) (lv' := [(0, .ref mb), (1, .int (nI p)), (2, .int (nI y)), (3, .int (nI 1)), (4, .int x)]) (st' := [.int (nI 2)]) rfl ?_
    exact mw_iret X rfl rfl (fun H h => ⟨by rw [(ml_guest_2 (y := y) (k := 1) (x := x) (Int32.not_le.mp c9)).1], by rw [(ml_guest_2 (y := y) (k := 1) (x := x) (Int32.not_le.mp c9)).2]; exact h⟩)
set_option maxHeartbeats 4000000 in
set_option maxRecDepth 20000 in
theorem cm_guest2 {l : Launch} {Γ : mw_C} {mb : Nat} (hmb : Γ.2.2.2 ≤ mb) {W : Nat → Int32} {ρ : md_R} {H : Heap} {p y c : Nat} {x : Int32} (hH : md_I Γ mb W ρ H) (hv : iv (c + 1) W) (hp : p < 5) (hy : y < 32768) (hvx : iv_v 1 2 x) : mw_Cr l Γ mX5_takenByGuest 7 0 0 (md_A mb) [.ref mb, .int (nI p), .int (nI y), .int (nI 2), .int x] H (some (.int (nI (mo_guestWhy W p y)))) (md_I Γ mb (mo_guest W p y 2 x) ρ) := by
  refine mw_ofG (P := pX5_takenByGuest) (by decide) (md_As hmb) oX5_takenByGuest (Nat.le_of_ble_eq_true rfl) ?_
  intro pg e0 sg mg below meth cd X hs
  refine mw_pre (I' := md_I Γ mb W ρ) (fun H1 h1 => by rw [h1]; exact hH) ?_
  refine mw_steps X 1 (pc' := 1) (lv' := [(0, .ref mb), (1, .int (nI p)), (2, .int (nI y)), (3, .int (nI 2)), (4, .int x)]) (st' := [.ref mb]) rfl ?_
  refine mw_get X kf_X5_7.fl kc_5 rfl (v := .ref (mb + 1)) (fun H h => ⟨_, h.1, rfl⟩) ?_
  refine mw_steps X 3 (pc' := 8) (lv' := [(0, .ref mb), (1, .int (nI p)), (2, .int (nI y)), (3, .int (nI 2)), (4, .int x)]) (st' := [.int ((nI 22) + (nI p)), .ref (mb + 1)]) rfl ?_
  refine mw_iald X (v := W (22 + p)) (22 + p) (by simp only [nI_add, pk_mul]) rfl (fun H h => ⟨_, _, h.2.1, by omega, by decide, rfl⟩) ?_
  refine mw_if_ge X 14 rfl rfl (fun c9 => ?_) (fun c9 => ?_)
  · refine mw_steps X 3 (pc' := 17) (lv' := [(0, .ref mb), (1, .int (nI p)), (2, .int (nI y)), (3, .int (nI 2)), (4, .int x)]) (st' := [.int (nI y), .int (nI 0), .ref mb]) rfl ?_
    refine mw_cV2r X kd_X5_took kv_X5_took kl_X5_76 (ci := 5) rfl rfl (Nat.le_of_ble_eq_true rfl) ⟨Nat.le_of_ble_eq_true rfl, Nat.le_of_ble_eq_true rfl⟩ ⟨Nat.le_of_ble_eq_true rfl, Nat.le_of_ble_eq_true rfl⟩ (fun _ h => h) (fun H h => ⟨⟨_, h.1⟩, cm_took hmb h (e := 0) (by omega) hy⟩) ?_
    refine mw_if_eq X 25 rfl rfl (fun c20 => ?_) (fun c20 => ?_)
    · refine mw_steps X 3 (pc' := 28) (lv' := [(0, .ref mb), (1, .int (nI p)), (2, .int (nI y)), (3, .int (nI 2)), (4, .int x)]) (st' := [.int (nI y), .int (nI 0), .ref mb]) rfl ?_
      refine mw_cV2v X kd_X5_note kv_X5_note kl_X5_79 (ci := 5) rfl rfl (Nat.le_of_ble_eq_true rfl) ⟨Nat.le_of_ble_eq_true rfl, Nat.le_of_ble_eq_true rfl⟩ ⟨Nat.le_of_ble_eq_true rfl, Nat.le_of_ble_eq_true rfl⟩ (fun _ h => h) (fun H h => ⟨⟨_, h.1⟩, cm_note hmb h (e := 0) (by omega) hy⟩) ?_
      obtain ⟨N, hN⟩ : ∃ N, N = mo_note W 0 y := ⟨_, rfl⟩
      rw [← hN]
      have hiN : iv (c + 1) N := by rw [hN]; exact iv_note hv (by omega)
      refine mw_steps X 1 (pc' := 32) (lv' := [(0, .ref mb), (1, .int (nI p)), (2, .int (nI y)), (3, .int (nI 2)), (4, .int x)]) (st' := [.int (nI 2)]) rfl ?_
      refine mw_tsIn X 2 rfl (by decide) 95 rfl (by decide) rfl rfl ?_
      refine mw_steps X 2 (pc' := 98) (lv' := [(0, .ref mb), (1, .int (nI p)), (2, .int (nI y)), (3, .int (nI 2)), (4, .int x)]) (st' := [.int x, .ref mb]) rfl ?_
      refine mw_cV1v X kd_X5_sureBy kv_X5_sureBy kl_X5_98 (ci := 5) rfl rfl (Nat.le_of_ble_eq_true rfl) ⟨Nat.le_of_ble_eq_true rfl, Nat.le_of_ble_eq_true rfl⟩ ⟨Nat.le_of_ble_eq_true rfl, Nat.le_of_ble_eq_true rfl⟩ (fun _ h => h) (fun H h => ⟨⟨_, h.1⟩, cm_sure hmb h hiN⟩) ?_
      refine mw_steps X 2 (pc' := 155) (lv' := [(0, .ref mb), (1, .int (nI p)), (2, .int (nI y)), (3, .int (nI 2)), (4, .int x)]) (st' := [.int (nI 0)]) rfl ?_
      exact mw_iret X rfl rfl (fun H h => ⟨by rw [(ml_guest_0 (k := 2) (x := x) (Int32.not_lt.mpr c9) (mo_b_z c20)).1], by rw [(ml_guest_0 (k := 2) (x := x) (Int32.not_lt.mpr c9) (mo_b_z c20)).2, ← hN, show mo_guestBy N p 2 x = mo_sure N x from by exact ml_gb2]; exact h⟩)
    · refine mw_steps X 1 (pc' := 24) (lv' := [(0, .ref mb), (1, .int (nI p)), (2, .int (nI y)), (3, .int (nI 2)), (4, .int x)]) (st' := [.int (nI 3)]) rfl ?_
      exact mw_iret X rfl rfl (fun H h => ⟨by rw [(ml_guest_3 (k := 2) (x := x) (Int32.not_lt.mpr c9) (mo_b_nz c20)).1], by rw [(ml_guest_3 (k := 2) (x := x) (Int32.not_lt.mpr c9) (mo_b_nz c20)).2]; exact h⟩)
  · refine mw_steps X 1 (pc' := 13) (lv' := [(0, .ref mb), (1, .int (nI p)), (2, .int (nI y)), (3, .int (nI 2)), (4, .int x)]) (st' := [.int (nI 2)]) rfl ?_
    exact mw_iret X rfl rfl (fun H h => ⟨by rw [(ml_guest_2 (y := y) (k := 2) (x := x) (Int32.not_le.mp c9)).1], by rw [(ml_guest_2 (y := y) (k := 2) (x := x) (Int32.not_le.mp c9)).2]; exact h⟩)
set_option maxHeartbeats 4000000 in
set_option maxRecDepth 20000 in
theorem cm_guest3 {l : Launch} {Γ : mw_C} {mb : Nat} (hmb : Γ.2.2.2 ≤ mb) {W : Nat → Int32} {ρ : md_R} {H : Heap} {p y c : Nat} {x : Int32} (hH : md_I Γ mb W ρ H) (hv : iv (c + 1) W) (hp : p < 5) (hy : y < 32768) (hvx : iv_v 1 3 x) : mw_Cr l Γ mX5_takenByGuest 7 0 0 (md_A mb) [.ref mb, .int (nI p), .int (nI y), .int (nI 3), .int x] H (some (.int (nI (mo_guestWhy W p y)))) (md_I Γ mb (mo_guest W p y 3 x) ρ) := by
  obtain ⟨v, hv40, rfl⟩ := hvx.2.1 rfl rfl
  refine mw_ofG (P := pX5_takenByGuest) (by decide) (md_As hmb) oX5_takenByGuest (Nat.le_of_ble_eq_true rfl) ?_
  intro pg e0 sg mg below meth cd X hs
  refine mw_pre (I' := md_I Γ mb W ρ) (fun H1 h1 => by rw [h1]; exact hH) ?_
  refine mw_steps X 1 (pc' := 1) (lv' := [(0, .ref mb), (1, .int (nI p)), (2, .int (nI y)), (3, .int (nI 3)), (4, .int (nI v))]) (st' := [.ref mb]) rfl ?_
  refine mw_get X kf_X5_7.fl kc_5 rfl (v := .ref (mb + 1)) (fun H h => ⟨_, h.1, rfl⟩) ?_
  refine mw_steps X 3 (pc' := 8) (lv' := [(0, .ref mb), (1, .int (nI p)), (2, .int (nI y)), (3, .int (nI 3)), (4, .int (nI v))]) (st' := [.int ((nI 22) + (nI p)), .ref (mb + 1)]) rfl ?_
  refine mw_iald X (v := W (22 + p)) (22 + p) (by simp only [nI_add, pk_mul]) rfl (fun H h => ⟨_, _, h.2.1, by omega, by decide, rfl⟩) ?_
  refine mw_if_ge X 14 rfl rfl (fun c9 => ?_) (fun c9 => ?_)
  · refine mw_steps X 3 (pc' := 17) (lv' := [(0, .ref mb), (1, .int (nI p)), (2, .int (nI y)), (3, .int (nI 3)), (4, .int (nI v))]) (st' := [.int (nI y), .int (nI 0), .ref mb]) rfl ?_
    refine mw_cV2r X kd_X5_took kv_X5_took kl_X5_76 (ci := 5) rfl rfl (Nat.le_of_ble_eq_true rfl) ⟨Nat.le_of_ble_eq_true rfl, Nat.le_of_ble_eq_true rfl⟩ ⟨Nat.le_of_ble_eq_true rfl, Nat.le_of_ble_eq_true rfl⟩ (fun _ h => h) (fun H h => ⟨⟨_, h.1⟩, cm_took hmb h (e := 0) (by omega) hy⟩) ?_
    refine mw_if_eq X 25 rfl rfl (fun c20 => ?_) (fun c20 => ?_)
    · refine mw_steps X 3 (pc' := 28) (lv' := [(0, .ref mb), (1, .int (nI p)), (2, .int (nI y)), (3, .int (nI 3)), (4, .int (nI v))]) (st' := [.int (nI y), .int (nI 0), .ref mb]) rfl ?_
      refine mw_cV2v X kd_X5_note kv_X5_note kl_X5_79 (ci := 5) rfl rfl (Nat.le_of_ble_eq_true rfl) ⟨Nat.le_of_ble_eq_true rfl, Nat.le_of_ble_eq_true rfl⟩ ⟨Nat.le_of_ble_eq_true rfl, Nat.le_of_ble_eq_true rfl⟩ (fun _ h => h) (fun H h => ⟨⟨_, h.1⟩, cm_note hmb h (e := 0) (by omega) hy⟩) ?_
      obtain ⟨N, hN⟩ : ∃ N, N = mo_note W 0 y := ⟨_, rfl⟩
      rw [← hN]
      have hiN : iv (c + 1) N := by rw [hN]; exact iv_note hv (by omega)
      refine mw_steps X 1 (pc' := 32) (lv' := [(0, .ref mb), (1, .int (nI p)), (2, .int (nI y)), (3, .int (nI 3)), (4, .int (nI v))]) (st' := [.int (nI 3)]) rfl ?_
      refine mw_tsIn X 3 rfl (by decide) 104 rfl (by decide) rfl rfl ?_
      refine mw_steps X 1 (pc' := 105) (lv' := [(0, .ref mb), (1, .int (nI p)), (2, .int (nI y)), (3, .int (nI 3)), (4, .int (nI v))]) (st' := [.ref mb]) rfl ?_
      refine mw_get X kf_X5_7.fl kc_5 rfl (v := .ref (mb + 1)) (fun H h => ⟨_, h.1, rfl⟩) ?_
      refine mw_steps X 4 (pc' := 114) (lv' := [(0, .ref mb), (1, .int (nI p)), (2, .int (nI y)), (3, .int (nI 3)), (4, .int (nI v))]) (st' := [.ref mb, .int ((nI 87) + (nI v)), .ref (mb + 1)]) rfl ?_
      refine mw_get X kf_X5_7.fl kc_5 rfl (v := .ref (mb + 1)) (fun H h => ⟨_, h.1, rfl⟩) ?_
      refine mw_steps X 3 (pc' := 122) (lv' := [(0, .ref mb), (1, .int (nI p)), (2, .int (nI y)), (3, .int (nI 3)), (4, .int (nI v))]) (st' := [.int ((nI 87) + (nI v)), .ref (mb + 1), .int ((nI 87) + (nI v)), .ref (mb + 1)]) rfl ?_
      refine mw_iald X (v := N (87 + v)) (87 + v) (by simp only [nI_add, pk_mul]) rfl (fun H h => ⟨_, _, h.2.1, by omega, by decide, rfl⟩) ?_
      refine mw_if_ne X 130 rfl rfl (fun c123 => ?_) (fun c123 => ?_)
      · refine mw_steps X 1 (pc' := 131) (lv' := [(0, .ref mb), (1, .int (nI p)), (2, .int (nI y)), (3, .int (nI 3)), (4, .int (nI v))]) (st' := [.ref mb, .int ((nI 87) + (nI v)), .ref (mb + 1)]) rfl ?_
        refine mw_get X kf_X5_7.fl kc_5 rfl (v := .ref (mb + 1)) (fun H h => ⟨_, h.1, rfl⟩) ?_
        refine mw_steps X 3 (pc' := 139) (lv' := [(0, .ref mb), (1, .int (nI p)), (2, .int (nI y)), (3, .int (nI 3)), (4, .int (nI v))]) (st' := [.int ((nI 87) + (nI v)), .ref (mb + 1), .int ((nI 87) + (nI v)), .ref (mb + 1)]) rfl ?_
        refine mw_iald X (v := N (87 + v)) (87 + v) (by simp only [nI_add, pk_mul]) rfl (fun H h => ⟨_, _, h.2.1, by omega, by decide, rfl⟩) ?_
        refine mw_iast X (I1 := md_I Γ mb (upd N (87 + v) (N (87 + v))) ρ) (87 + v) (by simp only [nI_add, pk_mul]) rfl (fun H h => ⟨md_A1, _, _, h.2.1, by omega, by decide, fun H1 o c => h.stw o c⟩) ?_
        refine mw_steps X 2 (pc' := 155) (lv' := [(0, .ref mb), (1, .int (nI p)), (2, .int (nI y)), (3, .int (nI 3)), (4, .int (nI v))]) (st' := [.int (nI 0)]) rfl ?_
        exact mw_iret X rfl rfl (fun H h => ⟨by rw [(ml_guest_0 (k := 3) (x := (nI v)) (Int32.not_lt.mpr c9) (mo_b_z c20)).1], by rw [(ml_guest_0 (k := 3) (x := (nI v)) (Int32.not_lt.mpr c9) (mo_b_z c20)).2, ← hN, show mo_guestBy N p 3 (nI v) = upd N (87 + v) (N (87 + v)) from by rw [ml_gb3, ml_n (by omega)]; first | rw [if_pos c123] | rw [if_neg c123]]; exact h⟩)
      · refine mw_steps X 2 (pc' := 140) (lv' := [(0, .ref mb), (1, .int (nI p)), (2, .int (nI y)), (3, .int (nI 3)), (4, .int (nI v))]) (st' := [.int (nI 1), .int ((nI 87) + (nI v)), .ref (mb + 1)]) rfl ?_
        refine mw_iast X (I1 := md_I Γ mb (upd N (87 + v) (nI 1)) ρ) (87 + v) (by simp only [nI_add, pk_mul]) rfl (fun H h => ⟨md_A1, _, _, h.2.1, by omega, by decide, fun H1 o c => h.stw o c⟩) ?_
        refine mw_steps X 2 (pc' := 155) (lv' := [(0, .ref mb), (1, .int (nI p)), (2, .int (nI y)), (3, .int (nI 3)), (4, .int (nI v))]) (st' := [.int (nI 0)]) rfl ?_
        exact mw_iret X rfl rfl (fun H h => ⟨by rw [(ml_guest_0 (k := 3) (x := (nI v)) (Int32.not_lt.mpr c9) (mo_b_z c20)).1], by rw [(ml_guest_0 (k := 3) (x := (nI v)) (Int32.not_lt.mpr c9) (mo_b_z c20)).2, ← hN, show mo_guestBy N p 3 (nI v) = upd N (87 + v) (nI 1) from by rw [ml_gb3, ml_n (by omega)]; first | rw [if_pos c123] | rw [if_neg c123]]; exact h⟩)
    · refine mw_steps X 1 (pc' := 24) (lv' := [(0, .ref mb), (1, .int (nI p)), (2, .int (nI y)), (3, .int (nI 3)), (4, .int (nI v))]) (st' := [.int (nI 3)]) rfl ?_
      exact mw_iret X rfl rfl (fun H h => ⟨by rw [(ml_guest_3 (k := 3) (x := (nI v)) (Int32.not_lt.mpr c9) (mo_b_nz c20)).1], by rw [(ml_guest_3 (k := 3) (x := (nI v)) (Int32.not_lt.mpr c9) (mo_b_nz c20)).2]; exact h⟩)
  · refine mw_steps X 1 (pc' := 13) (lv' := [(0, .ref mb), (1, .int (nI p)), (2, .int (nI y)), (3, .int (nI 3)), (4, .int (nI v))]) (st' := [.int (nI 2)]) rfl ?_
    exact mw_iret X rfl rfl (fun H h => ⟨by rw [(ml_guest_2 (y := y) (k := 3) (x := (nI v)) (Int32.not_le.mp c9)).1], by rw [(ml_guest_2 (y := y) (k := 3) (x := (nI v)) (Int32.not_le.mp c9)).2]; exact h⟩)
set_option maxHeartbeats 4000000 in
set_option maxRecDepth 20000 in
theorem cm_guest4 {l : Launch} {Γ : mw_C} {mb : Nat} (hmb : Γ.2.2.2 ≤ mb) {W : Nat → Int32} {ρ : md_R} {H : Heap} {p y c : Nat} {x : Int32} (hH : md_I Γ mb W ρ H) (hv : iv (c + 1) W) (hp : p < 5) (hy : y < 32768) (hvx : iv_v 1 4 x) : mw_Cr l Γ mX5_takenByGuest 7 0 0 (md_A mb) [.ref mb, .int (nI p), .int (nI y), .int (nI 4), .int x] H (some (.int (nI (mo_guestWhy W p y)))) (md_I Γ mb (mo_guest W p y 4 x) ρ) := by
  refine mw_ofG (P := pX5_takenByGuest) (by decide) (md_As hmb) oX5_takenByGuest (Nat.le_of_ble_eq_true rfl) ?_
  intro pg e0 sg mg below meth cd X hs
  refine mw_pre (I' := md_I Γ mb W ρ) (fun H1 h1 => by rw [h1]; exact hH) ?_
  refine mw_steps X 1 (pc' := 1) (lv' := [(0, .ref mb), (1, .int (nI p)), (2, .int (nI y)), (3, .int (nI 4)), (4, .int x)]) (st' := [.ref mb]) rfl ?_
  refine mw_get X kf_X5_7.fl kc_5 rfl (v := .ref (mb + 1)) (fun H h => ⟨_, h.1, rfl⟩) ?_
  refine mw_steps X 3 (pc' := 8) (lv' := [(0, .ref mb), (1, .int (nI p)), (2, .int (nI y)), (3, .int (nI 4)), (4, .int x)]) (st' := [.int ((nI 22) + (nI p)), .ref (mb + 1)]) rfl ?_
  refine mw_iald X (v := W (22 + p)) (22 + p) (by simp only [nI_add, pk_mul]) rfl (fun H h => ⟨_, _, h.2.1, by omega, by decide, rfl⟩) ?_
  refine mw_if_ge X 14 rfl rfl (fun c9 => ?_) (fun c9 => ?_)
  · refine mw_steps X 3 (pc' := 17) (lv' := [(0, .ref mb), (1, .int (nI p)), (2, .int (nI y)), (3, .int (nI 4)), (4, .int x)]) (st' := [.int (nI y), .int (nI 0), .ref mb]) rfl ?_
    refine mw_cV2r X kd_X5_took kv_X5_took kl_X5_76 (ci := 5) rfl rfl (Nat.le_of_ble_eq_true rfl) ⟨Nat.le_of_ble_eq_true rfl, Nat.le_of_ble_eq_true rfl⟩ ⟨Nat.le_of_ble_eq_true rfl, Nat.le_of_ble_eq_true rfl⟩ (fun _ h => h) (fun H h => ⟨⟨_, h.1⟩, cm_took hmb h (e := 0) (by omega) hy⟩) ?_
    refine mw_if_eq X 25 rfl rfl (fun c20 => ?_) (fun c20 => ?_)
    · refine mw_steps X 3 (pc' := 28) (lv' := [(0, .ref mb), (1, .int (nI p)), (2, .int (nI y)), (3, .int (nI 4)), (4, .int x)]) (st' := [.int (nI y), .int (nI 0), .ref mb]) rfl ?_
      refine mw_cV2v X kd_X5_note kv_X5_note kl_X5_79 (ci := 5) rfl rfl (Nat.le_of_ble_eq_true rfl) ⟨Nat.le_of_ble_eq_true rfl, Nat.le_of_ble_eq_true rfl⟩ ⟨Nat.le_of_ble_eq_true rfl, Nat.le_of_ble_eq_true rfl⟩ (fun _ h => h) (fun H h => ⟨⟨_, h.1⟩, cm_note hmb h (e := 0) (by omega) hy⟩) ?_
      obtain ⟨N, hN⟩ : ∃ N, N = mo_note W 0 y := ⟨_, rfl⟩
      rw [← hN]
      have hiN : iv (c + 1) N := by rw [hN]; exact iv_note hv (by omega)
      refine mw_steps X 1 (pc' := 32) (lv' := [(0, .ref mb), (1, .int (nI p)), (2, .int (nI y)), (3, .int (nI 4)), (4, .int x)]) (st' := [.int (nI 4)]) rfl ?_
      refine mw_tsIn X 4 rfl (by decide) 154 rfl (by decide) rfl rfl ?_
      refine mw_steps X 1 (pc' := 155) (lv' := [(0, .ref mb), (1, .int (nI p)), (2, .int (nI y)), (3, .int (nI 4)), (4, .int x)]) (st' := [.int (nI 0)]) rfl ?_
      exact mw_iret X rfl rfl (fun H h => ⟨by rw [(ml_guest_0 (k := 4) (x := x) (Int32.not_lt.mpr c9) (mo_b_z c20)).1], by rw [(ml_guest_0 (k := 4) (x := x) (Int32.not_lt.mpr c9) (mo_b_z c20)).2, ← hN, show mo_guestBy N p 4 x = N from by exact ml_gb4]; exact h⟩)
    · refine mw_steps X 1 (pc' := 24) (lv' := [(0, .ref mb), (1, .int (nI p)), (2, .int (nI y)), (3, .int (nI 4)), (4, .int x)]) (st' := [.int (nI 3)]) rfl ?_
      exact mw_iret X rfl rfl (fun H h => ⟨by rw [(ml_guest_3 (k := 4) (x := x) (Int32.not_lt.mpr c9) (mo_b_nz c20)).1], by rw [(ml_guest_3 (k := 4) (x := x) (Int32.not_lt.mpr c9) (mo_b_nz c20)).2]; exact h⟩)
  · refine mw_steps X 1 (pc' := 13) (lv' := [(0, .ref mb), (1, .int (nI p)), (2, .int (nI y)), (3, .int (nI 4)), (4, .int x)]) (st' := [.int (nI 2)]) rfl ?_
    exact mw_iret X rfl rfl (fun H h => ⟨by rw [(ml_guest_2 (y := y) (k := 4) (x := x) (Int32.not_le.mp c9)).1], by rw [(ml_guest_2 (y := y) (k := 4) (x := x) (Int32.not_le.mp c9)).2]; exact h⟩)
set_option maxHeartbeats 4000000 in
set_option maxRecDepth 20000 in
theorem cm_guest5 {l : Launch} {Γ : mw_C} {mb : Nat} (hmb : Γ.2.2.2 ≤ mb) {W : Nat → Int32} {ρ : md_R} {H : Heap} {p y c : Nat} {x : Int32} (hH : md_I Γ mb W ρ H) (hv : iv (c + 1) W) (hp : p < 5) (hy : y < 32768) (hvx : iv_v 1 5 x) : mw_Cr l Γ mX5_takenByGuest 7 0 0 (md_A mb) [.ref mb, .int (nI p), .int (nI y), .int (nI 5), .int x] H (some (.int (nI (mo_guestWhy W p y)))) (md_I Γ mb (mo_guest W p y 5 x) ρ) := by
  refine mw_ofG (P := pX5_takenByGuest) (by decide) (md_As hmb) oX5_takenByGuest (Nat.le_of_ble_eq_true rfl) ?_
  intro pg e0 sg mg below meth cd X hs
  refine mw_pre (I' := md_I Γ mb W ρ) (fun H1 h1 => by rw [h1]; exact hH) ?_
  refine mw_steps X 1 (pc' := 1) (lv' := [(0, .ref mb), (1, .int (nI p)), (2, .int (nI y)), (3, .int (nI 5)), (4, .int x)]) (st' := [.ref mb]) rfl ?_
  refine mw_get X kf_X5_7.fl kc_5 rfl (v := .ref (mb + 1)) (fun H h => ⟨_, h.1, rfl⟩) ?_
  refine mw_steps X 3 (pc' := 8) (lv' := [(0, .ref mb), (1, .int (nI p)), (2, .int (nI y)), (3, .int (nI 5)), (4, .int x)]) (st' := [.int ((nI 22) + (nI p)), .ref (mb + 1)]) rfl ?_
  refine mw_iald X (v := W (22 + p)) (22 + p) (by simp only [nI_add, pk_mul]) rfl (fun H h => ⟨_, _, h.2.1, by omega, by decide, rfl⟩) ?_
  refine mw_if_ge X 14 rfl rfl (fun c9 => ?_) (fun c9 => ?_)
  · refine mw_steps X 3 (pc' := 17) (lv' := [(0, .ref mb), (1, .int (nI p)), (2, .int (nI y)), (3, .int (nI 5)), (4, .int x)]) (st' := [.int (nI y), .int (nI 0), .ref mb]) rfl ?_
    refine mw_cV2r X kd_X5_took kv_X5_took kl_X5_76 (ci := 5) rfl rfl (Nat.le_of_ble_eq_true rfl) ⟨Nat.le_of_ble_eq_true rfl, Nat.le_of_ble_eq_true rfl⟩ ⟨Nat.le_of_ble_eq_true rfl, Nat.le_of_ble_eq_true rfl⟩ (fun _ h => h) (fun H h => ⟨⟨_, h.1⟩, cm_took hmb h (e := 0) (by omega) hy⟩) ?_
    refine mw_if_eq X 25 rfl rfl (fun c20 => ?_) (fun c20 => ?_)
    · refine mw_steps X 3 (pc' := 28) (lv' := [(0, .ref mb), (1, .int (nI p)), (2, .int (nI y)), (3, .int (nI 5)), (4, .int x)]) (st' := [.int (nI y), .int (nI 0), .ref mb]) rfl ?_
      refine mw_cV2v X kd_X5_note kv_X5_note kl_X5_79 (ci := 5) rfl rfl (Nat.le_of_ble_eq_true rfl) ⟨Nat.le_of_ble_eq_true rfl, Nat.le_of_ble_eq_true rfl⟩ ⟨Nat.le_of_ble_eq_true rfl, Nat.le_of_ble_eq_true rfl⟩ (fun _ h => h) (fun H h => ⟨⟨_, h.1⟩, cm_note hmb h (e := 0) (by omega) hy⟩) ?_
      obtain ⟨N, hN⟩ : ∃ N, N = mo_note W 0 y := ⟨_, rfl⟩
      rw [← hN]
      have hiN : iv (c + 1) N := by rw [hN]; exact iv_note hv (by omega)
      refine mw_steps X 1 (pc' := 32) (lv' := [(0, .ref mb), (1, .int (nI p)), (2, .int (nI y)), (3, .int (nI 5)), (4, .int x)]) (st' := [.int (nI 5)]) rfl ?_
      refine mw_tsIn X 5 rfl (by decide) 144 rfl (by decide) rfl rfl ?_
      refine mw_steps X 3 (pc' := 148) (lv' := [(0, .ref mb), (1, .int (nI p)), (2, .int (nI y)), (3, .int (nI 5)), (4, .int x)]) (st' := [.int x, .int (nI 0), .ref mb]) rfl ?_
      refine mw_cV2v X kd_X5_confirm kv_X5_confirm kl_X5_95 (ci := 5) rfl rfl (Nat.le_of_ble_eq_true rfl) ⟨Nat.le_of_ble_eq_true rfl, Nat.le_of_ble_eq_true rfl⟩ ⟨Nat.le_of_ble_eq_true rfl, Nat.le_of_ble_eq_true rfl⟩ (fun _ h => h) (fun H h => ⟨⟨_, h.1⟩, cm_confirm hmb h (e := 0) (by omega)⟩) ?_
      refine mw_steps X 2 (pc' := 155) (lv' := [(0, .ref mb), (1, .int (nI p)), (2, .int (nI y)), (3, .int (nI 5)), (4, .int x)]) (st' := [.int (nI 0)]) rfl ?_
      exact mw_iret X rfl rfl (fun H h => ⟨by rw [(ml_guest_0 (k := 5) (x := x) (Int32.not_lt.mpr c9) (mo_b_z c20)).1], by rw [(ml_guest_0 (k := 5) (x := x) (Int32.not_lt.mpr c9) (mo_b_z c20)).2, ← hN, show mo_guestBy N p 5 x = mo_confirm N 0 x from by exact ml_gb5]; exact h⟩)
    · refine mw_steps X 1 (pc' := 24) (lv' := [(0, .ref mb), (1, .int (nI p)), (2, .int (nI y)), (3, .int (nI 5)), (4, .int x)]) (st' := [.int (nI 3)]) rfl ?_
      exact mw_iret X rfl rfl (fun H h => ⟨by rw [(ml_guest_3 (k := 5) (x := x) (Int32.not_lt.mpr c9) (mo_b_nz c20)).1], by rw [(ml_guest_3 (k := 5) (x := x) (Int32.not_lt.mpr c9) (mo_b_nz c20)).2]; exact h⟩)
  · refine mw_steps X 1 (pc' := 13) (lv' := [(0, .ref mb), (1, .int (nI p)), (2, .int (nI y)), (3, .int (nI 5)), (4, .int x)]) (st' := [.int (nI 2)]) rfl ?_
    exact mw_iret X rfl rfl (fun H h => ⟨by rw [(ml_guest_2 (y := y) (k := 5) (x := x) (Int32.not_le.mp c9)).1], by rw [(ml_guest_2 (y := y) (k := 5) (x := x) (Int32.not_le.mp c9)).2]; exact h⟩)
theorem cm_guest {l : Launch} {Γ : mw_C} {mb : Nat} (hmb : Γ.2.2.2 ≤ mb) {W : Nat → Int32} {ρ : md_R} {H : Heap} {p y k c : Nat} {x : Int32} (hH : md_I Γ mb W ρ H) (hv : iv (c + 1) W) (hp : p < 5) (hy : y < 32768) (hk : k < 6) (hvx : iv_v 1 k x) : mw_Cr l Γ mX5_takenByGuest 7 0 0 (md_A mb) [.ref mb, .int (nI p), .int (nI y), .int (nI k), .int x] H (some (.int (nI (mo_guestWhy W p y)))) (md_I Γ mb (mo_guest W p y k x) ρ) := by
  rcases (show k = 0 ∨ k = 1 ∨ k = 2 ∨ k = 3 ∨ k = 4 ∨ k = 5 by omega) with rfl | rfl | rfl | rfl | rfl | rfl
  · exact cm_guest0 hmb hH hv hp hy hvx
  · exact cm_guest1 hmb hH hv hp hy hvx
  · exact cm_guest2 hmb hH hv hp hy hvx
  · exact cm_guest3 hmb hH hv hp hy hvx
  · exact cm_guest4 hmb hH hv hp hy hvx
  · exact cm_guest5 hmb hH hv hp hy hvx
set_option maxHeartbeats 4000000 in
set_option maxRecDepth 20000 in
theorem cm_goTo {l : Launch} {Γ : mw_C} {mb : Nat} (hmb : Γ.2.2.2 ≤ mb) {W : Nat → Int32} {ρ : md_R} {H : Heap} {p c : Nat} (hH : md_I Γ mb W ρ H) (hv : iv c W) (hp : p < 5) : mw_Cr l Γ mX5_goTo 5 0 0 (md_A mb) [.ref mb, .int (nI p)] H none (md_I Γ mb (mo_goTo W p) ρ) := by
  refine mw_ofG (P := pX5_goTo) (by decide) (md_As hmb) oX5_goTo (Nat.le_of_ble_eq_true rfl) ?_
  intro pg e0 sg mg below meth cd X hs
  refine mw_pre (I' := md_I Γ mb W ρ) (fun H1 h1 => by rw [h1]; exact hH) ?_
  refine mw_steps X 1 (pc' := 1) (lv' := [(0, .ref mb), (1, .int (nI p))]) (st' := [.ref mb]) rfl ?_
  refine mw_get X kf_X5_7.fl kc_5 rfl (v := .ref (mb + 1)) (fun H h => ⟨_, h.1, rfl⟩) ?_
  refine mw_steps X 2 (pc' := 6) (lv' := [(0, .ref mb), (1, .int (nI p))]) (st' := [.ref mb, .int (nI 4), .ref (mb + 1)]) rfl ?_
  refine mw_get X kf_X5_7.fl kc_5 rfl (v := .ref (mb + 1)) (fun H h => ⟨_, h.1, rfl⟩) ?_
  refine mw_steps X 1 (pc' := 10) (lv' := [(0, .ref mb), (1, .int (nI p))]) (st' := [.int (nI 2), .ref (mb + 1), .int (nI 4), .ref (mb + 1)]) rfl ?_
  refine mw_iald X (v := W (2)) (2) rfl rfl (fun H h => ⟨_, _, h.2.1, by omega, by decide, rfl⟩) ?_
  refine mw_iast X (I1 := md_I Γ mb (upd W (4) (W (2))) ρ) (4) rfl rfl (fun H h => ⟨md_A1, _, _, h.2.1, by omega, by decide, fun H1 o c => h.stw o c⟩) ?_
  refine mw_steps X 1 (pc' := 13) (lv' := [(0, .ref mb), (1, .int (nI p))]) (st' := [.ref mb]) rfl ?_
  refine mw_get X kf_X5_7.fl kc_5 rfl (v := .ref (mb + 1)) (fun H h => ⟨_, h.1, rfl⟩) ?_
  refine mw_steps X 2 (pc' := 18) (lv' := [(0, .ref mb), (1, .int (nI p))]) (st' := [.int (nI p), .int (nI 2), .ref (mb + 1)]) rfl ?_
  refine mw_iast X (I1 := md_I Γ mb (upd (upd W (4) (W (2))) (2) (nI p)) ρ) (2) rfl rfl (fun H h => ⟨md_A1, _, _, h.2.1, by omega, by decide, fun H1 o c => h.stw o c⟩) ?_
  refine mw_steps X 4 (pc' := 23) (lv' := [(0, .ref mb), (1, .int (nI p))]) (st' := [.int (nI 0), .int (nI 0), .int (nI 0), .ref mb]) rfl ?_
  refine mw_cV3v X kd_X5_word kv_X5_word kl_X5_85 (ci := 5) rfl rfl (Nat.le_of_ble_eq_true rfl) ⟨Nat.le_of_ble_eq_true rfl, Nat.le_of_ble_eq_true rfl⟩ ⟨Nat.le_of_ble_eq_true rfl, Nat.le_of_ble_eq_true rfl⟩ (fun _ h => h) (fun H h => ⟨⟨_, h.1⟩, cm_heard hmb h (e := 0) (iv_goMid hv hp) (by omega)⟩) ?_
  exact mw_vret X rfl rfl (fun H h => ⟨rfl, by rw [show mo_goTo W p = mo_heard (upd (upd W (4) (W (2))) (2) (nI p)) 0 from by rfl]; exact h⟩)
set_option maxHeartbeats 4000000 in
set_option maxRecDepth 20000 in
theorem cm_close {l : Launch} {Γ : mw_C} {mb : Nat} (hmb : Γ.2.2.2 ≤ mb) {W : Nat → Int32} {ρ : md_R} {H : Heap} {p c : Nat} (hH : md_I Γ mb W ρ H) (hv : iv c W) (hp : p < 5) : mw_Cr l Γ mX5_closeNow 3 0 0 (md_A mb) [.ref mb, .int (nI p)] H none (md_I Γ mb (mo_close W p) ρ) := by
  obtain ⟨cu, hcu5, hcu⟩ := ml_c2 hv
  have hio := (iv_open hv hp (Or.inl rfl)).1
  refine mw_ofG (P := pX5_closeNow) (by decide) (md_As hmb) oX5_closeNow (Nat.le_of_ble_eq_true rfl) ?_
  intro pg e0 sg mg below meth cd X hs
  refine mw_pre (I' := md_I Γ mb W ρ) (fun H1 h1 => by rw [h1]; exact hH) ?_
  refine mw_steps X 1 (pc' := 1) (lv' := [(0, .ref mb), (1, .int (nI p))]) (st' := [.ref mb]) rfl ?_
  refine mw_get X kf_X5_7.fl kc_5 rfl (v := .ref (mb + 1)) (fun H h => ⟨_, h.1, rfl⟩) ?_
  refine mw_steps X 3 (pc' := 8) (lv' := [(0, .ref mb), (1, .int (nI p))]) (st' := [.int ((nI 22) + (nI p)), .ref (mb + 1)]) rfl ?_
  refine mw_iald X (v := W (22 + p)) (22 + p) (by simp only [nI_add, pk_mul]) rfl (fun H h => ⟨_, _, h.2.1, by omega, by decide, rfl⟩) ?_
  refine mw_steps X 2 (pc' := 11) (lv' := [(2, .int (W (22 + p))), (0, .ref mb), (1, .int (nI p))]) (st' := [.ref mb]) rfl ?_
  refine mw_get X kf_X5_7.fl kc_5 rfl (v := .ref (mb + 1)) (fun H h => ⟨_, h.1, rfl⟩) ?_
  refine mw_steps X 4 (pc' := 19) (lv' := [(2, .int (W (22 + p))), (0, .ref mb), (1, .int (nI p))]) (st' := [.int (-1), .int ((nI 22) + (nI p)), .ref (mb + 1)]) rfl ?_
  refine mw_iast X (I1 := md_I Γ mb (upd W (22 + p) (-1)) ρ) (22 + p) (by simp only [nI_add, pk_mul]) rfl (fun H h => ⟨md_A1, _, _, h.2.1, by omega, by decide, fun H1 o c => h.stw o c⟩) ?_
  refine mw_steps X 3 (pc' := 23) (lv' := [(2, .int (W (22 + p))), (0, .ref mb), (1, .int (nI p))]) (st' := [.ref mb, .int (nI 0), .ref mb]) rfl ?_
  refine mw_get X kf_X5_7.fl kc_5 rfl (v := .ref (mb + 1)) (fun H h => ⟨_, h.1, rfl⟩) ?_
  refine mw_steps X 1 (pc' := 27) (lv' := [(2, .int (W (22 + p))), (0, .ref mb), (1, .int (nI p))]) (st' := [.int (nI 2), .ref (mb + 1), .int (nI 0), .ref mb]) rfl ?_
  refine mw_iald X (v := nI cu) (2) rfl rfl (fun H h => ⟨_, _, h.2.1, by omega, by decide, (by simp (disch := omega) only [pk_un]; exact hcu)⟩) ?_
  refine mw_steps X 2 (pc' := 30) (lv' := [(2, .int (W (22 + p))), (0, .ref mb), (1, .int (nI p))]) (st' := [.int (W (22 + p)), .int (nI 4), .int (nI cu), .int (nI 0), .ref mb]) rfl ?_
  refine mw_cV4v X kd_X5_send kv_X5_send kl_X5_37 (ci := 5) rfl rfl (Nat.le_of_ble_eq_true rfl) ⟨Nat.le_of_ble_eq_true rfl, Nat.le_of_ble_eq_true rfl⟩ ⟨Nat.le_of_ble_eq_true rfl, Nat.le_of_ble_eq_true rfl⟩ (fun _ h => h) (fun H h => ⟨⟨_, h.1⟩, cm_send0 hmb h hcu5 (by omega) (ml_i11 hio) (ml_n24 hio)⟩) ?_
  exact mw_vret X rfl rfl (fun H h => ⟨rfl, by rw [show mo_close W p = mo_send (upd W (22 + p) (-1)) 0 cu 4 (W (22 + p)) from by unfold mo_close; rw [hcu, ml_n (by omega)]]; exact h⟩)
set_option maxHeartbeats 4000000 in
set_option maxRecDepth 20000 in
theorem cm_least {l : Launch} {Γ : mw_C} {mb : Nat} (hmb : Γ.2.2.2 ≤ mb) {W : Nat → Int32} {ρ : md_R} {H : Heap}  (hH : md_I Γ mb W ρ H)  : mw_Cr l Γ mX5_leastSpare 1 0 0 (md_A mb) [.ref mb] H (some (.int (mo_ix (mo_least W) 40))) (md_I Γ mb W ρ) := by
  refine mw_ofG (P := pX5_leastSpare) (by decide) (md_As hmb) oX5_leastSpare (Nat.le_of_ble_eq_true rfl) ?_
  intro pg e0 sg mg below meth cd X hs
  refine mw_pre (I' := md_I Γ mb W ρ) (fun H1 h1 => by rw [h1]; exact hH) ?_
  refine mw_steps X 2 (pc' := 2) (lv' := [(1, .int (nI 0)), (0, .ref mb)]) (st' := []) rfl ?_
  refine mw_wf (fun t => 40 - t) (fun t => t ≤ 40 ∧ ∀ j, j < t → ¬ W (87 + j) = nI 1) (fun _ => md_I Γ mb W ρ) (fun t => [(1, .int (nI t)), (0, .ref mb)]) (fun t ht ih => ?_) 0 ⟨Nat.zero_le _, fun j hj => absurd hj (Nat.not_lt_zero j)⟩
  obtain ⟨ht, hno⟩ := ht
  refine mw_steps X 2 (pc' := 5) (lv' := [(1, .int (nI t)), (0, .ref mb)]) (st' := [.int (nI 40), .int (nI t)]) rfl ?_
  refine mw_icmp_ge X 29 rfl rfl (fun c5 => ?_) (fun c5 => ?_)
  · have htn : t = 40 := by rw [nI_leI (by omega) (by omega)] at c5; omega
    refine mw_steps X 1 (pc' := 30) (lv' := [(1, .int (nI t)), (0, .ref mb)]) (st' := [.int (-1)]) rfl ?_
    exact mw_iret X rfl rfl (fun H h => ⟨congrArg (fun z => some (Value.int z)) (by subst htn; unfold mo_ix; rw [ml_least_none hno, if_neg (by omega)]), h⟩)
  · have htn : t < 40 := by rw [nI_leI (by omega) (by omega)] at c5; omega
    refine mw_steps X 1 (pc' := 9) (lv' := [(1, .int (nI t)), (0, .ref mb)]) (st' := [.ref mb]) rfl ?_
    refine mw_get X kf_X5_7.fl kc_5 rfl (v := .ref (mb + 1)) (fun H h => ⟨_, h.1, rfl⟩) ?_
    refine mw_steps X 3 (pc' := 16) (lv' := [(1, .int (nI t)), (0, .ref mb)]) (st' := [.int ((nI 87) + (nI t)), .ref (mb + 1)]) rfl ?_
    refine mw_iald X (v := W (87 + t)) (87 + t) (by simp only [nI_add, pk_mul]) rfl (fun H h => ⟨_, _, h.2.1, by omega, by decide, rfl⟩) ?_
    refine mw_steps X 1 (pc' := 18) (lv' := [(1, .int (nI t)), (0, .ref mb)]) (st' := [.int (nI 1), .int (W (87 + t))]) rfl ?_
    refine mw_icmp_ne X 23 rfl rfl (fun c18 => ?_) (fun c18 => ?_)
    · refine mw_steps X 2 (pc' := 2) (lv' := [(1, .int ((nI t) + (nI 1))), (0, .ref mb)]) (st' := []) rfl ?_
      refine mw_lveq (lv' := [(1, .int (nI (t + 1))), (0, .ref mb)]) (by simp only [nI_add]) ?_
      exact ih (t + 1) ⟨by omega, ml_succ hno c18⟩ (by omega)
    · refine mw_steps X 1 (pc' := 22) (lv' := [(1, .int (nI t)), (0, .ref mb)]) (st' := [.int (nI t)]) rfl ?_
      exact mw_iret X rfl rfl (fun H h => ⟨congrArg (fun z => some (Value.int z)) (by unfold mo_ix; rw [ml_least_is htn c18 hno, if_pos htn]), h⟩)
set_option maxHeartbeats 4000000 in
set_option maxRecDepth 20000 in
theorem cm_forget {l : Launch} {Γ : mw_C} {mb : Nat} (hmb : Γ.2.2.2 ≤ mb) {W : Nat → Int32} {ρ : md_R} {H : Heap} {p c : Nat} (hH : md_I Γ mb W ρ H) (hv : iv c W) (hp : p < 5) : mw_Cr l Γ mX5_forget 2 0 0 (md_A mb) [.ref mb, .int (nI p)] H none (md_I Γ mb (mo_forget W p) ρ) := by
  have hi0 : iv c (upd (upd W (37 + p) (nI 0)) (42 + p) (nI 0)) := hv.free (fun j a => by rw [pk_un (by omega), pk_un (by omega)])
  obtain ⟨W0, hW0⟩ : ∃ W0, W0 = upd (upd W (37 + p) (nI 0)) (42 + p) (nI 0) := ⟨_, rfl⟩
  rw [← hW0] at hi0
  have h03 : W0 3 = W 3 := by rw [hW0, pk_un (by omega), pk_un (by omega)]
  have h05 : W0 5 = W 5 := by rw [hW0, pk_un (by omega), pk_un (by omega)]
  refine mw_ofG (P := pX5_forget) (by decide) (md_As hmb) oX5_forget (Nat.le_of_ble_eq_true rfl) ?_
  intro pg e0 sg mg below meth cd X hs
  refine mw_pre (I' := md_I Γ mb W ρ) (fun H1 h1 => by rw [h1]; exact hH) ?_
  refine mw_steps X 1 (pc' := 1) (lv' := [(0, .ref mb), (1, .int (nI p))]) (st' := [.ref mb]) rfl ?_
  refine mw_get X kf_X5_7.fl kc_5 rfl (v := .ref (mb + 1)) (fun H h => ⟨_, h.1, rfl⟩) ?_
  refine mw_steps X 3 (pc' := 8) (lv' := [(0, .ref mb), (1, .int (nI p))]) (st' := [.int ((nI 32) + (nI p)), .ref (mb + 1)]) rfl ?_
  refine mw_iald X (v := W (32 + p)) (32 + p) (by simp only [nI_add, pk_mul]) rfl (fun H h => ⟨_, _, h.2.1, by omega, by decide, rfl⟩) ?_
  refine mw_steps X 1 (pc' := 10) (lv' := [(0, .ref mb), (1, .int (nI p))]) (st' := [.int (nI 1), .int (W (32 + p))]) rfl ?_
  refine mw_icmp_ne X 14 rfl rfl (fun c10 => ?_) (fun c10 => ?_)
  · refine mw_steps X 1 (pc' := 15) (lv' := [(0, .ref mb), (1, .int (nI p))]) (st' := [.ref mb]) rfl ?_
    refine mw_get X kf_X5_7.fl kc_5 rfl (v := .ref (mb + 1)) (fun H h => ⟨_, h.1, rfl⟩) ?_
    refine mw_steps X 4 (pc' := 23) (lv' := [(0, .ref mb), (1, .int (nI p))]) (st' := [.int (nI 0), .int ((nI 37) + (nI p)), .ref (mb + 1)]) rfl ?_
    refine mw_iast X (I1 := md_I Γ mb (upd W (37 + p) (nI 0)) ρ) (37 + p) (by simp only [nI_add, pk_mul]) rfl (fun H h => ⟨md_A1, _, _, h.2.1, by omega, by decide, fun H1 o c => h.stw o c⟩) ?_
    refine mw_steps X 1 (pc' := 25) (lv' := [(0, .ref mb), (1, .int (nI p))]) (st' := [.ref mb]) rfl ?_
    refine mw_get X kf_X5_7.fl kc_5 rfl (v := .ref (mb + 1)) (fun H h => ⟨_, h.1, rfl⟩) ?_
    refine mw_steps X 4 (pc' := 33) (lv' := [(0, .ref mb), (1, .int (nI p))]) (st' := [.int (nI 0), .int ((nI 42) + (nI p)), .ref (mb + 1)]) rfl ?_
    refine mw_iast X (I1 := md_I Γ mb (upd (upd W (37 + p) (nI 0)) (42 + p) (nI 0)) ρ) (42 + p) (by simp only [nI_add, pk_mul]) rfl (fun H h => ⟨md_A1, _, _, h.2.1, by omega, by decide, fun H1 o c => h.stw o c⟩) ?_
    refine mw_steps X 2 (pc' := 36) (lv' := [(0, .ref mb), (1, .int (nI p))]) (st' := [.int (nI p), .ref mb]) rfl ?_
    rw [show upd (upd W (37 + p) (nI 0)) (42 + p) (nI 0) = W0 from hW0.symm]
    refine mw_cV1r X kd_X5_firstHeld kv_X5_firstHeld kl_X5_44 (ci := 5) rfl rfl (Nat.le_of_ble_eq_true rfl) ⟨Nat.le_of_ble_eq_true rfl, Nat.le_of_ble_eq_true rfl⟩ ⟨Nat.le_of_ble_eq_true rfl, Nat.le_of_ble_eq_true rfl⟩ (fun _ h => h) (fun H h => ⟨⟨_, h.1⟩, cm_fh hmb h (ml_i12 hi0.1) (ml_n12 hi0.1)⟩) ?_
    refine mw_steps X 1 (pc' := 40) (lv' := [(2, .int (mo_ix (mo_fh W0 p) (mo_n (W0 12)))), (0, .ref mb), (1, .int (nI p))]) (st' := []) rfl ?_
    refine mw_wf (σ := Nat → Int32) (fun V => mo_n (V 12)) (fun V => iv c V ∧ mo_dh p (mo_n (V 12)) V = mo_drop W0 p ∧ V 3 = W 3 ∧ V 5 = W 5) (fun V => md_I Γ mb V ρ) (fun V => [(2, .int (mo_ix (mo_fh V p) (mo_n (V 12)))), (0, .ref mb), (1, .int (nI p))]) (fun V hV ih => ?_) W0 ⟨hi0, rfl, h03, h05⟩
    obtain ⟨hv, hlo, hV3, hV5⟩ := hV
    have hn := ml_i12 hv.1
    have hn2 := ml_n12 hv.1
    by_cases hf : mo_fh V p < mo_n (V 12)
    · rw [show mo_ix (mo_fh V p) (mo_n (V 12)) = nI (mo_fh V p) from if_pos hf]
      obtain ⟨k, hk⟩ : ∃ k, k = mo_fh V p := ⟨_, rfl⟩
      rw [← hk] at hf ⊢
      obtain ⟨r, hr⟩ : ∃ r, mo_n (V 12) = r + 1 := ⟨mo_n (V 12) - 1, by omega⟩
      have hlo2 : mo_dh p (r + 1) V = mo_drop W0 p := by rw [← hr]; exact hlo
      unfold mo_dh at hlo2
      rw [← hk, if_pos hf] at hlo2
      refine mw_steps X 1 (pc' := 41) (lv' := [(2, .int (nI k)), (0, .ref mb), (1, .int (nI p))]) (st' := [.int (nI k)]) rfl ?_
      refine mw_if_lt X 64 rfl rfl (fun c41 => absurd c41 (nI_pos (by omega))) (fun c41 => ?_)
      refine mw_steps X 5 (pc' := 52) (lv' := [(2, .int (nI k)), (0, .ref mb), (1, .int (nI p))]) (st' := [.int (nI k), .int (nI 12), .int (nI 3), .int (nI 471), .ref mb]) rfl ?_
      refine mw_cV4v X kd_X5_removeAt kv_X5_removeAt kl_X5_29 (ci := 5) rfl rfl (Nat.le_of_ble_eq_true rfl) ⟨Nat.le_of_ble_eq_true rfl, Nat.le_of_ble_eq_true rfl⟩ ⟨Nat.le_of_ble_eq_true rfl, Nat.le_of_ble_eq_true rfl⟩ (fun _ h => h) (fun H h => ⟨⟨_, h.1⟩, cm_removeAt hmb h (f := 471) (z := 3) (q := 12) hn (by omega) (by omega) (by omega) (by omega) (by omega)⟩) ?_
      obtain ⟨V2, hV2⟩ : ∃ V2, V2 = mo_rm V 471 3 12 k := ⟨_, rfl⟩
      rw [← hV2] at hlo2 ⊢
      have hi2 : iv c V2 := by rw [hV2]; exact iv_rmh hv hf
      have h12 : mo_n (V2 12) = r := by rw [hV2, ml_rmh_q hn (by omega), ml_n (by omega)]; omega
      have hV23 : V2 3 = W 3 := by rw [hV2, ml_rmh_out hn (by omega) hf (by omega) (by omega)]; exact hV3
      have hV25 : V2 5 = W 5 := by rw [hV2, ml_rmh_out hn (by omega) hf (by omega) (by omega)]; exact hV5
      refine mw_steps X 2 (pc' := 57) (lv' := [(2, .int (nI k)), (0, .ref mb), (1, .int (nI p))]) (st' := [.int (nI p), .ref mb]) rfl ?_
      refine mw_cV1r X kd_X5_firstHeld kv_X5_firstHeld kl_X5_44 (ci := 5) rfl rfl (Nat.le_of_ble_eq_true rfl) ⟨Nat.le_of_ble_eq_true rfl, Nat.le_of_ble_eq_true rfl⟩ ⟨Nat.le_of_ble_eq_true rfl, Nat.le_of_ble_eq_true rfl⟩ (fun _ h => h) (fun H h => ⟨⟨_, h.1⟩, cm_fh hmb h (ml_i12 hi2.1) (ml_n12 hi2.1)⟩) ?_
      refine mw_steps X 2 (pc' := 40) (lv' := [(2, .int (mo_ix (mo_fh V2 p) (mo_n (V2 12)))), (0, .ref mb), (1, .int (nI p))]) (st' := []) rfl ?_
      exact ih V2 ⟨hi2, by rw [h12]; exact hlo2, hV23, hV25⟩ (by omega)
    · rw [show mo_ix (mo_fh V p) (mo_n (V 12)) = -1 from if_neg hf]
      have hlo2 : V = mo_drop W0 p := by
        rw [← hlo]
        cases hz : mo_n (V 12) with
        | zero => rfl
        | succ r => unfold mo_dh; rw [if_neg hf]
      refine mw_steps X 1 (pc' := 41) (lv' := [(2, .int (-1)), (0, .ref mb), (1, .int (nI p))]) (st' := [.int (-1)]) rfl ?_
      refine mw_if_lt X 64 rfl rfl (fun c41 => ?_) (fun c41 => absurd (by decide) c41)
      refine mw_steps X 1 (pc' := 65) (lv' := [(2, .int (-1)), (0, .ref mb), (1, .int (nI p))]) (st' := [.ref mb]) rfl ?_
      refine mw_get X kf_X5_7.fl kc_5 rfl (v := .ref (mb + 1)) (fun H h => ⟨_, h.1, rfl⟩) ?_
      refine mw_steps X 2 (pc' := 70) (lv' := [(2, .int (-1)), (0, .ref mb), (1, .int (nI p))]) (st' := [.ref mb, .int (nI 3), .ref (mb + 1)]) rfl ?_
      refine mw_get X kf_X5_7.fl kc_5 rfl (v := .ref (mb + 1)) (fun H h => ⟨_, h.1, rfl⟩) ?_
      refine mw_steps X 1 (pc' := 74) (lv' := [(2, .int (-1)), (0, .ref mb), (1, .int (nI p))]) (st' := [.int (nI 3), .ref (mb + 1), .int (nI 3), .ref (mb + 1)]) rfl ?_
      refine mw_iald X (v := W 3) (3) rfl rfl (fun H h => ⟨_, _, h.2.1, by omega, by decide, hV3⟩) ?_
      refine mw_steps X 1 (pc' := 76) (lv' := [(2, .int (-1)), (0, .ref mb), (1, .int (nI p))]) (st' := [.int (nI p), .int (W 3), .int (nI 3), .ref (mb + 1)]) rfl ?_
      refine mw_icmp_ne X 88 rfl rfl (fun c76 => ?_) (fun c76 => ?_)
      · refine mw_steps X 1 (pc' := 89) (lv' := [(2, .int (-1)), (0, .ref mb), (1, .int (nI p))]) (st' := [.ref mb, .int (nI 3), .ref (mb + 1)]) rfl ?_
        refine mw_get X kf_X5_7.fl kc_5 rfl (v := .ref (mb + 1)) (fun H h => ⟨_, h.1, rfl⟩) ?_
        refine mw_steps X 1 (pc' := 93) (lv' := [(2, .int (-1)), (0, .ref mb), (1, .int (nI p))]) (st' := [.int (nI 3), .ref (mb + 1), .int (nI 3), .ref (mb + 1)]) rfl ?_
        refine mw_iald X (v := W 3) (3) rfl rfl (fun H h => ⟨_, _, h.2.1, by omega, by decide, hV3⟩) ?_
        refine mw_iast X (I1 := md_I Γ mb (upd V (3) (W 3)) ρ) (3) rfl rfl (fun H h => ⟨md_A1, _, _, h.2.1, by omega, by decide, fun H1 o c => h.stw o c⟩) ?_
        exact mw_vret X rfl rfl (fun H h => ⟨rfl, by rw [show mo_forget W p = upd V (3) (W 3) from by rw [ml_forget_f c10 (V := V) (by rw [hlo2, hW0])]; first | rw [if_pos c76] | rw [if_neg c76]]; exact h⟩)
      · refine mw_steps X 1 (pc' := 80) (lv' := [(2, .int (-1)), (0, .ref mb), (1, .int (nI p))]) (st' := [.ref mb, .int (nI 3), .ref (mb + 1)]) rfl ?_
        refine mw_get X kf_X5_7.fl kc_5 rfl (v := .ref (mb + 1)) (fun H h => ⟨_, h.1, rfl⟩) ?_
        refine mw_steps X 1 (pc' := 84) (lv' := [(2, .int (-1)), (0, .ref mb), (1, .int (nI p))]) (st' := [.int (nI 5), .ref (mb + 1), .int (nI 3), .ref (mb + 1)]) rfl ?_
        refine mw_iald X (v := W 5) (5) rfl rfl (fun H h => ⟨_, _, h.2.1, by omega, by decide, hV5⟩) ?_
        refine mw_steps X 1 (pc' := 94) (lv' := [(2, .int (-1)), (0, .ref mb), (1, .int (nI p))]) (st' := [.int (W 5), .int (nI 3), .ref (mb + 1)]) rfl ?_
        refine mw_iast X (I1 := md_I Γ mb (upd V (3) (W 5)) ρ) (3) rfl rfl (fun H h => ⟨md_A1, _, _, h.2.1, by omega, by decide, fun H1 o c => h.stw o c⟩) ?_
        exact mw_vret X rfl rfl (fun H h => ⟨rfl, by rw [show mo_forget W p = upd V (3) (W 5) from by rw [ml_forget_f c10 (V := V) (by rw [hlo2, hW0])]; first | rw [if_pos c76] | rw [if_neg c76]]; exact h⟩)
  · exact mw_vret X rfl rfl (fun H h => ⟨rfl, by rw [show mo_forget W p = W from by exact ml_forget_t c10]; exact h⟩)
set_option maxHeartbeats 4000000 in
set_option maxRecDepth 20000 in
theorem cm_giveUp {l : Launch} {Γ : mw_C} {mb : Nat} (hmb : Γ.2.2.2 ≤ mb) {W : Nat → Int32} {ρ : md_R} {H : Heap} {p c : Nat} (hH : md_I Γ mb W ρ H) (hv : iv (c + 2) W) (hp : p < 5) : mw_Cr l Γ mX5_giveUp 6 0 0 (md_A mb) [.ref mb, .int (nI p)] H none (md_I Γ mb (mo_giveUp W p) ρ) := by
  refine mw_ofG (P := pX5_giveUp) (by decide) (md_As hmb) oX5_giveUp (Nat.le_of_ble_eq_true rfl) ?_
  intro pg e0 sg mg below meth cd X hs
  refine mw_pre (I' := md_I Γ mb W ρ) (fun H1 h1 => by rw [h1]; exact hH) ?_
  refine mw_steps X 1 (pc' := 1) (lv' := [(0, .ref mb), (1, .int (nI p))]) (st' := [.ref mb]) rfl ?_
  refine mw_get X kf_X5_7.fl kc_5 rfl (v := .ref (mb + 1)) (fun H h => ⟨_, h.1, rfl⟩) ?_
  refine mw_steps X 3 (pc' := 8) (lv' := [(0, .ref mb), (1, .int (nI p))]) (st' := [.int ((nI 22) + (nI p)), .ref (mb + 1)]) rfl ?_
  refine mw_iald X (v := W (22 + p)) (22 + p) (by simp only [nI_add, pk_mul]) rfl (fun H h => ⟨_, _, h.2.1, by omega, by decide, rfl⟩) ?_
  refine mw_if_lt X 25 rfl rfl (fun c9 => ?_) (fun c9 => ?_)
  · exact mw_vret X rfl rfl (fun H h => ⟨rfl, by rw [show mo_giveUp W p = W from by exact ml_giveUp_t (by first | exact Or.inl c9 | exact Or.inr c22)]; exact h⟩)
  · refine mw_steps X 1 (pc' := 13) (lv' := [(0, .ref mb), (1, .int (nI p))]) (st' := [.ref mb]) rfl ?_
    refine mw_get X kf_X5_7.fl kc_5 rfl (v := .ref (mb + 1)) (fun H h => ⟨_, h.1, rfl⟩) ?_
    refine mw_steps X 3 (pc' := 20) (lv' := [(0, .ref mb), (1, .int (nI p))]) (st' := [.int ((nI 27) + (nI p)), .ref (mb + 1)]) rfl ?_
    refine mw_iald X (v := W (27 + p)) (27 + p) (by simp only [nI_add, pk_mul]) rfl (fun H h => ⟨_, _, h.2.1, by omega, by decide, rfl⟩) ?_
    refine mw_steps X 1 (pc' := 22) (lv' := [(0, .ref mb), (1, .int (nI p))]) (st' := [.int (nI 1), .int (W (27 + p))]) rfl ?_
    refine mw_icmp_ne X 26 rfl rfl (fun c22 => ?_) (fun c22 => ?_)
    · refine mw_steps X 1 (pc' := 27) (lv' := [(0, .ref mb), (1, .int (nI p))]) (st' := [.ref mb]) rfl ?_
      refine mw_get X kf_X5_7.fl kc_5 rfl (v := .ref (mb + 1)) (fun H h => ⟨_, h.1, rfl⟩) ?_
      refine mw_steps X 1 (pc' := 31) (lv' := [(0, .ref mb), (1, .int (nI p))]) (st' := [.int (nI 2), .ref (mb + 1)]) rfl ?_
      refine mw_iald X (v := W (2)) (2) rfl rfl (fun H h => ⟨_, _, h.2.1, by omega, by decide, rfl⟩) ?_
      refine mw_steps X 1 (pc' := 33) (lv' := [(0, .ref mb), (1, .int (nI p))]) (st' := [.int (nI p), .int (W (2))]) rfl ?_
      refine mw_icmp_ne X 72 rfl rfl (fun c33 => ?_) (fun c33 => ?_)
      · have hiB : iv (c + 1) (mo_back W p) := iv_back hv
        obtain ⟨B, hB⟩ : ∃ B, B = mo_back W p := ⟨_, rfl⟩
        rw [← hB] at hiB
        refine mw_pre (I' := md_I Γ mb B ρ) (fun H h => by rw [hB, ← show W = mo_back W p from by exact (ml_back_f (by first | exact fun q => c33 q.1 | exact fun q => Int32.not_lt.mpr q.2.1 c42 | (rw [hf, ml_n (by omega)]; exact fun q => Int32.not_lt.mpr q.2.2 c59))).symm]; exact h) ?_
        refine mw_steps X 1 (pc' := 73) (lv' := [(0, .ref mb), (1, .int (nI p))]) (st' := [.ref mb]) rfl ?_
        refine mw_get X kf_X5_7.fl kc_5 rfl (v := .ref (mb + 1)) (fun H h => ⟨_, h.1, rfl⟩) ?_
        refine mw_steps X 1 (pc' := 77) (lv' := [(0, .ref mb), (1, .int (nI p))]) (st' := [.int (nI 2), .ref (mb + 1)]) rfl ?_
        refine mw_iald X (v := B (2)) (2) rfl rfl (fun H h => ⟨_, _, h.2.1, by omega, by decide, rfl⟩) ?_
        refine mw_steps X 1 (pc' := 79) (lv' := [(0, .ref mb), (1, .int (nI p))]) (st' := [.int (nI p), .int (B (2))]) rfl ?_
        refine mw_icmp_eq X 87 rfl rfl (fun c79 => ?_) (fun c79 => ?_)
        · exact mw_vret X rfl rfl (fun H h => ⟨rfl, by rw [show mo_giveUp W p = B from by rw [ml_giveUp_f c9 c22, ← hB]; unfold mo_leave; first | rw [if_pos c79] | rw [if_neg c79]]; exact h⟩)
        · refine mw_steps X 2 (pc' := 84) (lv' := [(0, .ref mb), (1, .int (nI p))]) (st' := [.int (nI p), .ref mb]) rfl ?_
          refine mw_cV1v X kd_X5_closeNow kv_X5_closeNow kl_X5_104 (ci := 5) rfl rfl (Nat.le_of_ble_eq_true rfl) ⟨Nat.le_of_ble_eq_true rfl, Nat.le_of_ble_eq_true rfl⟩ ⟨Nat.le_of_ble_eq_true rfl, Nat.le_of_ble_eq_true rfl⟩ (fun _ h => h) (fun H h => ⟨⟨_, h.1⟩, cm_close hmb h hiB hp⟩) ?_
          exact mw_vret X rfl rfl (fun H h => ⟨rfl, by rw [show mo_giveUp W p = mo_close B p from by rw [ml_giveUp_f c9 c22, ← hB]; unfold mo_leave; first | rw [if_pos c79] | rw [if_neg c79]]; exact h⟩)
      · refine mw_steps X 1 (pc' := 37) (lv' := [(0, .ref mb), (1, .int (nI p))]) (st' := [.ref mb]) rfl ?_
        refine mw_get X kf_X5_7.fl kc_5 rfl (v := .ref (mb + 1)) (fun H h => ⟨_, h.1, rfl⟩) ?_
        refine mw_steps X 1 (pc' := 41) (lv' := [(0, .ref mb), (1, .int (nI p))]) (st' := [.int (nI 4), .ref (mb + 1)]) rfl ?_
        refine mw_iald X (v := W (4)) (4) rfl rfl (fun H h => ⟨_, _, h.2.1, by omega, by decide, rfl⟩) ?_
        refine mw_if_lt X 72 rfl rfl (fun c42 => ?_) (fun c42 => ?_)
        · have hiB : iv (c + 1) (mo_back W p) := iv_back hv
          obtain ⟨B, hB⟩ : ∃ B, B = mo_back W p := ⟨_, rfl⟩
          rw [← hB] at hiB
          refine mw_pre (I' := md_I Γ mb B ρ) (fun H h => by rw [hB, ← show W = mo_back W p from by exact (ml_back_f (by first | exact fun q => c33 q.1 | exact fun q => Int32.not_lt.mpr q.2.1 c42 | (rw [hf, ml_n (by omega)]; exact fun q => Int32.not_lt.mpr q.2.2 c59))).symm]; exact h) ?_
          refine mw_steps X 1 (pc' := 73) (lv' := [(0, .ref mb), (1, .int (nI p))]) (st' := [.ref mb]) rfl ?_
          refine mw_get X kf_X5_7.fl kc_5 rfl (v := .ref (mb + 1)) (fun H h => ⟨_, h.1, rfl⟩) ?_
          refine mw_steps X 1 (pc' := 77) (lv' := [(0, .ref mb), (1, .int (nI p))]) (st' := [.int (nI 2), .ref (mb + 1)]) rfl ?_
          refine mw_iald X (v := B (2)) (2) rfl rfl (fun H h => ⟨_, _, h.2.1, by omega, by decide, rfl⟩) ?_
          refine mw_steps X 1 (pc' := 79) (lv' := [(0, .ref mb), (1, .int (nI p))]) (st' := [.int (nI p), .int (B (2))]) rfl ?_
          refine mw_icmp_eq X 87 rfl rfl (fun c79 => ?_) (fun c79 => ?_)
          · exact mw_vret X rfl rfl (fun H h => ⟨rfl, by rw [show mo_giveUp W p = B from by rw [ml_giveUp_f c9 c22, ← hB]; unfold mo_leave; first | rw [if_pos c79] | rw [if_neg c79]]; exact h⟩)
          · refine mw_steps X 2 (pc' := 84) (lv' := [(0, .ref mb), (1, .int (nI p))]) (st' := [.int (nI p), .ref mb]) rfl ?_
            refine mw_cV1v X kd_X5_closeNow kv_X5_closeNow kl_X5_104 (ci := 5) rfl rfl (Nat.le_of_ble_eq_true rfl) ⟨Nat.le_of_ble_eq_true rfl, Nat.le_of_ble_eq_true rfl⟩ ⟨Nat.le_of_ble_eq_true rfl, Nat.le_of_ble_eq_true rfl⟩ (fun _ h => h) (fun H h => ⟨⟨_, h.1⟩, cm_close hmb h hiB hp⟩) ?_
            exact mw_vret X rfl rfl (fun H h => ⟨rfl, by rw [show mo_giveUp W p = mo_close B p from by rw [ml_giveUp_f c9 c22, ← hB]; unfold mo_leave; first | rw [if_pos c79] | rw [if_neg c79]]; exact h⟩)
        · obtain ⟨f, hf5, hf⟩ : ∃ f, f < 5 ∧ W 4 = nI f := by
            rcases hv.2.2.2.2.2.2.2.2.1 with z | z
            · exact absurd (by rw [z]; decide) c42
            · exact z
          refine mw_steps X 1 (pc' := 46) (lv' := [(0, .ref mb), (1, .int (nI p))]) (st' := [.ref mb]) rfl ?_
          refine mw_get X kf_X5_7.fl kc_5 rfl (v := .ref (mb + 1)) (fun H h => ⟨_, h.1, rfl⟩) ?_
          refine mw_steps X 2 (pc' := 52) (lv' := [(0, .ref mb), (1, .int (nI p))]) (st' := [.ref mb, .int (nI 22), .ref (mb + 1)]) rfl ?_
          refine mw_get X kf_X5_7.fl kc_5 rfl (v := .ref (mb + 1)) (fun H h => ⟨_, h.1, rfl⟩) ?_
          refine mw_steps X 1 (pc' := 56) (lv' := [(0, .ref mb), (1, .int (nI p))]) (st' := [.int (nI 4), .ref (mb + 1), .int (nI 22), .ref (mb + 1)]) rfl ?_
          refine mw_iald X (v := nI f) (4) rfl rfl (fun H h => ⟨_, _, h.2.1, by omega, by decide, hf⟩) ?_
          refine mw_steps X 1 (pc' := 58) (lv' := [(0, .ref mb), (1, .int (nI p))]) (st' := [.int ((nI 22) + (nI f)), .ref (mb + 1)]) rfl ?_
          refine mw_iald X (v := W (22 + f)) (22 + f) (by simp only [nI_add, pk_mul]) rfl (fun H h => ⟨_, _, h.2.1, by omega, by decide, rfl⟩) ?_
          refine mw_if_lt X 72 rfl rfl (fun c59 => ?_) (fun c59 => ?_)
          · have hiB : iv (c + 1) (mo_back W p) := iv_back hv
            obtain ⟨B, hB⟩ : ∃ B, B = mo_back W p := ⟨_, rfl⟩
            rw [← hB] at hiB
            refine mw_pre (I' := md_I Γ mb B ρ) (fun H h => by rw [hB, ← show W = mo_back W p from by exact (ml_back_f (by first | exact fun q => c33 q.1 | exact fun q => Int32.not_lt.mpr q.2.1 c42 | (rw [hf, ml_n (by omega)]; exact fun q => Int32.not_lt.mpr q.2.2 c59))).symm]; exact h) ?_
            refine mw_steps X 1 (pc' := 73) (lv' := [(0, .ref mb), (1, .int (nI p))]) (st' := [.ref mb]) rfl ?_
            refine mw_get X kf_X5_7.fl kc_5 rfl (v := .ref (mb + 1)) (fun H h => ⟨_, h.1, rfl⟩) ?_
            refine mw_steps X 1 (pc' := 77) (lv' := [(0, .ref mb), (1, .int (nI p))]) (st' := [.int (nI 2), .ref (mb + 1)]) rfl ?_
            refine mw_iald X (v := B (2)) (2) rfl rfl (fun H h => ⟨_, _, h.2.1, by omega, by decide, rfl⟩) ?_
            refine mw_steps X 1 (pc' := 79) (lv' := [(0, .ref mb), (1, .int (nI p))]) (st' := [.int (nI p), .int (B (2))]) rfl ?_
            refine mw_icmp_eq X 87 rfl rfl (fun c79 => ?_) (fun c79 => ?_)
            · exact mw_vret X rfl rfl (fun H h => ⟨rfl, by rw [show mo_giveUp W p = B from by rw [ml_giveUp_f c9 c22, ← hB]; unfold mo_leave; first | rw [if_pos c79] | rw [if_neg c79]]; exact h⟩)
            · refine mw_steps X 2 (pc' := 84) (lv' := [(0, .ref mb), (1, .int (nI p))]) (st' := [.int (nI p), .ref mb]) rfl ?_
              refine mw_cV1v X kd_X5_closeNow kv_X5_closeNow kl_X5_104 (ci := 5) rfl rfl (Nat.le_of_ble_eq_true rfl) ⟨Nat.le_of_ble_eq_true rfl, Nat.le_of_ble_eq_true rfl⟩ ⟨Nat.le_of_ble_eq_true rfl, Nat.le_of_ble_eq_true rfl⟩ (fun _ h => h) (fun H h => ⟨⟨_, h.1⟩, cm_close hmb h hiB hp⟩) ?_
              exact mw_vret X rfl rfl (fun H h => ⟨rfl, by rw [show mo_giveUp W p = mo_close B p from by rw [ml_giveUp_f c9 c22, ← hB]; unfold mo_leave; first | rw [if_pos c79] | rw [if_neg c79]]; exact h⟩)
          · refine mw_steps X 2 (pc' := 64) (lv' := [(0, .ref mb), (1, .int (nI p))]) (st' := [.ref mb, .ref mb]) rfl ?_
            refine mw_get X kf_X5_7.fl kc_5 rfl (v := .ref (mb + 1)) (fun H h => ⟨_, h.1, rfl⟩) ?_
            refine mw_steps X 1 (pc' := 68) (lv' := [(0, .ref mb), (1, .int (nI p))]) (st' := [.int (nI 4), .ref (mb + 1), .ref mb]) rfl ?_
            refine mw_iald X (v := nI f) (4) rfl rfl (fun H h => ⟨_, _, h.2.1, by omega, by decide, hf⟩) ?_
            refine mw_cV1v X kd_X5_goTo kv_X5_goTo kl_X5_101 (ci := 5) rfl rfl (Nat.le_of_ble_eq_true rfl) ⟨Nat.le_of_ble_eq_true rfl, Nat.le_of_ble_eq_true rfl⟩ ⟨Nat.le_of_ble_eq_true rfl, Nat.le_of_ble_eq_true rfl⟩ (fun _ h => h) (fun H h => ⟨⟨_, h.1⟩, cm_goTo hmb h hv hf5⟩) ?_
            have hiB : iv (c + 1) (mo_back W p) := iv_back hv
            obtain ⟨B, hB⟩ : ∃ B, B = mo_back W p := ⟨_, rfl⟩
            rw [← hB] at hiB
            refine mw_pre (I' := md_I Γ mb B ρ) (fun H h => by rw [hB, ← show mo_goTo W f = mo_back W p from by exact (ml_back_t c33 hf hf5 c59).symm]; exact h) ?_
            refine mw_steps X 1 (pc' := 73) (lv' := [(0, .ref mb), (1, .int (nI p))]) (st' := [.ref mb]) rfl ?_
            refine mw_get X kf_X5_7.fl kc_5 rfl (v := .ref (mb + 1)) (fun H h => ⟨_, h.1, rfl⟩) ?_
            refine mw_steps X 1 (pc' := 77) (lv' := [(0, .ref mb), (1, .int (nI p))]) (st' := [.int (nI 2), .ref (mb + 1)]) rfl ?_
            refine mw_iald X (v := B (2)) (2) rfl rfl (fun H h => ⟨_, _, h.2.1, by omega, by decide, rfl⟩) ?_
            refine mw_steps X 1 (pc' := 79) (lv' := [(0, .ref mb), (1, .int (nI p))]) (st' := [.int (nI p), .int (B (2))]) rfl ?_
            refine mw_icmp_eq X 87 rfl rfl (fun c79 => ?_) (fun c79 => ?_)
            · exact mw_vret X rfl rfl (fun H h => ⟨rfl, by rw [show mo_giveUp W p = B from by rw [ml_giveUp_f c9 c22, ← hB]; unfold mo_leave; first | rw [if_pos c79] | rw [if_neg c79]]; exact h⟩)
            · refine mw_steps X 2 (pc' := 84) (lv' := [(0, .ref mb), (1, .int (nI p))]) (st' := [.int (nI p), .ref mb]) rfl ?_
              refine mw_cV1v X kd_X5_closeNow kv_X5_closeNow kl_X5_104 (ci := 5) rfl rfl (Nat.le_of_ble_eq_true rfl) ⟨Nat.le_of_ble_eq_true rfl, Nat.le_of_ble_eq_true rfl⟩ ⟨Nat.le_of_ble_eq_true rfl, Nat.le_of_ble_eq_true rfl⟩ (fun _ h => h) (fun H h => ⟨⟨_, h.1⟩, cm_close hmb h hiB hp⟩) ?_
              exact mw_vret X rfl rfl (fun H h => ⟨rfl, by rw [show mo_giveUp W p = mo_close B p from by rw [ml_giveUp_f c9 c22, ← hB]; unfold mo_leave; first | rw [if_pos c79] | rw [if_neg c79]]; exact h⟩)
    · exact mw_vret X rfl rfl (fun H h => ⟨rfl, by rw [show mo_giveUp W p = W from by exact ml_giveUp_t (by first | exact Or.inl c9 | exact Or.inr c22)]; exact h⟩)
set_option maxHeartbeats 4000000 in
set_option maxRecDepth 20000 in
theorem cm_look {l : Launch} {Γ : mw_C} {mb : Nat} (hmb : Γ.2.2.2 ≤ mb) {W : Nat → Int32} {ρ : md_R} {H : Heap} {k c : Nat} (hH : md_I Γ mb W ρ H) (hv : iv (c + 2) W) (hk : k < mo_n (W 13)) : mw_Cr l Γ mX5_lookAt 7 0 0 (md_A mb) [.ref mb, .int (nI k)] H (some (.int (mo_b (mo_stays W k)))) (md_I Γ mb (mo_look W k) ρ) := by
  obtain ⟨e, p, t, a1, a2, a3, a4, a5, a6⟩ := hv.2.2.2.2.1 k hk
  have hn := ml_i13 hv.1
  have hn2 := ml_n6 hv.1
  refine mw_ofG (P := pX5_lookAt) (by decide) (md_As hmb) oX5_lookAt (Nat.le_of_ble_eq_true rfl) ?_
  intro pg e0 sg mg below meth cd X hs
  refine mw_pre (I' := md_I Γ mb W ρ) (fun H1 h1 => by rw [h1]; exact hH) ?_
  refine mw_steps X 7 (pc' := 9) (lv' := [(2, .int ((nI 507) + ((nI 5) * (nI k)))), (0, .ref mb), (1, .int (nI k))]) (st' := [.ref mb]) rfl ?_
  refine mw_get X kf_X5_7.fl kc_5 rfl (v := .ref (mb + 1)) (fun H h => ⟨_, h.1, rfl⟩) ?_
  refine mw_steps X 1 (pc' := 13) (lv' := [(2, .int ((nI 507) + ((nI 5) * (nI k)))), (0, .ref mb), (1, .int (nI k))]) (st' := [.int ((nI 507) + ((nI 5) * (nI k))), .ref (mb + 1)]) rfl ?_
  refine mw_iald X (v := nI e) (507 + 5 * k) (by simp only [nI_add, pk_mul]) rfl (fun H h => ⟨_, _, h.2.1, by omega, by decide, a4⟩) ?_
  refine mw_steps X 2 (pc' := 16) (lv' := [(3, .int (nI e)), (2, .int ((nI 507) + ((nI 5) * (nI k)))), (0, .ref mb), (1, .int (nI k))]) (st' := [.ref mb]) rfl ?_
  refine mw_get X kf_X5_7.fl kc_5 rfl (v := .ref (mb + 1)) (fun H h => ⟨_, h.1, rfl⟩) ?_
  refine mw_steps X 3 (pc' := 22) (lv' := [(3, .int (nI e)), (2, .int ((nI 507) + ((nI 5) * (nI k)))), (0, .ref mb), (1, .int (nI k))]) (st' := [.int (((nI 507) + ((nI 5) * (nI k))) + (nI 2)), .ref (mb + 1)]) rfl ?_
  refine mw_iald X (v := nI p) (507 + 5 * k + 2) (by simp only [nI_add, pk_mul]) rfl (fun H h => ⟨_, _, h.2.1, by omega, by decide, a5⟩) ?_
  refine mw_steps X 2 (pc' := 26) (lv' := [(4, .int (nI p)), (3, .int (nI e)), (2, .int ((nI 507) + ((nI 5) * (nI k)))), (0, .ref mb), (1, .int (nI k))]) (st' := [.ref mb]) rfl ?_
  refine mw_get X kf_X5_7.fl kc_5 rfl (v := .ref (mb + 1)) (fun H h => ⟨_, h.1, rfl⟩) ?_
  refine mw_steps X 1 (pc' := 30) (lv' := [(4, .int (nI p)), (3, .int (nI e)), (2, .int ((nI 507) + ((nI 5) * (nI k)))), (0, .ref mb), (1, .int (nI k))]) (st' := [.int (nI 0), .ref (mb + 1)]) rfl ?_
  refine mw_iald X (v := W (0)) (0) rfl rfl (fun H h => ⟨_, _, h.2.1, by omega, by decide, rfl⟩) ?_
  refine mw_steps X 1 (pc' := 32) (lv' := [(4, .int (nI p)), (3, .int (nI e)), (2, .int ((nI 507) + ((nI 5) * (nI k)))), (0, .ref mb), (1, .int (nI k))]) (st' := [.ref mb, .int (W (0))]) rfl ?_
  refine mw_get X kf_X5_7.fl kc_5 rfl (v := .ref (mb + 1)) (fun H h => ⟨_, h.1, rfl⟩) ?_
  refine mw_steps X 3 (pc' := 38) (lv' := [(4, .int (nI p)), (3, .int (nI e)), (2, .int ((nI 507) + ((nI 5) * (nI k)))), (0, .ref mb), (1, .int (nI k))]) (st' := [.int (((nI 507) + ((nI 5) * (nI k))) + (nI 3)), .ref (mb + 1), .int (W (0))]) rfl ?_
  refine mw_iald X (v := W (507 + 5 * k + 3)) (507 + 5 * k + 3) (by simp only [nI_add, pk_mul]) rfl (fun H h => ⟨_, _, h.2.1, by omega, by decide, rfl⟩) ?_
  refine mw_steps X 2 (pc' := 41) (lv' := [(4, .int (nI p)), (3, .int (nI e)), (2, .int ((nI 507) + ((nI 5) * (nI k)))), (0, .ref mb), (1, .int (nI k))]) (st' := [.int (nI 3), .int ((W (0)) - (W (507 + 5 * k + 3)))]) rfl ?_
  refine mw_icmp_ge X 46 rfl rfl (fun c41 => ?_) (fun c41 => ?_)
  · refine mw_steps X 1 (pc' := 47) (lv' := [(4, .int (nI p)), (3, .int (nI e)), (2, .int ((nI 507) + ((nI 5) * (nI k)))), (0, .ref mb), (1, .int (nI k))]) (st' := [.ref mb]) rfl ?_
    refine mw_get X kf_X5_7.fl kc_5 rfl (v := .ref (mb + 1)) (fun H h => ⟨_, h.1, rfl⟩) ?_
    refine mw_steps X 3 (pc' := 53) (lv' := [(4, .int (nI p)), (3, .int (nI e)), (2, .int ((nI 507) + ((nI 5) * (nI k)))), (0, .ref mb), (1, .int (nI k))]) (st' := [.int (((nI 507) + ((nI 5) * (nI k))) + (nI 4)), .ref (mb + 1)]) rfl ?_
    refine mw_iald X (v := W (507 + 5 * k + 4)) (507 + 5 * k + 4) (by simp only [nI_add, pk_mul]) rfl (fun H h => ⟨_, _, h.2.1, by omega, by decide, rfl⟩) ?_
    refine mw_steps X 1 (pc' := 55) (lv' := [(4, .int (nI p)), (3, .int (nI e)), (2, .int ((nI 507) + ((nI 5) * (nI k)))), (0, .ref mb), (1, .int (nI k))]) (st' := [.int (nI 2), .int (W (507 + 5 * k + 4))]) rfl ?_
    refine mw_icmp_ge X 102 rfl rfl (fun c55 => ?_) (fun c55 => ?_)
    · refine mw_steps X 5 (pc' := 110) (lv' := [(4, .int (nI p)), (3, .int (nI e)), (2, .int ((nI 507) + ((nI 5) * (nI k)))), (0, .ref mb), (1, .int (nI k))]) (st' := [.int (nI k), .int (nI 13), .int (nI 5), .int (nI 507), .ref mb]) rfl ?_
      refine mw_cV4v X kd_X5_removeAt kv_X5_removeAt kl_X5_29 (ci := 5) rfl rfl (Nat.le_of_ble_eq_true rfl) ⟨Nat.le_of_ble_eq_true rfl, Nat.le_of_ble_eq_true rfl⟩ ⟨Nat.le_of_ble_eq_true rfl, Nat.le_of_ble_eq_true rfl⟩ (fun _ h => h) (fun H h => ⟨⟨_, h.1⟩, cm_removeAt hmb h (f := 507) (z := 5) (q := 13) hn (by omega) (by omega) (by omega) (by omega) (by omega)⟩) ?_
      refine mw_steps X 2 (pc' := 115) (lv' := [(4, .int (nI p)), (3, .int (nI e)), (2, .int ((nI 507) + ((nI 5) * (nI k)))), (0, .ref mb), (1, .int (nI k))]) (st' := [.int (nI 1), .int (nI e)]) rfl ?_
      refine mw_icmp_ne X 127 rfl rfl (fun c115 => ?_) (fun c115 => ?_)
      · refine mw_steps X 2 (pc' := 130) (lv' := [(4, .int (nI p)), (3, .int (nI e)), (2, .int ((nI 507) + ((nI 5) * (nI k)))), (0, .ref mb), (1, .int (nI k))]) (st' := [.int (nI p), .ref mb]) rfl ?_
        refine mw_cV1v X kd_X5_giveUp kv_X5_giveUp kl_X5_110 (ci := 5) rfl rfl (Nat.le_of_ble_eq_true rfl) ⟨Nat.le_of_ble_eq_true rfl, Nat.le_of_ble_eq_true rfl⟩ ⟨Nat.le_of_ble_eq_true rfl, Nat.le_of_ble_eq_true rfl⟩ (fun _ h => h) (fun H h => ⟨⟨_, h.1⟩, cm_giveUp hmb h (iv_rma hv hk) a2⟩) ?_
        refine mw_steps X 1 (pc' := 134) (lv' := [(4, .int (nI p)), (3, .int (nI e)), (2, .int ((nI 507) + ((nI 5) * (nI k)))), (0, .ref mb), (1, .int (nI k))]) (st' := [.int (nI 0)]) rfl ?_
        exact mw_zret X rfl (by decide) rfl (fun H h => ⟨by rw [(ml_look_3 (Int32.not_lt.mpr c41) (Int32.not_lt.mpr c55) a4 a5 a1 a2).1]; rfl, by rw [(ml_look_3 (Int32.not_lt.mpr c41) (Int32.not_lt.mpr c55) a4 a5 a1 a2).2, if_neg c115]; exact h⟩)
      · refine mw_steps X 2 (pc' := 121) (lv' := [(4, .int (nI p)), (3, .int (nI e)), (2, .int ((nI 507) + ((nI 5) * (nI k)))), (0, .ref mb), (1, .int (nI k))]) (st' := [.int (nI p), .ref mb]) rfl ?_
        refine mw_cV1v X kd_X5_forget kv_X5_forget kl_X5_107 (ci := 5) rfl rfl (Nat.le_of_ble_eq_true rfl) ⟨Nat.le_of_ble_eq_true rfl, Nat.le_of_ble_eq_true rfl⟩ ⟨Nat.le_of_ble_eq_true rfl, Nat.le_of_ble_eq_true rfl⟩ (fun _ h => h) (fun H h => ⟨⟨_, h.1⟩, cm_forget hmb h (iv_rma hv hk) a2⟩) ?_
        refine mw_steps X 2 (pc' := 134) (lv' := [(4, .int (nI p)), (3, .int (nI e)), (2, .int ((nI 507) + ((nI 5) * (nI k)))), (0, .ref mb), (1, .int (nI k))]) (st' := [.int (nI 0)]) rfl ?_
        exact mw_zret X rfl (by decide) rfl (fun H h => ⟨by rw [(ml_look_3 (Int32.not_lt.mpr c41) (Int32.not_lt.mpr c55) a4 a5 a1 a2).1]; rfl, by rw [(ml_look_3 (Int32.not_lt.mpr c41) (Int32.not_lt.mpr c55) a4 a5 a1 a2).2, if_pos c115]; exact h⟩)
    · refine mw_steps X 1 (pc' := 59) (lv' := [(4, .int (nI p)), (3, .int (nI e)), (2, .int ((nI 507) + ((nI 5) * (nI k)))), (0, .ref mb), (1, .int (nI k))]) (st' := [.ref mb]) rfl ?_
      refine mw_get X kf_X5_7.fl kc_5 rfl (v := .ref (mb + 1)) (fun H h => ⟨_, h.1, rfl⟩) ?_
      refine mw_steps X 4 (pc' := 66) (lv' := [(4, .int (nI p)), (3, .int (nI e)), (2, .int ((nI 507) + ((nI 5) * (nI k)))), (0, .ref mb), (1, .int (nI k))]) (st' := [.int (((nI 507) + ((nI 5) * (nI k))) + (nI 4)), .ref (mb + 1), .int (((nI 507) + ((nI 5) * (nI k))) + (nI 4)), .ref (mb + 1)]) rfl ?_
      refine mw_iald X (v := W (507 + 5 * k + 4)) (507 + 5 * k + 4) (by simp only [nI_add, pk_mul]) rfl (fun H h => ⟨_, _, h.2.1, by omega, by decide, rfl⟩) ?_
      refine mw_steps X 2 (pc' := 69) (lv' := [(4, .int (nI p)), (3, .int (nI e)), (2, .int ((nI 507) + ((nI 5) * (nI k)))), (0, .ref mb), (1, .int (nI k))]) (st' := [.int ((W (507 + 5 * k + 4)) + (nI 1)), .int (((nI 507) + ((nI 5) * (nI k))) + (nI 4)), .ref (mb + 1)]) rfl ?_
      refine mw_iast X (I1 := md_I Γ mb (upd W (507 + 5 * k + 4) ((W (507 + 5 * k + 4)) + (nI 1))) ρ) (507 + 5 * k + 4) (by simp only [nI_add, pk_mul]) rfl (fun H h => ⟨md_A1, _, _, h.2.1, by omega, by decide, fun H1 o c => h.stw o c⟩) ?_
      refine mw_steps X 1 (pc' := 71) (lv' := [(4, .int (nI p)), (3, .int (nI e)), (2, .int ((nI 507) + ((nI 5) * (nI k)))), (0, .ref mb), (1, .int (nI k))]) (st' := [.ref mb]) rfl ?_
      refine mw_get X kf_X5_7.fl kc_5 rfl (v := .ref (mb + 1)) (fun H h => ⟨_, h.1, rfl⟩) ?_
      refine mw_steps X 4 (pc' := 78) (lv' := [(4, .int (nI p)), (3, .int (nI e)), (2, .int ((nI 507) + ((nI 5) * (nI k)))), (0, .ref mb), (1, .int (nI k))]) (st' := [.ref mb, .int (((nI 507) + ((nI 5) * (nI k))) + (nI 3)), .ref (mb + 1)]) rfl ?_
      refine mw_get X kf_X5_7.fl kc_5 rfl (v := .ref (mb + 1)) (fun H h => ⟨_, h.1, rfl⟩) ?_
      refine mw_steps X 1 (pc' := 82) (lv' := [(4, .int (nI p)), (3, .int (nI e)), (2, .int ((nI 507) + ((nI 5) * (nI k)))), (0, .ref mb), (1, .int (nI k))]) (st' := [.int (nI 0), .ref (mb + 1), .int (((nI 507) + ((nI 5) * (nI k))) + (nI 3)), .ref (mb + 1)]) rfl ?_
      refine mw_iald X (v := W (0)) (0) rfl rfl (fun H h => ⟨_, _, h.2.1, by omega, by decide, (by simp (disch := omega) only [pk_un])⟩) ?_
      refine mw_iast X (I1 := md_I Γ mb (upd (upd W (507 + 5 * k + 4) ((W (507 + 5 * k + 4)) + (nI 1))) (507 + 5 * k + 3) (W (0))) ρ) (507 + 5 * k + 3) (by simp only [nI_add, pk_mul]) rfl (fun H h => ⟨md_A1, _, _, h.2.1, by omega, by decide, fun H1 o c => h.stw o c⟩) ?_
      refine mw_steps X 5 (pc' := 90) (lv' := [(4, .int (nI p)), (3, .int (nI e)), (2, .int ((nI 507) + ((nI 5) * (nI k)))), (0, .ref mb), (1, .int (nI k))]) (st' := [.ref mb, .int (nI 1), .int (nI p), .int (nI e), .ref mb]) rfl ?_
      refine mw_get X kf_X5_7.fl kc_5 rfl (v := .ref (mb + 1)) (fun H h => ⟨_, h.1, rfl⟩) ?_
      refine mw_steps X 3 (pc' := 96) (lv' := [(4, .int (nI p)), (3, .int (nI e)), (2, .int ((nI 507) + ((nI 5) * (nI k)))), (0, .ref mb), (1, .int (nI k))]) (st' := [.int (((nI 507) + ((nI 5) * (nI k))) + (nI 1)), .ref (mb + 1), .int (nI 1), .int (nI p), .int (nI e), .ref mb]) rfl ?_
      refine mw_iald X (v := W (507 + 5 * k + 1)) (507 + 5 * k + 1) (by simp only [nI_add, pk_mul]) rfl (fun H h => ⟨_, _, h.2.1, by omega, by decide, (by simp (disch := omega) only [pk_un])⟩) ?_
      refine mw_cV4v X kd_X5_goes kv_X5_goes kl_X5_47 (ci := 5) rfl rfl (Nat.le_of_ble_eq_true rfl) ⟨Nat.le_of_ble_eq_true rfl, Nat.le_of_ble_eq_true rfl⟩ ⟨Nat.le_of_ble_eq_true rfl, Nat.le_of_ble_eq_true rfl⟩ (fun _ h => h) (fun H h => ⟨⟨_, h.1⟩, cm_goes hmb h (k := 1) (hv.1.cg (fun j a b => by simp (disch := omega) only [pk_un])) a1 a2 (by omega)⟩) ?_
      refine mw_steps X 1 (pc' := 101) (lv' := [(4, .int (nI p)), (3, .int (nI e)), (2, .int ((nI 507) + ((nI 5) * (nI k)))), (0, .ref mb), (1, .int (nI k))]) (st' := [.int (nI 1)]) rfl ?_
      exact mw_zret X rfl (by decide) rfl (fun H h => ⟨by rw [(ml_look_2 (Int32.not_lt.mpr c41) (Int32.not_le.mp c55) a4 a5 a1 a2).1]; rfl, by rw [(ml_look_2 (Int32.not_lt.mpr c41) (Int32.not_le.mp c55) a4 a5 a1 a2).2]; exact h⟩)
  · refine mw_steps X 1 (pc' := 45) (lv' := [(4, .int (nI p)), (3, .int (nI e)), (2, .int ((nI 507) + ((nI 5) * (nI k)))), (0, .ref mb), (1, .int (nI k))]) (st' := [.int (nI 1)]) rfl ?_
    exact mw_zret X rfl (by decide) rfl (fun H h => ⟨by rw [(ml_look_1 (Int32.not_le.mp c41)).1]; rfl, by rw [(ml_look_1 (Int32.not_le.mp c41)).2]; exact h⟩)
end
section
theorem mw_tsInL {Γ : mw_C} {p : Program} {l : Launch} {e : Env} {R : Room} {s : State} {m : MethodId} {args : Array Value} {below : List Frame} {meth : Method} {c : Code} {A : Nat → Prop} {Q : State → Prop} {I : Heap → Prop} {ce sl pc : Nat} {d : mw_M} {P : List (Nat × Instr × Nat)} {lv : List (Nat × Value)} {rest : List Value} (X : mw_Ok Γ p s m args meth c A d P) {x : Int32} (lo j : Nat) (hj : x = nI j) (hj2 : j < 2 ^ 31) (hlo : lo ≤ j) {off dflt hi : Int} {offs : Array Int} {len : Nat} (tgt : Nat) (ha : mw_at P pc = some (.tableswitch dflt (lo : Int) hi offs, len)) (h2 : (j : Int) ≤ hi) (ho : offs[j - lo]? = some off) (ht : mw_tg pc off = some tgt) (kt : mw_G p l e R s m args below meth c A d.2.2.1 Q I ce sl tgt lv rest) : mw_G p l e R s m args below meth c A d.2.2.1 Q I ce sl pc lv (.int x :: rest) :=
  fun H locs ls hI hS hl => lv_tableIn X.hx X.hb (X.hd ha) (by rw [hj, nI_toInt hj2]; omega) (by rw [hj, nI_toInt hj2]; omega) (by rw [hj, nI_toInt hj2, show ((j : Int) - (lo : Int)).toNat = j - lo by omega]; exact ho) (mw_tg_ok ht) (kt H locs ls hI hS hl)
theorem ml_out {x : Int32} {n : Nat} (hn : n ≤ 1000) (h : mo_bl x n = false) : x.toInt < 0 ∨ (n : Int) - 1 < x.toInt := by
  by_cases h0 : 0 ≤ x
  · right
    obtain ⟨j, hj, rfl⟩ := nI_of (x := x) (Int32.not_lt.mpr h0)
    rw [nI_toInt hj]
    by_cases hj2 : j < n
    · rw [mo_bl_n hj2 (by omega)] at h; cases h
    · omega
  · left
    rw [Int32.le_iff_toInt_le] at h0
    simpa using h0
theorem ml_putS (W : Nat → Int32) {a t : Nat} (r : Nat → Int32) : upd (mo_put W a t r) (a + t) (r t) = mo_put W a (t + 1) r := by
  funext j
  by_cases hj : j = a + t
  · subst hj
    rw [pk_us, mo_put_in (by omega) (by omega)]
    congr 1
    omega
  · rw [pk_un hj]
    by_cases h2 : a ≤ j ∧ j < a + t
    · rw [mo_put_in h2.1 h2.2, mo_put_in h2.1 (by omega)]
    · rw [mo_put_out (by omega), mo_put_out (by omega)]
theorem ml_put0 (W : Nat → Int32) {a : Nat} (r : Nat → Int32) : mo_put W a 0 r = W := by
  funext j
  rw [mo_put_out (by omega)]
theorem ml_hw3 (W : Nat → Int32) (name : Int32) (y : Nat) : mo_houseWhy W name y ≤ 3 := by unfold mo_houseWhy; split; split <;> omega; omega
theorem ml_gw3 (W : Nat → Int32) (p y : Nat) : mo_guestWhy W p y ≤ 3 := by unfold mo_guestWhy; split; omega; split <;> omega
theorem ml_arr {W V : Nat → Int32} {k wy : Nat} (hw : wy = mo_why W k) (hV : V = mo_taken W k) (z : Int32) (hz : (wy = 0 ∧ z = nI 0) ∨ (¬ wy = 0 ∧ z = nI 1)) : mo_arr W k = upd V (6 + wy) (V (6 + wy) + z) := by
  unfold mo_arr
  rw [← hw, ← hV]
  rcases hz with ⟨h1, h2⟩ | ⟨h1, h2⟩
  · rw [if_pos h1, h2, ml_plus0, ml_same rfl]
  · rw [if_neg h1, h2]
theorem ml_why_h {W : Nat → Int32} {k p y : Nat} (h : W (327 + 6 * k) = nI 0) (hp : W (327 + 6 * k + 1) = nI p) (hy : W (327 + 6 * k + 3) = nI y) (hp5 : p < 5) (hy2 : y < 32768) : mo_why W k = mo_houseWhy (mo_rm W 327 6 11 k) (W (327 + 6 * k + 2)) y := by
  unfold mo_why
  rw [h, nI_0, if_pos rfl, hy, ml_n (by omega)]
theorem ml_taken_h {W : Nat → Int32} {k p y kd : Nat} (h : W (327 + 6 * k) = nI 0) (hp : W (327 + 6 * k + 1) = nI p) (hy : W (327 + 6 * k + 3) = nI y) (hkd : W (327 + 6 * k + 4) = nI kd) (hp5 : p < 5) (hy2 : y < 32768) (hk6 : kd < 6) : mo_taken W k = mo_house (mo_rm W 327 6 11 k) p (W (327 + 6 * k + 2)) y kd (W (327 + 6 * k + 5)) := by
  unfold mo_taken
  rw [h, nI_0, if_pos rfl, hp, hy, hkd, ml_n (by omega), ml_n (by omega), ml_n (by omega)]
theorem ml_why_g {W : Nat → Int32} {k p y : Nat} (h : W (327 + 6 * k) = nI 1) (hp : W (327 + 6 * k + 1) = nI p) (hy : W (327 + 6 * k + 3) = nI y) (hp5 : p < 5) (hy2 : y < 32768) : mo_why W k = mo_guestWhy (mo_rm W 327 6 11 k) p y := by
  unfold mo_why
  rw [h, if_neg (by decide), hp, hy, ml_n (by omega), ml_n (by omega)]
theorem ml_taken_g {W : Nat → Int32} {k p y kd : Nat} (h : W (327 + 6 * k) = nI 1) (hp : W (327 + 6 * k + 1) = nI p) (hy : W (327 + 6 * k + 3) = nI y) (hkd : W (327 + 6 * k + 4) = nI kd) (hp5 : p < 5) (hy2 : y < 32768) (hk6 : kd < 6) : mo_taken W k = mo_guest (mo_rm W 327 6 11 k) p y kd (W (327 + 6 * k + 5)) := by
  unfold mo_taken
  rw [h, if_neg (by decide), hp, hy, hkd, ml_n (by omega), ml_n (by omega), ml_n (by omega)]
theorem ml_cntS (P : Nat → Bool) (t : Nat) : nI (mo_cnt P t) + nI (if P t then 1 else 0) = nI (mo_cnt P (t + 1)) := by rw [nI_add]; rfl
theorem ml_ha_iff {W : Nat → Int32} {e n : Nat} (hn : W (19 - e) = nI n) (h40 : n ≤ 40) : mo_ha W e = true ↔ ∀ j, j < n → W (127 + 100 * e + j) = nI 1 := by
  unfold mo_ha
  rw [decide_eq_true_eq, hn, ml_n (by omega)]
  constructor
  · intro h j hj
    have := ml_fst_no (fun k => !decide (W (127 + 100 * e + k) = nI 1)) 100 j (Nat.lt_of_lt_of_le hj h)
    simpa using this
  · intro h
    by_cases hc : n ≤ mo_row W e
    · exact hc
    · have h1 : mo_row W e < 100 := by omega
      have h2 := ml_fst_yes (fun k => !decide (W (127 + 100 * e + k) = nI 1)) 100 h1
      have h3 := h (mo_row W e) (by omega)
      have h2 : (!decide (W (127 + 100 * e + mo_row W e) = nI 1)) = true := h2
      rw [h3] at h2
      simp at h2
/-- the book: what its rows may be -/
def iv_k (ρ : md_R) : Prop := ∃ n, n ≤ 20 ∧ ρ.2.2.2.2.2.2 = nI n ∧ ∀ k, k < n → ∃ e v b, e < 2 ∧ v < 40 ∧ b < 2 ∧ ρ.2.2.2.1 k = nI e ∧ ρ.2.2.2.2.1 k = nI v ∧ ρ.2.2.2.2.2.1 k = nI b
end
section
set_option maxHeartbeats 4000000 in
set_option maxRecDepth 20000 in
theorem cm_tickNow {l : Launch} {Γ : mw_C} {mb : Nat} (hmb : Γ.2.2.2 ≤ mb) {W : Nat → Int32} {ρ : md_R} {H : Heap} {c : Nat} (hH : md_I Γ mb W ρ H) (hv : iv (c + 12) W) : mw_Cr l Γ mX5_tickNow 8 0 0 (md_A mb) [.ref mb] H (some (.int (mo_tick W 13))) (md_I Γ mb (mo_tick W) ρ) := by
  obtain ⟨W0, hW0⟩ : ∃ W0, W0 = upd W 0 (W 0 + nI 1) := ⟨_, rfl⟩
  have hi0 : iv (c + 12) W0 := by rw [hW0]; exact hv.free (fun j a => pk_un (by omega))
  have h13 : W0 13 = W 13 := by rw [hW0, pk_un (by omega)]
  have hn := ml_i13 hi0.1
  have hn2 := ml_n6 hi0.1
  refine mw_ofG (P := pX5_tickNow) (by decide) (md_As hmb) oX5_tickNow (Nat.le_of_ble_eq_true rfl) ?_
  intro pg e0 sg mg below meth cd X hs
  refine mw_pre (I' := md_I Γ mb W ρ) (fun H1 h1 => by rw [h1]; exact hH) ?_
  refine mw_steps X 1 (pc' := 1) (lv' := [(0, .ref mb)]) (st' := [.ref mb]) rfl ?_
  refine mw_get X kf_X5_7.fl kc_5 rfl (v := .ref (mb + 1)) (fun H h => ⟨_, h.1, rfl⟩) ?_
  refine mw_steps X 2 (pc' := 6) (lv' := [(0, .ref mb)]) (st' := [.int (nI 0), .ref (mb + 1), .int (nI 0), .ref (mb + 1)]) rfl ?_
  refine mw_iald X (v := W (0)) (0) rfl rfl (fun H h => ⟨_, _, h.2.1, by omega, by decide, rfl⟩) ?_
  refine mw_steps X 2 (pc' := 9) (lv' := [(0, .ref mb)]) (st' := [.int ((W (0)) + (nI 1)), .int (nI 0), .ref (mb + 1)]) rfl ?_
  refine mw_iast X (I1 := md_I Γ mb (upd W (0) ((W (0)) + (nI 1))) ρ) (0) rfl rfl (fun H h => ⟨md_A1, _, _, h.2.1, by omega, by decide, fun H1 o c => h.stw o c⟩) ?_
  rw [show upd W (0) ((W (0)) + (nI 1)) = W0 from hW0.symm]
  refine mw_steps X 3 (pc' := 13) (lv' := [(1, .int (nI 0)), (0, .ref mb)]) (st' := [.ref mb]) rfl ?_
  refine mw_get X kf_X5_7.fl kc_5 rfl (v := .ref (mb + 1)) (fun H h => ⟨_, h.1, rfl⟩) ?_
  refine mw_steps X 1 (pc' := 18) (lv' := [(1, .int (nI 0)), (0, .ref mb)]) (st' := [.int (nI 13), .ref (mb + 1)]) rfl ?_
  refine mw_iald X (v := nI (mo_n (W0 13))) (13) rfl rfl (fun H h => ⟨_, _, h.2.1, by omega, by decide, hn⟩) ?_
  refine mw_steps X 1 (pc' := 20) (lv' := [(2, .int (nI (mo_n (W0 13)))), (1, .int (nI 0)), (0, .ref mb)]) (st' := []) rfl ?_
  refine mw_wf (σ := Nat × Nat × (Nat → Int32)) (fun q => q.1) (fun q => iv (c + 2 * q.1) q.2.2 ∧ q.2.1 + q.1 ≤ mo_n (q.2.2 13) ∧ q.1 ≤ 6 ∧ mo_looks q.1 q.2.1 q.2.2 = mo_tick W) (fun q => md_I Γ mb q.2.2 ρ) (fun q => [(2, .int (nI q.1)), (1, .int (nI q.2.1)), (0, .ref mb)]) (fun q hq ih => ?_) (mo_n (W0 13), 0, W0) ⟨hi0.less (by omega), by simp, by omega, by unfold mo_tick; rw [← hW0, h13]⟩
  obtain ⟨n, k, V⟩ := q
  obtain ⟨hv, hk, hn6, hlo⟩ := hq
  dsimp only at hv hk hn6 hlo ⊢
  have hvn := ml_n6 hv.1
  cases n with
  | zero =>
    refine mw_steps X 1 (pc' := 21) (lv' := [(2, .int (nI 0)), (1, .int (nI k)), (0, .ref mb)]) (st' := [.int (nI 0)]) rfl ?_
    refine mw_if_le X 46 rfl rfl (fun c21 => ?_) (fun c21 => absurd (by decide) c21)
    refine mw_steps X 1 (pc' := 47) (lv' := [(2, .int (nI 0)), (1, .int (nI k)), (0, .ref mb)]) (st' := [.ref mb]) rfl ?_
    refine mw_get X kf_X5_7.fl kc_5 rfl (v := .ref (mb + 1)) (fun H h => ⟨_, h.1, rfl⟩) ?_
    refine mw_steps X 1 (pc' := 52) (lv' := [(2, .int (nI 0)), (1, .int (nI k)), (0, .ref mb)]) (st' := [.int (nI 13), .ref (mb + 1)]) rfl ?_
    refine mw_iald X (v := V (13)) (13) rfl rfl (fun H h => ⟨_, _, h.2.1, by omega, by decide, rfl⟩) ?_
    exact mw_iret X rfl rfl (fun H h => ⟨by rw [← hlo]; rfl, by rw [← hlo]; exact h⟩)
  | succ n =>
    unfold mo_looks at hlo
    have hl2 := ml_look_n (c := c + 2 * n) (k := k) hv (by omega)
    have hi2 : iv (c + 2 * n) (mo_look V k) := iv_look (c := c + 2 * n) hv (by omega)
    refine mw_steps X 1 (pc' := 21) (lv' := [(2, .int (nI (n + 1))), (1, .int (nI k)), (0, .ref mb)]) (st' := [.int (nI (n + 1))]) rfl ?_
    refine mw_if_le X 46 rfl rfl (fun c21 => absurd c21 (nI_nle (by omega) (by omega))) (fun c21 => ?_)
    refine mw_steps X 3 (pc' := 27) (lv' := [(2, .int (nI (n + 1))), (1, .int (nI k)), (0, .ref mb)]) (st' := [.int (nI k), .ref mb, .int (nI k)]) rfl ?_
    refine mw_cV1r X kd_X5_lookAt kv_X5_lookAt kl_X5_113 (ci := 5) rfl rfl (Nat.le_of_ble_eq_true rfl) ⟨Nat.le_of_ble_eq_true rfl, Nat.le_of_ble_eq_true rfl⟩ ⟨Nat.le_of_ble_eq_true rfl, Nat.le_of_ble_eq_true rfl⟩ (fun _ h => h) (fun H h => ⟨⟨_, h.1⟩, cm_look hmb h (c := c + 2 * n) hv (by omega)⟩) ?_
    refine mw_if_eq X 37 rfl rfl (fun c30 => ?_) (fun c30 => ?_)
    · refine mw_steps X 5 (pc' := 20) (lv' := [(2, .int ((nI (n + 1)) + (-1))), (1, .int ((nI k) + (nI 0))), (0, .ref mb)]) (st' := []) rfl ?_
      refine mw_lveq (lv' := [(2, .int (nI n)), (1, .int (nI k)), (0, .ref mb)]) (by rw [pk_m1, ml_plus0]) ?_
      rw [mo_b_z c30, if_neg (by decide)] at hlo hl2
      exact ih (n, k, mo_look V k) ⟨hi2, by dsimp only; omega, by dsimp only; omega, hlo⟩ (by dsimp only; omega)
    · refine mw_steps X 6 (pc' := 20) (lv' := [(2, .int ((nI (n + 1)) + (-1))), (1, .int ((nI k) + (nI 1))), (0, .ref mb)]) (st' := []) rfl ?_
      refine mw_lveq (lv' := [(2, .int (nI n)), (1, .int (nI (k + 1))), (0, .ref mb)]) (by rw [pk_m1, nI_add]) ?_
      rw [mo_b_nz c30, if_pos rfl] at hlo hl2
      exact ih (n, k + 1, mo_look V k) ⟨hi2, by dsimp only; omega, by dsimp only; omega, hlo⟩ (by dsimp only; omega)
set_option maxHeartbeats 4000000 in
theorem cm_isEnd {l : Launch} {Γ : mw_C} {mb : Nat} (hmb : Γ.2.2.2 ≤ mb) {H : Heap} {x : Int32} {J : Heap → Prop} (hJ : J H) : mw_Cr l Γ mX5_isEnd 2 0 0 (md_A mb) [.int x] H (some (.int (mo_b (mo_bl x 2)))) J := by
  refine mw_ofG (P := pX5_isEnd) (by decide) (md_As hmb) oX5_isEnd (Nat.le_of_ble_eq_true rfl) ?_
  intro pg e0 sg mg below meth cd X hs
  refine mw_pre (I' := J) (fun H1 h1 => by rw [h1]; exact hJ) ?_
  refine mw_steps X 4 (pc' := 4) (lv' := [(0, .int x)]) (st' := [.long 1, .long 0, .long x.toInt64]) rfl ?_
  refine mw_cS3r X kd_X5_in ks_X5_in kl_X5_68 rfl (Nat.le_of_ble_eq_true rfl) ⟨Nat.le_of_ble_eq_true rfl, Nat.le_of_ble_eq_true rfl⟩ ⟨Nat.le_of_ble_eq_true rfl, Nat.le_of_ble_eq_true rfl⟩ (fun _ h => h) (fun H h => cm_in hmb h) ?_
  exact mw_zret X rfl (mo_b_or _) rfl (fun H h => ⟨congrArg (fun z => some (Value.int (mo_b z))) (by rw [show (1 : Int64) = (nI (2 - 1)).toInt64 by decide]; exact mo_in_bl (by omega) (by omega)), h⟩)
set_option maxHeartbeats 4000000 in
theorem cm_isPlace {l : Launch} {Γ : mw_C} {mb : Nat} (hmb : Γ.2.2.2 ≤ mb) {H : Heap} {x : Int32} {J : Heap → Prop} (hJ : J H) : mw_Cr l Γ mX5_isPlace 2 0 0 (md_A mb) [.int x] H (some (.int (mo_b (mo_bl x 5)))) J := by
  refine mw_ofG (P := pX5_isPlace) (by decide) (md_As hmb) oX5_isPlace (Nat.le_of_ble_eq_true rfl) ?_
  intro pg e0 sg mg below meth cd X hs
  refine mw_pre (I' := J) (fun H1 h1 => by rw [h1]; exact hJ) ?_
  refine mw_steps X 3 (pc' := 3) (lv' := [(0, .int x)]) (st' := [.long 0, .long x.toInt64]) rfl ?_
  refine mw_ldc2 X kk_X5_142 rfl ?_
  refine mw_cS3r X kd_X5_in ks_X5_in kl_X5_68 rfl (Nat.le_of_ble_eq_true rfl) ⟨Nat.le_of_ble_eq_true rfl, Nat.le_of_ble_eq_true rfl⟩ ⟨Nat.le_of_ble_eq_true rfl, Nat.le_of_ble_eq_true rfl⟩ (fun _ h => h) (fun H h => cm_in hmb h) ?_
  exact mw_zret X rfl (mo_b_or _) rfl (fun H h => ⟨congrArg (fun z => some (Value.int (mo_b z))) (by rw [show (4 : Int64) = (nI (5 - 1)).toInt64 by decide]; exact mo_in_bl (by omega) (by omega)), h⟩)
set_option maxHeartbeats 4000000 in
set_option maxRecDepth 20000 in
theorem cm_isLetter {l : Launch} {Γ : mw_C} {mb : Nat} (hmb : Γ.2.2.2 ≤ mb) {W : Nat → Int32} {ρ : md_R} {H : Heap} {x : Int32} (hH : md_I Γ mb W ρ H) (hc : iv_c W) : mw_Cr l Γ mX5_isLetter 2 0 0 (md_A mb) [.ref mb, .int x] H (some (.int (mo_b (mo_bl x (mo_n (W 11)))))) (md_I Γ mb W ρ) := by
  have hr := ml_i11 hc
  have hr2 := ml_n24 hc
  refine mw_ofG (P := pX5_isLetter) (by decide) (md_As hmb) oX5_isLetter (Nat.le_of_ble_eq_true rfl) ?_
  intro pg e0 sg mg below meth cd X hs
  refine mw_pre (I' := md_I Γ mb W ρ) (fun H1 h1 => by rw [h1]; exact hH) ?_
  refine mw_steps X 4 (pc' := 4) (lv' := [(0, .ref mb), (1, .int x)]) (st' := [.ref mb, .long 0, .long x.toInt64]) rfl ?_
  refine mw_get X kf_X5_7.fl kc_5 rfl (v := .ref (mb + 1)) (fun H h => ⟨_, h.1, rfl⟩) ?_
  refine mw_steps X 1 (pc' := 9) (lv' := [(0, .ref mb), (1, .int x)]) (st' := [.int (nI 11), .ref (mb + 1), .long 0, .long x.toInt64]) rfl ?_
  refine mw_iald X (v := nI (mo_n (W 11))) (11) rfl rfl (fun H h => ⟨_, _, h.2.1, by omega, by decide, hr⟩) ?_
  refine mw_steps X 3 (pc' := 13) (lv' := [(0, .ref mb), (1, .int x)]) (st' := [.long (((nI (mo_n (W 11))) - (nI 1)).toInt64), .long 0, .long x.toInt64]) rfl ?_
  refine mw_cS3r X kd_X5_in ks_X5_in kl_X5_68 rfl (Nat.le_of_ble_eq_true rfl) ⟨Nat.le_of_ble_eq_true rfl, Nat.le_of_ble_eq_true rfl⟩ ⟨Nat.le_of_ble_eq_true rfl, Nat.le_of_ble_eq_true rfl⟩ (fun _ h => h) (fun H h => cm_in hmb h) ?_
  exact mw_zret X rfl (mo_b_or _) rfl (fun H h => ⟨congrArg (fun z => some (Value.int (mo_b z))) (mo_in_cnt (by omega)), h⟩)
set_option maxHeartbeats 4000000 in
set_option maxRecDepth 20000 in
theorem cm_next {l : Launch} {Γ : mw_C} {mb : Nat} (hmb : Γ.2.2.2 ≤ mb) {W : Nat → Int32} {ρ : md_R} {H : Heap} {e c : Nat} (hH : md_I Γ mb W ρ H) (hv : iv c W) (he : e < 2) : mw_Cr l Γ mX5_next 4 0 0 (md_A mb) [.ref mb, .int (nI e)] H (some (.int (op_next W e).1)) (md_I Γ mb (op_next W e).2 ρ) := by
  obtain ⟨⟨n, hn2, hn⟩, -, ⟨cu, hcu5, hcu⟩, -⟩ := hv.2.2.2.2.2.2.2.1 e he
  refine mw_ofG (P := pX5_next) (by decide) (md_As hmb) oX5_next (Nat.le_of_ble_eq_true rfl) ?_
  intro pg e0 sg mg below meth cd X hs
  refine mw_pre (I' := md_I Γ mb W ρ) (fun H1 h1 => by rw [h1]; exact hH) ?_
  refine mw_steps X 1 (pc' := 1) (lv' := [(0, .ref mb), (1, .int (nI e))]) (st' := [.ref mb]) rfl ?_
  refine mw_get X kf_X5_7.fl kc_5 rfl (v := .ref (mb + 1)) (fun H h => ⟨_, h.1, rfl⟩) ?_
  refine mw_steps X 3 (pc' := 8) (lv' := [(0, .ref mb), (1, .int (nI e))]) (st' := [.int ((nI 18) + (nI e)), .ref (mb + 1)]) rfl ?_
  refine mw_iald X (v := nI n) (18 + e) (by simp only [nI_add, pk_mul]) rfl (fun H h => ⟨_, _, h.2.1, by omega, by decide, hn⟩) ?_
  refine mw_steps X 1 (pc' := 11) (lv' := [(0, .ref mb), (1, .int (nI e))]) (st' := [.int (nI 40), .int (nI n)]) rfl ?_
  refine mw_icmp_ne X 17 rfl rfl (fun c11 => ?_) (fun c11 => ?_)
  · refine mw_steps X 1 (pc' := 18) (lv' := [(0, .ref mb), (1, .int (nI e))]) (st' := [.ref mb]) rfl ?_
    refine mw_get X kf_X5_7.fl kc_5 rfl (v := .ref (mb + 1)) (fun H h => ⟨_, h.1, rfl⟩) ?_
    refine mw_steps X 3 (pc' := 25) (lv' := [(0, .ref mb), (1, .int (nI e))]) (st' := [.int ((nI 18) + (nI e)), .ref (mb + 1)]) rfl ?_
    refine mw_iald X (v := nI n) (18 + e) (by simp only [nI_add, pk_mul]) rfl (fun H h => ⟨_, _, h.2.1, by omega, by decide, hn⟩) ?_
    refine mw_steps X 2 (pc' := 28) (lv' := [(2, .int (nI n)), (0, .ref mb), (1, .int (nI e))]) (st' := [.ref mb]) rfl ?_
    refine mw_get X kf_X5_7.fl kc_5 rfl (v := .ref (mb + 1)) (fun H h => ⟨_, h.1, rfl⟩) ?_
    refine mw_steps X 4 (pc' := 36) (lv' := [(2, .int (nI n)), (0, .ref mb), (1, .int (nI e))]) (st' := [.int ((nI 18) + (nI e)), .ref (mb + 1), .int ((nI 18) + (nI e)), .ref (mb + 1)]) rfl ?_
    refine mw_iald X (v := nI n) (18 + e) (by simp only [nI_add, pk_mul]) rfl (fun H h => ⟨_, _, h.2.1, by omega, by decide, hn⟩) ?_
    refine mw_steps X 2 (pc' := 39) (lv' := [(2, .int (nI n)), (0, .ref mb), (1, .int (nI e))]) (st' := [.int ((nI n) + (nI 1)), .int ((nI 18) + (nI e)), .ref (mb + 1)]) rfl ?_
    refine mw_iast X (I1 := md_I Γ mb (upd W (18 + e) ((nI n) + (nI 1))) ρ) (18 + e) (by simp only [nI_add, pk_mul]) rfl (fun H h => ⟨md_A1, _, _, h.2.1, by omega, by decide, fun H1 o c => h.stw o c⟩) ?_
    refine mw_steps X 3 (pc' := 43) (lv' := [(2, .int (nI n)), (0, .ref mb), (1, .int (nI e))]) (st' := [.ref mb, .int (nI e), .ref mb]) rfl ?_
    refine mw_get X kf_X5_7.fl kc_5 rfl (v := .ref (mb + 1)) (fun H h => ⟨_, h.1, rfl⟩) ?_
    refine mw_steps X 3 (pc' := 49) (lv' := [(2, .int (nI n)), (0, .ref mb), (1, .int (nI e))]) (st' := [.int ((nI 2) + (nI e)), .ref (mb + 1), .int (nI e), .ref mb]) rfl ?_
    refine mw_iald X (v := nI cu) (2 + e) (by simp only [nI_add, pk_mul]) rfl (fun H h => ⟨_, _, h.2.1, by omega, by decide, (by simp (disch := omega) only [pk_un]; exact hcu)⟩) ?_
    refine mw_steps X 2 (pc' := 52) (lv' := [(2, .int (nI n)), (0, .ref mb), (1, .int (nI e))]) (st' := [.int (nI n), .int (nI 0), .int (nI cu), .int (nI e), .ref mb]) rfl ?_
    refine mw_cV4v X kd_X5_goes kv_X5_goes kl_X5_47 (ci := 5) rfl rfl (Nat.le_of_ble_eq_true rfl) ⟨Nat.le_of_ble_eq_true rfl, Nat.le_of_ble_eq_true rfl⟩ ⟨Nat.le_of_ble_eq_true rfl, Nat.le_of_ble_eq_true rfl⟩ (fun _ h => h) (fun H h => ⟨⟨_, h.1⟩, cm_goes hmb h (k := 0) (hv.1.cg (fun j a b => by simp (disch := omega) only [pk_un])) he hcu5 (by omega)⟩) ?_
    refine mw_steps X 1 (pc' := 56) (lv' := [(2, .int (nI n)), (0, .ref mb), (1, .int (nI e))]) (st' := [.int (nI n)]) rfl ?_
    have hop : op_next W e = (nI n, mo_goes (upd W (18 + e) ((nI n) + (nI 1))) e cu 0 (nI n)) := by unfold op_next; rw [hn, if_neg c11, hcu, ml_n (by omega)]
    exact mw_iret X rfl rfl (fun H h => ⟨by rw [hop], by rw [hop]; exact h⟩)
  · refine mw_ldc X kk_X5_161 rfl ?_
    have hop : op_next W e = ((-1000000004), W) := by unfold op_next; rw [hn, if_pos c11]
    exact mw_iret X rfl rfl (fun H h => ⟨by rw [hop], by rw [hop]; exact h⟩)
set_option maxHeartbeats 4000000 in
set_option maxRecDepth 20000 in
theorem cm_say {l : Launch} {Γ : mw_C} {mb : Nat} (hmb : Γ.2.2.2 ≤ mb) {W : Nat → Int32} {ρ : md_R} {H : Heap} {c : Nat} (hH : md_I Γ mb W ρ H) (hv : iv c W) : mw_Cr l Γ mX5_say 5 0 0 (md_A mb) [.ref mb] H (some (.int (op_next W 0).1)) (md_I Γ mb (op_next W 0).2 ρ) := by
  refine mw_ofG (P := pX5_say) (by decide) (md_As hmb) oX5_say (Nat.le_of_ble_eq_true rfl) ?_
  intro pg e0 sg mg below meth cd X hs
  refine mw_pre (I' := md_I Γ mb W ρ) (fun H1 h1 => by rw [h1]; exact hH) ?_
  refine mw_steps X 2 (pc' := 2) (lv' := [(0, .ref mb)]) (st' := [.int (nI 0), .ref mb]) rfl ?_
  refine mw_cV1r X kd_X5_next kv_X5_next kl_X5_162 (ci := 5) rfl rfl (Nat.le_of_ble_eq_true rfl) ⟨Nat.le_of_ble_eq_true rfl, Nat.le_of_ble_eq_true rfl⟩ ⟨Nat.le_of_ble_eq_true rfl, Nat.le_of_ble_eq_true rfl⟩ (fun _ h => h) (fun H h => ⟨⟨_, h.1⟩, cm_next hmb h (e := 0) hv (by omega)⟩) ?_
  exact mw_iret X rfl rfl (fun H h => ⟨rfl, h⟩)
set_option maxHeartbeats 4000000 in
set_option maxRecDepth 20000 in
theorem cm_speak {l : Launch} {Γ : mw_C} {mb : Nat} (hmb : Γ.2.2.2 ≤ mb) {W : Nat → Int32} {ρ : md_R} {H : Heap} {c : Nat} (hH : md_I Γ mb W ρ H) (hv : iv c W) : mw_Cr l Γ mX5_speak 5 0 0 (md_A mb) [.ref mb] H (some (.int (op_next W 1).1)) (md_I Γ mb (op_next W 1).2 ρ) := by
  refine mw_ofG (P := pX5_speak) (by decide) (md_As hmb) oX5_speak (Nat.le_of_ble_eq_true rfl) ?_
  intro pg e0 sg mg below meth cd X hs
  refine mw_pre (I' := md_I Γ mb W ρ) (fun H1 h1 => by rw [h1]; exact hH) ?_
  refine mw_steps X 2 (pc' := 2) (lv' := [(0, .ref mb)]) (st' := [.int (nI 1), .ref mb]) rfl ?_
  refine mw_cV1r X kd_X5_next kv_X5_next kl_X5_162 (ci := 5) rfl rfl (Nat.le_of_ble_eq_true rfl) ⟨Nat.le_of_ble_eq_true rfl, Nat.le_of_ble_eq_true rfl⟩ ⟨Nat.le_of_ble_eq_true rfl, Nat.le_of_ble_eq_true rfl⟩ (fun _ h => h) (fun H h => ⟨⟨_, h.1⟩, cm_next hmb h (e := 1) hv (by omega)⟩) ?_
  exact mw_iret X rfl rfl (fun H h => ⟨rfl, h⟩)
set_option maxHeartbeats 4000000 in
set_option maxRecDepth 20000 in
theorem cm_open {l : Launch} {Γ : mw_C} {mb : Nat} (hmb : Γ.2.2.2 ≤ mb) {W : Nat → Int32} {ρ : md_R} {H : Heap} {c : Nat} {x : Int32} (hH : md_I Γ mb W ρ H) (hv : iv c W) : mw_Cr l Γ mX5_open 5 0 0 (md_A mb) [.ref mb, .int x] H (some (.int (op_open W x).1)) (md_I Γ mb (op_open W x).2 ρ) := by
  refine mw_ofG (P := pX5_open) (by decide) (md_As hmb) oX5_open (Nat.le_of_ble_eq_true rfl) ?_
  intro pg e0 sg mg below meth cd X hs
  refine mw_pre (I' := md_I Γ mb W ρ) (fun H1 h1 => by rw [h1]; exact hH) ?_
  refine mw_steps X 1 (pc' := 1) (lv' := [(0, .ref mb), (1, .int x)]) (st' := [.int x]) rfl ?_
  refine mw_cS1r X kd_X5_isPlace ks_X5_isPlace kl_X5_151 rfl (Nat.le_of_ble_eq_true rfl) ⟨Nat.le_of_ble_eq_true rfl, Nat.le_of_ble_eq_true rfl⟩ ⟨Nat.le_of_ble_eq_true rfl, Nat.le_of_ble_eq_true rfl⟩ (fun _ h => h) (fun H h => cm_isPlace hmb h) ?_
  refine mw_if_ne X 10 rfl rfl (fun c4 => ?_) (fun c4 => ?_)
  · obtain ⟨p, hp, rfl⟩ := mo_bl_t (mo_b_nz c4) (by omega)
    refine mw_steps X 1 (pc' := 11) (lv' := [(0, .ref mb), (1, .int (nI p))]) (st' := [.ref mb]) rfl ?_
    refine mw_cV0r X kd_X5_leastSpare kv_X5_leastSpare kl_X5_165 (ci := 5) rfl rfl (Nat.le_of_ble_eq_true rfl) ⟨Nat.le_of_ble_eq_true rfl, Nat.le_of_ble_eq_true rfl⟩ ⟨Nat.le_of_ble_eq_true rfl, Nat.le_of_ble_eq_true rfl⟩ (fun _ h => h) (fun H h => ⟨⟨_, h.1⟩, cm_least hmb h⟩) ?_
    refine mw_steps X 2 (pc' := 16) (lv' := [(2, .int (mo_ix (mo_least W) 40)), (0, .ref mb), (1, .int (nI p))]) (st' := [.ref mb]) rfl ?_
    refine mw_get X kf_X5_7.fl kc_5 rfl (v := .ref (mb + 1)) (fun H h => ⟨_, h.1, rfl⟩) ?_
    refine mw_steps X 3 (pc' := 23) (lv' := [(2, .int (mo_ix (mo_least W) 40)), (0, .ref mb), (1, .int (nI p))]) (st' := [.int ((nI 22) + (nI p)), .ref (mb + 1)]) rfl ?_
    refine mw_iald X (v := W (22 + p)) (22 + p) (by simp only [nI_add, pk_mul]) rfl (fun H h => ⟨_, _, h.2.1, by omega, by decide, rfl⟩) ?_
    refine mw_if_ge X 31 rfl rfl (fun c24 => ?_) (fun c24 => ?_)
    · refine mw_ldc X kk_X5_168 rfl ?_
      have hop : op_open W (nI p) = ((-1000000003), W) := by unfold op_open; rw [if_pos (mo_bl_n hp (by omega)), ml_n (by omega), if_pos (by first | exact Or.inl c24 | exact Or.inr (fun q => c28 ((ml_ix_ge (by omega)).mpr q)))]
      exact mw_iret X rfl rfl (fun H h => ⟨by rw [hop], by rw [hop]; exact h⟩)
    · refine mw_steps X 1 (pc' := 28) (lv' := [(2, .int (mo_ix (mo_least W) 40)), (0, .ref mb), (1, .int (nI p))]) (st' := [.int (mo_ix (mo_least W) 40)]) rfl ?_
      refine mw_if_ge X 34 rfl rfl (fun c28 => ?_) (fun c28 => ?_)
      · have hls : mo_least W < 40 := (ml_ix_ge (by omega)).mp c28
        rw [show mo_ix (mo_least W) 40 = nI (mo_least W) from if_pos hls]
        obtain ⟨n, hn⟩ : ∃ n, n = mo_least W := ⟨_, rfl⟩
        have hls2 := hls
        rw [← hn] at hls ⊢
        refine mw_steps X 1 (pc' := 35) (lv' := [(2, .int (nI n)), (0, .ref mb), (1, .int (nI p))]) (st' := [.ref mb]) rfl ?_
        refine mw_get X kf_X5_7.fl kc_5 rfl (v := .ref (mb + 1)) (fun H h => ⟨_, h.1, rfl⟩) ?_
        refine mw_steps X 4 (pc' := 43) (lv' := [(2, .int (nI n)), (0, .ref mb), (1, .int (nI p))]) (st' := [.int (nI 2), .int ((nI 87) + (nI n)), .ref (mb + 1)]) rfl ?_
        refine mw_iast X (I1 := md_I Γ mb (upd W (87 + n) (nI 2)) ρ) (87 + n) (by simp only [nI_add, pk_mul]) rfl (fun H h => ⟨md_A1, _, _, h.2.1, by omega, by decide, fun H1 o c => h.stw o c⟩) ?_
        refine mw_steps X 1 (pc' := 45) (lv' := [(2, .int (nI n)), (0, .ref mb), (1, .int (nI p))]) (st' := [.ref mb]) rfl ?_
        refine mw_get X kf_X5_7.fl kc_5 rfl (v := .ref (mb + 1)) (fun H h => ⟨_, h.1, rfl⟩) ?_
        refine mw_steps X 4 (pc' := 53) (lv' := [(2, .int (nI n)), (0, .ref mb), (1, .int (nI p))]) (st' := [.int (nI n), .int ((nI 22) + (nI p)), .ref (mb + 1)]) rfl ?_
        refine mw_iast X (I1 := md_I Γ mb (upd (upd W (87 + n) (nI 2)) (22 + p) (nI n)) ρ) (22 + p) (by simp only [nI_add, pk_mul]) rfl (fun H h => ⟨md_A1, _, _, h.2.1, by omega, by decide, fun H1 o c => h.stw o c⟩) ?_
        refine mw_steps X 1 (pc' := 55) (lv' := [(2, .int (nI n)), (0, .ref mb), (1, .int (nI p))]) (st' := [.ref mb]) rfl ?_
        refine mw_get X kf_X5_7.fl kc_5 rfl (v := .ref (mb + 1)) (fun H h => ⟨_, h.1, rfl⟩) ?_
        refine mw_steps X 4 (pc' := 63) (lv' := [(2, .int (nI n)), (0, .ref mb), (1, .int (nI p))]) (st' := [.int (nI 0), .int ((nI 27) + (nI p)), .ref (mb + 1)]) rfl ?_
        refine mw_iast X (I1 := md_I Γ mb (upd (upd (upd W (87 + n) (nI 2)) (22 + p) (nI n)) (27 + p) (nI 0)) ρ) (27 + p) (by simp only [nI_add, pk_mul]) rfl (fun H h => ⟨md_A1, _, _, h.2.1, by omega, by decide, fun H1 o c => h.stw o c⟩) ?_
        refine mw_steps X 3 (pc' := 67) (lv' := [(2, .int (nI n)), (0, .ref mb), (1, .int (nI p))]) (st' := [.int (nI p), .int (nI 0), .ref mb]) rfl ?_
        refine mw_cV2v X kd_X5_challengeNow kv_X5_challengeNow kl_X5_54 (ci := 5) rfl rfl (Nat.le_of_ble_eq_true rfl) ⟨Nat.le_of_ble_eq_true rfl, Nat.le_of_ble_eq_true rfl⟩ ⟨Nat.le_of_ble_eq_true rfl, Nat.le_of_ble_eq_true rfl⟩ (fun _ h => h) (fun H h => ⟨⟨_, h.1⟩, cm_challenge hmb h (e := 0) (iv_sureU (iv_open (iv_spare hv hls (Or.inr (Or.inr rfl))) hp (Or.inr ⟨n, hls, rfl⟩)) hp (Or.inl rfl)) (by omega) hp⟩) ?_
        refine mw_steps X 1 (pc' := 71) (lv' := [(2, .int (nI n)), (0, .ref mb), (1, .int (nI p))]) (st' := [.int (nI n)]) rfl ?_
        have hop : op_open W (nI p) = (nI n, mo_challenge (upd (upd (upd W (87 + n) (nI 2)) (22 + p) (nI n)) (27 + p) (nI 0)) 0 p) := by unfold op_open; rw [if_pos (mo_bl_n hp (by omega)), ml_n (by omega), if_neg (by rintro (q | q); exact c24 q; exact q hls2), ← hn]
        exact mw_iret X rfl rfl (fun H h => ⟨by rw [hop], by rw [hop]; exact h⟩)
      · refine mw_ldc X kk_X5_168 rfl ?_
        have hop : op_open W (nI p) = ((-1000000003), W) := by unfold op_open; rw [if_pos (mo_bl_n hp (by omega)), ml_n (by omega), if_pos (by first | exact Or.inl c24 | exact Or.inr (fun q => c28 ((ml_ix_ge (by omega)).mpr q)))]
        exact mw_iret X rfl rfl (fun H h => ⟨by rw [hop], by rw [hop]; exact h⟩)
  · refine mw_ldc X kk_X5_147 rfl ?_
    have hop : op_open W x = ((-1000000001), W) := by unfold op_open; rw [if_neg (by rw [mo_b_z c4]; decide)]
    exact mw_iret X rfl rfl (fun H h => ⟨by rw [hop], by rw [hop]; exact h⟩)
set_option maxHeartbeats 4000000 in
set_option maxRecDepth 20000 in
theorem cm_go {l : Launch} {Γ : mw_C} {mb : Nat} (hmb : Γ.2.2.2 ≤ mb) {W : Nat → Int32} {ρ : md_R} {H : Heap} {c : Nat} {x : Int32} (hH : md_I Γ mb W ρ H) (hv : iv c W) : mw_Cr l Γ mX5_go 6 0 0 (md_A mb) [.ref mb, .int x] H (some (.int (op_go W x).1)) (md_I Γ mb (op_go W x).2 ρ) := by
  refine mw_ofG (P := pX5_go) (by decide) (md_As hmb) oX5_go (Nat.le_of_ble_eq_true rfl) ?_
  intro pg e0 sg mg below meth cd X hs
  refine mw_pre (I' := md_I Γ mb W ρ) (fun H1 h1 => by rw [h1]; exact hH) ?_
  refine mw_steps X 1 (pc' := 1) (lv' := [(0, .ref mb), (1, .int x)]) (st' := [.int x]) rfl ?_
  refine mw_cS1r X kd_X5_isPlace ks_X5_isPlace kl_X5_151 rfl (Nat.le_of_ble_eq_true rfl) ⟨Nat.le_of_ble_eq_true rfl, Nat.le_of_ble_eq_true rfl⟩ ⟨Nat.le_of_ble_eq_true rfl, Nat.le_of_ble_eq_true rfl⟩ (fun _ h => h) (fun H h => cm_isPlace hmb h) ?_
  refine mw_if_ne X 10 rfl rfl (fun c4 => ?_) (fun c4 => ?_)
  · obtain ⟨p, hp, rfl⟩ := mo_bl_t (mo_b_nz c4) (by omega)
    refine mw_steps X 1 (pc' := 11) (lv' := [(0, .ref mb), (1, .int (nI p))]) (st' := [.ref mb]) rfl ?_
    refine mw_get X kf_X5_7.fl kc_5 rfl (v := .ref (mb + 1)) (fun H h => ⟨_, h.1, rfl⟩) ?_
    refine mw_steps X 3 (pc' := 18) (lv' := [(0, .ref mb), (1, .int (nI p))]) (st' := [.int ((nI 22) + (nI p)), .ref (mb + 1)]) rfl ?_
    refine mw_iald X (v := W (22 + p)) (22 + p) (by simp only [nI_add, pk_mul]) rfl (fun H h => ⟨_, _, h.2.1, by omega, by decide, rfl⟩) ?_
    refine mw_if_lt X 32 rfl rfl (fun c19 => ?_) (fun c19 => ?_)
    · refine mw_ldc X kk_X5_168 rfl ?_
      have hop : op_go W (nI p) = ((-1000000003), W) := by unfold op_go; rw [if_pos (mo_bl_n hp (by omega)), ml_n (by omega), if_pos (by first | exact Or.inl c19 | exact Or.inr c29)]
      exact mw_iret X rfl rfl (fun H h => ⟨by rw [hop], by rw [hop]; exact h⟩)
    · refine mw_steps X 1 (pc' := 23) (lv' := [(0, .ref mb), (1, .int (nI p))]) (st' := [.ref mb]) rfl ?_
      refine mw_get X kf_X5_7.fl kc_5 rfl (v := .ref (mb + 1)) (fun H h => ⟨_, h.1, rfl⟩) ?_
      refine mw_steps X 1 (pc' := 27) (lv' := [(0, .ref mb), (1, .int (nI p))]) (st' := [.int (nI 2), .ref (mb + 1)]) rfl ?_
      refine mw_iald X (v := W (2)) (2) rfl rfl (fun H h => ⟨_, _, h.2.1, by omega, by decide, rfl⟩) ?_
      refine mw_steps X 1 (pc' := 29) (lv' := [(0, .ref mb), (1, .int (nI p))]) (st' := [.int (nI p), .int (W (2))]) rfl ?_
      refine mw_icmp_ne X 35 rfl rfl (fun c29 => ?_) (fun c29 => ?_)
      · refine mw_steps X 2 (pc' := 37) (lv' := [(0, .ref mb), (1, .int (nI p))]) (st' := [.int (nI p), .ref mb]) rfl ?_
        refine mw_cV1v X kd_X5_goTo kv_X5_goTo kl_X5_101 (ci := 5) rfl rfl (Nat.le_of_ble_eq_true rfl) ⟨Nat.le_of_ble_eq_true rfl, Nat.le_of_ble_eq_true rfl⟩ ⟨Nat.le_of_ble_eq_true rfl, Nat.le_of_ble_eq_true rfl⟩ (fun _ h => h) (fun H h => ⟨⟨_, h.1⟩, cm_goTo hmb h hv hp⟩) ?_
        refine mw_steps X 1 (pc' := 41) (lv' := [(0, .ref mb), (1, .int (nI p))]) (st' := [.ref mb]) rfl ?_
        refine mw_get X kf_X5_7.fl kc_5 rfl (v := .ref (mb + 1)) (fun H h => ⟨_, h.1, rfl⟩) ?_
        refine mw_steps X 1 (pc' := 45) (lv' := [(0, .ref mb), (1, .int (nI p))]) (st' := [.int (nI 4), .ref (mb + 1)]) rfl ?_
        refine mw_iald X (v := (mo_goTo W p) (4)) (4) rfl rfl (fun H h => ⟨_, _, h.2.1, by omega, by decide, rfl⟩) ?_
        have hop : op_go W (nI p) = ((mo_goTo W p) (4), mo_goTo W p) := by unfold op_go; rw [if_pos (mo_bl_n hp (by omega)), ml_n (by omega), if_neg (by rintro (q | q); exact c19 q; exact c29 q)]
        exact mw_iret X rfl rfl (fun H h => ⟨by rw [hop], by rw [hop]; exact h⟩)
      · refine mw_ldc X kk_X5_168 rfl ?_
        have hop : op_go W (nI p) = ((-1000000003), W) := by unfold op_go; rw [if_pos (mo_bl_n hp (by omega)), ml_n (by omega), if_pos (by first | exact Or.inl c19 | exact Or.inr c29)]
        exact mw_iret X rfl rfl (fun H h => ⟨by rw [hop], by rw [hop]; exact h⟩)
  · refine mw_ldc X kk_X5_147 rfl ?_
    have hop : op_go W x = ((-1000000001), W) := by unfold op_go; rw [if_neg (by rw [mo_b_z c4]; decide)]
    exact mw_iret X rfl rfl (fun H h => ⟨by rw [hop], by rw [hop]; exact h⟩)
set_option maxHeartbeats 4000000 in
set_option maxRecDepth 20000 in
theorem cm_closeA {l : Launch} {Γ : mw_C} {mb : Nat} (hmb : Γ.2.2.2 ≤ mb) {W : Nat → Int32} {ρ : md_R} {H : Heap} {c : Nat} {x : Int32} (hH : md_I Γ mb W ρ H) (hv : iv c W) : mw_Cr l Γ mX5_close 6 0 0 (md_A mb) [.ref mb, .int x] H (some (.int (op_close W x).1)) (md_I Γ mb (op_close W x).2 ρ) := by
  refine mw_ofG (P := pX5_close) (by decide) (md_As hmb) oX5_close (Nat.le_of_ble_eq_true rfl) ?_
  intro pg e0 sg mg below meth cd X hs
  refine mw_pre (I' := md_I Γ mb W ρ) (fun H1 h1 => by rw [h1]; exact hH) ?_
  refine mw_steps X 1 (pc' := 1) (lv' := [(0, .ref mb), (1, .int x)]) (st' := [.int x]) rfl ?_
  refine mw_cS1r X kd_X5_isPlace ks_X5_isPlace kl_X5_151 rfl (Nat.le_of_ble_eq_true rfl) ⟨Nat.le_of_ble_eq_true rfl, Nat.le_of_ble_eq_true rfl⟩ ⟨Nat.le_of_ble_eq_true rfl, Nat.le_of_ble_eq_true rfl⟩ (fun _ h => h) (fun H h => cm_isPlace hmb h) ?_
  refine mw_if_ne X 10 rfl rfl (fun c4 => ?_) (fun c4 => ?_)
  · obtain ⟨p, hp, rfl⟩ := mo_bl_t (mo_b_nz c4) (by omega)
    refine mw_steps X 1 (pc' := 11) (lv' := [(0, .ref mb), (1, .int (nI p))]) (st' := [.ref mb]) rfl ?_
    refine mw_get X kf_X5_7.fl kc_5 rfl (v := .ref (mb + 1)) (fun H h => ⟨_, h.1, rfl⟩) ?_
    refine mw_steps X 3 (pc' := 18) (lv' := [(0, .ref mb), (1, .int (nI p))]) (st' := [.int ((nI 22) + (nI p)), .ref (mb + 1)]) rfl ?_
    refine mw_iald X (v := W (22 + p)) (22 + p) (by simp only [nI_add, pk_mul]) rfl (fun H h => ⟨_, _, h.2.1, by omega, by decide, rfl⟩) ?_
    refine mw_steps X 2 (pc' := 21) (lv' := [(2, .int (W (22 + p))), (0, .ref mb), (1, .int (nI p))]) (st' := [.int (W (22 + p))]) rfl ?_
    refine mw_if_lt X 34 rfl rfl (fun c21 => ?_) (fun c21 => ?_)
    · refine mw_ldc X kk_X5_168 rfl ?_
      have hop : op_close W (nI p) = ((-1000000003), W) := by unfold op_close; rw [if_pos (mo_bl_n hp (by omega)), ml_n (by omega), if_pos (by first | exact Or.inl c21 | exact Or.inr c31)]
      exact mw_iret X rfl rfl (fun H h => ⟨by rw [hop], by rw [hop]; exact h⟩)
    · refine mw_steps X 1 (pc' := 25) (lv' := [(2, .int (W (22 + p))), (0, .ref mb), (1, .int (nI p))]) (st' := [.ref mb]) rfl ?_
      refine mw_get X kf_X5_7.fl kc_5 rfl (v := .ref (mb + 1)) (fun H h => ⟨_, h.1, rfl⟩) ?_
      refine mw_steps X 1 (pc' := 29) (lv' := [(2, .int (W (22 + p))), (0, .ref mb), (1, .int (nI p))]) (st' := [.int (nI 2), .ref (mb + 1)]) rfl ?_
      refine mw_iald X (v := W (2)) (2) rfl rfl (fun H h => ⟨_, _, h.2.1, by omega, by decide, rfl⟩) ?_
      refine mw_steps X 1 (pc' := 31) (lv' := [(2, .int (W (22 + p))), (0, .ref mb), (1, .int (nI p))]) (st' := [.int (nI p), .int (W (2))]) rfl ?_
      refine mw_icmp_ne X 37 rfl rfl (fun c31 => ?_) (fun c31 => ?_)
      · refine mw_steps X 2 (pc' := 39) (lv' := [(2, .int (W (22 + p))), (0, .ref mb), (1, .int (nI p))]) (st' := [.int (nI p), .ref mb]) rfl ?_
        refine mw_cV1v X kd_X5_closeNow kv_X5_closeNow kl_X5_104 (ci := 5) rfl rfl (Nat.le_of_ble_eq_true rfl) ⟨Nat.le_of_ble_eq_true rfl, Nat.le_of_ble_eq_true rfl⟩ ⟨Nat.le_of_ble_eq_true rfl, Nat.le_of_ble_eq_true rfl⟩ (fun _ h => h) (fun H h => ⟨⟨_, h.1⟩, cm_close hmb h hv hp⟩) ?_
        refine mw_steps X 1 (pc' := 43) (lv' := [(2, .int (W (22 + p))), (0, .ref mb), (1, .int (nI p))]) (st' := [.int (W (22 + p))]) rfl ?_
        have hop : op_close W (nI p) = (W (22 + p), mo_close W p) := by unfold op_close; rw [if_pos (mo_bl_n hp (by omega)), ml_n (by omega), if_neg (by rintro (q | q); exact c21 q; exact c31 q)]
        exact mw_iret X rfl rfl (fun H h => ⟨by rw [hop], by rw [hop]; exact h⟩)
      · refine mw_ldc X kk_X5_168 rfl ?_
        have hop : op_close W (nI p) = ((-1000000003), W) := by unfold op_close; rw [if_pos (mo_bl_n hp (by omega)), ml_n (by omega), if_pos (by first | exact Or.inl c21 | exact Or.inr c31)]
        exact mw_iret X rfl rfl (fun H h => ⟨by rw [hop], by rw [hop]; exact h⟩)
  · refine mw_ldc X kk_X5_147 rfl ?_
    have hop : op_close W x = ((-1000000001), W) := by unfold op_close; rw [if_neg (by rw [mo_b_z c4]; decide)]
    exact mw_iret X rfl rfl (fun H h => ⟨by rw [hop], by rw [hop]; exact h⟩)
set_option maxHeartbeats 4000000 in
set_option maxRecDepth 20000 in
theorem cm_again {l : Launch} {Γ : mw_C} {mb : Nat} (hmb : Γ.2.2.2 ≤ mb) {W : Nat → Int32} {ρ : md_R} {H : Heap} {c : Nat} {x : Int32} (hH : md_I Γ mb W ρ H) (hv : iv c W) : mw_Cr l Γ mX5_again 4 0 0 (md_A mb) [.ref mb, .int x] H (some (.int (op_again W x).1)) (md_I Γ mb (op_again W x).2 ρ) := by
  refine mw_ofG (P := pX5_again) (by decide) (md_As hmb) oX5_again (Nat.le_of_ble_eq_true rfl) ?_
  intro pg e0 sg mg below meth cd X hs
  refine mw_pre (I' := md_I Γ mb W ρ) (fun H1 h1 => by rw [h1]; exact hH) ?_
  refine mw_steps X 1 (pc' := 1) (lv' := [(0, .ref mb), (1, .int x)]) (st' := [.int x]) rfl ?_
  refine mw_cS1r X kd_X5_isEnd ks_X5_isEnd kl_X5_144 rfl (Nat.le_of_ble_eq_true rfl) ⟨Nat.le_of_ble_eq_true rfl, Nat.le_of_ble_eq_true rfl⟩ ⟨Nat.le_of_ble_eq_true rfl, Nat.le_of_ble_eq_true rfl⟩ (fun _ h => h) (fun H h => cm_isEnd hmb h) ?_
  refine mw_if_ne X 10 rfl rfl (fun c4 => ?_) (fun c4 => ?_)
  · obtain ⟨e, he, rfl⟩ := mo_bl_t (mo_b_nz c4) (by omega)
    obtain ⟨-, -, ⟨cu, hcu5, hcu⟩, -⟩ := hv.2.2.2.2.2.2.2.1 e he
    refine mw_steps X 1 (pc' := 11) (lv' := [(0, .ref mb), (1, .int (nI e))]) (st' := [.ref mb]) rfl ?_
    refine mw_get X kf_X5_7.fl kc_5 rfl (v := .ref (mb + 1)) (fun H h => ⟨_, h.1, rfl⟩) ?_
    refine mw_steps X 3 (pc' := 18) (lv' := [(0, .ref mb), (1, .int (nI e))]) (st' := [.int ((nI 20) + (nI e)), .ref (mb + 1)]) rfl ?_
    refine mw_iald X (v := W (20 + e)) (20 + e) (by simp only [nI_add, pk_mul]) rfl (fun H h => ⟨_, _, h.2.1, by omega, by decide, rfl⟩) ?_
    refine mw_steps X 3 (pc' := 22) (lv' := [(2, .int (W (20 + e))), (0, .ref mb), (1, .int (nI e))]) (st' := [.ref mb, .int (W (20 + e))]) rfl ?_
    refine mw_get X kf_X5_7.fl kc_5 rfl (v := .ref (mb + 1)) (fun H h => ⟨_, h.1, rfl⟩) ?_
    refine mw_steps X 3 (pc' := 29) (lv' := [(2, .int (W (20 + e))), (0, .ref mb), (1, .int (nI e))]) (st' := [.int ((nI 18) + (nI e)), .ref (mb + 1), .int (W (20 + e))]) rfl ?_
    refine mw_iald X (v := W (18 + e)) (18 + e) (by simp only [nI_add, pk_mul]) rfl (fun H h => ⟨_, _, h.2.1, by omega, by decide, rfl⟩) ?_
    refine mw_icmp_lt X 36 rfl rfl (fun c30 => ?_) (fun c30 => ?_)
    · refine mw_steps X 3 (pc' := 39) (lv' := [(2, .int (W (20 + e))), (0, .ref mb), (1, .int (nI e))]) (st' := [.ref mb, .int (nI e), .ref mb]) rfl ?_
      refine mw_get X kf_X5_7.fl kc_5 rfl (v := .ref (mb + 1)) (fun H h => ⟨_, h.1, rfl⟩) ?_
      refine mw_steps X 3 (pc' := 45) (lv' := [(2, .int (W (20 + e))), (0, .ref mb), (1, .int (nI e))]) (st' := [.int ((nI 2) + (nI e)), .ref (mb + 1), .int (nI e), .ref mb]) rfl ?_
      refine mw_iald X (v := nI cu) (2 + e) (by simp only [nI_add, pk_mul]) rfl (fun H h => ⟨_, _, h.2.1, by omega, by decide, hcu⟩) ?_
      refine mw_steps X 2 (pc' := 48) (lv' := [(2, .int (W (20 + e))), (0, .ref mb), (1, .int (nI e))]) (st' := [.int (W (20 + e)), .int (nI 0), .int (nI cu), .int (nI e), .ref mb]) rfl ?_
      refine mw_cV4v X kd_X5_goes kv_X5_goes kl_X5_47 (ci := 5) rfl rfl (Nat.le_of_ble_eq_true rfl) ⟨Nat.le_of_ble_eq_true rfl, Nat.le_of_ble_eq_true rfl⟩ ⟨Nat.le_of_ble_eq_true rfl, Nat.le_of_ble_eq_true rfl⟩ (fun _ h => h) (fun H h => ⟨⟨_, h.1⟩, cm_goes hmb h (k := 0) hv.1 he hcu5 (by omega)⟩) ?_
      refine mw_steps X 1 (pc' := 52) (lv' := [(2, .int (W (20 + e))), (0, .ref mb), (1, .int (nI e))]) (st' := [.int (W (20 + e))]) rfl ?_
      have hop : op_again W (nI e) = (W (20 + e), mo_goes W e cu 0 (W (20 + e))) := by unfold op_again; rw [if_pos (mo_bl_n he (by omega)), ml_n (by omega), if_pos c30, hcu, ml_n (by omega)]
      exact mw_iret X rfl rfl (fun H h => ⟨by rw [hop], by rw [hop]; exact h⟩)
    · refine mw_ldc X kk_X5_168 rfl ?_
      have hop : op_again W (nI e) = ((-1000000003), W) := by unfold op_again; rw [if_pos (mo_bl_n he (by omega)), ml_n (by omega), if_neg c30]
      exact mw_iret X rfl rfl (fun H h => ⟨by rw [hop], by rw [hop]; exact h⟩)
  · refine mw_ldc X kk_X5_147 rfl ?_
    have hop : op_again W x = ((-1000000001), W) := by unfold op_again; rw [if_neg (by rw [mo_b_z c4]; decide)]
    exact mw_iret X rfl rfl (fun H h => ⟨by rw [hop], by rw [hop]; exact h⟩)
set_option maxHeartbeats 4000000 in
set_option maxRecDepth 20000 in
theorem cm_tick {l : Launch} {Γ : mw_C} {mb : Nat} (hmb : Γ.2.2.2 ≤ mb) {W : Nat → Int32} {ρ : md_R} {H : Heap} {c : Nat} (hH : md_I Γ mb W ρ H) (hv : iv (c + 12) W) : mw_Cr l Γ mX5_tick 9 0 0 (md_A mb) [.ref mb] H (some (.int (mo_tick W 13))) (md_I Γ mb (mo_tick W) ρ) := by
  refine mw_ofG (P := pX5_tick) (by decide) (md_As hmb) oX5_tick (Nat.le_of_ble_eq_true rfl) ?_
  intro pg e0 sg mg below meth cd X hs
  refine mw_pre (I' := md_I Γ mb W ρ) (fun H1 h1 => by rw [h1]; exact hH) ?_
  refine mw_steps X 1 (pc' := 1) (lv' := [(0, .ref mb)]) (st' := [.ref mb]) rfl ?_
  refine mw_cV0r X kd_X5_tickNow kv_X5_tickNow kl_X5_189 (ci := 5) rfl rfl (Nat.le_of_ble_eq_true rfl) ⟨Nat.le_of_ble_eq_true rfl, Nat.le_of_ble_eq_true rfl⟩ ⟨Nat.le_of_ble_eq_true rfl, Nat.le_of_ble_eq_true rfl⟩ (fun _ h => h) (fun H h => ⟨⟨_, h.1⟩, cm_tickNow hmb h hv⟩) ?_
  exact mw_iret X rfl rfl (fun H h => ⟨rfl, h⟩)
end
section
set_option maxHeartbeats 4000000 in
set_option maxRecDepth 20000 in
theorem cm_arrNow0 {l : Launch} {Γ : mw_C} {mb : Nat} (hmb : Γ.2.2.2 ≤ mb) {W : Nat → Int32} {ρ : md_R} {H : Heap} {k c : Nat} (hH : md_I Γ mb W ρ H) (hv : iv (c + 25) W) (hk : k < mo_n (W 11)) (he : W (327 + 6 * k) = nI 0) : mw_Cr l Γ mX5_arriveNow 8 0 0 (md_A mb) [.ref mb, .int (nI k)] H (some (.int (nI (mo_why W k)))) (md_I Γ mb (mo_arr W k) ρ) := by
  obtain ⟨e1, p, y, kd, a1, a2, a3, a4, a5, a6, a7, a8, a9⟩ := hv.2.2.1 k hk
  have he1 : e1 = 0 := (nI_eq (by omega) (by omega)).mp (a5.symm.trans he)
  subst he1
  have hn := ml_i11 hv.1
  have hn2 := ml_n24 hv.1
  have hir := iv_rmr hv hk
  refine mw_ofG (P := pX5_arriveNow) (by decide) (md_As hmb) oX5_arriveNow (Nat.le_of_ble_eq_true rfl) ?_
  intro pg e0 sg mg below meth cd X hs
  refine mw_pre (I' := md_I Γ mb W ρ) (fun H1 h1 => by rw [h1]; exact hH) ?_
  refine mw_steps X 7 (pc' := 10) (lv' := [(2, .int ((nI 327) + ((nI 6) * (nI k)))), (0, .ref mb), (1, .int (nI k))]) (st' := [.ref mb]) rfl ?_
  refine mw_get X kf_X5_7.fl kc_5 rfl (v := .ref (mb + 1)) (fun H h => ⟨_, h.1, rfl⟩) ?_
  refine mw_steps X 1 (pc' := 14) (lv' := [(2, .int ((nI 327) + ((nI 6) * (nI k)))), (0, .ref mb), (1, .int (nI k))]) (st' := [.int ((nI 327) + ((nI 6) * (nI k))), .ref (mb + 1)]) rfl ?_
  refine mw_iald X (v := nI 0) (327 + 6 * k) (by simp only [nI_add, pk_mul]) rfl (fun H h => ⟨_, _, h.2.1, by omega, by decide, he⟩) ?_
  refine mw_steps X 2 (pc' := 17) (lv' := [(3, .int (nI 0)), (2, .int ((nI 327) + ((nI 6) * (nI k)))), (0, .ref mb), (1, .int (nI k))]) (st' := [.ref mb]) rfl ?_
  refine mw_get X kf_X5_7.fl kc_5 rfl (v := .ref (mb + 1)) (fun H h => ⟨_, h.1, rfl⟩) ?_
  refine mw_steps X 3 (pc' := 23) (lv' := [(3, .int (nI 0)), (2, .int ((nI 327) + ((nI 6) * (nI k)))), (0, .ref mb), (1, .int (nI k))]) (st' := [.int (((nI 327) + ((nI 6) * (nI k))) + (nI 1)), .ref (mb + 1)]) rfl ?_
  refine mw_iald X (v := nI p) (327 + 6 * k + 1) (by simp only [nI_add, pk_mul]) rfl (fun H h => ⟨_, _, h.2.1, by omega, by decide, a6⟩) ?_
  refine mw_steps X 2 (pc' := 27) (lv' := [(4, .int (nI p)), (3, .int (nI 0)), (2, .int ((nI 327) + ((nI 6) * (nI k)))), (0, .ref mb), (1, .int (nI k))]) (st' := [.ref mb]) rfl ?_
  refine mw_get X kf_X5_7.fl kc_5 rfl (v := .ref (mb + 1)) (fun H h => ⟨_, h.1, rfl⟩) ?_
  refine mw_steps X 3 (pc' := 33) (lv' := [(4, .int (nI p)), (3, .int (nI 0)), (2, .int ((nI 327) + ((nI 6) * (nI k)))), (0, .ref mb), (1, .int (nI k))]) (st' := [.int (((nI 327) + ((nI 6) * (nI k))) + (nI 2)), .ref (mb + 1)]) rfl ?_
  refine mw_iald X (v := W (327 + 6 * k + 2)) (327 + 6 * k + 2) (by simp only [nI_add, pk_mul]) rfl (fun H h => ⟨_, _, h.2.1, by omega, by decide, rfl⟩) ?_
  refine mw_steps X 2 (pc' := 37) (lv' := [(5, .int (W (327 + 6 * k + 2))), (4, .int (nI p)), (3, .int (nI 0)), (2, .int ((nI 327) + ((nI 6) * (nI k)))), (0, .ref mb), (1, .int (nI k))]) (st' := [.ref mb]) rfl ?_
  refine mw_get X kf_X5_7.fl kc_5 rfl (v := .ref (mb + 1)) (fun H h => ⟨_, h.1, rfl⟩) ?_
  refine mw_steps X 3 (pc' := 43) (lv' := [(5, .int (W (327 + 6 * k + 2))), (4, .int (nI p)), (3, .int (nI 0)), (2, .int ((nI 327) + ((nI 6) * (nI k)))), (0, .ref mb), (1, .int (nI k))]) (st' := [.int (((nI 327) + ((nI 6) * (nI k))) + (nI 3)), .ref (mb + 1)]) rfl ?_
  refine mw_iald X (v := nI y) (327 + 6 * k + 3) (by simp only [nI_add, pk_mul]) rfl (fun H h => ⟨_, _, h.2.1, by omega, by decide, a7⟩) ?_
  refine mw_steps X 2 (pc' := 47) (lv' := [(6, .int (nI y)), (5, .int (W (327 + 6 * k + 2))), (4, .int (nI p)), (3, .int (nI 0)), (2, .int ((nI 327) + ((nI 6) * (nI k)))), (0, .ref mb), (1, .int (nI k))]) (st' := [.ref mb]) rfl ?_
  refine mw_get X kf_X5_7.fl kc_5 rfl (v := .ref (mb + 1)) (fun H h => ⟨_, h.1, rfl⟩) ?_
  refine mw_steps X 3 (pc' := 53) (lv' := [(6, .int (nI y)), (5, .int (W (327 + 6 * k + 2))), (4, .int (nI p)), (3, .int (nI 0)), (2, .int ((nI 327) + ((nI 6) * (nI k)))), (0, .ref mb), (1, .int (nI k))]) (st' := [.int (((nI 327) + ((nI 6) * (nI k))) + (nI 4)), .ref (mb + 1)]) rfl ?_
  refine mw_iald X (v := nI kd) (327 + 6 * k + 4) (by simp only [nI_add, pk_mul]) rfl (fun H h => ⟨_, _, h.2.1, by omega, by decide, a8⟩) ?_
  refine mw_steps X 2 (pc' := 57) (lv' := [(7, .int (nI kd)), (6, .int (nI y)), (5, .int (W (327 + 6 * k + 2))), (4, .int (nI p)), (3, .int (nI 0)), (2, .int ((nI 327) + ((nI 6) * (nI k)))), (0, .ref mb), (1, .int (nI k))]) (st' := [.ref mb]) rfl ?_
  refine mw_get X kf_X5_7.fl kc_5 rfl (v := .ref (mb + 1)) (fun H h => ⟨_, h.1, rfl⟩) ?_
  refine mw_steps X 3 (pc' := 63) (lv' := [(7, .int (nI kd)), (6, .int (nI y)), (5, .int (W (327 + 6 * k + 2))), (4, .int (nI p)), (3, .int (nI 0)), (2, .int ((nI 327) + ((nI 6) * (nI k)))), (0, .ref mb), (1, .int (nI k))]) (st' := [.int (((nI 327) + ((nI 6) * (nI k))) + (nI 5)), .ref (mb + 1)]) rfl ?_
  refine mw_iald X (v := W (327 + 6 * k + 5)) (327 + 6 * k + 5) (by simp only [nI_add, pk_mul]) rfl (fun H h => ⟨_, _, h.2.1, by omega, by decide, rfl⟩) ?_
  refine mw_steps X 6 (pc' := 75) (lv' := [(8, .int (W (327 + 6 * k + 5))), (7, .int (nI kd)), (6, .int (nI y)), (5, .int (W (327 + 6 * k + 2))), (4, .int (nI p)), (3, .int (nI 0)), (2, .int ((nI 327) + ((nI 6) * (nI k)))), (0, .ref mb), (1, .int (nI k))]) (st' := [.int (nI k), .int (nI 11), .int (nI 6), .int (nI 327), .ref mb]) rfl ?_
  refine mw_cV4v X kd_X5_removeAt kv_X5_removeAt kl_X5_29 (ci := 5) rfl rfl (Nat.le_of_ble_eq_true rfl) ⟨Nat.le_of_ble_eq_true rfl, Nat.le_of_ble_eq_true rfl⟩ ⟨Nat.le_of_ble_eq_true rfl, Nat.le_of_ble_eq_true rfl⟩ (fun _ h => h) (fun H h => ⟨⟨_, h.1⟩, cm_removeAt hmb h (f := 327) (z := 6) (q := 11) hn (by omega) (by omega) (by omega) (by omega) (by omega)⟩) ?_
  refine mw_steps X 1 (pc' := 79) (lv' := [(8, .int (W (327 + 6 * k + 5))), (7, .int (nI kd)), (6, .int (nI y)), (5, .int (W (327 + 6 * k + 2))), (4, .int (nI p)), (3, .int (nI 0)), (2, .int ((nI 327) + ((nI 6) * (nI k)))), (0, .ref mb), (1, .int (nI k))]) (st' := [.int (nI 0)]) rfl ?_
  refine mw_if_ne X 99 rfl rfl (fun c79 => absurd (by decide) c79) (fun c79 => ?_)
  refine mw_steps X 6 (pc' := 93) (lv' := [(8, .int (W (327 + 6 * k + 5))), (7, .int (nI kd)), (6, .int (nI y)), (5, .int (W (327 + 6 * k + 2))), (4, .int (nI p)), (3, .int (nI 0)), (2, .int ((nI 327) + ((nI 6) * (nI k)))), (0, .ref mb), (1, .int (nI k))]) (st' := [.int (W (327 + 6 * k + 5)), .int (nI kd), .int (nI y), .int (W (327 + 6 * k + 2)), .int (nI p), .ref mb]) rfl ?_
  refine mw_cV5r X kd_X5_takenByHouse kv_X5_takenByHouse kl_X5_169 (ci := 5) rfl rfl (Nat.le_of_ble_eq_true rfl) ⟨Nat.le_of_ble_eq_true rfl, Nat.le_of_ble_eq_true rfl⟩ ⟨Nat.le_of_ble_eq_true rfl, Nat.le_of_ble_eq_true rfl⟩ (fun _ h => h) (fun H h => ⟨⟨_, h.1⟩, cm_house hmb h (c := c) hir a2 a3 a4 a9⟩) ?_
  obtain ⟨wy, hwy⟩ : ∃ wy, wy = mo_houseWhy (mo_rm W 327 6 11 k) (W (327 + 6 * k + 2)) y := ⟨_, rfl⟩
  obtain ⟨V, hV⟩ : ∃ V, V = mo_house (mo_rm W 327 6 11 k) p (W (327 + 6 * k + 2)) y kd (W (327 + 6 * k + 5)) := ⟨_, rfl⟩
  rw [← hwy, ← hV]
  have hw3 : wy ≤ 3 := by rw [hwy]; exact ml_hw3 _ _ _
  have hw1 : wy = mo_why W k := by rw [ml_why_h he a6 a7 a2 a3]; exact hwy
  have hV1 : V = mo_taken W k := by rw [ml_taken_h he a6 a7 a8 a2 a3 a4]; exact hV
  refine mw_steps X 3 (pc' := 114) (lv' := [(9, .int (nI wy)), (8, .int (W (327 + 6 * k + 5))), (7, .int (nI kd)), (6, .int (nI y)), (5, .int (W (327 + 6 * k + 2))), (4, .int (nI p)), (3, .int (nI 0)), (2, .int ((nI 327) + ((nI 6) * (nI k)))), (0, .ref mb), (1, .int (nI k))]) (st' := [.ref mb]) rfl ?_
  refine mw_get X kf_X5_7.fl kc_5 rfl (v := .ref (mb + 1)) (fun H h => ⟨_, h.1, rfl⟩) ?_
  refine mw_steps X 4 (pc' := 123) (lv' := [(9, .int (nI wy)), (8, .int (W (327 + 6 * k + 5))), (7, .int (nI kd)), (6, .int (nI y)), (5, .int (W (327 + 6 * k + 2))), (4, .int (nI p)), (3, .int (nI 0)), (2, .int ((nI 327) + ((nI 6) * (nI k)))), (0, .ref mb), (1, .int (nI k))]) (st' := [.int ((nI 6) + (nI wy)), .ref (mb + 1), .int ((nI 6) + (nI wy)), .ref (mb + 1)]) rfl ?_
  refine mw_iald X (v := V (6 + wy)) (6 + wy) (by simp only [nI_add, pk_mul]) rfl (fun H h => ⟨_, _, h.2.1, by omega, by decide, rfl⟩) ?_
  refine mw_steps X 1 (pc' := 126) (lv' := [(9, .int (nI wy)), (8, .int (W (327 + 6 * k + 5))), (7, .int (nI kd)), (6, .int (nI y)), (5, .int (W (327 + 6 * k + 2))), (4, .int (nI p)), (3, .int (nI 0)), (2, .int ((nI 327) + ((nI 6) * (nI k)))), (0, .ref mb), (1, .int (nI k))]) (st' := [.int (nI wy), .int (V (6 + wy)), .int ((nI 6) + (nI wy)), .ref (mb + 1)]) rfl ?_
  refine mw_if_le X 133 rfl rfl (fun c126 => ?_) (fun c126 => ?_)
  · have hw0 : wy = 0 := by rw [← nI_0, nI_leI (by omega) (by omega)] at c126; omega
    refine mw_steps X 2 (pc' := 135) (lv' := [(9, .int (nI wy)), (8, .int (W (327 + 6 * k + 5))), (7, .int (nI kd)), (6, .int (nI y)), (5, .int (W (327 + 6 * k + 2))), (4, .int (nI p)), (3, .int (nI 0)), (2, .int ((nI 327) + ((nI 6) * (nI k)))), (0, .ref mb), (1, .int (nI k))]) (st' := [.int ((V (6 + wy)) + (nI 0)), .int ((nI 6) + (nI wy)), .ref (mb + 1)]) rfl ?_
    refine mw_iast X (I1 := md_I Γ mb (upd V (6 + wy) ((V (6 + wy)) + (nI 0))) ρ) (6 + wy) (by simp only [nI_add, pk_mul]) rfl (fun H h => ⟨md_A1, _, _, h.2.1, by omega, by decide, fun H1 o c => h.stw o c⟩) ?_
    refine mw_steps X 1 (pc' := 138) (lv' := [(9, .int (nI wy)), (8, .int (W (327 + 6 * k + 5))), (7, .int (nI kd)), (6, .int (nI y)), (5, .int (W (327 + 6 * k + 2))), (4, .int (nI p)), (3, .int (nI 0)), (2, .int ((nI 327) + ((nI 6) * (nI k)))), (0, .ref mb), (1, .int (nI k))]) (st' := [.int (nI wy)]) rfl ?_
    exact mw_iret X rfl rfl (fun H h => ⟨by rw [← hw1], by rw [ml_arr hw1 hV1 (nI 0) (by first | exact Or.inl ⟨hw0, rfl⟩ | exact Or.inr ⟨hw0, rfl⟩)]; exact h⟩)
  · have hw0 : ¬ wy = 0 := by rw [← nI_0, nI_leI (by omega) (by omega)] at c126; omega
    refine mw_steps X 3 (pc' := 135) (lv' := [(9, .int (nI wy)), (8, .int (W (327 + 6 * k + 5))), (7, .int (nI kd)), (6, .int (nI y)), (5, .int (W (327 + 6 * k + 2))), (4, .int (nI p)), (3, .int (nI 0)), (2, .int ((nI 327) + ((nI 6) * (nI k)))), (0, .ref mb), (1, .int (nI k))]) (st' := [.int ((V (6 + wy)) + (nI 1)), .int ((nI 6) + (nI wy)), .ref (mb + 1)]) rfl ?_
    refine mw_iast X (I1 := md_I Γ mb (upd V (6 + wy) ((V (6 + wy)) + (nI 1))) ρ) (6 + wy) (by simp only [nI_add, pk_mul]) rfl (fun H h => ⟨md_A1, _, _, h.2.1, by omega, by decide, fun H1 o c => h.stw o c⟩) ?_
    refine mw_steps X 1 (pc' := 138) (lv' := [(9, .int (nI wy)), (8, .int (W (327 + 6 * k + 5))), (7, .int (nI kd)), (6, .int (nI y)), (5, .int (W (327 + 6 * k + 2))), (4, .int (nI p)), (3, .int (nI 0)), (2, .int ((nI 327) + ((nI 6) * (nI k)))), (0, .ref mb), (1, .int (nI k))]) (st' := [.int (nI wy)]) rfl ?_
    exact mw_iret X rfl rfl (fun H h => ⟨by rw [← hw1], by rw [ml_arr hw1 hV1 (nI 1) (by first | exact Or.inl ⟨hw0, rfl⟩ | exact Or.inr ⟨hw0, rfl⟩)]; exact h⟩)
set_option maxHeartbeats 4000000 in
set_option maxRecDepth 20000 in
theorem cm_arrNow1 {l : Launch} {Γ : mw_C} {mb : Nat} (hmb : Γ.2.2.2 ≤ mb) {W : Nat → Int32} {ρ : md_R} {H : Heap} {k c : Nat} (hH : md_I Γ mb W ρ H) (hv : iv (c + 25) W) (hk : k < mo_n (W 11)) (he : W (327 + 6 * k) = nI 1) : mw_Cr l Γ mX5_arriveNow 8 0 0 (md_A mb) [.ref mb, .int (nI k)] H (some (.int (nI (mo_why W k)))) (md_I Γ mb (mo_arr W k) ρ) := by
  obtain ⟨e1, p, y, kd, a1, a2, a3, a4, a5, a6, a7, a8, a9⟩ := hv.2.2.1 k hk
  have he1 : e1 = 1 := (nI_eq (by omega) (by omega)).mp (a5.symm.trans he)
  subst he1
  have hn := ml_i11 hv.1
  have hn2 := ml_n24 hv.1
  have hir := iv_rmr hv hk
  refine mw_ofG (P := pX5_arriveNow) (by decide) (md_As hmb) oX5_arriveNow (Nat.le_of_ble_eq_true rfl) ?_
  intro pg e0 sg mg below meth cd X hs
  refine mw_pre (I' := md_I Γ mb W ρ) (fun H1 h1 => by rw [h1]; exact hH) ?_
  refine mw_steps X 7 (pc' := 10) (lv' := [(2, .int ((nI 327) + ((nI 6) * (nI k)))), (0, .ref mb), (1, .int (nI k))]) (st' := [.ref mb]) rfl ?_
  refine mw_get X kf_X5_7.fl kc_5 rfl (v := .ref (mb + 1)) (fun H h => ⟨_, h.1, rfl⟩) ?_
  refine mw_steps X 1 (pc' := 14) (lv' := [(2, .int ((nI 327) + ((nI 6) * (nI k)))), (0, .ref mb), (1, .int (nI k))]) (st' := [.int ((nI 327) + ((nI 6) * (nI k))), .ref (mb + 1)]) rfl ?_
  refine mw_iald X (v := nI 1) (327 + 6 * k) (by simp only [nI_add, pk_mul]) rfl (fun H h => ⟨_, _, h.2.1, by omega, by decide, he⟩) ?_
  refine mw_steps X 2 (pc' := 17) (lv' := [(3, .int (nI 1)), (2, .int ((nI 327) + ((nI 6) * (nI k)))), (0, .ref mb), (1, .int (nI k))]) (st' := [.ref mb]) rfl ?_
  refine mw_get X kf_X5_7.fl kc_5 rfl (v := .ref (mb + 1)) (fun H h => ⟨_, h.1, rfl⟩) ?_
  refine mw_steps X 3 (pc' := 23) (lv' := [(3, .int (nI 1)), (2, .int ((nI 327) + ((nI 6) * (nI k)))), (0, .ref mb), (1, .int (nI k))]) (st' := [.int (((nI 327) + ((nI 6) * (nI k))) + (nI 1)), .ref (mb + 1)]) rfl ?_
  refine mw_iald X (v := nI p) (327 + 6 * k + 1) (by simp only [nI_add, pk_mul]) rfl (fun H h => ⟨_, _, h.2.1, by omega, by decide, a6⟩) ?_
  refine mw_steps X 2 (pc' := 27) (lv' := [(4, .int (nI p)), (3, .int (nI 1)), (2, .int ((nI 327) + ((nI 6) * (nI k)))), (0, .ref mb), (1, .int (nI k))]) (st' := [.ref mb]) rfl ?_
  refine mw_get X kf_X5_7.fl kc_5 rfl (v := .ref (mb + 1)) (fun H h => ⟨_, h.1, rfl⟩) ?_
  refine mw_steps X 3 (pc' := 33) (lv' := [(4, .int (nI p)), (3, .int (nI 1)), (2, .int ((nI 327) + ((nI 6) * (nI k)))), (0, .ref mb), (1, .int (nI k))]) (st' := [.int (((nI 327) + ((nI 6) * (nI k))) + (nI 2)), .ref (mb + 1)]) rfl ?_
  refine mw_iald X (v := W (327 + 6 * k + 2)) (327 + 6 * k + 2) (by simp only [nI_add, pk_mul]) rfl (fun H h => ⟨_, _, h.2.1, by omega, by decide, rfl⟩) ?_
  refine mw_steps X 2 (pc' := 37) (lv' := [(5, .int (W (327 + 6 * k + 2))), (4, .int (nI p)), (3, .int (nI 1)), (2, .int ((nI 327) + ((nI 6) * (nI k)))), (0, .ref mb), (1, .int (nI k))]) (st' := [.ref mb]) rfl ?_
  refine mw_get X kf_X5_7.fl kc_5 rfl (v := .ref (mb + 1)) (fun H h => ⟨_, h.1, rfl⟩) ?_
  refine mw_steps X 3 (pc' := 43) (lv' := [(5, .int (W (327 + 6 * k + 2))), (4, .int (nI p)), (3, .int (nI 1)), (2, .int ((nI 327) + ((nI 6) * (nI k)))), (0, .ref mb), (1, .int (nI k))]) (st' := [.int (((nI 327) + ((nI 6) * (nI k))) + (nI 3)), .ref (mb + 1)]) rfl ?_
  refine mw_iald X (v := nI y) (327 + 6 * k + 3) (by simp only [nI_add, pk_mul]) rfl (fun H h => ⟨_, _, h.2.1, by omega, by decide, a7⟩) ?_
  refine mw_steps X 2 (pc' := 47) (lv' := [(6, .int (nI y)), (5, .int (W (327 + 6 * k + 2))), (4, .int (nI p)), (3, .int (nI 1)), (2, .int ((nI 327) + ((nI 6) * (nI k)))), (0, .ref mb), (1, .int (nI k))]) (st' := [.ref mb]) rfl ?_
  refine mw_get X kf_X5_7.fl kc_5 rfl (v := .ref (mb + 1)) (fun H h => ⟨_, h.1, rfl⟩) ?_
  refine mw_steps X 3 (pc' := 53) (lv' := [(6, .int (nI y)), (5, .int (W (327 + 6 * k + 2))), (4, .int (nI p)), (3, .int (nI 1)), (2, .int ((nI 327) + ((nI 6) * (nI k)))), (0, .ref mb), (1, .int (nI k))]) (st' := [.int (((nI 327) + ((nI 6) * (nI k))) + (nI 4)), .ref (mb + 1)]) rfl ?_
  refine mw_iald X (v := nI kd) (327 + 6 * k + 4) (by simp only [nI_add, pk_mul]) rfl (fun H h => ⟨_, _, h.2.1, by omega, by decide, a8⟩) ?_
  refine mw_steps X 2 (pc' := 57) (lv' := [(7, .int (nI kd)), (6, .int (nI y)), (5, .int (W (327 + 6 * k + 2))), (4, .int (nI p)), (3, .int (nI 1)), (2, .int ((nI 327) + ((nI 6) * (nI k)))), (0, .ref mb), (1, .int (nI k))]) (st' := [.ref mb]) rfl ?_
  refine mw_get X kf_X5_7.fl kc_5 rfl (v := .ref (mb + 1)) (fun H h => ⟨_, h.1, rfl⟩) ?_
  refine mw_steps X 3 (pc' := 63) (lv' := [(7, .int (nI kd)), (6, .int (nI y)), (5, .int (W (327 + 6 * k + 2))), (4, .int (nI p)), (3, .int (nI 1)), (2, .int ((nI 327) + ((nI 6) * (nI k)))), (0, .ref mb), (1, .int (nI k))]) (st' := [.int (((nI 327) + ((nI 6) * (nI k))) + (nI 5)), .ref (mb + 1)]) rfl ?_
  refine mw_iald X (v := W (327 + 6 * k + 5)) (327 + 6 * k + 5) (by simp only [nI_add, pk_mul]) rfl (fun H h => ⟨_, _, h.2.1, by omega, by decide, rfl⟩) ?_
  refine mw_steps X 6 (pc' := 75) (lv' := [(8, .int (W (327 + 6 * k + 5))), (7, .int (nI kd)), (6, .int (nI y)), (5, .int (W (327 + 6 * k + 2))), (4, .int (nI p)), (3, .int (nI 1)), (2, .int ((nI 327) + ((nI 6) * (nI k)))), (0, .ref mb), (1, .int (nI k))]) (st' := [.int (nI k), .int (nI 11), .int (nI 6), .int (nI 327), .ref mb]) rfl ?_
  refine mw_cV4v X kd_X5_removeAt kv_X5_removeAt kl_X5_29 (ci := 5) rfl rfl (Nat.le_of_ble_eq_true rfl) ⟨Nat.le_of_ble_eq_true rfl, Nat.le_of_ble_eq_true rfl⟩ ⟨Nat.le_of_ble_eq_true rfl, Nat.le_of_ble_eq_true rfl⟩ (fun _ h => h) (fun H h => ⟨⟨_, h.1⟩, cm_removeAt hmb h (f := 327) (z := 6) (q := 11) hn (by omega) (by omega) (by omega) (by omega) (by omega)⟩) ?_
  refine mw_steps X 1 (pc' := 79) (lv' := [(8, .int (W (327 + 6 * k + 5))), (7, .int (nI kd)), (6, .int (nI y)), (5, .int (W (327 + 6 * k + 2))), (4, .int (nI p)), (3, .int (nI 1)), (2, .int ((nI 327) + ((nI 6) * (nI k)))), (0, .ref mb), (1, .int (nI k))]) (st' := [.int (nI 1)]) rfl ?_
  refine mw_if_ne X 99 rfl rfl (fun c79 => ?_) (fun c79 => absurd c79 (by decide))
  refine mw_steps X 5 (pc' := 108) (lv' := [(8, .int (W (327 + 6 * k + 5))), (7, .int (nI kd)), (6, .int (nI y)), (5, .int (W (327 + 6 * k + 2))), (4, .int (nI p)), (3, .int (nI 1)), (2, .int ((nI 327) + ((nI 6) * (nI k)))), (0, .ref mb), (1, .int (nI k))]) (st' := [.int (W (327 + 6 * k + 5)), .int (nI kd), .int (nI y), .int (nI p), .ref mb]) rfl ?_
  refine mw_cV4r X kd_X5_takenByGuest kv_X5_takenByGuest kl_X5_173 (ci := 5) rfl rfl (Nat.le_of_ble_eq_true rfl) ⟨Nat.le_of_ble_eq_true rfl, Nat.le_of_ble_eq_true rfl⟩ ⟨Nat.le_of_ble_eq_true rfl, Nat.le_of_ble_eq_true rfl⟩ (fun _ h => h) (fun H h => ⟨⟨_, h.1⟩, cm_guest hmb h (c := c + 24) hir a2 a3 a4 a9⟩) ?_
  obtain ⟨wy, hwy⟩ : ∃ wy, wy = mo_guestWhy (mo_rm W 327 6 11 k) p y := ⟨_, rfl⟩
  obtain ⟨V, hV⟩ : ∃ V, V = mo_guest (mo_rm W 327 6 11 k) p y kd (W (327 + 6 * k + 5)) := ⟨_, rfl⟩
  rw [← hwy, ← hV]
  have hw3 : wy ≤ 3 := by rw [hwy]; exact ml_gw3 _ _ _
  have hw1 : wy = mo_why W k := by rw [ml_why_g he a6 a7 a2 a3]; exact hwy
  have hV1 : V = mo_taken W k := by rw [ml_taken_g he a6 a7 a8 a2 a3 a4]; exact hV
  refine mw_steps X 2 (pc' := 114) (lv' := [(9, .int (nI wy)), (8, .int (W (327 + 6 * k + 5))), (7, .int (nI kd)), (6, .int (nI y)), (5, .int (W (327 + 6 * k + 2))), (4, .int (nI p)), (3, .int (nI 1)), (2, .int ((nI 327) + ((nI 6) * (nI k)))), (0, .ref mb), (1, .int (nI k))]) (st' := [.ref mb]) rfl ?_
  refine mw_get X kf_X5_7.fl kc_5 rfl (v := .ref (mb + 1)) (fun H h => ⟨_, h.1, rfl⟩) ?_
  refine mw_steps X 4 (pc' := 123) (lv' := [(9, .int (nI wy)), (8, .int (W (327 + 6 * k + 5))), (7, .int (nI kd)), (6, .int (nI y)), (5, .int (W (327 + 6 * k + 2))), (4, .int (nI p)), (3, .int (nI 1)), (2, .int ((nI 327) + ((nI 6) * (nI k)))), (0, .ref mb), (1, .int (nI k))]) (st' := [.int ((nI 6) + (nI wy)), .ref (mb + 1), .int ((nI 6) + (nI wy)), .ref (mb + 1)]) rfl ?_
  refine mw_iald X (v := V (6 + wy)) (6 + wy) (by simp only [nI_add, pk_mul]) rfl (fun H h => ⟨_, _, h.2.1, by omega, by decide, rfl⟩) ?_
  refine mw_steps X 1 (pc' := 126) (lv' := [(9, .int (nI wy)), (8, .int (W (327 + 6 * k + 5))), (7, .int (nI kd)), (6, .int (nI y)), (5, .int (W (327 + 6 * k + 2))), (4, .int (nI p)), (3, .int (nI 1)), (2, .int ((nI 327) + ((nI 6) * (nI k)))), (0, .ref mb), (1, .int (nI k))]) (st' := [.int (nI wy), .int (V (6 + wy)), .int ((nI 6) + (nI wy)), .ref (mb + 1)]) rfl ?_
  refine mw_if_le X 133 rfl rfl (fun c126 => ?_) (fun c126 => ?_)
  · have hw0 : wy = 0 := by rw [← nI_0, nI_leI (by omega) (by omega)] at c126; omega
    refine mw_steps X 2 (pc' := 135) (lv' := [(9, .int (nI wy)), (8, .int (W (327 + 6 * k + 5))), (7, .int (nI kd)), (6, .int (nI y)), (5, .int (W (327 + 6 * k + 2))), (4, .int (nI p)), (3, .int (nI 1)), (2, .int ((nI 327) + ((nI 6) * (nI k)))), (0, .ref mb), (1, .int (nI k))]) (st' := [.int ((V (6 + wy)) + (nI 0)), .int ((nI 6) + (nI wy)), .ref (mb + 1)]) rfl ?_
    refine mw_iast X (I1 := md_I Γ mb (upd V (6 + wy) ((V (6 + wy)) + (nI 0))) ρ) (6 + wy) (by simp only [nI_add, pk_mul]) rfl (fun H h => ⟨md_A1, _, _, h.2.1, by omega, by decide, fun H1 o c => h.stw o c⟩) ?_
    refine mw_steps X 1 (pc' := 138) (lv' := [(9, .int (nI wy)), (8, .int (W (327 + 6 * k + 5))), (7, .int (nI kd)), (6, .int (nI y)), (5, .int (W (327 + 6 * k + 2))), (4, .int (nI p)), (3, .int (nI 1)), (2, .int ((nI 327) + ((nI 6) * (nI k)))), (0, .ref mb), (1, .int (nI k))]) (st' := [.int (nI wy)]) rfl ?_
    exact mw_iret X rfl rfl (fun H h => ⟨by rw [← hw1], by rw [ml_arr hw1 hV1 (nI 0) (by first | exact Or.inl ⟨hw0, rfl⟩ | exact Or.inr ⟨hw0, rfl⟩)]; exact h⟩)
  · have hw0 : ¬ wy = 0 := by rw [← nI_0, nI_leI (by omega) (by omega)] at c126; omega
    refine mw_steps X 3 (pc' := 135) (lv' := [(9, .int (nI wy)), (8, .int (W (327 + 6 * k + 5))), (7, .int (nI kd)), (6, .int (nI y)), (5, .int (W (327 + 6 * k + 2))), (4, .int (nI p)), (3, .int (nI 1)), (2, .int ((nI 327) + ((nI 6) * (nI k)))), (0, .ref mb), (1, .int (nI k))]) (st' := [.int ((V (6 + wy)) + (nI 1)), .int ((nI 6) + (nI wy)), .ref (mb + 1)]) rfl ?_
    refine mw_iast X (I1 := md_I Γ mb (upd V (6 + wy) ((V (6 + wy)) + (nI 1))) ρ) (6 + wy) (by simp only [nI_add, pk_mul]) rfl (fun H h => ⟨md_A1, _, _, h.2.1, by omega, by decide, fun H1 o c => h.stw o c⟩) ?_
    refine mw_steps X 1 (pc' := 138) (lv' := [(9, .int (nI wy)), (8, .int (W (327 + 6 * k + 5))), (7, .int (nI kd)), (6, .int (nI y)), (5, .int (W (327 + 6 * k + 2))), (4, .int (nI p)), (3, .int (nI 1)), (2, .int ((nI 327) + ((nI 6) * (nI k)))), (0, .ref mb), (1, .int (nI k))]) (st' := [.int (nI wy)]) rfl ?_
    exact mw_iret X rfl rfl (fun H h => ⟨by rw [← hw1], by rw [ml_arr hw1 hV1 (nI 1) (by first | exact Or.inl ⟨hw0, rfl⟩ | exact Or.inr ⟨hw0, rfl⟩)]; exact h⟩)
set_option maxHeartbeats 4000000 in
set_option maxRecDepth 20000 in
theorem cm_arrive {l : Launch} {Γ : mw_C} {mb : Nat} (hmb : Γ.2.2.2 ≤ mb) {W : Nat → Int32} {ρ : md_R} {H : Heap} {c : Nat} {x : Int32} (hH : md_I Γ mb W ρ H) (hv : iv (c + 25) W) : mw_Cr l Γ mX5_arrive 9 0 0 (md_A mb) [.ref mb, .int x] H (some (.int (op_arrive W x).1)) (md_I Γ mb (op_arrive W x).2 ρ) := by
  have hn2 := ml_n24 hv.1
  refine mw_ofG (P := pX5_arrive) (by decide) (md_As hmb) oX5_arrive (Nat.le_of_ble_eq_true rfl) ?_
  intro pg e0 sg mg below meth cd X hs
  refine mw_pre (I' := md_I Γ mb W ρ) (fun H1 h1 => by rw [h1]; exact hH) ?_
  refine mw_steps X 2 (pc' := 2) (lv' := [(0, .ref mb), (1, .int x)]) (st' := [.int x, .ref mb]) rfl ?_
  refine mw_cV1r X kd_X5_isLetter kv_X5_isLetter kl_X5_177 (ci := 5) rfl rfl (Nat.le_of_ble_eq_true rfl) ⟨Nat.le_of_ble_eq_true rfl, Nat.le_of_ble_eq_true rfl⟩ ⟨Nat.le_of_ble_eq_true rfl, Nat.le_of_ble_eq_true rfl⟩ (fun _ h => h) (fun H h => ⟨⟨_, h.1⟩, cm_isLetter hmb h hv.1⟩) ?_
  refine mw_if_eq X 16 rfl rfl (fun c5 => ?_) (fun c5 => ?_)
  · refine mw_ldc X kk_X5_147 rfl ?_
    have hop : op_arrive W x = ((-1000000001), W) := by unfold op_arrive; rw [if_neg (by rw [mo_b_z c5]; decide)]
    exact mw_iret X rfl rfl (fun H h => ⟨by rw [hop], by rw [hop]; exact h⟩)
  · obtain ⟨k, hk, rfl⟩ := mo_bl_t (mo_b_nz c5) (by omega)
    refine mw_steps X 2 (pc' := 10) (lv' := [(0, .ref mb), (1, .int (nI k))]) (st' := [.int (nI k), .ref mb]) rfl ?_
    refine mw_cV1r X kd_X5_arriveNow kv_X5_arriveNow kl_X5_180 (ci := 5) rfl rfl (Nat.le_of_ble_eq_true rfl) ⟨Nat.le_of_ble_eq_true rfl, Nat.le_of_ble_eq_true rfl⟩ ⟨Nat.le_of_ble_eq_true rfl, Nat.le_of_ble_eq_true rfl⟩ (fun _ h => h) (fun H h => ⟨⟨_, h.1⟩, (by obtain ⟨e1, p, y, kd, a1, a2, a3, a4, a5, -⟩ := hv.2.2.1 k hk; rcases (show e1 = 0 ∨ e1 = 1 by omega) with rfl | rfl; exact cm_arrNow0 hmb h hv hk a5; exact cm_arrNow1 hmb h hv hk a5)⟩) ?_
    refine mw_steps X 1 (pc' := 18) (lv' := [(0, .ref mb), (1, .int (nI k))]) (st' := [.int (nI (mo_why W k))]) rfl ?_
    have hop : op_arrive W (nI k) = (nI (mo_why W k), mo_arr W k) := by unfold op_arrive; rw [if_pos (mo_bl_n hk (by omega)), ml_n (by omega)]
    exact mw_iret X rfl rfl (fun H h => ⟨by rw [hop], by rw [hop]; exact h⟩)
set_option maxHeartbeats 4000000 in
set_option maxRecDepth 20000 in
theorem cm_lose {l : Launch} {Γ : mw_C} {mb : Nat} (hmb : Γ.2.2.2 ≤ mb) {W : Nat → Int32} {ρ : md_R} {H : Heap} {c : Nat} {x : Int32} (hH : md_I Γ mb W ρ H) (hv : iv c W) : mw_Cr l Γ mX5_lose 3 0 0 (md_A mb) [.ref mb, .int x] H (some (.int (op_lose W x).1)) (md_I Γ mb (op_lose W x).2 ρ) := by
  have hn := ml_i11 hv.1
  have hn2 := ml_n24 hv.1
  refine mw_ofG (P := pX5_lose) (by decide) (md_As hmb) oX5_lose (Nat.le_of_ble_eq_true rfl) ?_
  intro pg e0 sg mg below meth cd X hs
  refine mw_pre (I' := md_I Γ mb W ρ) (fun H1 h1 => by rw [h1]; exact hH) ?_
  refine mw_steps X 2 (pc' := 2) (lv' := [(0, .ref mb), (1, .int x)]) (st' := [.int x, .ref mb]) rfl ?_
  refine mw_cV1r X kd_X5_isLetter kv_X5_isLetter kl_X5_177 (ci := 5) rfl rfl (Nat.le_of_ble_eq_true rfl) ⟨Nat.le_of_ble_eq_true rfl, Nat.le_of_ble_eq_true rfl⟩ ⟨Nat.le_of_ble_eq_true rfl, Nat.le_of_ble_eq_true rfl⟩ (fun _ h => h) (fun H h => ⟨⟨_, h.1⟩, cm_isLetter hmb h hv.1⟩) ?_
  refine mw_if_ne X 11 rfl rfl (fun c5 => ?_) (fun c5 => ?_)
  · obtain ⟨k, hk, rfl⟩ := mo_bl_t (mo_b_nz c5) (by omega)
    refine mw_steps X 5 (pc' := 20) (lv' := [(0, .ref mb), (1, .int (nI k))]) (st' := [.int (nI k), .int (nI 11), .int (nI 6), .int (nI 327), .ref mb]) rfl ?_
    refine mw_cV4v X kd_X5_removeAt kv_X5_removeAt kl_X5_29 (ci := 5) rfl rfl (Nat.le_of_ble_eq_true rfl) ⟨Nat.le_of_ble_eq_true rfl, Nat.le_of_ble_eq_true rfl⟩ ⟨Nat.le_of_ble_eq_true rfl, Nat.le_of_ble_eq_true rfl⟩ (fun _ h => h) (fun H h => ⟨⟨_, h.1⟩, cm_removeAt hmb h (f := 327) (z := 6) (q := 11) hn (by omega) (by omega) (by omega) (by omega) (by omega)⟩) ?_
    have h10 : mo_rm W 327 6 11 k 10 = W 10 := ml_rmr_out hn (by omega) hk (by omega) (by omega)
    have h11 : mo_rm W 327 6 11 k 11 = nI (mo_n (W 11) - 1) := ml_rmr_q hn (by omega)
    refine mw_steps X 1 (pc' := 24) (lv' := [(0, .ref mb), (1, .int (nI k))]) (st' := [.ref mb]) rfl ?_
    refine mw_get X kf_X5_7.fl kc_5 rfl (v := .ref (mb + 1)) (fun H h => ⟨_, h.1, rfl⟩) ?_
    refine mw_steps X 2 (pc' := 30) (lv' := [(0, .ref mb), (1, .int (nI k))]) (st' := [.int (nI 10), .ref (mb + 1), .int (nI 10), .ref (mb + 1)]) rfl ?_
    refine mw_iald X (v := W 10) (10) rfl rfl (fun H h => ⟨_, _, h.2.1, by omega, by decide, h10⟩) ?_
    refine mw_steps X 2 (pc' := 33) (lv' := [(0, .ref mb), (1, .int (nI k))]) (st' := [.int ((W 10) + (nI 1)), .int (nI 10), .ref (mb + 1)]) rfl ?_
    refine mw_iast X (I1 := md_I Γ mb (upd (mo_rm W 327 6 11 k) (10) ((W 10) + (nI 1))) ρ) (10) rfl rfl (fun H h => ⟨md_A1, _, _, h.2.1, by omega, by decide, fun H1 o c => h.stw o c⟩) ?_
    refine mw_steps X 1 (pc' := 35) (lv' := [(0, .ref mb), (1, .int (nI k))]) (st' := [.ref mb]) rfl ?_
    refine mw_get X kf_X5_7.fl kc_5 rfl (v := .ref (mb + 1)) (fun H h => ⟨_, h.1, rfl⟩) ?_
    refine mw_steps X 1 (pc' := 40) (lv' := [(0, .ref mb), (1, .int (nI k))]) (st' := [.int (nI 11), .ref (mb + 1)]) rfl ?_
    refine mw_iald X (v := nI (mo_n (W 11) - 1)) (11) rfl rfl (fun H h => ⟨_, _, h.2.1, by omega, by decide, (by simp (disch := omega) only [pk_un]; exact h11)⟩) ?_
    have hop : op_lose W (nI k) = (nI (mo_n (W 11) - 1), upd (mo_rm W 327 6 11 k) (10) ((W 10) + (nI 1))) := by unfold op_lose mo_lose; rw [if_pos (mo_bl_n hk (by omega)), ml_n (by omega)]
    exact mw_iret X rfl rfl (fun H h => ⟨by rw [hop], by rw [hop]; exact h⟩)
  · refine mw_ldc X kk_X5_147 rfl ?_
    have hop : op_lose W x = ((-1000000001), W) := by unfold op_lose; rw [if_neg (by rw [mo_b_z c5]; decide)]
    exact mw_iret X rfl rfl (fun H h => ⟨by rw [hop], by rw [hop]; exact h⟩)
set_option maxHeartbeats 4000000 in
set_option maxRecDepth 20000 in
theorem cm_twice {l : Launch} {Γ : mw_C} {mb : Nat} (hmb : Γ.2.2.2 ≤ mb) {W : Nat → Int32} {ρ : md_R} {H : Heap} {c : Nat} {x : Int32} (hH : md_I Γ mb W ρ H) (hv : iv c W) : mw_Cr l Γ mX5_twice 3 0 0 (md_A mb) [.ref mb, .int x] H (some (.int (op_twice W x).1)) (md_I Γ mb (op_twice W x).2 ρ) := by
  obtain ⟨n, hn2, hn⟩ := hv.1.1
  have hnn : mo_n (W 11) = n := by rw [hn, ml_n (by omega)]
  refine mw_ofG (P := pX5_twice) (by decide) (md_As hmb) oX5_twice (Nat.le_of_ble_eq_true rfl) ?_
  intro pg e0 sg mg below meth cd X hs
  refine mw_pre (I' := md_I Γ mb W ρ) (fun H1 h1 => by rw [h1]; exact hH) ?_
  refine mw_steps X 2 (pc' := 2) (lv' := [(0, .ref mb), (1, .int x)]) (st' := [.int x, .ref mb]) rfl ?_
  refine mw_cV1r X kd_X5_isLetter kv_X5_isLetter kl_X5_177 (ci := 5) rfl rfl (Nat.le_of_ble_eq_true rfl) ⟨Nat.le_of_ble_eq_true rfl, Nat.le_of_ble_eq_true rfl⟩ ⟨Nat.le_of_ble_eq_true rfl, Nat.le_of_ble_eq_true rfl⟩ (fun _ h => h) (fun H h => ⟨⟨_, h.1⟩, cm_isLetter hmb h hv.1⟩) ?_
  refine mw_if_ne X 11 rfl rfl (fun c5 => ?_) (fun c5 => ?_)
  · rw [hnn] at c5
    obtain ⟨k, hk, rfl⟩ := mo_bl_t (mo_b_nz c5) (by omega)
    refine mw_steps X 1 (pc' := 12) (lv' := [(0, .ref mb), (1, .int (nI k))]) (st' := [.ref mb]) rfl ?_
    refine mw_get X kf_X5_7.fl kc_5 rfl (v := .ref (mb + 1)) (fun H h => ⟨_, h.1, rfl⟩) ?_
    refine mw_steps X 1 (pc' := 17) (lv' := [(0, .ref mb), (1, .int (nI k))]) (st' := [.int (nI 11), .ref (mb + 1)]) rfl ?_
    refine mw_iald X (v := nI n) (11) rfl rfl (fun H h => ⟨_, _, h.2.1, by omega, by decide, hn⟩) ?_
    refine mw_steps X 1 (pc' := 20) (lv' := [(0, .ref mb), (1, .int (nI k))]) (st' := [.int (nI 24), .int (nI n)]) rfl ?_
    refine mw_icmp_ne X 26 rfl rfl (fun c20 => ?_) (fun c20 => ?_)
    · refine mw_steps X 2 (pc' := 28) (lv' := [(2, .int (nI 0)), (0, .ref mb), (1, .int (nI k))]) (st' := []) rfl ?_
      refine mw_pre (I' := md_I Γ mb (mo_put W (327 + 6 * n) 0 (fun j => W (327 + 6 * k + j))) ρ) (fun H h => by rw [ml_put0]; exact h) ?_
      have hn24 : n < 24 := by have : ¬ n = 24 := fun q => c20 (by rw [q]); omega
      refine mw_wf (fun t => 6 - t) (fun t => t ≤ 6) (fun t => md_I Γ mb (mo_put W (327 + 6 * n) t (fun j => W (327 + 6 * k + j))) ρ) (fun t => [(2, .int (nI t)), (0, .ref mb), (1, .int (nI k))]) (fun t ht ih => ?_) 0 (Nat.zero_le _)
      have hq : mo_put W (327 + 6 * n) t (fun j => W (327 + 6 * k + j)) 11 = nI n := by rw [mo_put_out (by omega)]; exact hn
      refine mw_steps X 2 (pc' := 31) (lv' := [(2, .int (nI t)), (0, .ref mb), (1, .int (nI k))]) (st' := [.int (nI 6), .int (nI t)]) rfl ?_
      refine mw_icmp_ge X 76 rfl rfl (fun c31 => ?_) (fun c31 => ?_)
      · have htn : t = 6 := by rw [nI_leI (by omega) (by omega)] at c31; omega
        refine mw_steps X 1 (pc' := 77) (lv' := [(2, .int (nI t)), (0, .ref mb), (1, .int (nI k))]) (st' := [.ref mb]) rfl ?_
        refine mw_get X kf_X5_7.fl kc_5 rfl (v := .ref (mb + 1)) (fun H h => ⟨_, h.1, rfl⟩) ?_
        refine mw_steps X 2 (pc' := 83) (lv' := [(2, .int (nI t)), (0, .ref mb), (1, .int (nI k))]) (st' := [.int (nI 11), .ref (mb + 1), .int (nI 11), .ref (mb + 1)]) rfl ?_
        refine mw_iald X (v := nI n) (11) rfl rfl (fun H h => ⟨_, _, h.2.1, by omega, by decide, hq⟩) ?_
        refine mw_steps X 2 (pc' := 86) (lv' := [(2, .int (nI t)), (0, .ref mb), (1, .int (nI k))]) (st' := [.int ((nI n) + (nI 1)), .int (nI 11), .ref (mb + 1)]) rfl ?_
        refine mw_iast X (I1 := md_I Γ mb (upd (mo_put W (327 + 6 * n) t (fun j => W (327 + 6 * k + j))) (11) ((nI n) + (nI 1))) ρ) (11) rfl rfl (fun H h => ⟨md_A1, _, _, h.2.1, by omega, by decide, fun H1 o c => h.stw o c⟩) ?_
        refine mw_steps X 1 (pc' := 88) (lv' := [(2, .int (nI t)), (0, .ref mb), (1, .int (nI k))]) (st' := [.ref mb]) rfl ?_
        refine mw_get X kf_X5_7.fl kc_5 rfl (v := .ref (mb + 1)) (fun H h => ⟨_, h.1, rfl⟩) ?_
        refine mw_steps X 1 (pc' := 93) (lv' := [(2, .int (nI t)), (0, .ref mb), (1, .int (nI k))]) (st' := [.int (nI 11), .ref (mb + 1)]) rfl ?_
        refine mw_iald X (v := (nI n) + (nI 1)) (11) rfl rfl (fun H h => ⟨_, _, h.2.1, by omega, by decide, (by simp (disch := omega) only [pk_us, pk_un])⟩) ?_
        have hop : op_twice W (nI k) = ((nI n) + (nI 1), upd (mo_put W (327 + 6 * n) t (fun j => W (327 + 6 * k + j))) (11) ((nI n) + (nI 1))) := by subst htn; unfold op_twice mo_twice; rw [hnn, if_pos (mo_bl_n hk (by omega)), ml_n (by omega), hn, if_neg c20]
        exact mw_iret X rfl rfl (fun H h => ⟨by rw [hop], by rw [hop]; exact h⟩)
      · have htn : t < 6 := by rw [nI_leI (by omega) (by omega)] at c31; omega
        have hkt : mo_put W (327 + 6 * n) t (fun j => W (327 + 6 * k + j)) (327 + 6 * k + t) = W (327 + 6 * k + t) := by rw [mo_put_out (by omega)]
        refine mw_steps X 1 (pc' := 35) (lv' := [(2, .int (nI t)), (0, .ref mb), (1, .int (nI k))]) (st' := [.ref mb]) rfl ?_
        refine mw_get X kf_X5_7.fl kc_5 rfl (v := .ref (mb + 1)) (fun H h => ⟨_, h.1, rfl⟩) ?_
        refine mw_steps X 3 (pc' := 44) (lv' := [(2, .int (nI t)), (0, .ref mb), (1, .int (nI k))]) (st' := [.ref mb, .int (nI 6), .int (nI 327), .ref (mb + 1)]) rfl ?_
        refine mw_get X kf_X5_7.fl kc_5 rfl (v := .ref (mb + 1)) (fun H h => ⟨_, h.1, rfl⟩) ?_
        refine mw_steps X 1 (pc' := 49) (lv' := [(2, .int (nI t)), (0, .ref mb), (1, .int (nI k))]) (st' := [.int (nI 11), .ref (mb + 1), .int (nI 6), .int (nI 327), .ref (mb + 1)]) rfl ?_
        refine mw_iald X (v := nI n) (11) rfl rfl (fun H h => ⟨_, _, h.2.1, by omega, by decide, hq⟩) ?_
        refine mw_steps X 5 (pc' := 55) (lv' := [(2, .int (nI t)), (0, .ref mb), (1, .int (nI k))]) (st' := [.ref mb, .int (((nI 327) + ((nI 6) * (nI n))) + (nI t)), .ref (mb + 1)]) rfl ?_
        refine mw_get X kf_X5_7.fl kc_5 rfl (v := .ref (mb + 1)) (fun H h => ⟨_, h.1, rfl⟩) ?_
        refine mw_steps X 7 (pc' := 68) (lv' := [(2, .int (nI t)), (0, .ref mb), (1, .int (nI k))]) (st' := [.int (((nI 327) + ((nI 6) * (nI k))) + (nI t)), .ref (mb + 1), .int (((nI 327) + ((nI 6) * (nI n))) + (nI t)), .ref (mb + 1)]) rfl ?_
        refine mw_iald X (v := W (327 + 6 * k + t)) (327 + 6 * k + t) (by simp only [nI_add, pk_mul]) rfl (fun H h => ⟨_, _, h.2.1, by omega, by decide, hkt⟩) ?_
        refine mw_iast X (I1 := md_I Γ mb (upd (mo_put W (327 + 6 * n) t (fun j => W (327 + 6 * k + j))) (327 + 6 * n + t) (W (327 + 6 * k + t))) ρ) (327 + 6 * n + t) (by simp only [nI_add, pk_mul]) rfl (fun H h => ⟨md_A1, _, _, h.2.1, by omega, by decide, fun H1 o c => h.stw o c⟩) ?_
        refine mw_steps X 2 (pc' := 28) (lv' := [(2, .int ((nI t) + (nI 1))), (0, .ref mb), (1, .int (nI k))]) (st' := []) rfl ?_
        refine mw_lveq (lv' := [(2, .int (nI (t + 1))), (0, .ref mb), (1, .int (nI k))]) (by simp only [nI_add]) ?_
        refine mw_pre (fun H h => ?_) (ih (t + 1) (by omega) (by omega))
        rw [← ml_putS W (fun j => W (327 + 6 * k + j))]; exact h
    · refine mw_ldc X kk_X5_161 rfl ?_
      have hop : op_twice W (nI k) = ((-1000000004), W) := by unfold op_twice; rw [hnn, if_pos (mo_bl_n hk (by omega)), hn, if_pos c20]
      exact mw_iret X rfl rfl (fun H h => ⟨by rw [hop], by rw [hop]; exact h⟩)
  · refine mw_ldc X kk_X5_147 rfl ?_
    have hop : op_twice W x = ((-1000000001), W) := by unfold op_twice; rw [if_neg (by rw [mo_b_z c5]; decide)]
    exact mw_iret X rfl rfl (fun H h => ⟨by rw [hop], by rw [hop]; exact h⟩)
end
section
theorem ml_bit01 {W : Nat → Int32} {e k c : Nat} (h : iv c W) (he : e < 2) (hk : k < 100) : W (127 + 100 * e + k) = nI (if decide (W (127 + 100 * e + k) = nI 1) = true then 1 else 0) := by
  obtain ⟨-, -, -, h4⟩ := h.2.2.2.2.2.2.2.1 e he
  rcases h4 k hk with q | q
  · rw [q]; rfl
  · rw [q]; rfl
theorem ml_cnt_y {P : Nat → Bool} {t : Nat} (h : P t = true) : mo_cnt P (t + 1) = mo_cnt P t + 1 := by show mo_cnt P t + (if P t then 1 else 0) = _; rw [if_pos h]
theorem ml_cnt_n {P : Nat → Bool} {t : Nat} (h : P t = false) : mo_cnt P (t + 1) = mo_cnt P t + 0 := by show mo_cnt P t + (if P t then 1 else 0) = _; rw [if_neg (by rw [h]; decide)]
theorem ml_set_t {W : Nat → Int32} {cu : Nat} (hcu : W 2 = nI cu) (h5 : cu < 5) (h1 : nI cu = W 3) (h2 : W (32 + cu) = nI 1) (h3 : ¬ W (22 + cu) < 0) (h4 : W 11 = 0) (h6 : W 12 = 0) (h7 : mo_ha W 0 = true) (h8 : mo_ha W 1 = true) : mo_settled W = true := by
  unfold mo_settled
  rw [hcu, ml_n (by omega), ← h1, h2, h4, h6, h7, h8]
  simp [Int32.not_lt.mp h3]
theorem ml_set_f {W : Nat → Int32} {cu : Nat} (hcu : W 2 = nI cu) (h5 : cu < 5) (h : ¬ nI cu = W 3 ∨ ¬ W (32 + cu) = nI 1 ∨ W (22 + cu) < 0 ∨ ¬ W 11 = 0 ∨ ¬ W 12 = 0 ∨ mo_ha W 0 = false ∨ mo_ha W 1 = false) : mo_settled W = false := by
  unfold mo_settled
  rw [hcu, ml_n (by omega)]
  rcases h with h | h | h | h | h | h | h
  · simp [h]
  · simp [h]
  · simp [Int32.not_le.mpr h]
  · simp [h]
  · simp [h]
  · simp [h]
  · simp [h]
theorem ml_good_t {b c d e : Int32} (h1 : mo_in b.toInt64 (-1) 99 = true) (h2 : mo_in c.toInt64 0 9999 = true) (h3 : mo_in d.toInt64 0 5 = true) (h4 : mo_in e.toInt64 0 99 = true) : mo_good b c d e = true := by
  have e1 : mo_in b.toInt64 (-1) 99 = (decide (-1 ≤ b) && decide (b < nI 100)) := by
    unfold mo_in
    rw [show (-1 : Int64) = (-1 : Int32).toInt64 by decide, show (99 : Int64) = (nI 99).toInt64 by decide]
    congr 1
    · simp only [mb_wide_le]
    · simp only [mb_wide_le]
      congr 1
      rw [eq_iff_iff, Int32.le_iff_toInt_le, Int32.lt_iff_toInt_lt, nI_toInt (by omega), nI_toInt (by omega)]
      omega
  have e2 : mo_in c.toInt64 0 9999 = mo_bl c 10000 := mo_in_bl (x := c) (g := 10000) (by omega) (by omega)
  have e3 : mo_in d.toInt64 0 5 = mo_bl d 6 := mo_in_bl (x := d) (g := 6) (by omega) (by omega)
  have e4 : mo_in e.toInt64 0 99 = mo_bl e 100 := mo_in_bl (x := e) (g := 100) (by omega) (by omega)
  unfold mo_good
  rw [← e1, ← e2, ← e3, ← e4, h1, h2, h3, h4]
  rfl
theorem ml_good_f {b c d e : Int32} (h : mo_in b.toInt64 (-1) 99 = false ∨ mo_in c.toInt64 0 9999 = false ∨ mo_in d.toInt64 0 5 = false ∨ mo_in e.toInt64 0 99 = false) : mo_good b c d e = false := by
  have e1 : mo_in b.toInt64 (-1) 99 = (decide (-1 ≤ b) && decide (b < nI 100)) := by
    unfold mo_in
    rw [show (-1 : Int64) = (-1 : Int32).toInt64 by decide, show (99 : Int64) = (nI 99).toInt64 by decide]
    congr 1
    · simp only [mb_wide_le]
    · simp only [mb_wide_le]
      congr 1
      rw [eq_iff_iff, Int32.le_iff_toInt_le, Int32.lt_iff_toInt_lt, nI_toInt (by omega), nI_toInt (by omega)]
      omega
  have e2 : mo_in c.toInt64 0 9999 = mo_bl c 10000 := mo_in_bl (x := c) (g := 10000) (by omega) (by omega)
  have e3 : mo_in d.toInt64 0 5 = mo_bl d 6 := mo_in_bl (x := d) (g := 6) (by omega) (by omega)
  have e4 : mo_in e.toInt64 0 99 = mo_bl e 100 := mo_in_bl (x := e) (g := 100) (by omega) (by omega)
  unfold mo_good
  rw [← e1, ← e2, ← e3, ← e4]
  rcases h with h | h | h | h <;> simp [h]
theorem ml_wr_is {W bo ba bi : Nat → Int32} {n t e v : Nat} (ht : t < n) (he : bo t = nI e) (hv : ba t = nI v) (he2 : e < 2) (hv2 : v < 40) (hy : ¬ W (127 + 100 * e + v) = bi t) (hno : ∀ j, j < t → W (127 + 100 * mo_n (bo j) + mo_n (ba j)) = bi j) : mo_wr W bo ba bi n = t :=
  ml_fst_is ht (by rw [he, hv, ml_n (by omega), ml_n (by omega)]; simp [hy]) (fun j hj => by simp [hno j hj])
theorem ml_wr_none {W bo ba bi : Nat → Int32} {n : Nat} (hno : ∀ j, j < n → W (127 + 100 * mo_n (bo j) + mo_n (ba j)) = bi j) : mo_wr W bo ba bi n = n :=
  ml_fst_none (fun j hj => by simp [hno j hj])
end
section
set_option maxHeartbeats 4000000 in
set_option maxRecDepth 20000 in
theorem cm_manyOf {l : Launch} {Γ : mw_C} {mb : Nat} (hmb : Γ.2.2.2 ≤ mb) {W : Nat → Int32} {ρ : md_R} {H : Heap} {f : Nat} {v : Int32} (hH : md_I Γ mb W ρ H) (hf : f ≤ 100) : mw_Cr l Γ mX5_manyOf 1 0 0 (md_A mb) [.ref mb, .int (nI f), .int v] H (some (.int (nI (mo_cnt (fun k => decide (W (f + k) = v)) 40)))) (md_I Γ mb W ρ) := by
  refine mw_ofG (P := pX5_manyOf) (by decide) (md_As hmb) oX5_manyOf (Nat.le_of_ble_eq_true rfl) ?_
  intro pg e0 sg mg below meth cd X hs
  refine mw_pre (I' := md_I Γ mb W ρ) (fun H1 h1 => by rw [h1]; exact hH) ?_
  refine mw_steps X 4 (pc' := 5) (lv' := [(4, .int (nI 0)), (3, .int (nI 0)), (0, .ref mb), (1, .int (nI f)), (2, .int v)]) (st' := []) rfl ?_
  refine mw_wf (fun t => 40 - t) (fun t => t ≤ 40) (fun _ => md_I Γ mb W ρ) (fun t => [(4, .int (nI t)), (3, .int (nI (mo_cnt (fun k => decide (W (f + k) = v)) t))), (0, .ref mb), (1, .int (nI f)), (2, .int v)]) (fun t ht ih => ?_) 0 (Nat.zero_le _)
  refine mw_steps X 2 (pc' := 9) (lv' := [(4, .int (nI t)), (3, .int (nI (mo_cnt (fun k => decide (W (f + k) = v)) t))), (0, .ref mb), (1, .int (nI f)), (2, .int v)]) (st' := [.int (nI 40), .int (nI t)]) rfl ?_
  refine mw_icmp_ge X 39 rfl rfl (fun c9 => ?_) (fun c9 => ?_)
  · have htn : t = 40 := by rw [nI_leI (by omega) (by omega)] at c9; omega
    refine mw_steps X 1 (pc' := 40) (lv' := [(4, .int (nI t)), (3, .int (nI (mo_cnt (fun k => decide (W (f + k) = v)) t))), (0, .ref mb), (1, .int (nI f)), (2, .int v)]) (st' := [.int (nI (mo_cnt (fun k => decide (W (f + k) = v)) t))]) rfl ?_
    exact mw_iret X rfl rfl (fun H h => ⟨by rw [htn], h⟩)
  · have htn : t < 40 := by rw [nI_leI (by omega) (by omega)] at c9; omega
    refine mw_steps X 2 (pc' := 14) (lv' := [(4, .int (nI t)), (3, .int (nI (mo_cnt (fun k => decide (W (f + k) = v)) t))), (0, .ref mb), (1, .int (nI f)), (2, .int v)]) (st' := [.ref mb, .int (nI (mo_cnt (fun k => decide (W (f + k) = v)) t))]) rfl ?_
    refine mw_get X kf_X5_7.fl kc_5 rfl (v := .ref (mb + 1)) (fun H h => ⟨_, h.1, rfl⟩) ?_
    refine mw_steps X 3 (pc' := 21) (lv' := [(4, .int (nI t)), (3, .int (nI (mo_cnt (fun k => decide (W (f + k) = v)) t))), (0, .ref mb), (1, .int (nI f)), (2, .int v)]) (st' := [.int ((nI f) + (nI t)), .ref (mb + 1), .int (nI (mo_cnt (fun k => decide (W (f + k) = v)) t))]) rfl ?_
    refine mw_iald X (v := W (f + t)) (f + t) (by simp only [nI_add, pk_mul]) rfl (fun H h => ⟨_, _, h.2.1, by omega, by decide, rfl⟩) ?_
    refine mw_steps X 1 (pc' := 23) (lv' := [(4, .int (nI t)), (3, .int (nI (mo_cnt (fun k => decide (W (f + k) = v)) t))), (0, .ref mb), (1, .int (nI f)), (2, .int v)]) (st' := [.int v, .int (W (f + t)), .int (nI (mo_cnt (fun k => decide (W (f + k) = v)) t))]) rfl ?_
    refine mw_icmp_ne X 30 rfl rfl (fun c23 => ?_) (fun c23 => ?_)
    · refine mw_steps X 5 (pc' := 5) (lv' := [(4, .int ((nI t) + (nI 1))), (3, .int ((nI (mo_cnt (fun k => decide (W (f + k) = v)) t)) + (nI 0))), (0, .ref mb), (1, .int (nI f)), (2, .int v)]) (st' := []) rfl ?_
      refine mw_lveq (lv' := [(4, .int (nI (t + 1))), (3, .int (nI (mo_cnt (fun k => decide (W (f + k) = v)) (t + 1)))), (0, .ref mb), (1, .int (nI f)), (2, .int v)]) (by first | rw [nI_add, nI_add, ml_cnt_y (show ((fun k => decide (W (f + k) = v))) t = true from decide_eq_true c23)] | rw [nI_add, nI_add, ml_cnt_n (show ((fun k => decide (W (f + k) = v))) t = false from decide_eq_false c23)]) ?_
      exact ih (t + 1) (by omega) (by omega)
    · refine mw_steps X 6 (pc' := 5) (lv' := [(4, .int ((nI t) + (nI 1))), (3, .int ((nI (mo_cnt (fun k => decide (W (f + k) = v)) t)) + (nI 1))), (0, .ref mb), (1, .int (nI f)), (2, .int v)]) (st' := []) rfl ?_
      refine mw_lveq (lv' := [(4, .int (nI (t + 1))), (3, .int (nI (mo_cnt (fun k => decide (W (f + k) = v)) (t + 1)))), (0, .ref mb), (1, .int (nI f)), (2, .int v)]) (by first | rw [nI_add, nI_add, ml_cnt_y (show ((fun k => decide (W (f + k) = v))) t = true from decide_eq_true c23)] | rw [nI_add, nI_add, ml_cnt_n (show ((fun k => decide (W (f + k) = v))) t = false from decide_eq_false c23)]) ?_
      exact ih (t + 1) (by omega) (by omega)
set_option maxHeartbeats 4000000 in
set_option maxRecDepth 20000 in
theorem cm_manyHas {l : Launch} {Γ : mw_C} {mb : Nat} (hmb : Γ.2.2.2 ≤ mb) {W : Nat → Int32} {ρ : md_R} {H : Heap} {e c : Nat} (hH : md_I Γ mb W ρ H) (hv : iv c W) (he : e < 2) : mw_Cr l Γ mX5_manyHas 1 0 0 (md_A mb) [.ref mb, .int (nI e)] H (some (.int (nI (mo_cnt (fun k => decide (W (127 + 100 * e + k) = nI 1)) 100)))) (md_I Γ mb W ρ) := by
  refine mw_ofG (P := pX5_manyHas) (by decide) (md_As hmb) oX5_manyHas (Nat.le_of_ble_eq_true rfl) ?_
  intro pg e0 sg mg below meth cd X hs
  refine mw_pre (I' := md_I Γ mb W ρ) (fun H1 h1 => by rw [h1]; exact hH) ?_
  refine mw_steps X 4 (pc' := 4) (lv' := [(3, .int (nI 0)), (2, .int (nI 0)), (0, .ref mb), (1, .int (nI e))]) (st' := []) rfl ?_
  refine mw_wf (fun t => 100 - t) (fun t => t ≤ 100) (fun _ => md_I Γ mb W ρ) (fun t => [(3, .int (nI t)), (2, .int (nI (mo_cnt (fun k => decide (W (127 + 100 * e + k) = nI 1)) t))), (0, .ref mb), (1, .int (nI e))]) (fun t ht ih => ?_) 0 (Nat.zero_le _)
  refine mw_steps X 2 (pc' := 7) (lv' := [(3, .int (nI t)), (2, .int (nI (mo_cnt (fun k => decide (W (127 + 100 * e + k) = nI 1)) t))), (0, .ref mb), (1, .int (nI e))]) (st' := [.int (nI 100), .int (nI t)]) rfl ?_
  refine mw_icmp_ge X 33 rfl rfl (fun c7 => ?_) (fun c7 => ?_)
  · have htn : t = 100 := by rw [nI_leI (by omega) (by omega)] at c7; omega
    refine mw_steps X 1 (pc' := 34) (lv' := [(3, .int (nI t)), (2, .int (nI (mo_cnt (fun k => decide (W (127 + 100 * e + k) = nI 1)) t))), (0, .ref mb), (1, .int (nI e))]) (st' := [.int (nI (mo_cnt (fun k => decide (W (127 + 100 * e + k) = nI 1)) t))]) rfl ?_
    exact mw_iret X rfl rfl (fun H h => ⟨by rw [htn], h⟩)
  · have htn : t < 100 := by rw [nI_leI (by omega) (by omega)] at c7; omega
    have hb := ml_bit01 hv he htn
    refine mw_steps X 2 (pc' := 12) (lv' := [(3, .int (nI t)), (2, .int (nI (mo_cnt (fun k => decide (W (127 + 100 * e + k) = nI 1)) t))), (0, .ref mb), (1, .int (nI e))]) (st' := [.ref mb, .int (nI (mo_cnt (fun k => decide (W (127 + 100 * e + k) = nI 1)) t))]) rfl ?_
    refine mw_get X kf_X5_7.fl kc_5 rfl (v := .ref (mb + 1)) (fun H h => ⟨_, h.1, rfl⟩) ?_
    refine mw_steps X 7 (pc' := 24) (lv' := [(3, .int (nI t)), (2, .int (nI (mo_cnt (fun k => decide (W (127 + 100 * e + k) = nI 1)) t))), (0, .ref mb), (1, .int (nI e))]) (st' := [.int (((nI 127) + ((nI 100) * (nI e))) + (nI t)), .ref (mb + 1), .int (nI (mo_cnt (fun k => decide (W (127 + 100 * e + k) = nI 1)) t))]) rfl ?_
    refine mw_iald X (v := nI (if decide (W (127 + 100 * e + t) = nI 1) = true then 1 else 0)) (127 + 100 * e + t) (by simp only [nI_add, pk_mul]) rfl (fun H h => ⟨_, _, h.2.1, by omega, by decide, hb⟩) ?_
    refine mw_steps X 4 (pc' := 4) (lv' := [(3, .int ((nI t) + (nI 1))), (2, .int ((nI (mo_cnt (fun k => decide (W (127 + 100 * e + k) = nI 1)) t)) + (nI (if decide (W (127 + 100 * e + t) = nI 1) = true then 1 else 0)))), (0, .ref mb), (1, .int (nI e))]) (st' := []) rfl ?_
    refine mw_lveq (lv' := [(3, .int (nI (t + 1))), (2, .int (nI (mo_cnt (fun k => decide (W (127 + 100 * e + k) = nI 1)) (t + 1)))), (0, .ref mb), (1, .int (nI e))]) (by rw [ml_cntS (fun k => decide (W (127 + 100 * e + k) = nI 1)) t, nI_add]) ?_
    exact ih (t + 1) (by omega) (by omega)
set_option maxHeartbeats 4000000 in
set_option maxRecDepth 20000 in
theorem cm_heldFor {l : Launch} {Γ : mw_C} {mb : Nat} (hmb : Γ.2.2.2 ≤ mb) {W : Nat → Int32} {ρ : md_R} {H : Heap} {p n : Nat} (hH : md_I Γ mb W ρ H) (hn : W 12 = nI n) (hn2 : n ≤ 12) : mw_Cr l Γ mX5_heldFor 1 0 0 (md_A mb) [.ref mb, .int (nI p)] H (some (.int (nI (mo_cnt (fun k => decide (W (471 + 3 * k) = nI p)) n)))) (md_I Γ mb W ρ) := by
  refine mw_ofG (P := pX5_heldFor) (by decide) (md_As hmb) oX5_heldFor (Nat.le_of_ble_eq_true rfl) ?_
  intro pg e0 sg mg below meth cd X hs
  refine mw_pre (I' := md_I Γ mb W ρ) (fun H1 h1 => by rw [h1]; exact hH) ?_
  refine mw_steps X 4 (pc' := 4) (lv' := [(3, .int (nI 0)), (2, .int (nI 0)), (0, .ref mb), (1, .int (nI p))]) (st' := []) rfl ?_
  refine mw_wf (fun t => n - t) (fun t => t ≤ n) (fun _ => md_I Γ mb W ρ) (fun t => [(3, .int (nI t)), (2, .int (nI (mo_cnt (fun k => decide (W (471 + 3 * k) = nI p)) t))), (0, .ref mb), (1, .int (nI p))]) (fun t ht ih => ?_) 0 (Nat.zero_le _)
  refine mw_steps X 2 (pc' := 6) (lv' := [(3, .int (nI t)), (2, .int (nI (mo_cnt (fun k => decide (W (471 + 3 * k) = nI p)) t))), (0, .ref mb), (1, .int (nI p))]) (st' := [.ref mb, .int (nI t)]) rfl ?_
  refine mw_get X kf_X5_7.fl kc_5 rfl (v := .ref (mb + 1)) (fun H h => ⟨_, h.1, rfl⟩) ?_
  refine mw_steps X 1 (pc' := 11) (lv' := [(3, .int (nI t)), (2, .int (nI (mo_cnt (fun k => decide (W (471 + 3 * k) = nI p)) t))), (0, .ref mb), (1, .int (nI p))]) (st' := [.int (nI 12), .ref (mb + 1), .int (nI t)]) rfl ?_
  refine mw_iald X (v := nI n) (12) rfl rfl (fun H h => ⟨_, _, h.2.1, by omega, by decide, hn⟩) ?_
  refine mw_icmp_ge X 45 rfl rfl (fun c12 => ?_) (fun c12 => ?_)
  · have htn : t = n := by rw [nI_leI (by omega) (by omega)] at c12; omega
    refine mw_steps X 1 (pc' := 46) (lv' := [(3, .int (nI t)), (2, .int (nI (mo_cnt (fun k => decide (W (471 + 3 * k) = nI p)) t))), (0, .ref mb), (1, .int (nI p))]) (st' := [.int (nI (mo_cnt (fun k => decide (W (471 + 3 * k) = nI p)) t))]) rfl ?_
    exact mw_iret X rfl rfl (fun H h => ⟨by rw [htn], h⟩)
  · have htn : t < n := by rw [nI_leI (by omega) (by omega)] at c12; omega
    refine mw_steps X 2 (pc' := 17) (lv' := [(3, .int (nI t)), (2, .int (nI (mo_cnt (fun k => decide (W (471 + 3 * k) = nI p)) t))), (0, .ref mb), (1, .int (nI p))]) (st' := [.ref mb, .int (nI (mo_cnt (fun k => decide (W (471 + 3 * k) = nI p)) t))]) rfl ?_
    refine mw_get X kf_X5_7.fl kc_5 rfl (v := .ref (mb + 1)) (fun H h => ⟨_, h.1, rfl⟩) ?_
    refine mw_steps X 5 (pc' := 27) (lv' := [(3, .int (nI t)), (2, .int (nI (mo_cnt (fun k => decide (W (471 + 3 * k) = nI p)) t))), (0, .ref mb), (1, .int (nI p))]) (st' := [.int ((nI 471) + ((nI 3) * (nI t))), .ref (mb + 1), .int (nI (mo_cnt (fun k => decide (W (471 + 3 * k) = nI p)) t))]) rfl ?_
    refine mw_iald X (v := W (471 + 3 * t)) (471 + 3 * t) (by simp only [nI_add, pk_mul]) rfl (fun H h => ⟨_, _, h.2.1, by omega, by decide, rfl⟩) ?_
    refine mw_steps X 1 (pc' := 29) (lv' := [(3, .int (nI t)), (2, .int (nI (mo_cnt (fun k => decide (W (471 + 3 * k) = nI p)) t))), (0, .ref mb), (1, .int (nI p))]) (st' := [.int (nI p), .int (W (471 + 3 * t)), .int (nI (mo_cnt (fun k => decide (W (471 + 3 * k) = nI p)) t))]) rfl ?_
    refine mw_icmp_ne X 36 rfl rfl (fun c29 => ?_) (fun c29 => ?_)
    · refine mw_steps X 5 (pc' := 4) (lv' := [(3, .int ((nI t) + (nI 1))), (2, .int ((nI (mo_cnt (fun k => decide (W (471 + 3 * k) = nI p)) t)) + (nI 0))), (0, .ref mb), (1, .int (nI p))]) (st' := []) rfl ?_
      refine mw_lveq (lv' := [(3, .int (nI (t + 1))), (2, .int (nI (mo_cnt (fun k => decide (W (471 + 3 * k) = nI p)) (t + 1)))), (0, .ref mb), (1, .int (nI p))]) (by first | rw [nI_add, nI_add, ml_cnt_y (show ((fun k => decide (W (471 + 3 * k) = nI p))) t = true from decide_eq_true c29)] | rw [nI_add, nI_add, ml_cnt_n (show ((fun k => decide (W (471 + 3 * k) = nI p))) t = false from decide_eq_false c29)]) ?_
      exact ih (t + 1) (by omega) (by omega)
    · refine mw_steps X 6 (pc' := 4) (lv' := [(3, .int ((nI t) + (nI 1))), (2, .int ((nI (mo_cnt (fun k => decide (W (471 + 3 * k) = nI p)) t)) + (nI 1))), (0, .ref mb), (1, .int (nI p))]) (st' := []) rfl ?_
      refine mw_lveq (lv' := [(3, .int (nI (t + 1))), (2, .int (nI (mo_cnt (fun k => decide (W (471 + 3 * k) = nI p)) (t + 1)))), (0, .ref mb), (1, .int (nI p))]) (by first | rw [nI_add, nI_add, ml_cnt_y (show ((fun k => decide (W (471 + 3 * k) = nI p))) t = true from decide_eq_true c29)] | rw [nI_add, nI_add, ml_cnt_n (show ((fun k => decide (W (471 + 3 * k) = nI p))) t = false from decide_eq_false c29)]) ?_
      exact ih (t + 1) (by omega) (by omega)
set_option maxHeartbeats 4000000 in
set_option maxRecDepth 20000 in
theorem cm_hasAll0 {l : Launch} {Γ : mw_C} {mb : Nat} (hmb : Γ.2.2.2 ≤ mb) {W : Nat → Int32} {ρ : md_R} {H : Heap} {c : Nat} (hH : md_I Γ mb W ρ H) (hv : iv c W) : mw_Cr l Γ mX5_hasAll 1 0 0 (md_A mb) [.ref mb, .int (nI 0)] H (some (.int (mo_b (mo_ha W 0)))) (md_I Γ mb W ρ) := by
  obtain ⟨⟨n, hn2, hn⟩, -⟩ := hv.2.2.2.2.2.2.2.1 1 (by omega)
  refine mw_ofG (P := pX5_hasAll) (by decide) (md_As hmb) oX5_hasAll (Nat.le_of_ble_eq_true rfl) ?_
  intro pg e0 sg mg below meth cd X hs
  refine mw_pre (I' := md_I Γ mb W ρ) (fun H1 h1 => by rw [h1]; exact hH) ?_
  refine mw_steps X 4 (pc' := 4) (lv' := [(3, .int (nI 0)), (2, .int (nI 1)), (0, .ref mb), (1, .int (nI 0))]) (st' := []) rfl ?_
  refine mw_wf (σ := Nat × Nat) (fun q => n - q.1) (fun q => q.1 ≤ n ∧ q.2 < 2 ∧ (q.2 = 1 ↔ ∀ j, j < q.1 → W (127 + 100 * 0 + j) = nI 1)) (fun _ => md_I Γ mb W ρ) (fun q => [(3, .int (nI q.1)), (2, .int (nI q.2)), (0, .ref mb), (1, .int (nI 0))]) (fun q hq ih => ?_) (0, 1) ⟨Nat.zero_le _, by decide, fun _ j hj => absurd hj (Nat.not_lt_zero j), fun _ => rfl⟩
  obtain ⟨t, b⟩ := q
  obtain ⟨ht, hb2, hb⟩ := hq
  dsimp only at ht hb2 hb ⊢
  refine mw_steps X 2 (pc' := 6) (lv' := [(3, .int (nI t)), (2, .int (nI b)), (0, .ref mb), (1, .int (nI 0))]) (st' := [.ref mb, .int (nI t)]) rfl ?_
  refine mw_get X kf_X5_7.fl kc_5 rfl (v := .ref (mb + 1)) (fun H h => ⟨_, h.1, rfl⟩) ?_
  refine mw_steps X 3 (pc' := 13) (lv' := [(3, .int (nI t)), (2, .int (nI b)), (0, .ref mb), (1, .int (nI 0))]) (st' := [.int ((nI 19) - (nI 0)), .ref (mb + 1), .int (nI t)]) rfl ?_
  refine mw_iald X (v := nI n) (19) (by decide) rfl (fun H h => ⟨_, _, h.2.1, by omega, by decide, hn⟩) ?_
  refine mw_icmp_ge X 51 rfl rfl (fun c14 => ?_) (fun c14 => ?_)
  · have htn : t = n := by rw [nI_leI (by omega) (by omega)] at c14; omega
    refine mw_steps X 1 (pc' := 52) (lv' := [(3, .int (nI t)), (2, .int (nI b)), (0, .ref mb), (1, .int (nI 0))]) (st' := [.int (nI b)]) rfl ?_
    have hres : nI b = mo_b (mo_ha W 0) := by
      have hi := ml_ha_iff (e := 0) (n := n) hn hn2
      subst htn
      rcases (show b = 0 ∨ b = 1 by omega) with rfl | rfl
      · rw [show mo_ha W 0 = false from Bool.eq_false_iff.mpr (fun q => absurd (hb.mpr (hi.mp q)) (by decide))]; rfl
      · rw [show mo_ha W 0 = true from hi.mpr (hb.mp rfl)]; rfl
    exact mw_zret X rfl (by rw [hres]; exact mo_b_or _) rfl (fun H h => ⟨by rw [hres], h⟩)
  · have htn : t < n := by rw [nI_leI (by omega) (by omega)] at c14; omega
    refine mw_steps X 1 (pc' := 18) (lv' := [(3, .int (nI t)), (2, .int (nI b)), (0, .ref mb), (1, .int (nI 0))]) (st' := [.int (nI b)]) rfl ?_
    refine mw_if_eq X 43 rfl rfl (fun c18 => ?_) (fun c18 => ?_)
    · refine mw_steps X 4 (pc' := 4) (lv' := [(3, .int ((nI t) + (nI 1))), (2, .int (nI 0)), (0, .ref mb), (1, .int (nI 0))]) (st' := []) rfl ?_
      refine mw_lveq (lv' := [(3, .int (nI (t + 1))), (2, .int (nI 0)), (0, .ref mb), (1, .int (nI 0))]) (by simp only [nI_add]) ?_
      exact ih (t + 1, 0) ⟨by dsimp only; omega, by dsimp only; omega, fun q => absurd q (by dsimp only; omega), fun q => by first | exact absurd (q t (by dsimp only; omega)) c36 | (have h0 : b = 0 := by rw [← nI_0, nI_eq (by omega) (by omega)] at c18; exact c18); have := hb.mpr (fun j hj => q j (by dsimp only; omega)); omega⟩ (by dsimp only; omega)
    · refine mw_steps X 1 (pc' := 22) (lv' := [(3, .int (nI t)), (2, .int (nI b)), (0, .ref mb), (1, .int (nI 0))]) (st' := [.ref mb]) rfl ?_
      refine mw_get X kf_X5_7.fl kc_5 rfl (v := .ref (mb + 1)) (fun H h => ⟨_, h.1, rfl⟩) ?_
      refine mw_steps X 7 (pc' := 34) (lv' := [(3, .int (nI t)), (2, .int (nI b)), (0, .ref mb), (1, .int (nI 0))]) (st' := [.int (((nI 127) + ((nI 100) * (nI 0))) + (nI t)), .ref (mb + 1)]) rfl ?_
      refine mw_iald X (v := W (127 + 100 * 0 + t)) (127 + 100 * 0 + t) (by simp only [nI_add, pk_mul]) rfl (fun H h => ⟨_, _, h.2.1, by omega, by decide, rfl⟩) ?_
      refine mw_steps X 1 (pc' := 36) (lv' := [(3, .int (nI t)), (2, .int (nI b)), (0, .ref mb), (1, .int (nI 0))]) (st' := [.int (nI 1), .int (W (127 + 100 * 0 + t))]) rfl ?_
      refine mw_icmp_ne X 43 rfl rfl (fun c36 => ?_) (fun c36 => ?_)
      · refine mw_steps X 4 (pc' := 4) (lv' := [(3, .int ((nI t) + (nI 1))), (2, .int (nI 0)), (0, .ref mb), (1, .int (nI 0))]) (st' := []) rfl ?_
        refine mw_lveq (lv' := [(3, .int (nI (t + 1))), (2, .int (nI 0)), (0, .ref mb), (1, .int (nI 0))]) (by simp only [nI_add]) ?_
        exact ih (t + 1, 0) ⟨by dsimp only; omega, by dsimp only; omega, fun q => absurd q (by dsimp only; omega), fun q => by first | exact absurd (q t (by dsimp only; omega)) c36 | (have h0 : b = 0 := by rw [← nI_0, nI_eq (by omega) (by omega)] at c18; exact c18); have := hb.mpr (fun j hj => q j (by dsimp only; omega)); omega⟩ (by dsimp only; omega)
      · refine mw_steps X 5 (pc' := 4) (lv' := [(3, .int ((nI t) + (nI 1))), (2, .int (nI 1)), (0, .ref mb), (1, .int (nI 0))]) (st' := []) rfl ?_
        refine mw_lveq (lv' := [(3, .int (nI (t + 1))), (2, .int (nI 1)), (0, .ref mb), (1, .int (nI 0))]) (by simp only [nI_add]) ?_
        exact ih (t + 1, 1) ⟨by dsimp only; omega, by dsimp only; omega, fun _ => ml_succ (hb.mp (by have : ¬ b = 0 := fun q => c18 (by rw [q]; rfl); omega)) c36, fun _ => rfl⟩ (by dsimp only; omega)
set_option maxHeartbeats 4000000 in
set_option maxRecDepth 20000 in
theorem cm_hasAll1 {l : Launch} {Γ : mw_C} {mb : Nat} (hmb : Γ.2.2.2 ≤ mb) {W : Nat → Int32} {ρ : md_R} {H : Heap} {c : Nat} (hH : md_I Γ mb W ρ H) (hv : iv c W) : mw_Cr l Γ mX5_hasAll 1 0 0 (md_A mb) [.ref mb, .int (nI 1)] H (some (.int (mo_b (mo_ha W 1)))) (md_I Γ mb W ρ) := by
  obtain ⟨⟨n, hn2, hn⟩, -⟩ := hv.2.2.2.2.2.2.2.1 0 (by omega)
  refine mw_ofG (P := pX5_hasAll) (by decide) (md_As hmb) oX5_hasAll (Nat.le_of_ble_eq_true rfl) ?_
  intro pg e0 sg mg below meth cd X hs
  refine mw_pre (I' := md_I Γ mb W ρ) (fun H1 h1 => by rw [h1]; exact hH) ?_
  refine mw_steps X 4 (pc' := 4) (lv' := [(3, .int (nI 0)), (2, .int (nI 1)), (0, .ref mb), (1, .int (nI 1))]) (st' := []) rfl ?_
  refine mw_wf (σ := Nat × Nat) (fun q => n - q.1) (fun q => q.1 ≤ n ∧ q.2 < 2 ∧ (q.2 = 1 ↔ ∀ j, j < q.1 → W (127 + 100 * 1 + j) = nI 1)) (fun _ => md_I Γ mb W ρ) (fun q => [(3, .int (nI q.1)), (2, .int (nI q.2)), (0, .ref mb), (1, .int (nI 1))]) (fun q hq ih => ?_) (0, 1) ⟨Nat.zero_le _, by decide, fun _ j hj => absurd hj (Nat.not_lt_zero j), fun _ => rfl⟩
  obtain ⟨t, b⟩ := q
  obtain ⟨ht, hb2, hb⟩ := hq
  dsimp only at ht hb2 hb ⊢
  refine mw_steps X 2 (pc' := 6) (lv' := [(3, .int (nI t)), (2, .int (nI b)), (0, .ref mb), (1, .int (nI 1))]) (st' := [.ref mb, .int (nI t)]) rfl ?_
  refine mw_get X kf_X5_7.fl kc_5 rfl (v := .ref (mb + 1)) (fun H h => ⟨_, h.1, rfl⟩) ?_
  refine mw_steps X 3 (pc' := 13) (lv' := [(3, .int (nI t)), (2, .int (nI b)), (0, .ref mb), (1, .int (nI 1))]) (st' := [.int ((nI 19) - (nI 1)), .ref (mb + 1), .int (nI t)]) rfl ?_
  refine mw_iald X (v := nI n) (18) (by decide) rfl (fun H h => ⟨_, _, h.2.1, by omega, by decide, hn⟩) ?_
  refine mw_icmp_ge X 51 rfl rfl (fun c14 => ?_) (fun c14 => ?_)
  · have htn : t = n := by rw [nI_leI (by omega) (by omega)] at c14; omega
    refine mw_steps X 1 (pc' := 52) (lv' := [(3, .int (nI t)), (2, .int (nI b)), (0, .ref mb), (1, .int (nI 1))]) (st' := [.int (nI b)]) rfl ?_
    have hres : nI b = mo_b (mo_ha W 1) := by
      have hi := ml_ha_iff (e := 1) (n := n) hn hn2
      subst htn
      rcases (show b = 0 ∨ b = 1 by omega) with rfl | rfl
      · rw [show mo_ha W 1 = false from Bool.eq_false_iff.mpr (fun q => absurd (hb.mpr (hi.mp q)) (by decide))]; rfl
      · rw [show mo_ha W 1 = true from hi.mpr (hb.mp rfl)]; rfl
    exact mw_zret X rfl (by rw [hres]; exact mo_b_or _) rfl (fun H h => ⟨by rw [hres], h⟩)
  · have htn : t < n := by rw [nI_leI (by omega) (by omega)] at c14; omega
    refine mw_steps X 1 (pc' := 18) (lv' := [(3, .int (nI t)), (2, .int (nI b)), (0, .ref mb), (1, .int (nI 1))]) (st' := [.int (nI b)]) rfl ?_
    refine mw_if_eq X 43 rfl rfl (fun c18 => ?_) (fun c18 => ?_)
    · refine mw_steps X 4 (pc' := 4) (lv' := [(3, .int ((nI t) + (nI 1))), (2, .int (nI 0)), (0, .ref mb), (1, .int (nI 1))]) (st' := []) rfl ?_
      refine mw_lveq (lv' := [(3, .int (nI (t + 1))), (2, .int (nI 0)), (0, .ref mb), (1, .int (nI 1))]) (by simp only [nI_add]) ?_
      exact ih (t + 1, 0) ⟨by dsimp only; omega, by dsimp only; omega, fun q => absurd q (by dsimp only; omega), fun q => by first | exact absurd (q t (by dsimp only; omega)) c36 | (have h0 : b = 0 := by rw [← nI_0, nI_eq (by omega) (by omega)] at c18; exact c18); have := hb.mpr (fun j hj => q j (by dsimp only; omega)); omega⟩ (by dsimp only; omega)
    · refine mw_steps X 1 (pc' := 22) (lv' := [(3, .int (nI t)), (2, .int (nI b)), (0, .ref mb), (1, .int (nI 1))]) (st' := [.ref mb]) rfl ?_
      refine mw_get X kf_X5_7.fl kc_5 rfl (v := .ref (mb + 1)) (fun H h => ⟨_, h.1, rfl⟩) ?_
      refine mw_steps X 7 (pc' := 34) (lv' := [(3, .int (nI t)), (2, .int (nI b)), (0, .ref mb), (1, .int (nI 1))]) (st' := [.int (((nI 127) + ((nI 100) * (nI 1))) + (nI t)), .ref (mb + 1)]) rfl ?_
      refine mw_iald X (v := W (127 + 100 * 1 + t)) (127 + 100 * 1 + t) (by simp only [nI_add, pk_mul]) rfl (fun H h => ⟨_, _, h.2.1, by omega, by decide, rfl⟩) ?_
      refine mw_steps X 1 (pc' := 36) (lv' := [(3, .int (nI t)), (2, .int (nI b)), (0, .ref mb), (1, .int (nI 1))]) (st' := [.int (nI 1), .int (W (127 + 100 * 1 + t))]) rfl ?_
      refine mw_icmp_ne X 43 rfl rfl (fun c36 => ?_) (fun c36 => ?_)
      · refine mw_steps X 4 (pc' := 4) (lv' := [(3, .int ((nI t) + (nI 1))), (2, .int (nI 0)), (0, .ref mb), (1, .int (nI 1))]) (st' := []) rfl ?_
        refine mw_lveq (lv' := [(3, .int (nI (t + 1))), (2, .int (nI 0)), (0, .ref mb), (1, .int (nI 1))]) (by simp only [nI_add]) ?_
        exact ih (t + 1, 0) ⟨by dsimp only; omega, by dsimp only; omega, fun q => absurd q (by dsimp only; omega), fun q => by first | exact absurd (q t (by dsimp only; omega)) c36 | (have h0 : b = 0 := by rw [← nI_0, nI_eq (by omega) (by omega)] at c18; exact c18); have := hb.mpr (fun j hj => q j (by dsimp only; omega)); omega⟩ (by dsimp only; omega)
      · refine mw_steps X 5 (pc' := 4) (lv' := [(3, .int ((nI t) + (nI 1))), (2, .int (nI 1)), (0, .ref mb), (1, .int (nI 1))]) (st' := []) rfl ?_
        refine mw_lveq (lv' := [(3, .int (nI (t + 1))), (2, .int (nI 1)), (0, .ref mb), (1, .int (nI 1))]) (by simp only [nI_add]) ?_
        exact ih (t + 1, 1) ⟨by dsimp only; omega, by dsimp only; omega, fun _ => ml_succ (hb.mp (by have : ¬ b = 0 := fun q => c18 (by rw [q]; rfl); omega)) c36, fun _ => rfl⟩ (by dsimp only; omega)
set_option maxHeartbeats 4000000 in
set_option maxRecDepth 20000 in
theorem cm_settled {l : Launch} {Γ : mw_C} {mb : Nat} (hmb : Γ.2.2.2 ≤ mb) {W : Nat → Int32} {ρ : md_R} {H : Heap} {c : Nat} (hH : md_I Γ mb W ρ H) (hv : iv c W) : mw_Cr l Γ mX5_isSettled 2 0 0 (md_A mb) [.ref mb] H (some (.int (mo_b (mo_settled W)))) (md_I Γ mb W ρ) := by
  obtain ⟨cu, hcu5, hcu⟩ := ml_c2 hv
  refine mw_ofG (P := pX5_isSettled) (by decide) (md_As hmb) oX5_isSettled (Nat.le_of_ble_eq_true rfl) ?_
  intro pg e0 sg mg below meth cd X hs
  refine mw_pre (I' := md_I Γ mb W ρ) (fun H1 h1 => by rw [h1]; exact hH) ?_
  refine mw_steps X 1 (pc' := 1) (lv' := [(0, .ref mb)]) (st' := [.ref mb]) rfl ?_
  refine mw_get X kf_X5_7.fl kc_5 rfl (v := .ref (mb + 1)) (fun H h => ⟨_, h.1, rfl⟩) ?_
  refine mw_steps X 1 (pc' := 5) (lv' := [(0, .ref mb)]) (st' := [.int (nI 2), .ref (mb + 1)]) rfl ?_
  refine mw_iald X (v := nI cu) (2) rfl rfl (fun H h => ⟨_, _, h.2.1, by omega, by decide, hcu⟩) ?_
  refine mw_steps X 3 (pc' := 9) (lv' := [(1, .int (nI cu)), (0, .ref mb)]) (st' := [.ref mb, .int (nI cu)]) rfl ?_
  refine mw_get X kf_X5_7.fl kc_5 rfl (v := .ref (mb + 1)) (fun H h => ⟨_, h.1, rfl⟩) ?_
  refine mw_steps X 1 (pc' := 13) (lv' := [(1, .int (nI cu)), (0, .ref mb)]) (st' := [.int (nI 3), .ref (mb + 1), .int (nI cu)]) rfl ?_
  refine mw_iald X (v := W (3)) (3) rfl rfl (fun H h => ⟨_, _, h.2.1, by omega, by decide, rfl⟩) ?_
  refine mw_icmp_ne X 46 rfl rfl (fun c14 => ?_) (fun c14 => ?_)
  · refine mw_steps X 3 (pc' := 49) (lv' := [(2, .int (nI 0)), (1, .int (nI cu)), (0, .ref mb)]) (st' := [.int (nI 0)]) rfl ?_
    refine mw_if_eq X 92 rfl rfl (fun c49 => ?_) (fun c49 => absurd (by decide) c49)
    refine mw_steps X 1 (pc' := 93) (lv' := [(2, .int (nI 0)), (1, .int (nI cu)), (0, .ref mb)]) (st' := [.int (nI 0)]) rfl ?_
    exact mw_zret X rfl (by decide) rfl (fun H h => ⟨congrArg (fun z => some (Value.int z)) (by rw [ml_set_f hcu hcu5 (by first | exact Or.inl c14 | exact Or.inr (Or.inl c27) | exact Or.inr (Or.inr (Or.inl c39)) | exact Or.inr (Or.inr (Or.inr (Or.inl c59))) | exact Or.inr (Or.inr (Or.inr (Or.inr (Or.inl c69)))) | exact Or.inr (Or.inr (Or.inr (Or.inr (Or.inr (Or.inl (mo_b_z c77)))))) | exact Or.inr (Or.inr (Or.inr (Or.inr (Or.inr (Or.inr (mo_b_z c85)))))))]; rfl), h⟩)
  · refine mw_steps X 1 (pc' := 18) (lv' := [(1, .int (nI cu)), (0, .ref mb)]) (st' := [.ref mb]) rfl ?_
    refine mw_get X kf_X5_7.fl kc_5 rfl (v := .ref (mb + 1)) (fun H h => ⟨_, h.1, rfl⟩) ?_
    refine mw_steps X 3 (pc' := 25) (lv' := [(1, .int (nI cu)), (0, .ref mb)]) (st' := [.int ((nI 32) + (nI cu)), .ref (mb + 1)]) rfl ?_
    refine mw_iald X (v := W (32 + cu)) (32 + cu) (by simp only [nI_add, pk_mul]) rfl (fun H h => ⟨_, _, h.2.1, by omega, by decide, rfl⟩) ?_
    refine mw_steps X 1 (pc' := 27) (lv' := [(1, .int (nI cu)), (0, .ref mb)]) (st' := [.int (nI 1), .int (W (32 + cu))]) rfl ?_
    refine mw_icmp_ne X 46 rfl rfl (fun c27 => ?_) (fun c27 => ?_)
    · refine mw_steps X 3 (pc' := 49) (lv' := [(2, .int (nI 0)), (1, .int (nI cu)), (0, .ref mb)]) (st' := [.int (nI 0)]) rfl ?_
      refine mw_if_eq X 92 rfl rfl (fun c49 => ?_) (fun c49 => absurd (by decide) c49)
      refine mw_steps X 1 (pc' := 93) (lv' := [(2, .int (nI 0)), (1, .int (nI cu)), (0, .ref mb)]) (st' := [.int (nI 0)]) rfl ?_
      exact mw_zret X rfl (by decide) rfl (fun H h => ⟨congrArg (fun z => some (Value.int z)) (by rw [ml_set_f hcu hcu5 (by first | exact Or.inl c14 | exact Or.inr (Or.inl c27) | exact Or.inr (Or.inr (Or.inl c39)) | exact Or.inr (Or.inr (Or.inr (Or.inl c59))) | exact Or.inr (Or.inr (Or.inr (Or.inr (Or.inl c69)))) | exact Or.inr (Or.inr (Or.inr (Or.inr (Or.inr (Or.inl (mo_b_z c77)))))) | exact Or.inr (Or.inr (Or.inr (Or.inr (Or.inr (Or.inr (mo_b_z c85)))))))]; rfl), h⟩)
    · refine mw_steps X 1 (pc' := 31) (lv' := [(1, .int (nI cu)), (0, .ref mb)]) (st' := [.ref mb]) rfl ?_
      refine mw_get X kf_X5_7.fl kc_5 rfl (v := .ref (mb + 1)) (fun H h => ⟨_, h.1, rfl⟩) ?_
      refine mw_steps X 3 (pc' := 38) (lv' := [(1, .int (nI cu)), (0, .ref mb)]) (st' := [.int ((nI 22) + (nI cu)), .ref (mb + 1)]) rfl ?_
      refine mw_iald X (v := W (22 + cu)) (22 + cu) (by simp only [nI_add, pk_mul]) rfl (fun H h => ⟨_, _, h.2.1, by omega, by decide, rfl⟩) ?_
      refine mw_if_lt X 46 rfl rfl (fun c39 => ?_) (fun c39 => ?_)
      · refine mw_steps X 3 (pc' := 49) (lv' := [(2, .int (nI 0)), (1, .int (nI cu)), (0, .ref mb)]) (st' := [.int (nI 0)]) rfl ?_
        refine mw_if_eq X 92 rfl rfl (fun c49 => ?_) (fun c49 => absurd (by decide) c49)
        refine mw_steps X 1 (pc' := 93) (lv' := [(2, .int (nI 0)), (1, .int (nI cu)), (0, .ref mb)]) (st' := [.int (nI 0)]) rfl ?_
        exact mw_zret X rfl (by decide) rfl (fun H h => ⟨congrArg (fun z => some (Value.int z)) (by rw [ml_set_f hcu hcu5 (by first | exact Or.inl c14 | exact Or.inr (Or.inl c27) | exact Or.inr (Or.inr (Or.inl c39)) | exact Or.inr (Or.inr (Or.inr (Or.inl c59))) | exact Or.inr (Or.inr (Or.inr (Or.inr (Or.inl c69)))) | exact Or.inr (Or.inr (Or.inr (Or.inr (Or.inr (Or.inl (mo_b_z c77)))))) | exact Or.inr (Or.inr (Or.inr (Or.inr (Or.inr (Or.inr (mo_b_z c85)))))))]; rfl), h⟩)
      · refine mw_steps X 4 (pc' := 49) (lv' := [(2, .int (nI 1)), (1, .int (nI cu)), (0, .ref mb)]) (st' := [.int (nI 1)]) rfl ?_
        refine mw_if_eq X 92 rfl rfl (fun c49 => absurd c49 (by decide)) (fun c49 => ?_)
        refine mw_steps X 1 (pc' := 53) (lv' := [(2, .int (nI 1)), (1, .int (nI cu)), (0, .ref mb)]) (st' := [.ref mb]) rfl ?_
        refine mw_get X kf_X5_7.fl kc_5 rfl (v := .ref (mb + 1)) (fun H h => ⟨_, h.1, rfl⟩) ?_
        refine mw_steps X 1 (pc' := 58) (lv' := [(2, .int (nI 1)), (1, .int (nI cu)), (0, .ref mb)]) (st' := [.int (nI 11), .ref (mb + 1)]) rfl ?_
        refine mw_iald X (v := W (11)) (11) rfl rfl (fun H h => ⟨_, _, h.2.1, by omega, by decide, rfl⟩) ?_
        refine mw_if_ne X 92 rfl rfl (fun c59 => ?_) (fun c59 => ?_)
        · refine mw_steps X 1 (pc' := 93) (lv' := [(2, .int (nI 1)), (1, .int (nI cu)), (0, .ref mb)]) (st' := [.int (nI 0)]) rfl ?_
          exact mw_zret X rfl (by decide) rfl (fun H h => ⟨congrArg (fun z => some (Value.int z)) (by rw [ml_set_f hcu hcu5 (by first | exact Or.inl c14 | exact Or.inr (Or.inl c27) | exact Or.inr (Or.inr (Or.inl c39)) | exact Or.inr (Or.inr (Or.inr (Or.inl c59))) | exact Or.inr (Or.inr (Or.inr (Or.inr (Or.inl c69)))) | exact Or.inr (Or.inr (Or.inr (Or.inr (Or.inr (Or.inl (mo_b_z c77)))))) | exact Or.inr (Or.inr (Or.inr (Or.inr (Or.inr (Or.inr (mo_b_z c85)))))))]; rfl), h⟩)
        · refine mw_steps X 1 (pc' := 63) (lv' := [(2, .int (nI 1)), (1, .int (nI cu)), (0, .ref mb)]) (st' := [.ref mb]) rfl ?_
          refine mw_get X kf_X5_7.fl kc_5 rfl (v := .ref (mb + 1)) (fun H h => ⟨_, h.1, rfl⟩) ?_
          refine mw_steps X 1 (pc' := 68) (lv' := [(2, .int (nI 1)), (1, .int (nI cu)), (0, .ref mb)]) (st' := [.int (nI 12), .ref (mb + 1)]) rfl ?_
          refine mw_iald X (v := W (12)) (12) rfl rfl (fun H h => ⟨_, _, h.2.1, by omega, by decide, rfl⟩) ?_
          refine mw_if_ne X 92 rfl rfl (fun c69 => ?_) (fun c69 => ?_)
          · refine mw_steps X 1 (pc' := 93) (lv' := [(2, .int (nI 1)), (1, .int (nI cu)), (0, .ref mb)]) (st' := [.int (nI 0)]) rfl ?_
            exact mw_zret X rfl (by decide) rfl (fun H h => ⟨congrArg (fun z => some (Value.int z)) (by rw [ml_set_f hcu hcu5 (by first | exact Or.inl c14 | exact Or.inr (Or.inl c27) | exact Or.inr (Or.inr (Or.inl c39)) | exact Or.inr (Or.inr (Or.inr (Or.inl c59))) | exact Or.inr (Or.inr (Or.inr (Or.inr (Or.inl c69)))) | exact Or.inr (Or.inr (Or.inr (Or.inr (Or.inr (Or.inl (mo_b_z c77)))))) | exact Or.inr (Or.inr (Or.inr (Or.inr (Or.inr (Or.inr (mo_b_z c85)))))))]; rfl), h⟩)
          · refine mw_steps X 2 (pc' := 74) (lv' := [(2, .int (nI 1)), (1, .int (nI cu)), (0, .ref mb)]) (st' := [.int (nI 0), .ref mb]) rfl ?_
            refine mw_cV1r X kd_X5_hasAll kv_X5_hasAll kl_X5_116 (ci := 5) rfl rfl (Nat.le_of_ble_eq_true rfl) ⟨Nat.le_of_ble_eq_true rfl, Nat.le_of_ble_eq_true rfl⟩ ⟨Nat.le_of_ble_eq_true rfl, Nat.le_of_ble_eq_true rfl⟩ (fun _ h => h) (fun H h => ⟨⟨_, h.1⟩, cm_hasAll0 hmb h hv⟩) ?_
            refine mw_if_eq X 92 rfl rfl (fun c77 => ?_) (fun c77 => ?_)
            · refine mw_steps X 1 (pc' := 93) (lv' := [(2, .int (nI 1)), (1, .int (nI cu)), (0, .ref mb)]) (st' := [.int (nI 0)]) rfl ?_
              exact mw_zret X rfl (by decide) rfl (fun H h => ⟨congrArg (fun z => some (Value.int z)) (by rw [ml_set_f hcu hcu5 (by first | exact Or.inl c14 | exact Or.inr (Or.inl c27) | exact Or.inr (Or.inr (Or.inl c39)) | exact Or.inr (Or.inr (Or.inr (Or.inl c59))) | exact Or.inr (Or.inr (Or.inr (Or.inr (Or.inl c69)))) | exact Or.inr (Or.inr (Or.inr (Or.inr (Or.inr (Or.inl (mo_b_z c77)))))) | exact Or.inr (Or.inr (Or.inr (Or.inr (Or.inr (Or.inr (mo_b_z c85)))))))]; rfl), h⟩)
            · refine mw_steps X 2 (pc' := 82) (lv' := [(2, .int (nI 1)), (1, .int (nI cu)), (0, .ref mb)]) (st' := [.int (nI 1), .ref mb]) rfl ?_
              refine mw_cV1r X kd_X5_hasAll kv_X5_hasAll kl_X5_116 (ci := 5) rfl rfl (Nat.le_of_ble_eq_true rfl) ⟨Nat.le_of_ble_eq_true rfl, Nat.le_of_ble_eq_true rfl⟩ ⟨Nat.le_of_ble_eq_true rfl, Nat.le_of_ble_eq_true rfl⟩ (fun _ h => h) (fun H h => ⟨⟨_, h.1⟩, cm_hasAll1 hmb h hv⟩) ?_
              refine mw_if_eq X 92 rfl rfl (fun c85 => ?_) (fun c85 => ?_)
              · refine mw_steps X 1 (pc' := 93) (lv' := [(2, .int (nI 1)), (1, .int (nI cu)), (0, .ref mb)]) (st' := [.int (nI 0)]) rfl ?_
                exact mw_zret X rfl (by decide) rfl (fun H h => ⟨congrArg (fun z => some (Value.int z)) (by rw [ml_set_f hcu hcu5 (by first | exact Or.inl c14 | exact Or.inr (Or.inl c27) | exact Or.inr (Or.inr (Or.inl c39)) | exact Or.inr (Or.inr (Or.inr (Or.inl c59))) | exact Or.inr (Or.inr (Or.inr (Or.inr (Or.inl c69)))) | exact Or.inr (Or.inr (Or.inr (Or.inr (Or.inr (Or.inl (mo_b_z c77)))))) | exact Or.inr (Or.inr (Or.inr (Or.inr (Or.inr (Or.inr (mo_b_z c85)))))))]; rfl), h⟩)
              · refine mw_steps X 2 (pc' := 93) (lv' := [(2, .int (nI 1)), (1, .int (nI cu)), (0, .ref mb)]) (st' := [.int (nI 1)]) rfl ?_
                exact mw_zret X rfl (by decide) rfl (fun H h => ⟨congrArg (fun z => some (Value.int z)) (by rw [ml_set_t hcu hcu5 c14 c27 c39 c59 c69 (mo_b_nz c77) (mo_b_nz c85)]; rfl), h⟩)
set_option maxHeartbeats 4000000 in
set_option maxRecDepth 20000 in
theorem cm_wrong {l : Launch} {Γ : mw_C} {mb : Nat} (hmb : Γ.2.2.2 ≤ mb) {W : Nat → Int32} {ρ : md_R} {H : Heap}  (hH : md_I Γ mb W ρ H) (hk : iv_k ρ) : mw_Cr l Γ mX5_wrong 1 0 0 (md_A mb) [.ref mb] H (some (.int (mo_ix (mo_wr W ρ.2.2.2.1 ρ.2.2.2.2.1 ρ.2.2.2.2.2.1 (mo_n ρ.2.2.2.2.2.2)) (mo_n ρ.2.2.2.2.2.2)))) (md_I Γ mb W ρ) := by
  obtain ⟨n, hn2, hn, hrow⟩ := hk
  rw [hn, ml_n (by omega)]
  refine mw_ofG (P := pX5_wrong) (by decide) (md_As hmb) oX5_wrong (Nat.le_of_ble_eq_true rfl) ?_
  intro pg e0 sg mg below meth cd X hs
  refine mw_pre (I' := md_I Γ mb W ρ) (fun H1 h1 => by rw [h1]; exact hH) ?_
  refine mw_steps X 2 (pc' := 2) (lv' := [(1, .int (nI 0)), (0, .ref mb)]) (st' := []) rfl ?_
  refine mw_wf (fun t => n - t) (fun t => t ≤ n ∧ ∀ j, j < t → W (127 + 100 * mo_n (ρ.2.2.2.1 j) + mo_n (ρ.2.2.2.2.1 j)) = ρ.2.2.2.2.2.1 j) (fun _ => md_I Γ mb W ρ) (fun t => [(1, .int (nI t)), (0, .ref mb)]) (fun t ht ih => ?_) 0 ⟨Nat.zero_le _, fun j hj => absurd hj (Nat.not_lt_zero j)⟩
  obtain ⟨ht, hno⟩ := ht
  refine mw_steps X 2 (pc' := 4) (lv' := [(1, .int (nI t)), (0, .ref mb)]) (st' := [.ref mb, .int (nI t)]) rfl ?_
  refine mw_get X kf_X5_119.fl kc_5 rfl (v := .int ρ.2.2.2.2.2.2) (fun H h => ⟨_, h.1, rfl⟩) ?_
  refine mw_icmp_ge X 51 rfl rfl (fun c7 => ?_) (fun c7 => ?_)
  · have htn : t = n := by rw [hn, nI_leI (by omega) (by omega)] at c7; omega
    refine mw_steps X 1 (pc' := 52) (lv' := [(1, .int (nI t)), (0, .ref mb)]) (st' := [.int (-1)]) rfl ?_
    exact mw_iret X rfl rfl (fun H h => ⟨congrArg (fun z => some (Value.int z)) (by subst htn; unfold mo_ix; rw [ml_wr_none hno, if_neg (by omega)]), h⟩)
  · have htn : t < n := by rw [hn, nI_leI (by omega) (by omega)] at c7; omega
    obtain ⟨e, v, b, he, hv, hb, q1, q2, q3⟩ := hrow t htn
    refine mw_steps X 1 (pc' := 11) (lv' := [(1, .int (nI t)), (0, .ref mb)]) (st' := [.ref mb]) rfl ?_
    refine mw_get X kf_X5_7.fl kc_5 rfl (v := .ref (mb + 1)) (fun H h => ⟨_, h.1, rfl⟩) ?_
    refine mw_steps X 3 (pc' := 19) (lv' := [(1, .int (nI t)), (0, .ref mb)]) (st' := [.ref mb, .int (nI 100), .int (nI 127), .ref (mb + 1)]) rfl ?_
    refine mw_get X kf_X5_16.fl kc_5 rfl (v := .ref (mb + 3)) (fun H h => ⟨_, h.1, rfl⟩) ?_
    refine mw_steps X 1 (pc' := 23) (lv' := [(1, .int (nI t)), (0, .ref mb)]) (st' := [.int (nI t), .ref (mb + 3), .int (nI 100), .int (nI 127), .ref (mb + 1)]) rfl ?_
    refine mw_iald X (v := nI e) (t) rfl rfl (fun H h => ⟨_, _, h.2.2.2.1, by omega, by decide, q1⟩) ?_
    refine mw_steps X 3 (pc' := 27) (lv' := [(1, .int (nI t)), (0, .ref mb)]) (st' := [.ref mb, .int ((nI 127) + ((nI 100) * (nI e))), .ref (mb + 1)]) rfl ?_
    refine mw_get X kf_X5_19.fl kc_5 rfl (v := .ref (mb + 4)) (fun H h => ⟨_, h.1, rfl⟩) ?_
    refine mw_steps X 1 (pc' := 31) (lv' := [(1, .int (nI t)), (0, .ref mb)]) (st' := [.int (nI t), .ref (mb + 4), .int ((nI 127) + ((nI 100) * (nI e))), .ref (mb + 1)]) rfl ?_
    refine mw_iald X (v := nI v) (t) rfl rfl (fun H h => ⟨_, _, h.2.2.2.2.1, by omega, by decide, q2⟩) ?_
    refine mw_steps X 1 (pc' := 33) (lv' := [(1, .int (nI t)), (0, .ref mb)]) (st' := [.int (((nI 127) + ((nI 100) * (nI e))) + (nI v)), .ref (mb + 1)]) rfl ?_
    refine mw_iald X (v := W (127 + 100 * e + v)) (127 + 100 * e + v) (by simp only [nI_add, pk_mul]) rfl (fun H h => ⟨_, _, h.2.1, by omega, by decide, rfl⟩) ?_
    refine mw_steps X 1 (pc' := 35) (lv' := [(1, .int (nI t)), (0, .ref mb)]) (st' := [.ref mb, .int (W (127 + 100 * e + v))]) rfl ?_
    refine mw_get X kf_X5_22.fl kc_5 rfl (v := .ref (mb + 5)) (fun H h => ⟨_, h.1, rfl⟩) ?_
    refine mw_steps X 1 (pc' := 39) (lv' := [(1, .int (nI t)), (0, .ref mb)]) (st' := [.int (nI t), .ref (mb + 5), .int (W (127 + 100 * e + v))]) rfl ?_
    refine mw_iald X (v := ρ.2.2.2.2.2.1 t) (t) rfl rfl (fun H h => ⟨_, _, h.2.2.2.2.2, by omega, by decide, rfl⟩) ?_
    refine mw_icmp_eq X 45 rfl rfl (fun c40 => ?_) (fun c40 => ?_)
    · refine mw_steps X 2 (pc' := 2) (lv' := [(1, .int ((nI t) + (nI 1))), (0, .ref mb)]) (st' := []) rfl ?_
      refine mw_lveq (lv' := [(1, .int (nI (t + 1))), (0, .ref mb)]) (by simp only [nI_add]) ?_
      exact ih (t + 1) ⟨by omega, ml_succ hno (by rw [q1, q2, ml_n (by omega), ml_n (by omega)]; exact c40)⟩ (by omega)
    · refine mw_steps X 1 (pc' := 44) (lv' := [(1, .int (nI t)), (0, .ref mb)]) (st' := [.int (nI t)]) rfl ?_
      exact mw_iret X rfl rfl (fun H h => ⟨congrArg (fun z => some (Value.int z)) (by unfold mo_ix; rw [ml_wr_is htn q1 q2 he hv c40 hno, if_pos htn]), h⟩)
end
