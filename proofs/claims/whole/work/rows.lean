section
/-- a private method of a class that the tables say can be made, by its rows of tables_1 -/
def lw_okq (q : MethodName × Nat) : Prop := (q.1.cls ≠ "java/lang/invoke/MethodHandle" ∧ q.1.cls ≠ "java/lang/invoke/VarHandle") ∧ Cond.instantiable q.1.cls q.2 ∈ tables_1 ∧ Cond.privateMethod q.1 ∈ tables_1 ∧ Cond.instanceMethod q.1 ∈ tables_1
theorem lw_p0 : lw_okq (⟨"RopeWalk", "spin", "(III)I"⟩, 9) := ⟨⟨by decide +kernel, by decide +kernel⟩, List.mem_of_getElem? (i := 9) (by decide +kernel), List.mem_of_getElem? (i := 77) (by decide +kernel), List.mem_of_getElem? (i := 78) (by decide +kernel)⟩
theorem lw_p1 : lw_okq (⟨"RopeWalk", "keep", "(LRopeWalk$Piece;)I"⟩, 9) := ⟨⟨by decide +kernel, by decide +kernel⟩, List.mem_of_getElem? (i := 9) (by decide +kernel), List.mem_of_getElem? (i := 143) (by decide +kernel), List.mem_of_getElem? (i := 144) (by decide +kernel)⟩
theorem lw_p2 : lw_okq (⟨"RopeWalk", "freePiece", "(I)LRopeWalk$Piece;"⟩, 9) := ⟨⟨by decide +kernel, by decide +kernel⟩, List.mem_of_getElem? (i := 9) (by decide +kernel), List.mem_of_getElem? (i := 155) (by decide +kernel), List.mem_of_getElem? (i := 156) (by decide +kernel)⟩
theorem lw_p3 : lw_okq (⟨"RopeWalk", "pieceAt", "(I)LRopeWalk$Piece;"⟩, 9) := ⟨⟨by decide +kernel, by decide +kernel⟩, List.mem_of_getElem? (i := 9) (by decide +kernel), List.mem_of_getElem? (i := 159) (by decide +kernel), List.mem_of_getElem? (i := 160) (by decide +kernel)⟩
theorem lw_p4 : lw_okq (⟨"RopeWalk", "isPicked", "(LRopeWalk$Piece;)Z"⟩, 9) := ⟨⟨by decide +kernel, by decide +kernel⟩, List.mem_of_getElem? (i := 9) (by decide +kernel), List.mem_of_getElem? (i := 163) (by decide +kernel), List.mem_of_getElem? (i := 164) (by decide +kernel)⟩
theorem lw_p5 : lw_okq (⟨"RopeWalk", "pickedFit", "(II)Z"⟩, 9) := ⟨⟨by decide +kernel, by decide +kernel⟩, List.mem_of_getElem? (i := 9) (by decide +kernel), List.mem_of_getElem? (i := 178) (by decide +kernel), List.mem_of_getElem? (i := 179) (by decide +kernel)⟩
theorem lw_p6 : lw_okq (⟨"RopeWalk", "shortestPicked", "()I"⟩, 9) := ⟨⟨by decide +kernel, by decide +kernel⟩, List.mem_of_getElem? (i := 9) (by decide +kernel), List.mem_of_getElem? (i := 188) (by decide +kernel), List.mem_of_getElem? (i := 189) (by decide +kernel)⟩
theorem lw_p7 : lw_okq (⟨"RopeWalk", "pickedParts", "()[LRopeWalk$Piece;"⟩, 9) := ⟨⟨by decide +kernel, by decide +kernel⟩, List.mem_of_getElem? (i := 9) (by decide +kernel), List.mem_of_getElem? (i := 195) (by decide +kernel), List.mem_of_getElem? (i := 196) (by decide +kernel)⟩
theorem lw_p8 : lw_okq (⟨"RopeWalk", "piecesThatAre", "(I)I"⟩, 9) := ⟨⟨by decide +kernel, by decide +kernel⟩, List.mem_of_getElem? (i := 9) (by decide +kernel), List.mem_of_getElem? (i := 228) (by decide +kernel), List.mem_of_getElem? (i := 229) (by decide +kernel)⟩
theorem lw_p9 : lw_okq (⟨"RopeWalk", "cutOrders", "()I"⟩, 9) := ⟨⟨by decide +kernel, by decide +kernel⟩, List.mem_of_getElem? (i := 9) (by decide +kernel), List.mem_of_getElem? (i := 232) (by decide +kernel), List.mem_of_getElem? (i := 233) (by decide +kernel)⟩
theorem lw_p10 : lw_okq (⟨"RopeWalk", "pieceNotGone", "(I)LRopeWalk$Piece;"⟩, 9) := ⟨⟨by decide +kernel, by decide +kernel⟩, List.mem_of_getElem? (i := 9) (by decide +kernel), List.mem_of_getElem? (i := 240) (by decide +kernel), List.mem_of_getElem? (i := 241) (by decide +kernel)⟩
theorem lw_p11 : lw_okq (⟨"RopeWalk", "isCutFrom", "(I)Z"⟩, 9) := ⟨⟨by decide +kernel, by decide +kernel⟩, List.mem_of_getElem? (i := 9) (by decide +kernel), List.mem_of_getElem? (i := 372) (by decide +kernel), List.mem_of_getElem? (i := 373) (by decide +kernel)⟩
theorem lw_p12 : lw_okq (⟨"RopeWalk", "orderAt", "(I)LRopeWalk$Order;"⟩, 9) := ⟨⟨by decide +kernel, by decide +kernel⟩, List.mem_of_getElem? (i := 9) (by decide +kernel), List.mem_of_getElem? (i := 422) (by decide +kernel), List.mem_of_getElem? (i := 423) (by decide +kernel)⟩
theorem lw_p13 : lw_okq (⟨"RopeWalk", "measureReels", "()V"⟩, 9) := ⟨⟨by decide +kernel, by decide +kernel⟩, List.mem_of_getElem? (i := 9) (by decide +kernel), List.mem_of_getElem? (i := 426) (by decide +kernel), List.mem_of_getElem? (i := 427) (by decide +kernel)⟩
theorem lw_p14 : lw_okq (⟨"RopeWalk", "startTrial", "()V"⟩, 9) := ⟨⟨by decide +kernel, by decide +kernel⟩, List.mem_of_getElem? (i := 9) (by decide +kernel), List.mem_of_getElem? (i := 433) (by decide +kernel), List.mem_of_getElem? (i := 434) (by decide +kernel)⟩
theorem lw_p15 : lw_okq (⟨"RopeWalk", "firstFit", "(LRopeWalk$Order;I)I"⟩, 9) := ⟨⟨by decide +kernel, by decide +kernel⟩, List.mem_of_getElem? (i := 9) (by decide +kernel), List.mem_of_getElem? (i := 437) (by decide +kernel), List.mem_of_getElem? (i := 438) (by decide +kernel)⟩
def lw_privs_1 : List (MethodName × Nat) := [(⟨"RopeWalk", "spin", "(III)I"⟩, 9), (⟨"RopeWalk", "keep", "(LRopeWalk$Piece;)I"⟩, 9), (⟨"RopeWalk", "freePiece", "(I)LRopeWalk$Piece;"⟩, 9), (⟨"RopeWalk", "pieceAt", "(I)LRopeWalk$Piece;"⟩, 9), (⟨"RopeWalk", "isPicked", "(LRopeWalk$Piece;)Z"⟩, 9), (⟨"RopeWalk", "pickedFit", "(II)Z"⟩, 9), (⟨"RopeWalk", "shortestPicked", "()I"⟩, 9), (⟨"RopeWalk", "pickedParts", "()[LRopeWalk$Piece;"⟩, 9), (⟨"RopeWalk", "piecesThatAre", "(I)I"⟩, 9), (⟨"RopeWalk", "cutOrders", "()I"⟩, 9), (⟨"RopeWalk", "pieceNotGone", "(I)LRopeWalk$Piece;"⟩, 9), (⟨"RopeWalk", "isCutFrom", "(I)Z"⟩, 9), (⟨"RopeWalk", "orderAt", "(I)LRopeWalk$Order;"⟩, 9), (⟨"RopeWalk", "measureReels", "()V"⟩, 9), (⟨"RopeWalk", "startTrial", "()V"⟩, 9), (⟨"RopeWalk", "firstFit", "(LRopeWalk$Order;I)I"⟩, 9)]
theorem lw_r1 : ∀ q ∈ lw_privs_1, lw_okq q := List.forall_mem_cons.mpr ⟨lw_p0, List.forall_mem_cons.mpr ⟨lw_p1, List.forall_mem_cons.mpr ⟨lw_p2, List.forall_mem_cons.mpr ⟨lw_p3, List.forall_mem_cons.mpr ⟨lw_p4, List.forall_mem_cons.mpr ⟨lw_p5, List.forall_mem_cons.mpr ⟨lw_p6, List.forall_mem_cons.mpr ⟨lw_p7, List.forall_mem_cons.mpr ⟨lw_p8, List.forall_mem_cons.mpr ⟨lw_p9, List.forall_mem_cons.mpr ⟨lw_p10, List.forall_mem_cons.mpr ⟨lw_p11, List.forall_mem_cons.mpr ⟨lw_p12, List.forall_mem_cons.mpr ⟨lw_p13, List.forall_mem_cons.mpr ⟨lw_p14, List.forall_mem_cons.mpr ⟨lw_p15, fun _ h => absurd h List.not_mem_nil⟩⟩⟩⟩⟩⟩⟩⟩⟩⟩⟩⟩⟩⟩⟩⟩
theorem lw_p16 : lw_okq (⟨"RopeWalk", "fitOn", "(ILRopeWalk$Order;)I"⟩, 9) := ⟨⟨by decide +kernel, by decide +kernel⟩, List.mem_of_getElem? (i := 9) (by decide +kernel), List.mem_of_getElem? (i := 441) (by decide +kernel), List.mem_of_getElem? (i := 442) (by decide +kernel)⟩
theorem lw_p17 : lw_okq (⟨"RopeWalk", "besideTrials", "(III)I"⟩, 9) := ⟨⟨by decide +kernel, by decide +kernel⟩, List.mem_of_getElem? (i := 9) (by decide +kernel), List.mem_of_getElem? (i := 445) (by decide +kernel), List.mem_of_getElem? (i := 446) (by decide +kernel)⟩
theorem lw_p18 : lw_okq (⟨"RopeWalk", "lengthOn", "(I)I"⟩, 9) := ⟨⟨by decide +kernel, by decide +kernel⟩, List.mem_of_getElem? (i := 9) (by decide +kernel), List.mem_of_getElem? (i := 457) (by decide +kernel), List.mem_of_getElem? (i := 458) (by decide +kernel)⟩
theorem lw_p19 : lw_okq (⟨"RopeWalk", "unbegunReels", "()I"⟩, 9) := ⟨⟨by decide +kernel, by decide +kernel⟩, List.mem_of_getElem? (i := 9) (by decide +kernel), List.mem_of_getElem? (i := 465) (by decide +kernel), List.mem_of_getElem? (i := 466) (by decide +kernel)⟩
theorem lw_p20 : lw_okq (⟨"RopeWalk", "lengthTogether", "(I)I"⟩, 9) := ⟨⟨by decide +kernel, by decide +kernel⟩, List.mem_of_getElem? (i := 9) (by decide +kernel), List.mem_of_getElem? (i := 469) (by decide +kernel), List.mem_of_getElem? (i := 470) (by decide +kernel)⟩
theorem lw_p21 : lw_okq (⟨"RopeWalk", "allFit", "(I)Z"⟩, 9) := ⟨⟨by decide +kernel, by decide +kernel⟩, List.mem_of_getElem? (i := 9) (by decide +kernel), List.mem_of_getElem? (i := 473) (by decide +kernel), List.mem_of_getElem? (i := 474) (by decide +kernel)⟩
theorem lw_p22 : lw_okq (⟨"RopeWalk", "ropesOfFirst", "(I)J"⟩, 9) := ⟨⟨by decide +kernel, by decide +kernel⟩, List.mem_of_getElem? (i := 9) (by decide +kernel), List.mem_of_getElem? (i := 489) (by decide +kernel), List.mem_of_getElem? (i := 490) (by decide +kernel)⟩
theorem lw_p23 : lw_okq (⟨"RopeWalkModel", "single", "(III)I"⟩, 36) := ⟨⟨by decide +kernel, by decide +kernel⟩, List.mem_of_getElem? (i := 506) (by decide +kernel), List.mem_of_getElem? (i := 626) (by decide +kernel), List.mem_of_getElem? (i := 627) (by decide +kernel)⟩
theorem lw_p24 : lw_okq (⟨"RopeWalkModel", "newPiece", "(III)I"⟩, 36) := ⟨⟨by decide +kernel, by decide +kernel⟩, List.mem_of_getElem? (i := 506) (by decide +kernel), List.mem_of_getElem? (i := 631) (by decide +kernel), List.mem_of_getElem? (i := 632) (by decide +kernel)⟩
theorem lw_p25 : lw_okq (⟨"RopeWalkModel", "isFree", "(I)Z"⟩, 36) := ⟨⟨by decide +kernel, by decide +kernel⟩, List.mem_of_getElem? (i := 506) (by decide +kernel), List.mem_of_getElem? (i := 644) (by decide +kernel), List.mem_of_getElem? (i := 645) (by decide +kernel)⟩
theorem lw_p26 : lw_okq (⟨"RopeWalkModel", "isPiece", "(I)Z"⟩, 36) := ⟨⟨by decide +kernel, by decide +kernel⟩, List.mem_of_getElem? (i := 506) (by decide +kernel), List.mem_of_getElem? (i := 648) (by decide +kernel), List.mem_of_getElem? (i := 649) (by decide +kernel)⟩
theorem lw_p27 : lw_okq (⟨"RopeWalkModel", "mayBeIn", "(III)Z"⟩, 36) := ⟨⟨by decide +kernel, by decide +kernel⟩, List.mem_of_getElem? (i := 506) (by decide +kernel), List.mem_of_getElem? (i := 660) (by decide +kernel), List.mem_of_getElem? (i := 661) (by decide +kernel)⟩
theorem lw_p28 : lw_okq (⟨"RopeWalkModel", "putIn", "(II)V"⟩, 36) := ⟨⟨by decide +kernel, by decide +kernel⟩, List.mem_of_getElem? (i := 506) (by decide +kernel), List.mem_of_getElem? (i := 664) (by decide +kernel), List.mem_of_getElem? (i := 665) (by decide +kernel)⟩
theorem lw_p29 : lw_okq (⟨"RopeWalkModel", "isThick", "(I)Z"⟩, 36) := ⟨⟨by decide +kernel, by decide +kernel⟩, List.mem_of_getElem? (i := 506) (by decide +kernel), List.mem_of_getElem? (i := 672) (by decide +kernel), List.mem_of_getElem? (i := 673) (by decide +kernel)⟩
theorem lw_p30 : lw_okq (⟨"RopeWalkModel", "weight", "(I)I"⟩, 36) := ⟨⟨by decide +kernel, by decide +kernel⟩, List.mem_of_getElem? (i := 506) (by decide +kernel), List.mem_of_getElem? (i := 684) (by decide +kernel), List.mem_of_getElem? (i := 685) (by decide +kernel)⟩
theorem lw_p31 : lw_okq (⟨"RopeWalkModel", "isThere", "(I)Z"⟩, 36) := ⟨⟨by decide +kernel, by decide +kernel⟩, List.mem_of_getElem? (i := 506) (by decide +kernel), List.mem_of_getElem? (i := 700) (by decide +kernel), List.mem_of_getElem? (i := 701) (by decide +kernel)⟩
def lw_privs_2 : List (MethodName × Nat) := [(⟨"RopeWalk", "fitOn", "(ILRopeWalk$Order;)I"⟩, 9), (⟨"RopeWalk", "besideTrials", "(III)I"⟩, 9), (⟨"RopeWalk", "lengthOn", "(I)I"⟩, 9), (⟨"RopeWalk", "unbegunReels", "()I"⟩, 9), (⟨"RopeWalk", "lengthTogether", "(I)I"⟩, 9), (⟨"RopeWalk", "allFit", "(I)Z"⟩, 9), (⟨"RopeWalk", "ropesOfFirst", "(I)J"⟩, 9), (⟨"RopeWalkModel", "single", "(III)I"⟩, 36), (⟨"RopeWalkModel", "newPiece", "(III)I"⟩, 36), (⟨"RopeWalkModel", "isFree", "(I)Z"⟩, 36), (⟨"RopeWalkModel", "isPiece", "(I)Z"⟩, 36), (⟨"RopeWalkModel", "mayBeIn", "(III)Z"⟩, 36), (⟨"RopeWalkModel", "putIn", "(II)V"⟩, 36), (⟨"RopeWalkModel", "isThick", "(I)Z"⟩, 36), (⟨"RopeWalkModel", "weight", "(I)I"⟩, 36), (⟨"RopeWalkModel", "isThere", "(I)Z"⟩, 36)]
theorem lw_r2 : ∀ q ∈ lw_privs_2, lw_okq q := List.forall_mem_cons.mpr ⟨lw_p16, List.forall_mem_cons.mpr ⟨lw_p17, List.forall_mem_cons.mpr ⟨lw_p18, List.forall_mem_cons.mpr ⟨lw_p19, List.forall_mem_cons.mpr ⟨lw_p20, List.forall_mem_cons.mpr ⟨lw_p21, List.forall_mem_cons.mpr ⟨lw_p22, List.forall_mem_cons.mpr ⟨lw_p23, List.forall_mem_cons.mpr ⟨lw_p24, List.forall_mem_cons.mpr ⟨lw_p25, List.forall_mem_cons.mpr ⟨lw_p26, List.forall_mem_cons.mpr ⟨lw_p27, List.forall_mem_cons.mpr ⟨lw_p28, List.forall_mem_cons.mpr ⟨lw_p29, List.forall_mem_cons.mpr ⟨lw_p30, List.forall_mem_cons.mpr ⟨lw_p31, fun _ h => absurd h List.not_mem_nil⟩⟩⟩⟩⟩⟩⟩⟩⟩⟩⟩⟩⟩⟩⟩⟩
theorem lw_p32 : lw_okq (⟨"RopeWalkModel", "bearing", "(II)F"⟩, 36) := ⟨⟨by decide +kernel, by decide +kernel⟩, List.mem_of_getElem? (i := 506) (by decide +kernel), List.mem_of_getElem? (i := 721) (by decide +kernel), List.mem_of_getElem? (i := 722) (by decide +kernel)⟩
theorem lw_p33 : lw_okq (⟨"RopeWalkModel", "tellPlaces", "(II)V"⟩, 36) := ⟨⟨by decide +kernel, by decide +kernel⟩, List.mem_of_getElem? (i := 506) (by decide +kernel), List.mem_of_getElem? (i := 725) (by decide +kernel), List.mem_of_getElem? (i := 726) (by decide +kernel)⟩
theorem lw_p34 : lw_okq (⟨"RopeWalkModel", "base", "(I)F"⟩, 36) := ⟨⟨by decide +kernel, by decide +kernel⟩, List.mem_of_getElem? (i := 506) (by decide +kernel), List.mem_of_getElem? (i := 729) (by decide +kernel), List.mem_of_getElem? (i := 730) (by decide +kernel)⟩
theorem lw_p35 : lw_okq (⟨"RopeWalkModel", "leastOf", "(I)F"⟩, 36) := ⟨⟨by decide +kernel, by decide +kernel⟩, List.mem_of_getElem? (i := 506) (by decide +kernel), List.mem_of_getElem? (i := 741) (by decide +kernel), List.mem_of_getElem? (i := 742) (by decide +kernel)⟩
theorem lw_p36 : lw_okq (⟨"RopeWalkModel", "isReel", "(I)Z"⟩, 36) := ⟨⟨by decide +kernel, by decide +kernel⟩, List.mem_of_getElem? (i := 506) (by decide +kernel), List.mem_of_getElem? (i := 788) (by decide +kernel), List.mem_of_getElem? (i := 789) (by decide +kernel)⟩
theorem lw_p37 : lw_okq (⟨"RopeWalkModel", "isCutFrom", "(I)Z"⟩, 36) := ⟨⟨by decide +kernel, by decide +kernel⟩, List.mem_of_getElem? (i := 506) (by decide +kernel), List.mem_of_getElem? (i := 796) (by decide +kernel), List.mem_of_getElem? (i := 797) (by decide +kernel)⟩
theorem lw_p38 : lw_okq (⟨"RopeWalkModel", "hungReels", "()I"⟩, 36) := ⟨⟨by decide +kernel, by decide +kernel⟩, List.mem_of_getElem? (i := 506) (by decide +kernel), List.mem_of_getElem? (i := 816) (by decide +kernel), List.mem_of_getElem? (i := 817) (by decide +kernel)⟩
theorem lw_p39 : lw_okq (⟨"RopeWalkModel", "look", "(I)V"⟩, 36) := ⟨⟨by decide +kernel, by decide +kernel⟩, List.mem_of_getElem? (i := 506) (by decide +kernel), List.mem_of_getElem? (i := 820) (by decide +kernel), List.mem_of_getElem? (i := 821) (by decide +kernel)⟩
theorem lw_p40 : lw_okq (⟨"RopeWalkModel", "cutFrom", "(II)Z"⟩, 36) := ⟨⟨by decide +kernel, by decide +kernel⟩, List.mem_of_getElem? (i := 506) (by decide +kernel), List.mem_of_getElem? (i := 824) (by decide +kernel), List.mem_of_getElem? (i := 825) (by decide +kernel)⟩
theorem lw_p41 : lw_okq (⟨"RopeWalkModel", "fit", "(II)I"⟩, 36) := ⟨⟨by decide +kernel, by decide +kernel⟩, List.mem_of_getElem? (i := 506) (by decide +kernel), List.mem_of_getElem? (i := 828) (by decide +kernel), List.mem_of_getElem? (i := 829) (by decide +kernel)⟩
theorem lw_p42 : lw_okq (⟨"RopeWalkModel", "markTaken", "(I)V"⟩, 36) := ⟨⟨by decide +kernel, by decide +kernel⟩, List.mem_of_getElem? (i := 506) (by decide +kernel), List.mem_of_getElem? (i := 832) (by decide +kernel), List.mem_of_getElem? (i := 833) (by decide +kernel)⟩
theorem lw_p43 : lw_okq (⟨"RopeWalkModel", "serves", "(I)Z"⟩, 36) := ⟨⟨by decide +kernel, by decide +kernel⟩, List.mem_of_getElem? (i := 506) (by decide +kernel), List.mem_of_getElem? (i := 848) (by decide +kernel), List.mem_of_getElem? (i := 849) (by decide +kernel)⟩
theorem lw_p44 : lw_okq (⟨"RopeWalkModel", "product", "(I)J"⟩, 36) := ⟨⟨by decide +kernel, by decide +kernel⟩, List.mem_of_getElem? (i := 506) (by decide +kernel), List.mem_of_getElem? (i := 864) (by decide +kernel), List.mem_of_getElem? (i := 865) (by decide +kernel)⟩
def lw_privs_3 : List (MethodName × Nat) := [(⟨"RopeWalkModel", "bearing", "(II)F"⟩, 36), (⟨"RopeWalkModel", "tellPlaces", "(II)V"⟩, 36), (⟨"RopeWalkModel", "base", "(I)F"⟩, 36), (⟨"RopeWalkModel", "leastOf", "(I)F"⟩, 36), (⟨"RopeWalkModel", "isReel", "(I)Z"⟩, 36), (⟨"RopeWalkModel", "isCutFrom", "(I)Z"⟩, 36), (⟨"RopeWalkModel", "hungReels", "()I"⟩, 36), (⟨"RopeWalkModel", "look", "(I)V"⟩, 36), (⟨"RopeWalkModel", "cutFrom", "(II)Z"⟩, 36), (⟨"RopeWalkModel", "fit", "(II)I"⟩, 36), (⟨"RopeWalkModel", "markTaken", "(I)V"⟩, 36), (⟨"RopeWalkModel", "serves", "(I)Z"⟩, 36), (⟨"RopeWalkModel", "product", "(I)J"⟩, 36)]
theorem lw_r3 : ∀ q ∈ lw_privs_3, lw_okq q := List.forall_mem_cons.mpr ⟨lw_p32, List.forall_mem_cons.mpr ⟨lw_p33, List.forall_mem_cons.mpr ⟨lw_p34, List.forall_mem_cons.mpr ⟨lw_p35, List.forall_mem_cons.mpr ⟨lw_p36, List.forall_mem_cons.mpr ⟨lw_p37, List.forall_mem_cons.mpr ⟨lw_p38, List.forall_mem_cons.mpr ⟨lw_p39, List.forall_mem_cons.mpr ⟨lw_p40, List.forall_mem_cons.mpr ⟨lw_p41, List.forall_mem_cons.mpr ⟨lw_p42, List.forall_mem_cons.mpr ⟨lw_p43, List.forall_mem_cons.mpr ⟨lw_p44, fun _ h => absurd h List.not_mem_nil⟩⟩⟩⟩⟩⟩⟩⟩⟩⟩⟩⟩⟩
def lw_privs : List (MethodName × Nat) := lw_privs_1 ++ (lw_privs_2 ++ (lw_privs_3))
def lw_tbl : List Cond := k2_sels lw_privs ++ tables_1
theorem lw_privs_ok : ∀ q ∈ lw_privs, lw_okq q := by
  show ∀ q ∈ lw_privs_1 ++ (lw_privs_2 ++ (lw_privs_3)), lw_okq q
  exact List.forall_mem_append.mpr ⟨lw_r1, List.forall_mem_append.mpr ⟨lw_r2, lw_r3⟩⟩
/-- the streams that the claim lets the run draw from -/
abbrev lw_cs : List Choice := [Jvm.Choice.named "NaN.bits"]
theorem lw_bits : nanBits ∈ lw_cs := by first | decide | exact List.mem_cons_self | simp [lw_cs, nanBits]
end
section
theorem goodIn_r {big : List Cond} (ws : List Cond) (ps : List Nat) (hp : ws = ps.filterMap (fun i => big[i]?)) (h : ws.all goodWord = true) : GoodIn big ws := by
  intro w hw
  have h1 := List.all_eq_true.mp h w hw
  rw [hp] at hw
  obtain ⟨i, -, hi⟩ := List.mem_filterMap.mp hw
  have hm : w ∈ big := by first | exact List.mem_of_getElem? hi | exact List.getElem?_mem hi
  exact ⟨hm, good_of_word h1⟩
theorem goodIn_app {big a b : List Cond} (ha : GoodIn big a) (hb : GoodIn big b) : GoodIn big (a ++ b) := fun w h => (List.mem_append.mp h).elim (ha w) (hb w)
theorem goodIn_ca {big a b : List Cond} {c : Cond} (ha : GoodIn big (c :: a)) (hb : GoodIn big b) : GoodIn big (c :: (a ++ b)) := fun w h => (List.mem_cons.mp h).elim (fun e => ha w (List.mem_cons.mpr (Or.inl e))) (fun h => (List.mem_append.mp h).elim (fun h => ha w (List.mem_cons.mpr (Or.inr h))) (hb w))
theorem goodIn_sub {big ws : List Cond} (hm : ∀ w ∈ ws, w ∈ big) (h : ws.all goodWord = true) : GoodIn big ws := fun w hw => ⟨hm w hw, good_of_word (List.all_eq_true.mp h w hw)⟩

def RX0 : String := "RopeWalk$Order"
def TX0 : u_T := fun k => match k with
  | 0 => ("RopeWalk$Order", "length", "I", true)
  | 1 => ("RopeWalk$Order", "need", "F", true)
  | 2 => ("RopeWalk$Order", "reel", "I", false)
  | 3 => ("RopeWalk$Order", "place", "I", false)
  | 4 => ("RopeWalk$Order", "trialReel", "I", false)
  | _ => ("RopeWalk$Order", "trialPlace", "I", false)
def tyX0 : Nat → FieldType := fun k => match k with
  | 0 => .int
  | 1 => .float
  | 2 => .int
  | 3 => .int
  | 4 => .int
  | _ => .int
abbrev wsX00 : List Cond := u_ws RX0 TX0 6
theorem nmX0 : ∀ a, a < 6 → ∀ b, b < 6 → a ≠ b → (TX0 a).2.1 ≠ (TX0 b).2.1 := by decide +kernel
theorem tyX0_ok : ∀ k, k < 6 → parseFieldDescriptor (TX0 k).2.2.1 = some (tyX0 k) := by decide +kernel
abbrev cX0_init : ByteArray := prog_2_method_1_code
def yX0_init : MethodName := ⟨RX0, "<init>", "(IF)V"⟩
def RX1 : String := "RopeWalk$Piece"
def TX1 : u_T := fun k => match k with
  | 0 => ("RopeWalk$Piece", "number", "I", true)
  | 1 => ("RopeWalk$Piece", "kind", "I", true)
  | 2 => ("RopeWalk$Piece", "length", "I", true)
  | 3 => ("RopeWalk$Piece", "twist", "I", true)
  | 4 => ("RopeWalk$Piece", "parts", "[LRopeWalk$Piece;", true)
  | 5 => ("RopeWalk$Piece", "strength", "F", false)
  | 6 => ("RopeWalk$Piece", "secondFrom", "I", false)
  | 7 => ("RopeWalk$Piece", "weight", "I", false)
  | 8 => ("RopeWalk$Piece", "state", "I", false)
  | 9 => ("RopeWalk$Piece", "partOf", "I", false)
  | 10 => ("RopeWalk$Piece", "spots", "I", false)
  | 11 => ("RopeWalk$Piece", "from", "[I", true)
  | 12 => ("RopeWalk$Piece", "to", "[I", true)
  | _ => ("RopeWalk$Piece", "share", "[I", true)
def tyX1 : Nat → FieldType := fun k => match k with
  | 0 => .int
  | 1 => .int
  | 2 => .int
  | 3 => .int
  | 4 => .array (.object "RopeWalk$Piece")
  | 5 => .float
  | 6 => .int
  | 7 => .int
  | 8 => .int
  | 9 => .int
  | 10 => .int
  | 11 => .array .int
  | 12 => .array .int
  | _ => .array .int
abbrev wsX10 : List Cond := u_ws RX1 TX1 14
theorem nmX1 : ∀ a, a < 14 → ∀ b, b < 14 → a ≠ b → (TX1 a).2.1 ≠ (TX1 b).2.1 := by decide +kernel
theorem tyX1_ok : ∀ k, k < 14 → parseFieldDescriptor (TX1 k).2.2.1 = some (tyX1 k) := by decide +kernel
abbrev cX1_init : ByteArray := prog_3_method_1_code
def yX1_init : MethodName := ⟨RX1, "<init>", "(IIII[LRopeWalk$Piece;)V"⟩
def RX2 : String := "RopeWalk$Reel"
def TX2 : u_T := fun k => match k with
  | 0 => ("RopeWalk$Reel", "piece", "LRopeWalk$Piece;", false)
  | 1 => ("RopeWalk$Reel", "stretches", "I", false)
  | 2 => ("RopeWalk$Reel", "borne", "[F", true)
  | _ => ("RopeWalk$Reel", "ends", "[I", true)
def tyX2 : Nat → FieldType := fun k => match k with
  | 0 => .object "RopeWalk$Piece"
  | 1 => .int
  | 2 => .array .float
  | _ => .array .int
abbrev wsX20 : List Cond := u_ws RX2 TX2 4
theorem nmX2 : ∀ a, a < 4 → ∀ b, b < 4 → a ≠ b → (TX2 a).2.1 ≠ (TX2 b).2.1 := by decide +kernel
theorem tyX2_ok : ∀ k, k < 4 → parseFieldDescriptor (TX2 k).2.2.1 = some (tyX2 k) := by decide +kernel
abbrev cX2_init : ByteArray := prog_4_method_1_code
def yX2_init : MethodName := ⟨RX2, "<init>", "()V"⟩
def RX3 : String := "RopeWalk"
def TX3 : u_T := fun k => match k with
  | 0 => ("RopeWalk", "pieces", "[LRopeWalk$Piece;", true)
  | 1 => ("RopeWalk", "pieceCount", "I", false)
  | 2 => ("RopeWalk", "picked", "[LRopeWalk$Piece;", true)
  | 3 => ("RopeWalk", "pickedCount", "I", false)
  | 4 => ("RopeWalk", "reels", "[LRopeWalk$Reel;", true)
  | 5 => ("RopeWalk", "orders", "[LRopeWalk$Order;", true)
  | 6 => ("RopeWalk", "orderCount", "I", false)
  | 7 => ("RopeWalk", "stages", "[I", true)
  | _ => ("RopeWalk", "stageCount", "I", false)
def tyX3 : Nat → FieldType := fun k => match k with
  | 0 => .array (.object "RopeWalk$Piece")
  | 1 => .int
  | 2 => .array (.object "RopeWalk$Piece")
  | 3 => .int
  | 4 => .array (.object "RopeWalk$Reel")
  | 5 => .array (.object "RopeWalk$Order")
  | 6 => .int
  | 7 => .array .int
  | _ => .int
abbrev wsX30 : List Cond := u_ws RX3 TX3 9
theorem nmX3 : ∀ a, a < 9 → ∀ b, b < 9 → a ≠ b → (TX3 a).2.1 ≠ (TX3 b).2.1 := by decide +kernel
theorem tyX3_ok : ∀ k, k < 9 → parseFieldDescriptor (TX3 k).2.2.1 = some (tyX3 k) := by decide +kernel
abbrev cX3_init : ByteArray := prog_1_method_1_code
def yX3_init : MethodName := ⟨RX3, "<init>", "()V"⟩
abbrev cX3_yarn : ByteArray := prog_1_method_2_code
def yX3_yarn : MethodName := ⟨RX3, "yarn", "(II)I"⟩
abbrev cX3_tape : ByteArray := prog_1_method_3_code
def yX3_tape : MethodName := ⟨RX3, "tape", "(II)I"⟩
abbrev cX3_spin : ByteArray := prog_1_method_4_code
def yX3_spin : MethodName := ⟨RX3, "spin", "(III)I"⟩
abbrev cX3_keep : ByteArray := prog_1_method_5_code
def yX3_keep : MethodName := ⟨RX3, "keep", "(LRopeWalk$Piece;)I"⟩
abbrev cX3_pieceAt : ByteArray := prog_1_method_6_code
def yX3_pieceAt : MethodName := ⟨RX3, "pieceAt", "(I)LRopeWalk$Piece;"⟩
abbrev cX3_pieceNotGone : ByteArray := prog_1_method_7_code
def yX3_pieceNotGone : MethodName := ⟨RX3, "pieceNotGone", "(I)LRopeWalk$Piece;"⟩
abbrev cX3_freePiece : ByteArray := prog_1_method_8_code
def yX3_freePiece : MethodName := ⟨RX3, "freePiece", "(I)LRopeWalk$Piece;"⟩
abbrev cX3_pick : ByteArray := prog_1_method_9_code
def yX3_pick : MethodName := ⟨RX3, "pick", "(I)I"⟩
abbrev cX3_isPicked : ByteArray := prog_1_method_10_code
def yX3_isPicked : MethodName := ⟨RX3, "isPicked", "(LRopeWalk$Piece;)Z"⟩
abbrev cX3_drop : ByteArray := prog_1_method_11_code
def yX3_drop : MethodName := ⟨RX3, "drop", "()I"⟩
abbrev cX3_lay : ByteArray := prog_1_method_12_code
def yX3_lay : MethodName := ⟨RX3, "lay", "(III)I"⟩
abbrev cX3_canHold : ByteArray := prog_1_method_13_code
def yX3_canHold : MethodName := ⟨RX3, "canHold", "(II)Z"⟩
abbrev cX3_pickedFit : ByteArray := prog_1_method_14_code
def yX3_pickedFit : MethodName := ⟨RX3, "pickedFit", "(II)Z"⟩
abbrev cX3_canBePart : ByteArray := prog_1_method_15_code
def yX3_canBePart : MethodName := ⟨RX3, "canBePart", "(IILRopeWalk$Piece;)Z"⟩
abbrev cX3_otherTwist : ByteArray := prog_1_method_16_code
def yX3_otherTwist : MethodName := ⟨RX3, "otherTwist", "(I)I"⟩
abbrev cX3_shortestPicked : ByteArray := prog_1_method_17_code
def yX3_shortestPicked : MethodName := ⟨RX3, "shortestPicked", "()I"⟩
abbrev cX3_pickedParts : ByteArray := prog_1_method_18_code
def yX3_pickedParts : MethodName := ⟨RX3, "pickedParts", "()[LRopeWalk$Piece;"⟩
abbrev cX3_takeParts : ByteArray := prog_1_method_19_code
def yX3_takeParts : MethodName := ⟨RX3, "takeParts", "(LRopeWalk$Piece;)V"⟩
abbrev cX3_splice : ByteArray := prog_1_method_20_code
def yX3_splice : MethodName := ⟨RX3, "splice", "(III)I"⟩
abbrev cX3_canBeSpliced : ByteArray := prog_1_method_21_code
def yX3_canBeSpliced : MethodName := ⟨RX3, "canBeSpliced", "(LRopeWalk$Piece;)Z"⟩
abbrev cX3_untwist : ByteArray := prog_1_method_22_code
def yX3_untwist : MethodName := ⟨RX3, "untwist", "(I)I"⟩
abbrev cX3_of : ByteArray := prog_1_method_23_code
def yX3_of : MethodName := ⟨RX3, "of", "(II)I"⟩
abbrev cX3_part : ByteArray := prog_1_method_24_code
def yX3_part : MethodName := ⟨RX3, "part", "(II)I"⟩
abbrev cX3_count : ByteArray := prog_1_method_25_code
def yX3_count : MethodName := ⟨RX3, "count", "(I)I"⟩
abbrev cX3_piecesThatAre : ByteArray := prog_1_method_26_code
def yX3_piecesThatAre : MethodName := ⟨RX3, "piecesThatAre", "(I)I"⟩
abbrev cX3_row : ByteArray := prog_1_method_27_code
def yX3_row : MethodName := ⟨RX3, "row", "(II)I"⟩
abbrev cX3_lose : ByteArray := prog_1_method_28_code
def yX3_lose : MethodName := ⟨RX3, "lose", "(I)I"⟩
abbrev cX3_spot : ByteArray := prog_1_method_29_code
def yX3_spot : MethodName := ⟨RX3, "spot", "(IIIII)I"⟩
abbrev cX3_carry : ByteArray := prog_1_method_30_code
def yX3_carry : MethodName := ⟨RX3, "carry", "(IIIII)I"⟩
abbrev cX3_hasSpots : ByteArray := prog_1_method_31_code
def yX3_hasSpots : MethodName := ⟨RX3, "hasSpots", "(LRopeWalk$Piece;II)Z"⟩
abbrev cX3_toldSpots : ByteArray := prog_1_method_32_code
def yX3_toldSpots : MethodName := ⟨RX3, "toldSpots", "(LRopeWalk$Piece;)I"⟩
abbrev cX3_bearing : ByteArray := prog_1_method_33_code
def yX3_bearing : MethodName := ⟨RX3, "bearing", "(LRopeWalk$Piece;II)F"⟩
abbrev cX3_laidBase : ByteArray := prog_1_method_34_code
def yX3_laidBase : MethodName := ⟨RX3, "laidBase", "(LRopeWalk$Piece;II)F"⟩
abbrev cX3_placeOn : ByteArray := prog_1_method_35_code
def yX3_placeOn : MethodName := ⟨RX3, "placeOn", "(LRopeWalk$Piece;LRopeWalk$Piece;I)I"⟩
abbrev cX3_splicedBase : ByteArray := prog_1_method_36_code
def yX3_splicedBase : MethodName := ⟨RX3, "splicedBase", "(LRopeWalk$Piece;II)F"⟩
abbrev cX3_splicedFrom : ByteArray := prog_1_method_37_code
def yX3_splicedFrom : MethodName := ⟨RX3, "splicedFrom", "(LRopeWalk$Piece;I)I"⟩
abbrev cX3_worn : ByteArray := prog_1_method_38_code
def yX3_worn : MethodName := ⟨RX3, "worn", "(LRopeWalk$Piece;IF)F"⟩
abbrev cX3_steadyTo : ByteArray := prog_1_method_39_code
def yX3_steadyTo : MethodName := ⟨RX3, "steadyTo", "(LRopeWalk$Piece;II)I"⟩
abbrev cX3_laidSteadyTo : ByteArray := prog_1_method_40_code
def yX3_laidSteadyTo : MethodName := ⟨RX3, "laidSteadyTo", "(LRopeWalk$Piece;III)I"⟩
abbrev cX3_splicedSteadyTo : ByteArray := prog_1_method_41_code
def yX3_splicedSteadyTo : MethodName := ⟨RX3, "splicedSteadyTo", "(LRopeWalk$Piece;III)I"⟩
abbrev cX3_rowSteadyTo : ByteArray := prog_1_method_42_code
def yX3_rowSteadyTo : MethodName := ⟨RX3, "rowSteadyTo", "(LRopeWalk$Piece;II)I"⟩
abbrev cX3_weakestPlace : ByteArray := prog_1_method_43_code
def yX3_weakestPlace : MethodName := ⟨RX3, "weakestPlace", "(LRopeWalk$Piece;)I"⟩
abbrev cX3_leastBorne : ByteArray := prog_1_method_44_code
def yX3_leastBorne : MethodName := ⟨RX3, "leastBorne", "(LRopeWalk$Piece;)F"⟩
abbrev cX3_bears : ByteArray := prog_1_method_45_code
def yX3_bears : MethodName := ⟨RX3, "bears", "(II)D"⟩
abbrev cX3_least : ByteArray := prog_1_method_46_code
def yX3_least : MethodName := ⟨RX3, "least", "(I)D"⟩
abbrev cX3_where : ByteArray := prog_1_method_47_code
def yX3_where : MethodName := ⟨RX3, "where", "(I)I"⟩
abbrev cX3_grams : ByteArray := prog_1_method_48_code
def yX3_grams : MethodName := ⟨RX3, "grams", "(I)J"⟩
abbrev cX3_rest : ByteArray := prog_1_method_49_code
def yX3_rest : MethodName := ⟨RX3, "rest", "(II)D"⟩
abbrev cX3_left : ByteArray := prog_1_method_50_code
def yX3_left : MethodName := ⟨RX3, "left", "(II)D"⟩
abbrev cX3_remainder : ByteArray := prog_1_method_51_code
def yX3_remainder : MethodName := ⟨RX3, "remainder", "(DD)D"⟩
abbrev cX3_turned : ByteArray := prog_1_method_52_code
def yX3_turned : MethodName := ⟨RX3, "turned", "(III)J"⟩
abbrev cX3_turnedDouble : ByteArray := prog_1_method_53_code
def yX3_turnedDouble : MethodName := ⟨RX3, "turnedDouble", "(DI)J"⟩
abbrev cX3_turnedFloat : ByteArray := prog_1_method_54_code
def yX3_turnedFloat : MethodName := ⟨RX3, "turnedFloat", "(FI)J"⟩
abbrev cX3_notAbove : ByteArray := prog_1_method_55_code
def yX3_notAbove : MethodName := ⟨RX3, "notAbove", "(D)J"⟩
abbrev cX3_nearest : ByteArray := prog_1_method_56_code
def yX3_nearest : MethodName := ⟨RX3, "nearest", "(D)J"⟩
abbrev cX3_isReel : ByteArray := prog_1_method_57_code
def yX3_isReel : MethodName := ⟨RX3, "isReel", "(I)Z"⟩
abbrev cX3_hang : ByteArray := prog_1_method_58_code
def yX3_hang : MethodName := ⟨RX3, "hang", "(II)I"⟩
abbrev cX3_off : ByteArray := prog_1_method_59_code
def yX3_off : MethodName := ⟨RX3, "off", "(I)I"⟩
abbrev cX3_take : ByteArray := prog_1_method_60_code
def yX3_take : MethodName := ⟨RX3, "take", "(II)I"⟩
abbrev cX3_isOfKind : ByteArray := prog_1_method_61_code
def yX3_isOfKind : MethodName := ⟨RX3, "isOfKind", "(LRopeWalk$Piece;I)Z"⟩
abbrev cX3_order : ByteArray := prog_1_method_62_code
def yX3_order : MethodName := ⟨RX3, "order", "(II)I"⟩
abbrev cX3_orderAt : ByteArray := prog_1_method_63_code
def yX3_orderAt : MethodName := ⟨RX3, "orderAt", "(I)LRopeWalk$Order;"⟩
abbrev cX3_cut : ByteArray := prog_1_method_64_code
def yX3_cut : MethodName := ⟨RX3, "cut", "(I)I"⟩
abbrev cX3_join : ByteArray := prog_1_method_65_code
def yX3_join : MethodName := ⟨RX3, "join", "(I)I"⟩
abbrev cX3_begun : ByteArray := prog_1_method_66_code
def yX3_begun : MethodName := ⟨RX3, "begun", "()I"⟩
abbrev cX3_fewest : ByteArray := prog_1_method_67_code
def yX3_fewest : MethodName := ⟨RX3, "fewest", "()I"⟩
abbrev cX3_unbegunReels : ByteArray := prog_1_method_68_code
def yX3_unbegunReels : MethodName := ⟨RX3, "unbegunReels", "()I"⟩
abbrev cX3_lengthTogether : ByteArray := prog_1_method_69_code
def yX3_lengthTogether : MethodName := ⟨RX3, "lengthTogether", "(I)I"⟩
abbrev cX3_lengthOn : ByteArray := prog_1_method_70_code
def yX3_lengthOn : MethodName := ⟨RX3, "lengthOn", "(I)I"⟩
abbrev cX3_isCutFrom : ByteArray := prog_1_method_71_code
def yX3_isCutFrom : MethodName := ⟨RX3, "isCutFrom", "(I)Z"⟩
abbrev cX3_cutOrders : ByteArray := prog_1_method_72_code
def yX3_cutOrders : MethodName := ⟨RX3, "cutOrders", "()I"⟩
abbrev cX3_startTrial : ByteArray := prog_1_method_73_code
def yX3_startTrial : MethodName := ⟨RX3, "startTrial", "()V"⟩
abbrev cX3_allFit : ByteArray := prog_1_method_74_code
def yX3_allFit : MethodName := ⟨RX3, "allFit", "(I)Z"⟩
abbrev cX3_firstFit : ByteArray := prog_1_method_75_code
def yX3_firstFit : MethodName := ⟨RX3, "firstFit", "(LRopeWalk$Order;I)I"⟩
abbrev cX3_fitOn : ByteArray := prog_1_method_76_code
def yX3_fitOn : MethodName := ⟨RX3, "fitOn", "(ILRopeWalk$Order;)I"⟩
abbrev cX3_besideTrials : ByteArray := prog_1_method_77_code
def yX3_besideTrials : MethodName := ⟨RX3, "besideTrials", "(III)I"⟩
abbrev cX3_measureReels : ByteArray := prog_1_method_78_code
def yX3_measureReels : MethodName := ⟨RX3, "measureReels", "()V"⟩
abbrev cX3_measure : ByteArray := prog_1_method_79_code
def yX3_measure : MethodName := ⟨RX3, "measure", "(LRopeWalk$Reel;)V"⟩
abbrev cX3_stage : ByteArray := prog_1_method_80_code
def yX3_stage : MethodName := ⟨RX3, "stage", "(I)I"⟩
abbrev cX3_unstage : ByteArray := prog_1_method_81_code
def yX3_unstage : MethodName := ⟨RX3, "unstage", "()I"⟩
abbrev cX3_pull : ByteArray := prog_1_method_82_code
def yX3_pull : MethodName := ⟨RX3, "pull", "(II)J"⟩
abbrev cX3_stress : ByteArray := prog_1_method_83_code
def yX3_stress : MethodName := ⟨RX3, "stress", "(III)J"⟩
abbrev cX3_canAskLoad : ByteArray := prog_1_method_84_code
def yX3_canAskLoad : MethodName := ⟨RX3, "canAskLoad", "(II)Z"⟩
abbrev cX3_ropesOfFirst : ByteArray := prog_1_method_85_code
def yX3_ropesOfFirst : MethodName := ⟨RX3, "ropesOfFirst", "(I)J"⟩
abbrev cX3_lowestTerms : ByteArray := prog_1_method_86_code
def yX3_lowestTerms : MethodName := ⟨RX3, "lowestTerms", "(JJI)J"⟩
abbrev cX3_greatestDivisor : ByteArray := prog_1_method_87_code
def yX3_greatestDivisor : MethodName := ⟨RX3, "greatestDivisor", "(JJ)J"⟩
def RX4 : String := "RopeWalkModel"
def TX4 : u_T := fun k => match k with
  | 0 => ("RopeWalkModel", "pieces", "I", false)
  | 1 => ("RopeWalkModel", "kind", "[I", true)
  | 2 => ("RopeWalkModel", "length", "[I", true)
  | 3 => ("RopeWalkModel", "twist", "[I", true)
  | 4 => ("RopeWalkModel", "state", "[I", true)
  | 5 => ("RopeWalkModel", "strength", "[F", true)
  | 6 => ("RopeWalkModel", "parts", "[I", true)
  | 7 => ("RopeWalkModel", "part", "[I", true)
  | 8 => ("RopeWalkModel", "owner", "[I", true)
  | 9 => ("RopeWalkModel", "over", "[I", true)
  | 10 => ("RopeWalkModel", "spots", "[I", true)
  | 11 => ("RopeWalkModel", "isTold", "[Z", true)
  | 12 => ("RopeWalkModel", "spotFrom", "[I", true)
  | 13 => ("RopeWalkModel", "spotTo", "[I", true)
  | 14 => ("RopeWalkModel", "spotShare", "[F", true)
  | 15 => ("RopeWalkModel", "picked", "I", false)
  | 16 => ("RopeWalkModel", "pick", "[I", true)
  | 17 => ("RopeWalkModel", "reel", "[I", true)
  | 18 => ("RopeWalkModel", "orders", "I", false)
  | 19 => ("RopeWalkModel", "orderLength", "[I", true)
  | 20 => ("RopeWalkModel", "orderMust", "[F", true)
  | 21 => ("RopeWalkModel", "cutReel", "[I", true)
  | 22 => ("RopeWalkModel", "cutPlace", "[I", true)
  | 23 => ("RopeWalkModel", "stages", "I", false)
  | 24 => ("RopeWalkModel", "ropes", "[I", true)
  | 25 => ("RopeWalkModel", "weigh", "[I", true)
  | 26 => ("RopeWalkModel", "oldTold", "[Z", true)
  | 27 => ("RopeWalkModel", "oldFrom", "[I", true)
  | 28 => ("RopeWalkModel", "oldTo", "[I", true)
  | 29 => ("RopeWalkModel", "oldShare", "[F", true)
  | 30 => ("RopeWalkModel", "place", "[I", true)
  | 31 => ("RopeWalkModel", "bear", "[F", true)
  | 32 => ("RopeWalkModel", "weakest", "I", false)
  | 33 => ("RopeWalkModel", "taken", "[Z", true)
  | 34 => ("RopeWalkModel", "bearsAt", "[F", true)
  | _ => ("RopeWalkModel", "cutBefore", "[I", true)
def tyX4 : Nat → FieldType := fun k => match k with
  | 0 => .int
  | 1 => .array .int
  | 2 => .array .int
  | 3 => .array .int
  | 4 => .array .int
  | 5 => .array .float
  | 6 => .array .int
  | 7 => .array .int
  | 8 => .array .int
  | 9 => .array .int
  | 10 => .array .int
  | 11 => .array .boolean
  | 12 => .array .int
  | 13 => .array .int
  | 14 => .array .float
  | 15 => .int
  | 16 => .array .int
  | 17 => .array .int
  | 18 => .int
  | 19 => .array .int
  | 20 => .array .float
  | 21 => .array .int
  | 22 => .array .int
  | 23 => .int
  | 24 => .array .int
  | 25 => .array .int
  | 26 => .array .boolean
  | 27 => .array .int
  | 28 => .array .int
  | 29 => .array .float
  | 30 => .array .int
  | 31 => .array .float
  | 32 => .int
  | 33 => .array .boolean
  | 34 => .array .float
  | _ => .array .int
abbrev wsX40 : List Cond := u_ws RX4 TX4 36
theorem nmX4 : ∀ a, a < 36 → ∀ b, b < 36 → a ≠ b → (TX4 a).2.1 ≠ (TX4 b).2.1 := by decide +kernel
theorem tyX4_ok : ∀ k, k < 36 → parseFieldDescriptor (TX4 k).2.2.1 = some (tyX4 k) := by decide +kernel
abbrev cX4_init : ByteArray := prog_6_method_1_code
def yX4_init : MethodName := ⟨RX4, "<init>", "()V"⟩
abbrev cX4_isPiece : ByteArray := prog_6_method_2_code
def yX4_isPiece : MethodName := ⟨RX4, "isPiece", "(I)Z"⟩
abbrev cX4_isThere : ByteArray := prog_6_method_3_code
def yX4_isThere : MethodName := ⟨RX4, "isThere", "(I)Z"⟩
abbrev cX4_isFree : ByteArray := prog_6_method_4_code
def yX4_isFree : MethodName := ⟨RX4, "isFree", "(I)Z"⟩
abbrev cX4_newPiece : ByteArray := prog_6_method_5_code
def yX4_newPiece : MethodName := ⟨RX4, "newPiece", "(III)I"⟩
abbrev cX4_single : ByteArray := prog_6_method_6_code
def yX4_single : MethodName := ⟨RX4, "single", "(III)I"⟩
abbrev cX4_yarn : ByteArray := prog_6_method_7_code
def yX4_yarn : MethodName := ⟨RX4, "yarn", "(II)I"⟩
abbrev cX4_tape : ByteArray := prog_6_method_8_code
def yX4_tape : MethodName := ⟨RX4, "tape", "(II)I"⟩
abbrev cX4_pick : ByteArray := prog_6_method_9_code
def yX4_pick : MethodName := ⟨RX4, "pick", "(I)I"⟩
abbrev cX4_drop : ByteArray := prog_6_method_10_code
def yX4_drop : MethodName := ⟨RX4, "drop", "()I"⟩
abbrev cX4_mayBeIn : ByteArray := prog_6_method_11_code
def yX4_mayBeIn : MethodName := ⟨RX4, "mayBeIn", "(III)Z"⟩
abbrev cX4_lay : ByteArray := prog_6_method_12_code
def yX4_lay : MethodName := ⟨RX4, "lay", "(III)I"⟩
abbrev cX4_putIn : ByteArray := prog_6_method_13_code
def yX4_putIn : MethodName := ⟨RX4, "putIn", "(II)V"⟩
abbrev cX4_isThick : ByteArray := prog_6_method_14_code
def yX4_isThick : MethodName := ⟨RX4, "isThick", "(I)Z"⟩
abbrev cX4_splice : ByteArray := prog_6_method_15_code
def yX4_splice : MethodName := ⟨RX4, "splice", "(III)I"⟩
abbrev cX4_untwist : ByteArray := prog_6_method_16_code
def yX4_untwist : MethodName := ⟨RX4, "untwist", "(I)I"⟩
abbrev cX4_weight : ByteArray := prog_6_method_17_code
def yX4_weight : MethodName := ⟨RX4, "weight", "(I)I"⟩
abbrev cX4_of : ByteArray := prog_6_method_18_code
def yX4_of : MethodName := ⟨RX4, "of", "(II)I"⟩
abbrev cX4_part : ByteArray := prog_6_method_19_code
def yX4_part : MethodName := ⟨RX4, "part", "(II)I"⟩
abbrev cX4_count : ByteArray := prog_6_method_20_code
def yX4_count : MethodName := ⟨RX4, "count", "(I)I"⟩
abbrev cX4_row : ByteArray := prog_6_method_21_code
def yX4_row : MethodName := ⟨RX4, "row", "(II)I"⟩
abbrev cX4_lose : ByteArray := prog_6_method_22_code
def yX4_lose : MethodName := ⟨RX4, "lose", "(I)I"⟩
abbrev cX4_spot : ByteArray := prog_6_method_23_code
def yX4_spot : MethodName := ⟨RX4, "spot", "(IIIII)I"⟩
abbrev cX4_carry : ByteArray := prog_6_method_24_code
def yX4_carry : MethodName := ⟨RX4, "carry", "(IIIII)I"⟩
abbrev cX4_tellPlaces : ByteArray := prog_6_method_25_code
def yX4_tellPlaces : MethodName := ⟨RX4, "tellPlaces", "(II)V"⟩
abbrev cX4_base : ByteArray := prog_6_method_26_code
def yX4_base : MethodName := ⟨RX4, "base", "(I)F"⟩
abbrev cX4_bearing : ByteArray := prog_6_method_27_code
def yX4_bearing : MethodName := ⟨RX4, "bearing", "(II)F"⟩
abbrev cX4_leastOf : ByteArray := prog_6_method_28_code
def yX4_leastOf : MethodName := ⟨RX4, "leastOf", "(I)F"⟩
abbrev cX4_bears : ByteArray := prog_6_method_29_code
def yX4_bears : MethodName := ⟨RX4, "bears", "(II)D"⟩
abbrev cX4_least : ByteArray := prog_6_method_30_code
def yX4_least : MethodName := ⟨RX4, "least", "(I)D"⟩
abbrev cX4_where : ByteArray := prog_6_method_31_code
def yX4_where : MethodName := ⟨RX4, "where", "(I)I"⟩
abbrev cX4_grams : ByteArray := prog_6_method_32_code
def yX4_grams : MethodName := ⟨RX4, "grams", "(I)J"⟩
abbrev cX4_rest : ByteArray := prog_6_method_33_code
def yX4_rest : MethodName := ⟨RX4, "rest", "(II)D"⟩
abbrev cX4_left : ByteArray := prog_6_method_34_code
def yX4_left : MethodName := ⟨RX4, "left", "(II)D"⟩
abbrev cX4_floor : ByteArray := prog_6_method_35_code
def yX4_floor : MethodName := ⟨RX4, "floor", "(D)J"⟩
abbrev cX4_nearest : ByteArray := prog_6_method_36_code
def yX4_nearest : MethodName := ⟨RX4, "nearest", "(D)J"⟩
abbrev cX4_turned : ByteArray := prog_6_method_37_code
def yX4_turned : MethodName := ⟨RX4, "turned", "(III)J"⟩
abbrev cX4_isReel : ByteArray := prog_6_method_38_code
def yX4_isReel : MethodName := ⟨RX4, "isReel", "(I)Z"⟩
abbrev cX4_isCutFrom : ByteArray := prog_6_method_39_code
def yX4_isCutFrom : MethodName := ⟨RX4, "isCutFrom", "(I)Z"⟩
abbrev cX4_hang : ByteArray := prog_6_method_40_code
def yX4_hang : MethodName := ⟨RX4, "hang", "(II)I"⟩
abbrev cX4_off : ByteArray := prog_6_method_41_code
def yX4_off : MethodName := ⟨RX4, "off", "(I)I"⟩
abbrev cX4_above : ByteArray := prog_6_method_42_code
def yX4_above : MethodName := ⟨RX4, "above", "(I)I"⟩
abbrev cX4_take : ByteArray := prog_6_method_43_code
def yX4_take : MethodName := ⟨RX4, "take", "(II)I"⟩
abbrev cX4_order : ByteArray := prog_6_method_44_code
def yX4_order : MethodName := ⟨RX4, "order", "(II)I"⟩
abbrev cX4_markTaken : ByteArray := prog_6_method_45_code
def yX4_markTaken : MethodName := ⟨RX4, "markTaken", "(I)V"⟩
abbrev cX4_look : ByteArray := prog_6_method_46_code
def yX4_look : MethodName := ⟨RX4, "look", "(I)V"⟩
abbrev cX4_fit : ByteArray := prog_6_method_47_code
def yX4_fit : MethodName := ⟨RX4, "fit", "(II)I"⟩
abbrev cX4_cutFrom : ByteArray := prog_6_method_48_code
def yX4_cutFrom : MethodName := ⟨RX4, "cutFrom", "(II)Z"⟩
abbrev cX4_hungReels : ByteArray := prog_6_method_49_code
def yX4_hungReels : MethodName := ⟨RX4, "hungReels", "()I"⟩
abbrev cX4_cut : ByteArray := prog_6_method_50_code
def yX4_cut : MethodName := ⟨RX4, "cut", "(I)I"⟩
abbrev cX4_join : ByteArray := prog_6_method_51_code
def yX4_join : MethodName := ⟨RX4, "join", "(I)I"⟩
abbrev cX4_begun : ByteArray := prog_6_method_52_code
def yX4_begun : MethodName := ⟨RX4, "begun", "()I"⟩
abbrev cX4_serves : ByteArray := prog_6_method_53_code
def yX4_serves : MethodName := ⟨RX4, "serves", "(I)Z"⟩
abbrev cX4_fewest : ByteArray := prog_6_method_54_code
def yX4_fewest : MethodName := ⟨RX4, "fewest", "()I"⟩
abbrev cX4_stage : ByteArray := prog_6_method_55_code
def yX4_stage : MethodName := ⟨RX4, "stage", "(I)I"⟩
abbrev cX4_unstage : ByteArray := prog_6_method_56_code
def yX4_unstage : MethodName := ⟨RX4, "unstage", "()I"⟩
abbrev cX4_product : ByteArray := prog_6_method_57_code
def yX4_product : MethodName := ⟨RX4, "product", "(I)J"⟩
abbrev cX4_lowest : ByteArray := prog_6_method_58_code
def yX4_lowest : MethodName := ⟨RX4, "lowest", "(JJI)J"⟩
abbrev cX4_pull : ByteArray := prog_6_method_59_code
def yX4_pull : MethodName := ⟨RX4, "pull", "(II)J"⟩
abbrev cX4_stress : ByteArray := prog_6_method_60_code
def yX4_stress : MethodName := ⟨RX4, "stress", "(III)J"⟩
def RJ9 : String := "java/lang/Math"
def TJ9 : u_T := fun k => match k with
  | _ => ("", "", "", false)
def tyJ9 : Nat → FieldType := fun k => match k with
  | _ => .int
abbrev wsJ90 : List Cond := u_ws RJ9 TJ9 0
theorem nmJ9 : ∀ a, a < 0 → ∀ b, b < 0 → a ≠ b → (TJ9 a).2.1 ≠ (TJ9 b).2.1 := by decide +kernel
theorem tyJ9_ok : ∀ k, k < 0 → parseFieldDescriptor (TJ9 k).2.2.1 = some (tyJ9 k) := by decide +kernel
abbrev cJ9_max_7cf53 : ByteArray := prog_7_method_65_code
def yJ9_max_7cf53 : MethodName := ⟨RJ9, "max", "(II)I"⟩
abbrev cJ9_min_7cf53 : ByteArray := prog_7_method_69_code
def yJ9_min_7cf53 : MethodName := ⟨RJ9, "min", "(II)I"⟩
def RJ10 : String := "java/lang/System"
def TJ10 : u_T := fun k => match k with
  | _ => ("", "", "", false)
def tyJ10 : Nat → FieldType := fun k => match k with
  | _ => .int
abbrev wsJ100 : List Cond := u_ws RJ10 TJ10 0
theorem nmJ10 : ∀ a, a < 0 → ∀ b, b < 0 → a ≠ b → (TJ10 a).2.1 ≠ (TJ10 b).2.1 := by decide +kernel
theorem tyJ10_ok : ∀ k, k < 0 → parseFieldDescriptor (TJ10 k).2.2.1 = some (tyJ10 k) := by decide +kernel
def RL : String := "RopeWalkLaw"
abbrev cL_law : ByteArray := code
def yL_law : MethodName := ⟨RL, "law", "([I)Z"⟩
abbrev vwCl : List vw_C := [(RX0, TX0, 6), (RX1, TX1, 14), (RX2, TX2, 4), (RX3, TX3, 9), (RX4, TX4, 36)]
end
section
theorem dX0_init_0 : decode cX0_init 0 = .ok (.aload_n 0, 1) := by decide +kernel
theorem dX0_init_1 : decode cX0_init 1 = .ok (.invokespecial 1, 3) := by decide +kernel
theorem dX0_init_4 : decode cX0_init 4 = .ok (.aload_n 0, 1) := by decide +kernel
theorem dX0_init_5 : decode cX0_init 5 = .ok (.iconst (-1), 1) := by decide +kernel
theorem dX0_init_6 : decode cX0_init 6 = .ok (.putfield 7, 3) := by decide +kernel
theorem dX0_init_9 : decode cX0_init 9 = .ok (.aload_n 0, 1) := by decide +kernel
theorem dX0_init_10 : decode cX0_init 10 = .ok (.iconst (-1), 1) := by decide +kernel
theorem dX0_init_11 : decode cX0_init 11 = .ok (.putfield 13, 3) := by decide +kernel
theorem dX0_init_14 : decode cX0_init 14 = .ok (.aload_n 0, 1) := by decide +kernel
theorem dX0_init_15 : decode cX0_init 15 = .ok (.iload_n 1, 1) := by decide +kernel
theorem dX0_init_16 : decode cX0_init 16 = .ok (.putfield 16, 3) := by decide +kernel
theorem dX0_init_19 : decode cX0_init 19 = .ok (.aload_n 0, 1) := by decide +kernel
theorem dX0_init_20 : decode cX0_init 20 = .ok (.fload_n 2, 1) := by decide +kernel
theorem dX0_init_21 : decode cX0_init 21 = .ok (.putfield 19, 3) := by decide +kernel
theorem dX0_init_24 : decode cX0_init 24 = .ok (.return_, 1) := by decide +kernel
theorem dX1_init_0 : decode cX1_init 0 = .ok (.aload_n 0, 1) := by decide +kernel
theorem dX1_init_1 : decode cX1_init 1 = .ok (.invokespecial 3, 3) := by decide +kernel
theorem dX1_init_4 : decode cX1_init 4 = .ok (.aload_n 0, 1) := by decide +kernel
theorem dX1_init_5 : decode cX1_init 5 = .ok (.iconst 0, 1) := by decide +kernel
theorem dX1_init_6 : decode cX1_init 6 = .ok (.putfield 9, 3) := by decide +kernel
theorem dX1_init_9 : decode cX1_init 9 = .ok (.aload_n 0, 1) := by decide +kernel
theorem dX1_init_10 : decode cX1_init 10 = .ok (.iconst (-1), 1) := by decide +kernel
theorem dX1_init_11 : decode cX1_init 11 = .ok (.putfield 15, 3) := by decide +kernel
theorem dX1_init_14 : decode cX1_init 14 = .ok (.aload_n 0, 1) := by decide +kernel
theorem dX1_init_15 : decode cX1_init 15 = .ok (.iconst (-1), 1) := by decide +kernel
theorem dX1_init_16 : decode cX1_init 16 = .ok (.putfield 18, 3) := by decide +kernel
theorem dX1_init_19 : decode cX1_init 19 = .ok (.aload_n 0, 1) := by decide +kernel
theorem dX1_init_20 : decode cX1_init 20 = .ok (.bipush 8, 2) := by decide +kernel
theorem dX1_init_22 : decode cX1_init 22 = .ok (.newarray .int, 2) := by decide +kernel
theorem dX1_init_24 : decode cX1_init 24 = .ok (.putfield 21, 3) := by decide +kernel
theorem dX1_init_27 : decode cX1_init 27 = .ok (.aload_n 0, 1) := by decide +kernel
theorem dX1_init_28 : decode cX1_init 28 = .ok (.bipush 8, 2) := by decide +kernel
theorem dX1_init_30 : decode cX1_init 30 = .ok (.newarray .int, 2) := by decide +kernel
theorem dX1_init_32 : decode cX1_init 32 = .ok (.putfield 25, 3) := by decide +kernel
theorem dX1_init_35 : decode cX1_init 35 = .ok (.aload_n 0, 1) := by decide +kernel
theorem dX1_init_36 : decode cX1_init 36 = .ok (.bipush 8, 2) := by decide +kernel
theorem dX1_init_38 : decode cX1_init 38 = .ok (.newarray .int, 2) := by decide +kernel
theorem dX1_init_40 : decode cX1_init 40 = .ok (.putfield 28, 3) := by decide +kernel
theorem dX1_init_43 : decode cX1_init 43 = .ok (.aload_n 0, 1) := by decide +kernel
theorem dX1_init_44 : decode cX1_init 44 = .ok (.iload_n 1, 1) := by decide +kernel
theorem dX1_init_45 : decode cX1_init 45 = .ok (.putfield 31, 3) := by decide +kernel
theorem dX1_init_48 : decode cX1_init 48 = .ok (.aload_n 0, 1) := by decide +kernel
theorem dX1_init_49 : decode cX1_init 49 = .ok (.iload_n 2, 1) := by decide +kernel
theorem dX1_init_50 : decode cX1_init 50 = .ok (.putfield 34, 3) := by decide +kernel
theorem dX1_init_53 : decode cX1_init 53 = .ok (.aload_n 0, 1) := by decide +kernel
theorem dX1_init_54 : decode cX1_init 54 = .ok (.iload_n 3, 1) := by decide +kernel
theorem dX1_init_55 : decode cX1_init 55 = .ok (.putfield 37, 3) := by decide +kernel
theorem dX1_init_58 : decode cX1_init 58 = .ok (.aload_n 0, 1) := by decide +kernel
theorem dX1_init_59 : decode cX1_init 59 = .ok (.iload 4, 2) := by decide +kernel
theorem dX1_init_61 : decode cX1_init 61 = .ok (.putfield 40, 3) := by decide +kernel
theorem dX1_init_64 : decode cX1_init 64 = .ok (.aload_n 0, 1) := by decide +kernel
theorem dX1_init_65 : decode cX1_init 65 = .ok (.aload 5, 2) := by decide +kernel
theorem dX1_init_67 : decode cX1_init 67 = .ok (.putfield 43, 3) := by decide +kernel
theorem dX1_init_70 : decode cX1_init 70 = .ok (.return_, 1) := by decide +kernel
theorem dX2_init_0 : decode cX2_init 0 = .ok (.aload_n 0, 1) := by decide +kernel
theorem dX2_init_1 : decode cX2_init 1 = .ok (.invokespecial 3, 3) := by decide +kernel
theorem dX2_init_4 : decode cX2_init 4 = .ok (.aload_n 0, 1) := by decide +kernel
theorem dX2_init_5 : decode cX2_init 5 = .ok (.sipush 2000, 3) := by decide +kernel
theorem dX2_init_8 : decode cX2_init 8 = .ok (.newarray .float, 2) := by decide +kernel
theorem dX2_init_10 : decode cX2_init 10 = .ok (.putfield 9, 3) := by decide +kernel
theorem dX2_init_13 : decode cX2_init 13 = .ok (.aload_n 0, 1) := by decide +kernel
theorem dX2_init_14 : decode cX2_init 14 = .ok (.sipush 2000, 3) := by decide +kernel
theorem dX2_init_17 : decode cX2_init 17 = .ok (.newarray .int, 2) := by decide +kernel
theorem dX2_init_19 : decode cX2_init 19 = .ok (.putfield 15, 3) := by decide +kernel
theorem dX2_init_22 : decode cX2_init 22 = .ok (.return_, 1) := by decide +kernel
theorem dX3_init_0 : decode cX3_init 0 = .ok (.aload_n 0, 1) := by decide +kernel
theorem dX3_init_1 : decode cX3_init 1 = .ok (.invokespecial 1, 3) := by decide +kernel
theorem dX3_init_4 : decode cX3_init 4 = .ok (.aload_n 0, 1) := by decide +kernel
theorem dX3_init_5 : decode cX3_init 5 = .ok (.bipush 120, 2) := by decide +kernel
theorem dX3_init_7 : decode cX3_init 7 = .ok (.anewarray 9, 3) := by decide +kernel
theorem dX3_init_10 : decode cX3_init 10 = .ok (.putfield 11, 3) := by decide +kernel
theorem dX3_init_13 : decode cX3_init 13 = .ok (.aload_n 0, 1) := by decide +kernel
theorem dX3_init_14 : decode cX3_init 14 = .ok (.bipush 9, 2) := by decide +kernel
theorem dX3_init_16 : decode cX3_init 16 = .ok (.anewarray 9, 3) := by decide +kernel
theorem dX3_init_19 : decode cX3_init 19 = .ok (.putfield 15, 3) := by decide +kernel
theorem dX3_init_22 : decode cX3_init 22 = .ok (.aload_n 0, 1) := by decide +kernel
theorem dX3_init_23 : decode cX3_init 23 = .ok (.bipush 6, 2) := by decide +kernel
theorem dX3_init_25 : decode cX3_init 25 = .ok (.anewarray 18, 3) := by decide +kernel
theorem dX3_init_28 : decode cX3_init 28 = .ok (.putfield 20, 3) := by decide +kernel
theorem dX3_init_31 : decode cX3_init 31 = .ok (.aload_n 0, 1) := by decide +kernel
theorem dX3_init_32 : decode cX3_init 32 = .ok (.bipush 6, 2) := by decide +kernel
theorem dX3_init_34 : decode cX3_init 34 = .ok (.anewarray 24, 3) := by decide +kernel
theorem dX3_init_37 : decode cX3_init 37 = .ok (.putfield 26, 3) := by decide +kernel
theorem dX3_init_40 : decode cX3_init 40 = .ok (.aload_n 0, 1) := by decide +kernel
theorem dX3_init_41 : decode cX3_init 41 = .ok (.bipush 10, 2) := by decide +kernel
theorem dX3_init_43 : decode cX3_init 43 = .ok (.newarray .int, 2) := by decide +kernel
theorem dX3_init_45 : decode cX3_init 45 = .ok (.putfield 30, 3) := by decide +kernel
theorem dX3_init_48 : decode cX3_init 48 = .ok (.iconst 0, 1) := by decide +kernel
theorem dX3_init_49 : decode cX3_init 49 = .ok (.istore_n 1, 1) := by decide +kernel
theorem dX3_init_50 : decode cX3_init 50 = .ok (.iload_n 1, 1) := by decide +kernel
theorem dX3_init_51 : decode cX3_init 51 = .ok (.bipush 6, 2) := by decide +kernel
theorem dX3_init_53 : decode cX3_init 53 = .ok (.if_icmp .ge 22, 3) := by decide +kernel
theorem dX3_init_56 : decode cX3_init 56 = .ok (.aload_n 0, 1) := by decide +kernel
theorem dX3_init_57 : decode cX3_init 57 = .ok (.getfield 20, 3) := by decide +kernel
theorem dX3_init_60 : decode cX3_init 60 = .ok (.iload_n 1, 1) := by decide +kernel
theorem dX3_init_61 : decode cX3_init 61 = .ok (.new 18, 3) := by decide +kernel
theorem dX3_init_64 : decode cX3_init 64 = .ok (.dup, 1) := by decide +kernel
theorem dX3_init_65 : decode cX3_init 65 = .ok (.invokespecial 34, 3) := by decide +kernel
theorem dX3_init_68 : decode cX3_init 68 = .ok (.aastore, 1) := by decide +kernel
theorem dX3_init_69 : decode cX3_init 69 = .ok (.iinc 1 1, 3) := by decide +kernel
theorem dX3_init_72 : decode cX3_init 72 = .ok (.goto (-22), 3) := by decide +kernel
theorem dX3_init_75 : decode cX3_init 75 = .ok (.return_, 1) := by decide +kernel
theorem dX3_yarn_0 : decode cX3_yarn 0 = .ok (.aload_n 0, 1) := by decide +kernel
theorem dX3_yarn_1 : decode cX3_yarn 1 = .ok (.iconst 0, 1) := by decide +kernel
theorem dX3_yarn_2 : decode cX3_yarn 2 = .ok (.iload_n 1, 1) := by decide +kernel
theorem dX3_yarn_3 : decode cX3_yarn 3 = .ok (.iload_n 2, 1) := by decide +kernel
theorem dX3_yarn_4 : decode cX3_yarn 4 = .ok (.invokevirtual 35, 3) := by decide +kernel
theorem dX3_yarn_7 : decode cX3_yarn 7 = .ok (.ireturn, 1) := by decide +kernel
theorem dX3_tape_0 : decode cX3_tape 0 = .ok (.aload_n 0, 1) := by decide +kernel
theorem dX3_tape_1 : decode cX3_tape 1 = .ok (.iconst 4, 1) := by decide +kernel
theorem dX3_tape_2 : decode cX3_tape 2 = .ok (.iload_n 1, 1) := by decide +kernel
theorem dX3_tape_3 : decode cX3_tape 3 = .ok (.iload_n 2, 1) := by decide +kernel
theorem dX3_tape_4 : decode cX3_tape 4 = .ok (.invokevirtual 35, 3) := by decide +kernel
theorem dX3_tape_7 : decode cX3_tape 7 = .ok (.ireturn, 1) := by decide +kernel
theorem dX3_spin_0 : decode cX3_spin 0 = .ok (.iload_n 2, 1) := by decide +kernel
theorem dX3_spin_1 : decode cX3_spin 1 = .ok (.iconst 1, 1) := by decide +kernel
theorem dX3_spin_2 : decode cX3_spin 2 = .ok (.if_icmp .lt 20, 3) := by decide +kernel
theorem dX3_spin_5 : decode cX3_spin 5 = .ok (.iload_n 2, 1) := by decide +kernel
theorem dX3_spin_6 : decode cX3_spin 6 = .ok (.sipush 2000, 3) := by decide +kernel
theorem dX3_spin_9 : decode cX3_spin 9 = .ok (.if_icmp .gt 13, 3) := by decide +kernel
theorem dX3_spin_12 : decode cX3_spin 12 = .ok (.iload_n 3, 1) := by decide +kernel
theorem dX3_spin_13 : decode cX3_spin 13 = .ok (.ifCond .lt 9, 3) := by decide +kernel
theorem dX3_spin_16 : decode cX3_spin 16 = .ok (.iload_n 3, 1) := by decide +kernel
theorem dX3_spin_17 : decode cX3_spin 17 = .ok (.ldc 39, 2) := by decide +kernel
theorem dX3_spin_19 : decode cX3_spin 19 = .ok (.if_icmp .le 6, 3) := by decide +kernel
theorem dX3_spin_22 : decode cX3_spin 22 = .ok (.bipush (-2), 2) := by decide +kernel
theorem dX3_spin_24 : decode cX3_spin 24 = .ok (.ireturn, 1) := by decide +kernel
theorem dX3_spin_25 : decode cX3_spin 25 = .ok (.aload_n 0, 1) := by decide +kernel
theorem dX3_spin_26 : decode cX3_spin 26 = .ok (.getfield 40, 3) := by decide +kernel
theorem dX3_spin_29 : decode cX3_spin 29 = .ok (.bipush 120, 2) := by decide +kernel
theorem dX3_spin_31 : decode cX3_spin 31 = .ok (.if_icmp .lt 6, 3) := by decide +kernel
theorem dX3_spin_34 : decode cX3_spin 34 = .ok (.bipush (-2), 2) := by decide +kernel
theorem dX3_spin_36 : decode cX3_spin 36 = .ok (.ireturn, 1) := by decide +kernel
theorem dX3_spin_37 : decode cX3_spin 37 = .ok (.iload_n 3, 1) := by decide +kernel
theorem dX3_spin_38 : decode cX3_spin 38 = .ok (.i2f, 1) := by decide +kernel
theorem dX3_spin_39 : decode cX3_spin 39 = .ok (.ldc 44, 2) := by decide +kernel
theorem dX3_spin_41 : decode cX3_spin 41 = .ok (.fmul, 1) := by decide +kernel
theorem dX3_spin_42 : decode cX3_spin 42 = .ok (.fstore 4, 2) := by decide +kernel
theorem dX3_spin_44 : decode cX3_spin 44 = .ok (.new 9, 3) := by decide +kernel
theorem dX3_spin_47 : decode cX3_spin 47 = .ok (.dup, 1) := by decide +kernel
theorem dX3_spin_48 : decode cX3_spin 48 = .ok (.aload_n 0, 1) := by decide +kernel
theorem dX3_spin_49 : decode cX3_spin 49 = .ok (.getfield 40, 3) := by decide +kernel
theorem dX3_spin_52 : decode cX3_spin 52 = .ok (.iload_n 1, 1) := by decide +kernel
theorem dX3_spin_53 : decode cX3_spin 53 = .ok (.iload_n 2, 1) := by decide +kernel
theorem dX3_spin_54 : decode cX3_spin 54 = .ok (.iconst 0, 1) := by decide +kernel
theorem dX3_spin_55 : decode cX3_spin 55 = .ok (.iconst 0, 1) := by decide +kernel
theorem dX3_spin_56 : decode cX3_spin 56 = .ok (.anewarray 9, 3) := by decide +kernel
theorem dX3_spin_59 : decode cX3_spin 59 = .ok (.invokespecial 45, 3) := by decide +kernel
theorem dX3_spin_62 : decode cX3_spin 62 = .ok (.astore 5, 2) := by decide +kernel
theorem dX3_spin_64 : decode cX3_spin 64 = .ok (.aload 5, 2) := by decide +kernel
theorem dX3_spin_66 : decode cX3_spin 66 = .ok (.iload_n 1, 1) := by decide +kernel
theorem dX3_spin_67 : decode cX3_spin 67 = .ok (.iconst 4, 1) := by decide +kernel
theorem dX3_spin_68 : decode cX3_spin 68 = .ok (.if_icmp .ne 11, 3) := by decide +kernel
theorem dX3_spin_71 : decode cX3_spin 71 = .ok (.fload 4, 2) := by decide +kernel
theorem dX3_spin_73 : decode cX3_spin 73 = .ok (.ldc 48, 2) := by decide +kernel
theorem dX3_spin_75 : decode cX3_spin 75 = .ok (.fmul, 1) := by decide +kernel
theorem dX3_spin_76 : decode cX3_spin 76 = .ok (.goto 5, 3) := by decide +kernel
theorem dX3_spin_79 : decode cX3_spin 79 = .ok (.fload 4, 2) := by decide +kernel
theorem dX3_spin_81 : decode cX3_spin 81 = .ok (.putfield 49, 3) := by decide +kernel
theorem dX3_spin_84 : decode cX3_spin 84 = .ok (.aload 5, 2) := by decide +kernel
theorem dX3_spin_86 : decode cX3_spin 86 = .ok (.iload_n 1, 1) := by decide +kernel
theorem dX3_spin_87 : decode cX3_spin 87 = .ok (.iconst 4, 1) := by decide +kernel
theorem dX3_spin_88 : decode cX3_spin 88 = .ok (.if_icmp .ne 9, 3) := by decide +kernel
theorem dX3_spin_91 : decode cX3_spin 91 = .ok (.iconst 2, 1) := by decide +kernel
theorem dX3_spin_92 : decode cX3_spin 92 = .ok (.iload_n 2, 1) := by decide +kernel
theorem dX3_spin_93 : decode cX3_spin 93 = .ok (.imul, 1) := by decide +kernel
theorem dX3_spin_94 : decode cX3_spin 94 = .ok (.goto 4, 3) := by decide +kernel
theorem dX3_spin_97 : decode cX3_spin 97 = .ok (.iload_n 2, 1) := by decide +kernel
theorem dX3_spin_98 : decode cX3_spin 98 = .ok (.putfield 53, 3) := by decide +kernel
theorem dX3_spin_101 : decode cX3_spin 101 = .ok (.aload_n 0, 1) := by decide +kernel
theorem dX3_spin_102 : decode cX3_spin 102 = .ok (.aload 5, 2) := by decide +kernel
theorem dX3_spin_104 : decode cX3_spin 104 = .ok (.invokevirtual 56, 3) := by decide +kernel
theorem dX3_spin_107 : decode cX3_spin 107 = .ok (.ireturn, 1) := by decide +kernel
theorem dX3_keep_0 : decode cX3_keep 0 = .ok (.aload_n 0, 1) := by decide +kernel
theorem dX3_keep_1 : decode cX3_keep 1 = .ok (.getfield 40, 3) := by decide +kernel
theorem dX3_keep_4 : decode cX3_keep 4 = .ok (.bipush 120, 2) := by decide +kernel
theorem dX3_keep_6 : decode cX3_keep 6 = .ok (.if_icmp .lt 6, 3) := by decide +kernel
theorem dX3_keep_9 : decode cX3_keep 9 = .ok (.bipush (-2), 2) := by decide +kernel
theorem dX3_keep_11 : decode cX3_keep 11 = .ok (.ireturn, 1) := by decide +kernel
theorem dX3_keep_12 : decode cX3_keep 12 = .ok (.aload_n 0, 1) := by decide +kernel
theorem dX3_keep_13 : decode cX3_keep 13 = .ok (.getfield 11, 3) := by decide +kernel
theorem dX3_keep_16 : decode cX3_keep 16 = .ok (.aload_n 0, 1) := by decide +kernel
theorem dX3_keep_17 : decode cX3_keep 17 = .ok (.getfield 40, 3) := by decide +kernel
theorem dX3_keep_20 : decode cX3_keep 20 = .ok (.aload_n 1, 1) := by decide +kernel
theorem dX3_keep_21 : decode cX3_keep 21 = .ok (.aastore, 1) := by decide +kernel
theorem dX3_keep_22 : decode cX3_keep 22 = .ok (.aload_n 0, 1) := by decide +kernel
theorem dX3_keep_23 : decode cX3_keep 23 = .ok (.dup, 1) := by decide +kernel
theorem dX3_keep_24 : decode cX3_keep 24 = .ok (.getfield 40, 3) := by decide +kernel
theorem dX3_keep_27 : decode cX3_keep 27 = .ok (.iconst 1, 1) := by decide +kernel
theorem dX3_keep_28 : decode cX3_keep 28 = .ok (.iadd, 1) := by decide +kernel
theorem dX3_keep_29 : decode cX3_keep 29 = .ok (.putfield 40, 3) := by decide +kernel
theorem dX3_keep_32 : decode cX3_keep 32 = .ok (.aload_n 1, 1) := by decide +kernel
theorem dX3_keep_33 : decode cX3_keep 33 = .ok (.getfield 60, 3) := by decide +kernel
theorem dX3_keep_36 : decode cX3_keep 36 = .ok (.ireturn, 1) := by decide +kernel
theorem dX3_pieceAt_0 : decode cX3_pieceAt 0 = .ok (.iload_n 1, 1) := by decide +kernel
theorem dX3_pieceAt_1 : decode cX3_pieceAt 1 = .ok (.ifCond .lt 17, 3) := by decide +kernel
theorem dX3_pieceAt_4 : decode cX3_pieceAt 4 = .ok (.iload_n 1, 1) := by decide +kernel
theorem dX3_pieceAt_5 : decode cX3_pieceAt 5 = .ok (.aload_n 0, 1) := by decide +kernel
theorem dX3_pieceAt_6 : decode cX3_pieceAt 6 = .ok (.getfield 40, 3) := by decide +kernel
theorem dX3_pieceAt_9 : decode cX3_pieceAt 9 = .ok (.if_icmp .ge 9, 3) := by decide +kernel
theorem dX3_pieceAt_12 : decode cX3_pieceAt 12 = .ok (.iload_n 1, 1) := by decide +kernel
theorem dX3_pieceAt_13 : decode cX3_pieceAt 13 = .ok (.bipush 120, 2) := by decide +kernel
theorem dX3_pieceAt_15 : decode cX3_pieceAt 15 = .ok (.if_icmp .lt 5, 3) := by decide +kernel
theorem dX3_pieceAt_18 : decode cX3_pieceAt 18 = .ok (.aconst_null, 1) := by decide +kernel
theorem dX3_pieceAt_19 : decode cX3_pieceAt 19 = .ok (.areturn, 1) := by decide +kernel
theorem dX3_pieceAt_20 : decode cX3_pieceAt 20 = .ok (.aload_n 0, 1) := by decide +kernel
theorem dX3_pieceAt_21 : decode cX3_pieceAt 21 = .ok (.getfield 11, 3) := by decide +kernel
theorem dX3_pieceAt_24 : decode cX3_pieceAt 24 = .ok (.iload_n 1, 1) := by decide +kernel
theorem dX3_pieceAt_25 : decode cX3_pieceAt 25 = .ok (.aaload, 1) := by decide +kernel
theorem dX3_pieceAt_26 : decode cX3_pieceAt 26 = .ok (.areturn, 1) := by decide +kernel
theorem dX3_pieceNotGone_0 : decode cX3_pieceNotGone 0 = .ok (.aload_n 0, 1) := by decide +kernel
theorem dX3_pieceNotGone_1 : decode cX3_pieceNotGone 1 = .ok (.iload_n 1, 1) := by decide +kernel
theorem dX3_pieceNotGone_2 : decode cX3_pieceNotGone 2 = .ok (.invokevirtual 63, 3) := by decide +kernel
theorem dX3_pieceNotGone_5 : decode cX3_pieceNotGone 5 = .ok (.astore_n 2, 1) := by decide +kernel
theorem dX3_pieceNotGone_6 : decode cX3_pieceNotGone 6 = .ok (.aload_n 2, 1) := by decide +kernel
theorem dX3_pieceNotGone_7 : decode cX3_pieceNotGone 7 = .ok (.ifnull 11, 3) := by decide +kernel
theorem dX3_pieceNotGone_10 : decode cX3_pieceNotGone 10 = .ok (.aload_n 2, 1) := by decide +kernel
theorem dX3_pieceNotGone_11 : decode cX3_pieceNotGone 11 = .ok (.getfield 67, 3) := by decide +kernel
theorem dX3_pieceNotGone_14 : decode cX3_pieceNotGone 14 = .ok (.iconst 3, 1) := by decide +kernel
theorem dX3_pieceNotGone_15 : decode cX3_pieceNotGone 15 = .ok (.if_icmp .ne 7, 3) := by decide +kernel
theorem dX3_pieceNotGone_18 : decode cX3_pieceNotGone 18 = .ok (.aconst_null, 1) := by decide +kernel
theorem dX3_pieceNotGone_19 : decode cX3_pieceNotGone 19 = .ok (.goto 4, 3) := by decide +kernel
theorem dX3_pieceNotGone_22 : decode cX3_pieceNotGone 22 = .ok (.aload_n 2, 1) := by decide +kernel
theorem dX3_pieceNotGone_23 : decode cX3_pieceNotGone 23 = .ok (.areturn, 1) := by decide +kernel
theorem dX3_freePiece_0 : decode cX3_freePiece 0 = .ok (.aload_n 0, 1) := by decide +kernel
theorem dX3_freePiece_1 : decode cX3_freePiece 1 = .ok (.iload_n 1, 1) := by decide +kernel
theorem dX3_freePiece_2 : decode cX3_freePiece 2 = .ok (.invokevirtual 63, 3) := by decide +kernel
theorem dX3_freePiece_5 : decode cX3_freePiece 5 = .ok (.astore_n 2, 1) := by decide +kernel
theorem dX3_freePiece_6 : decode cX3_freePiece 6 = .ok (.aload_n 2, 1) := by decide +kernel
theorem dX3_freePiece_7 : decode cX3_freePiece 7 = .ok (.ifnull 10, 3) := by decide +kernel
theorem dX3_freePiece_10 : decode cX3_freePiece 10 = .ok (.aload_n 2, 1) := by decide +kernel
theorem dX3_freePiece_11 : decode cX3_freePiece 11 = .ok (.getfield 67, 3) := by decide +kernel
theorem dX3_freePiece_14 : decode cX3_freePiece 14 = .ok (.ifCond .eq 7, 3) := by decide +kernel
theorem dX3_freePiece_17 : decode cX3_freePiece 17 = .ok (.aconst_null, 1) := by decide +kernel
theorem dX3_freePiece_18 : decode cX3_freePiece 18 = .ok (.goto 4, 3) := by decide +kernel
theorem dX3_freePiece_21 : decode cX3_freePiece 21 = .ok (.aload_n 2, 1) := by decide +kernel
theorem dX3_freePiece_22 : decode cX3_freePiece 22 = .ok (.areturn, 1) := by decide +kernel
theorem dX3_pick_0 : decode cX3_pick 0 = .ok (.aload_n 0, 1) := by decide +kernel
theorem dX3_pick_1 : decode cX3_pick 1 = .ok (.iload_n 1, 1) := by decide +kernel
theorem dX3_pick_2 : decode cX3_pick 2 = .ok (.invokevirtual 70, 3) := by decide +kernel
theorem dX3_pick_5 : decode cX3_pick 5 = .ok (.astore_n 2, 1) := by decide +kernel
theorem dX3_pick_6 : decode cX3_pick 6 = .ok (.aload_n 2, 1) := by decide +kernel
theorem dX3_pick_7 : decode cX3_pick 7 = .ok (.ifnull 20, 3) := by decide +kernel
theorem dX3_pick_10 : decode cX3_pick 10 = .ok (.aload_n 0, 1) := by decide +kernel
theorem dX3_pick_11 : decode cX3_pick 11 = .ok (.aload_n 2, 1) := by decide +kernel
theorem dX3_pick_12 : decode cX3_pick 12 = .ok (.invokevirtual 73, 3) := by decide +kernel
theorem dX3_pick_15 : decode cX3_pick 15 = .ok (.ifCond .ne 12, 3) := by decide +kernel
theorem dX3_pick_18 : decode cX3_pick 18 = .ok (.aload_n 0, 1) := by decide +kernel
theorem dX3_pick_19 : decode cX3_pick 19 = .ok (.getfield 77, 3) := by decide +kernel
theorem dX3_pick_22 : decode cX3_pick 22 = .ok (.bipush 9, 2) := by decide +kernel
theorem dX3_pick_24 : decode cX3_pick 24 = .ok (.if_icmp .lt 6, 3) := by decide +kernel
theorem dX3_pick_27 : decode cX3_pick 27 = .ok (.bipush (-2), 2) := by decide +kernel
theorem dX3_pick_29 : decode cX3_pick 29 = .ok (.ireturn, 1) := by decide +kernel
theorem dX3_pick_30 : decode cX3_pick 30 = .ok (.aload_n 0, 1) := by decide +kernel
theorem dX3_pick_31 : decode cX3_pick 31 = .ok (.getfield 15, 3) := by decide +kernel
theorem dX3_pick_34 : decode cX3_pick 34 = .ok (.aload_n 0, 1) := by decide +kernel
theorem dX3_pick_35 : decode cX3_pick 35 = .ok (.getfield 77, 3) := by decide +kernel
theorem dX3_pick_38 : decode cX3_pick 38 = .ok (.aload_n 2, 1) := by decide +kernel
theorem dX3_pick_39 : decode cX3_pick 39 = .ok (.aastore, 1) := by decide +kernel
theorem dX3_pick_40 : decode cX3_pick 40 = .ok (.aload_n 0, 1) := by decide +kernel
theorem dX3_pick_41 : decode cX3_pick 41 = .ok (.dup, 1) := by decide +kernel
theorem dX3_pick_42 : decode cX3_pick 42 = .ok (.getfield 77, 3) := by decide +kernel
theorem dX3_pick_45 : decode cX3_pick 45 = .ok (.iconst 1, 1) := by decide +kernel
theorem dX3_pick_46 : decode cX3_pick 46 = .ok (.iadd, 1) := by decide +kernel
theorem dX3_pick_47 : decode cX3_pick 47 = .ok (.putfield 77, 3) := by decide +kernel
theorem dX3_pick_50 : decode cX3_pick 50 = .ok (.aload_n 0, 1) := by decide +kernel
theorem dX3_pick_51 : decode cX3_pick 51 = .ok (.getfield 77, 3) := by decide +kernel
theorem dX3_pick_54 : decode cX3_pick 54 = .ok (.ireturn, 1) := by decide +kernel
theorem dX3_isPicked_0 : decode cX3_isPicked 0 = .ok (.iconst 0, 1) := by decide +kernel
theorem dX3_isPicked_1 : decode cX3_isPicked 1 = .ok (.istore_n 2, 1) := by decide +kernel
theorem dX3_isPicked_2 : decode cX3_isPicked 2 = .ok (.iload_n 2, 1) := by decide +kernel
theorem dX3_isPicked_3 : decode cX3_isPicked 3 = .ok (.aload_n 0, 1) := by decide +kernel
theorem dX3_isPicked_4 : decode cX3_isPicked 4 = .ok (.getfield 77, 3) := by decide +kernel
theorem dX3_isPicked_7 : decode cX3_isPicked 7 = .ok (.if_icmp .ge 27, 3) := by decide +kernel
theorem dX3_isPicked_10 : decode cX3_isPicked 10 = .ok (.iload_n 2, 1) := by decide +kernel
theorem dX3_isPicked_11 : decode cX3_isPicked 11 = .ok (.bipush 9, 2) := by decide +kernel
theorem dX3_isPicked_13 : decode cX3_isPicked 13 = .ok (.if_icmp .ge 21, 3) := by decide +kernel
theorem dX3_isPicked_16 : decode cX3_isPicked 16 = .ok (.aload_n 0, 1) := by decide +kernel
theorem dX3_isPicked_17 : decode cX3_isPicked 17 = .ok (.getfield 15, 3) := by decide +kernel
theorem dX3_isPicked_20 : decode cX3_isPicked 20 = .ok (.iload_n 2, 1) := by decide +kernel
theorem dX3_isPicked_21 : decode cX3_isPicked 21 = .ok (.aaload, 1) := by decide +kernel
theorem dX3_isPicked_22 : decode cX3_isPicked 22 = .ok (.aload_n 1, 1) := by decide +kernel
theorem dX3_isPicked_23 : decode cX3_isPicked 23 = .ok (.if_acmp .ne 5, 3) := by decide +kernel
theorem dX3_isPicked_26 : decode cX3_isPicked 26 = .ok (.iconst 1, 1) := by decide +kernel
theorem dX3_isPicked_27 : decode cX3_isPicked 27 = .ok (.ireturn, 1) := by decide +kernel
theorem dX3_isPicked_28 : decode cX3_isPicked 28 = .ok (.iinc 2 1, 3) := by decide +kernel
theorem dX3_isPicked_31 : decode cX3_isPicked 31 = .ok (.goto (-29), 3) := by decide +kernel
theorem dX3_isPicked_34 : decode cX3_isPicked 34 = .ok (.iconst 0, 1) := by decide +kernel
theorem dX3_isPicked_35 : decode cX3_isPicked 35 = .ok (.ireturn, 1) := by decide +kernel
theorem dX3_drop_0 : decode cX3_drop 0 = .ok (.aload_n 0, 1) := by decide +kernel
theorem dX3_drop_1 : decode cX3_drop 1 = .ok (.getfield 77, 3) := by decide +kernel
theorem dX3_drop_4 : decode cX3_drop 4 = .ok (.istore_n 1, 1) := by decide +kernel
theorem dX3_drop_5 : decode cX3_drop 5 = .ok (.aload_n 0, 1) := by decide +kernel
theorem dX3_drop_6 : decode cX3_drop 6 = .ok (.iconst 0, 1) := by decide +kernel
theorem dX3_drop_7 : decode cX3_drop 7 = .ok (.putfield 77, 3) := by decide +kernel
theorem dX3_drop_10 : decode cX3_drop 10 = .ok (.iload_n 1, 1) := by decide +kernel
theorem dX3_drop_11 : decode cX3_drop 11 = .ok (.ireturn, 1) := by decide +kernel
theorem dX3_lay_0 : decode cX3_lay 0 = .ok (.iload_n 1, 1) := by decide +kernel
theorem dX3_lay_1 : decode cX3_lay 1 = .ok (.iconst 1, 1) := by decide +kernel
theorem dX3_lay_2 : decode cX3_lay 2 = .ok (.if_icmp .lt 18, 3) := by decide +kernel
theorem dX3_lay_5 : decode cX3_lay 5 = .ok (.iload_n 1, 1) := by decide +kernel
theorem dX3_lay_6 : decode cX3_lay 6 = .ok (.iconst 3, 1) := by decide +kernel
theorem dX3_lay_7 : decode cX3_lay 7 = .ok (.if_icmp .gt 13, 3) := by decide +kernel
theorem dX3_lay_10 : decode cX3_lay 10 = .ok (.iload_n 2, 1) := by decide +kernel
theorem dX3_lay_11 : decode cX3_lay 11 = .ok (.iconst 1, 1) := by decide +kernel
theorem dX3_lay_12 : decode cX3_lay 12 = .ok (.if_icmp .lt 8, 3) := by decide +kernel
theorem dX3_lay_15 : decode cX3_lay 15 = .ok (.iload_n 2, 1) := by decide +kernel
theorem dX3_lay_16 : decode cX3_lay 16 = .ok (.iconst 2, 1) := by decide +kernel
theorem dX3_lay_17 : decode cX3_lay 17 = .ok (.if_icmp .le 6, 3) := by decide +kernel
theorem dX3_lay_20 : decode cX3_lay 20 = .ok (.bipush (-2), 2) := by decide +kernel
theorem dX3_lay_22 : decode cX3_lay 22 = .ok (.ireturn, 1) := by decide +kernel
theorem dX3_lay_23 : decode cX3_lay 23 = .ok (.iload_n 3, 1) := by decide +kernel
theorem dX3_lay_24 : decode cX3_lay 24 = .ok (.ifCond .lt 19, 3) := by decide +kernel
theorem dX3_lay_27 : decode cX3_lay 27 = .ok (.iload_n 3, 1) := by decide +kernel
theorem dX3_lay_28 : decode cX3_lay 28 = .ok (.sipush 400, 3) := by decide +kernel
theorem dX3_lay_31 : decode cX3_lay 31 = .ok (.if_icmp .gt 12, 3) := by decide +kernel
theorem dX3_lay_34 : decode cX3_lay 34 = .ok (.aload_n 0, 1) := by decide +kernel
theorem dX3_lay_35 : decode cX3_lay 35 = .ok (.getfield 40, 3) := by decide +kernel
theorem dX3_lay_38 : decode cX3_lay 38 = .ok (.bipush 120, 2) := by decide +kernel
theorem dX3_lay_40 : decode cX3_lay 40 = .ok (.if_icmp .lt 6, 3) := by decide +kernel
theorem dX3_lay_43 : decode cX3_lay 43 = .ok (.bipush (-2), 2) := by decide +kernel
theorem dX3_lay_45 : decode cX3_lay 45 = .ok (.ireturn, 1) := by decide +kernel
theorem dX3_lay_46 : decode cX3_lay 46 = .ok (.iload_n 1, 1) := by decide +kernel
theorem dX3_lay_47 : decode cX3_lay 47 = .ok (.aload_n 0, 1) := by decide +kernel
theorem dX3_lay_48 : decode cX3_lay 48 = .ok (.getfield 77, 3) := by decide +kernel
theorem dX3_lay_51 : decode cX3_lay 51 = .ok (.invokestatic 80, 3) := by decide +kernel
theorem dX3_lay_54 : decode cX3_lay 54 = .ok (.ifCond .eq 12, 3) := by decide +kernel
theorem dX3_lay_57 : decode cX3_lay 57 = .ok (.aload_n 0, 1) := by decide +kernel
theorem dX3_lay_58 : decode cX3_lay 58 = .ok (.iload_n 1, 1) := by decide +kernel
theorem dX3_lay_59 : decode cX3_lay 59 = .ok (.iload_n 2, 1) := by decide +kernel
theorem dX3_lay_60 : decode cX3_lay 60 = .ok (.invokevirtual 84, 3) := by decide +kernel
theorem dX3_lay_63 : decode cX3_lay 63 = .ok (.ifCond .ne 6, 3) := by decide +kernel
theorem dX3_lay_66 : decode cX3_lay 66 = .ok (.bipush (-2), 2) := by decide +kernel
theorem dX3_lay_68 : decode cX3_lay 68 = .ok (.ireturn, 1) := by decide +kernel
theorem dX3_lay_69 : decode cX3_lay 69 = .ok (.aload_n 0, 1) := by decide +kernel
theorem dX3_lay_70 : decode cX3_lay 70 = .ok (.invokevirtual 87, 3) := by decide +kernel
theorem dX3_lay_73 : decode cX3_lay 73 = .ok (.sipush 1000, 3) := by decide +kernel
theorem dX3_lay_76 : decode cX3_lay 76 = .ok (.iload_n 3, 1) := by decide +kernel
theorem dX3_lay_77 : decode cX3_lay 77 = .ok (.isub, 1) := by decide +kernel
theorem dX3_lay_78 : decode cX3_lay 78 = .ok (.imul, 1) := by decide +kernel
theorem dX3_lay_79 : decode cX3_lay 79 = .ok (.sipush 1000, 3) := by decide +kernel
theorem dX3_lay_82 : decode cX3_lay 82 = .ok (.idiv, 1) := by decide +kernel
theorem dX3_lay_83 : decode cX3_lay 83 = .ok (.istore 4, 2) := by decide +kernel
theorem dX3_lay_85 : decode cX3_lay 85 = .ok (.iload 4, 2) := by decide +kernel
theorem dX3_lay_87 : decode cX3_lay 87 = .ok (.iconst 1, 1) := by decide +kernel
theorem dX3_lay_88 : decode cX3_lay 88 = .ok (.if_icmp .ge 6, 3) := by decide +kernel
theorem dX3_lay_91 : decode cX3_lay 91 = .ok (.bipush (-2), 2) := by decide +kernel
theorem dX3_lay_93 : decode cX3_lay 93 = .ok (.ireturn, 1) := by decide +kernel
theorem dX3_lay_94 : decode cX3_lay 94 = .ok (.new 9, 3) := by decide +kernel
theorem dX3_lay_97 : decode cX3_lay 97 = .ok (.dup, 1) := by decide +kernel
theorem dX3_lay_98 : decode cX3_lay 98 = .ok (.aload_n 0, 1) := by decide +kernel
theorem dX3_lay_99 : decode cX3_lay 99 = .ok (.getfield 40, 3) := by decide +kernel
theorem dX3_lay_102 : decode cX3_lay 102 = .ok (.iload_n 1, 1) := by decide +kernel
theorem dX3_lay_103 : decode cX3_lay 103 = .ok (.iload 4, 2) := by decide +kernel
theorem dX3_lay_105 : decode cX3_lay 105 = .ok (.iload_n 2, 1) := by decide +kernel
theorem dX3_lay_106 : decode cX3_lay 106 = .ok (.aload_n 0, 1) := by decide +kernel
theorem dX3_lay_107 : decode cX3_lay 107 = .ok (.invokevirtual 91, 3) := by decide +kernel
theorem dX3_lay_110 : decode cX3_lay 110 = .ok (.invokespecial 45, 3) := by decide +kernel
theorem dX3_lay_113 : decode cX3_lay 113 = .ok (.astore 5, 2) := by decide +kernel
theorem dX3_lay_115 : decode cX3_lay 115 = .ok (.aload 5, 2) := by decide +kernel
theorem dX3_lay_117 : decode cX3_lay 117 = .ok (.invokestatic 95, 3) := by decide +kernel
theorem dX3_lay_120 : decode cX3_lay 120 = .ok (.iload_n 1, 1) := by decide +kernel
theorem dX3_lay_121 : decode cX3_lay 121 = .ok (.iconst 3, 1) := by decide +kernel
theorem dX3_lay_122 : decode cX3_lay 122 = .ok (.if_icmp .ne 15, 3) := by decide +kernel
theorem dX3_lay_125 : decode cX3_lay 125 = .ok (.aload 5, 2) := by decide +kernel
theorem dX3_lay_127 : decode cX3_lay 127 = .ok (.dup, 1) := by decide +kernel
theorem dX3_lay_128 : decode cX3_lay 128 = .ok (.getfield 53, 3) := by decide +kernel
theorem dX3_lay_131 : decode cX3_lay 131 = .ok (.iload 4, 2) := by decide +kernel
theorem dX3_lay_133 : decode cX3_lay 133 = .ok (.iadd, 1) := by decide +kernel
theorem dX3_lay_134 : decode cX3_lay 134 = .ok (.putfield 53, 3) := by decide +kernel
theorem dX3_lay_137 : decode cX3_lay 137 = .ok (.aload_n 0, 1) := by decide +kernel
theorem dX3_lay_138 : decode cX3_lay 138 = .ok (.iconst 0, 1) := by decide +kernel
theorem dX3_lay_139 : decode cX3_lay 139 = .ok (.putfield 77, 3) := by decide +kernel
theorem dX3_lay_142 : decode cX3_lay 142 = .ok (.aload_n 0, 1) := by decide +kernel
theorem dX3_lay_143 : decode cX3_lay 143 = .ok (.aload 5, 2) := by decide +kernel
theorem dX3_lay_145 : decode cX3_lay 145 = .ok (.invokevirtual 56, 3) := by decide +kernel
theorem dX3_lay_148 : decode cX3_lay 148 = .ok (.ireturn, 1) := by decide +kernel
theorem dX3_canHold_0 : decode cX3_canHold 0 = .ok (.iload_n 0, 1) := by decide +kernel
theorem dX3_canHold_1 : decode cX3_canHold 1 = .ok (.iconst 1, 1) := by decide +kernel
theorem dX3_canHold_2 : decode cX3_canHold 2 = .ok (.if_icmp .ne 20, 3) := by decide +kernel
theorem dX3_canHold_5 : decode cX3_canHold 5 = .ok (.iload_n 1, 1) := by decide +kernel
theorem dX3_canHold_6 : decode cX3_canHold 6 = .ok (.iconst 2, 1) := by decide +kernel
theorem dX3_canHold_7 : decode cX3_canHold 7 = .ok (.if_icmp .lt 13, 3) := by decide +kernel
theorem dX3_canHold_10 : decode cX3_canHold 10 = .ok (.iload_n 1, 1) := by decide +kernel
theorem dX3_canHold_11 : decode cX3_canHold 11 = .ok (.bipush 9, 2) := by decide +kernel
theorem dX3_canHold_13 : decode cX3_canHold 13 = .ok (.if_icmp .gt 7, 3) := by decide +kernel
theorem dX3_canHold_16 : decode cX3_canHold 16 = .ok (.iconst 1, 1) := by decide +kernel
theorem dX3_canHold_17 : decode cX3_canHold 17 = .ok (.goto 4, 3) := by decide +kernel
theorem dX3_canHold_20 : decode cX3_canHold 20 = .ok (.iconst 0, 1) := by decide +kernel
theorem dX3_canHold_21 : decode cX3_canHold 21 = .ok (.ireturn, 1) := by decide +kernel
theorem dX3_canHold_22 : decode cX3_canHold 22 = .ok (.iload_n 0, 1) := by decide +kernel
theorem dX3_canHold_23 : decode cX3_canHold 23 = .ok (.iconst 2, 1) := by decide +kernel
theorem dX3_canHold_24 : decode cX3_canHold 24 = .ok (.if_icmp .ne 19, 3) := by decide +kernel
theorem dX3_canHold_27 : decode cX3_canHold 27 = .ok (.iload_n 1, 1) := by decide +kernel
theorem dX3_canHold_28 : decode cX3_canHold 28 = .ok (.iconst 3, 1) := by decide +kernel
theorem dX3_canHold_29 : decode cX3_canHold 29 = .ok (.if_icmp .eq 8, 3) := by decide +kernel
theorem dX3_canHold_32 : decode cX3_canHold 32 = .ok (.iload_n 1, 1) := by decide +kernel
theorem dX3_canHold_33 : decode cX3_canHold 33 = .ok (.iconst 4, 1) := by decide +kernel
theorem dX3_canHold_34 : decode cX3_canHold 34 = .ok (.if_icmp .ne 7, 3) := by decide +kernel
theorem dX3_canHold_37 : decode cX3_canHold 37 = .ok (.iconst 1, 1) := by decide +kernel
theorem dX3_canHold_38 : decode cX3_canHold 38 = .ok (.goto 4, 3) := by decide +kernel
theorem dX3_canHold_41 : decode cX3_canHold 41 = .ok (.iconst 0, 1) := by decide +kernel
theorem dX3_canHold_42 : decode cX3_canHold 42 = .ok (.ireturn, 1) := by decide +kernel
theorem dX3_canHold_43 : decode cX3_canHold 43 = .ok (.iload_n 0, 1) := by decide +kernel
theorem dX3_canHold_44 : decode cX3_canHold 44 = .ok (.iconst 3, 1) := by decide +kernel
theorem dX3_canHold_45 : decode cX3_canHold 45 = .ok (.if_icmp .ne 12, 3) := by decide +kernel
theorem dX3_canHold_48 : decode cX3_canHold 48 = .ok (.iload_n 1, 1) := by decide +kernel
theorem dX3_canHold_49 : decode cX3_canHold 49 = .ok (.iconst 3, 1) := by decide +kernel
theorem dX3_canHold_50 : decode cX3_canHold 50 = .ok (.if_icmp .ne 7, 3) := by decide +kernel
theorem dX3_canHold_53 : decode cX3_canHold 53 = .ok (.iconst 1, 1) := by decide +kernel
theorem dX3_canHold_54 : decode cX3_canHold 54 = .ok (.goto 4, 3) := by decide +kernel
theorem dX3_canHold_57 : decode cX3_canHold 57 = .ok (.iconst 0, 1) := by decide +kernel
theorem dX3_canHold_58 : decode cX3_canHold 58 = .ok (.ireturn, 1) := by decide +kernel
theorem dX3_pickedFit_0 : decode cX3_pickedFit 0 = .ok (.iconst 0, 1) := by decide +kernel
theorem dX3_pickedFit_1 : decode cX3_pickedFit 1 = .ok (.istore_n 3, 1) := by decide +kernel
theorem dX3_pickedFit_2 : decode cX3_pickedFit 2 = .ok (.iload_n 3, 1) := by decide +kernel
theorem dX3_pickedFit_3 : decode cX3_pickedFit 3 = .ok (.aload_n 0, 1) := by decide +kernel
theorem dX3_pickedFit_4 : decode cX3_pickedFit 4 = .ok (.getfield 77, 3) := by decide +kernel
theorem dX3_pickedFit_7 : decode cX3_pickedFit 7 = .ok (.if_icmp .ge 48, 3) := by decide +kernel
theorem dX3_pickedFit_10 : decode cX3_pickedFit 10 = .ok (.iload_n 3, 1) := by decide +kernel
theorem dX3_pickedFit_11 : decode cX3_pickedFit 11 = .ok (.bipush 9, 2) := by decide +kernel
theorem dX3_pickedFit_13 : decode cX3_pickedFit 13 = .ok (.if_icmp .ge 42, 3) := by decide +kernel
theorem dX3_pickedFit_16 : decode cX3_pickedFit 16 = .ok (.aload_n 0, 1) := by decide +kernel
theorem dX3_pickedFit_17 : decode cX3_pickedFit 17 = .ok (.getfield 15, 3) := by decide +kernel
theorem dX3_pickedFit_20 : decode cX3_pickedFit 20 = .ok (.iload_n 3, 1) := by decide +kernel
theorem dX3_pickedFit_21 : decode cX3_pickedFit 21 = .ok (.aaload, 1) := by decide +kernel
theorem dX3_pickedFit_22 : decode cX3_pickedFit 22 = .ok (.astore 4, 2) := by decide +kernel
theorem dX3_pickedFit_24 : decode cX3_pickedFit 24 = .ok (.aload 4, 2) := by decide +kernel
theorem dX3_pickedFit_26 : decode cX3_pickedFit 26 = .ok (.ifnull 21, 3) := by decide +kernel
theorem dX3_pickedFit_29 : decode cX3_pickedFit 29 = .ok (.aload 4, 2) := by decide +kernel
theorem dX3_pickedFit_31 : decode cX3_pickedFit 31 = .ok (.getfield 67, 3) := by decide +kernel
theorem dX3_pickedFit_34 : decode cX3_pickedFit 34 = .ok (.ifCond .ne 13, 3) := by decide +kernel
theorem dX3_pickedFit_37 : decode cX3_pickedFit 37 = .ok (.iload_n 1, 1) := by decide +kernel
theorem dX3_pickedFit_38 : decode cX3_pickedFit 38 = .ok (.iload_n 2, 1) := by decide +kernel
theorem dX3_pickedFit_39 : decode cX3_pickedFit 39 = .ok (.aload 4, 2) := by decide +kernel
theorem dX3_pickedFit_41 : decode cX3_pickedFit 41 = .ok (.invokestatic 99, 3) := by decide +kernel
theorem dX3_pickedFit_44 : decode cX3_pickedFit 44 = .ok (.ifCond .ne 5, 3) := by decide +kernel
theorem dX3_pickedFit_47 : decode cX3_pickedFit 47 = .ok (.iconst 0, 1) := by decide +kernel
theorem dX3_pickedFit_48 : decode cX3_pickedFit 48 = .ok (.ireturn, 1) := by decide +kernel
theorem dX3_pickedFit_49 : decode cX3_pickedFit 49 = .ok (.iinc 3 1, 3) := by decide +kernel
theorem dX3_pickedFit_52 : decode cX3_pickedFit 52 = .ok (.goto (-50), 3) := by decide +kernel
theorem dX3_pickedFit_55 : decode cX3_pickedFit 55 = .ok (.iconst 1, 1) := by decide +kernel
theorem dX3_pickedFit_56 : decode cX3_pickedFit 56 = .ok (.ireturn, 1) := by decide +kernel
theorem dX3_canBePart_0 : decode cX3_canBePart 0 = .ok (.iload_n 0, 1) := by decide +kernel
theorem dX3_canBePart_1 : decode cX3_canBePart 1 = .ok (.iconst 1, 1) := by decide +kernel
theorem dX3_canBePart_2 : decode cX3_canBePart 2 = .ok (.if_icmp .ne 24, 3) := by decide +kernel
theorem dX3_canBePart_5 : decode cX3_canBePart 5 = .ok (.aload_n 2, 1) := by decide +kernel
theorem dX3_canBePart_6 : decode cX3_canBePart 6 = .ok (.getfield 103, 3) := by decide +kernel
theorem dX3_canBePart_9 : decode cX3_canBePart 9 = .ok (.ifCond .eq 11, 3) := by decide +kernel
theorem dX3_canBePart_12 : decode cX3_canBePart 12 = .ok (.aload_n 2, 1) := by decide +kernel
theorem dX3_canBePart_13 : decode cX3_canBePart 13 = .ok (.getfield 103, 3) := by decide +kernel
theorem dX3_canBePart_16 : decode cX3_canBePart 16 = .ok (.iconst 4, 1) := by decide +kernel
theorem dX3_canBePart_17 : decode cX3_canBePart 17 = .ok (.if_icmp .ne 7, 3) := by decide +kernel
theorem dX3_canBePart_20 : decode cX3_canBePart 20 = .ok (.iconst 1, 1) := by decide +kernel
theorem dX3_canBePart_21 : decode cX3_canBePart 21 = .ok (.goto 4, 3) := by decide +kernel
theorem dX3_canBePart_24 : decode cX3_canBePart 24 = .ok (.iconst 0, 1) := by decide +kernel
theorem dX3_canBePart_25 : decode cX3_canBePart 25 = .ok (.ireturn, 1) := by decide +kernel
theorem dX3_canBePart_26 : decode cX3_canBePart 26 = .ok (.aload_n 2, 1) := by decide +kernel
theorem dX3_canBePart_27 : decode cX3_canBePart 27 = .ok (.getfield 106, 3) := by decide +kernel
theorem dX3_canBePart_30 : decode cX3_canBePart 30 = .ok (.iload_n 1, 1) := by decide +kernel
theorem dX3_canBePart_31 : decode cX3_canBePart 31 = .ok (.invokestatic 109, 3) := by decide +kernel
theorem dX3_canBePart_34 : decode cX3_canBePart 34 = .ok (.if_icmp .eq 5, 3) := by decide +kernel
theorem dX3_canBePart_37 : decode cX3_canBePart 37 = .ok (.iconst 0, 1) := by decide +kernel
theorem dX3_canBePart_38 : decode cX3_canBePart 38 = .ok (.ireturn, 1) := by decide +kernel
theorem dX3_canBePart_39 : decode cX3_canBePart 39 = .ok (.iload_n 0, 1) := by decide +kernel
theorem dX3_canBePart_40 : decode cX3_canBePart 40 = .ok (.iconst 2, 1) := by decide +kernel
theorem dX3_canBePart_41 : decode cX3_canBePart 41 = .ok (.if_icmp .ne 17, 3) := by decide +kernel
theorem dX3_canBePart_44 : decode cX3_canBePart 44 = .ok (.aload_n 2, 1) := by decide +kernel
theorem dX3_canBePart_45 : decode cX3_canBePart 45 = .ok (.getfield 103, 3) := by decide +kernel
theorem dX3_canBePart_48 : decode cX3_canBePart 48 = .ok (.iconst 1, 1) := by decide +kernel
theorem dX3_canBePart_49 : decode cX3_canBePart 49 = .ok (.if_icmp .ne 7, 3) := by decide +kernel
theorem dX3_canBePart_52 : decode cX3_canBePart 52 = .ok (.iconst 1, 1) := by decide +kernel
theorem dX3_canBePart_53 : decode cX3_canBePart 53 = .ok (.goto 4, 3) := by decide +kernel
theorem dX3_canBePart_56 : decode cX3_canBePart 56 = .ok (.iconst 0, 1) := by decide +kernel
theorem dX3_canBePart_57 : decode cX3_canBePart 57 = .ok (.ireturn, 1) := by decide +kernel
theorem dX3_canBePart_58 : decode cX3_canBePart 58 = .ok (.iload_n 0, 1) := by decide +kernel
theorem dX3_canBePart_59 : decode cX3_canBePart 59 = .ok (.iconst 3, 1) := by decide +kernel
theorem dX3_canBePart_60 : decode cX3_canBePart 60 = .ok (.if_icmp .ne 23, 3) := by decide +kernel
theorem dX3_canBePart_63 : decode cX3_canBePart 63 = .ok (.aload_n 2, 1) := by decide +kernel
theorem dX3_canBePart_64 : decode cX3_canBePart 64 = .ok (.getfield 103, 3) := by decide +kernel
theorem dX3_canBePart_67 : decode cX3_canBePart 67 = .ok (.iconst 2, 1) := by decide +kernel
theorem dX3_canBePart_68 : decode cX3_canBePart 68 = .ok (.if_icmp .eq 11, 3) := by decide +kernel
theorem dX3_canBePart_71 : decode cX3_canBePart 71 = .ok (.aload_n 2, 1) := by decide +kernel
theorem dX3_canBePart_72 : decode cX3_canBePart 72 = .ok (.getfield 103, 3) := by decide +kernel
theorem dX3_canBePart_75 : decode cX3_canBePart 75 = .ok (.iconst 5, 1) := by decide +kernel
theorem dX3_canBePart_76 : decode cX3_canBePart 76 = .ok (.if_icmp .ne 7, 3) := by decide +kernel
theorem dX3_canBePart_79 : decode cX3_canBePart 79 = .ok (.iconst 1, 1) := by decide +kernel
theorem dX3_canBePart_80 : decode cX3_canBePart 80 = .ok (.goto 4, 3) := by decide +kernel
theorem dX3_canBePart_83 : decode cX3_canBePart 83 = .ok (.iconst 0, 1) := by decide +kernel
theorem dX3_canBePart_84 : decode cX3_canBePart 84 = .ok (.ireturn, 1) := by decide +kernel
theorem dX3_otherTwist_0 : decode cX3_otherTwist 0 = .ok (.iload_n 0, 1) := by decide +kernel
theorem dX3_otherTwist_1 : decode cX3_otherTwist 1 = .ok (.iconst 1, 1) := by decide +kernel
theorem dX3_otherTwist_2 : decode cX3_otherTwist 2 = .ok (.if_icmp .ne 7, 3) := by decide +kernel
theorem dX3_otherTwist_5 : decode cX3_otherTwist 5 = .ok (.iconst 2, 1) := by decide +kernel
theorem dX3_otherTwist_6 : decode cX3_otherTwist 6 = .ok (.goto 4, 3) := by decide +kernel
theorem dX3_otherTwist_9 : decode cX3_otherTwist 9 = .ok (.iconst 1, 1) := by decide +kernel
theorem dX3_otherTwist_10 : decode cX3_otherTwist 10 = .ok (.ireturn, 1) := by decide +kernel
theorem dX3_shortestPicked_0 : decode cX3_shortestPicked 0 = .ok (.sipush 2000, 3) := by decide +kernel
theorem dX3_shortestPicked_3 : decode cX3_shortestPicked 3 = .ok (.istore_n 1, 1) := by decide +kernel
theorem dX3_shortestPicked_4 : decode cX3_shortestPicked 4 = .ok (.iconst 0, 1) := by decide +kernel
theorem dX3_shortestPicked_5 : decode cX3_shortestPicked 5 = .ok (.istore_n 2, 1) := by decide +kernel
theorem dX3_shortestPicked_6 : decode cX3_shortestPicked 6 = .ok (.iload_n 2, 1) := by decide +kernel
theorem dX3_shortestPicked_7 : decode cX3_shortestPicked 7 = .ok (.aload_n 0, 1) := by decide +kernel
theorem dX3_shortestPicked_8 : decode cX3_shortestPicked 8 = .ok (.getfield 77, 3) := by decide +kernel
theorem dX3_shortestPicked_11 : decode cX3_shortestPicked 11 = .ok (.if_icmp .ge 38, 3) := by decide +kernel
theorem dX3_shortestPicked_14 : decode cX3_shortestPicked 14 = .ok (.iload_n 2, 1) := by decide +kernel
theorem dX3_shortestPicked_15 : decode cX3_shortestPicked 15 = .ok (.bipush 9, 2) := by decide +kernel
theorem dX3_shortestPicked_17 : decode cX3_shortestPicked 17 = .ok (.if_icmp .ge 32, 3) := by decide +kernel
theorem dX3_shortestPicked_20 : decode cX3_shortestPicked 20 = .ok (.aload_n 0, 1) := by decide +kernel
theorem dX3_shortestPicked_21 : decode cX3_shortestPicked 21 = .ok (.getfield 15, 3) := by decide +kernel
theorem dX3_shortestPicked_24 : decode cX3_shortestPicked 24 = .ok (.iload_n 2, 1) := by decide +kernel
theorem dX3_shortestPicked_25 : decode cX3_shortestPicked 25 = .ok (.aaload, 1) := by decide +kernel
theorem dX3_shortestPicked_26 : decode cX3_shortestPicked 26 = .ok (.ifnull 17, 3) := by decide +kernel
theorem dX3_shortestPicked_29 : decode cX3_shortestPicked 29 = .ok (.iload_n 1, 1) := by decide +kernel
theorem dX3_shortestPicked_30 : decode cX3_shortestPicked 30 = .ok (.aload_n 0, 1) := by decide +kernel
theorem dX3_shortestPicked_31 : decode cX3_shortestPicked 31 = .ok (.getfield 15, 3) := by decide +kernel
theorem dX3_shortestPicked_34 : decode cX3_shortestPicked 34 = .ok (.iload_n 2, 1) := by decide +kernel
theorem dX3_shortestPicked_35 : decode cX3_shortestPicked 35 = .ok (.aaload, 1) := by decide +kernel
theorem dX3_shortestPicked_36 : decode cX3_shortestPicked 36 = .ok (.getfield 113, 3) := by decide +kernel
theorem dX3_shortestPicked_39 : decode cX3_shortestPicked 39 = .ok (.invokestatic 116, 3) := by decide +kernel
theorem dX3_shortestPicked_42 : decode cX3_shortestPicked 42 = .ok (.istore_n 1, 1) := by decide +kernel
theorem dX3_shortestPicked_43 : decode cX3_shortestPicked 43 = .ok (.iinc 2 1, 3) := by decide +kernel
theorem dX3_shortestPicked_46 : decode cX3_shortestPicked 46 = .ok (.goto (-40), 3) := by decide +kernel
theorem dX3_shortestPicked_49 : decode cX3_shortestPicked 49 = .ok (.iload_n 1, 1) := by decide +kernel
theorem dX3_shortestPicked_50 : decode cX3_shortestPicked 50 = .ok (.ireturn, 1) := by decide +kernel
theorem dX3_pickedParts_0 : decode cX3_pickedParts 0 = .ok (.iconst 0, 1) := by decide +kernel
theorem dX3_pickedParts_1 : decode cX3_pickedParts 1 = .ok (.aload_n 0, 1) := by decide +kernel
theorem dX3_pickedParts_2 : decode cX3_pickedParts 2 = .ok (.getfield 77, 3) := by decide +kernel
theorem dX3_pickedParts_5 : decode cX3_pickedParts 5 = .ok (.bipush 9, 2) := by decide +kernel
theorem dX3_pickedParts_7 : decode cX3_pickedParts 7 = .ok (.invokestatic 116, 3) := by decide +kernel
theorem dX3_pickedParts_10 : decode cX3_pickedParts 10 = .ok (.invokestatic 122, 3) := by decide +kernel
theorem dX3_pickedParts_13 : decode cX3_pickedParts 13 = .ok (.istore_n 1, 1) := by decide +kernel
theorem dX3_pickedParts_14 : decode cX3_pickedParts 14 = .ok (.iload_n 1, 1) := by decide +kernel
theorem dX3_pickedParts_15 : decode cX3_pickedParts 15 = .ok (.anewarray 9, 3) := by decide +kernel
theorem dX3_pickedParts_18 : decode cX3_pickedParts 18 = .ok (.astore_n 2, 1) := by decide +kernel
theorem dX3_pickedParts_19 : decode cX3_pickedParts 19 = .ok (.iconst 0, 1) := by decide +kernel
theorem dX3_pickedParts_20 : decode cX3_pickedParts 20 = .ok (.istore_n 3, 1) := by decide +kernel
theorem dX3_pickedParts_21 : decode cX3_pickedParts 21 = .ok (.iload_n 3, 1) := by decide +kernel
theorem dX3_pickedParts_22 : decode cX3_pickedParts 22 = .ok (.iload_n 1, 1) := by decide +kernel
theorem dX3_pickedParts_23 : decode cX3_pickedParts 23 = .ok (.if_icmp .ge 18, 3) := by decide +kernel
theorem dX3_pickedParts_26 : decode cX3_pickedParts 26 = .ok (.aload_n 2, 1) := by decide +kernel
theorem dX3_pickedParts_27 : decode cX3_pickedParts 27 = .ok (.iload_n 3, 1) := by decide +kernel
theorem dX3_pickedParts_28 : decode cX3_pickedParts 28 = .ok (.aload_n 0, 1) := by decide +kernel
theorem dX3_pickedParts_29 : decode cX3_pickedParts 29 = .ok (.getfield 15, 3) := by decide +kernel
theorem dX3_pickedParts_32 : decode cX3_pickedParts 32 = .ok (.iload_n 3, 1) := by decide +kernel
theorem dX3_pickedParts_33 : decode cX3_pickedParts 33 = .ok (.aaload, 1) := by decide +kernel
theorem dX3_pickedParts_34 : decode cX3_pickedParts 34 = .ok (.aastore, 1) := by decide +kernel
theorem dX3_pickedParts_35 : decode cX3_pickedParts 35 = .ok (.iinc 3 1, 3) := by decide +kernel
theorem dX3_pickedParts_38 : decode cX3_pickedParts 38 = .ok (.goto (-17), 3) := by decide +kernel
theorem dX3_pickedParts_41 : decode cX3_pickedParts 41 = .ok (.aload_n 2, 1) := by decide +kernel
theorem dX3_pickedParts_42 : decode cX3_pickedParts 42 = .ok (.areturn, 1) := by decide +kernel
theorem dX3_takeParts_0 : decode cX3_takeParts 0 = .ok (.iconst 0, 1) := by decide +kernel
theorem dX3_takeParts_1 : decode cX3_takeParts 1 = .ok (.istore_n 1, 1) := by decide +kernel
theorem dX3_takeParts_2 : decode cX3_takeParts 2 = .ok (.iload_n 1, 1) := by decide +kernel
theorem dX3_takeParts_3 : decode cX3_takeParts 3 = .ok (.aload_n 0, 1) := by decide +kernel
theorem dX3_takeParts_4 : decode cX3_takeParts 4 = .ok (.getfield 125, 3) := by decide +kernel
theorem dX3_takeParts_7 : decode cX3_takeParts 7 = .ok (.arraylength, 1) := by decide +kernel
theorem dX3_takeParts_8 : decode cX3_takeParts 8 = .ok (.if_icmp .ge 46, 3) := by decide +kernel
theorem dX3_takeParts_11 : decode cX3_takeParts 11 = .ok (.aload_n 0, 1) := by decide +kernel
theorem dX3_takeParts_12 : decode cX3_takeParts 12 = .ok (.getfield 125, 3) := by decide +kernel
theorem dX3_takeParts_15 : decode cX3_takeParts 15 = .ok (.iload_n 1, 1) := by decide +kernel
theorem dX3_takeParts_16 : decode cX3_takeParts 16 = .ok (.aaload, 1) := by decide +kernel
theorem dX3_takeParts_17 : decode cX3_takeParts 17 = .ok (.astore_n 2, 1) := by decide +kernel
theorem dX3_takeParts_18 : decode cX3_takeParts 18 = .ok (.aload_n 2, 1) := by decide +kernel
theorem dX3_takeParts_19 : decode cX3_takeParts 19 = .ok (.ifnull 29, 3) := by decide +kernel
theorem dX3_takeParts_22 : decode cX3_takeParts 22 = .ok (.aload_n 2, 1) := by decide +kernel
theorem dX3_takeParts_23 : decode cX3_takeParts 23 = .ok (.iconst 1, 1) := by decide +kernel
theorem dX3_takeParts_24 : decode cX3_takeParts 24 = .ok (.putfield 67, 3) := by decide +kernel
theorem dX3_takeParts_27 : decode cX3_takeParts 27 = .ok (.aload_n 2, 1) := by decide +kernel
theorem dX3_takeParts_28 : decode cX3_takeParts 28 = .ok (.aload_n 0, 1) := by decide +kernel
theorem dX3_takeParts_29 : decode cX3_takeParts 29 = .ok (.getfield 60, 3) := by decide +kernel
theorem dX3_takeParts_32 : decode cX3_takeParts 32 = .ok (.putfield 128, 3) := by decide +kernel
theorem dX3_takeParts_35 : decode cX3_takeParts 35 = .ok (.aload_n 0, 1) := by decide +kernel
theorem dX3_takeParts_36 : decode cX3_takeParts 36 = .ok (.dup, 1) := by decide +kernel
theorem dX3_takeParts_37 : decode cX3_takeParts 37 = .ok (.getfield 53, 3) := by decide +kernel
theorem dX3_takeParts_40 : decode cX3_takeParts 40 = .ok (.aload_n 2, 1) := by decide +kernel
theorem dX3_takeParts_41 : decode cX3_takeParts 41 = .ok (.getfield 53, 3) := by decide +kernel
theorem dX3_takeParts_44 : decode cX3_takeParts 44 = .ok (.iadd, 1) := by decide +kernel
theorem dX3_takeParts_45 : decode cX3_takeParts 45 = .ok (.putfield 53, 3) := by decide +kernel
theorem dX3_takeParts_48 : decode cX3_takeParts 48 = .ok (.iinc 1 1, 3) := by decide +kernel
theorem dX3_takeParts_51 : decode cX3_takeParts 51 = .ok (.goto (-49), 3) := by decide +kernel
theorem dX3_takeParts_54 : decode cX3_takeParts 54 = .ok (.return_, 1) := by decide +kernel
theorem dX3_splice_0 : decode cX3_splice 0 = .ok (.aload_n 0, 1) := by decide +kernel
theorem dX3_splice_1 : decode cX3_splice 1 = .ok (.iload_n 1, 1) := by decide +kernel
theorem dX3_splice_2 : decode cX3_splice 2 = .ok (.invokevirtual 70, 3) := by decide +kernel
theorem dX3_splice_5 : decode cX3_splice 5 = .ok (.astore 4, 2) := by decide +kernel
theorem dX3_splice_7 : decode cX3_splice 7 = .ok (.aload_n 0, 1) := by decide +kernel
theorem dX3_splice_8 : decode cX3_splice 8 = .ok (.iload_n 2, 1) := by decide +kernel
theorem dX3_splice_9 : decode cX3_splice 9 = .ok (.invokevirtual 70, 3) := by decide +kernel
theorem dX3_splice_12 : decode cX3_splice 12 = .ok (.astore 5, 2) := by decide +kernel
theorem dX3_splice_14 : decode cX3_splice 14 = .ok (.aload 4, 2) := by decide +kernel
theorem dX3_splice_16 : decode cX3_splice 16 = .ok (.ifnull 15, 3) := by decide +kernel
theorem dX3_splice_19 : decode cX3_splice 19 = .ok (.aload 5, 2) := by decide +kernel
theorem dX3_splice_21 : decode cX3_splice 21 = .ok (.ifnull 10, 3) := by decide +kernel
theorem dX3_splice_24 : decode cX3_splice 24 = .ok (.aload 4, 2) := by decide +kernel
theorem dX3_splice_26 : decode cX3_splice 26 = .ok (.aload 5, 2) := by decide +kernel
theorem dX3_splice_28 : decode cX3_splice 28 = .ok (.if_acmp .ne 6, 3) := by decide +kernel
theorem dX3_splice_31 : decode cX3_splice 31 = .ok (.bipush (-2), 2) := by decide +kernel
theorem dX3_splice_33 : decode cX3_splice 33 = .ok (.ireturn, 1) := by decide +kernel
theorem dX3_splice_34 : decode cX3_splice 34 = .ok (.aload 4, 2) := by decide +kernel
theorem dX3_splice_36 : decode cX3_splice 36 = .ok (.invokestatic 131, 3) := by decide +kernel
theorem dX3_splice_39 : decode cX3_splice 39 = .ok (.ifCond .eq 24, 3) := by decide +kernel
theorem dX3_splice_42 : decode cX3_splice 42 = .ok (.aload 5, 2) := by decide +kernel
theorem dX3_splice_44 : decode cX3_splice 44 = .ok (.invokestatic 131, 3) := by decide +kernel
theorem dX3_splice_47 : decode cX3_splice 47 = .ok (.ifCond .eq 16, 3) := by decide +kernel
theorem dX3_splice_50 : decode cX3_splice 50 = .ok (.aload 4, 2) := by decide +kernel
theorem dX3_splice_52 : decode cX3_splice 52 = .ok (.getfield 106, 3) := by decide +kernel
theorem dX3_splice_55 : decode cX3_splice 55 = .ok (.aload 5, 2) := by decide +kernel
theorem dX3_splice_57 : decode cX3_splice 57 = .ok (.getfield 106, 3) := by decide +kernel
theorem dX3_splice_60 : decode cX3_splice 60 = .ok (.if_icmp .eq 6, 3) := by decide +kernel
theorem dX3_splice_63 : decode cX3_splice 63 = .ok (.bipush (-2), 2) := by decide +kernel
theorem dX3_splice_65 : decode cX3_splice 65 = .ok (.ireturn, 1) := by decide +kernel
theorem dX3_splice_66 : decode cX3_splice 66 = .ok (.iload_n 3, 1) := by decide +kernel
theorem dX3_splice_67 : decode cX3_splice 67 = .ok (.iconst 1, 1) := by decide +kernel
theorem dX3_splice_68 : decode cX3_splice 68 = .ok (.if_icmp .lt 20, 3) := by decide +kernel
theorem dX3_splice_71 : decode cX3_splice 71 = .ok (.iload_n 3, 1) := by decide +kernel
theorem dX3_splice_72 : decode cX3_splice 72 = .ok (.aload 4, 2) := by decide +kernel
theorem dX3_splice_74 : decode cX3_splice 74 = .ok (.getfield 113, 3) := by decide +kernel
theorem dX3_splice_77 : decode cX3_splice 77 = .ok (.aload 5, 2) := by decide +kernel
theorem dX3_splice_79 : decode cX3_splice 79 = .ok (.getfield 113, 3) := by decide +kernel
theorem dX3_splice_82 : decode cX3_splice 82 = .ok (.invokestatic 116, 3) := by decide +kernel
theorem dX3_splice_85 : decode cX3_splice 85 = .ok (.if_icmp .le 6, 3) := by decide +kernel
theorem dX3_splice_88 : decode cX3_splice 88 = .ok (.bipush (-2), 2) := by decide +kernel
theorem dX3_splice_90 : decode cX3_splice 90 = .ok (.ireturn, 1) := by decide +kernel
theorem dX3_splice_91 : decode cX3_splice 91 = .ok (.aload 4, 2) := by decide +kernel
theorem dX3_splice_93 : decode cX3_splice 93 = .ok (.getfield 113, 3) := by decide +kernel
theorem dX3_splice_96 : decode cX3_splice 96 = .ok (.aload 5, 2) := by decide +kernel
theorem dX3_splice_98 : decode cX3_splice 98 = .ok (.getfield 113, 3) := by decide +kernel
theorem dX3_splice_101 : decode cX3_splice 101 = .ok (.iadd, 1) := by decide +kernel
theorem dX3_splice_102 : decode cX3_splice 102 = .ok (.iload_n 3, 1) := by decide +kernel
theorem dX3_splice_103 : decode cX3_splice 103 = .ok (.isub, 1) := by decide +kernel
theorem dX3_splice_104 : decode cX3_splice 104 = .ok (.istore 6, 2) := by decide +kernel
theorem dX3_splice_106 : decode cX3_splice 106 = .ok (.iload 6, 2) := by decide +kernel
theorem dX3_splice_108 : decode cX3_splice 108 = .ok (.sipush 2000, 3) := by decide +kernel
theorem dX3_splice_111 : decode cX3_splice 111 = .ok (.if_icmp .gt 12, 3) := by decide +kernel
theorem dX3_splice_114 : decode cX3_splice 114 = .ok (.aload_n 0, 1) := by decide +kernel
theorem dX3_splice_115 : decode cX3_splice 115 = .ok (.getfield 40, 3) := by decide +kernel
theorem dX3_splice_118 : decode cX3_splice 118 = .ok (.bipush 120, 2) := by decide +kernel
theorem dX3_splice_120 : decode cX3_splice 120 = .ok (.if_icmp .lt 6, 3) := by decide +kernel
theorem dX3_splice_123 : decode cX3_splice 123 = .ok (.bipush (-2), 2) := by decide +kernel
theorem dX3_splice_125 : decode cX3_splice 125 = .ok (.ireturn, 1) := by decide +kernel
theorem dX3_splice_126 : decode cX3_splice 126 = .ok (.iconst 2, 1) := by decide +kernel
theorem dX3_splice_127 : decode cX3_splice 127 = .ok (.anewarray 9, 3) := by decide +kernel
theorem dX3_splice_130 : decode cX3_splice 130 = .ok (.dup, 1) := by decide +kernel
theorem dX3_splice_131 : decode cX3_splice 131 = .ok (.iconst 0, 1) := by decide +kernel
theorem dX3_splice_132 : decode cX3_splice 132 = .ok (.aload 4, 2) := by decide +kernel
theorem dX3_splice_134 : decode cX3_splice 134 = .ok (.aastore, 1) := by decide +kernel
theorem dX3_splice_135 : decode cX3_splice 135 = .ok (.dup, 1) := by decide +kernel
theorem dX3_splice_136 : decode cX3_splice 136 = .ok (.iconst 1, 1) := by decide +kernel
theorem dX3_splice_137 : decode cX3_splice 137 = .ok (.aload 5, 2) := by decide +kernel
theorem dX3_splice_139 : decode cX3_splice 139 = .ok (.aastore, 1) := by decide +kernel
theorem dX3_splice_140 : decode cX3_splice 140 = .ok (.astore 7, 2) := by decide +kernel
theorem dX3_splice_142 : decode cX3_splice 142 = .ok (.new 9, 3) := by decide +kernel
theorem dX3_splice_145 : decode cX3_splice 145 = .ok (.dup, 1) := by decide +kernel
theorem dX3_splice_146 : decode cX3_splice 146 = .ok (.aload_n 0, 1) := by decide +kernel
theorem dX3_splice_147 : decode cX3_splice 147 = .ok (.getfield 40, 3) := by decide +kernel
theorem dX3_splice_150 : decode cX3_splice 150 = .ok (.iconst 5, 1) := by decide +kernel
theorem dX3_splice_151 : decode cX3_splice 151 = .ok (.iload 6, 2) := by decide +kernel
theorem dX3_splice_153 : decode cX3_splice 153 = .ok (.aload 4, 2) := by decide +kernel
theorem dX3_splice_155 : decode cX3_splice 155 = .ok (.getfield 106, 3) := by decide +kernel
theorem dX3_splice_158 : decode cX3_splice 158 = .ok (.aload 7, 2) := by decide +kernel
theorem dX3_splice_160 : decode cX3_splice 160 = .ok (.invokespecial 45, 3) := by decide +kernel
theorem dX3_splice_163 : decode cX3_splice 163 = .ok (.astore 8, 2) := by decide +kernel
theorem dX3_splice_165 : decode cX3_splice 165 = .ok (.aload 8, 2) := by decide +kernel
theorem dX3_splice_167 : decode cX3_splice 167 = .ok (.aload 4, 2) := by decide +kernel
theorem dX3_splice_169 : decode cX3_splice 169 = .ok (.getfield 113, 3) := by decide +kernel
theorem dX3_splice_172 : decode cX3_splice 172 = .ok (.iload_n 3, 1) := by decide +kernel
theorem dX3_splice_173 : decode cX3_splice 173 = .ok (.isub, 1) := by decide +kernel
theorem dX3_splice_174 : decode cX3_splice 174 = .ok (.putfield 134, 3) := by decide +kernel
theorem dX3_splice_177 : decode cX3_splice 177 = .ok (.aload 8, 2) := by decide +kernel
theorem dX3_splice_179 : decode cX3_splice 179 = .ok (.invokestatic 95, 3) := by decide +kernel
theorem dX3_splice_182 : decode cX3_splice 182 = .ok (.aload_n 0, 1) := by decide +kernel
theorem dX3_splice_183 : decode cX3_splice 183 = .ok (.aload 8, 2) := by decide +kernel
theorem dX3_splice_185 : decode cX3_splice 185 = .ok (.invokevirtual 56, 3) := by decide +kernel
theorem dX3_splice_188 : decode cX3_splice 188 = .ok (.ireturn, 1) := by decide +kernel
theorem dX3_canBeSpliced_0 : decode cX3_canBeSpliced 0 = .ok (.aload_n 0, 1) := by decide +kernel
theorem dX3_canBeSpliced_1 : decode cX3_canBeSpliced 1 = .ok (.getfield 103, 3) := by decide +kernel
theorem dX3_canBeSpliced_4 : decode cX3_canBeSpliced 4 = .ok (.iconst 2, 1) := by decide +kernel
theorem dX3_canBeSpliced_5 : decode cX3_canBeSpliced 5 = .ok (.if_icmp .eq 19, 3) := by decide +kernel
theorem dX3_canBeSpliced_8 : decode cX3_canBeSpliced 8 = .ok (.aload_n 0, 1) := by decide +kernel
theorem dX3_canBeSpliced_9 : decode cX3_canBeSpliced 9 = .ok (.getfield 103, 3) := by decide +kernel
theorem dX3_canBeSpliced_12 : decode cX3_canBeSpliced 12 = .ok (.iconst 3, 1) := by decide +kernel
theorem dX3_canBeSpliced_13 : decode cX3_canBeSpliced 13 = .ok (.if_icmp .eq 11, 3) := by decide +kernel
theorem dX3_canBeSpliced_16 : decode cX3_canBeSpliced 16 = .ok (.aload_n 0, 1) := by decide +kernel
theorem dX3_canBeSpliced_17 : decode cX3_canBeSpliced 17 = .ok (.getfield 103, 3) := by decide +kernel
theorem dX3_canBeSpliced_20 : decode cX3_canBeSpliced 20 = .ok (.iconst 5, 1) := by decide +kernel
theorem dX3_canBeSpliced_21 : decode cX3_canBeSpliced 21 = .ok (.if_icmp .ne 7, 3) := by decide +kernel
theorem dX3_canBeSpliced_24 : decode cX3_canBeSpliced 24 = .ok (.iconst 1, 1) := by decide +kernel
theorem dX3_canBeSpliced_25 : decode cX3_canBeSpliced 25 = .ok (.goto 4, 3) := by decide +kernel
theorem dX3_canBeSpliced_28 : decode cX3_canBeSpliced 28 = .ok (.iconst 0, 1) := by decide +kernel
theorem dX3_canBeSpliced_29 : decode cX3_canBeSpliced 29 = .ok (.ireturn, 1) := by decide +kernel
theorem dX3_untwist_0 : decode cX3_untwist 0 = .ok (.aload_n 0, 1) := by decide +kernel
theorem dX3_untwist_1 : decode cX3_untwist 1 = .ok (.iload_n 1, 1) := by decide +kernel
theorem dX3_untwist_2 : decode cX3_untwist 2 = .ok (.invokevirtual 70, 3) := by decide +kernel
theorem dX3_untwist_5 : decode cX3_untwist 5 = .ok (.astore_n 2, 1) := by decide +kernel
theorem dX3_untwist_6 : decode cX3_untwist 6 = .ok (.aload_n 2, 1) := by decide +kernel
theorem dX3_untwist_7 : decode cX3_untwist 7 = .ok (.ifnull 11, 3) := by decide +kernel
theorem dX3_untwist_10 : decode cX3_untwist 10 = .ok (.aload_n 2, 1) := by decide +kernel
theorem dX3_untwist_11 : decode cX3_untwist 11 = .ok (.getfield 125, 3) := by decide +kernel
theorem dX3_untwist_14 : decode cX3_untwist 14 = .ok (.arraylength, 1) := by decide +kernel
theorem dX3_untwist_15 : decode cX3_untwist 15 = .ok (.ifCond .ne 6, 3) := by decide +kernel
theorem dX3_untwist_18 : decode cX3_untwist 18 = .ok (.bipush (-2), 2) := by decide +kernel
theorem dX3_untwist_20 : decode cX3_untwist 20 = .ok (.ireturn, 1) := by decide +kernel
theorem dX3_untwist_21 : decode cX3_untwist 21 = .ok (.aload_n 2, 1) := by decide +kernel
theorem dX3_untwist_22 : decode cX3_untwist 22 = .ok (.iconst 3, 1) := by decide +kernel
theorem dX3_untwist_23 : decode cX3_untwist 23 = .ok (.putfield 67, 3) := by decide +kernel
theorem dX3_untwist_26 : decode cX3_untwist 26 = .ok (.iconst 0, 1) := by decide +kernel
theorem dX3_untwist_27 : decode cX3_untwist 27 = .ok (.istore_n 3, 1) := by decide +kernel
theorem dX3_untwist_28 : decode cX3_untwist 28 = .ok (.iload_n 3, 1) := by decide +kernel
theorem dX3_untwist_29 : decode cX3_untwist 29 = .ok (.aload_n 2, 1) := by decide +kernel
theorem dX3_untwist_30 : decode cX3_untwist 30 = .ok (.getfield 125, 3) := by decide +kernel
theorem dX3_untwist_33 : decode cX3_untwist 33 = .ok (.arraylength, 1) := by decide +kernel
theorem dX3_untwist_34 : decode cX3_untwist 34 = .ok (.if_icmp .ge 34, 3) := by decide +kernel
theorem dX3_untwist_37 : decode cX3_untwist 37 = .ok (.aload_n 2, 1) := by decide +kernel
theorem dX3_untwist_38 : decode cX3_untwist 38 = .ok (.getfield 125, 3) := by decide +kernel
theorem dX3_untwist_41 : decode cX3_untwist 41 = .ok (.iload_n 3, 1) := by decide +kernel
theorem dX3_untwist_42 : decode cX3_untwist 42 = .ok (.aaload, 1) := by decide +kernel
theorem dX3_untwist_43 : decode cX3_untwist 43 = .ok (.astore 4, 2) := by decide +kernel
theorem dX3_untwist_45 : decode cX3_untwist 45 = .ok (.aload 4, 2) := by decide +kernel
theorem dX3_untwist_47 : decode cX3_untwist 47 = .ok (.ifnull 15, 3) := by decide +kernel
theorem dX3_untwist_50 : decode cX3_untwist 50 = .ok (.aload 4, 2) := by decide +kernel
theorem dX3_untwist_52 : decode cX3_untwist 52 = .ok (.iconst 0, 1) := by decide +kernel
theorem dX3_untwist_53 : decode cX3_untwist 53 = .ok (.putfield 67, 3) := by decide +kernel
theorem dX3_untwist_56 : decode cX3_untwist 56 = .ok (.aload 4, 2) := by decide +kernel
theorem dX3_untwist_58 : decode cX3_untwist 58 = .ok (.iconst (-1), 1) := by decide +kernel
theorem dX3_untwist_59 : decode cX3_untwist 59 = .ok (.putfield 128, 3) := by decide +kernel
theorem dX3_untwist_62 : decode cX3_untwist 62 = .ok (.iinc 3 1, 3) := by decide +kernel
theorem dX3_untwist_65 : decode cX3_untwist 65 = .ok (.goto (-37), 3) := by decide +kernel
theorem dX3_untwist_68 : decode cX3_untwist 68 = .ok (.aload_n 2, 1) := by decide +kernel
theorem dX3_untwist_69 : decode cX3_untwist 69 = .ok (.getfield 125, 3) := by decide +kernel
theorem dX3_untwist_72 : decode cX3_untwist 72 = .ok (.arraylength, 1) := by decide +kernel
theorem dX3_untwist_73 : decode cX3_untwist 73 = .ok (.ireturn, 1) := by decide +kernel
theorem dX3_of_0 : decode cX3_of 0 = .ok (.aload_n 0, 1) := by decide +kernel
theorem dX3_of_1 : decode cX3_of 1 = .ok (.iload_n 1, 1) := by decide +kernel
theorem dX3_of_2 : decode cX3_of 2 = .ok (.invokevirtual 63, 3) := by decide +kernel
theorem dX3_of_5 : decode cX3_of 5 = .ok (.astore_n 3, 1) := by decide +kernel
theorem dX3_of_6 : decode cX3_of 6 = .ok (.aload_n 3, 1) := by decide +kernel
theorem dX3_of_7 : decode cX3_of 7 = .ok (.ifnonnull 6, 3) := by decide +kernel
theorem dX3_of_10 : decode cX3_of 10 = .ok (.bipush (-2), 2) := by decide +kernel
theorem dX3_of_12 : decode cX3_of 12 = .ok (.ireturn, 1) := by decide +kernel
theorem dX3_of_13 : decode cX3_of 13 = .ok (.iload_n 2, 1) := by decide +kernel
theorem dX3_of_14 : decode cX3_of 14 = .ok (.tableswitch 87 0 7 #[46, 51, 56, 61, 66, 72, 77, 82], 46) := by decide +kernel
theorem dX3_of_60 : decode cX3_of 60 = .ok (.aload_n 3, 1) := by decide +kernel
theorem dX3_of_61 : decode cX3_of 61 = .ok (.getfield 103, 3) := by decide +kernel
theorem dX3_of_64 : decode cX3_of 64 = .ok (.ireturn, 1) := by decide +kernel
theorem dX3_of_65 : decode cX3_of 65 = .ok (.aload_n 3, 1) := by decide +kernel
theorem dX3_of_66 : decode cX3_of 66 = .ok (.getfield 113, 3) := by decide +kernel
theorem dX3_of_69 : decode cX3_of 69 = .ok (.ireturn, 1) := by decide +kernel
theorem dX3_of_70 : decode cX3_of 70 = .ok (.aload_n 3, 1) := by decide +kernel
theorem dX3_of_71 : decode cX3_of 71 = .ok (.getfield 106, 3) := by decide +kernel
theorem dX3_of_74 : decode cX3_of 74 = .ok (.ireturn, 1) := by decide +kernel
theorem dX3_of_75 : decode cX3_of 75 = .ok (.aload_n 3, 1) := by decide +kernel
theorem dX3_of_76 : decode cX3_of 76 = .ok (.getfield 67, 3) := by decide +kernel
theorem dX3_of_79 : decode cX3_of 79 = .ok (.ireturn, 1) := by decide +kernel
theorem dX3_of_80 : decode cX3_of 80 = .ok (.aload_n 3, 1) := by decide +kernel
theorem dX3_of_81 : decode cX3_of 81 = .ok (.getfield 125, 3) := by decide +kernel
theorem dX3_of_84 : decode cX3_of 84 = .ok (.arraylength, 1) := by decide +kernel
theorem dX3_of_85 : decode cX3_of 85 = .ok (.ireturn, 1) := by decide +kernel
theorem dX3_of_86 : decode cX3_of 86 = .ok (.aload_n 3, 1) := by decide +kernel
theorem dX3_of_87 : decode cX3_of 87 = .ok (.getfield 53, 3) := by decide +kernel
theorem dX3_of_90 : decode cX3_of 90 = .ok (.ireturn, 1) := by decide +kernel
theorem dX3_of_91 : decode cX3_of 91 = .ok (.aload_n 3, 1) := by decide +kernel
theorem dX3_of_92 : decode cX3_of 92 = .ok (.getfield 128, 3) := by decide +kernel
theorem dX3_of_95 : decode cX3_of 95 = .ok (.ireturn, 1) := by decide +kernel
theorem dX3_of_96 : decode cX3_of 96 = .ok (.aload_n 3, 1) := by decide +kernel
theorem dX3_of_97 : decode cX3_of 97 = .ok (.getfield 137, 3) := by decide +kernel
theorem dX3_of_100 : decode cX3_of 100 = .ok (.ireturn, 1) := by decide +kernel
theorem dX3_of_101 : decode cX3_of 101 = .ok (.bipush (-2), 2) := by decide +kernel
theorem dX3_of_103 : decode cX3_of 103 = .ok (.ireturn, 1) := by decide +kernel
theorem dX3_part_0 : decode cX3_part 0 = .ok (.aload_n 0, 1) := by decide +kernel
theorem dX3_part_1 : decode cX3_part 1 = .ok (.iload_n 1, 1) := by decide +kernel
theorem dX3_part_2 : decode cX3_part 2 = .ok (.invokevirtual 63, 3) := by decide +kernel
theorem dX3_part_5 : decode cX3_part 5 = .ok (.astore_n 3, 1) := by decide +kernel
theorem dX3_part_6 : decode cX3_part 6 = .ok (.aload_n 3, 1) := by decide +kernel
theorem dX3_part_7 : decode cX3_part 7 = .ok (.ifnull 16, 3) := by decide +kernel
theorem dX3_part_10 : decode cX3_part 10 = .ok (.iload_n 2, 1) := by decide +kernel
theorem dX3_part_11 : decode cX3_part 11 = .ok (.ifCond .lt 12, 3) := by decide +kernel
theorem dX3_part_14 : decode cX3_part 14 = .ok (.iload_n 2, 1) := by decide +kernel
theorem dX3_part_15 : decode cX3_part 15 = .ok (.aload_n 3, 1) := by decide +kernel
theorem dX3_part_16 : decode cX3_part 16 = .ok (.getfield 125, 3) := by decide +kernel
theorem dX3_part_19 : decode cX3_part 19 = .ok (.arraylength, 1) := by decide +kernel
theorem dX3_part_20 : decode cX3_part 20 = .ok (.if_icmp .lt 6, 3) := by decide +kernel
theorem dX3_part_23 : decode cX3_part 23 = .ok (.bipush (-2), 2) := by decide +kernel
theorem dX3_part_25 : decode cX3_part 25 = .ok (.ireturn, 1) := by decide +kernel
theorem dX3_part_26 : decode cX3_part 26 = .ok (.aload_n 3, 1) := by decide +kernel
theorem dX3_part_27 : decode cX3_part 27 = .ok (.getfield 125, 3) := by decide +kernel
theorem dX3_part_30 : decode cX3_part 30 = .ok (.iload_n 2, 1) := by decide +kernel
theorem dX3_part_31 : decode cX3_part 31 = .ok (.aaload, 1) := by decide +kernel
theorem dX3_part_32 : decode cX3_part 32 = .ok (.astore 4, 2) := by decide +kernel
theorem dX3_part_34 : decode cX3_part 34 = .ok (.aload 4, 2) := by decide +kernel
theorem dX3_part_36 : decode cX3_part 36 = .ok (.ifnonnull 8, 3) := by decide +kernel
theorem dX3_part_39 : decode cX3_part 39 = .ok (.bipush (-2), 2) := by decide +kernel
theorem dX3_part_41 : decode cX3_part 41 = .ok (.goto 8, 3) := by decide +kernel
theorem dX3_part_44 : decode cX3_part 44 = .ok (.aload 4, 2) := by decide +kernel
theorem dX3_part_46 : decode cX3_part 46 = .ok (.getfield 60, 3) := by decide +kernel
theorem dX3_part_49 : decode cX3_part 49 = .ok (.ireturn, 1) := by decide +kernel
theorem dX3_count_0 : decode cX3_count 0 = .ok (.iload_n 1, 1) := by decide +kernel
theorem dX3_count_1 : decode cX3_count 1 = .ok (.tableswitch 100 0 8 #[51, 56, 62, 68, 74, 80, 85, 90, 95], 51) := by decide +kernel
theorem dX3_count_52 : decode cX3_count 52 = .ok (.aload_n 0, 1) := by decide +kernel
theorem dX3_count_53 : decode cX3_count 53 = .ok (.getfield 40, 3) := by decide +kernel
theorem dX3_count_56 : decode cX3_count 56 = .ok (.ireturn, 1) := by decide +kernel
theorem dX3_count_57 : decode cX3_count 57 = .ok (.aload_n 0, 1) := by decide +kernel
theorem dX3_count_58 : decode cX3_count 58 = .ok (.iconst 0, 1) := by decide +kernel
theorem dX3_count_59 : decode cX3_count 59 = .ok (.invokevirtual 140, 3) := by decide +kernel
theorem dX3_count_62 : decode cX3_count 62 = .ok (.ireturn, 1) := by decide +kernel
theorem dX3_count_63 : decode cX3_count 63 = .ok (.aload_n 0, 1) := by decide +kernel
theorem dX3_count_64 : decode cX3_count 64 = .ok (.iconst 1, 1) := by decide +kernel
theorem dX3_count_65 : decode cX3_count 65 = .ok (.invokevirtual 140, 3) := by decide +kernel
theorem dX3_count_68 : decode cX3_count 68 = .ok (.ireturn, 1) := by decide +kernel
theorem dX3_count_69 : decode cX3_count 69 = .ok (.aload_n 0, 1) := by decide +kernel
theorem dX3_count_70 : decode cX3_count 70 = .ok (.iconst 2, 1) := by decide +kernel
theorem dX3_count_71 : decode cX3_count 71 = .ok (.invokevirtual 140, 3) := by decide +kernel
theorem dX3_count_74 : decode cX3_count 74 = .ok (.ireturn, 1) := by decide +kernel
theorem dX3_count_75 : decode cX3_count 75 = .ok (.aload_n 0, 1) := by decide +kernel
theorem dX3_count_76 : decode cX3_count 76 = .ok (.iconst 3, 1) := by decide +kernel
theorem dX3_count_77 : decode cX3_count 77 = .ok (.invokevirtual 140, 3) := by decide +kernel
theorem dX3_count_80 : decode cX3_count 80 = .ok (.ireturn, 1) := by decide +kernel
theorem dX3_count_81 : decode cX3_count 81 = .ok (.aload_n 0, 1) := by decide +kernel
theorem dX3_count_82 : decode cX3_count 82 = .ok (.getfield 77, 3) := by decide +kernel
theorem dX3_count_85 : decode cX3_count 85 = .ok (.ireturn, 1) := by decide +kernel
theorem dX3_count_86 : decode cX3_count 86 = .ok (.aload_n 0, 1) := by decide +kernel
theorem dX3_count_87 : decode cX3_count 87 = .ok (.getfield 143, 3) := by decide +kernel
theorem dX3_count_90 : decode cX3_count 90 = .ok (.ireturn, 1) := by decide +kernel
theorem dX3_count_91 : decode cX3_count 91 = .ok (.aload_n 0, 1) := by decide +kernel
theorem dX3_count_92 : decode cX3_count 92 = .ok (.invokevirtual 146, 3) := by decide +kernel
theorem dX3_count_95 : decode cX3_count 95 = .ok (.ireturn, 1) := by decide +kernel
theorem dX3_count_96 : decode cX3_count 96 = .ok (.aload_n 0, 1) := by decide +kernel
theorem dX3_count_97 : decode cX3_count 97 = .ok (.getfield 149, 3) := by decide +kernel
theorem dX3_count_100 : decode cX3_count 100 = .ok (.ireturn, 1) := by decide +kernel
theorem dX3_count_101 : decode cX3_count 101 = .ok (.bipush (-2), 2) := by decide +kernel
theorem dX3_count_103 : decode cX3_count 103 = .ok (.ireturn, 1) := by decide +kernel
theorem dX3_piecesThatAre_0 : decode cX3_piecesThatAre 0 = .ok (.iconst 0, 1) := by decide +kernel
theorem dX3_piecesThatAre_1 : decode cX3_piecesThatAre 1 = .ok (.istore_n 2, 1) := by decide +kernel
theorem dX3_piecesThatAre_2 : decode cX3_piecesThatAre 2 = .ok (.iconst 0, 1) := by decide +kernel
theorem dX3_piecesThatAre_3 : decode cX3_piecesThatAre 3 = .ok (.istore_n 3, 1) := by decide +kernel
theorem dX3_piecesThatAre_4 : decode cX3_piecesThatAre 4 = .ok (.iload_n 3, 1) := by decide +kernel
theorem dX3_piecesThatAre_5 : decode cX3_piecesThatAre 5 = .ok (.aload_n 0, 1) := by decide +kernel
theorem dX3_piecesThatAre_6 : decode cX3_piecesThatAre 6 = .ok (.getfield 40, 3) := by decide +kernel
theorem dX3_piecesThatAre_9 : decode cX3_piecesThatAre 9 = .ok (.if_icmp .ge 40, 3) := by decide +kernel
theorem dX3_piecesThatAre_12 : decode cX3_piecesThatAre 12 = .ok (.iload_n 3, 1) := by decide +kernel
theorem dX3_piecesThatAre_13 : decode cX3_piecesThatAre 13 = .ok (.bipush 120, 2) := by decide +kernel
theorem dX3_piecesThatAre_15 : decode cX3_piecesThatAre 15 = .ok (.if_icmp .ge 34, 3) := by decide +kernel
theorem dX3_piecesThatAre_18 : decode cX3_piecesThatAre 18 = .ok (.aload_n 0, 1) := by decide +kernel
theorem dX3_piecesThatAre_19 : decode cX3_piecesThatAre 19 = .ok (.getfield 11, 3) := by decide +kernel
theorem dX3_piecesThatAre_22 : decode cX3_piecesThatAre 22 = .ok (.iload_n 3, 1) := by decide +kernel
theorem dX3_piecesThatAre_23 : decode cX3_piecesThatAre 23 = .ok (.aaload, 1) := by decide +kernel
theorem dX3_piecesThatAre_24 : decode cX3_piecesThatAre 24 = .ok (.ifnull 19, 3) := by decide +kernel
theorem dX3_piecesThatAre_27 : decode cX3_piecesThatAre 27 = .ok (.aload_n 0, 1) := by decide +kernel
theorem dX3_piecesThatAre_28 : decode cX3_piecesThatAre 28 = .ok (.getfield 11, 3) := by decide +kernel
theorem dX3_piecesThatAre_31 : decode cX3_piecesThatAre 31 = .ok (.iload_n 3, 1) := by decide +kernel
theorem dX3_piecesThatAre_32 : decode cX3_piecesThatAre 32 = .ok (.aaload, 1) := by decide +kernel
theorem dX3_piecesThatAre_33 : decode cX3_piecesThatAre 33 = .ok (.getfield 67, 3) := by decide +kernel
theorem dX3_piecesThatAre_36 : decode cX3_piecesThatAre 36 = .ok (.iload_n 1, 1) := by decide +kernel
theorem dX3_piecesThatAre_37 : decode cX3_piecesThatAre 37 = .ok (.if_icmp .ne 6, 3) := by decide +kernel
theorem dX3_piecesThatAre_40 : decode cX3_piecesThatAre 40 = .ok (.iinc 2 1, 3) := by decide +kernel
theorem dX3_piecesThatAre_43 : decode cX3_piecesThatAre 43 = .ok (.iinc 3 1, 3) := by decide +kernel
theorem dX3_piecesThatAre_46 : decode cX3_piecesThatAre 46 = .ok (.goto (-42), 3) := by decide +kernel
theorem dX3_piecesThatAre_49 : decode cX3_piecesThatAre 49 = .ok (.iload_n 2, 1) := by decide +kernel
theorem dX3_piecesThatAre_50 : decode cX3_piecesThatAre 50 = .ok (.ireturn, 1) := by decide +kernel
theorem dX3_row_0 : decode cX3_row 0 = .ok (.aload_n 0, 1) := by decide +kernel
theorem dX3_row_1 : decode cX3_row 1 = .ok (.iload_n 1, 1) := by decide +kernel
theorem dX3_row_2 : decode cX3_row 2 = .ok (.invokevirtual 152, 3) := by decide +kernel
theorem dX3_row_5 : decode cX3_row 5 = .ok (.astore_n 3, 1) := by decide +kernel
theorem dX3_row_6 : decode cX3_row 6 = .ok (.aload_n 3, 1) := by decide +kernel
theorem dX3_row_7 : decode cX3_row 7 = .ok (.ifnull 9, 3) := by decide +kernel
theorem dX3_row_10 : decode cX3_row 10 = .ok (.iload_n 2, 1) := by decide +kernel
theorem dX3_row_11 : decode cX3_row 11 = .ok (.bipush 8, 2) := by decide +kernel
theorem dX3_row_13 : decode cX3_row 13 = .ok (.if_icmp .le 6, 3) := by decide +kernel
theorem dX3_row_16 : decode cX3_row 16 = .ok (.bipush (-2), 2) := by decide +kernel
theorem dX3_row_18 : decode cX3_row 18 = .ok (.ireturn, 1) := by decide +kernel
theorem dX3_row_19 : decode cX3_row 19 = .ok (.iload_n 2, 1) := by decide +kernel
theorem dX3_row_20 : decode cX3_row 20 = .ok (.ifCond .ge 6, 3) := by decide +kernel
theorem dX3_row_23 : decode cX3_row 23 = .ok (.bipush (-13), 2) := by decide +kernel
theorem dX3_row_25 : decode cX3_row 25 = .ok (.ireturn, 1) := by decide +kernel
theorem dX3_row_26 : decode cX3_row 26 = .ok (.aload_n 3, 1) := by decide +kernel
theorem dX3_row_27 : decode cX3_row 27 = .ok (.iload_n 2, 1) := by decide +kernel
theorem dX3_row_28 : decode cX3_row 28 = .ok (.putfield 137, 3) := by decide +kernel
theorem dX3_row_31 : decode cX3_row 31 = .ok (.iconst 0, 1) := by decide +kernel
theorem dX3_row_32 : decode cX3_row 32 = .ok (.istore 4, 2) := by decide +kernel
theorem dX3_row_34 : decode cX3_row 34 = .ok (.iload 4, 2) := by decide +kernel
theorem dX3_row_36 : decode cX3_row 36 = .ok (.iload_n 2, 1) := by decide +kernel
theorem dX3_row_37 : decode cX3_row 37 = .ok (.if_icmp .ge 17, 3) := by decide +kernel
theorem dX3_row_40 : decode cX3_row 40 = .ok (.aload_n 3, 1) := by decide +kernel
theorem dX3_row_41 : decode cX3_row 41 = .ok (.getfield 155, 3) := by decide +kernel
theorem dX3_row_44 : decode cX3_row 44 = .ok (.iload 4, 2) := by decide +kernel
theorem dX3_row_46 : decode cX3_row 46 = .ok (.iconst (-1), 1) := by decide +kernel
theorem dX3_row_47 : decode cX3_row 47 = .ok (.iastore, 1) := by decide +kernel
theorem dX3_row_48 : decode cX3_row 48 = .ok (.iinc 4 1, 3) := by decide +kernel
theorem dX3_row_51 : decode cX3_row 51 = .ok (.goto (-17), 3) := by decide +kernel
theorem dX3_row_54 : decode cX3_row 54 = .ok (.iload_n 2, 1) := by decide +kernel
theorem dX3_row_55 : decode cX3_row 55 = .ok (.ireturn, 1) := by decide +kernel
theorem dX3_lose_0 : decode cX3_lose 0 = .ok (.aload_n 0, 1) := by decide +kernel
theorem dX3_lose_1 : decode cX3_lose 1 = .ok (.iload_n 1, 1) := by decide +kernel
theorem dX3_lose_2 : decode cX3_lose 2 = .ok (.invokevirtual 152, 3) := by decide +kernel
theorem dX3_lose_5 : decode cX3_lose 5 = .ok (.astore_n 2, 1) := by decide +kernel
theorem dX3_lose_6 : decode cX3_lose 6 = .ok (.aload_n 2, 1) := by decide +kernel
theorem dX3_lose_7 : decode cX3_lose 7 = .ok (.ifnonnull 6, 3) := by decide +kernel
theorem dX3_lose_10 : decode cX3_lose 10 = .ok (.bipush (-2), 2) := by decide +kernel
theorem dX3_lose_12 : decode cX3_lose 12 = .ok (.ireturn, 1) := by decide +kernel
theorem dX3_lose_13 : decode cX3_lose 13 = .ok (.aload_n 2, 1) := by decide +kernel
theorem dX3_lose_14 : decode cX3_lose 14 = .ok (.getfield 137, 3) := by decide +kernel
theorem dX3_lose_17 : decode cX3_lose 17 = .ok (.ifCond .lt 7, 3) := by decide +kernel
theorem dX3_lose_20 : decode cX3_lose 20 = .ok (.iconst 1, 1) := by decide +kernel
theorem dX3_lose_21 : decode cX3_lose 21 = .ok (.goto 4, 3) := by decide +kernel
theorem dX3_lose_24 : decode cX3_lose 24 = .ok (.iconst 0, 1) := by decide +kernel
theorem dX3_lose_25 : decode cX3_lose 25 = .ok (.istore_n 3, 1) := by decide +kernel
theorem dX3_lose_26 : decode cX3_lose 26 = .ok (.aload_n 2, 1) := by decide +kernel
theorem dX3_lose_27 : decode cX3_lose 27 = .ok (.iconst (-1), 1) := by decide +kernel
theorem dX3_lose_28 : decode cX3_lose 28 = .ok (.putfield 137, 3) := by decide +kernel
theorem dX3_lose_31 : decode cX3_lose 31 = .ok (.iload_n 3, 1) := by decide +kernel
theorem dX3_lose_32 : decode cX3_lose 32 = .ok (.ireturn, 1) := by decide +kernel
theorem dX3_spot_0 : decode cX3_spot 0 = .ok (.aload_n 0, 1) := by decide +kernel
theorem dX3_spot_1 : decode cX3_spot 1 = .ok (.iload_n 1, 1) := by decide +kernel
theorem dX3_spot_2 : decode cX3_spot 2 = .ok (.invokevirtual 152, 3) := by decide +kernel
theorem dX3_spot_5 : decode cX3_spot 5 = .ok (.astore 6, 2) := by decide +kernel
theorem dX3_spot_7 : decode cX3_spot 7 = .ok (.aload 6, 2) := by decide +kernel
theorem dX3_spot_9 : decode cX3_spot 9 = .ok (.ifnull 27, 3) := by decide +kernel
theorem dX3_spot_12 : decode cX3_spot 12 = .ok (.iload_n 3, 1) := by decide +kernel
theorem dX3_spot_13 : decode cX3_spot 13 = .ok (.ifCond .lt 23, 3) := by decide +kernel
theorem dX3_spot_16 : decode cX3_spot 16 = .ok (.iload_n 3, 1) := by decide +kernel
theorem dX3_spot_17 : decode cX3_spot 17 = .ok (.sipush 2000, 3) := by decide +kernel
theorem dX3_spot_20 : decode cX3_spot 20 = .ok (.if_icmp .gt 16, 3) := by decide +kernel
theorem dX3_spot_23 : decode cX3_spot 23 = .ok (.iload 4, 2) := by decide +kernel
theorem dX3_spot_25 : decode cX3_spot 25 = .ok (.ifCond .lt 11, 3) := by decide +kernel
theorem dX3_spot_28 : decode cX3_spot 28 = .ok (.iload 4, 2) := by decide +kernel
theorem dX3_spot_30 : decode cX3_spot 30 = .ok (.sipush 2000, 3) := by decide +kernel
theorem dX3_spot_33 : decode cX3_spot 33 = .ok (.if_icmp .le 6, 3) := by decide +kernel
theorem dX3_spot_36 : decode cX3_spot 36 = .ok (.bipush (-2), 2) := by decide +kernel
theorem dX3_spot_38 : decode cX3_spot 38 = .ok (.ireturn, 1) := by decide +kernel
theorem dX3_spot_39 : decode cX3_spot 39 = .ok (.iload 5, 2) := by decide +kernel
theorem dX3_spot_41 : decode cX3_spot 41 = .ok (.iconst (-1), 1) := by decide +kernel
theorem dX3_spot_42 : decode cX3_spot 42 = .ok (.if_icmp .lt 10, 3) := by decide +kernel
theorem dX3_spot_45 : decode cX3_spot 45 = .ok (.iload 5, 2) := by decide +kernel
theorem dX3_spot_47 : decode cX3_spot 47 = .ok (.bipush 8, 2) := by decide +kernel
theorem dX3_spot_49 : decode cX3_spot 49 = .ok (.if_icmp .le 6, 3) := by decide +kernel
theorem dX3_spot_52 : decode cX3_spot 52 = .ok (.bipush (-2), 2) := by decide +kernel
theorem dX3_spot_54 : decode cX3_spot 54 = .ok (.ireturn, 1) := by decide +kernel
theorem dX3_spot_55 : decode cX3_spot 55 = .ok (.aload 6, 2) := by decide +kernel
theorem dX3_spot_57 : decode cX3_spot 57 = .ok (.getfield 137, 3) := by decide +kernel
theorem dX3_spot_60 : decode cX3_spot 60 = .ok (.ifCond .ge 6, 3) := by decide +kernel
theorem dX3_spot_63 : decode cX3_spot 63 = .ok (.bipush (-10), 2) := by decide +kernel
theorem dX3_spot_65 : decode cX3_spot 65 = .ok (.ireturn, 1) := by decide +kernel
theorem dX3_spot_66 : decode cX3_spot 66 = .ok (.iload_n 2, 1) := by decide +kernel
theorem dX3_spot_67 : decode cX3_spot 67 = .ok (.ifCond .lt 18, 3) := by decide +kernel
theorem dX3_spot_70 : decode cX3_spot 70 = .ok (.iload_n 2, 1) := by decide +kernel
theorem dX3_spot_71 : decode cX3_spot 71 = .ok (.aload 6, 2) := by decide +kernel
theorem dX3_spot_73 : decode cX3_spot 73 = .ok (.getfield 137, 3) := by decide +kernel
theorem dX3_spot_76 : decode cX3_spot 76 = .ok (.if_icmp .ge 9, 3) := by decide +kernel
theorem dX3_spot_79 : decode cX3_spot 79 = .ok (.iload_n 2, 1) := by decide +kernel
theorem dX3_spot_80 : decode cX3_spot 80 = .ok (.bipush 8, 2) := by decide +kernel
theorem dX3_spot_82 : decode cX3_spot 82 = .ok (.if_icmp .lt 6, 3) := by decide +kernel
theorem dX3_spot_85 : decode cX3_spot 85 = .ok (.bipush (-11), 2) := by decide +kernel
theorem dX3_spot_87 : decode cX3_spot 87 = .ok (.ireturn, 1) := by decide +kernel
theorem dX3_spot_88 : decode cX3_spot 88 = .ok (.aload 6, 2) := by decide +kernel
theorem dX3_spot_90 : decode cX3_spot 90 = .ok (.getfield 155, 3) := by decide +kernel
theorem dX3_spot_93 : decode cX3_spot 93 = .ok (.iload_n 2, 1) := by decide +kernel
theorem dX3_spot_94 : decode cX3_spot 94 = .ok (.iaload, 1) := by decide +kernel
theorem dX3_spot_95 : decode cX3_spot 95 = .ok (.ifCond .lt 7, 3) := by decide +kernel
theorem dX3_spot_98 : decode cX3_spot 98 = .ok (.iconst 1, 1) := by decide +kernel
theorem dX3_spot_99 : decode cX3_spot 99 = .ok (.goto 4, 3) := by decide +kernel
theorem dX3_spot_102 : decode cX3_spot 102 = .ok (.iconst 0, 1) := by decide +kernel
theorem dX3_spot_103 : decode cX3_spot 103 = .ok (.istore 7, 2) := by decide +kernel
theorem dX3_spot_105 : decode cX3_spot 105 = .ok (.aload 6, 2) := by decide +kernel
theorem dX3_spot_107 : decode cX3_spot 107 = .ok (.getfield 158, 3) := by decide +kernel
theorem dX3_spot_110 : decode cX3_spot 110 = .ok (.iload_n 2, 1) := by decide +kernel
theorem dX3_spot_111 : decode cX3_spot 111 = .ok (.iload_n 3, 1) := by decide +kernel
theorem dX3_spot_112 : decode cX3_spot 112 = .ok (.iastore, 1) := by decide +kernel
theorem dX3_spot_113 : decode cX3_spot 113 = .ok (.aload 6, 2) := by decide +kernel
theorem dX3_spot_115 : decode cX3_spot 115 = .ok (.getfield 161, 3) := by decide +kernel
theorem dX3_spot_118 : decode cX3_spot 118 = .ok (.iload_n 2, 1) := by decide +kernel
theorem dX3_spot_119 : decode cX3_spot 119 = .ok (.iload 4, 2) := by decide +kernel
theorem dX3_spot_121 : decode cX3_spot 121 = .ok (.iastore, 1) := by decide +kernel
theorem dX3_spot_122 : decode cX3_spot 122 = .ok (.aload 6, 2) := by decide +kernel
theorem dX3_spot_124 : decode cX3_spot 124 = .ok (.getfield 155, 3) := by decide +kernel
theorem dX3_spot_127 : decode cX3_spot 127 = .ok (.iload_n 2, 1) := by decide +kernel
theorem dX3_spot_128 : decode cX3_spot 128 = .ok (.iload 5, 2) := by decide +kernel
theorem dX3_spot_130 : decode cX3_spot 130 = .ok (.iastore, 1) := by decide +kernel
theorem dX3_spot_131 : decode cX3_spot 131 = .ok (.iload 7, 2) := by decide +kernel
theorem dX3_spot_133 : decode cX3_spot 133 = .ok (.ireturn, 1) := by decide +kernel
theorem dX3_carry_0 : decode cX3_carry 0 = .ok (.aload_n 0, 1) := by decide +kernel
theorem dX3_carry_1 : decode cX3_carry 1 = .ok (.iload_n 1, 1) := by decide +kernel
theorem dX3_carry_2 : decode cX3_carry 2 = .ok (.invokevirtual 152, 3) := by decide +kernel
theorem dX3_carry_5 : decode cX3_carry 5 = .ok (.astore 6, 2) := by decide +kernel
theorem dX3_carry_7 : decode cX3_carry 7 = .ok (.aload_n 0, 1) := by decide +kernel
theorem dX3_carry_8 : decode cX3_carry 8 = .ok (.iload_n 3, 1) := by decide +kernel
theorem dX3_carry_9 : decode cX3_carry 9 = .ok (.invokevirtual 152, 3) := by decide +kernel
theorem dX3_carry_12 : decode cX3_carry 12 = .ok (.astore 7, 2) := by decide +kernel
theorem dX3_carry_14 : decode cX3_carry 14 = .ok (.aload 6, 2) := by decide +kernel
theorem dX3_carry_16 : decode cX3_carry 16 = .ok (.ifnull 8, 3) := by decide +kernel
theorem dX3_carry_19 : decode cX3_carry 19 = .ok (.aload 7, 2) := by decide +kernel
theorem dX3_carry_21 : decode cX3_carry 21 = .ok (.ifnonnull 6, 3) := by decide +kernel
theorem dX3_carry_24 : decode cX3_carry 24 = .ok (.bipush (-2), 2) := by decide +kernel
theorem dX3_carry_26 : decode cX3_carry 26 = .ok (.ireturn, 1) := by decide +kernel
theorem dX3_carry_27 : decode cX3_carry 27 = .ok (.aload 6, 2) := by decide +kernel
theorem dX3_carry_29 : decode cX3_carry 29 = .ok (.getfield 137, 3) := by decide +kernel
theorem dX3_carry_32 : decode cX3_carry 32 = .ok (.ifCond .lt 11, 3) := by decide +kernel
theorem dX3_carry_35 : decode cX3_carry 35 = .ok (.aload 7, 2) := by decide +kernel
theorem dX3_carry_37 : decode cX3_carry 37 = .ok (.getfield 137, 3) := by decide +kernel
theorem dX3_carry_40 : decode cX3_carry 40 = .ok (.ifCond .ge 6, 3) := by decide +kernel
theorem dX3_carry_43 : decode cX3_carry 43 = .ok (.bipush (-10), 2) := by decide +kernel
theorem dX3_carry_45 : decode cX3_carry 45 = .ok (.ireturn, 1) := by decide +kernel
theorem dX3_carry_46 : decode cX3_carry 46 = .ok (.aload 6, 2) := by decide +kernel
theorem dX3_carry_48 : decode cX3_carry 48 = .ok (.iload_n 2, 1) := by decide +kernel
theorem dX3_carry_49 : decode cX3_carry 49 = .ok (.iload 5, 2) := by decide +kernel
theorem dX3_carry_51 : decode cX3_carry 51 = .ok (.invokestatic 164, 3) := by decide +kernel
theorem dX3_carry_54 : decode cX3_carry 54 = .ok (.ifCond .eq 15, 3) := by decide +kernel
theorem dX3_carry_57 : decode cX3_carry 57 = .ok (.aload 7, 2) := by decide +kernel
theorem dX3_carry_59 : decode cX3_carry 59 = .ok (.iload 4, 2) := by decide +kernel
theorem dX3_carry_61 : decode cX3_carry 61 = .ok (.iload 5, 2) := by decide +kernel
theorem dX3_carry_63 : decode cX3_carry 63 = .ok (.invokestatic 164, 3) := by decide +kernel
theorem dX3_carry_66 : decode cX3_carry 66 = .ok (.ifCond .ne 6, 3) := by decide +kernel
theorem dX3_carry_69 : decode cX3_carry 69 = .ok (.bipush (-11), 2) := by decide +kernel
theorem dX3_carry_71 : decode cX3_carry 71 = .ok (.ireturn, 1) := by decide +kernel
theorem dX3_carry_72 : decode cX3_carry 72 = .ok (.aload 6, 2) := by decide +kernel
theorem dX3_carry_74 : decode cX3_carry 74 = .ok (.getfield 158, 3) := by decide +kernel
theorem dX3_carry_77 : decode cX3_carry 77 = .ok (.iload_n 2, 1) := by decide +kernel
theorem dX3_carry_78 : decode cX3_carry 78 = .ok (.aload 7, 2) := by decide +kernel
theorem dX3_carry_80 : decode cX3_carry 80 = .ok (.getfield 158, 3) := by decide +kernel
theorem dX3_carry_83 : decode cX3_carry 83 = .ok (.iload 4, 2) := by decide +kernel
theorem dX3_carry_85 : decode cX3_carry 85 = .ok (.iload 5, 2) := by decide +kernel
theorem dX3_carry_87 : decode cX3_carry 87 = .ok (.invokestatic 168, 3) := by decide +kernel
theorem dX3_carry_90 : decode cX3_carry 90 = .ok (.aload 6, 2) := by decide +kernel
theorem dX3_carry_92 : decode cX3_carry 92 = .ok (.getfield 161, 3) := by decide +kernel
theorem dX3_carry_95 : decode cX3_carry 95 = .ok (.iload_n 2, 1) := by decide +kernel
theorem dX3_carry_96 : decode cX3_carry 96 = .ok (.aload 7, 2) := by decide +kernel
theorem dX3_carry_98 : decode cX3_carry 98 = .ok (.getfield 161, 3) := by decide +kernel
theorem dX3_carry_101 : decode cX3_carry 101 = .ok (.iload 4, 2) := by decide +kernel
theorem dX3_carry_103 : decode cX3_carry 103 = .ok (.iload 5, 2) := by decide +kernel
theorem dX3_carry_105 : decode cX3_carry 105 = .ok (.invokestatic 168, 3) := by decide +kernel
theorem dX3_carry_108 : decode cX3_carry 108 = .ok (.aload 6, 2) := by decide +kernel
theorem dX3_carry_110 : decode cX3_carry 110 = .ok (.getfield 155, 3) := by decide +kernel
theorem dX3_carry_113 : decode cX3_carry 113 = .ok (.iload_n 2, 1) := by decide +kernel
theorem dX3_carry_114 : decode cX3_carry 114 = .ok (.aload 7, 2) := by decide +kernel
theorem dX3_carry_116 : decode cX3_carry 116 = .ok (.getfield 155, 3) := by decide +kernel
theorem dX3_carry_119 : decode cX3_carry 119 = .ok (.iload 4, 2) := by decide +kernel
theorem dX3_carry_121 : decode cX3_carry 121 = .ok (.iload 5, 2) := by decide +kernel
theorem dX3_carry_123 : decode cX3_carry 123 = .ok (.invokestatic 168, 3) := by decide +kernel
theorem dX3_carry_126 : decode cX3_carry 126 = .ok (.aload 7, 2) := by decide +kernel
theorem dX3_carry_128 : decode cX3_carry 128 = .ok (.invokestatic 174, 3) := by decide +kernel
theorem dX3_carry_131 : decode cX3_carry 131 = .ok (.ireturn, 1) := by decide +kernel
theorem dX3_hasSpots_0 : decode cX3_hasSpots 0 = .ok (.iload_n 1, 1) := by decide +kernel
theorem dX3_hasSpots_1 : decode cX3_hasSpots 1 = .ok (.ifCond .lt 30, 3) := by decide +kernel
theorem dX3_hasSpots_4 : decode cX3_hasSpots 4 = .ok (.iload_n 2, 1) := by decide +kernel
theorem dX3_hasSpots_5 : decode cX3_hasSpots 5 = .ok (.ifCond .lt 26, 3) := by decide +kernel
theorem dX3_hasSpots_8 : decode cX3_hasSpots 8 = .ok (.aload_n 0, 1) := by decide +kernel
theorem dX3_hasSpots_9 : decode cX3_hasSpots 9 = .ok (.getfield 137, 3) := by decide +kernel
theorem dX3_hasSpots_12 : decode cX3_hasSpots 12 = .ok (.bipush 8, 2) := by decide +kernel
theorem dX3_hasSpots_14 : decode cX3_hasSpots 14 = .ok (.if_icmp .gt 17, 3) := by decide +kernel
theorem dX3_hasSpots_17 : decode cX3_hasSpots 17 = .ok (.iload_n 2, 1) := by decide +kernel
theorem dX3_hasSpots_18 : decode cX3_hasSpots 18 = .ok (.aload_n 0, 1) := by decide +kernel
theorem dX3_hasSpots_19 : decode cX3_hasSpots 19 = .ok (.getfield 137, 3) := by decide +kernel
theorem dX3_hasSpots_22 : decode cX3_hasSpots 22 = .ok (.iload_n 1, 1) := by decide +kernel
theorem dX3_hasSpots_23 : decode cX3_hasSpots 23 = .ok (.isub, 1) := by decide +kernel
theorem dX3_hasSpots_24 : decode cX3_hasSpots 24 = .ok (.if_icmp .gt 7, 3) := by decide +kernel
theorem dX3_hasSpots_27 : decode cX3_hasSpots 27 = .ok (.iconst 1, 1) := by decide +kernel
theorem dX3_hasSpots_28 : decode cX3_hasSpots 28 = .ok (.goto 4, 3) := by decide +kernel
theorem dX3_hasSpots_31 : decode cX3_hasSpots 31 = .ok (.iconst 0, 1) := by decide +kernel
theorem dX3_hasSpots_32 : decode cX3_hasSpots 32 = .ok (.ireturn, 1) := by decide +kernel
theorem dX3_toldSpots_0 : decode cX3_toldSpots 0 = .ok (.iconst 0, 1) := by decide +kernel
theorem dX3_toldSpots_1 : decode cX3_toldSpots 1 = .ok (.istore_n 1, 1) := by decide +kernel
theorem dX3_toldSpots_2 : decode cX3_toldSpots 2 = .ok (.iconst 0, 1) := by decide +kernel
theorem dX3_toldSpots_3 : decode cX3_toldSpots 3 = .ok (.istore_n 2, 1) := by decide +kernel
theorem dX3_toldSpots_4 : decode cX3_toldSpots 4 = .ok (.iload_n 2, 1) := by decide +kernel
theorem dX3_toldSpots_5 : decode cX3_toldSpots 5 = .ok (.aload_n 0, 1) := by decide +kernel
theorem dX3_toldSpots_6 : decode cX3_toldSpots 6 = .ok (.getfield 137, 3) := by decide +kernel
theorem dX3_toldSpots_9 : decode cX3_toldSpots 9 = .ok (.if_icmp .ge 27, 3) := by decide +kernel
theorem dX3_toldSpots_12 : decode cX3_toldSpots 12 = .ok (.iload_n 2, 1) := by decide +kernel
theorem dX3_toldSpots_13 : decode cX3_toldSpots 13 = .ok (.bipush 8, 2) := by decide +kernel
theorem dX3_toldSpots_15 : decode cX3_toldSpots 15 = .ok (.if_icmp .ge 21, 3) := by decide +kernel
theorem dX3_toldSpots_18 : decode cX3_toldSpots 18 = .ok (.aload_n 0, 1) := by decide +kernel
theorem dX3_toldSpots_19 : decode cX3_toldSpots 19 = .ok (.getfield 155, 3) := by decide +kernel
theorem dX3_toldSpots_22 : decode cX3_toldSpots 22 = .ok (.iload_n 2, 1) := by decide +kernel
theorem dX3_toldSpots_23 : decode cX3_toldSpots 23 = .ok (.iaload, 1) := by decide +kernel
theorem dX3_toldSpots_24 : decode cX3_toldSpots 24 = .ok (.ifCond .lt 6, 3) := by decide +kernel
theorem dX3_toldSpots_27 : decode cX3_toldSpots 27 = .ok (.iinc 1 1, 3) := by decide +kernel
theorem dX3_toldSpots_30 : decode cX3_toldSpots 30 = .ok (.iinc 2 1, 3) := by decide +kernel
theorem dX3_toldSpots_33 : decode cX3_toldSpots 33 = .ok (.goto (-29), 3) := by decide +kernel
theorem dX3_toldSpots_36 : decode cX3_toldSpots 36 = .ok (.iload_n 1, 1) := by decide +kernel
theorem dX3_toldSpots_37 : decode cX3_toldSpots 37 = .ok (.ireturn, 1) := by decide +kernel
theorem dX3_bearing_0 : decode cX3_bearing 0 = .ok (.aload_n 0, 1) := by decide +kernel
theorem dX3_bearing_1 : decode cX3_bearing 1 = .ok (.ifnull 9, 3) := by decide +kernel
theorem dX3_bearing_4 : decode cX3_bearing 4 = .ok (.iload_n 2, 1) := by decide +kernel
theorem dX3_bearing_5 : decode cX3_bearing 5 = .ok (.bipush 40, 2) := by decide +kernel
theorem dX3_bearing_7 : decode cX3_bearing 7 = .ok (.if_icmp .le 5, 3) := by decide +kernel
theorem dX3_bearing_10 : decode cX3_bearing 10 = .ok (.fconst 0, 1) := by decide +kernel
theorem dX3_bearing_11 : decode cX3_bearing 11 = .ok (.freturn, 1) := by decide +kernel
theorem dX3_bearing_12 : decode cX3_bearing 12 = .ok (.aload_n 0, 1) := by decide +kernel
theorem dX3_bearing_13 : decode cX3_bearing 13 = .ok (.getfield 49, 3) := by decide +kernel
theorem dX3_bearing_16 : decode cX3_bearing 16 = .ok (.fstore_n 3, 1) := by decide +kernel
theorem dX3_bearing_17 : decode cX3_bearing 17 = .ok (.aload_n 0, 1) := by decide +kernel
theorem dX3_bearing_18 : decode cX3_bearing 18 = .ok (.getfield 103, 3) := by decide +kernel
theorem dX3_bearing_21 : decode cX3_bearing 21 = .ok (.iconst 5, 1) := by decide +kernel
theorem dX3_bearing_22 : decode cX3_bearing 22 = .ok (.if_icmp .ne 13, 3) := by decide +kernel
theorem dX3_bearing_25 : decode cX3_bearing 25 = .ok (.aload_n 0, 1) := by decide +kernel
theorem dX3_bearing_26 : decode cX3_bearing 26 = .ok (.iload_n 1, 1) := by decide +kernel
theorem dX3_bearing_27 : decode cX3_bearing 27 = .ok (.iload_n 2, 1) := by decide +kernel
theorem dX3_bearing_28 : decode cX3_bearing 28 = .ok (.invokestatic 177, 3) := by decide +kernel
theorem dX3_bearing_31 : decode cX3_bearing 31 = .ok (.fstore_n 3, 1) := by decide +kernel
theorem dX3_bearing_32 : decode cX3_bearing 32 = .ok (.goto 18, 3) := by decide +kernel
theorem dX3_bearing_35 : decode cX3_bearing 35 = .ok (.aload_n 0, 1) := by decide +kernel
theorem dX3_bearing_36 : decode cX3_bearing 36 = .ok (.getfield 125, 3) := by decide +kernel
theorem dX3_bearing_39 : decode cX3_bearing 39 = .ok (.arraylength, 1) := by decide +kernel
theorem dX3_bearing_40 : decode cX3_bearing 40 = .ok (.ifCond .le 10, 3) := by decide +kernel
theorem dX3_bearing_43 : decode cX3_bearing 43 = .ok (.aload_n 0, 1) := by decide +kernel
theorem dX3_bearing_44 : decode cX3_bearing 44 = .ok (.iload_n 1, 1) := by decide +kernel
theorem dX3_bearing_45 : decode cX3_bearing 45 = .ok (.iload_n 2, 1) := by decide +kernel
theorem dX3_bearing_46 : decode cX3_bearing 46 = .ok (.invokestatic 181, 3) := by decide +kernel
theorem dX3_bearing_49 : decode cX3_bearing 49 = .ok (.fstore_n 3, 1) := by decide +kernel
theorem dX3_bearing_50 : decode cX3_bearing 50 = .ok (.aload_n 0, 1) := by decide +kernel
theorem dX3_bearing_51 : decode cX3_bearing 51 = .ok (.iload_n 1, 1) := by decide +kernel
theorem dX3_bearing_52 : decode cX3_bearing 52 = .ok (.fload_n 3, 1) := by decide +kernel
theorem dX3_bearing_53 : decode cX3_bearing 53 = .ok (.invokestatic 184, 3) := by decide +kernel
theorem dX3_bearing_56 : decode cX3_bearing 56 = .ok (.freturn, 1) := by decide +kernel
theorem dX3_laidBase_0 : decode cX3_laidBase 0 = .ok (.fconst 0, 1) := by decide +kernel
theorem dX3_laidBase_1 : decode cX3_laidBase 1 = .ok (.fstore_n 3, 1) := by decide +kernel
theorem dX3_laidBase_2 : decode cX3_laidBase 2 = .ok (.iconst 0, 1) := by decide +kernel
theorem dX3_laidBase_3 : decode cX3_laidBase 3 = .ok (.istore 4, 2) := by decide +kernel
theorem dX3_laidBase_5 : decode cX3_laidBase 5 = .ok (.iload 4, 2) := by decide +kernel
theorem dX3_laidBase_7 : decode cX3_laidBase 7 = .ok (.aload_n 0, 1) := by decide +kernel
theorem dX3_laidBase_8 : decode cX3_laidBase 8 = .ok (.getfield 125, 3) := by decide +kernel
theorem dX3_laidBase_11 : decode cX3_laidBase 11 = .ok (.arraylength, 1) := by decide +kernel
theorem dX3_laidBase_12 : decode cX3_laidBase 12 = .ok (.if_icmp .ge 41, 3) := by decide +kernel
theorem dX3_laidBase_15 : decode cX3_laidBase 15 = .ok (.aload_n 0, 1) := by decide +kernel
theorem dX3_laidBase_16 : decode cX3_laidBase 16 = .ok (.getfield 125, 3) := by decide +kernel
theorem dX3_laidBase_19 : decode cX3_laidBase 19 = .ok (.iload 4, 2) := by decide +kernel
theorem dX3_laidBase_21 : decode cX3_laidBase 21 = .ok (.aaload, 1) := by decide +kernel
theorem dX3_laidBase_22 : decode cX3_laidBase 22 = .ok (.astore 5, 2) := by decide +kernel
theorem dX3_laidBase_24 : decode cX3_laidBase 24 = .ok (.aload 5, 2) := by decide +kernel
theorem dX3_laidBase_26 : decode cX3_laidBase 26 = .ok (.ifnull 21, 3) := by decide +kernel
theorem dX3_laidBase_29 : decode cX3_laidBase 29 = .ok (.fload_n 3, 1) := by decide +kernel
theorem dX3_laidBase_30 : decode cX3_laidBase 30 = .ok (.aload 5, 2) := by decide +kernel
theorem dX3_laidBase_32 : decode cX3_laidBase 32 = .ok (.aload 5, 2) := by decide +kernel
theorem dX3_laidBase_34 : decode cX3_laidBase 34 = .ok (.aload_n 0, 1) := by decide +kernel
theorem dX3_laidBase_35 : decode cX3_laidBase 35 = .ok (.iload_n 1, 1) := by decide +kernel
theorem dX3_laidBase_36 : decode cX3_laidBase 36 = .ok (.invokestatic 188, 3) := by decide +kernel
theorem dX3_laidBase_39 : decode cX3_laidBase 39 = .ok (.iload_n 2, 1) := by decide +kernel
theorem dX3_laidBase_40 : decode cX3_laidBase 40 = .ok (.iconst 1, 1) := by decide +kernel
theorem dX3_laidBase_41 : decode cX3_laidBase 41 = .ok (.iadd, 1) := by decide +kernel
theorem dX3_laidBase_42 : decode cX3_laidBase 42 = .ok (.invokestatic 192, 3) := by decide +kernel
theorem dX3_laidBase_45 : decode cX3_laidBase 45 = .ok (.fadd, 1) := by decide +kernel
theorem dX3_laidBase_46 : decode cX3_laidBase 46 = .ok (.fstore_n 3, 1) := by decide +kernel
theorem dX3_laidBase_47 : decode cX3_laidBase 47 = .ok (.iinc 4 1, 3) := by decide +kernel
theorem dX3_laidBase_50 : decode cX3_laidBase 50 = .ok (.goto (-45), 3) := by decide +kernel
theorem dX3_laidBase_53 : decode cX3_laidBase 53 = .ok (.aload_n 0, 1) := by decide +kernel
theorem dX3_laidBase_54 : decode cX3_laidBase 54 = .ok (.getfield 103, 3) := by decide +kernel
theorem dX3_laidBase_57 : decode cX3_laidBase 57 = .ok (.iconst 1, 1) := by decide +kernel
theorem dX3_laidBase_58 : decode cX3_laidBase 58 = .ok (.if_icmp .ne 8, 3) := by decide +kernel
theorem dX3_laidBase_61 : decode cX3_laidBase 61 = .ok (.fload_n 3, 1) := by decide +kernel
theorem dX3_laidBase_62 : decode cX3_laidBase 62 = .ok (.ldc 195, 2) := by decide +kernel
theorem dX3_laidBase_64 : decode cX3_laidBase 64 = .ok (.fmul, 1) := by decide +kernel
theorem dX3_laidBase_65 : decode cX3_laidBase 65 = .ok (.freturn, 1) := by decide +kernel
theorem dX3_laidBase_66 : decode cX3_laidBase 66 = .ok (.aload_n 0, 1) := by decide +kernel
theorem dX3_laidBase_67 : decode cX3_laidBase 67 = .ok (.getfield 103, 3) := by decide +kernel
theorem dX3_laidBase_70 : decode cX3_laidBase 70 = .ok (.iconst 2, 1) := by decide +kernel
theorem dX3_laidBase_71 : decode cX3_laidBase 71 = .ok (.if_icmp .ne 10, 3) := by decide +kernel
theorem dX3_laidBase_74 : decode cX3_laidBase 74 = .ok (.fload_n 3, 1) := by decide +kernel
theorem dX3_laidBase_75 : decode cX3_laidBase 75 = .ok (.ldc 196, 2) := by decide +kernel
theorem dX3_laidBase_77 : decode cX3_laidBase 77 = .ok (.fmul, 1) := by decide +kernel
theorem dX3_laidBase_78 : decode cX3_laidBase 78 = .ok (.goto 7, 3) := by decide +kernel
theorem dX3_laidBase_81 : decode cX3_laidBase 81 = .ok (.fload_n 3, 1) := by decide +kernel
theorem dX3_laidBase_82 : decode cX3_laidBase 82 = .ok (.ldc 197, 2) := by decide +kernel
theorem dX3_laidBase_84 : decode cX3_laidBase 84 = .ok (.fmul, 1) := by decide +kernel
theorem dX3_laidBase_85 : decode cX3_laidBase 85 = .ok (.freturn, 1) := by decide +kernel
theorem dX3_placeOn_0 : decode cX3_placeOn 0 = .ok (.aload_n 1, 1) := by decide +kernel
theorem dX3_placeOn_1 : decode cX3_placeOn 1 = .ok (.getfield 113, 3) := by decide +kernel
theorem dX3_placeOn_4 : decode cX3_placeOn 4 = .ok (.iconst 1, 1) := by decide +kernel
theorem dX3_placeOn_5 : decode cX3_placeOn 5 = .ok (.if_icmp .ge 7, 3) := by decide +kernel
theorem dX3_placeOn_8 : decode cX3_placeOn 8 = .ok (.iconst 0, 1) := by decide +kernel
theorem dX3_placeOn_9 : decode cX3_placeOn 9 = .ok (.goto 14, 3) := by decide +kernel
theorem dX3_placeOn_12 : decode cX3_placeOn 12 = .ok (.iload_n 2, 1) := by decide +kernel
theorem dX3_placeOn_13 : decode cX3_placeOn 13 = .ok (.aload_n 0, 1) := by decide +kernel
theorem dX3_placeOn_14 : decode cX3_placeOn 14 = .ok (.getfield 113, 3) := by decide +kernel
theorem dX3_placeOn_17 : decode cX3_placeOn 17 = .ok (.imul, 1) := by decide +kernel
theorem dX3_placeOn_18 : decode cX3_placeOn 18 = .ok (.aload_n 1, 1) := by decide +kernel
theorem dX3_placeOn_19 : decode cX3_placeOn 19 = .ok (.getfield 113, 3) := by decide +kernel
theorem dX3_placeOn_22 : decode cX3_placeOn 22 = .ok (.idiv, 1) := by decide +kernel
theorem dX3_placeOn_23 : decode cX3_placeOn 23 = .ok (.ireturn, 1) := by decide +kernel
theorem dX3_splicedBase_0 : decode cX3_splicedBase 0 = .ok (.fconst 0, 1) := by decide +kernel
theorem dX3_splicedBase_1 : decode cX3_splicedBase 1 = .ok (.fstore_n 3, 1) := by decide +kernel
theorem dX3_splicedBase_2 : decode cX3_splicedBase 2 = .ok (.iconst 0, 1) := by decide +kernel
theorem dX3_splicedBase_3 : decode cX3_splicedBase 3 = .ok (.istore 4, 2) := by decide +kernel
theorem dX3_splicedBase_5 : decode cX3_splicedBase 5 = .ok (.iload 4, 2) := by decide +kernel
theorem dX3_splicedBase_7 : decode cX3_splicedBase 7 = .ok (.aload_n 0, 1) := by decide +kernel
theorem dX3_splicedBase_8 : decode cX3_splicedBase 8 = .ok (.getfield 125, 3) := by decide +kernel
theorem dX3_splicedBase_11 : decode cX3_splicedBase 11 = .ok (.arraylength, 1) := by decide +kernel
theorem dX3_splicedBase_12 : decode cX3_splicedBase 12 = .ok (.if_icmp .ge 74, 3) := by decide +kernel
theorem dX3_splicedBase_15 : decode cX3_splicedBase 15 = .ok (.aload_n 0, 1) := by decide +kernel
theorem dX3_splicedBase_16 : decode cX3_splicedBase 16 = .ok (.getfield 125, 3) := by decide +kernel
theorem dX3_splicedBase_19 : decode cX3_splicedBase 19 = .ok (.iload 4, 2) := by decide +kernel
theorem dX3_splicedBase_21 : decode cX3_splicedBase 21 = .ok (.aaload, 1) := by decide +kernel
theorem dX3_splicedBase_22 : decode cX3_splicedBase 22 = .ok (.astore 5, 2) := by decide +kernel
theorem dX3_splicedBase_24 : decode cX3_splicedBase 24 = .ok (.iload_n 1, 1) := by decide +kernel
theorem dX3_splicedBase_25 : decode cX3_splicedBase 25 = .ok (.aload_n 0, 1) := by decide +kernel
theorem dX3_splicedBase_26 : decode cX3_splicedBase 26 = .ok (.iload 4, 2) := by decide +kernel
theorem dX3_splicedBase_28 : decode cX3_splicedBase 28 = .ok (.invokestatic 198, 3) := by decide +kernel
theorem dX3_splicedBase_31 : decode cX3_splicedBase 31 = .ok (.isub, 1) := by decide +kernel
theorem dX3_splicedBase_32 : decode cX3_splicedBase 32 = .ok (.istore 6, 2) := by decide +kernel
theorem dX3_splicedBase_34 : decode cX3_splicedBase 34 = .ok (.aload 5, 2) := by decide +kernel
theorem dX3_splicedBase_36 : decode cX3_splicedBase 36 = .ok (.ifnull 44, 3) := by decide +kernel
theorem dX3_splicedBase_39 : decode cX3_splicedBase 39 = .ok (.iload 6, 2) := by decide +kernel
theorem dX3_splicedBase_41 : decode cX3_splicedBase 41 = .ok (.ifCond .lt 39, 3) := by decide +kernel
theorem dX3_splicedBase_44 : decode cX3_splicedBase 44 = .ok (.iload 6, 2) := by decide +kernel
theorem dX3_splicedBase_46 : decode cX3_splicedBase 46 = .ok (.aload 5, 2) := by decide +kernel
theorem dX3_splicedBase_48 : decode cX3_splicedBase 48 = .ok (.getfield 113, 3) := by decide +kernel
theorem dX3_splicedBase_51 : decode cX3_splicedBase 51 = .ok (.if_icmp .ge 29, 3) := by decide +kernel
theorem dX3_splicedBase_54 : decode cX3_splicedBase 54 = .ok (.aload 5, 2) := by decide +kernel
theorem dX3_splicedBase_56 : decode cX3_splicedBase 56 = .ok (.iload 6, 2) := by decide +kernel
theorem dX3_splicedBase_58 : decode cX3_splicedBase 58 = .ok (.iload_n 2, 1) := by decide +kernel
theorem dX3_splicedBase_59 : decode cX3_splicedBase 59 = .ok (.iconst 1, 1) := by decide +kernel
theorem dX3_splicedBase_60 : decode cX3_splicedBase 60 = .ok (.iadd, 1) := by decide +kernel
theorem dX3_splicedBase_61 : decode cX3_splicedBase 61 = .ok (.invokestatic 192, 3) := by decide +kernel
theorem dX3_splicedBase_64 : decode cX3_splicedBase 64 = .ok (.fstore 7, 2) := by decide +kernel
theorem dX3_splicedBase_66 : decode cX3_splicedBase 66 = .ok (.fload 7, 2) := by decide +kernel
theorem dX3_splicedBase_68 : decode cX3_splicedBase 68 = .ok (.fload_n 3, 1) := by decide +kernel
theorem dX3_splicedBase_69 : decode cX3_splicedBase 69 = .ok (.fcmp .l, 1) := by decide +kernel
theorem dX3_splicedBase_70 : decode cX3_splicedBase 70 = .ok (.ifCond .le 8, 3) := by decide +kernel
theorem dX3_splicedBase_73 : decode cX3_splicedBase 73 = .ok (.fload 7, 2) := by decide +kernel
theorem dX3_splicedBase_75 : decode cX3_splicedBase 75 = .ok (.goto 4, 3) := by decide +kernel
theorem dX3_splicedBase_78 : decode cX3_splicedBase 78 = .ok (.fload_n 3, 1) := by decide +kernel
theorem dX3_splicedBase_79 : decode cX3_splicedBase 79 = .ok (.fstore_n 3, 1) := by decide +kernel
theorem dX3_splicedBase_80 : decode cX3_splicedBase 80 = .ok (.iinc 4 1, 3) := by decide +kernel
theorem dX3_splicedBase_83 : decode cX3_splicedBase 83 = .ok (.goto (-78), 3) := by decide +kernel
theorem dX3_splicedBase_86 : decode cX3_splicedBase 86 = .ok (.fload_n 3, 1) := by decide +kernel
theorem dX3_splicedBase_87 : decode cX3_splicedBase 87 = .ok (.freturn, 1) := by decide +kernel
theorem dX3_splicedFrom_0 : decode cX3_splicedFrom 0 = .ok (.iload_n 1, 1) := by decide +kernel
theorem dX3_splicedFrom_1 : decode cX3_splicedFrom 1 = .ok (.ifCond .ne 7, 3) := by decide +kernel
theorem dX3_splicedFrom_4 : decode cX3_splicedFrom 4 = .ok (.iconst 0, 1) := by decide +kernel
theorem dX3_splicedFrom_5 : decode cX3_splicedFrom 5 = .ok (.goto 7, 3) := by decide +kernel
theorem dX3_splicedFrom_8 : decode cX3_splicedFrom 8 = .ok (.aload_n 0, 1) := by decide +kernel
theorem dX3_splicedFrom_9 : decode cX3_splicedFrom 9 = .ok (.getfield 134, 3) := by decide +kernel
theorem dX3_splicedFrom_12 : decode cX3_splicedFrom 12 = .ok (.ireturn, 1) := by decide +kernel
theorem dX3_worn_0 : decode cX3_worn 0 = .ok (.fload_n 2, 1) := by decide +kernel
theorem dX3_worn_1 : decode cX3_worn 1 = .ok (.fstore_n 3, 1) := by decide +kernel
theorem dX3_worn_2 : decode cX3_worn 2 = .ok (.iconst 0, 1) := by decide +kernel
theorem dX3_worn_3 : decode cX3_worn 3 = .ok (.istore 4, 2) := by decide +kernel
theorem dX3_worn_5 : decode cX3_worn 5 = .ok (.iload 4, 2) := by decide +kernel
theorem dX3_worn_7 : decode cX3_worn 7 = .ok (.aload_n 0, 1) := by decide +kernel
theorem dX3_worn_8 : decode cX3_worn 8 = .ok (.getfield 137, 3) := by decide +kernel
theorem dX3_worn_11 : decode cX3_worn 11 = .ok (.if_icmp .ge 62, 3) := by decide +kernel
theorem dX3_worn_14 : decode cX3_worn 14 = .ok (.iload 4, 2) := by decide +kernel
theorem dX3_worn_16 : decode cX3_worn 16 = .ok (.bipush 8, 2) := by decide +kernel
theorem dX3_worn_18 : decode cX3_worn 18 = .ok (.if_icmp .ge 55, 3) := by decide +kernel
theorem dX3_worn_21 : decode cX3_worn 21 = .ok (.aload_n 0, 1) := by decide +kernel
theorem dX3_worn_22 : decode cX3_worn 22 = .ok (.getfield 155, 3) := by decide +kernel
theorem dX3_worn_25 : decode cX3_worn 25 = .ok (.iload 4, 2) := by decide +kernel
theorem dX3_worn_27 : decode cX3_worn 27 = .ok (.iaload, 1) := by decide +kernel
theorem dX3_worn_28 : decode cX3_worn 28 = .ok (.ifCond .lt 39, 3) := by decide +kernel
theorem dX3_worn_31 : decode cX3_worn 31 = .ok (.aload_n 0, 1) := by decide +kernel
theorem dX3_worn_32 : decode cX3_worn 32 = .ok (.getfield 158, 3) := by decide +kernel
theorem dX3_worn_35 : decode cX3_worn 35 = .ok (.iload 4, 2) := by decide +kernel
theorem dX3_worn_37 : decode cX3_worn 37 = .ok (.iaload, 1) := by decide +kernel
theorem dX3_worn_38 : decode cX3_worn 38 = .ok (.iload_n 1, 1) := by decide +kernel
theorem dX3_worn_39 : decode cX3_worn 39 = .ok (.if_icmp .gt 28, 3) := by decide +kernel
theorem dX3_worn_42 : decode cX3_worn 42 = .ok (.iload_n 1, 1) := by decide +kernel
theorem dX3_worn_43 : decode cX3_worn 43 = .ok (.aload_n 0, 1) := by decide +kernel
theorem dX3_worn_44 : decode cX3_worn 44 = .ok (.getfield 161, 3) := by decide +kernel
theorem dX3_worn_47 : decode cX3_worn 47 = .ok (.iload 4, 2) := by decide +kernel
theorem dX3_worn_49 : decode cX3_worn 49 = .ok (.iaload, 1) := by decide +kernel
theorem dX3_worn_50 : decode cX3_worn 50 = .ok (.if_icmp .gt 17, 3) := by decide +kernel
theorem dX3_worn_53 : decode cX3_worn 53 = .ok (.fload_n 3, 1) := by decide +kernel
theorem dX3_worn_54 : decode cX3_worn 54 = .ok (.aload_n 0, 1) := by decide +kernel
theorem dX3_worn_55 : decode cX3_worn 55 = .ok (.getfield 155, 3) := by decide +kernel
theorem dX3_worn_58 : decode cX3_worn 58 = .ok (.iload 4, 2) := by decide +kernel
theorem dX3_worn_60 : decode cX3_worn 60 = .ok (.iaload, 1) := by decide +kernel
theorem dX3_worn_61 : decode cX3_worn 61 = .ok (.i2f, 1) := by decide +kernel
theorem dX3_worn_62 : decode cX3_worn 62 = .ok (.ldc 44, 2) := by decide +kernel
theorem dX3_worn_64 : decode cX3_worn 64 = .ok (.fmul, 1) := by decide +kernel
theorem dX3_worn_65 : decode cX3_worn 65 = .ok (.fmul, 1) := by decide +kernel
theorem dX3_worn_66 : decode cX3_worn 66 = .ok (.fstore_n 3, 1) := by decide +kernel
theorem dX3_worn_67 : decode cX3_worn 67 = .ok (.iinc 4 1, 3) := by decide +kernel
theorem dX3_worn_70 : decode cX3_worn 70 = .ok (.goto (-65), 3) := by decide +kernel
theorem dX3_worn_73 : decode cX3_worn 73 = .ok (.fload_n 3, 1) := by decide +kernel
theorem dX3_worn_74 : decode cX3_worn 74 = .ok (.freturn, 1) := by decide +kernel
theorem dX3_steadyTo_0 : decode cX3_steadyTo 0 = .ok (.aload_n 0, 1) := by decide +kernel
theorem dX3_steadyTo_1 : decode cX3_steadyTo 1 = .ok (.ifnull 9, 3) := by decide +kernel
theorem dX3_steadyTo_4 : decode cX3_steadyTo 4 = .ok (.iload_n 2, 1) := by decide +kernel
theorem dX3_steadyTo_5 : decode cX3_steadyTo 5 = .ok (.bipush 40, 2) := by decide +kernel
theorem dX3_steadyTo_7 : decode cX3_steadyTo 7 = .ok (.if_icmp .le 7, 3) := by decide +kernel
theorem dX3_steadyTo_10 : decode cX3_steadyTo 10 = .ok (.iload_n 1, 1) := by decide +kernel
theorem dX3_steadyTo_11 : decode cX3_steadyTo 11 = .ok (.iconst 1, 1) := by decide +kernel
theorem dX3_steadyTo_12 : decode cX3_steadyTo 12 = .ok (.iadd, 1) := by decide +kernel
theorem dX3_steadyTo_13 : decode cX3_steadyTo 13 = .ok (.ireturn, 1) := by decide +kernel
theorem dX3_steadyTo_14 : decode cX3_steadyTo 14 = .ok (.aload_n 0, 1) := by decide +kernel
theorem dX3_steadyTo_15 : decode cX3_steadyTo 15 = .ok (.getfield 113, 3) := by decide +kernel
theorem dX3_steadyTo_18 : decode cX3_steadyTo 18 = .ok (.istore_n 3, 1) := by decide +kernel
theorem dX3_steadyTo_19 : decode cX3_steadyTo 19 = .ok (.iconst 0, 1) := by decide +kernel
theorem dX3_steadyTo_20 : decode cX3_steadyTo 20 = .ok (.istore 4, 2) := by decide +kernel
theorem dX3_steadyTo_22 : decode cX3_steadyTo 22 = .ok (.iload 4, 2) := by decide +kernel
theorem dX3_steadyTo_24 : decode cX3_steadyTo 24 = .ok (.aload_n 0, 1) := by decide +kernel
theorem dX3_steadyTo_25 : decode cX3_steadyTo 25 = .ok (.getfield 125, 3) := by decide +kernel
theorem dX3_steadyTo_28 : decode cX3_steadyTo 28 = .ok (.arraylength, 1) := by decide +kernel
theorem dX3_steadyTo_29 : decode cX3_steadyTo 29 = .ok (.if_icmp .ge 45, 3) := by decide +kernel
theorem dX3_steadyTo_32 : decode cX3_steadyTo 32 = .ok (.aload_n 0, 1) := by decide +kernel
theorem dX3_steadyTo_33 : decode cX3_steadyTo 33 = .ok (.getfield 103, 3) := by decide +kernel
theorem dX3_steadyTo_36 : decode cX3_steadyTo 36 = .ok (.iconst 5, 1) := by decide +kernel
theorem dX3_steadyTo_37 : decode cX3_steadyTo 37 = .ok (.if_icmp .ne 14, 3) := by decide +kernel
theorem dX3_steadyTo_40 : decode cX3_steadyTo 40 = .ok (.aload_n 0, 1) := by decide +kernel
theorem dX3_steadyTo_41 : decode cX3_steadyTo 41 = .ok (.iload 4, 2) := by decide +kernel
theorem dX3_steadyTo_43 : decode cX3_steadyTo 43 = .ok (.iload_n 1, 1) := by decide +kernel
theorem dX3_steadyTo_44 : decode cX3_steadyTo 44 = .ok (.iload_n 2, 1) := by decide +kernel
theorem dX3_steadyTo_45 : decode cX3_steadyTo 45 = .ok (.invokestatic 202, 3) := by decide +kernel
theorem dX3_steadyTo_48 : decode cX3_steadyTo 48 = .ok (.goto 11, 3) := by decide +kernel
theorem dX3_steadyTo_51 : decode cX3_steadyTo 51 = .ok (.aload_n 0, 1) := by decide +kernel
theorem dX3_steadyTo_52 : decode cX3_steadyTo 52 = .ok (.iload 4, 2) := by decide +kernel
theorem dX3_steadyTo_54 : decode cX3_steadyTo 54 = .ok (.iload_n 1, 1) := by decide +kernel
theorem dX3_steadyTo_55 : decode cX3_steadyTo 55 = .ok (.iload_n 2, 1) := by decide +kernel
theorem dX3_steadyTo_56 : decode cX3_steadyTo 56 = .ok (.invokestatic 206, 3) := by decide +kernel
theorem dX3_steadyTo_59 : decode cX3_steadyTo 59 = .ok (.istore 5, 2) := by decide +kernel
theorem dX3_steadyTo_61 : decode cX3_steadyTo 61 = .ok (.iload_n 3, 1) := by decide +kernel
theorem dX3_steadyTo_62 : decode cX3_steadyTo 62 = .ok (.iload 5, 2) := by decide +kernel
theorem dX3_steadyTo_64 : decode cX3_steadyTo 64 = .ok (.invokestatic 116, 3) := by decide +kernel
theorem dX3_steadyTo_67 : decode cX3_steadyTo 67 = .ok (.istore_n 3, 1) := by decide +kernel
theorem dX3_steadyTo_68 : decode cX3_steadyTo 68 = .ok (.iinc 4 1, 3) := by decide +kernel
theorem dX3_steadyTo_71 : decode cX3_steadyTo 71 = .ok (.goto (-49), 3) := by decide +kernel
theorem dX3_steadyTo_74 : decode cX3_steadyTo 74 = .ok (.aload_n 0, 1) := by decide +kernel
theorem dX3_steadyTo_75 : decode cX3_steadyTo 75 = .ok (.iload_n 1, 1) := by decide +kernel
theorem dX3_steadyTo_76 : decode cX3_steadyTo 76 = .ok (.iload_n 3, 1) := by decide +kernel
theorem dX3_steadyTo_77 : decode cX3_steadyTo 77 = .ok (.invokestatic 209, 3) := by decide +kernel
theorem dX3_steadyTo_80 : decode cX3_steadyTo 80 = .ok (.ireturn, 1) := by decide +kernel
theorem dX3_laidSteadyTo_0 : decode cX3_laidSteadyTo 0 = .ok (.aload_n 0, 1) := by decide +kernel
theorem dX3_laidSteadyTo_1 : decode cX3_laidSteadyTo 1 = .ok (.getfield 125, 3) := by decide +kernel
theorem dX3_laidSteadyTo_4 : decode cX3_laidSteadyTo 4 = .ok (.iload_n 1, 1) := by decide +kernel
theorem dX3_laidSteadyTo_5 : decode cX3_laidSteadyTo 5 = .ok (.aaload, 1) := by decide +kernel
theorem dX3_laidSteadyTo_6 : decode cX3_laidSteadyTo 6 = .ok (.astore 4, 2) := by decide +kernel
theorem dX3_laidSteadyTo_8 : decode cX3_laidSteadyTo 8 = .ok (.aload 4, 2) := by decide +kernel
theorem dX3_laidSteadyTo_10 : decode cX3_laidSteadyTo 10 = .ok (.ifnull 12, 3) := by decide +kernel
theorem dX3_laidSteadyTo_13 : decode cX3_laidSteadyTo 13 = .ok (.aload 4, 2) := by decide +kernel
theorem dX3_laidSteadyTo_15 : decode cX3_laidSteadyTo 15 = .ok (.getfield 113, 3) := by decide +kernel
theorem dX3_laidSteadyTo_18 : decode cX3_laidSteadyTo 18 = .ok (.iconst 1, 1) := by decide +kernel
theorem dX3_laidSteadyTo_19 : decode cX3_laidSteadyTo 19 = .ok (.if_icmp .ge 7, 3) := by decide +kernel
theorem dX3_laidSteadyTo_22 : decode cX3_laidSteadyTo 22 = .ok (.iload_n 2, 1) := by decide +kernel
theorem dX3_laidSteadyTo_23 : decode cX3_laidSteadyTo 23 = .ok (.iconst 1, 1) := by decide +kernel
theorem dX3_laidSteadyTo_24 : decode cX3_laidSteadyTo 24 = .ok (.iadd, 1) := by decide +kernel
theorem dX3_laidSteadyTo_25 : decode cX3_laidSteadyTo 25 = .ok (.ireturn, 1) := by decide +kernel
theorem dX3_laidSteadyTo_26 : decode cX3_laidSteadyTo 26 = .ok (.aload 4, 2) := by decide +kernel
theorem dX3_laidSteadyTo_28 : decode cX3_laidSteadyTo 28 = .ok (.aload 4, 2) := by decide +kernel
theorem dX3_laidSteadyTo_30 : decode cX3_laidSteadyTo 30 = .ok (.aload_n 0, 1) := by decide +kernel
theorem dX3_laidSteadyTo_31 : decode cX3_laidSteadyTo 31 = .ok (.iload_n 2, 1) := by decide +kernel
theorem dX3_laidSteadyTo_32 : decode cX3_laidSteadyTo 32 = .ok (.invokestatic 188, 3) := by decide +kernel
theorem dX3_laidSteadyTo_35 : decode cX3_laidSteadyTo 35 = .ok (.iload_n 3, 1) := by decide +kernel
theorem dX3_laidSteadyTo_36 : decode cX3_laidSteadyTo 36 = .ok (.iconst 1, 1) := by decide +kernel
theorem dX3_laidSteadyTo_37 : decode cX3_laidSteadyTo 37 = .ok (.iadd, 1) := by decide +kernel
theorem dX3_laidSteadyTo_38 : decode cX3_laidSteadyTo 38 = .ok (.invokestatic 213, 3) := by decide +kernel
theorem dX3_laidSteadyTo_41 : decode cX3_laidSteadyTo 41 = .ok (.istore 5, 2) := by decide +kernel
theorem dX3_laidSteadyTo_43 : decode cX3_laidSteadyTo 43 = .ok (.iload 5, 2) := by decide +kernel
theorem dX3_laidSteadyTo_45 : decode cX3_laidSteadyTo 45 = .ok (.aload_n 0, 1) := by decide +kernel
theorem dX3_laidSteadyTo_46 : decode cX3_laidSteadyTo 46 = .ok (.getfield 113, 3) := by decide +kernel
theorem dX3_laidSteadyTo_49 : decode cX3_laidSteadyTo 49 = .ok (.imul, 1) := by decide +kernel
theorem dX3_laidSteadyTo_50 : decode cX3_laidSteadyTo 50 = .ok (.aload 4, 2) := by decide +kernel
theorem dX3_laidSteadyTo_52 : decode cX3_laidSteadyTo 52 = .ok (.getfield 113, 3) := by decide +kernel
theorem dX3_laidSteadyTo_55 : decode cX3_laidSteadyTo 55 = .ok (.iadd, 1) := by decide +kernel
theorem dX3_laidSteadyTo_56 : decode cX3_laidSteadyTo 56 = .ok (.iconst 1, 1) := by decide +kernel
theorem dX3_laidSteadyTo_57 : decode cX3_laidSteadyTo 57 = .ok (.isub, 1) := by decide +kernel
theorem dX3_laidSteadyTo_58 : decode cX3_laidSteadyTo 58 = .ok (.aload 4, 2) := by decide +kernel
theorem dX3_laidSteadyTo_60 : decode cX3_laidSteadyTo 60 = .ok (.getfield 113, 3) := by decide +kernel
theorem dX3_laidSteadyTo_63 : decode cX3_laidSteadyTo 63 = .ok (.idiv, 1) := by decide +kernel
theorem dX3_laidSteadyTo_64 : decode cX3_laidSteadyTo 64 = .ok (.ireturn, 1) := by decide +kernel
theorem dX3_splicedSteadyTo_0 : decode cX3_splicedSteadyTo 0 = .ok (.aload_n 0, 1) := by decide +kernel
theorem dX3_splicedSteadyTo_1 : decode cX3_splicedSteadyTo 1 = .ok (.getfield 125, 3) := by decide +kernel
theorem dX3_splicedSteadyTo_4 : decode cX3_splicedSteadyTo 4 = .ok (.iload_n 1, 1) := by decide +kernel
theorem dX3_splicedSteadyTo_5 : decode cX3_splicedSteadyTo 5 = .ok (.aaload, 1) := by decide +kernel
theorem dX3_splicedSteadyTo_6 : decode cX3_splicedSteadyTo 6 = .ok (.astore 4, 2) := by decide +kernel
theorem dX3_splicedSteadyTo_8 : decode cX3_splicedSteadyTo 8 = .ok (.aload 4, 2) := by decide +kernel
theorem dX3_splicedSteadyTo_10 : decode cX3_splicedSteadyTo 10 = .ok (.ifnonnull 7, 3) := by decide +kernel
theorem dX3_splicedSteadyTo_13 : decode cX3_splicedSteadyTo 13 = .ok (.iload_n 2, 1) := by decide +kernel
theorem dX3_splicedSteadyTo_14 : decode cX3_splicedSteadyTo 14 = .ok (.iconst 1, 1) := by decide +kernel
theorem dX3_splicedSteadyTo_15 : decode cX3_splicedSteadyTo 15 = .ok (.iadd, 1) := by decide +kernel
theorem dX3_splicedSteadyTo_16 : decode cX3_splicedSteadyTo 16 = .ok (.ireturn, 1) := by decide +kernel
theorem dX3_splicedSteadyTo_17 : decode cX3_splicedSteadyTo 17 = .ok (.aload_n 0, 1) := by decide +kernel
theorem dX3_splicedSteadyTo_18 : decode cX3_splicedSteadyTo 18 = .ok (.iload_n 1, 1) := by decide +kernel
theorem dX3_splicedSteadyTo_19 : decode cX3_splicedSteadyTo 19 = .ok (.invokestatic 198, 3) := by decide +kernel
theorem dX3_splicedSteadyTo_22 : decode cX3_splicedSteadyTo 22 = .ok (.istore 5, 2) := by decide +kernel
theorem dX3_splicedSteadyTo_24 : decode cX3_splicedSteadyTo 24 = .ok (.iload_n 2, 1) := by decide +kernel
theorem dX3_splicedSteadyTo_25 : decode cX3_splicedSteadyTo 25 = .ok (.iload 5, 2) := by decide +kernel
theorem dX3_splicedSteadyTo_27 : decode cX3_splicedSteadyTo 27 = .ok (.if_icmp .ge 6, 3) := by decide +kernel
theorem dX3_splicedSteadyTo_30 : decode cX3_splicedSteadyTo 30 = .ok (.iload 5, 2) := by decide +kernel
theorem dX3_splicedSteadyTo_32 : decode cX3_splicedSteadyTo 32 = .ok (.ireturn, 1) := by decide +kernel
theorem dX3_splicedSteadyTo_33 : decode cX3_splicedSteadyTo 33 = .ok (.iload_n 2, 1) := by decide +kernel
theorem dX3_splicedSteadyTo_34 : decode cX3_splicedSteadyTo 34 = .ok (.iload 5, 2) := by decide +kernel
theorem dX3_splicedSteadyTo_36 : decode cX3_splicedSteadyTo 36 = .ok (.isub, 1) := by decide +kernel
theorem dX3_splicedSteadyTo_37 : decode cX3_splicedSteadyTo 37 = .ok (.aload 4, 2) := by decide +kernel
theorem dX3_splicedSteadyTo_39 : decode cX3_splicedSteadyTo 39 = .ok (.getfield 113, 3) := by decide +kernel
theorem dX3_splicedSteadyTo_42 : decode cX3_splicedSteadyTo 42 = .ok (.if_icmp .lt 8, 3) := by decide +kernel
theorem dX3_splicedSteadyTo_45 : decode cX3_splicedSteadyTo 45 = .ok (.aload_n 0, 1) := by decide +kernel
end
section
theorem dX3_splicedSteadyTo_46 : decode cX3_splicedSteadyTo 46 = .ok (.getfield 113, 3) := by decide +kernel
theorem dX3_splicedSteadyTo_49 : decode cX3_splicedSteadyTo 49 = .ok (.ireturn, 1) := by decide +kernel
theorem dX3_splicedSteadyTo_50 : decode cX3_splicedSteadyTo 50 = .ok (.iload 5, 2) := by decide +kernel
theorem dX3_splicedSteadyTo_52 : decode cX3_splicedSteadyTo 52 = .ok (.aload 4, 2) := by decide +kernel
theorem dX3_splicedSteadyTo_54 : decode cX3_splicedSteadyTo 54 = .ok (.iload_n 2, 1) := by decide +kernel
theorem dX3_splicedSteadyTo_55 : decode cX3_splicedSteadyTo 55 = .ok (.iload 5, 2) := by decide +kernel
theorem dX3_splicedSteadyTo_57 : decode cX3_splicedSteadyTo 57 = .ok (.isub, 1) := by decide +kernel
theorem dX3_splicedSteadyTo_58 : decode cX3_splicedSteadyTo 58 = .ok (.iload_n 3, 1) := by decide +kernel
theorem dX3_splicedSteadyTo_59 : decode cX3_splicedSteadyTo 59 = .ok (.iconst 1, 1) := by decide +kernel
theorem dX3_splicedSteadyTo_60 : decode cX3_splicedSteadyTo 60 = .ok (.iadd, 1) := by decide +kernel
theorem dX3_splicedSteadyTo_61 : decode cX3_splicedSteadyTo 61 = .ok (.invokestatic 213, 3) := by decide +kernel
theorem dX3_splicedSteadyTo_64 : decode cX3_splicedSteadyTo 64 = .ok (.iadd, 1) := by decide +kernel
theorem dX3_splicedSteadyTo_65 : decode cX3_splicedSteadyTo 65 = .ok (.ireturn, 1) := by decide +kernel
theorem dX3_rowSteadyTo_0 : decode cX3_rowSteadyTo 0 = .ok (.iload_n 2, 1) := by decide +kernel
theorem dX3_rowSteadyTo_1 : decode cX3_rowSteadyTo 1 = .ok (.istore_n 3, 1) := by decide +kernel
theorem dX3_rowSteadyTo_2 : decode cX3_rowSteadyTo 2 = .ok (.iconst 0, 1) := by decide +kernel
theorem dX3_rowSteadyTo_3 : decode cX3_rowSteadyTo 3 = .ok (.istore 4, 2) := by decide +kernel
theorem dX3_rowSteadyTo_5 : decode cX3_rowSteadyTo 5 = .ok (.iload 4, 2) := by decide +kernel
theorem dX3_rowSteadyTo_7 : decode cX3_rowSteadyTo 7 = .ok (.aload_n 0, 1) := by decide +kernel
theorem dX3_rowSteadyTo_8 : decode cX3_rowSteadyTo 8 = .ok (.getfield 137, 3) := by decide +kernel
theorem dX3_rowSteadyTo_11 : decode cX3_rowSteadyTo 11 = .ok (.if_icmp .ge 94, 3) := by decide +kernel
theorem dX3_rowSteadyTo_14 : decode cX3_rowSteadyTo 14 = .ok (.iload 4, 2) := by decide +kernel
theorem dX3_rowSteadyTo_16 : decode cX3_rowSteadyTo 16 = .ok (.bipush 8, 2) := by decide +kernel
theorem dX3_rowSteadyTo_18 : decode cX3_rowSteadyTo 18 = .ok (.if_icmp .ge 87, 3) := by decide +kernel
theorem dX3_rowSteadyTo_21 : decode cX3_rowSteadyTo 21 = .ok (.aload_n 0, 1) := by decide +kernel
theorem dX3_rowSteadyTo_22 : decode cX3_rowSteadyTo 22 = .ok (.getfield 155, 3) := by decide +kernel
theorem dX3_rowSteadyTo_25 : decode cX3_rowSteadyTo 25 = .ok (.iload 4, 2) := by decide +kernel
theorem dX3_rowSteadyTo_27 : decode cX3_rowSteadyTo 27 = .ok (.iaload, 1) := by decide +kernel
theorem dX3_rowSteadyTo_28 : decode cX3_rowSteadyTo 28 = .ok (.ifCond .lt 71, 3) := by decide +kernel
theorem dX3_rowSteadyTo_31 : decode cX3_rowSteadyTo 31 = .ok (.aload_n 0, 1) := by decide +kernel
theorem dX3_rowSteadyTo_32 : decode cX3_rowSteadyTo 32 = .ok (.getfield 158, 3) := by decide +kernel
theorem dX3_rowSteadyTo_35 : decode cX3_rowSteadyTo 35 = .ok (.iload 4, 2) := by decide +kernel
theorem dX3_rowSteadyTo_37 : decode cX3_rowSteadyTo 37 = .ok (.iaload, 1) := by decide +kernel
theorem dX3_rowSteadyTo_38 : decode cX3_rowSteadyTo 38 = .ok (.aload_n 0, 1) := by decide +kernel
theorem dX3_rowSteadyTo_39 : decode cX3_rowSteadyTo 39 = .ok (.getfield 161, 3) := by decide +kernel
theorem dX3_rowSteadyTo_42 : decode cX3_rowSteadyTo 42 = .ok (.iload 4, 2) := by decide +kernel
theorem dX3_rowSteadyTo_44 : decode cX3_rowSteadyTo 44 = .ok (.iaload, 1) := by decide +kernel
theorem dX3_rowSteadyTo_45 : decode cX3_rowSteadyTo 45 = .ok (.if_icmp .gt 54, 3) := by decide +kernel
theorem dX3_rowSteadyTo_48 : decode cX3_rowSteadyTo 48 = .ok (.iload_n 1, 1) := by decide +kernel
theorem dX3_rowSteadyTo_49 : decode cX3_rowSteadyTo 49 = .ok (.aload_n 0, 1) := by decide +kernel
theorem dX3_rowSteadyTo_50 : decode cX3_rowSteadyTo 50 = .ok (.getfield 158, 3) := by decide +kernel
theorem dX3_rowSteadyTo_53 : decode cX3_rowSteadyTo 53 = .ok (.iload 4, 2) := by decide +kernel
theorem dX3_rowSteadyTo_55 : decode cX3_rowSteadyTo 55 = .ok (.iaload, 1) := by decide +kernel
theorem dX3_rowSteadyTo_56 : decode cX3_rowSteadyTo 56 = .ok (.if_icmp .ge 18, 3) := by decide +kernel
theorem dX3_rowSteadyTo_59 : decode cX3_rowSteadyTo 59 = .ok (.iload_n 3, 1) := by decide +kernel
theorem dX3_rowSteadyTo_60 : decode cX3_rowSteadyTo 60 = .ok (.aload_n 0, 1) := by decide +kernel
theorem dX3_rowSteadyTo_61 : decode cX3_rowSteadyTo 61 = .ok (.getfield 158, 3) := by decide +kernel
theorem dX3_rowSteadyTo_64 : decode cX3_rowSteadyTo 64 = .ok (.iload 4, 2) := by decide +kernel
theorem dX3_rowSteadyTo_66 : decode cX3_rowSteadyTo 66 = .ok (.iaload, 1) := by decide +kernel
theorem dX3_rowSteadyTo_67 : decode cX3_rowSteadyTo 67 = .ok (.invokestatic 116, 3) := by decide +kernel
theorem dX3_rowSteadyTo_70 : decode cX3_rowSteadyTo 70 = .ok (.istore_n 3, 1) := by decide +kernel
theorem dX3_rowSteadyTo_71 : decode cX3_rowSteadyTo 71 = .ok (.goto 28, 3) := by decide +kernel
theorem dX3_rowSteadyTo_74 : decode cX3_rowSteadyTo 74 = .ok (.iload_n 1, 1) := by decide +kernel
theorem dX3_rowSteadyTo_75 : decode cX3_rowSteadyTo 75 = .ok (.aload_n 0, 1) := by decide +kernel
theorem dX3_rowSteadyTo_76 : decode cX3_rowSteadyTo 76 = .ok (.getfield 161, 3) := by decide +kernel
theorem dX3_rowSteadyTo_79 : decode cX3_rowSteadyTo 79 = .ok (.iload 4, 2) := by decide +kernel
theorem dX3_rowSteadyTo_81 : decode cX3_rowSteadyTo 81 = .ok (.iaload, 1) := by decide +kernel
theorem dX3_rowSteadyTo_82 : decode cX3_rowSteadyTo 82 = .ok (.if_icmp .gt 17, 3) := by decide +kernel
theorem dX3_rowSteadyTo_85 : decode cX3_rowSteadyTo 85 = .ok (.iload_n 3, 1) := by decide +kernel
theorem dX3_rowSteadyTo_86 : decode cX3_rowSteadyTo 86 = .ok (.aload_n 0, 1) := by decide +kernel
theorem dX3_rowSteadyTo_87 : decode cX3_rowSteadyTo 87 = .ok (.getfield 161, 3) := by decide +kernel
theorem dX3_rowSteadyTo_90 : decode cX3_rowSteadyTo 90 = .ok (.iload 4, 2) := by decide +kernel
theorem dX3_rowSteadyTo_92 : decode cX3_rowSteadyTo 92 = .ok (.iaload, 1) := by decide +kernel
theorem dX3_rowSteadyTo_93 : decode cX3_rowSteadyTo 93 = .ok (.iconst 1, 1) := by decide +kernel
theorem dX3_rowSteadyTo_94 : decode cX3_rowSteadyTo 94 = .ok (.iadd, 1) := by decide +kernel
theorem dX3_rowSteadyTo_95 : decode cX3_rowSteadyTo 95 = .ok (.invokestatic 116, 3) := by decide +kernel
theorem dX3_rowSteadyTo_98 : decode cX3_rowSteadyTo 98 = .ok (.istore_n 3, 1) := by decide +kernel
theorem dX3_rowSteadyTo_99 : decode cX3_rowSteadyTo 99 = .ok (.iinc 4 1, 3) := by decide +kernel
theorem dX3_rowSteadyTo_102 : decode cX3_rowSteadyTo 102 = .ok (.goto (-97), 3) := by decide +kernel
theorem dX3_rowSteadyTo_105 : decode cX3_rowSteadyTo 105 = .ok (.iload_n 3, 1) := by decide +kernel
theorem dX3_rowSteadyTo_106 : decode cX3_rowSteadyTo 106 = .ok (.ireturn, 1) := by decide +kernel
theorem dX3_weakestPlace_0 : decode cX3_weakestPlace 0 = .ok (.iconst 0, 1) := by decide +kernel
theorem dX3_weakestPlace_1 : decode cX3_weakestPlace 1 = .ok (.istore_n 1, 1) := by decide +kernel
theorem dX3_weakestPlace_2 : decode cX3_weakestPlace 2 = .ok (.aload_n 0, 1) := by decide +kernel
theorem dX3_weakestPlace_3 : decode cX3_weakestPlace 3 = .ok (.iconst 0, 1) := by decide +kernel
theorem dX3_weakestPlace_4 : decode cX3_weakestPlace 4 = .ok (.iconst 0, 1) := by decide +kernel
theorem dX3_weakestPlace_5 : decode cX3_weakestPlace 5 = .ok (.invokestatic 192, 3) := by decide +kernel
theorem dX3_weakestPlace_8 : decode cX3_weakestPlace 8 = .ok (.fstore_n 2, 1) := by decide +kernel
theorem dX3_weakestPlace_9 : decode cX3_weakestPlace 9 = .ok (.iconst 0, 1) := by decide +kernel
theorem dX3_weakestPlace_10 : decode cX3_weakestPlace 10 = .ok (.istore_n 3, 1) := by decide +kernel
theorem dX3_weakestPlace_11 : decode cX3_weakestPlace 11 = .ok (.iload_n 3, 1) := by decide +kernel
theorem dX3_weakestPlace_12 : decode cX3_weakestPlace 12 = .ok (.aload_n 0, 1) := by decide +kernel
theorem dX3_weakestPlace_13 : decode cX3_weakestPlace 13 = .ok (.getfield 113, 3) := by decide +kernel
theorem dX3_weakestPlace_16 : decode cX3_weakestPlace 16 = .ok (.if_icmp .ge 39, 3) := by decide +kernel
theorem dX3_weakestPlace_19 : decode cX3_weakestPlace 19 = .ok (.aload_n 0, 1) := by decide +kernel
theorem dX3_weakestPlace_20 : decode cX3_weakestPlace 20 = .ok (.iload_n 3, 1) := by decide +kernel
theorem dX3_weakestPlace_21 : decode cX3_weakestPlace 21 = .ok (.iconst 0, 1) := by decide +kernel
theorem dX3_weakestPlace_22 : decode cX3_weakestPlace 22 = .ok (.invokestatic 192, 3) := by decide +kernel
theorem dX3_weakestPlace_25 : decode cX3_weakestPlace 25 = .ok (.fstore 4, 2) := by decide +kernel
theorem dX3_weakestPlace_27 : decode cX3_weakestPlace 27 = .ok (.fload 4, 2) := by decide +kernel
theorem dX3_weakestPlace_29 : decode cX3_weakestPlace 29 = .ok (.fload_n 2, 1) := by decide +kernel
theorem dX3_weakestPlace_30 : decode cX3_weakestPlace 30 = .ok (.fcmp .g, 1) := by decide +kernel
theorem dX3_weakestPlace_31 : decode cX3_weakestPlace 31 = .ok (.ifCond .ge 8, 3) := by decide +kernel
theorem dX3_weakestPlace_34 : decode cX3_weakestPlace 34 = .ok (.fload 4, 2) := by decide +kernel
theorem dX3_weakestPlace_36 : decode cX3_weakestPlace 36 = .ok (.fstore_n 2, 1) := by decide +kernel
theorem dX3_weakestPlace_37 : decode cX3_weakestPlace 37 = .ok (.iload_n 3, 1) := by decide +kernel
theorem dX3_weakestPlace_38 : decode cX3_weakestPlace 38 = .ok (.istore_n 1, 1) := by decide +kernel
theorem dX3_weakestPlace_39 : decode cX3_weakestPlace 39 = .ok (.iload_n 3, 1) := by decide +kernel
theorem dX3_weakestPlace_40 : decode cX3_weakestPlace 40 = .ok (.iconst 1, 1) := by decide +kernel
theorem dX3_weakestPlace_41 : decode cX3_weakestPlace 41 = .ok (.iadd, 1) := by decide +kernel
theorem dX3_weakestPlace_42 : decode cX3_weakestPlace 42 = .ok (.aload_n 0, 1) := by decide +kernel
theorem dX3_weakestPlace_43 : decode cX3_weakestPlace 43 = .ok (.iload_n 3, 1) := by decide +kernel
theorem dX3_weakestPlace_44 : decode cX3_weakestPlace 44 = .ok (.iconst 0, 1) := by decide +kernel
theorem dX3_weakestPlace_45 : decode cX3_weakestPlace 45 = .ok (.invokestatic 213, 3) := by decide +kernel
theorem dX3_weakestPlace_48 : decode cX3_weakestPlace 48 = .ok (.invokestatic 122, 3) := by decide +kernel
theorem dX3_weakestPlace_51 : decode cX3_weakestPlace 51 = .ok (.istore_n 3, 1) := by decide +kernel
theorem dX3_weakestPlace_52 : decode cX3_weakestPlace 52 = .ok (.goto (-41), 3) := by decide +kernel
theorem dX3_weakestPlace_55 : decode cX3_weakestPlace 55 = .ok (.iload_n 1, 1) := by decide +kernel
theorem dX3_weakestPlace_56 : decode cX3_weakestPlace 56 = .ok (.ireturn, 1) := by decide +kernel
theorem dX3_leastBorne_0 : decode cX3_leastBorne 0 = .ok (.aload_n 0, 1) := by decide +kernel
theorem dX3_leastBorne_1 : decode cX3_leastBorne 1 = .ok (.aload_n 0, 1) := by decide +kernel
theorem dX3_leastBorne_2 : decode cX3_leastBorne 2 = .ok (.invokestatic 216, 3) := by decide +kernel
theorem dX3_leastBorne_5 : decode cX3_leastBorne 5 = .ok (.iconst 0, 1) := by decide +kernel
theorem dX3_leastBorne_6 : decode cX3_leastBorne 6 = .ok (.invokestatic 192, 3) := by decide +kernel
theorem dX3_leastBorne_9 : decode cX3_leastBorne 9 = .ok (.freturn, 1) := by decide +kernel
theorem dX3_bears_0 : decode cX3_bears 0 = .ok (.aload_n 0, 1) := by decide +kernel
theorem dX3_bears_1 : decode cX3_bears 1 = .ok (.iload_n 1, 1) := by decide +kernel
theorem dX3_bears_2 : decode cX3_bears 2 = .ok (.invokevirtual 152, 3) := by decide +kernel
theorem dX3_bears_5 : decode cX3_bears 5 = .ok (.astore_n 3, 1) := by decide +kernel
theorem dX3_bears_6 : decode cX3_bears 6 = .ok (.aload_n 3, 1) := by decide +kernel
theorem dX3_bears_7 : decode cX3_bears 7 = .ok (.ifnull 15, 3) := by decide +kernel
theorem dX3_bears_10 : decode cX3_bears 10 = .ok (.iload_n 2, 1) := by decide +kernel
theorem dX3_bears_11 : decode cX3_bears 11 = .ok (.ifCond .lt 11, 3) := by decide +kernel
theorem dX3_bears_14 : decode cX3_bears 14 = .ok (.iload_n 2, 1) := by decide +kernel
theorem dX3_bears_15 : decode cX3_bears 15 = .ok (.aload_n 3, 1) := by decide +kernel
theorem dX3_bears_16 : decode cX3_bears 16 = .ok (.getfield 113, 3) := by decide +kernel
theorem dX3_bears_19 : decode cX3_bears 19 = .ok (.if_icmp .lt 7, 3) := by decide +kernel
theorem dX3_bears_22 : decode cX3_bears 22 = .ok (.ldc2_w 219, 3) := by decide +kernel
theorem dX3_bears_25 : decode cX3_bears 25 = .ok (.dreturn, 1) := by decide +kernel
theorem dX3_bears_26 : decode cX3_bears 26 = .ok (.aload_n 3, 1) := by decide +kernel
theorem dX3_bears_27 : decode cX3_bears 27 = .ok (.iload_n 2, 1) := by decide +kernel
theorem dX3_bears_28 : decode cX3_bears 28 = .ok (.iconst 0, 1) := by decide +kernel
theorem dX3_bears_29 : decode cX3_bears 29 = .ok (.invokestatic 192, 3) := by decide +kernel
theorem dX3_bears_32 : decode cX3_bears 32 = .ok (.f2d, 1) := by decide +kernel
theorem dX3_bears_33 : decode cX3_bears 33 = .ok (.dreturn, 1) := by decide +kernel
theorem dX3_least_0 : decode cX3_least 0 = .ok (.aload_n 0, 1) := by decide +kernel
theorem dX3_least_1 : decode cX3_least 1 = .ok (.iload_n 1, 1) := by decide +kernel
theorem dX3_least_2 : decode cX3_least 2 = .ok (.invokevirtual 152, 3) := by decide +kernel
theorem dX3_least_5 : decode cX3_least 5 = .ok (.astore_n 2, 1) := by decide +kernel
theorem dX3_least_6 : decode cX3_least 6 = .ok (.aload_n 2, 1) := by decide +kernel
theorem dX3_least_7 : decode cX3_least 7 = .ok (.ifnonnull 9, 3) := by decide +kernel
theorem dX3_least_10 : decode cX3_least 10 = .ok (.ldc2_w 219, 3) := by decide +kernel
theorem dX3_least_13 : decode cX3_least 13 = .ok (.goto 8, 3) := by decide +kernel
theorem dX3_least_16 : decode cX3_least 16 = .ok (.aload_n 2, 1) := by decide +kernel
theorem dX3_least_17 : decode cX3_least 17 = .ok (.invokestatic 221, 3) := by decide +kernel
theorem dX3_least_20 : decode cX3_least 20 = .ok (.f2d, 1) := by decide +kernel
theorem dX3_least_21 : decode cX3_least 21 = .ok (.dreturn, 1) := by decide +kernel
theorem dX3_where_0 : decode cX3_where 0 = .ok (.aload_n 0, 1) := by decide +kernel
theorem dX3_where_1 : decode cX3_where 1 = .ok (.iload_n 1, 1) := by decide +kernel
theorem dX3_where_2 : decode cX3_where 2 = .ok (.invokevirtual 152, 3) := by decide +kernel
theorem dX3_where_5 : decode cX3_where 5 = .ok (.astore_n 2, 1) := by decide +kernel
theorem dX3_where_6 : decode cX3_where 6 = .ok (.aload_n 2, 1) := by decide +kernel
theorem dX3_where_7 : decode cX3_where 7 = .ok (.ifnonnull 8, 3) := by decide +kernel
theorem dX3_where_10 : decode cX3_where 10 = .ok (.bipush (-2), 2) := by decide +kernel
theorem dX3_where_12 : decode cX3_where 12 = .ok (.goto 7, 3) := by decide +kernel
theorem dX3_where_15 : decode cX3_where 15 = .ok (.aload_n 2, 1) := by decide +kernel
theorem dX3_where_16 : decode cX3_where 16 = .ok (.invokestatic 216, 3) := by decide +kernel
theorem dX3_where_19 : decode cX3_where 19 = .ok (.ireturn, 1) := by decide +kernel
theorem dX3_grams_0 : decode cX3_grams 0 = .ok (.aload_n 0, 1) := by decide +kernel
theorem dX3_grams_1 : decode cX3_grams 1 = .ok (.iload_n 1, 1) := by decide +kernel
theorem dX3_grams_2 : decode cX3_grams 2 = .ok (.invokevirtual 152, 3) := by decide +kernel
theorem dX3_grams_5 : decode cX3_grams 5 = .ok (.astore_n 2, 1) := by decide +kernel
theorem dX3_grams_6 : decode cX3_grams 6 = .ok (.aload_n 2, 1) := by decide +kernel
theorem dX3_grams_7 : decode cX3_grams 7 = .ok (.ifnonnull 9, 3) := by decide +kernel
theorem dX3_grams_10 : decode cX3_grams 10 = .ok (.ldc2_w 225, 3) := by decide +kernel
theorem dX3_grams_13 : decode cX3_grams 13 = .ok (.goto 11, 3) := by decide +kernel
theorem dX3_grams_16 : decode cX3_grams 16 = .ok (.aload_n 2, 1) := by decide +kernel
theorem dX3_grams_17 : decode cX3_grams 17 = .ok (.invokestatic 221, 3) := by decide +kernel
theorem dX3_grams_20 : decode cX3_grams 20 = .ok (.ldc 227, 2) := by decide +kernel
theorem dX3_grams_22 : decode cX3_grams 22 = .ok (.fmul, 1) := by decide +kernel
theorem dX3_grams_23 : decode cX3_grams 23 = .ok (.f2l, 1) := by decide +kernel
theorem dX3_grams_24 : decode cX3_grams 24 = .ok (.lreturn, 1) := by decide +kernel
theorem dX3_rest_0 : decode cX3_rest 0 = .ok (.aload_n 0, 1) := by decide +kernel
theorem dX3_rest_1 : decode cX3_rest 1 = .ok (.iload_n 1, 1) := by decide +kernel
theorem dX3_rest_2 : decode cX3_rest 2 = .ok (.invokevirtual 152, 3) := by decide +kernel
theorem dX3_rest_5 : decode cX3_rest 5 = .ok (.astore_n 3, 1) := by decide +kernel
theorem dX3_rest_6 : decode cX3_rest 6 = .ok (.aload_n 3, 1) := by decide +kernel
theorem dX3_rest_7 : decode cX3_rest 7 = .ok (.ifnull 14, 3) := by decide +kernel
theorem dX3_rest_10 : decode cX3_rest 10 = .ok (.iload_n 2, 1) := by decide +kernel
theorem dX3_rest_11 : decode cX3_rest 11 = .ok (.iconst 1, 1) := by decide +kernel
theorem dX3_rest_12 : decode cX3_rest 12 = .ok (.if_icmp .lt 9, 3) := by decide +kernel
theorem dX3_rest_15 : decode cX3_rest 15 = .ok (.iload_n 2, 1) := by decide +kernel
theorem dX3_rest_16 : decode cX3_rest 16 = .ok (.ldc 39, 2) := by decide +kernel
theorem dX3_rest_18 : decode cX3_rest 18 = .ok (.if_icmp .le 7, 3) := by decide +kernel
theorem dX3_rest_21 : decode cX3_rest 21 = .ok (.ldc2_w 219, 3) := by decide +kernel
theorem dX3_rest_24 : decode cX3_rest 24 = .ok (.dreturn, 1) := by decide +kernel
theorem dX3_rest_25 : decode cX3_rest 25 = .ok (.aload_n 3, 1) := by decide +kernel
theorem dX3_rest_26 : decode cX3_rest 26 = .ok (.invokestatic 221, 3) := by decide +kernel
theorem dX3_rest_29 : decode cX3_rest 29 = .ok (.f2d, 1) := by decide +kernel
theorem dX3_rest_30 : decode cX3_rest 30 = .ok (.iload_n 2, 1) := by decide +kernel
theorem dX3_rest_31 : decode cX3_rest 31 = .ok (.i2f, 1) := by decide +kernel
theorem dX3_rest_32 : decode cX3_rest 32 = .ok (.ldc 44, 2) := by decide +kernel
theorem dX3_rest_34 : decode cX3_rest 34 = .ok (.fmul, 1) := by decide +kernel
theorem dX3_rest_35 : decode cX3_rest 35 = .ok (.f2d, 1) := by decide +kernel
theorem dX3_rest_36 : decode cX3_rest 36 = .ok (.invokestatic 228, 3) := by decide +kernel
theorem dX3_rest_39 : decode cX3_rest 39 = .ok (.dreturn, 1) := by decide +kernel
theorem dX3_left_0 : decode cX3_left 0 = .ok (.aload_n 0, 1) := by decide +kernel
theorem dX3_left_1 : decode cX3_left 1 = .ok (.iload_n 1, 1) := by decide +kernel
theorem dX3_left_2 : decode cX3_left 2 = .ok (.invokevirtual 152, 3) := by decide +kernel
theorem dX3_left_5 : decode cX3_left 5 = .ok (.astore_n 3, 1) := by decide +kernel
theorem dX3_left_6 : decode cX3_left 6 = .ok (.aload_n 3, 1) := by decide +kernel
theorem dX3_left_7 : decode cX3_left 7 = .ok (.ifnull 14, 3) := by decide +kernel
theorem dX3_left_10 : decode cX3_left 10 = .ok (.iload_n 2, 1) := by decide +kernel
theorem dX3_left_11 : decode cX3_left 11 = .ok (.iconst 1, 1) := by decide +kernel
theorem dX3_left_12 : decode cX3_left 12 = .ok (.if_icmp .lt 9, 3) := by decide +kernel
theorem dX3_left_15 : decode cX3_left 15 = .ok (.iload_n 2, 1) := by decide +kernel
theorem dX3_left_16 : decode cX3_left 16 = .ok (.ldc 232, 2) := by decide +kernel
theorem dX3_left_18 : decode cX3_left 18 = .ok (.if_icmp .le 7, 3) := by decide +kernel
theorem dX3_left_21 : decode cX3_left 21 = .ok (.ldc2_w 219, 3) := by decide +kernel
theorem dX3_left_24 : decode cX3_left 24 = .ok (.dreturn, 1) := by decide +kernel
theorem dX3_left_25 : decode cX3_left 25 = .ok (.aload_n 3, 1) := by decide +kernel
theorem dX3_left_26 : decode cX3_left 26 = .ok (.invokestatic 221, 3) := by decide +kernel
theorem dX3_left_29 : decode cX3_left 29 = .ok (.f2d, 1) := by decide +kernel
theorem dX3_left_30 : decode cX3_left 30 = .ok (.iload_n 2, 1) := by decide +kernel
theorem dX3_left_31 : decode cX3_left 31 = .ok (.i2d, 1) := by decide +kernel
theorem dX3_left_32 : decode cX3_left 32 = .ok (.ldc2_w 233, 3) := by decide +kernel
theorem dX3_left_35 : decode cX3_left 35 = .ok (.dmul, 1) := by decide +kernel
theorem dX3_left_36 : decode cX3_left 36 = .ok (.invokestatic 228, 3) := by decide +kernel
theorem dX3_left_39 : decode cX3_left 39 = .ok (.dreturn, 1) := by decide +kernel
theorem dX3_remainder_0 : decode cX3_remainder 0 = .ok (.dload_n 2, 1) := by decide +kernel
theorem dX3_remainder_1 : decode cX3_remainder 1 = .ok (.dconst 0, 1) := by decide +kernel
theorem dX3_remainder_2 : decode cX3_remainder 2 = .ok (.dcmp .l, 1) := by decide +kernel
theorem dX3_remainder_3 : decode cX3_remainder 3 = .ok (.ifCond .gt 5, 3) := by decide +kernel
theorem dX3_remainder_6 : decode cX3_remainder 6 = .ok (.dconst 0, 1) := by decide +kernel
theorem dX3_remainder_7 : decode cX3_remainder 7 = .ok (.dreturn, 1) := by decide +kernel
theorem dX3_remainder_8 : decode cX3_remainder 8 = .ok (.dload_n 0, 1) := by decide +kernel
theorem dX3_remainder_9 : decode cX3_remainder 9 = .ok (.dload_n 2, 1) := by decide +kernel
theorem dX3_remainder_10 : decode cX3_remainder 10 = .ok (.ddiv, 1) := by decide +kernel
theorem dX3_remainder_11 : decode cX3_remainder 11 = .ok (.d2l, 1) := by decide +kernel
theorem dX3_remainder_12 : decode cX3_remainder 12 = .ok (.lstore 4, 2) := by decide +kernel
theorem dX3_remainder_14 : decode cX3_remainder 14 = .ok (.dload_n 0, 1) := by decide +kernel
theorem dX3_remainder_15 : decode cX3_remainder 15 = .ok (.lload 4, 2) := by decide +kernel
theorem dX3_remainder_17 : decode cX3_remainder 17 = .ok (.l2d, 1) := by decide +kernel
theorem dX3_remainder_18 : decode cX3_remainder 18 = .ok (.dload_n 2, 1) := by decide +kernel
theorem dX3_remainder_19 : decode cX3_remainder 19 = .ok (.dmul, 1) := by decide +kernel
theorem dX3_remainder_20 : decode cX3_remainder 20 = .ok (.dsub, 1) := by decide +kernel
theorem dX3_remainder_21 : decode cX3_remainder 21 = .ok (.dreturn, 1) := by decide +kernel
theorem dX3_turned_0 : decode cX3_turned 0 = .ok (.aload_n 0, 1) := by decide +kernel
theorem dX3_turned_1 : decode cX3_turned 1 = .ok (.iload_n 1, 1) := by decide +kernel
theorem dX3_turned_2 : decode cX3_turned 2 = .ok (.invokevirtual 152, 3) := by decide +kernel
theorem dX3_turned_5 : decode cX3_turned 5 = .ok (.astore 4, 2) := by decide +kernel
theorem dX3_turned_7 : decode cX3_turned 7 = .ok (.aload 4, 2) := by decide +kernel
theorem dX3_turned_9 : decode cX3_turned 9 = .ok (.ifnull 23, 3) := by decide +kernel
theorem dX3_turned_12 : decode cX3_turned 12 = .ok (.iload_n 2, 1) := by decide +kernel
theorem dX3_turned_13 : decode cX3_turned 13 = .ok (.ifCond .lt 19, 3) := by decide +kernel
theorem dX3_turned_16 : decode cX3_turned 16 = .ok (.iload_n 2, 1) := by decide +kernel
theorem dX3_turned_17 : decode cX3_turned 17 = .ok (.ldc 39, 2) := by decide +kernel
theorem dX3_turned_19 : decode cX3_turned 19 = .ok (.if_icmp .gt 13, 3) := by decide +kernel
theorem dX3_turned_22 : decode cX3_turned 22 = .ok (.iload_n 3, 1) := by decide +kernel
theorem dX3_turned_23 : decode cX3_turned 23 = .ok (.ifCond .lt 9, 3) := by decide +kernel
theorem dX3_turned_26 : decode cX3_turned 26 = .ok (.iload_n 3, 1) := by decide +kernel
theorem dX3_turned_27 : decode cX3_turned 27 = .ok (.bipush 12, 2) := by decide +kernel
theorem dX3_turned_29 : decode cX3_turned 29 = .ok (.if_icmp .le 7, 3) := by decide +kernel
theorem dX3_turned_32 : decode cX3_turned 32 = .ok (.ldc2_w 235, 3) := by decide +kernel
theorem dX3_turned_35 : decode cX3_turned 35 = .ok (.lreturn, 1) := by decide +kernel
theorem dX3_turned_36 : decode cX3_turned 36 = .ok (.aload 4, 2) := by decide +kernel
theorem dX3_turned_38 : decode cX3_turned 38 = .ok (.invokestatic 221, 3) := by decide +kernel
theorem dX3_turned_41 : decode cX3_turned 41 = .ok (.fstore 5, 2) := by decide +kernel
theorem dX3_turned_43 : decode cX3_turned 43 = .ok (.iload_n 3, 1) := by decide +kernel
theorem dX3_turned_44 : decode cX3_turned 44 = .ok (.bipush 8, 2) := by decide +kernel
theorem dX3_turned_46 : decode cX3_turned 46 = .ok (.if_icmp .lt 18, 3) := by decide +kernel
theorem dX3_turned_49 : decode cX3_turned 49 = .ok (.fload 5, 2) := by decide +kernel
theorem dX3_turned_51 : decode cX3_turned 51 = .ok (.iload_n 2, 1) := by decide +kernel
theorem dX3_turned_52 : decode cX3_turned 52 = .ok (.i2f, 1) := by decide +kernel
theorem dX3_turned_53 : decode cX3_turned 53 = .ok (.ldc 44, 2) := by decide +kernel
theorem dX3_turned_55 : decode cX3_turned 55 = .ok (.fmul, 1) := by decide +kernel
theorem dX3_turned_56 : decode cX3_turned 56 = .ok (.fsub, 1) := by decide +kernel
theorem dX3_turned_57 : decode cX3_turned 57 = .ok (.iload_n 3, 1) := by decide +kernel
theorem dX3_turned_58 : decode cX3_turned 58 = .ok (.iconst 5, 1) := by decide +kernel
theorem dX3_turned_59 : decode cX3_turned 59 = .ok (.isub, 1) := by decide +kernel
theorem dX3_turned_60 : decode cX3_turned 60 = .ok (.invokestatic 237, 3) := by decide +kernel
theorem dX3_turned_63 : decode cX3_turned 63 = .ok (.lreturn, 1) := by decide +kernel
theorem dX3_turned_64 : decode cX3_turned 64 = .ok (.fload 5, 2) := by decide +kernel
theorem dX3_turned_66 : decode cX3_turned 66 = .ok (.f2d, 1) := by decide +kernel
theorem dX3_turned_67 : decode cX3_turned 67 = .ok (.iload_n 2, 1) := by decide +kernel
theorem dX3_turned_68 : decode cX3_turned 68 = .ok (.i2d, 1) := by decide +kernel
theorem dX3_turned_69 : decode cX3_turned 69 = .ok (.ldc2_w 241, 3) := by decide +kernel
theorem dX3_turned_72 : decode cX3_turned 72 = .ok (.dmul, 1) := by decide +kernel
theorem dX3_turned_73 : decode cX3_turned 73 = .ok (.dsub, 1) := by decide +kernel
theorem dX3_turned_74 : decode cX3_turned 74 = .ok (.iload_n 3, 1) := by decide +kernel
theorem dX3_turned_75 : decode cX3_turned 75 = .ok (.invokestatic 243, 3) := by decide +kernel
theorem dX3_turned_78 : decode cX3_turned 78 = .ok (.lreturn, 1) := by decide +kernel
theorem dX3_turnedDouble_0 : decode cX3_turnedDouble 0 = .ok (.iload_n 2, 1) := by decide +kernel
theorem dX3_turnedDouble_1 : decode cX3_turnedDouble 1 = .ok (.tableswitch 159 0 6 #[43, 48, 55, 75, 99, 117, 138], 43) := by decide +kernel
theorem dX3_turnedDouble_44 : decode cX3_turnedDouble 44 = .ok (.dload_n 0, 1) := by decide +kernel
theorem dX3_turnedDouble_45 : decode cX3_turnedDouble 45 = .ok (.invokestatic 247, 3) := by decide +kernel
theorem dX3_turnedDouble_48 : decode cX3_turnedDouble 48 = .ok (.lreturn, 1) := by decide +kernel
theorem dX3_turnedDouble_49 : decode cX3_turnedDouble 49 = .ok (.dload_n 0, 1) := by decide +kernel
theorem dX3_turnedDouble_50 : decode cX3_turnedDouble 50 = .ok (.dneg, 1) := by decide +kernel
theorem dX3_turnedDouble_51 : decode cX3_turnedDouble 51 = .ok (.invokestatic 247, 3) := by decide +kernel
theorem dX3_turnedDouble_54 : decode cX3_turnedDouble 54 = .ok (.lneg, 1) := by decide +kernel
theorem dX3_turnedDouble_55 : decode cX3_turnedDouble 55 = .ok (.lreturn, 1) := by decide +kernel
theorem dX3_turnedDouble_56 : decode cX3_turnedDouble 56 = .ok (.dload_n 0, 1) := by decide +kernel
theorem dX3_turnedDouble_57 : decode cX3_turnedDouble 57 = .ok (.dconst 0, 1) := by decide +kernel
theorem dX3_turnedDouble_58 : decode cX3_turnedDouble 58 = .ok (.dcmp .g, 1) := by decide +kernel
theorem dX3_turnedDouble_59 : decode cX3_turnedDouble 59 = .ok (.ifCond .ge 12, 3) := by decide +kernel
theorem dX3_turnedDouble_62 : decode cX3_turnedDouble 62 = .ok (.dload_n 0, 1) := by decide +kernel
theorem dX3_turnedDouble_63 : decode cX3_turnedDouble 63 = .ok (.dneg, 1) := by decide +kernel
theorem dX3_turnedDouble_64 : decode cX3_turnedDouble 64 = .ok (.invokestatic 251, 3) := by decide +kernel
theorem dX3_turnedDouble_67 : decode cX3_turnedDouble 67 = .ok (.lneg, 1) := by decide +kernel
theorem dX3_turnedDouble_68 : decode cX3_turnedDouble 68 = .ok (.goto 7, 3) := by decide +kernel
theorem dX3_turnedDouble_71 : decode cX3_turnedDouble 71 = .ok (.dload_n 0, 1) := by decide +kernel
theorem dX3_turnedDouble_72 : decode cX3_turnedDouble 72 = .ok (.invokestatic 251, 3) := by decide +kernel
theorem dX3_turnedDouble_75 : decode cX3_turnedDouble 75 = .ok (.lreturn, 1) := by decide +kernel
theorem dX3_turnedDouble_76 : decode cX3_turnedDouble 76 = .ok (.dload_n 0, 1) := by decide +kernel
theorem dX3_turnedDouble_77 : decode cX3_turnedDouble 77 = .ok (.dconst 0, 1) := by decide +kernel
theorem dX3_turnedDouble_78 : decode cX3_turnedDouble 78 = .ok (.dcmp .g, 1) := by decide +kernel
theorem dX3_turnedDouble_79 : decode cX3_turnedDouble 79 = .ok (.ifCond .ge 9, 3) := by decide +kernel
theorem dX3_turnedDouble_82 : decode cX3_turnedDouble 82 = .ok (.ldc2_w 254, 3) := by decide +kernel
theorem dX3_turnedDouble_85 : decode cX3_turnedDouble 85 = .ok (.goto 14, 3) := by decide +kernel
theorem dX3_turnedDouble_88 : decode cX3_turnedDouble 88 = .ok (.dload_n 0, 1) := by decide +kernel
theorem dX3_turnedDouble_89 : decode cX3_turnedDouble 89 = .ok (.dconst 0, 1) := by decide +kernel
theorem dX3_turnedDouble_90 : decode cX3_turnedDouble 90 = .ok (.dcmp .l, 1) := by decide +kernel
theorem dX3_turnedDouble_91 : decode cX3_turnedDouble 91 = .ok (.ifCond .le 7, 3) := by decide +kernel
theorem dX3_turnedDouble_94 : decode cX3_turnedDouble 94 = .ok (.lconst 1, 1) := by decide +kernel
theorem dX3_turnedDouble_95 : decode cX3_turnedDouble 95 = .ok (.goto 4, 3) := by decide +kernel
theorem dX3_turnedDouble_98 : decode cX3_turnedDouble 98 = .ok (.lconst 0, 1) := by decide +kernel
theorem dX3_turnedDouble_99 : decode cX3_turnedDouble 99 = .ok (.lreturn, 1) := by decide +kernel
theorem dX3_turnedDouble_100 : decode cX3_turnedDouble 100 = .ok (.ldc2_w 256, 3) := by decide +kernel
theorem dX3_turnedDouble_103 : decode cX3_turnedDouble 103 = .ok (.dload_n 0, 1) := by decide +kernel
theorem dX3_turnedDouble_104 : decode cX3_turnedDouble 104 = .ok (.dconst 0, 1) := by decide +kernel
theorem dX3_turnedDouble_105 : decode cX3_turnedDouble 105 = .ok (.dcmp .g, 1) := by decide +kernel
theorem dX3_turnedDouble_106 : decode cX3_turnedDouble 106 = .ok (.ifCond .ge 8, 3) := by decide +kernel
theorem dX3_turnedDouble_109 : decode cX3_turnedDouble 109 = .ok (.dload_n 0, 1) := by decide +kernel
theorem dX3_turnedDouble_110 : decode cX3_turnedDouble 110 = .ok (.dneg, 1) := by decide +kernel
theorem dX3_turnedDouble_111 : decode cX3_turnedDouble 111 = .ok (.goto 4, 3) := by decide +kernel
theorem dX3_turnedDouble_114 : decode cX3_turnedDouble 114 = .ok (.dload_n 0, 1) := by decide +kernel
theorem dX3_turnedDouble_115 : decode cX3_turnedDouble 115 = .ok (.dmul, 1) := by decide +kernel
theorem dX3_turnedDouble_116 : decode cX3_turnedDouble 116 = .ok (.d2l, 1) := by decide +kernel
theorem dX3_turnedDouble_117 : decode cX3_turnedDouble 117 = .ok (.lreturn, 1) := by decide +kernel
theorem dX3_turnedDouble_118 : decode cX3_turnedDouble 118 = .ok (.ldc2_w 256, 3) := by decide +kernel
theorem dX3_turnedDouble_121 : decode cX3_turnedDouble 121 = .ok (.dload_n 0, 1) := by decide +kernel
theorem dX3_turnedDouble_122 : decode cX3_turnedDouble 122 = .ok (.ldc2_w 258, 3) := by decide +kernel
theorem dX3_turnedDouble_125 : decode cX3_turnedDouble 125 = .ok (.dcmp .l, 1) := by decide +kernel
theorem dX3_turnedDouble_126 : decode cX3_turnedDouble 126 = .ok (.ifCond .le 7, 3) := by decide +kernel
theorem dX3_turnedDouble_129 : decode cX3_turnedDouble 129 = .ok (.dload_n 0, 1) := by decide +kernel
theorem dX3_turnedDouble_130 : decode cX3_turnedDouble 130 = .ok (.goto 6, 3) := by decide +kernel
theorem dX3_turnedDouble_133 : decode cX3_turnedDouble 133 = .ok (.ldc2_w 258, 3) := by decide +kernel
theorem dX3_turnedDouble_136 : decode cX3_turnedDouble 136 = .ok (.dmul, 1) := by decide +kernel
theorem dX3_turnedDouble_137 : decode cX3_turnedDouble 137 = .ok (.d2l, 1) := by decide +kernel
theorem dX3_turnedDouble_138 : decode cX3_turnedDouble 138 = .ok (.lreturn, 1) := by decide +kernel
theorem dX3_turnedDouble_139 : decode cX3_turnedDouble 139 = .ok (.ldc2_w 256, 3) := by decide +kernel
theorem dX3_turnedDouble_142 : decode cX3_turnedDouble 142 = .ok (.dload_n 0, 1) := by decide +kernel
theorem dX3_turnedDouble_143 : decode cX3_turnedDouble 143 = .ok (.ldc2_w 258, 3) := by decide +kernel
theorem dX3_turnedDouble_146 : decode cX3_turnedDouble 146 = .ok (.dcmp .g, 1) := by decide +kernel
theorem dX3_turnedDouble_147 : decode cX3_turnedDouble 147 = .ok (.ifCond .ge 7, 3) := by decide +kernel
theorem dX3_turnedDouble_150 : decode cX3_turnedDouble 150 = .ok (.dload_n 0, 1) := by decide +kernel
theorem dX3_turnedDouble_151 : decode cX3_turnedDouble 151 = .ok (.goto 6, 3) := by decide +kernel
theorem dX3_turnedDouble_154 : decode cX3_turnedDouble 154 = .ok (.ldc2_w 258, 3) := by decide +kernel
theorem dX3_turnedDouble_157 : decode cX3_turnedDouble 157 = .ok (.dmul, 1) := by decide +kernel
theorem dX3_turnedDouble_158 : decode cX3_turnedDouble 158 = .ok (.d2l, 1) := by decide +kernel
theorem dX3_turnedDouble_159 : decode cX3_turnedDouble 159 = .ok (.lreturn, 1) := by decide +kernel
theorem dX3_turnedDouble_160 : decode cX3_turnedDouble 160 = .ok (.dload_n 0, 1) := by decide +kernel
theorem dX3_turnedDouble_161 : decode cX3_turnedDouble 161 = .ok (.dconst 0, 1) := by decide +kernel
theorem dX3_turnedDouble_162 : decode cX3_turnedDouble 162 = .ok (.dcmp .g, 1) := by decide +kernel
theorem dX3_turnedDouble_163 : decode cX3_turnedDouble 163 = .ok (.ifCond .ge 9, 3) := by decide +kernel
theorem dX3_turnedDouble_166 : decode cX3_turnedDouble 166 = .ok (.ldc2_w 225, 3) := by decide +kernel
theorem dX3_turnedDouble_169 : decode cX3_turnedDouble 169 = .ok (.goto 6, 3) := by decide +kernel
theorem dX3_turnedDouble_172 : decode cX3_turnedDouble 172 = .ok (.ldc2_w 260, 3) := by decide +kernel
theorem dX3_turnedDouble_175 : decode cX3_turnedDouble 175 = .ok (.lreturn, 1) := by decide +kernel
theorem dX3_turnedFloat_0 : decode cX3_turnedFloat 0 = .ok (.iload_n 1, 1) := by decide +kernel
theorem dX3_turnedFloat_1 : decode cX3_turnedFloat 1 = .ok (.tableswitch 115 3 6 #[31, 55, 73, 94], 31) := by decide +kernel
theorem dX3_turnedFloat_32 : decode cX3_turnedFloat 32 = .ok (.fload_n 0, 1) := by decide +kernel
theorem dX3_turnedFloat_33 : decode cX3_turnedFloat 33 = .ok (.fconst 0, 1) := by decide +kernel
theorem dX3_turnedFloat_34 : decode cX3_turnedFloat 34 = .ok (.fcmp .g, 1) := by decide +kernel
theorem dX3_turnedFloat_35 : decode cX3_turnedFloat 35 = .ok (.ifCond .ge 9, 3) := by decide +kernel
theorem dX3_turnedFloat_38 : decode cX3_turnedFloat 38 = .ok (.ldc2_w 254, 3) := by decide +kernel
theorem dX3_turnedFloat_41 : decode cX3_turnedFloat 41 = .ok (.goto 14, 3) := by decide +kernel
theorem dX3_turnedFloat_44 : decode cX3_turnedFloat 44 = .ok (.fload_n 0, 1) := by decide +kernel
theorem dX3_turnedFloat_45 : decode cX3_turnedFloat 45 = .ok (.fconst 0, 1) := by decide +kernel
theorem dX3_turnedFloat_46 : decode cX3_turnedFloat 46 = .ok (.fcmp .l, 1) := by decide +kernel
theorem dX3_turnedFloat_47 : decode cX3_turnedFloat 47 = .ok (.ifCond .le 7, 3) := by decide +kernel
theorem dX3_turnedFloat_50 : decode cX3_turnedFloat 50 = .ok (.lconst 1, 1) := by decide +kernel
theorem dX3_turnedFloat_51 : decode cX3_turnedFloat 51 = .ok (.goto 4, 3) := by decide +kernel
theorem dX3_turnedFloat_54 : decode cX3_turnedFloat 54 = .ok (.lconst 0, 1) := by decide +kernel
theorem dX3_turnedFloat_55 : decode cX3_turnedFloat 55 = .ok (.lreturn, 1) := by decide +kernel
theorem dX3_turnedFloat_56 : decode cX3_turnedFloat 56 = .ok (.ldc_w 262, 3) := by decide +kernel
theorem dX3_turnedFloat_59 : decode cX3_turnedFloat 59 = .ok (.fload_n 0, 1) := by decide +kernel
theorem dX3_turnedFloat_60 : decode cX3_turnedFloat 60 = .ok (.fconst 0, 1) := by decide +kernel
theorem dX3_turnedFloat_61 : decode cX3_turnedFloat 61 = .ok (.fcmp .g, 1) := by decide +kernel
theorem dX3_turnedFloat_62 : decode cX3_turnedFloat 62 = .ok (.ifCond .ge 8, 3) := by decide +kernel
theorem dX3_turnedFloat_65 : decode cX3_turnedFloat 65 = .ok (.fload_n 0, 1) := by decide +kernel
theorem dX3_turnedFloat_66 : decode cX3_turnedFloat 66 = .ok (.fneg, 1) := by decide +kernel
theorem dX3_turnedFloat_67 : decode cX3_turnedFloat 67 = .ok (.goto 4, 3) := by decide +kernel
theorem dX3_turnedFloat_70 : decode cX3_turnedFloat 70 = .ok (.fload_n 0, 1) := by decide +kernel
theorem dX3_turnedFloat_71 : decode cX3_turnedFloat 71 = .ok (.fmul, 1) := by decide +kernel
theorem dX3_turnedFloat_72 : decode cX3_turnedFloat 72 = .ok (.f2l, 1) := by decide +kernel
theorem dX3_turnedFloat_73 : decode cX3_turnedFloat 73 = .ok (.lreturn, 1) := by decide +kernel
theorem dX3_turnedFloat_74 : decode cX3_turnedFloat 74 = .ok (.ldc_w 262, 3) := by decide +kernel
theorem dX3_turnedFloat_77 : decode cX3_turnedFloat 77 = .ok (.fload_n 0, 1) := by decide +kernel
theorem dX3_turnedFloat_78 : decode cX3_turnedFloat 78 = .ok (.ldc_w 263, 3) := by decide +kernel
theorem dX3_turnedFloat_81 : decode cX3_turnedFloat 81 = .ok (.fcmp .l, 1) := by decide +kernel
theorem dX3_turnedFloat_82 : decode cX3_turnedFloat 82 = .ok (.ifCond .le 7, 3) := by decide +kernel
theorem dX3_turnedFloat_85 : decode cX3_turnedFloat 85 = .ok (.fload_n 0, 1) := by decide +kernel
theorem dX3_turnedFloat_86 : decode cX3_turnedFloat 86 = .ok (.goto 6, 3) := by decide +kernel
theorem dX3_turnedFloat_89 : decode cX3_turnedFloat 89 = .ok (.ldc_w 263, 3) := by decide +kernel
theorem dX3_turnedFloat_92 : decode cX3_turnedFloat 92 = .ok (.fmul, 1) := by decide +kernel
theorem dX3_turnedFloat_93 : decode cX3_turnedFloat 93 = .ok (.f2l, 1) := by decide +kernel
theorem dX3_turnedFloat_94 : decode cX3_turnedFloat 94 = .ok (.lreturn, 1) := by decide +kernel
theorem dX3_turnedFloat_95 : decode cX3_turnedFloat 95 = .ok (.ldc_w 262, 3) := by decide +kernel
theorem dX3_turnedFloat_98 : decode cX3_turnedFloat 98 = .ok (.fload_n 0, 1) := by decide +kernel
theorem dX3_turnedFloat_99 : decode cX3_turnedFloat 99 = .ok (.ldc_w 263, 3) := by decide +kernel
theorem dX3_turnedFloat_102 : decode cX3_turnedFloat 102 = .ok (.fcmp .g, 1) := by decide +kernel
theorem dX3_turnedFloat_103 : decode cX3_turnedFloat 103 = .ok (.ifCond .ge 7, 3) := by decide +kernel
theorem dX3_turnedFloat_106 : decode cX3_turnedFloat 106 = .ok (.fload_n 0, 1) := by decide +kernel
theorem dX3_turnedFloat_107 : decode cX3_turnedFloat 107 = .ok (.goto 6, 3) := by decide +kernel
theorem dX3_turnedFloat_110 : decode cX3_turnedFloat 110 = .ok (.ldc_w 263, 3) := by decide +kernel
theorem dX3_turnedFloat_113 : decode cX3_turnedFloat 113 = .ok (.fmul, 1) := by decide +kernel
theorem dX3_turnedFloat_114 : decode cX3_turnedFloat 114 = .ok (.f2l, 1) := by decide +kernel
theorem dX3_turnedFloat_115 : decode cX3_turnedFloat 115 = .ok (.lreturn, 1) := by decide +kernel
theorem dX3_turnedFloat_116 : decode cX3_turnedFloat 116 = .ok (.fload_n 0, 1) := by decide +kernel
theorem dX3_turnedFloat_117 : decode cX3_turnedFloat 117 = .ok (.fconst 0, 1) := by decide +kernel
theorem dX3_turnedFloat_118 : decode cX3_turnedFloat 118 = .ok (.fcmp .g, 1) := by decide +kernel
theorem dX3_turnedFloat_119 : decode cX3_turnedFloat 119 = .ok (.ifCond .ge 9, 3) := by decide +kernel
theorem dX3_turnedFloat_122 : decode cX3_turnedFloat 122 = .ok (.ldc2_w 225, 3) := by decide +kernel
theorem dX3_turnedFloat_125 : decode cX3_turnedFloat 125 = .ok (.goto 6, 3) := by decide +kernel
theorem dX3_turnedFloat_128 : decode cX3_turnedFloat 128 = .ok (.ldc2_w 260, 3) := by decide +kernel
theorem dX3_turnedFloat_131 : decode cX3_turnedFloat 131 = .ok (.lreturn, 1) := by decide +kernel
theorem dX3_notAbove_0 : decode cX3_notAbove 0 = .ok (.dload_n 0, 1) := by decide +kernel
theorem dX3_notAbove_1 : decode cX3_notAbove 1 = .ok (.d2l, 1) := by decide +kernel
theorem dX3_notAbove_2 : decode cX3_notAbove 2 = .ok (.lstore_n 2, 1) := by decide +kernel
theorem dX3_notAbove_3 : decode cX3_notAbove 3 = .ok (.lload_n 2, 1) := by decide +kernel
theorem dX3_notAbove_4 : decode cX3_notAbove 4 = .ok (.l2d, 1) := by decide +kernel
theorem dX3_notAbove_5 : decode cX3_notAbove 5 = .ok (.dload_n 0, 1) := by decide +kernel
theorem dX3_notAbove_6 : decode cX3_notAbove 6 = .ok (.dcmp .l, 1) := by decide +kernel
theorem dX3_notAbove_7 : decode cX3_notAbove 7 = .ok (.ifCond .le 9, 3) := by decide +kernel
theorem dX3_notAbove_10 : decode cX3_notAbove 10 = .ok (.lload_n 2, 1) := by decide +kernel
theorem dX3_notAbove_11 : decode cX3_notAbove 11 = .ok (.lconst 1, 1) := by decide +kernel
theorem dX3_notAbove_12 : decode cX3_notAbove 12 = .ok (.lsub, 1) := by decide +kernel
theorem dX3_notAbove_13 : decode cX3_notAbove 13 = .ok (.goto 4, 3) := by decide +kernel
theorem dX3_notAbove_16 : decode cX3_notAbove 16 = .ok (.lload_n 2, 1) := by decide +kernel
theorem dX3_notAbove_17 : decode cX3_notAbove 17 = .ok (.lreturn, 1) := by decide +kernel
theorem dX3_nearest_0 : decode cX3_nearest 0 = .ok (.dload_n 0, 1) := by decide +kernel
theorem dX3_nearest_1 : decode cX3_nearest 1 = .ok (.d2l, 1) := by decide +kernel
theorem dX3_nearest_2 : decode cX3_nearest 2 = .ok (.lstore_n 2, 1) := by decide +kernel
theorem dX3_nearest_3 : decode cX3_nearest 3 = .ok (.dload_n 0, 1) := by decide +kernel
theorem dX3_nearest_4 : decode cX3_nearest 4 = .ok (.lload_n 2, 1) := by decide +kernel
theorem dX3_nearest_5 : decode cX3_nearest 5 = .ok (.l2d, 1) := by decide +kernel
theorem dX3_nearest_6 : decode cX3_nearest 6 = .ok (.dsub, 1) := by decide +kernel
theorem dX3_nearest_7 : decode cX3_nearest 7 = .ok (.dstore 4, 2) := by decide +kernel
theorem dX3_nearest_9 : decode cX3_nearest 9 = .ok (.dload 4, 2) := by decide +kernel
theorem dX3_nearest_11 : decode cX3_nearest 11 = .ok (.ldc2_w 264, 3) := by decide +kernel
theorem dX3_nearest_14 : decode cX3_nearest 14 = .ok (.dcmp .l, 1) := by decide +kernel
theorem dX3_nearest_15 : decode cX3_nearest 15 = .ok (.ifCond .gt 20, 3) := by decide +kernel
theorem dX3_nearest_18 : decode cX3_nearest 18 = .ok (.dload 4, 2) := by decide +kernel
theorem dX3_nearest_20 : decode cX3_nearest 20 = .ok (.ldc2_w 264, 3) := by decide +kernel
theorem dX3_nearest_23 : decode cX3_nearest 23 = .ok (.dcmp .l, 1) := by decide +kernel
theorem dX3_nearest_24 : decode cX3_nearest 24 = .ok (.ifCond .ne 15, 3) := by decide +kernel
theorem dX3_nearest_27 : decode cX3_nearest 27 = .ok (.lload_n 2, 1) := by decide +kernel
theorem dX3_nearest_28 : decode cX3_nearest 28 = .ok (.lconst 1, 1) := by decide +kernel
theorem dX3_nearest_29 : decode cX3_nearest 29 = .ok (.land, 1) := by decide +kernel
theorem dX3_nearest_30 : decode cX3_nearest 30 = .ok (.lconst 1, 1) := by decide +kernel
theorem dX3_nearest_31 : decode cX3_nearest 31 = .ok (.lcmp, 1) := by decide +kernel
theorem dX3_nearest_32 : decode cX3_nearest 32 = .ok (.ifCond .ne 7, 3) := by decide +kernel
theorem dX3_nearest_35 : decode cX3_nearest 35 = .ok (.iconst 1, 1) := by decide +kernel
theorem dX3_nearest_36 : decode cX3_nearest 36 = .ok (.goto 4, 3) := by decide +kernel
theorem dX3_nearest_39 : decode cX3_nearest 39 = .ok (.iconst 0, 1) := by decide +kernel
theorem dX3_nearest_40 : decode cX3_nearest 40 = .ok (.istore 6, 2) := by decide +kernel
theorem dX3_nearest_42 : decode cX3_nearest 42 = .ok (.iload 6, 2) := by decide +kernel
theorem dX3_nearest_44 : decode cX3_nearest 44 = .ok (.ifCond .eq 9, 3) := by decide +kernel
theorem dX3_nearest_47 : decode cX3_nearest 47 = .ok (.lload_n 2, 1) := by decide +kernel
theorem dX3_nearest_48 : decode cX3_nearest 48 = .ok (.lconst 1, 1) := by decide +kernel
theorem dX3_nearest_49 : decode cX3_nearest 49 = .ok (.ladd, 1) := by decide +kernel
theorem dX3_nearest_50 : decode cX3_nearest 50 = .ok (.goto 4, 3) := by decide +kernel
theorem dX3_nearest_53 : decode cX3_nearest 53 = .ok (.lload_n 2, 1) := by decide +kernel
theorem dX3_nearest_54 : decode cX3_nearest 54 = .ok (.lreturn, 1) := by decide +kernel
theorem dX3_isReel_0 : decode cX3_isReel 0 = .ok (.iload_n 0, 1) := by decide +kernel
theorem dX3_isReel_1 : decode cX3_isReel 1 = .ok (.ifCond .lt 13, 3) := by decide +kernel
theorem dX3_isReel_4 : decode cX3_isReel 4 = .ok (.iload_n 0, 1) := by decide +kernel
theorem dX3_isReel_5 : decode cX3_isReel 5 = .ok (.bipush 6, 2) := by decide +kernel
theorem dX3_isReel_7 : decode cX3_isReel 7 = .ok (.if_icmp .ge 7, 3) := by decide +kernel
theorem dX3_isReel_10 : decode cX3_isReel 10 = .ok (.iconst 1, 1) := by decide +kernel
theorem dX3_isReel_11 : decode cX3_isReel 11 = .ok (.goto 4, 3) := by decide +kernel
theorem dX3_isReel_14 : decode cX3_isReel 14 = .ok (.iconst 0, 1) := by decide +kernel
theorem dX3_isReel_15 : decode cX3_isReel 15 = .ok (.ireturn, 1) := by decide +kernel
theorem dX3_hang_0 : decode cX3_hang 0 = .ok (.aload_n 0, 1) := by decide +kernel
theorem dX3_hang_1 : decode cX3_hang 1 = .ok (.iload_n 2, 1) := by decide +kernel
theorem dX3_hang_2 : decode cX3_hang 2 = .ok (.invokevirtual 70, 3) := by decide +kernel
theorem dX3_hang_5 : decode cX3_hang 5 = .ok (.astore_n 3, 1) := by decide +kernel
theorem dX3_hang_6 : decode cX3_hang 6 = .ok (.aload_n 3, 1) := by decide +kernel
theorem dX3_hang_7 : decode cX3_hang 7 = .ok (.ifnonnull 6, 3) := by decide +kernel
theorem dX3_hang_10 : decode cX3_hang 10 = .ok (.bipush (-2), 2) := by decide +kernel
theorem dX3_hang_12 : decode cX3_hang 12 = .ok (.ireturn, 1) := by decide +kernel
theorem dX3_hang_13 : decode cX3_hang 13 = .ok (.iload_n 1, 1) := by decide +kernel
theorem dX3_hang_14 : decode cX3_hang 14 = .ok (.invokestatic 266, 3) := by decide +kernel
theorem dX3_hang_17 : decode cX3_hang 17 = .ok (.ifCond .ne 6, 3) := by decide +kernel
theorem dX3_hang_20 : decode cX3_hang 20 = .ok (.bipush (-11), 2) := by decide +kernel
theorem dX3_hang_22 : decode cX3_hang 22 = .ok (.ireturn, 1) := by decide +kernel
theorem dX3_hang_23 : decode cX3_hang 23 = .ok (.aload_n 0, 1) := by decide +kernel
theorem dX3_hang_24 : decode cX3_hang 24 = .ok (.getfield 20, 3) := by decide +kernel
theorem dX3_hang_27 : decode cX3_hang 27 = .ok (.iload_n 1, 1) := by decide +kernel
theorem dX3_hang_28 : decode cX3_hang 28 = .ok (.aaload, 1) := by decide +kernel
theorem dX3_hang_29 : decode cX3_hang 29 = .ok (.getfield 270, 3) := by decide +kernel
theorem dX3_hang_32 : decode cX3_hang 32 = .ok (.ifnull 6, 3) := by decide +kernel
theorem dX3_hang_35 : decode cX3_hang 35 = .ok (.bipush (-2), 2) := by decide +kernel
theorem dX3_hang_37 : decode cX3_hang 37 = .ok (.ireturn, 1) := by decide +kernel
theorem dX3_hang_38 : decode cX3_hang 38 = .ok (.aload_n 0, 1) := by decide +kernel
theorem dX3_hang_39 : decode cX3_hang 39 = .ok (.getfield 20, 3) := by decide +kernel
theorem dX3_hang_42 : decode cX3_hang 42 = .ok (.iload_n 1, 1) := by decide +kernel
theorem dX3_hang_43 : decode cX3_hang 43 = .ok (.aaload, 1) := by decide +kernel
theorem dX3_hang_44 : decode cX3_hang 44 = .ok (.aload_n 3, 1) := by decide +kernel
theorem dX3_hang_45 : decode cX3_hang 45 = .ok (.putfield 270, 3) := by decide +kernel
theorem dX3_hang_48 : decode cX3_hang 48 = .ok (.aload_n 3, 1) := by decide +kernel
theorem dX3_hang_49 : decode cX3_hang 49 = .ok (.iconst 2, 1) := by decide +kernel
theorem dX3_hang_50 : decode cX3_hang 50 = .ok (.putfield 67, 3) := by decide +kernel
theorem dX3_hang_53 : decode cX3_hang 53 = .ok (.aload_n 3, 1) := by decide +kernel
theorem dX3_hang_54 : decode cX3_hang 54 = .ok (.getfield 113, 3) := by decide +kernel
theorem dX3_hang_57 : decode cX3_hang 57 = .ok (.ireturn, 1) := by decide +kernel
theorem dX3_off_0 : decode cX3_off 0 = .ok (.iload_n 1, 1) := by decide +kernel
theorem dX3_off_1 : decode cX3_off 1 = .ok (.invokestatic 266, 3) := by decide +kernel
theorem dX3_off_4 : decode cX3_off 4 = .ok (.ifCond .ne 6, 3) := by decide +kernel
theorem dX3_off_7 : decode cX3_off 7 = .ok (.bipush (-11), 2) := by decide +kernel
theorem dX3_off_9 : decode cX3_off 9 = .ok (.ireturn, 1) := by decide +kernel
theorem dX3_off_10 : decode cX3_off 10 = .ok (.aload_n 0, 1) := by decide +kernel
theorem dX3_off_11 : decode cX3_off 11 = .ok (.getfield 20, 3) := by decide +kernel
theorem dX3_off_14 : decode cX3_off 14 = .ok (.iload_n 1, 1) := by decide +kernel
theorem dX3_off_15 : decode cX3_off 15 = .ok (.aaload, 1) := by decide +kernel
theorem dX3_off_16 : decode cX3_off 16 = .ok (.getfield 270, 3) := by decide +kernel
theorem dX3_off_19 : decode cX3_off 19 = .ok (.astore_n 2, 1) := by decide +kernel
theorem dX3_off_20 : decode cX3_off 20 = .ok (.aload_n 2, 1) := by decide +kernel
theorem dX3_off_21 : decode cX3_off 21 = .ok (.ifnonnull 6, 3) := by decide +kernel
theorem dX3_off_24 : decode cX3_off 24 = .ok (.bipush (-10), 2) := by decide +kernel
theorem dX3_off_26 : decode cX3_off 26 = .ok (.ireturn, 1) := by decide +kernel
theorem dX3_off_27 : decode cX3_off 27 = .ok (.aload_n 0, 1) := by decide +kernel
theorem dX3_off_28 : decode cX3_off 28 = .ok (.iload_n 1, 1) := by decide +kernel
theorem dX3_off_29 : decode cX3_off 29 = .ok (.invokevirtual 274, 3) := by decide +kernel
theorem dX3_off_32 : decode cX3_off 32 = .ok (.ifCond .eq 6, 3) := by decide +kernel
theorem dX3_off_35 : decode cX3_off 35 = .ok (.bipush (-2), 2) := by decide +kernel
theorem dX3_off_37 : decode cX3_off 37 = .ok (.ireturn, 1) := by decide +kernel
theorem dX3_off_38 : decode cX3_off 38 = .ok (.aload_n 0, 1) := by decide +kernel
theorem dX3_off_39 : decode cX3_off 39 = .ok (.getfield 20, 3) := by decide +kernel
theorem dX3_off_42 : decode cX3_off 42 = .ok (.iload_n 1, 1) := by decide +kernel
theorem dX3_off_43 : decode cX3_off 43 = .ok (.aaload, 1) := by decide +kernel
theorem dX3_off_44 : decode cX3_off 44 = .ok (.aconst_null, 1) := by decide +kernel
theorem dX3_off_45 : decode cX3_off 45 = .ok (.putfield 270, 3) := by decide +kernel
theorem dX3_off_48 : decode cX3_off 48 = .ok (.aload_n 2, 1) := by decide +kernel
theorem dX3_off_49 : decode cX3_off 49 = .ok (.iconst 0, 1) := by decide +kernel
theorem dX3_off_50 : decode cX3_off 50 = .ok (.putfield 67, 3) := by decide +kernel
theorem dX3_off_53 : decode cX3_off 53 = .ok (.aload_n 2, 1) := by decide +kernel
theorem dX3_off_54 : decode cX3_off 54 = .ok (.getfield 60, 3) := by decide +kernel
theorem dX3_off_57 : decode cX3_off 57 = .ok (.ireturn, 1) := by decide +kernel
theorem dX3_take_0 : decode cX3_take 0 = .ok (.iload_n 2, 1) := by decide +kernel
theorem dX3_take_1 : decode cX3_take 1 = .ok (.ifCond .lt 9, 3) := by decide +kernel
theorem dX3_take_4 : decode cX3_take 4 = .ok (.iload_n 2, 1) := by decide +kernel
theorem dX3_take_5 : decode cX3_take 5 = .ok (.bipush 6, 2) := by decide +kernel
theorem dX3_take_7 : decode cX3_take 7 = .ok (.if_icmp .lt 6, 3) := by decide +kernel
theorem dX3_take_10 : decode cX3_take 10 = .ok (.bipush (-2), 2) := by decide +kernel
theorem dX3_take_12 : decode cX3_take 12 = .ok (.ireturn, 1) := by decide +kernel
theorem dX3_take_13 : decode cX3_take 13 = .ok (.iload_n 1, 1) := by decide +kernel
theorem dX3_take_14 : decode cX3_take 14 = .ok (.invokestatic 266, 3) := by decide +kernel
theorem dX3_take_17 : decode cX3_take 17 = .ok (.ifCond .ne 6, 3) := by decide +kernel
theorem dX3_take_20 : decode cX3_take 20 = .ok (.bipush (-11), 2) := by decide +kernel
theorem dX3_take_22 : decode cX3_take 22 = .ok (.ireturn, 1) := by decide +kernel
theorem dX3_take_23 : decode cX3_take 23 = .ok (.aload_n 0, 1) := by decide +kernel
theorem dX3_take_24 : decode cX3_take 24 = .ok (.getfield 20, 3) := by decide +kernel
theorem dX3_take_27 : decode cX3_take 27 = .ok (.iload_n 1, 1) := by decide +kernel
theorem dX3_take_28 : decode cX3_take 28 = .ok (.aaload, 1) := by decide +kernel
theorem dX3_take_29 : decode cX3_take 29 = .ok (.getfield 270, 3) := by decide +kernel
theorem dX3_take_32 : decode cX3_take 32 = .ok (.astore_n 3, 1) := by decide +kernel
theorem dX3_take_33 : decode cX3_take 33 = .ok (.aload_n 3, 1) := by decide +kernel
theorem dX3_take_34 : decode cX3_take 34 = .ok (.ifnonnull 6, 3) := by decide +kernel
theorem dX3_take_37 : decode cX3_take 37 = .ok (.bipush (-10), 2) := by decide +kernel
theorem dX3_take_39 : decode cX3_take 39 = .ok (.ireturn, 1) := by decide +kernel
theorem dX3_take_40 : decode cX3_take 40 = .ok (.aload_n 3, 1) := by decide +kernel
theorem dX3_take_41 : decode cX3_take 41 = .ok (.iload_n 2, 1) := by decide +kernel
theorem dX3_take_42 : decode cX3_take 42 = .ok (.invokestatic 277, 3) := by decide +kernel
theorem dX3_take_45 : decode cX3_take 45 = .ok (.ifCond .eq 10, 3) := by decide +kernel
theorem dX3_take_48 : decode cX3_take 48 = .ok (.aload_n 3, 1) := by decide +kernel
theorem dX3_take_49 : decode cX3_take 49 = .ok (.getfield 60, 3) := by decide +kernel
theorem dX3_take_52 : decode cX3_take 52 = .ok (.goto 5, 3) := by decide +kernel
theorem dX3_take_55 : decode cX3_take 55 = .ok (.bipush (-12), 2) := by decide +kernel
theorem dX3_take_57 : decode cX3_take 57 = .ok (.ireturn, 1) := by decide +kernel
theorem dX3_isOfKind_0 : decode cX3_isOfKind 0 = .ok (.aload_n 0, 1) := by decide +kernel
theorem dX3_isOfKind_1 : decode cX3_isOfKind 1 = .ok (.getfield 103, 3) := by decide +kernel
theorem dX3_isOfKind_4 : decode cX3_isOfKind 4 = .ok (.istore_n 2, 1) := by decide +kernel
theorem dX3_isOfKind_5 : decode cX3_isOfKind 5 = .ok (.iconst 0, 1) := by decide +kernel
theorem dX3_isOfKind_6 : decode cX3_isOfKind 6 = .ok (.istore_n 3, 1) := by decide +kernel
theorem dX3_isOfKind_7 : decode cX3_isOfKind 7 = .ok (.iload_n 3, 1) := by decide +kernel
theorem dX3_isOfKind_8 : decode cX3_isOfKind 8 = .ok (.bipush 6, 2) := by decide +kernel
theorem dX3_isOfKind_10 : decode cX3_isOfKind 10 = .ok (.if_icmp .ge 32, 3) := by decide +kernel
theorem dX3_isOfKind_13 : decode cX3_isOfKind 13 = .ok (.iload_n 2, 1) := by decide +kernel
theorem dX3_isOfKind_14 : decode cX3_isOfKind 14 = .ok (.ifCond .lt 28, 3) := by decide +kernel
theorem dX3_isOfKind_17 : decode cX3_isOfKind 17 = .ok (.iload_n 2, 1) := by decide +kernel
theorem dX3_isOfKind_18 : decode cX3_isOfKind 18 = .ok (.bipush 6, 2) := by decide +kernel
theorem dX3_isOfKind_20 : decode cX3_isOfKind 20 = .ok (.if_icmp .ge 22, 3) := by decide +kernel
theorem dX3_isOfKind_23 : decode cX3_isOfKind 23 = .ok (.iload_n 2, 1) := by decide +kernel
theorem dX3_isOfKind_24 : decode cX3_isOfKind 24 = .ok (.iload_n 1, 1) := by decide +kernel
theorem dX3_isOfKind_25 : decode cX3_isOfKind 25 = .ok (.if_icmp .ne 5, 3) := by decide +kernel
theorem dX3_isOfKind_28 : decode cX3_isOfKind 28 = .ok (.iconst 1, 1) := by decide +kernel
theorem dX3_isOfKind_29 : decode cX3_isOfKind 29 = .ok (.ireturn, 1) := by decide +kernel
theorem dX3_isOfKind_30 : decode cX3_isOfKind 30 = .ok (.getstatic 281, 3) := by decide +kernel
theorem dX3_isOfKind_33 : decode cX3_isOfKind 33 = .ok (.iload_n 2, 1) := by decide +kernel
theorem dX3_isOfKind_34 : decode cX3_isOfKind 34 = .ok (.iaload, 1) := by decide +kernel
theorem dX3_isOfKind_35 : decode cX3_isOfKind 35 = .ok (.istore_n 2, 1) := by decide +kernel
theorem dX3_isOfKind_36 : decode cX3_isOfKind 36 = .ok (.iinc 3 1, 3) := by decide +kernel
theorem dX3_isOfKind_39 : decode cX3_isOfKind 39 = .ok (.goto (-32), 3) := by decide +kernel
theorem dX3_isOfKind_42 : decode cX3_isOfKind 42 = .ok (.iconst 0, 1) := by decide +kernel
theorem dX3_isOfKind_43 : decode cX3_isOfKind 43 = .ok (.ireturn, 1) := by decide +kernel
theorem dX3_order_0 : decode cX3_order 0 = .ok (.iload_n 1, 1) := by decide +kernel
theorem dX3_order_1 : decode cX3_order 1 = .ok (.iconst 1, 1) := by decide +kernel
theorem dX3_order_2 : decode cX3_order 2 = .ok (.if_icmp .lt 21, 3) := by decide +kernel
theorem dX3_order_5 : decode cX3_order 5 = .ok (.iload_n 1, 1) := by decide +kernel
theorem dX3_order_6 : decode cX3_order 6 = .ok (.sipush 2000, 3) := by decide +kernel
theorem dX3_order_9 : decode cX3_order 9 = .ok (.if_icmp .gt 14, 3) := by decide +kernel
theorem dX3_order_12 : decode cX3_order 12 = .ok (.iload_n 2, 1) := by decide +kernel
theorem dX3_order_13 : decode cX3_order 13 = .ok (.ifCond .lt 10, 3) := by decide +kernel
theorem dX3_order_16 : decode cX3_order 16 = .ok (.iload_n 2, 1) := by decide +kernel
theorem dX3_order_17 : decode cX3_order 17 = .ok (.ldc_w 284, 3) := by decide +kernel
theorem dX3_order_20 : decode cX3_order 20 = .ok (.if_icmp .le 6, 3) := by decide +kernel
theorem dX3_order_23 : decode cX3_order 23 = .ok (.bipush (-2), 2) := by decide +kernel
theorem dX3_order_25 : decode cX3_order 25 = .ok (.ireturn, 1) := by decide +kernel
theorem dX3_order_26 : decode cX3_order 26 = .ok (.aload_n 0, 1) := by decide +kernel
theorem dX3_order_27 : decode cX3_order 27 = .ok (.getfield 143, 3) := by decide +kernel
theorem dX3_order_30 : decode cX3_order 30 = .ok (.bipush 6, 2) := by decide +kernel
theorem dX3_order_32 : decode cX3_order 32 = .ok (.if_icmp .lt 6, 3) := by decide +kernel
theorem dX3_order_35 : decode cX3_order 35 = .ok (.bipush (-2), 2) := by decide +kernel
theorem dX3_order_37 : decode cX3_order 37 = .ok (.ireturn, 1) := by decide +kernel
theorem dX3_order_38 : decode cX3_order 38 = .ok (.aload_n 0, 1) := by decide +kernel
theorem dX3_order_39 : decode cX3_order 39 = .ok (.getfield 26, 3) := by decide +kernel
theorem dX3_order_42 : decode cX3_order 42 = .ok (.aload_n 0, 1) := by decide +kernel
theorem dX3_order_43 : decode cX3_order 43 = .ok (.getfield 143, 3) := by decide +kernel
theorem dX3_order_46 : decode cX3_order 46 = .ok (.new 24, 3) := by decide +kernel
theorem dX3_order_49 : decode cX3_order 49 = .ok (.dup, 1) := by decide +kernel
theorem dX3_order_50 : decode cX3_order 50 = .ok (.iload_n 1, 1) := by decide +kernel
theorem dX3_order_51 : decode cX3_order 51 = .ok (.iload_n 2, 1) := by decide +kernel
theorem dX3_order_52 : decode cX3_order 52 = .ok (.i2f, 1) := by decide +kernel
theorem dX3_order_53 : decode cX3_order 53 = .ok (.ldc 44, 2) := by decide +kernel
theorem dX3_order_55 : decode cX3_order 55 = .ok (.fmul, 1) := by decide +kernel
theorem dX3_order_56 : decode cX3_order 56 = .ok (.invokespecial 285, 3) := by decide +kernel
theorem dX3_order_59 : decode cX3_order 59 = .ok (.aastore, 1) := by decide +kernel
theorem dX3_order_60 : decode cX3_order 60 = .ok (.aload_n 0, 1) := by decide +kernel
theorem dX3_order_61 : decode cX3_order 61 = .ok (.dup, 1) := by decide +kernel
theorem dX3_order_62 : decode cX3_order 62 = .ok (.getfield 143, 3) := by decide +kernel
theorem dX3_order_65 : decode cX3_order 65 = .ok (.iconst 1, 1) := by decide +kernel
theorem dX3_order_66 : decode cX3_order 66 = .ok (.iadd, 1) := by decide +kernel
theorem dX3_order_67 : decode cX3_order 67 = .ok (.putfield 143, 3) := by decide +kernel
theorem dX3_order_70 : decode cX3_order 70 = .ok (.aload_n 0, 1) := by decide +kernel
theorem dX3_order_71 : decode cX3_order 71 = .ok (.getfield 143, 3) := by decide +kernel
theorem dX3_order_74 : decode cX3_order 74 = .ok (.iconst 1, 1) := by decide +kernel
theorem dX3_order_75 : decode cX3_order 75 = .ok (.isub, 1) := by decide +kernel
theorem dX3_order_76 : decode cX3_order 76 = .ok (.ireturn, 1) := by decide +kernel
theorem dX3_orderAt_0 : decode cX3_orderAt 0 = .ok (.iload_n 1, 1) := by decide +kernel
theorem dX3_orderAt_1 : decode cX3_orderAt 1 = .ok (.ifCond .lt 17, 3) := by decide +kernel
theorem dX3_orderAt_4 : decode cX3_orderAt 4 = .ok (.iload_n 1, 1) := by decide +kernel
theorem dX3_orderAt_5 : decode cX3_orderAt 5 = .ok (.aload_n 0, 1) := by decide +kernel
theorem dX3_orderAt_6 : decode cX3_orderAt 6 = .ok (.getfield 143, 3) := by decide +kernel
theorem dX3_orderAt_9 : decode cX3_orderAt 9 = .ok (.if_icmp .ge 9, 3) := by decide +kernel
theorem dX3_orderAt_12 : decode cX3_orderAt 12 = .ok (.iload_n 1, 1) := by decide +kernel
theorem dX3_orderAt_13 : decode cX3_orderAt 13 = .ok (.bipush 6, 2) := by decide +kernel
theorem dX3_orderAt_15 : decode cX3_orderAt 15 = .ok (.if_icmp .lt 5, 3) := by decide +kernel
theorem dX3_orderAt_18 : decode cX3_orderAt 18 = .ok (.aconst_null, 1) := by decide +kernel
theorem dX3_orderAt_19 : decode cX3_orderAt 19 = .ok (.areturn, 1) := by decide +kernel
theorem dX3_orderAt_20 : decode cX3_orderAt 20 = .ok (.aload_n 0, 1) := by decide +kernel
theorem dX3_orderAt_21 : decode cX3_orderAt 21 = .ok (.getfield 26, 3) := by decide +kernel
theorem dX3_orderAt_24 : decode cX3_orderAt 24 = .ok (.iload_n 1, 1) := by decide +kernel
theorem dX3_orderAt_25 : decode cX3_orderAt 25 = .ok (.aaload, 1) := by decide +kernel
theorem dX3_orderAt_26 : decode cX3_orderAt 26 = .ok (.areturn, 1) := by decide +kernel
theorem dX3_cut_0 : decode cX3_cut 0 = .ok (.aload_n 0, 1) := by decide +kernel
theorem dX3_cut_1 : decode cX3_cut 1 = .ok (.iload_n 1, 1) := by decide +kernel
theorem dX3_cut_2 : decode cX3_cut 2 = .ok (.invokevirtual 288, 3) := by decide +kernel
theorem dX3_cut_5 : decode cX3_cut 5 = .ok (.astore_n 2, 1) := by decide +kernel
theorem dX3_cut_6 : decode cX3_cut 6 = .ok (.aload_n 2, 1) := by decide +kernel
theorem dX3_cut_7 : decode cX3_cut 7 = .ok (.ifnull 10, 3) := by decide +kernel
theorem dX3_cut_10 : decode cX3_cut 10 = .ok (.aload_n 2, 1) := by decide +kernel
theorem dX3_cut_11 : decode cX3_cut 11 = .ok (.getfield 292, 3) := by decide +kernel
theorem dX3_cut_14 : decode cX3_cut 14 = .ok (.ifCond .lt 6, 3) := by decide +kernel
theorem dX3_cut_17 : decode cX3_cut 17 = .ok (.bipush (-2), 2) := by decide +kernel
theorem dX3_cut_19 : decode cX3_cut 19 = .ok (.ireturn, 1) := by decide +kernel
theorem dX3_cut_20 : decode cX3_cut 20 = .ok (.aload_n 0, 1) := by decide +kernel
theorem dX3_cut_21 : decode cX3_cut 21 = .ok (.invokevirtual 295, 3) := by decide +kernel
theorem dX3_cut_24 : decode cX3_cut 24 = .ok (.aload_n 0, 1) := by decide +kernel
theorem dX3_cut_25 : decode cX3_cut 25 = .ok (.invokevirtual 298, 3) := by decide +kernel
theorem dX3_cut_28 : decode cX3_cut 28 = .ok (.aload_n 0, 1) := by decide +kernel
theorem dX3_cut_29 : decode cX3_cut 29 = .ok (.aload_n 2, 1) := by decide +kernel
theorem dX3_cut_30 : decode cX3_cut 30 = .ok (.bipush 63, 2) := by decide +kernel
theorem dX3_cut_32 : decode cX3_cut 32 = .ok (.invokevirtual 301, 3) := by decide +kernel
theorem dX3_cut_35 : decode cX3_cut 35 = .ok (.istore_n 3, 1) := by decide +kernel
theorem dX3_cut_36 : decode cX3_cut 36 = .ok (.iload_n 3, 1) := by decide +kernel
theorem dX3_cut_37 : decode cX3_cut 37 = .ok (.ifCond .ge 5, 3) := by decide +kernel
theorem dX3_cut_40 : decode cX3_cut 40 = .ok (.iconst (-1), 1) := by decide +kernel
theorem dX3_cut_41 : decode cX3_cut 41 = .ok (.ireturn, 1) := by decide +kernel
theorem dX3_cut_42 : decode cX3_cut 42 = .ok (.aload_n 2, 1) := by decide +kernel
theorem dX3_cut_43 : decode cX3_cut 43 = .ok (.iload_n 3, 1) := by decide +kernel
theorem dX3_cut_44 : decode cX3_cut 44 = .ok (.sipush 10000, 3) := by decide +kernel
theorem dX3_cut_47 : decode cX3_cut 47 = .ok (.idiv, 1) := by decide +kernel
theorem dX3_cut_48 : decode cX3_cut 48 = .ok (.putfield 292, 3) := by decide +kernel
theorem dX3_cut_51 : decode cX3_cut 51 = .ok (.aload_n 2, 1) := by decide +kernel
theorem dX3_cut_52 : decode cX3_cut 52 = .ok (.iload_n 3, 1) := by decide +kernel
theorem dX3_cut_53 : decode cX3_cut 53 = .ok (.sipush 10000, 3) := by decide +kernel
theorem dX3_cut_56 : decode cX3_cut 56 = .ok (.irem, 1) := by decide +kernel
theorem dX3_cut_57 : decode cX3_cut 57 = .ok (.putfield 305, 3) := by decide +kernel
theorem dX3_cut_60 : decode cX3_cut 60 = .ok (.iload_n 3, 1) := by decide +kernel
theorem dX3_cut_61 : decode cX3_cut 61 = .ok (.ireturn, 1) := by decide +kernel
theorem dX3_join_0 : decode cX3_join 0 = .ok (.aload_n 0, 1) := by decide +kernel
theorem dX3_join_1 : decode cX3_join 1 = .ok (.iload_n 1, 1) := by decide +kernel
theorem dX3_join_2 : decode cX3_join 2 = .ok (.invokevirtual 288, 3) := by decide +kernel
theorem dX3_join_5 : decode cX3_join 5 = .ok (.astore_n 2, 1) := by decide +kernel
theorem dX3_join_6 : decode cX3_join 6 = .ok (.aload_n 2, 1) := by decide +kernel
theorem dX3_join_7 : decode cX3_join 7 = .ok (.ifnull 10, 3) := by decide +kernel
theorem dX3_join_10 : decode cX3_join 10 = .ok (.aload_n 2, 1) := by decide +kernel
theorem dX3_join_11 : decode cX3_join 11 = .ok (.getfield 292, 3) := by decide +kernel
theorem dX3_join_14 : decode cX3_join 14 = .ok (.ifCond .ge 6, 3) := by decide +kernel
theorem dX3_join_17 : decode cX3_join 17 = .ok (.bipush (-2), 2) := by decide +kernel
theorem dX3_join_19 : decode cX3_join 19 = .ok (.ireturn, 1) := by decide +kernel
theorem dX3_join_20 : decode cX3_join 20 = .ok (.sipush 10000, 3) := by decide +kernel
theorem dX3_join_23 : decode cX3_join 23 = .ok (.aload_n 2, 1) := by decide +kernel
theorem dX3_join_24 : decode cX3_join 24 = .ok (.getfield 292, 3) := by decide +kernel
theorem dX3_join_27 : decode cX3_join 27 = .ok (.imul, 1) := by decide +kernel
theorem dX3_join_28 : decode cX3_join 28 = .ok (.aload_n 2, 1) := by decide +kernel
theorem dX3_join_29 : decode cX3_join 29 = .ok (.getfield 305, 3) := by decide +kernel
theorem dX3_join_32 : decode cX3_join 32 = .ok (.iadd, 1) := by decide +kernel
theorem dX3_join_33 : decode cX3_join 33 = .ok (.istore_n 3, 1) := by decide +kernel
theorem dX3_join_34 : decode cX3_join 34 = .ok (.aload_n 2, 1) := by decide +kernel
theorem dX3_join_35 : decode cX3_join 35 = .ok (.iconst (-1), 1) := by decide +kernel
theorem dX3_join_36 : decode cX3_join 36 = .ok (.putfield 292, 3) := by decide +kernel
theorem dX3_join_39 : decode cX3_join 39 = .ok (.iload_n 3, 1) := by decide +kernel
theorem dX3_join_40 : decode cX3_join 40 = .ok (.ireturn, 1) := by decide +kernel
theorem dX3_begun_0 : decode cX3_begun 0 = .ok (.iconst 0, 1) := by decide +kernel
theorem dX3_begun_1 : decode cX3_begun 1 = .ok (.istore_n 1, 1) := by decide +kernel
theorem dX3_begun_2 : decode cX3_begun 2 = .ok (.iconst 0, 1) := by decide +kernel
theorem dX3_begun_3 : decode cX3_begun 3 = .ok (.istore_n 2, 1) := by decide +kernel
theorem dX3_begun_4 : decode cX3_begun 4 = .ok (.iload_n 2, 1) := by decide +kernel
theorem dX3_begun_5 : decode cX3_begun 5 = .ok (.bipush 6, 2) := by decide +kernel
theorem dX3_begun_7 : decode cX3_begun 7 = .ok (.if_icmp .ge 25, 3) := by decide +kernel
theorem dX3_begun_10 : decode cX3_begun 10 = .ok (.aload_n 0, 1) := by decide +kernel
theorem dX3_begun_11 : decode cX3_begun 11 = .ok (.iload_n 2, 1) := by decide +kernel
theorem dX3_begun_12 : decode cX3_begun 12 = .ok (.invokevirtual 274, 3) := by decide +kernel
theorem dX3_begun_15 : decode cX3_begun 15 = .ok (.ifCond .eq 11, 3) := by decide +kernel
theorem dX3_begun_18 : decode cX3_begun 18 = .ok (.iload_n 1, 1) := by decide +kernel
theorem dX3_begun_19 : decode cX3_begun 19 = .ok (.aload_n 0, 1) := by decide +kernel
theorem dX3_begun_20 : decode cX3_begun 20 = .ok (.iload_n 2, 1) := by decide +kernel
theorem dX3_begun_21 : decode cX3_begun 21 = .ok (.invokevirtual 308, 3) := by decide +kernel
theorem dX3_begun_24 : decode cX3_begun 24 = .ok (.iadd, 1) := by decide +kernel
theorem dX3_begun_25 : decode cX3_begun 25 = .ok (.istore_n 1, 1) := by decide +kernel
theorem dX3_begun_26 : decode cX3_begun 26 = .ok (.iinc 2 1, 3) := by decide +kernel
theorem dX3_begun_29 : decode cX3_begun 29 = .ok (.goto (-25), 3) := by decide +kernel
theorem dX3_begun_32 : decode cX3_begun 32 = .ok (.iload_n 1, 1) := by decide +kernel
theorem dX3_begun_33 : decode cX3_begun 33 = .ok (.ireturn, 1) := by decide +kernel
theorem dX3_fewest_0 : decode cX3_fewest 0 = .ok (.aload_n 0, 1) := by decide +kernel
theorem dX3_fewest_1 : decode cX3_fewest 1 = .ok (.invokevirtual 146, 3) := by decide +kernel
theorem dX3_fewest_4 : decode cX3_fewest 4 = .ok (.aload_n 0, 1) := by decide +kernel
theorem dX3_fewest_5 : decode cX3_fewest 5 = .ok (.getfield 143, 3) := by decide +kernel
theorem dX3_fewest_8 : decode cX3_fewest 8 = .ok (.if_icmp .ne 5, 3) := by decide +kernel
theorem dX3_fewest_11 : decode cX3_fewest 11 = .ok (.iconst 0, 1) := by decide +kernel
theorem dX3_fewest_12 : decode cX3_fewest 12 = .ok (.ireturn, 1) := by decide +kernel
theorem dX3_fewest_13 : decode cX3_fewest 13 = .ok (.aload_n 0, 1) := by decide +kernel
theorem dX3_fewest_14 : decode cX3_fewest 14 = .ok (.invokevirtual 295, 3) := by decide +kernel
theorem dX3_fewest_17 : decode cX3_fewest 17 = .ok (.aload_n 0, 1) := by decide +kernel
theorem dX3_fewest_18 : decode cX3_fewest 18 = .ok (.invokevirtual 311, 3) := by decide +kernel
theorem dX3_fewest_21 : decode cX3_fewest 21 = .ok (.istore_n 1, 1) := by decide +kernel
theorem dX3_fewest_22 : decode cX3_fewest 22 = .ok (.iconst (-1), 1) := by decide +kernel
theorem dX3_fewest_23 : decode cX3_fewest 23 = .ok (.istore_n 2, 1) := by decide +kernel
theorem dX3_fewest_24 : decode cX3_fewest 24 = .ok (.iconst 1, 1) := by decide +kernel
theorem dX3_fewest_25 : decode cX3_fewest 25 = .ok (.istore_n 3, 1) := by decide +kernel
theorem dX3_fewest_26 : decode cX3_fewest 26 = .ok (.iload_n 3, 1) := by decide +kernel
theorem dX3_fewest_27 : decode cX3_fewest 27 = .ok (.bipush 64, 2) := by decide +kernel
theorem dX3_fewest_29 : decode cX3_fewest 29 = .ok (.if_icmp .ge 45, 3) := by decide +kernel
theorem dX3_fewest_32 : decode cX3_fewest 32 = .ok (.iload_n 3, 1) := by decide +kernel
theorem dX3_fewest_33 : decode cX3_fewest 33 = .ok (.iload_n 1, 1) := by decide +kernel
theorem dX3_fewest_34 : decode cX3_fewest 34 = .ok (.iconst (-1), 1) := by decide +kernel
theorem dX3_fewest_35 : decode cX3_fewest 35 = .ok (.ixor, 1) := by decide +kernel
theorem dX3_fewest_36 : decode cX3_fewest 36 = .ok (.iand, 1) := by decide +kernel
theorem dX3_fewest_37 : decode cX3_fewest 37 = .ok (.ifCond .ne 31, 3) := by decide +kernel
theorem dX3_fewest_40 : decode cX3_fewest 40 = .ok (.aload_n 0, 1) := by decide +kernel
theorem dX3_fewest_41 : decode cX3_fewest 41 = .ok (.iload_n 3, 1) := by decide +kernel
theorem dX3_fewest_42 : decode cX3_fewest 42 = .ok (.invokevirtual 314, 3) := by decide +kernel
theorem dX3_fewest_45 : decode cX3_fewest 45 = .ok (.istore 4, 2) := by decide +kernel
theorem dX3_fewest_47 : decode cX3_fewest 47 = .ok (.iload_n 2, 1) := by decide +kernel
theorem dX3_fewest_48 : decode cX3_fewest 48 = .ok (.ifCond .lt 9, 3) := by decide +kernel
theorem dX3_fewest_51 : decode cX3_fewest 51 = .ok (.iload 4, 2) := by decide +kernel
theorem dX3_fewest_53 : decode cX3_fewest 53 = .ok (.iload_n 2, 1) := by decide +kernel
theorem dX3_fewest_54 : decode cX3_fewest 54 = .ok (.if_icmp .ge 14, 3) := by decide +kernel
theorem dX3_fewest_57 : decode cX3_fewest 57 = .ok (.aload_n 0, 1) := by decide +kernel
theorem dX3_fewest_58 : decode cX3_fewest 58 = .ok (.iload_n 3, 1) := by decide +kernel
theorem dX3_fewest_59 : decode cX3_fewest 59 = .ok (.invokevirtual 317, 3) := by decide +kernel
theorem dX3_fewest_62 : decode cX3_fewest 62 = .ok (.ifCond .eq 6, 3) := by decide +kernel
theorem dX3_fewest_65 : decode cX3_fewest 65 = .ok (.iload 4, 2) := by decide +kernel
theorem dX3_fewest_67 : decode cX3_fewest 67 = .ok (.istore_n 2, 1) := by decide +kernel
theorem dX3_fewest_68 : decode cX3_fewest 68 = .ok (.iinc 3 1, 3) := by decide +kernel
theorem dX3_fewest_71 : decode cX3_fewest 71 = .ok (.goto (-45), 3) := by decide +kernel
theorem dX3_fewest_74 : decode cX3_fewest 74 = .ok (.iload_n 2, 1) := by decide +kernel
theorem dX3_fewest_75 : decode cX3_fewest 75 = .ok (.ireturn, 1) := by decide +kernel
theorem dX3_unbegunReels_0 : decode cX3_unbegunReels 0 = .ok (.iconst 0, 1) := by decide +kernel
theorem dX3_unbegunReels_1 : decode cX3_unbegunReels 1 = .ok (.istore_n 1, 1) := by decide +kernel
theorem dX3_unbegunReels_2 : decode cX3_unbegunReels 2 = .ok (.iconst 0, 1) := by decide +kernel
theorem dX3_unbegunReels_3 : decode cX3_unbegunReels 3 = .ok (.istore_n 2, 1) := by decide +kernel
theorem dX3_unbegunReels_4 : decode cX3_unbegunReels 4 = .ok (.iload_n 2, 1) := by decide +kernel
theorem dX3_unbegunReels_5 : decode cX3_unbegunReels 5 = .ok (.bipush 6, 2) := by decide +kernel
theorem dX3_unbegunReels_7 : decode cX3_unbegunReels 7 = .ok (.if_icmp .ge 35, 3) := by decide +kernel
theorem dX3_unbegunReels_10 : decode cX3_unbegunReels 10 = .ok (.aload_n 0, 1) := by decide +kernel
theorem dX3_unbegunReels_11 : decode cX3_unbegunReels 11 = .ok (.getfield 20, 3) := by decide +kernel
theorem dX3_unbegunReels_14 : decode cX3_unbegunReels 14 = .ok (.iload_n 2, 1) := by decide +kernel
theorem dX3_unbegunReels_15 : decode cX3_unbegunReels 15 = .ok (.aaload, 1) := by decide +kernel
theorem dX3_unbegunReels_16 : decode cX3_unbegunReels 16 = .ok (.getfield 270, 3) := by decide +kernel
theorem dX3_unbegunReels_19 : decode cX3_unbegunReels 19 = .ok (.ifnull 17, 3) := by decide +kernel
theorem dX3_unbegunReels_22 : decode cX3_unbegunReels 22 = .ok (.aload_n 0, 1) := by decide +kernel
theorem dX3_unbegunReels_23 : decode cX3_unbegunReels 23 = .ok (.iload_n 2, 1) := by decide +kernel
theorem dX3_unbegunReels_24 : decode cX3_unbegunReels 24 = .ok (.invokevirtual 274, 3) := by decide +kernel
theorem dX3_unbegunReels_27 : decode cX3_unbegunReels 27 = .ok (.ifCond .ne 9, 3) := by decide +kernel
theorem dX3_unbegunReels_30 : decode cX3_unbegunReels 30 = .ok (.iload_n 1, 1) := by decide +kernel
theorem dX3_unbegunReels_31 : decode cX3_unbegunReels 31 = .ok (.iconst 1, 1) := by decide +kernel
theorem dX3_unbegunReels_32 : decode cX3_unbegunReels 32 = .ok (.iload_n 2, 1) := by decide +kernel
theorem dX3_unbegunReels_33 : decode cX3_unbegunReels 33 = .ok (.ishl, 1) := by decide +kernel
theorem dX3_unbegunReels_34 : decode cX3_unbegunReels 34 = .ok (.ior, 1) := by decide +kernel
theorem dX3_unbegunReels_35 : decode cX3_unbegunReels 35 = .ok (.istore_n 1, 1) := by decide +kernel
theorem dX3_unbegunReels_36 : decode cX3_unbegunReels 36 = .ok (.iinc 2 1, 3) := by decide +kernel
theorem dX3_unbegunReels_39 : decode cX3_unbegunReels 39 = .ok (.goto (-35), 3) := by decide +kernel
theorem dX3_unbegunReels_42 : decode cX3_unbegunReels 42 = .ok (.iload_n 1, 1) := by decide +kernel
theorem dX3_unbegunReels_43 : decode cX3_unbegunReels 43 = .ok (.ireturn, 1) := by decide +kernel
theorem dX3_lengthTogether_0 : decode cX3_lengthTogether 0 = .ok (.iconst 0, 1) := by decide +kernel
theorem dX3_lengthTogether_1 : decode cX3_lengthTogether 1 = .ok (.istore_n 2, 1) := by decide +kernel
theorem dX3_lengthTogether_2 : decode cX3_lengthTogether 2 = .ok (.iconst 0, 1) := by decide +kernel
theorem dX3_lengthTogether_3 : decode cX3_lengthTogether 3 = .ok (.istore_n 3, 1) := by decide +kernel
theorem dX3_lengthTogether_4 : decode cX3_lengthTogether 4 = .ok (.iload_n 3, 1) := by decide +kernel
theorem dX3_lengthTogether_5 : decode cX3_lengthTogether 5 = .ok (.bipush 6, 2) := by decide +kernel
theorem dX3_lengthTogether_7 : decode cX3_lengthTogether 7 = .ok (.if_icmp .ge 26, 3) := by decide +kernel
theorem dX3_lengthTogether_10 : decode cX3_lengthTogether 10 = .ok (.iload_n 1, 1) := by decide +kernel
theorem dX3_lengthTogether_11 : decode cX3_lengthTogether 11 = .ok (.iload_n 3, 1) := by decide +kernel
theorem dX3_lengthTogether_12 : decode cX3_lengthTogether 12 = .ok (.ishr, 1) := by decide +kernel
theorem dX3_lengthTogether_13 : decode cX3_lengthTogether 13 = .ok (.iconst 1, 1) := by decide +kernel
theorem dX3_lengthTogether_14 : decode cX3_lengthTogether 14 = .ok (.iand, 1) := by decide +kernel
theorem dX3_lengthTogether_15 : decode cX3_lengthTogether 15 = .ok (.iconst 1, 1) := by decide +kernel
theorem dX3_lengthTogether_16 : decode cX3_lengthTogether 16 = .ok (.if_icmp .ne 11, 3) := by decide +kernel
theorem dX3_lengthTogether_19 : decode cX3_lengthTogether 19 = .ok (.iload_n 2, 1) := by decide +kernel
theorem dX3_lengthTogether_20 : decode cX3_lengthTogether 20 = .ok (.aload_n 0, 1) := by decide +kernel
theorem dX3_lengthTogether_21 : decode cX3_lengthTogether 21 = .ok (.iload_n 3, 1) := by decide +kernel
theorem dX3_lengthTogether_22 : decode cX3_lengthTogether 22 = .ok (.invokevirtual 308, 3) := by decide +kernel
theorem dX3_lengthTogether_25 : decode cX3_lengthTogether 25 = .ok (.iadd, 1) := by decide +kernel
theorem dX3_lengthTogether_26 : decode cX3_lengthTogether 26 = .ok (.istore_n 2, 1) := by decide +kernel
theorem dX3_lengthTogether_27 : decode cX3_lengthTogether 27 = .ok (.iinc 3 1, 3) := by decide +kernel
theorem dX3_lengthTogether_30 : decode cX3_lengthTogether 30 = .ok (.goto (-26), 3) := by decide +kernel
theorem dX3_lengthTogether_33 : decode cX3_lengthTogether 33 = .ok (.iload_n 2, 1) := by decide +kernel
theorem dX3_lengthTogether_34 : decode cX3_lengthTogether 34 = .ok (.ireturn, 1) := by decide +kernel
theorem dX3_lengthOn_0 : decode cX3_lengthOn 0 = .ok (.iload_n 1, 1) := by decide +kernel
theorem dX3_lengthOn_1 : decode cX3_lengthOn 1 = .ok (.invokestatic 266, 3) := by decide +kernel
theorem dX3_lengthOn_4 : decode cX3_lengthOn 4 = .ok (.ifCond .eq 30, 3) := by decide +kernel
theorem dX3_lengthOn_7 : decode cX3_lengthOn 7 = .ok (.aload_n 0, 1) := by decide +kernel
theorem dX3_lengthOn_8 : decode cX3_lengthOn 8 = .ok (.getfield 20, 3) := by decide +kernel
theorem dX3_lengthOn_11 : decode cX3_lengthOn 11 = .ok (.iload_n 1, 1) := by decide +kernel
theorem dX3_lengthOn_12 : decode cX3_lengthOn 12 = .ok (.aaload, 1) := by decide +kernel
theorem dX3_lengthOn_13 : decode cX3_lengthOn 13 = .ok (.getfield 270, 3) := by decide +kernel
theorem dX3_lengthOn_16 : decode cX3_lengthOn 16 = .ok (.ifnull 18, 3) := by decide +kernel
theorem dX3_lengthOn_19 : decode cX3_lengthOn 19 = .ok (.aload_n 0, 1) := by decide +kernel
theorem dX3_lengthOn_20 : decode cX3_lengthOn 20 = .ok (.getfield 20, 3) := by decide +kernel
theorem dX3_lengthOn_23 : decode cX3_lengthOn 23 = .ok (.iload_n 1, 1) := by decide +kernel
theorem dX3_lengthOn_24 : decode cX3_lengthOn 24 = .ok (.aaload, 1) := by decide +kernel
theorem dX3_lengthOn_25 : decode cX3_lengthOn 25 = .ok (.getfield 270, 3) := by decide +kernel
theorem dX3_lengthOn_28 : decode cX3_lengthOn 28 = .ok (.getfield 113, 3) := by decide +kernel
theorem dX3_lengthOn_31 : decode cX3_lengthOn 31 = .ok (.goto 4, 3) := by decide +kernel
theorem dX3_lengthOn_34 : decode cX3_lengthOn 34 = .ok (.iconst 0, 1) := by decide +kernel
theorem dX3_lengthOn_35 : decode cX3_lengthOn 35 = .ok (.ireturn, 1) := by decide +kernel
theorem dX3_isCutFrom_0 : decode cX3_isCutFrom 0 = .ok (.iconst 0, 1) := by decide +kernel
theorem dX3_isCutFrom_1 : decode cX3_isCutFrom 1 = .ok (.istore_n 2, 1) := by decide +kernel
theorem dX3_isCutFrom_2 : decode cX3_isCutFrom 2 = .ok (.iload_n 2, 1) := by decide +kernel
theorem dX3_isCutFrom_3 : decode cX3_isCutFrom 3 = .ok (.aload_n 0, 1) := by decide +kernel
theorem dX3_isCutFrom_4 : decode cX3_isCutFrom 4 = .ok (.getfield 143, 3) := by decide +kernel
theorem dX3_isCutFrom_7 : decode cX3_isCutFrom 7 = .ok (.if_icmp .ge 39, 3) := by decide +kernel
theorem dX3_isCutFrom_10 : decode cX3_isCutFrom 10 = .ok (.iload_n 2, 1) := by decide +kernel
theorem dX3_isCutFrom_11 : decode cX3_isCutFrom 11 = .ok (.bipush 6, 2) := by decide +kernel
theorem dX3_isCutFrom_13 : decode cX3_isCutFrom 13 = .ok (.if_icmp .ge 33, 3) := by decide +kernel
theorem dX3_isCutFrom_16 : decode cX3_isCutFrom 16 = .ok (.aload_n 0, 1) := by decide +kernel
theorem dX3_isCutFrom_17 : decode cX3_isCutFrom 17 = .ok (.getfield 26, 3) := by decide +kernel
theorem dX3_isCutFrom_20 : decode cX3_isCutFrom 20 = .ok (.iload_n 2, 1) := by decide +kernel
theorem dX3_isCutFrom_21 : decode cX3_isCutFrom 21 = .ok (.aaload, 1) := by decide +kernel
theorem dX3_isCutFrom_22 : decode cX3_isCutFrom 22 = .ok (.ifnull 18, 3) := by decide +kernel
theorem dX3_isCutFrom_25 : decode cX3_isCutFrom 25 = .ok (.aload_n 0, 1) := by decide +kernel
theorem dX3_isCutFrom_26 : decode cX3_isCutFrom 26 = .ok (.getfield 26, 3) := by decide +kernel
theorem dX3_isCutFrom_29 : decode cX3_isCutFrom 29 = .ok (.iload_n 2, 1) := by decide +kernel
theorem dX3_isCutFrom_30 : decode cX3_isCutFrom 30 = .ok (.aaload, 1) := by decide +kernel
theorem dX3_isCutFrom_31 : decode cX3_isCutFrom 31 = .ok (.getfield 292, 3) := by decide +kernel
theorem dX3_isCutFrom_34 : decode cX3_isCutFrom 34 = .ok (.iload_n 1, 1) := by decide +kernel
theorem dX3_isCutFrom_35 : decode cX3_isCutFrom 35 = .ok (.if_icmp .ne 5, 3) := by decide +kernel
theorem dX3_isCutFrom_38 : decode cX3_isCutFrom 38 = .ok (.iconst 1, 1) := by decide +kernel
theorem dX3_isCutFrom_39 : decode cX3_isCutFrom 39 = .ok (.ireturn, 1) := by decide +kernel
theorem dX3_isCutFrom_40 : decode cX3_isCutFrom 40 = .ok (.iinc 2 1, 3) := by decide +kernel
theorem dX3_isCutFrom_43 : decode cX3_isCutFrom 43 = .ok (.goto (-41), 3) := by decide +kernel
theorem dX3_isCutFrom_46 : decode cX3_isCutFrom 46 = .ok (.iconst 0, 1) := by decide +kernel
theorem dX3_isCutFrom_47 : decode cX3_isCutFrom 47 = .ok (.ireturn, 1) := by decide +kernel
theorem dX3_cutOrders_0 : decode cX3_cutOrders 0 = .ok (.iconst 0, 1) := by decide +kernel
theorem dX3_cutOrders_1 : decode cX3_cutOrders 1 = .ok (.istore_n 1, 1) := by decide +kernel
theorem dX3_cutOrders_2 : decode cX3_cutOrders 2 = .ok (.iconst 0, 1) := by decide +kernel
theorem dX3_cutOrders_3 : decode cX3_cutOrders 3 = .ok (.istore_n 2, 1) := by decide +kernel
theorem dX3_cutOrders_4 : decode cX3_cutOrders 4 = .ok (.iload_n 2, 1) := by decide +kernel
theorem dX3_cutOrders_5 : decode cX3_cutOrders 5 = .ok (.aload_n 0, 1) := by decide +kernel
theorem dX3_cutOrders_6 : decode cX3_cutOrders 6 = .ok (.getfield 143, 3) := by decide +kernel
theorem dX3_cutOrders_9 : decode cX3_cutOrders 9 = .ok (.if_icmp .ge 39, 3) := by decide +kernel
theorem dX3_cutOrders_12 : decode cX3_cutOrders 12 = .ok (.iload_n 2, 1) := by decide +kernel
theorem dX3_cutOrders_13 : decode cX3_cutOrders 13 = .ok (.bipush 6, 2) := by decide +kernel
theorem dX3_cutOrders_15 : decode cX3_cutOrders 15 = .ok (.if_icmp .ge 33, 3) := by decide +kernel
theorem dX3_cutOrders_18 : decode cX3_cutOrders 18 = .ok (.aload_n 0, 1) := by decide +kernel
theorem dX3_cutOrders_19 : decode cX3_cutOrders 19 = .ok (.getfield 26, 3) := by decide +kernel
theorem dX3_cutOrders_22 : decode cX3_cutOrders 22 = .ok (.iload_n 2, 1) := by decide +kernel
theorem dX3_cutOrders_23 : decode cX3_cutOrders 23 = .ok (.aaload, 1) := by decide +kernel
theorem dX3_cutOrders_24 : decode cX3_cutOrders 24 = .ok (.ifnull 18, 3) := by decide +kernel
theorem dX3_cutOrders_27 : decode cX3_cutOrders 27 = .ok (.aload_n 0, 1) := by decide +kernel
theorem dX3_cutOrders_28 : decode cX3_cutOrders 28 = .ok (.getfield 26, 3) := by decide +kernel
theorem dX3_cutOrders_31 : decode cX3_cutOrders 31 = .ok (.iload_n 2, 1) := by decide +kernel
theorem dX3_cutOrders_32 : decode cX3_cutOrders 32 = .ok (.aaload, 1) := by decide +kernel
theorem dX3_cutOrders_33 : decode cX3_cutOrders 33 = .ok (.getfield 292, 3) := by decide +kernel
theorem dX3_cutOrders_36 : decode cX3_cutOrders 36 = .ok (.ifCond .lt 6, 3) := by decide +kernel
theorem dX3_cutOrders_39 : decode cX3_cutOrders 39 = .ok (.iinc 1 1, 3) := by decide +kernel
theorem dX3_cutOrders_42 : decode cX3_cutOrders 42 = .ok (.iinc 2 1, 3) := by decide +kernel
theorem dX3_cutOrders_45 : decode cX3_cutOrders 45 = .ok (.goto (-41), 3) := by decide +kernel
theorem dX3_cutOrders_48 : decode cX3_cutOrders 48 = .ok (.iload_n 1, 1) := by decide +kernel
theorem dX3_cutOrders_49 : decode cX3_cutOrders 49 = .ok (.ireturn, 1) := by decide +kernel
theorem dX3_startTrial_0 : decode cX3_startTrial 0 = .ok (.iconst 0, 1) := by decide +kernel
theorem dX3_startTrial_1 : decode cX3_startTrial 1 = .ok (.istore_n 1, 1) := by decide +kernel
theorem dX3_startTrial_2 : decode cX3_startTrial 2 = .ok (.iload_n 1, 1) := by decide +kernel
theorem dX3_startTrial_3 : decode cX3_startTrial 3 = .ok (.aload_n 0, 1) := by decide +kernel
theorem dX3_startTrial_4 : decode cX3_startTrial 4 = .ok (.getfield 143, 3) := by decide +kernel
theorem dX3_startTrial_7 : decode cX3_startTrial 7 = .ok (.if_icmp .ge 60, 3) := by decide +kernel
theorem dX3_startTrial_10 : decode cX3_startTrial 10 = .ok (.iload_n 1, 1) := by decide +kernel
theorem dX3_startTrial_11 : decode cX3_startTrial 11 = .ok (.bipush 6, 2) := by decide +kernel
theorem dX3_startTrial_13 : decode cX3_startTrial 13 = .ok (.if_icmp .ge 54, 3) := by decide +kernel
theorem dX3_startTrial_16 : decode cX3_startTrial 16 = .ok (.aload_n 0, 1) := by decide +kernel
theorem dX3_startTrial_17 : decode cX3_startTrial 17 = .ok (.getfield 26, 3) := by decide +kernel
theorem dX3_startTrial_20 : decode cX3_startTrial 20 = .ok (.iload_n 1, 1) := by decide +kernel
theorem dX3_startTrial_21 : decode cX3_startTrial 21 = .ok (.aaload, 1) := by decide +kernel
theorem dX3_startTrial_22 : decode cX3_startTrial 22 = .ok (.ifnull 39, 3) := by decide +kernel
theorem dX3_startTrial_25 : decode cX3_startTrial 25 = .ok (.aload_n 0, 1) := by decide +kernel
theorem dX3_startTrial_26 : decode cX3_startTrial 26 = .ok (.getfield 26, 3) := by decide +kernel
theorem dX3_startTrial_29 : decode cX3_startTrial 29 = .ok (.iload_n 1, 1) := by decide +kernel
theorem dX3_startTrial_30 : decode cX3_startTrial 30 = .ok (.aaload, 1) := by decide +kernel
theorem dX3_startTrial_31 : decode cX3_startTrial 31 = .ok (.aload_n 0, 1) := by decide +kernel
theorem dX3_startTrial_32 : decode cX3_startTrial 32 = .ok (.getfield 26, 3) := by decide +kernel
theorem dX3_startTrial_35 : decode cX3_startTrial 35 = .ok (.iload_n 1, 1) := by decide +kernel
theorem dX3_startTrial_36 : decode cX3_startTrial 36 = .ok (.aaload, 1) := by decide +kernel
theorem dX3_startTrial_37 : decode cX3_startTrial 37 = .ok (.getfield 292, 3) := by decide +kernel
theorem dX3_startTrial_40 : decode cX3_startTrial 40 = .ok (.putfield 320, 3) := by decide +kernel
theorem dX3_startTrial_43 : decode cX3_startTrial 43 = .ok (.aload_n 0, 1) := by decide +kernel
theorem dX3_startTrial_44 : decode cX3_startTrial 44 = .ok (.getfield 26, 3) := by decide +kernel
theorem dX3_startTrial_47 : decode cX3_startTrial 47 = .ok (.iload_n 1, 1) := by decide +kernel
theorem dX3_startTrial_48 : decode cX3_startTrial 48 = .ok (.aaload, 1) := by decide +kernel
theorem dX3_startTrial_49 : decode cX3_startTrial 49 = .ok (.aload_n 0, 1) := by decide +kernel
theorem dX3_startTrial_50 : decode cX3_startTrial 50 = .ok (.getfield 26, 3) := by decide +kernel
theorem dX3_startTrial_53 : decode cX3_startTrial 53 = .ok (.iload_n 1, 1) := by decide +kernel
theorem dX3_startTrial_54 : decode cX3_startTrial 54 = .ok (.aaload, 1) := by decide +kernel
theorem dX3_startTrial_55 : decode cX3_startTrial 55 = .ok (.getfield 305, 3) := by decide +kernel
theorem dX3_startTrial_58 : decode cX3_startTrial 58 = .ok (.putfield 323, 3) := by decide +kernel
theorem dX3_startTrial_61 : decode cX3_startTrial 61 = .ok (.iinc 1 1, 3) := by decide +kernel
theorem dX3_startTrial_64 : decode cX3_startTrial 64 = .ok (.goto (-62), 3) := by decide +kernel
theorem dX3_startTrial_67 : decode cX3_startTrial 67 = .ok (.return_, 1) := by decide +kernel
theorem dX3_allFit_0 : decode cX3_allFit 0 = .ok (.aload_n 0, 1) := by decide +kernel
theorem dX3_allFit_1 : decode cX3_allFit 1 = .ok (.invokevirtual 298, 3) := by decide +kernel
theorem dX3_allFit_4 : decode cX3_allFit 4 = .ok (.iconst 0, 1) := by decide +kernel
theorem dX3_allFit_5 : decode cX3_allFit 5 = .ok (.istore_n 2, 1) := by decide +kernel
theorem dX3_allFit_6 : decode cX3_allFit 6 = .ok (.iload_n 2, 1) := by decide +kernel
theorem dX3_allFit_7 : decode cX3_allFit 7 = .ok (.aload_n 0, 1) := by decide +kernel
theorem dX3_allFit_8 : decode cX3_allFit 8 = .ok (.getfield 143, 3) := by decide +kernel
theorem dX3_allFit_11 : decode cX3_allFit 11 = .ok (.if_icmp .ge 68, 3) := by decide +kernel
theorem dX3_allFit_14 : decode cX3_allFit 14 = .ok (.iload_n 2, 1) := by decide +kernel
theorem dX3_allFit_15 : decode cX3_allFit 15 = .ok (.bipush 6, 2) := by decide +kernel
theorem dX3_allFit_17 : decode cX3_allFit 17 = .ok (.if_icmp .ge 62, 3) := by decide +kernel
theorem dX3_allFit_20 : decode cX3_allFit 20 = .ok (.aload_n 0, 1) := by decide +kernel
theorem dX3_allFit_21 : decode cX3_allFit 21 = .ok (.getfield 26, 3) := by decide +kernel
theorem dX3_allFit_24 : decode cX3_allFit 24 = .ok (.iload_n 2, 1) := by decide +kernel
theorem dX3_allFit_25 : decode cX3_allFit 25 = .ok (.aaload, 1) := by decide +kernel
theorem dX3_allFit_26 : decode cX3_allFit 26 = .ok (.astore_n 3, 1) := by decide +kernel
theorem dX3_allFit_27 : decode cX3_allFit 27 = .ok (.aload_n 3, 1) := by decide +kernel
theorem dX3_allFit_28 : decode cX3_allFit 28 = .ok (.ifnull 45, 3) := by decide +kernel
theorem dX3_allFit_31 : decode cX3_allFit 31 = .ok (.aload_n 3, 1) := by decide +kernel
theorem dX3_allFit_32 : decode cX3_allFit 32 = .ok (.getfield 292, 3) := by decide +kernel
theorem dX3_allFit_35 : decode cX3_allFit 35 = .ok (.ifCond .ge 38, 3) := by decide +kernel
theorem dX3_allFit_38 : decode cX3_allFit 38 = .ok (.aload_n 0, 1) := by decide +kernel
theorem dX3_allFit_39 : decode cX3_allFit 39 = .ok (.aload_n 3, 1) := by decide +kernel
theorem dX3_allFit_40 : decode cX3_allFit 40 = .ok (.iload_n 1, 1) := by decide +kernel
theorem dX3_allFit_41 : decode cX3_allFit 41 = .ok (.invokevirtual 301, 3) := by decide +kernel
theorem dX3_allFit_44 : decode cX3_allFit 44 = .ok (.istore 4, 2) := by decide +kernel
theorem dX3_allFit_46 : decode cX3_allFit 46 = .ok (.iload 4, 2) := by decide +kernel
theorem dX3_allFit_48 : decode cX3_allFit 48 = .ok (.ifCond .ge 5, 3) := by decide +kernel
theorem dX3_allFit_51 : decode cX3_allFit 51 = .ok (.iconst 0, 1) := by decide +kernel
theorem dX3_allFit_52 : decode cX3_allFit 52 = .ok (.ireturn, 1) := by decide +kernel
theorem dX3_allFit_53 : decode cX3_allFit 53 = .ok (.aload_n 3, 1) := by decide +kernel
theorem dX3_allFit_54 : decode cX3_allFit 54 = .ok (.iload 4, 2) := by decide +kernel
theorem dX3_allFit_56 : decode cX3_allFit 56 = .ok (.sipush 10000, 3) := by decide +kernel
theorem dX3_allFit_59 : decode cX3_allFit 59 = .ok (.idiv, 1) := by decide +kernel
theorem dX3_allFit_60 : decode cX3_allFit 60 = .ok (.putfield 320, 3) := by decide +kernel
theorem dX3_allFit_63 : decode cX3_allFit 63 = .ok (.aload_n 3, 1) := by decide +kernel
theorem dX3_allFit_64 : decode cX3_allFit 64 = .ok (.iload 4, 2) := by decide +kernel
theorem dX3_allFit_66 : decode cX3_allFit 66 = .ok (.sipush 10000, 3) := by decide +kernel
theorem dX3_allFit_69 : decode cX3_allFit 69 = .ok (.irem, 1) := by decide +kernel
theorem dX3_allFit_70 : decode cX3_allFit 70 = .ok (.putfield 323, 3) := by decide +kernel
theorem dX3_allFit_73 : decode cX3_allFit 73 = .ok (.iinc 2 1, 3) := by decide +kernel
theorem dX3_allFit_76 : decode cX3_allFit 76 = .ok (.goto (-70), 3) := by decide +kernel
theorem dX3_allFit_79 : decode cX3_allFit 79 = .ok (.iconst 1, 1) := by decide +kernel
theorem dX3_allFit_80 : decode cX3_allFit 80 = .ok (.ireturn, 1) := by decide +kernel
theorem dX3_firstFit_0 : decode cX3_firstFit 0 = .ok (.iconst 0, 1) := by decide +kernel
theorem dX3_firstFit_1 : decode cX3_firstFit 1 = .ok (.istore_n 3, 1) := by decide +kernel
theorem dX3_firstFit_2 : decode cX3_firstFit 2 = .ok (.iload_n 3, 1) := by decide +kernel
theorem dX3_firstFit_3 : decode cX3_firstFit 3 = .ok (.bipush 6, 2) := by decide +kernel
theorem dX3_firstFit_5 : decode cX3_firstFit 5 = .ok (.if_icmp .ge 40, 3) := by decide +kernel
theorem dX3_firstFit_8 : decode cX3_firstFit 8 = .ok (.iload_n 2, 1) := by decide +kernel
theorem dX3_firstFit_9 : decode cX3_firstFit 9 = .ok (.iload_n 3, 1) := by decide +kernel
theorem dX3_firstFit_10 : decode cX3_firstFit 10 = .ok (.ishr, 1) := by decide +kernel
theorem dX3_firstFit_11 : decode cX3_firstFit 11 = .ok (.iconst 1, 1) := by decide +kernel
theorem dX3_firstFit_12 : decode cX3_firstFit 12 = .ok (.iand, 1) := by decide +kernel
theorem dX3_firstFit_13 : decode cX3_firstFit 13 = .ok (.iconst 1, 1) := by decide +kernel
theorem dX3_firstFit_14 : decode cX3_firstFit 14 = .ok (.if_icmp .ne 25, 3) := by decide +kernel
theorem dX3_firstFit_17 : decode cX3_firstFit 17 = .ok (.aload_n 0, 1) := by decide +kernel
theorem dX3_firstFit_18 : decode cX3_firstFit 18 = .ok (.iload_n 3, 1) := by decide +kernel
theorem dX3_firstFit_19 : decode cX3_firstFit 19 = .ok (.aload_n 1, 1) := by decide +kernel
theorem dX3_firstFit_20 : decode cX3_firstFit 20 = .ok (.invokevirtual 326, 3) := by decide +kernel
theorem dX3_firstFit_23 : decode cX3_firstFit 23 = .ok (.istore 4, 2) := by decide +kernel
theorem dX3_firstFit_25 : decode cX3_firstFit 25 = .ok (.iload 4, 2) := by decide +kernel
theorem dX3_firstFit_27 : decode cX3_firstFit 27 = .ok (.ifCond .lt 12, 3) := by decide +kernel
theorem dX3_firstFit_30 : decode cX3_firstFit 30 = .ok (.sipush 10000, 3) := by decide +kernel
theorem dX3_firstFit_33 : decode cX3_firstFit 33 = .ok (.iload_n 3, 1) := by decide +kernel
theorem dX3_firstFit_34 : decode cX3_firstFit 34 = .ok (.imul, 1) := by decide +kernel
theorem dX3_firstFit_35 : decode cX3_firstFit 35 = .ok (.iload 4, 2) := by decide +kernel
theorem dX3_firstFit_37 : decode cX3_firstFit 37 = .ok (.iadd, 1) := by decide +kernel
theorem dX3_firstFit_38 : decode cX3_firstFit 38 = .ok (.ireturn, 1) := by decide +kernel
theorem dX3_firstFit_39 : decode cX3_firstFit 39 = .ok (.iinc 3 1, 3) := by decide +kernel
theorem dX3_firstFit_42 : decode cX3_firstFit 42 = .ok (.goto (-40), 3) := by decide +kernel
theorem dX3_firstFit_45 : decode cX3_firstFit 45 = .ok (.iconst (-1), 1) := by decide +kernel
theorem dX3_firstFit_46 : decode cX3_firstFit 46 = .ok (.ireturn, 1) := by decide +kernel
theorem dX3_fitOn_0 : decode cX3_fitOn 0 = .ok (.iload_n 1, 1) := by decide +kernel
theorem dX3_fitOn_1 : decode cX3_fitOn 1 = .ok (.invokestatic 266, 3) := by decide +kernel
theorem dX3_fitOn_4 : decode cX3_fitOn 4 = .ok (.ifCond .ne 5, 3) := by decide +kernel
theorem dX3_fitOn_7 : decode cX3_fitOn 7 = .ok (.iconst (-1), 1) := by decide +kernel
theorem dX3_fitOn_8 : decode cX3_fitOn 8 = .ok (.ireturn, 1) := by decide +kernel
theorem dX3_fitOn_9 : decode cX3_fitOn 9 = .ok (.aload_n 0, 1) := by decide +kernel
theorem dX3_fitOn_10 : decode cX3_fitOn 10 = .ok (.getfield 20, 3) := by decide +kernel
theorem dX3_fitOn_13 : decode cX3_fitOn 13 = .ok (.iload_n 1, 1) := by decide +kernel
theorem dX3_fitOn_14 : decode cX3_fitOn 14 = .ok (.aaload, 1) := by decide +kernel
theorem dX3_fitOn_15 : decode cX3_fitOn 15 = .ok (.astore_n 3, 1) := by decide +kernel
theorem dX3_fitOn_16 : decode cX3_fitOn 16 = .ok (.iconst 0, 1) := by decide +kernel
theorem dX3_fitOn_17 : decode cX3_fitOn 17 = .ok (.istore 4, 2) := by decide +kernel
theorem dX3_fitOn_19 : decode cX3_fitOn 19 = .ok (.iconst 0, 1) := by decide +kernel
theorem dX3_fitOn_20 : decode cX3_fitOn 20 = .ok (.istore 5, 2) := by decide +kernel
theorem dX3_fitOn_22 : decode cX3_fitOn 22 = .ok (.iload 5, 2) := by decide +kernel
theorem dX3_fitOn_24 : decode cX3_fitOn 24 = .ok (.aload_n 3, 1) := by decide +kernel
theorem dX3_fitOn_25 : decode cX3_fitOn 25 = .ok (.getfield 330, 3) := by decide +kernel
theorem dX3_fitOn_28 : decode cX3_fitOn 28 = .ok (.if_icmp .ge 82, 3) := by decide +kernel
theorem dX3_fitOn_31 : decode cX3_fitOn 31 = .ok (.iload 5, 2) := by decide +kernel
theorem dX3_fitOn_33 : decode cX3_fitOn 33 = .ok (.sipush 2000, 3) := by decide +kernel
theorem dX3_fitOn_36 : decode cX3_fitOn 36 = .ok (.if_icmp .ge 74, 3) := by decide +kernel
theorem dX3_fitOn_39 : decode cX3_fitOn 39 = .ok (.aload_n 3, 1) := by decide +kernel
theorem dX3_fitOn_40 : decode cX3_fitOn 40 = .ok (.getfield 333, 3) := by decide +kernel
theorem dX3_fitOn_43 : decode cX3_fitOn 43 = .ok (.iload 5, 2) := by decide +kernel
theorem dX3_fitOn_45 : decode cX3_fitOn 45 = .ok (.faload, 1) := by decide +kernel
theorem dX3_fitOn_46 : decode cX3_fitOn 46 = .ok (.aload_n 2, 1) := by decide +kernel
theorem dX3_fitOn_47 : decode cX3_fitOn 47 = .ok (.getfield 337, 3) := by decide +kernel
theorem dX3_fitOn_50 : decode cX3_fitOn 50 = .ok (.fcmp .g, 1) := by decide +kernel
theorem dX3_fitOn_51 : decode cX3_fitOn 51 = .ok (.ifCond .ge 20, 3) := by decide +kernel
theorem dX3_fitOn_54 : decode cX3_fitOn 54 = .ok (.iload 4, 2) := by decide +kernel
theorem dX3_fitOn_56 : decode cX3_fitOn 56 = .ok (.aload_n 3, 1) := by decide +kernel
theorem dX3_fitOn_57 : decode cX3_fitOn 57 = .ok (.getfield 340, 3) := by decide +kernel
theorem dX3_fitOn_60 : decode cX3_fitOn 60 = .ok (.iload 5, 2) := by decide +kernel
theorem dX3_fitOn_62 : decode cX3_fitOn 62 = .ok (.iaload, 1) := by decide +kernel
theorem dX3_fitOn_63 : decode cX3_fitOn 63 = .ok (.invokestatic 122, 3) := by decide +kernel
theorem dX3_fitOn_66 : decode cX3_fitOn 66 = .ok (.istore 4, 2) := by decide +kernel
theorem dX3_fitOn_68 : decode cX3_fitOn 68 = .ok (.goto 36, 3) := by decide +kernel
theorem dX3_fitOn_71 : decode cX3_fitOn 71 = .ok (.aload_n 0, 1) := by decide +kernel
theorem dX3_fitOn_72 : decode cX3_fitOn 72 = .ok (.iload_n 1, 1) := by decide +kernel
theorem dX3_fitOn_73 : decode cX3_fitOn 73 = .ok (.iload 4, 2) := by decide +kernel
theorem dX3_fitOn_75 : decode cX3_fitOn 75 = .ok (.aload_n 2, 1) := by decide +kernel
theorem dX3_fitOn_76 : decode cX3_fitOn 76 = .ok (.getfield 343, 3) := by decide +kernel
theorem dX3_fitOn_79 : decode cX3_fitOn 79 = .ok (.invokevirtual 344, 3) := by decide +kernel
theorem dX3_fitOn_82 : decode cX3_fitOn 82 = .ok (.istore 4, 2) := by decide +kernel
theorem dX3_fitOn_84 : decode cX3_fitOn 84 = .ok (.iload 4, 2) := by decide +kernel
theorem dX3_fitOn_86 : decode cX3_fitOn 86 = .ok (.aload_n 2, 1) := by decide +kernel
theorem dX3_fitOn_87 : decode cX3_fitOn 87 = .ok (.getfield 343, 3) := by decide +kernel
theorem dX3_fitOn_90 : decode cX3_fitOn 90 = .ok (.iadd, 1) := by decide +kernel
theorem dX3_fitOn_91 : decode cX3_fitOn 91 = .ok (.aload_n 3, 1) := by decide +kernel
theorem dX3_fitOn_92 : decode cX3_fitOn 92 = .ok (.getfield 340, 3) := by decide +kernel
theorem dX3_fitOn_95 : decode cX3_fitOn 95 = .ok (.iload 5, 2) := by decide +kernel
theorem dX3_fitOn_97 : decode cX3_fitOn 97 = .ok (.iaload, 1) := by decide +kernel
theorem dX3_fitOn_98 : decode cX3_fitOn 98 = .ok (.if_icmp .gt 6, 3) := by decide +kernel
theorem dX3_fitOn_101 : decode cX3_fitOn 101 = .ok (.iload 4, 2) := by decide +kernel
theorem dX3_fitOn_103 : decode cX3_fitOn 103 = .ok (.ireturn, 1) := by decide +kernel
theorem dX3_fitOn_104 : decode cX3_fitOn 104 = .ok (.iinc 5 1, 3) := by decide +kernel
theorem dX3_fitOn_107 : decode cX3_fitOn 107 = .ok (.goto (-85), 3) := by decide +kernel
theorem dX3_fitOn_110 : decode cX3_fitOn 110 = .ok (.iconst (-1), 1) := by decide +kernel
theorem dX3_fitOn_111 : decode cX3_fitOn 111 = .ok (.ireturn, 1) := by decide +kernel
theorem dX3_besideTrials_0 : decode cX3_besideTrials 0 = .ok (.iload_n 2, 1) := by decide +kernel
theorem dX3_besideTrials_1 : decode cX3_besideTrials 1 = .ok (.istore 4, 2) := by decide +kernel
theorem dX3_besideTrials_3 : decode cX3_besideTrials 3 = .ok (.iconst 0, 1) := by decide +kernel
theorem dX3_besideTrials_4 : decode cX3_besideTrials 4 = .ok (.istore 5, 2) := by decide +kernel
theorem dX3_besideTrials_6 : decode cX3_besideTrials 6 = .ok (.iload 5, 2) := by decide +kernel
theorem dX3_besideTrials_8 : decode cX3_besideTrials 8 = .ok (.bipush 6, 2) := by decide +kernel
theorem dX3_besideTrials_10 : decode cX3_besideTrials 10 = .ok (.if_icmp .ge 98, 3) := by decide +kernel
theorem dX3_besideTrials_13 : decode cX3_besideTrials 13 = .ok (.iconst 0, 1) := by decide +kernel
theorem dX3_besideTrials_14 : decode cX3_besideTrials 14 = .ok (.istore 6, 2) := by decide +kernel
theorem dX3_besideTrials_16 : decode cX3_besideTrials 16 = .ok (.iload 6, 2) := by decide +kernel
theorem dX3_besideTrials_18 : decode cX3_besideTrials 18 = .ok (.aload_n 0, 1) := by decide +kernel
theorem dX3_besideTrials_19 : decode cX3_besideTrials 19 = .ok (.getfield 143, 3) := by decide +kernel
theorem dX3_besideTrials_22 : decode cX3_besideTrials 22 = .ok (.if_icmp .ge 80, 3) := by decide +kernel
theorem dX3_besideTrials_25 : decode cX3_besideTrials 25 = .ok (.iload 6, 2) := by decide +kernel
theorem dX3_besideTrials_27 : decode cX3_besideTrials 27 = .ok (.bipush 6, 2) := by decide +kernel
theorem dX3_besideTrials_29 : decode cX3_besideTrials 29 = .ok (.if_icmp .ge 73, 3) := by decide +kernel
theorem dX3_besideTrials_32 : decode cX3_besideTrials 32 = .ok (.aload_n 0, 1) := by decide +kernel
theorem dX3_besideTrials_33 : decode cX3_besideTrials 33 = .ok (.getfield 26, 3) := by decide +kernel
theorem dX3_besideTrials_36 : decode cX3_besideTrials 36 = .ok (.iload 6, 2) := by decide +kernel
theorem dX3_besideTrials_38 : decode cX3_besideTrials 38 = .ok (.aaload, 1) := by decide +kernel
theorem dX3_besideTrials_39 : decode cX3_besideTrials 39 = .ok (.astore 7, 2) := by decide +kernel
theorem dX3_besideTrials_41 : decode cX3_besideTrials 41 = .ok (.aload 7, 2) := by decide +kernel
theorem dX3_besideTrials_43 : decode cX3_besideTrials 43 = .ok (.ifnull 53, 3) := by decide +kernel
theorem dX3_besideTrials_46 : decode cX3_besideTrials 46 = .ok (.aload 7, 2) := by decide +kernel
theorem dX3_besideTrials_48 : decode cX3_besideTrials 48 = .ok (.getfield 320, 3) := by decide +kernel
theorem dX3_besideTrials_51 : decode cX3_besideTrials 51 = .ok (.iload_n 1, 1) := by decide +kernel
theorem dX3_besideTrials_52 : decode cX3_besideTrials 52 = .ok (.if_icmp .ne 44, 3) := by decide +kernel
theorem dX3_besideTrials_55 : decode cX3_besideTrials 55 = .ok (.iload 4, 2) := by decide +kernel
theorem dX3_besideTrials_57 : decode cX3_besideTrials 57 = .ok (.aload 7, 2) := by decide +kernel
theorem dX3_besideTrials_59 : decode cX3_besideTrials 59 = .ok (.getfield 323, 3) := by decide +kernel
theorem dX3_besideTrials_62 : decode cX3_besideTrials 62 = .ok (.aload 7, 2) := by decide +kernel
theorem dX3_besideTrials_64 : decode cX3_besideTrials 64 = .ok (.getfield 343, 3) := by decide +kernel
theorem dX3_besideTrials_67 : decode cX3_besideTrials 67 = .ok (.iadd, 1) := by decide +kernel
theorem dX3_besideTrials_68 : decode cX3_besideTrials 68 = .ok (.if_icmp .ge 28, 3) := by decide +kernel
theorem dX3_besideTrials_71 : decode cX3_besideTrials 71 = .ok (.aload 7, 2) := by decide +kernel
theorem dX3_besideTrials_73 : decode cX3_besideTrials 73 = .ok (.getfield 323, 3) := by decide +kernel
theorem dX3_besideTrials_76 : decode cX3_besideTrials 76 = .ok (.iload 4, 2) := by decide +kernel
theorem dX3_besideTrials_78 : decode cX3_besideTrials 78 = .ok (.iload_n 3, 1) := by decide +kernel
theorem dX3_besideTrials_79 : decode cX3_besideTrials 79 = .ok (.iadd, 1) := by decide +kernel
theorem dX3_besideTrials_80 : decode cX3_besideTrials 80 = .ok (.if_icmp .ge 16, 3) := by decide +kernel
theorem dX3_besideTrials_83 : decode cX3_besideTrials 83 = .ok (.aload 7, 2) := by decide +kernel
theorem dX3_besideTrials_85 : decode cX3_besideTrials 85 = .ok (.getfield 323, 3) := by decide +kernel
theorem dX3_besideTrials_88 : decode cX3_besideTrials 88 = .ok (.aload 7, 2) := by decide +kernel
theorem dX3_besideTrials_90 : decode cX3_besideTrials 90 = .ok (.getfield 343, 3) := by decide +kernel
theorem dX3_besideTrials_93 : decode cX3_besideTrials 93 = .ok (.iadd, 1) := by decide +kernel
theorem dX3_besideTrials_94 : decode cX3_besideTrials 94 = .ok (.istore 4, 2) := by decide +kernel
theorem dX3_besideTrials_96 : decode cX3_besideTrials 96 = .ok (.iinc 6 1, 3) := by decide +kernel
theorem dX3_besideTrials_99 : decode cX3_besideTrials 99 = .ok (.goto (-83), 3) := by decide +kernel
theorem dX3_besideTrials_102 : decode cX3_besideTrials 102 = .ok (.iinc 5 1, 3) := by decide +kernel
theorem dX3_besideTrials_105 : decode cX3_besideTrials 105 = .ok (.goto (-99), 3) := by decide +kernel
theorem dX3_besideTrials_108 : decode cX3_besideTrials 108 = .ok (.iload 4, 2) := by decide +kernel
theorem dX3_besideTrials_110 : decode cX3_besideTrials 110 = .ok (.ireturn, 1) := by decide +kernel
theorem dX3_measureReels_0 : decode cX3_measureReels 0 = .ok (.iconst 0, 1) := by decide +kernel
theorem dX3_measureReels_1 : decode cX3_measureReels 1 = .ok (.istore_n 1, 1) := by decide +kernel
theorem dX3_measureReels_2 : decode cX3_measureReels 2 = .ok (.iload_n 1, 1) := by decide +kernel
theorem dX3_measureReels_3 : decode cX3_measureReels 3 = .ok (.bipush 6, 2) := by decide +kernel
theorem dX3_measureReels_5 : decode cX3_measureReels 5 = .ok (.if_icmp .ge 18, 3) := by decide +kernel
theorem dX3_measureReels_8 : decode cX3_measureReels 8 = .ok (.aload_n 0, 1) := by decide +kernel
theorem dX3_measureReels_9 : decode cX3_measureReels 9 = .ok (.getfield 20, 3) := by decide +kernel
theorem dX3_measureReels_12 : decode cX3_measureReels 12 = .ok (.iload_n 1, 1) := by decide +kernel
theorem dX3_measureReels_13 : decode cX3_measureReels 13 = .ok (.aaload, 1) := by decide +kernel
theorem dX3_measureReels_14 : decode cX3_measureReels 14 = .ok (.invokestatic 347, 3) := by decide +kernel
theorem dX3_measureReels_17 : decode cX3_measureReels 17 = .ok (.iinc 1 1, 3) := by decide +kernel
theorem dX3_measureReels_20 : decode cX3_measureReels 20 = .ok (.goto (-18), 3) := by decide +kernel
theorem dX3_measureReels_23 : decode cX3_measureReels 23 = .ok (.return_, 1) := by decide +kernel
theorem dX3_measure_0 : decode cX3_measure 0 = .ok (.aload_n 0, 1) := by decide +kernel
theorem dX3_measure_1 : decode cX3_measure 1 = .ok (.getfield 270, 3) := by decide +kernel
theorem dX3_measure_4 : decode cX3_measure 4 = .ok (.astore_n 1, 1) := by decide +kernel
theorem dX3_measure_5 : decode cX3_measure 5 = .ok (.iconst 0, 1) := by decide +kernel
theorem dX3_measure_6 : decode cX3_measure 6 = .ok (.istore_n 2, 1) := by decide +kernel
theorem dX3_measure_7 : decode cX3_measure 7 = .ok (.aload_n 0, 1) := by decide +kernel
theorem dX3_measure_8 : decode cX3_measure 8 = .ok (.iconst 0, 1) := by decide +kernel
theorem dX3_measure_9 : decode cX3_measure 9 = .ok (.putfield 330, 3) := by decide +kernel
theorem dX3_measure_12 : decode cX3_measure 12 = .ok (.iconst 0, 1) := by decide +kernel
theorem dX3_measure_13 : decode cX3_measure 13 = .ok (.istore_n 3, 1) := by decide +kernel
theorem dX3_measure_14 : decode cX3_measure 14 = .ok (.aload_n 1, 1) := by decide +kernel
theorem dX3_measure_15 : decode cX3_measure 15 = .ok (.ifnull 63, 3) := by decide +kernel
theorem dX3_measure_18 : decode cX3_measure 18 = .ok (.iload_n 2, 1) := by decide +kernel
theorem dX3_measure_19 : decode cX3_measure 19 = .ok (.aload_n 1, 1) := by decide +kernel
theorem dX3_measure_20 : decode cX3_measure 20 = .ok (.getfield 113, 3) := by decide +kernel
theorem dX3_measure_23 : decode cX3_measure 23 = .ok (.if_icmp .ge 55, 3) := by decide +kernel
theorem dX3_measure_26 : decode cX3_measure 26 = .ok (.iload_n 3, 1) := by decide +kernel
theorem dX3_measure_27 : decode cX3_measure 27 = .ok (.sipush 2000, 3) := by decide +kernel
theorem dX3_measure_30 : decode cX3_measure 30 = .ok (.if_icmp .ge 48, 3) := by decide +kernel
theorem dX3_measure_33 : decode cX3_measure 33 = .ok (.aload_n 0, 1) := by decide +kernel
theorem dX3_measure_34 : decode cX3_measure 34 = .ok (.getfield 333, 3) := by decide +kernel
theorem dX3_measure_37 : decode cX3_measure 37 = .ok (.iload_n 3, 1) := by decide +kernel
theorem dX3_measure_38 : decode cX3_measure 38 = .ok (.aload_n 1, 1) := by decide +kernel
theorem dX3_measure_39 : decode cX3_measure 39 = .ok (.iload_n 2, 1) := by decide +kernel
theorem dX3_measure_40 : decode cX3_measure 40 = .ok (.iconst 0, 1) := by decide +kernel
theorem dX3_measure_41 : decode cX3_measure 41 = .ok (.invokestatic 192, 3) := by decide +kernel
theorem dX3_measure_44 : decode cX3_measure 44 = .ok (.fastore, 1) := by decide +kernel
theorem dX3_measure_45 : decode cX3_measure 45 = .ok (.iload_n 2, 1) := by decide +kernel
theorem dX3_measure_46 : decode cX3_measure 46 = .ok (.iconst 1, 1) := by decide +kernel
theorem dX3_measure_47 : decode cX3_measure 47 = .ok (.iadd, 1) := by decide +kernel
theorem dX3_measure_48 : decode cX3_measure 48 = .ok (.aload_n 1, 1) := by decide +kernel
theorem dX3_measure_49 : decode cX3_measure 49 = .ok (.iload_n 2, 1) := by decide +kernel
theorem dX3_measure_50 : decode cX3_measure 50 = .ok (.iconst 0, 1) := by decide +kernel
theorem dX3_measure_51 : decode cX3_measure 51 = .ok (.invokestatic 213, 3) := by decide +kernel
theorem dX3_measure_54 : decode cX3_measure 54 = .ok (.invokestatic 122, 3) := by decide +kernel
theorem dX3_measure_57 : decode cX3_measure 57 = .ok (.istore_n 2, 1) := by decide +kernel
theorem dX3_measure_58 : decode cX3_measure 58 = .ok (.aload_n 0, 1) := by decide +kernel
theorem dX3_measure_59 : decode cX3_measure 59 = .ok (.getfield 340, 3) := by decide +kernel
theorem dX3_measure_62 : decode cX3_measure 62 = .ok (.iload_n 3, 1) := by decide +kernel
theorem dX3_measure_63 : decode cX3_measure 63 = .ok (.iload_n 2, 1) := by decide +kernel
theorem dX3_measure_64 : decode cX3_measure 64 = .ok (.iastore, 1) := by decide +kernel
theorem dX3_measure_65 : decode cX3_measure 65 = .ok (.aload_n 0, 1) := by decide +kernel
theorem dX3_measure_66 : decode cX3_measure 66 = .ok (.iload_n 3, 1) := by decide +kernel
theorem dX3_measure_67 : decode cX3_measure 67 = .ok (.iconst 1, 1) := by decide +kernel
theorem dX3_measure_68 : decode cX3_measure 68 = .ok (.iadd, 1) := by decide +kernel
theorem dX3_measure_69 : decode cX3_measure 69 = .ok (.putfield 330, 3) := by decide +kernel
theorem dX3_measure_72 : decode cX3_measure 72 = .ok (.iinc 3 1, 3) := by decide +kernel
theorem dX3_measure_75 : decode cX3_measure 75 = .ok (.goto (-61), 3) := by decide +kernel
theorem dX3_measure_78 : decode cX3_measure 78 = .ok (.return_, 1) := by decide +kernel
theorem dX3_stage_0 : decode cX3_stage 0 = .ok (.iload_n 1, 1) := by decide +kernel
theorem dX3_stage_1 : decode cX3_stage 1 = .ok (.ifCond .lt 18, 3) := by decide +kernel
theorem dX3_stage_4 : decode cX3_stage 4 = .ok (.iload_n 1, 1) := by decide +kernel
theorem dX3_stage_5 : decode cX3_stage 5 = .ok (.bipush 8, 2) := by decide +kernel
theorem dX3_stage_7 : decode cX3_stage 7 = .ok (.if_icmp .gt 12, 3) := by decide +kernel
theorem dX3_stage_10 : decode cX3_stage 10 = .ok (.aload_n 0, 1) := by decide +kernel
theorem dX3_stage_11 : decode cX3_stage 11 = .ok (.getfield 149, 3) := by decide +kernel
theorem dX3_stage_14 : decode cX3_stage 14 = .ok (.bipush 10, 2) := by decide +kernel
theorem dX3_stage_16 : decode cX3_stage 16 = .ok (.if_icmp .lt 6, 3) := by decide +kernel
theorem dX3_stage_19 : decode cX3_stage 19 = .ok (.bipush (-2), 2) := by decide +kernel
theorem dX3_stage_21 : decode cX3_stage 21 = .ok (.ireturn, 1) := by decide +kernel
theorem dX3_stage_22 : decode cX3_stage 22 = .ok (.aload_n 0, 1) := by decide +kernel
theorem dX3_stage_23 : decode cX3_stage 23 = .ok (.getfield 30, 3) := by decide +kernel
theorem dX3_stage_26 : decode cX3_stage 26 = .ok (.aload_n 0, 1) := by decide +kernel
theorem dX3_stage_27 : decode cX3_stage 27 = .ok (.getfield 149, 3) := by decide +kernel
theorem dX3_stage_30 : decode cX3_stage 30 = .ok (.iload_n 1, 1) := by decide +kernel
theorem dX3_stage_31 : decode cX3_stage 31 = .ok (.iastore, 1) := by decide +kernel
theorem dX3_stage_32 : decode cX3_stage 32 = .ok (.aload_n 0, 1) := by decide +kernel
theorem dX3_stage_33 : decode cX3_stage 33 = .ok (.dup, 1) := by decide +kernel
theorem dX3_stage_34 : decode cX3_stage 34 = .ok (.getfield 149, 3) := by decide +kernel
theorem dX3_stage_37 : decode cX3_stage 37 = .ok (.iconst 1, 1) := by decide +kernel
theorem dX3_stage_38 : decode cX3_stage 38 = .ok (.iadd, 1) := by decide +kernel
theorem dX3_stage_39 : decode cX3_stage 39 = .ok (.putfield 149, 3) := by decide +kernel
theorem dX3_stage_42 : decode cX3_stage 42 = .ok (.aload_n 0, 1) := by decide +kernel
theorem dX3_stage_43 : decode cX3_stage 43 = .ok (.getfield 149, 3) := by decide +kernel
theorem dX3_stage_46 : decode cX3_stage 46 = .ok (.ireturn, 1) := by decide +kernel
theorem dX3_unstage_0 : decode cX3_unstage 0 = .ok (.aload_n 0, 1) := by decide +kernel
theorem dX3_unstage_1 : decode cX3_unstage 1 = .ok (.getfield 149, 3) := by decide +kernel
theorem dX3_unstage_4 : decode cX3_unstage 4 = .ok (.iconst 1, 1) := by decide +kernel
theorem dX3_unstage_5 : decode cX3_unstage 5 = .ok (.if_icmp .lt 12, 3) := by decide +kernel
theorem dX3_unstage_8 : decode cX3_unstage 8 = .ok (.aload_n 0, 1) := by decide +kernel
theorem dX3_unstage_9 : decode cX3_unstage 9 = .ok (.getfield 149, 3) := by decide +kernel
theorem dX3_unstage_12 : decode cX3_unstage 12 = .ok (.bipush 10, 2) := by decide +kernel
theorem dX3_unstage_14 : decode cX3_unstage 14 = .ok (.if_icmp .le 6, 3) := by decide +kernel
theorem dX3_unstage_17 : decode cX3_unstage 17 = .ok (.bipush (-2), 2) := by decide +kernel
theorem dX3_unstage_19 : decode cX3_unstage 19 = .ok (.ireturn, 1) := by decide +kernel
theorem dX3_unstage_20 : decode cX3_unstage 20 = .ok (.aload_n 0, 1) := by decide +kernel
theorem dX3_unstage_21 : decode cX3_unstage 21 = .ok (.dup, 1) := by decide +kernel
theorem dX3_unstage_22 : decode cX3_unstage 22 = .ok (.getfield 149, 3) := by decide +kernel
theorem dX3_unstage_25 : decode cX3_unstage 25 = .ok (.iconst 1, 1) := by decide +kernel
theorem dX3_unstage_26 : decode cX3_unstage 26 = .ok (.isub, 1) := by decide +kernel
theorem dX3_unstage_27 : decode cX3_unstage 27 = .ok (.putfield 149, 3) := by decide +kernel
theorem dX3_unstage_30 : decode cX3_unstage 30 = .ok (.aload_n 0, 1) := by decide +kernel
theorem dX3_unstage_31 : decode cX3_unstage 31 = .ok (.getfield 30, 3) := by decide +kernel
theorem dX3_unstage_34 : decode cX3_unstage 34 = .ok (.aload_n 0, 1) := by decide +kernel
theorem dX3_unstage_35 : decode cX3_unstage 35 = .ok (.getfield 149, 3) := by decide +kernel
theorem dX3_unstage_38 : decode cX3_unstage 38 = .ok (.iaload, 1) := by decide +kernel
theorem dX3_unstage_39 : decode cX3_unstage 39 = .ok (.ireturn, 1) := by decide +kernel
theorem dX3_pull_0 : decode cX3_pull 0 = .ok (.aload_n 0, 1) := by decide +kernel
theorem dX3_pull_1 : decode cX3_pull 1 = .ok (.aload_n 0, 1) := by decide +kernel
theorem dX3_pull_2 : decode cX3_pull 2 = .ok (.getfield 149, 3) := by decide +kernel
theorem dX3_pull_5 : decode cX3_pull 5 = .ok (.invokevirtual 351, 3) := by decide +kernel
theorem dX3_pull_8 : decode cX3_pull 8 = .ok (.lstore_n 3, 1) := by decide +kernel
theorem dX3_pull_9 : decode cX3_pull 9 = .ok (.lload_n 3, 1) := by decide +kernel
theorem dX3_pull_10 : decode cX3_pull 10 = .ok (.lconst 0, 1) := by decide +kernel
theorem dX3_pull_11 : decode cX3_pull 11 = .ok (.lcmp, 1) := by decide +kernel
theorem dX3_pull_12 : decode cX3_pull 12 = .ok (.ifCond .ne 7, 3) := by decide +kernel
theorem dX3_pull_15 : decode cX3_pull 15 = .ok (.ldc2_w 254, 3) := by decide +kernel
theorem dX3_pull_18 : decode cX3_pull 18 = .ok (.lreturn, 1) := by decide +kernel
theorem dX3_pull_19 : decode cX3_pull 19 = .ok (.iload_n 1, 1) := by decide +kernel
theorem dX3_pull_20 : decode cX3_pull 20 = .ok (.iload_n 2, 1) := by decide +kernel
theorem dX3_pull_21 : decode cX3_pull 21 = .ok (.invokestatic 355, 3) := by decide +kernel
theorem dX3_pull_24 : decode cX3_pull 24 = .ok (.ifCond .ne 7, 3) := by decide +kernel
theorem dX3_pull_27 : decode cX3_pull 27 = .ok (.ldc2_w 225, 3) := by decide +kernel
theorem dX3_pull_30 : decode cX3_pull 30 = .ok (.lreturn, 1) := by decide +kernel
theorem dX3_pull_31 : decode cX3_pull 31 = .ok (.iload_n 1, 1) := by decide +kernel
theorem dX3_pull_32 : decode cX3_pull 32 = .ok (.i2l, 1) := by decide +kernel
theorem dX3_pull_33 : decode cX3_pull 33 = .ok (.lload_n 3, 1) := by decide +kernel
theorem dX3_pull_34 : decode cX3_pull 34 = .ok (.iload_n 2, 1) := by decide +kernel
theorem dX3_pull_35 : decode cX3_pull 35 = .ok (.invokestatic 358, 3) := by decide +kernel
theorem dX3_pull_38 : decode cX3_pull 38 = .ok (.lreturn, 1) := by decide +kernel
theorem dX3_stress_0 : decode cX3_stress 0 = .ok (.iload_n 2, 1) := by decide +kernel
theorem dX3_stress_1 : decode cX3_stress 1 = .ok (.iload_n 3, 1) := by decide +kernel
theorem dX3_stress_2 : decode cX3_stress 2 = .ok (.invokestatic 355, 3) := by decide +kernel
theorem dX3_stress_5 : decode cX3_stress 5 = .ok (.ifCond .eq 15, 3) := by decide +kernel
theorem dX3_stress_8 : decode cX3_stress 8 = .ok (.iload_n 1, 1) := by decide +kernel
theorem dX3_stress_9 : decode cX3_stress 9 = .ok (.ifCond .lt 11, 3) := by decide +kernel
theorem dX3_stress_12 : decode cX3_stress 12 = .ok (.iload_n 1, 1) := by decide +kernel
theorem dX3_stress_13 : decode cX3_stress 13 = .ok (.aload_n 0, 1) := by decide +kernel
theorem dX3_stress_14 : decode cX3_stress 14 = .ok (.getfield 149, 3) := by decide +kernel
theorem dX3_stress_17 : decode cX3_stress 17 = .ok (.if_icmp .lt 7, 3) := by decide +kernel
theorem dX3_stress_20 : decode cX3_stress 20 = .ok (.ldc2_w 225, 3) := by decide +kernel
theorem dX3_stress_23 : decode cX3_stress 23 = .ok (.lreturn, 1) := by decide +kernel
theorem dX3_stress_24 : decode cX3_stress 24 = .ok (.aload_n 0, 1) := by decide +kernel
theorem dX3_stress_25 : decode cX3_stress 25 = .ok (.iload_n 1, 1) := by decide +kernel
theorem dX3_stress_26 : decode cX3_stress 26 = .ok (.iconst 1, 1) := by decide +kernel
theorem dX3_stress_27 : decode cX3_stress 27 = .ok (.iadd, 1) := by decide +kernel
theorem dX3_stress_28 : decode cX3_stress 28 = .ok (.invokevirtual 351, 3) := by decide +kernel
theorem dX3_stress_31 : decode cX3_stress 31 = .ok (.lstore 4, 2) := by decide +kernel
theorem dX3_stress_33 : decode cX3_stress 33 = .ok (.lload 4, 2) := by decide +kernel
theorem dX3_stress_35 : decode cX3_stress 35 = .ok (.lconst 0, 1) := by decide +kernel
theorem dX3_stress_36 : decode cX3_stress 36 = .ok (.lcmp, 1) := by decide +kernel
theorem dX3_stress_37 : decode cX3_stress 37 = .ok (.ifCond .ne 7, 3) := by decide +kernel
theorem dX3_stress_40 : decode cX3_stress 40 = .ok (.ldc2_w 254, 3) := by decide +kernel
theorem dX3_stress_43 : decode cX3_stress 43 = .ok (.lreturn, 1) := by decide +kernel
theorem dX3_stress_44 : decode cX3_stress 44 = .ok (.iload_n 2, 1) := by decide +kernel
theorem dX3_stress_45 : decode cX3_stress 45 = .ok (.i2l, 1) := by decide +kernel
theorem dX3_stress_46 : decode cX3_stress 46 = .ok (.lload 4, 2) := by decide +kernel
theorem dX3_stress_48 : decode cX3_stress 48 = .ok (.iload_n 3, 1) := by decide +kernel
theorem dX3_stress_49 : decode cX3_stress 49 = .ok (.invokestatic 358, 3) := by decide +kernel
theorem dX3_stress_52 : decode cX3_stress 52 = .ok (.lreturn, 1) := by decide +kernel
theorem dX3_canAskLoad_0 : decode cX3_canAskLoad 0 = .ok (.iload_n 0, 1) := by decide +kernel
theorem dX3_canAskLoad_1 : decode cX3_canAskLoad 1 = .ok (.ifCond .lt 22, 3) := by decide +kernel
theorem dX3_canAskLoad_4 : decode cX3_canAskLoad 4 = .ok (.iload_n 0, 1) := by decide +kernel
theorem dX3_canAskLoad_5 : decode cX3_canAskLoad 5 = .ok (.ldc 232, 2) := by decide +kernel
theorem dX3_canAskLoad_7 : decode cX3_canAskLoad 7 = .ok (.if_icmp .gt 16, 3) := by decide +kernel
theorem dX3_canAskLoad_10 : decode cX3_canAskLoad 10 = .ok (.iload_n 1, 1) := by decide +kernel
theorem dX3_canAskLoad_11 : decode cX3_canAskLoad 11 = .ok (.ifCond .eq 8, 3) := by decide +kernel
theorem dX3_canAskLoad_14 : decode cX3_canAskLoad 14 = .ok (.iload_n 1, 1) := by decide +kernel
theorem dX3_canAskLoad_15 : decode cX3_canAskLoad 15 = .ok (.iconst 1, 1) := by decide +kernel
theorem dX3_canAskLoad_16 : decode cX3_canAskLoad 16 = .ok (.if_icmp .ne 7, 3) := by decide +kernel
theorem dX3_canAskLoad_19 : decode cX3_canAskLoad 19 = .ok (.iconst 1, 1) := by decide +kernel
theorem dX3_canAskLoad_20 : decode cX3_canAskLoad 20 = .ok (.goto 4, 3) := by decide +kernel
theorem dX3_canAskLoad_23 : decode cX3_canAskLoad 23 = .ok (.iconst 0, 1) := by decide +kernel
theorem dX3_canAskLoad_24 : decode cX3_canAskLoad 24 = .ok (.ireturn, 1) := by decide +kernel
theorem dX3_ropesOfFirst_0 : decode cX3_ropesOfFirst 0 = .ok (.lconst 1, 1) := by decide +kernel
theorem dX3_ropesOfFirst_1 : decode cX3_ropesOfFirst 1 = .ok (.lstore_n 2, 1) := by decide +kernel
theorem dX3_ropesOfFirst_2 : decode cX3_ropesOfFirst 2 = .ok (.iconst 0, 1) := by decide +kernel
theorem dX3_ropesOfFirst_3 : decode cX3_ropesOfFirst 3 = .ok (.istore 4, 2) := by decide +kernel
theorem dX3_ropesOfFirst_5 : decode cX3_ropesOfFirst 5 = .ok (.iload 4, 2) := by decide +kernel
theorem dX3_ropesOfFirst_7 : decode cX3_ropesOfFirst 7 = .ok (.iload_n 1, 1) := by decide +kernel
theorem dX3_ropesOfFirst_8 : decode cX3_ropesOfFirst 8 = .ok (.if_icmp .ge 27, 3) := by decide +kernel
theorem dX3_ropesOfFirst_11 : decode cX3_ropesOfFirst 11 = .ok (.iload 4, 2) := by decide +kernel
theorem dX3_ropesOfFirst_13 : decode cX3_ropesOfFirst 13 = .ok (.bipush 10, 2) := by decide +kernel
theorem dX3_ropesOfFirst_15 : decode cX3_ropesOfFirst 15 = .ok (.if_icmp .ge 20, 3) := by decide +kernel
theorem dX3_ropesOfFirst_18 : decode cX3_ropesOfFirst 18 = .ok (.lload_n 2, 1) := by decide +kernel
theorem dX3_ropesOfFirst_19 : decode cX3_ropesOfFirst 19 = .ok (.aload_n 0, 1) := by decide +kernel
theorem dX3_ropesOfFirst_20 : decode cX3_ropesOfFirst 20 = .ok (.getfield 30, 3) := by decide +kernel
theorem dX3_ropesOfFirst_23 : decode cX3_ropesOfFirst 23 = .ok (.iload 4, 2) := by decide +kernel
theorem dX3_ropesOfFirst_25 : decode cX3_ropesOfFirst 25 = .ok (.iaload, 1) := by decide +kernel
theorem dX3_ropesOfFirst_26 : decode cX3_ropesOfFirst 26 = .ok (.i2l, 1) := by decide +kernel
theorem dX3_ropesOfFirst_27 : decode cX3_ropesOfFirst 27 = .ok (.lmul, 1) := by decide +kernel
theorem dX3_ropesOfFirst_28 : decode cX3_ropesOfFirst 28 = .ok (.lstore_n 2, 1) := by decide +kernel
theorem dX3_ropesOfFirst_29 : decode cX3_ropesOfFirst 29 = .ok (.iinc 4 1, 3) := by decide +kernel
theorem dX3_ropesOfFirst_32 : decode cX3_ropesOfFirst 32 = .ok (.goto (-27), 3) := by decide +kernel
theorem dX3_ropesOfFirst_35 : decode cX3_ropesOfFirst 35 = .ok (.lload_n 2, 1) := by decide +kernel
theorem dX3_ropesOfFirst_36 : decode cX3_ropesOfFirst 36 = .ok (.lreturn, 1) := by decide +kernel
theorem dX3_lowestTerms_0 : decode cX3_lowestTerms 0 = .ok (.lload_n 0, 1) := by decide +kernel
theorem dX3_lowestTerms_1 : decode cX3_lowestTerms 1 = .ok (.lload_n 2, 1) := by decide +kernel
theorem dX3_lowestTerms_2 : decode cX3_lowestTerms 2 = .ok (.invokestatic 362, 3) := by decide +kernel
theorem dX3_lowestTerms_5 : decode cX3_lowestTerms 5 = .ok (.lstore 5, 2) := by decide +kernel
theorem dX3_lowestTerms_7 : decode cX3_lowestTerms 7 = .ok (.lload 5, 2) := by decide +kernel
theorem dX3_lowestTerms_9 : decode cX3_lowestTerms 9 = .ok (.lconst 0, 1) := by decide +kernel
theorem dX3_lowestTerms_10 : decode cX3_lowestTerms 10 = .ok (.lcmp, 1) := by decide +kernel
theorem dX3_lowestTerms_11 : decode cX3_lowestTerms 11 = .ok (.ifCond .ne 7, 3) := by decide +kernel
theorem dX3_lowestTerms_14 : decode cX3_lowestTerms 14 = .ok (.ldc2_w 225, 3) := by decide +kernel
theorem dX3_lowestTerms_17 : decode cX3_lowestTerms 17 = .ok (.lreturn, 1) := by decide +kernel
theorem dX3_lowestTerms_18 : decode cX3_lowestTerms 18 = .ok (.iload 4, 2) := by decide +kernel
theorem dX3_lowestTerms_20 : decode cX3_lowestTerms 20 = .ok (.ifCond .ne 10, 3) := by decide +kernel
theorem dX3_lowestTerms_23 : decode cX3_lowestTerms 23 = .ok (.lload_n 0, 1) := by decide +kernel
theorem dX3_lowestTerms_24 : decode cX3_lowestTerms 24 = .ok (.lload 5, 2) := by decide +kernel
theorem dX3_lowestTerms_26 : decode cX3_lowestTerms 26 = .ok (.ldiv, 1) := by decide +kernel
theorem dX3_lowestTerms_27 : decode cX3_lowestTerms 27 = .ok (.goto 7, 3) := by decide +kernel
theorem dX3_lowestTerms_30 : decode cX3_lowestTerms 30 = .ok (.lload_n 2, 1) := by decide +kernel
theorem dX3_lowestTerms_31 : decode cX3_lowestTerms 31 = .ok (.lload 5, 2) := by decide +kernel
theorem dX3_lowestTerms_33 : decode cX3_lowestTerms 33 = .ok (.ldiv, 1) := by decide +kernel
theorem dX3_lowestTerms_34 : decode cX3_lowestTerms 34 = .ok (.lreturn, 1) := by decide +kernel
theorem dX3_greatestDivisor_0 : decode cX3_greatestDivisor 0 = .ok (.lload_n 0, 1) := by decide +kernel
theorem dX3_greatestDivisor_1 : decode cX3_greatestDivisor 1 = .ok (.lstore 4, 2) := by decide +kernel
theorem dX3_greatestDivisor_3 : decode cX3_greatestDivisor 3 = .ok (.lload_n 2, 1) := by decide +kernel
theorem dX3_greatestDivisor_4 : decode cX3_greatestDivisor 4 = .ok (.lstore 6, 2) := by decide +kernel
theorem dX3_greatestDivisor_6 : decode cX3_greatestDivisor 6 = .ok (.iconst 0, 1) := by decide +kernel
theorem dX3_greatestDivisor_7 : decode cX3_greatestDivisor 7 = .ok (.istore 8, 2) := by decide +kernel
theorem dX3_greatestDivisor_9 : decode cX3_greatestDivisor 9 = .ok (.iload 8, 2) := by decide +kernel
theorem dX3_greatestDivisor_11 : decode cX3_greatestDivisor 11 = .ok (.bipush 100, 2) := by decide +kernel
theorem dX3_greatestDivisor_13 : decode cX3_greatestDivisor 13 = .ok (.if_icmp .ge 31, 3) := by decide +kernel
theorem dX3_greatestDivisor_16 : decode cX3_greatestDivisor 16 = .ok (.lload 6, 2) := by decide +kernel
theorem dX3_greatestDivisor_18 : decode cX3_greatestDivisor 18 = .ok (.lconst 0, 1) := by decide +kernel
theorem dX3_greatestDivisor_19 : decode cX3_greatestDivisor 19 = .ok (.lcmp, 1) := by decide +kernel
theorem dX3_greatestDivisor_20 : decode cX3_greatestDivisor 20 = .ok (.ifCond .eq 24, 3) := by decide +kernel
theorem dX3_greatestDivisor_23 : decode cX3_greatestDivisor 23 = .ok (.lload 4, 2) := by decide +kernel
theorem dX3_greatestDivisor_25 : decode cX3_greatestDivisor 25 = .ok (.lload 6, 2) := by decide +kernel
theorem dX3_greatestDivisor_27 : decode cX3_greatestDivisor 27 = .ok (.lrem, 1) := by decide +kernel
theorem dX3_greatestDivisor_28 : decode cX3_greatestDivisor 28 = .ok (.lstore 9, 2) := by decide +kernel
theorem dX3_greatestDivisor_30 : decode cX3_greatestDivisor 30 = .ok (.lload 6, 2) := by decide +kernel
theorem dX3_greatestDivisor_32 : decode cX3_greatestDivisor 32 = .ok (.lstore 4, 2) := by decide +kernel
theorem dX3_greatestDivisor_34 : decode cX3_greatestDivisor 34 = .ok (.lload 9, 2) := by decide +kernel
theorem dX3_greatestDivisor_36 : decode cX3_greatestDivisor 36 = .ok (.lstore 6, 2) := by decide +kernel
theorem dX3_greatestDivisor_38 : decode cX3_greatestDivisor 38 = .ok (.iinc 8 1, 3) := by decide +kernel
theorem dX3_greatestDivisor_41 : decode cX3_greatestDivisor 41 = .ok (.goto (-32), 3) := by decide +kernel
theorem dX3_greatestDivisor_44 : decode cX3_greatestDivisor 44 = .ok (.lload 4, 2) := by decide +kernel
theorem dX3_greatestDivisor_46 : decode cX3_greatestDivisor 46 = .ok (.lreturn, 1) := by decide +kernel
theorem dJ9_max_7cf53_0 : decode cJ9_max_7cf53 0 = .ok (.iload_n 0, 1) := by decide +kernel
theorem dJ9_max_7cf53_1 : decode cJ9_max_7cf53 1 = .ok (.iload_n 1, 1) := by decide +kernel
theorem dJ9_max_7cf53_2 : decode cJ9_max_7cf53 2 = .ok (.if_icmp .lt 7, 3) := by decide +kernel
theorem dJ9_max_7cf53_5 : decode cJ9_max_7cf53 5 = .ok (.iload_n 0, 1) := by decide +kernel
theorem dJ9_max_7cf53_6 : decode cJ9_max_7cf53 6 = .ok (.goto 4, 3) := by decide +kernel
theorem dJ9_max_7cf53_9 : decode cJ9_max_7cf53 9 = .ok (.iload_n 1, 1) := by decide +kernel
theorem dJ9_max_7cf53_10 : decode cJ9_max_7cf53 10 = .ok (.ireturn, 1) := by decide +kernel
theorem dJ9_min_7cf53_0 : decode cJ9_min_7cf53 0 = .ok (.iload_n 0, 1) := by decide +kernel
theorem dJ9_min_7cf53_1 : decode cJ9_min_7cf53 1 = .ok (.iload_n 1, 1) := by decide +kernel
theorem dJ9_min_7cf53_2 : decode cJ9_min_7cf53 2 = .ok (.if_icmp .gt 7, 3) := by decide +kernel
theorem dJ9_min_7cf53_5 : decode cJ9_min_7cf53 5 = .ok (.iload_n 0, 1) := by decide +kernel
theorem dJ9_min_7cf53_6 : decode cJ9_min_7cf53 6 = .ok (.goto 4, 3) := by decide +kernel
theorem dJ9_min_7cf53_9 : decode cJ9_min_7cf53 9 = .ok (.iload_n 1, 1) := by decide +kernel
theorem dJ9_min_7cf53_10 : decode cJ9_min_7cf53 10 = .ok (.ireturn, 1) := by decide +kernel
end
section
theorem dX4_init_0 : decode cX4_init 0 = .ok (.aload_n 0, 1) := by decide +kernel
theorem dX4_init_1 : decode cX4_init 1 = .ok (.invokespecial 1, 3) := by decide +kernel
theorem dX4_init_4 : decode cX4_init 4 = .ok (.aload_n 0, 1) := by decide +kernel
theorem dX4_init_5 : decode cX4_init 5 = .ok (.bipush 120, 2) := by decide +kernel
theorem dX4_init_7 : decode cX4_init 7 = .ok (.newarray .int, 2) := by decide +kernel
theorem dX4_init_9 : decode cX4_init 9 = .ok (.putfield 9, 3) := by decide +kernel
theorem dX4_init_12 : decode cX4_init 12 = .ok (.aload_n 0, 1) := by decide +kernel
theorem dX4_init_13 : decode cX4_init 13 = .ok (.bipush 120, 2) := by decide +kernel
theorem dX4_init_15 : decode cX4_init 15 = .ok (.newarray .int, 2) := by decide +kernel
theorem dX4_init_17 : decode cX4_init 17 = .ok (.putfield 13, 3) := by decide +kernel
theorem dX4_init_20 : decode cX4_init 20 = .ok (.aload_n 0, 1) := by decide +kernel
theorem dX4_init_21 : decode cX4_init 21 = .ok (.bipush 120, 2) := by decide +kernel
theorem dX4_init_23 : decode cX4_init 23 = .ok (.newarray .int, 2) := by decide +kernel
theorem dX4_init_25 : decode cX4_init 25 = .ok (.putfield 16, 3) := by decide +kernel
theorem dX4_init_28 : decode cX4_init 28 = .ok (.aload_n 0, 1) := by decide +kernel
theorem dX4_init_29 : decode cX4_init 29 = .ok (.bipush 120, 2) := by decide +kernel
theorem dX4_init_31 : decode cX4_init 31 = .ok (.newarray .int, 2) := by decide +kernel
theorem dX4_init_33 : decode cX4_init 33 = .ok (.putfield 19, 3) := by decide +kernel
theorem dX4_init_36 : decode cX4_init 36 = .ok (.aload_n 0, 1) := by decide +kernel
theorem dX4_init_37 : decode cX4_init 37 = .ok (.bipush 120, 2) := by decide +kernel
theorem dX4_init_39 : decode cX4_init 39 = .ok (.newarray .float, 2) := by decide +kernel
theorem dX4_init_41 : decode cX4_init 41 = .ok (.putfield 22, 3) := by decide +kernel
theorem dX4_init_44 : decode cX4_init 44 = .ok (.aload_n 0, 1) := by decide +kernel
theorem dX4_init_45 : decode cX4_init 45 = .ok (.bipush 120, 2) := by decide +kernel
theorem dX4_init_47 : decode cX4_init 47 = .ok (.newarray .int, 2) := by decide +kernel
theorem dX4_init_49 : decode cX4_init 49 = .ok (.putfield 26, 3) := by decide +kernel
theorem dX4_init_52 : decode cX4_init 52 = .ok (.aload_n 0, 1) := by decide +kernel
theorem dX4_init_53 : decode cX4_init 53 = .ok (.sipush 1080, 3) := by decide +kernel
theorem dX4_init_56 : decode cX4_init 56 = .ok (.newarray .int, 2) := by decide +kernel
theorem dX4_init_58 : decode cX4_init 58 = .ok (.putfield 29, 3) := by decide +kernel
theorem dX4_init_61 : decode cX4_init 61 = .ok (.aload_n 0, 1) := by decide +kernel
theorem dX4_init_62 : decode cX4_init 62 = .ok (.bipush 120, 2) := by decide +kernel
theorem dX4_init_64 : decode cX4_init 64 = .ok (.newarray .int, 2) := by decide +kernel
theorem dX4_init_66 : decode cX4_init 66 = .ok (.putfield 32, 3) := by decide +kernel
theorem dX4_init_69 : decode cX4_init 69 = .ok (.aload_n 0, 1) := by decide +kernel
theorem dX4_init_70 : decode cX4_init 70 = .ok (.bipush 120, 2) := by decide +kernel
theorem dX4_init_72 : decode cX4_init 72 = .ok (.newarray .int, 2) := by decide +kernel
theorem dX4_init_74 : decode cX4_init 74 = .ok (.putfield 35, 3) := by decide +kernel
theorem dX4_init_77 : decode cX4_init 77 = .ok (.aload_n 0, 1) := by decide +kernel
theorem dX4_init_78 : decode cX4_init 78 = .ok (.bipush 120, 2) := by decide +kernel
theorem dX4_init_80 : decode cX4_init 80 = .ok (.newarray .int, 2) := by decide +kernel
theorem dX4_init_82 : decode cX4_init 82 = .ok (.putfield 38, 3) := by decide +kernel
theorem dX4_init_85 : decode cX4_init 85 = .ok (.aload_n 0, 1) := by decide +kernel
theorem dX4_init_86 : decode cX4_init 86 = .ok (.sipush 960, 3) := by decide +kernel
theorem dX4_init_89 : decode cX4_init 89 = .ok (.newarray .boolean, 2) := by decide +kernel
theorem dX4_init_91 : decode cX4_init 91 = .ok (.putfield 41, 3) := by decide +kernel
theorem dX4_init_94 : decode cX4_init 94 = .ok (.aload_n 0, 1) := by decide +kernel
theorem dX4_init_95 : decode cX4_init 95 = .ok (.sipush 960, 3) := by decide +kernel
theorem dX4_init_98 : decode cX4_init 98 = .ok (.newarray .int, 2) := by decide +kernel
theorem dX4_init_100 : decode cX4_init 100 = .ok (.putfield 45, 3) := by decide +kernel
theorem dX4_init_103 : decode cX4_init 103 = .ok (.aload_n 0, 1) := by decide +kernel
theorem dX4_init_104 : decode cX4_init 104 = .ok (.sipush 960, 3) := by decide +kernel
theorem dX4_init_107 : decode cX4_init 107 = .ok (.newarray .int, 2) := by decide +kernel
theorem dX4_init_109 : decode cX4_init 109 = .ok (.putfield 48, 3) := by decide +kernel
theorem dX4_init_112 : decode cX4_init 112 = .ok (.aload_n 0, 1) := by decide +kernel
theorem dX4_init_113 : decode cX4_init 113 = .ok (.sipush 960, 3) := by decide +kernel
theorem dX4_init_116 : decode cX4_init 116 = .ok (.newarray .float, 2) := by decide +kernel
theorem dX4_init_118 : decode cX4_init 118 = .ok (.putfield 51, 3) := by decide +kernel
theorem dX4_init_121 : decode cX4_init 121 = .ok (.aload_n 0, 1) := by decide +kernel
theorem dX4_init_122 : decode cX4_init 122 = .ok (.bipush 9, 2) := by decide +kernel
theorem dX4_init_124 : decode cX4_init 124 = .ok (.newarray .int, 2) := by decide +kernel
theorem dX4_init_126 : decode cX4_init 126 = .ok (.putfield 54, 3) := by decide +kernel
theorem dX4_init_129 : decode cX4_init 129 = .ok (.aload_n 0, 1) := by decide +kernel
theorem dX4_init_130 : decode cX4_init 130 = .ok (.bipush 6, 2) := by decide +kernel
theorem dX4_init_132 : decode cX4_init 132 = .ok (.newarray .int, 2) := by decide +kernel
theorem dX4_init_134 : decode cX4_init 134 = .ok (.putfield 57, 3) := by decide +kernel
theorem dX4_init_137 : decode cX4_init 137 = .ok (.aload_n 0, 1) := by decide +kernel
theorem dX4_init_138 : decode cX4_init 138 = .ok (.bipush 6, 2) := by decide +kernel
theorem dX4_init_140 : decode cX4_init 140 = .ok (.newarray .int, 2) := by decide +kernel
theorem dX4_init_142 : decode cX4_init 142 = .ok (.putfield 60, 3) := by decide +kernel
theorem dX4_init_145 : decode cX4_init 145 = .ok (.aload_n 0, 1) := by decide +kernel
theorem dX4_init_146 : decode cX4_init 146 = .ok (.bipush 6, 2) := by decide +kernel
theorem dX4_init_148 : decode cX4_init 148 = .ok (.newarray .float, 2) := by decide +kernel
theorem dX4_init_150 : decode cX4_init 150 = .ok (.putfield 63, 3) := by decide +kernel
theorem dX4_init_153 : decode cX4_init 153 = .ok (.aload_n 0, 1) := by decide +kernel
theorem dX4_init_154 : decode cX4_init 154 = .ok (.bipush 6, 2) := by decide +kernel
theorem dX4_init_156 : decode cX4_init 156 = .ok (.newarray .int, 2) := by decide +kernel
theorem dX4_init_158 : decode cX4_init 158 = .ok (.putfield 66, 3) := by decide +kernel
theorem dX4_init_161 : decode cX4_init 161 = .ok (.aload_n 0, 1) := by decide +kernel
theorem dX4_init_162 : decode cX4_init 162 = .ok (.bipush 6, 2) := by decide +kernel
theorem dX4_init_164 : decode cX4_init 164 = .ok (.newarray .int, 2) := by decide +kernel
theorem dX4_init_166 : decode cX4_init 166 = .ok (.putfield 69, 3) := by decide +kernel
theorem dX4_init_169 : decode cX4_init 169 = .ok (.aload_n 0, 1) := by decide +kernel
theorem dX4_init_170 : decode cX4_init 170 = .ok (.bipush 10, 2) := by decide +kernel
theorem dX4_init_172 : decode cX4_init 172 = .ok (.newarray .int, 2) := by decide +kernel
theorem dX4_init_174 : decode cX4_init 174 = .ok (.putfield 72, 3) := by decide +kernel
theorem dX4_init_177 : decode cX4_init 177 = .ok (.aload_n 0, 1) := by decide +kernel
theorem dX4_init_178 : decode cX4_init 178 = .ok (.bipush 120, 2) := by decide +kernel
theorem dX4_init_180 : decode cX4_init 180 = .ok (.newarray .int, 2) := by decide +kernel
theorem dX4_init_182 : decode cX4_init 182 = .ok (.putfield 75, 3) := by decide +kernel
theorem dX4_init_185 : decode cX4_init 185 = .ok (.aload_n 0, 1) := by decide +kernel
theorem dX4_init_186 : decode cX4_init 186 = .ok (.bipush 8, 2) := by decide +kernel
theorem dX4_init_188 : decode cX4_init 188 = .ok (.newarray .boolean, 2) := by decide +kernel
theorem dX4_init_190 : decode cX4_init 190 = .ok (.putfield 78, 3) := by decide +kernel
theorem dX4_init_193 : decode cX4_init 193 = .ok (.aload_n 0, 1) := by decide +kernel
theorem dX4_init_194 : decode cX4_init 194 = .ok (.bipush 8, 2) := by decide +kernel
theorem dX4_init_196 : decode cX4_init 196 = .ok (.newarray .int, 2) := by decide +kernel
theorem dX4_init_198 : decode cX4_init 198 = .ok (.putfield 81, 3) := by decide +kernel
theorem dX4_init_201 : decode cX4_init 201 = .ok (.aload_n 0, 1) := by decide +kernel
theorem dX4_init_202 : decode cX4_init 202 = .ok (.bipush 8, 2) := by decide +kernel
theorem dX4_init_204 : decode cX4_init 204 = .ok (.newarray .int, 2) := by decide +kernel
theorem dX4_init_206 : decode cX4_init 206 = .ok (.putfield 84, 3) := by decide +kernel
theorem dX4_init_209 : decode cX4_init 209 = .ok (.aload_n 0, 1) := by decide +kernel
theorem dX4_init_210 : decode cX4_init 210 = .ok (.bipush 8, 2) := by decide +kernel
theorem dX4_init_212 : decode cX4_init 212 = .ok (.newarray .float, 2) := by decide +kernel
theorem dX4_init_214 : decode cX4_init 214 = .ok (.putfield 87, 3) := by decide +kernel
theorem dX4_init_217 : decode cX4_init 217 = .ok (.aload_n 0, 1) := by decide +kernel
theorem dX4_init_218 : decode cX4_init 218 = .ok (.bipush 120, 2) := by decide +kernel
theorem dX4_init_220 : decode cX4_init 220 = .ok (.newarray .int, 2) := by decide +kernel
theorem dX4_init_222 : decode cX4_init 222 = .ok (.putfield 90, 3) := by decide +kernel
theorem dX4_init_225 : decode cX4_init 225 = .ok (.aload_n 0, 1) := by decide +kernel
theorem dX4_init_226 : decode cX4_init 226 = .ok (.bipush 120, 2) := by decide +kernel
theorem dX4_init_228 : decode cX4_init 228 = .ok (.newarray .float, 2) := by decide +kernel
theorem dX4_init_230 : decode cX4_init 230 = .ok (.putfield 93, 3) := by decide +kernel
theorem dX4_init_233 : decode cX4_init 233 = .ok (.aload_n 0, 1) := by decide +kernel
theorem dX4_init_234 : decode cX4_init 234 = .ok (.sipush 2001, 3) := by decide +kernel
theorem dX4_init_237 : decode cX4_init 237 = .ok (.newarray .boolean, 2) := by decide +kernel
theorem dX4_init_239 : decode cX4_init 239 = .ok (.putfield 96, 3) := by decide +kernel
theorem dX4_init_242 : decode cX4_init 242 = .ok (.aload_n 0, 1) := by decide +kernel
theorem dX4_init_243 : decode cX4_init 243 = .ok (.sipush 12006, 3) := by decide +kernel
theorem dX4_init_246 : decode cX4_init 246 = .ok (.newarray .float, 2) := by decide +kernel
theorem dX4_init_248 : decode cX4_init 248 = .ok (.putfield 99, 3) := by decide +kernel
theorem dX4_init_251 : decode cX4_init 251 = .ok (.aload_n 0, 1) := by decide +kernel
theorem dX4_init_252 : decode cX4_init 252 = .ok (.bipush 6, 2) := by decide +kernel
theorem dX4_init_254 : decode cX4_init 254 = .ok (.newarray .int, 2) := by decide +kernel
theorem dX4_init_256 : decode cX4_init 256 = .ok (.putfield 102, 3) := by decide +kernel
theorem dX4_init_259 : decode cX4_init 259 = .ok (.iconst 0, 1) := by decide +kernel
theorem dX4_init_260 : decode cX4_init 260 = .ok (.istore_n 1, 1) := by decide +kernel
theorem dX4_init_261 : decode cX4_init 261 = .ok (.iload_n 1, 1) := by decide +kernel
theorem dX4_init_262 : decode cX4_init 262 = .ok (.bipush 6, 2) := by decide +kernel
theorem dX4_init_264 : decode cX4_init 264 = .ok (.if_icmp .ge 16, 3) := by decide +kernel
theorem dX4_init_267 : decode cX4_init 267 = .ok (.aload_n 0, 1) := by decide +kernel
theorem dX4_init_268 : decode cX4_init 268 = .ok (.getfield 57, 3) := by decide +kernel
theorem dX4_init_271 : decode cX4_init 271 = .ok (.iload_n 1, 1) := by decide +kernel
theorem dX4_init_272 : decode cX4_init 272 = .ok (.iconst (-1), 1) := by decide +kernel
theorem dX4_init_273 : decode cX4_init 273 = .ok (.iastore, 1) := by decide +kernel
theorem dX4_init_274 : decode cX4_init 274 = .ok (.iinc 1 1, 3) := by decide +kernel
theorem dX4_init_277 : decode cX4_init 277 = .ok (.goto (-16), 3) := by decide +kernel
theorem dX4_init_280 : decode cX4_init 280 = .ok (.return_, 1) := by decide +kernel
theorem dX4_isPiece_0 : decode cX4_isPiece 0 = .ok (.iload_n 1, 1) := by decide +kernel
theorem dX4_isPiece_1 : decode cX4_isPiece 1 = .ok (.ifCond .lt 15, 3) := by decide +kernel
theorem dX4_isPiece_4 : decode cX4_isPiece 4 = .ok (.iload_n 1, 1) := by decide +kernel
theorem dX4_isPiece_5 : decode cX4_isPiece 5 = .ok (.aload_n 0, 1) := by decide +kernel
theorem dX4_isPiece_6 : decode cX4_isPiece 6 = .ok (.getfield 105, 3) := by decide +kernel
theorem dX4_isPiece_9 : decode cX4_isPiece 9 = .ok (.if_icmp .ge 7, 3) := by decide +kernel
theorem dX4_isPiece_12 : decode cX4_isPiece 12 = .ok (.iconst 1, 1) := by decide +kernel
theorem dX4_isPiece_13 : decode cX4_isPiece 13 = .ok (.goto 4, 3) := by decide +kernel
theorem dX4_isPiece_16 : decode cX4_isPiece 16 = .ok (.iconst 0, 1) := by decide +kernel
theorem dX4_isPiece_17 : decode cX4_isPiece 17 = .ok (.ireturn, 1) := by decide +kernel
theorem dX4_isThere_0 : decode cX4_isThere 0 = .ok (.aload_n 0, 1) := by decide +kernel
theorem dX4_isThere_1 : decode cX4_isThere 1 = .ok (.iload_n 1, 1) := by decide +kernel
theorem dX4_isThere_2 : decode cX4_isThere 2 = .ok (.invokevirtual 109, 3) := by decide +kernel
theorem dX4_isThere_5 : decode cX4_isThere 5 = .ok (.ifCond .eq 17, 3) := by decide +kernel
theorem dX4_isThere_8 : decode cX4_isThere 8 = .ok (.aload_n 0, 1) := by decide +kernel
theorem dX4_isThere_9 : decode cX4_isThere 9 = .ok (.getfield 19, 3) := by decide +kernel
theorem dX4_isThere_12 : decode cX4_isThere 12 = .ok (.iload_n 1, 1) := by decide +kernel
theorem dX4_isThere_13 : decode cX4_isThere 13 = .ok (.iaload, 1) := by decide +kernel
theorem dX4_isThere_14 : decode cX4_isThere 14 = .ok (.iconst 3, 1) := by decide +kernel
theorem dX4_isThere_15 : decode cX4_isThere 15 = .ok (.if_icmp .eq 7, 3) := by decide +kernel
theorem dX4_isThere_18 : decode cX4_isThere 18 = .ok (.iconst 1, 1) := by decide +kernel
theorem dX4_isThere_19 : decode cX4_isThere 19 = .ok (.goto 4, 3) := by decide +kernel
theorem dX4_isThere_22 : decode cX4_isThere 22 = .ok (.iconst 0, 1) := by decide +kernel
theorem dX4_isThere_23 : decode cX4_isThere 23 = .ok (.ireturn, 1) := by decide +kernel
theorem dX4_isFree_0 : decode cX4_isFree 0 = .ok (.aload_n 0, 1) := by decide +kernel
theorem dX4_isFree_1 : decode cX4_isFree 1 = .ok (.iload_n 1, 1) := by decide +kernel
theorem dX4_isFree_2 : decode cX4_isFree 2 = .ok (.invokevirtual 109, 3) := by decide +kernel
theorem dX4_isFree_5 : decode cX4_isFree 5 = .ok (.ifCond .eq 16, 3) := by decide +kernel
theorem dX4_isFree_8 : decode cX4_isFree 8 = .ok (.aload_n 0, 1) := by decide +kernel
theorem dX4_isFree_9 : decode cX4_isFree 9 = .ok (.getfield 19, 3) := by decide +kernel
theorem dX4_isFree_12 : decode cX4_isFree 12 = .ok (.iload_n 1, 1) := by decide +kernel
theorem dX4_isFree_13 : decode cX4_isFree 13 = .ok (.iaload, 1) := by decide +kernel
theorem dX4_isFree_14 : decode cX4_isFree 14 = .ok (.ifCond .ne 7, 3) := by decide +kernel
theorem dX4_isFree_17 : decode cX4_isFree 17 = .ok (.iconst 1, 1) := by decide +kernel
theorem dX4_isFree_18 : decode cX4_isFree 18 = .ok (.goto 4, 3) := by decide +kernel
theorem dX4_isFree_21 : decode cX4_isFree 21 = .ok (.iconst 0, 1) := by decide +kernel
theorem dX4_isFree_22 : decode cX4_isFree 22 = .ok (.ireturn, 1) := by decide +kernel
theorem dX4_newPiece_0 : decode cX4_newPiece 0 = .ok (.aload_n 0, 1) := by decide +kernel
theorem dX4_newPiece_1 : decode cX4_newPiece 1 = .ok (.getfield 105, 3) := by decide +kernel
theorem dX4_newPiece_4 : decode cX4_newPiece 4 = .ok (.istore 4, 2) := by decide +kernel
theorem dX4_newPiece_6 : decode cX4_newPiece 6 = .ok (.aload_n 0, 1) := by decide +kernel
theorem dX4_newPiece_7 : decode cX4_newPiece 7 = .ok (.dup, 1) := by decide +kernel
theorem dX4_newPiece_8 : decode cX4_newPiece 8 = .ok (.getfield 105, 3) := by decide +kernel
theorem dX4_newPiece_11 : decode cX4_newPiece 11 = .ok (.iconst 1, 1) := by decide +kernel
theorem dX4_newPiece_12 : decode cX4_newPiece 12 = .ok (.iadd, 1) := by decide +kernel
theorem dX4_newPiece_13 : decode cX4_newPiece 13 = .ok (.putfield 105, 3) := by decide +kernel
theorem dX4_newPiece_16 : decode cX4_newPiece 16 = .ok (.aload_n 0, 1) := by decide +kernel
theorem dX4_newPiece_17 : decode cX4_newPiece 17 = .ok (.getfield 9, 3) := by decide +kernel
theorem dX4_newPiece_20 : decode cX4_newPiece 20 = .ok (.iload 4, 2) := by decide +kernel
theorem dX4_newPiece_22 : decode cX4_newPiece 22 = .ok (.iload_n 1, 1) := by decide +kernel
theorem dX4_newPiece_23 : decode cX4_newPiece 23 = .ok (.iastore, 1) := by decide +kernel
theorem dX4_newPiece_24 : decode cX4_newPiece 24 = .ok (.aload_n 0, 1) := by decide +kernel
theorem dX4_newPiece_25 : decode cX4_newPiece 25 = .ok (.getfield 13, 3) := by decide +kernel
theorem dX4_newPiece_28 : decode cX4_newPiece 28 = .ok (.iload 4, 2) := by decide +kernel
theorem dX4_newPiece_30 : decode cX4_newPiece 30 = .ok (.iload_n 2, 1) := by decide +kernel
theorem dX4_newPiece_31 : decode cX4_newPiece 31 = .ok (.iastore, 1) := by decide +kernel
theorem dX4_newPiece_32 : decode cX4_newPiece 32 = .ok (.aload_n 0, 1) := by decide +kernel
theorem dX4_newPiece_33 : decode cX4_newPiece 33 = .ok (.getfield 16, 3) := by decide +kernel
theorem dX4_newPiece_36 : decode cX4_newPiece 36 = .ok (.iload 4, 2) := by decide +kernel
theorem dX4_newPiece_38 : decode cX4_newPiece 38 = .ok (.iload_n 3, 1) := by decide +kernel
theorem dX4_newPiece_39 : decode cX4_newPiece 39 = .ok (.iastore, 1) := by decide +kernel
theorem dX4_newPiece_40 : decode cX4_newPiece 40 = .ok (.aload_n 0, 1) := by decide +kernel
theorem dX4_newPiece_41 : decode cX4_newPiece 41 = .ok (.getfield 19, 3) := by decide +kernel
theorem dX4_newPiece_44 : decode cX4_newPiece 44 = .ok (.iload 4, 2) := by decide +kernel
theorem dX4_newPiece_46 : decode cX4_newPiece 46 = .ok (.iconst 0, 1) := by decide +kernel
theorem dX4_newPiece_47 : decode cX4_newPiece 47 = .ok (.iastore, 1) := by decide +kernel
theorem dX4_newPiece_48 : decode cX4_newPiece 48 = .ok (.aload_n 0, 1) := by decide +kernel
theorem dX4_newPiece_49 : decode cX4_newPiece 49 = .ok (.getfield 26, 3) := by decide +kernel
theorem dX4_newPiece_52 : decode cX4_newPiece 52 = .ok (.iload 4, 2) := by decide +kernel
theorem dX4_newPiece_54 : decode cX4_newPiece 54 = .ok (.iconst 0, 1) := by decide +kernel
theorem dX4_newPiece_55 : decode cX4_newPiece 55 = .ok (.iastore, 1) := by decide +kernel
theorem dX4_newPiece_56 : decode cX4_newPiece 56 = .ok (.aload_n 0, 1) := by decide +kernel
theorem dX4_newPiece_57 : decode cX4_newPiece 57 = .ok (.getfield 32, 3) := by decide +kernel
theorem dX4_newPiece_60 : decode cX4_newPiece 60 = .ok (.iload 4, 2) := by decide +kernel
theorem dX4_newPiece_62 : decode cX4_newPiece 62 = .ok (.iconst (-1), 1) := by decide +kernel
theorem dX4_newPiece_63 : decode cX4_newPiece 63 = .ok (.iastore, 1) := by decide +kernel
theorem dX4_newPiece_64 : decode cX4_newPiece 64 = .ok (.aload_n 0, 1) := by decide +kernel
theorem dX4_newPiece_65 : decode cX4_newPiece 65 = .ok (.getfield 38, 3) := by decide +kernel
theorem dX4_newPiece_68 : decode cX4_newPiece 68 = .ok (.iload 4, 2) := by decide +kernel
theorem dX4_newPiece_70 : decode cX4_newPiece 70 = .ok (.iconst (-1), 1) := by decide +kernel
theorem dX4_newPiece_71 : decode cX4_newPiece 71 = .ok (.iastore, 1) := by decide +kernel
theorem dX4_newPiece_72 : decode cX4_newPiece 72 = .ok (.iload 4, 2) := by decide +kernel
theorem dX4_newPiece_74 : decode cX4_newPiece 74 = .ok (.ireturn, 1) := by decide +kernel
theorem dX4_single_0 : decode cX4_single 0 = .ok (.iload_n 2, 1) := by decide +kernel
theorem dX4_single_1 : decode cX4_single 1 = .ok (.iconst 1, 1) := by decide +kernel
theorem dX4_single_2 : decode cX4_single 2 = .ok (.if_icmp .lt 29, 3) := by decide +kernel
theorem dX4_single_5 : decode cX4_single 5 = .ok (.iload_n 2, 1) := by decide +kernel
theorem dX4_single_6 : decode cX4_single 6 = .ok (.sipush 2000, 3) := by decide +kernel
theorem dX4_single_9 : decode cX4_single 9 = .ok (.if_icmp .gt 22, 3) := by decide +kernel
theorem dX4_single_12 : decode cX4_single 12 = .ok (.iload_n 3, 1) := by decide +kernel
theorem dX4_single_13 : decode cX4_single 13 = .ok (.ifCond .lt 18, 3) := by decide +kernel
theorem dX4_single_16 : decode cX4_single 16 = .ok (.iload_n 3, 1) := by decide +kernel
theorem dX4_single_17 : decode cX4_single 17 = .ok (.ldc 113, 2) := by decide +kernel
theorem dX4_single_19 : decode cX4_single 19 = .ok (.if_icmp .gt 12, 3) := by decide +kernel
theorem dX4_single_22 : decode cX4_single 22 = .ok (.aload_n 0, 1) := by decide +kernel
theorem dX4_single_23 : decode cX4_single 23 = .ok (.getfield 105, 3) := by decide +kernel
theorem dX4_single_26 : decode cX4_single 26 = .ok (.bipush 120, 2) := by decide +kernel
theorem dX4_single_28 : decode cX4_single 28 = .ok (.if_icmp .ne 6, 3) := by decide +kernel
theorem dX4_single_31 : decode cX4_single 31 = .ok (.bipush (-2), 2) := by decide +kernel
theorem dX4_single_33 : decode cX4_single 33 = .ok (.ireturn, 1) := by decide +kernel
theorem dX4_single_34 : decode cX4_single 34 = .ok (.aload_n 0, 1) := by decide +kernel
theorem dX4_single_35 : decode cX4_single 35 = .ok (.iload_n 1, 1) := by decide +kernel
theorem dX4_single_36 : decode cX4_single 36 = .ok (.iload_n 2, 1) := by decide +kernel
theorem dX4_single_37 : decode cX4_single 37 = .ok (.iconst 0, 1) := by decide +kernel
theorem dX4_single_38 : decode cX4_single 38 = .ok (.invokevirtual 114, 3) := by decide +kernel
theorem dX4_single_41 : decode cX4_single 41 = .ok (.istore 4, 2) := by decide +kernel
theorem dX4_single_43 : decode cX4_single 43 = .ok (.aload_n 0, 1) := by decide +kernel
theorem dX4_single_44 : decode cX4_single 44 = .ok (.getfield 22, 3) := by decide +kernel
theorem dX4_single_47 : decode cX4_single 47 = .ok (.iload 4, 2) := by decide +kernel
theorem dX4_single_49 : decode cX4_single 49 = .ok (.iload_n 3, 1) := by decide +kernel
theorem dX4_single_50 : decode cX4_single 50 = .ok (.i2f, 1) := by decide +kernel
theorem dX4_single_51 : decode cX4_single 51 = .ok (.ldc 118, 2) := by decide +kernel
theorem dX4_single_53 : decode cX4_single 53 = .ok (.fmul, 1) := by decide +kernel
theorem dX4_single_54 : decode cX4_single 54 = .ok (.fastore, 1) := by decide +kernel
theorem dX4_single_55 : decode cX4_single 55 = .ok (.iload 4, 2) := by decide +kernel
theorem dX4_single_57 : decode cX4_single 57 = .ok (.ireturn, 1) := by decide +kernel
theorem dX4_yarn_0 : decode cX4_yarn 0 = .ok (.aload_n 0, 1) := by decide +kernel
theorem dX4_yarn_1 : decode cX4_yarn 1 = .ok (.iconst 0, 1) := by decide +kernel
theorem dX4_yarn_2 : decode cX4_yarn 2 = .ok (.iload_n 1, 1) := by decide +kernel
theorem dX4_yarn_3 : decode cX4_yarn 3 = .ok (.iload_n 2, 1) := by decide +kernel
theorem dX4_yarn_4 : decode cX4_yarn 4 = .ok (.invokevirtual 119, 3) := by decide +kernel
theorem dX4_yarn_7 : decode cX4_yarn 7 = .ok (.ireturn, 1) := by decide +kernel
theorem dX4_tape_0 : decode cX4_tape 0 = .ok (.aload_n 0, 1) := by decide +kernel
theorem dX4_tape_1 : decode cX4_tape 1 = .ok (.iconst 4, 1) := by decide +kernel
theorem dX4_tape_2 : decode cX4_tape 2 = .ok (.iload_n 1, 1) := by decide +kernel
theorem dX4_tape_3 : decode cX4_tape 3 = .ok (.iload_n 2, 1) := by decide +kernel
theorem dX4_tape_4 : decode cX4_tape 4 = .ok (.invokevirtual 119, 3) := by decide +kernel
theorem dX4_tape_7 : decode cX4_tape 7 = .ok (.ireturn, 1) := by decide +kernel
theorem dX4_pick_0 : decode cX4_pick 0 = .ok (.aload_n 0, 1) := by decide +kernel
theorem dX4_pick_1 : decode cX4_pick 1 = .ok (.iload_n 1, 1) := by decide +kernel
theorem dX4_pick_2 : decode cX4_pick 2 = .ok (.invokevirtual 122, 3) := by decide +kernel
theorem dX4_pick_5 : decode cX4_pick 5 = .ok (.ifCond .eq 16, 3) := by decide +kernel
theorem dX4_pick_8 : decode cX4_pick 8 = .ok (.aload_n 0, 1) := by decide +kernel
theorem dX4_pick_9 : decode cX4_pick 9 = .ok (.getfield 125, 3) := by decide +kernel
theorem dX4_pick_12 : decode cX4_pick 12 = .ok (.bipush 9, 2) := by decide +kernel
theorem dX4_pick_14 : decode cX4_pick 14 = .ok (.if_icmp .ge 7, 3) := by decide +kernel
theorem dX4_pick_17 : decode cX4_pick 17 = .ok (.iconst 1, 1) := by decide +kernel
theorem dX4_pick_18 : decode cX4_pick 18 = .ok (.goto 4, 3) := by decide +kernel
theorem dX4_pick_21 : decode cX4_pick 21 = .ok (.iconst 0, 1) := by decide +kernel
theorem dX4_pick_22 : decode cX4_pick 22 = .ok (.istore_n 2, 1) := by decide +kernel
theorem dX4_pick_23 : decode cX4_pick 23 = .ok (.iconst 0, 1) := by decide +kernel
theorem dX4_pick_24 : decode cX4_pick 24 = .ok (.istore_n 3, 1) := by decide +kernel
theorem dX4_pick_25 : decode cX4_pick 25 = .ok (.iload_n 3, 1) := by decide +kernel
theorem dX4_pick_26 : decode cX4_pick 26 = .ok (.aload_n 0, 1) := by decide +kernel
theorem dX4_pick_27 : decode cX4_pick 27 = .ok (.getfield 125, 3) := by decide +kernel
theorem dX4_pick_30 : decode cX4_pick 30 = .ok (.if_icmp .ge 27, 3) := by decide +kernel
theorem dX4_pick_33 : decode cX4_pick 33 = .ok (.iload_n 2, 1) := by decide +kernel
theorem dX4_pick_34 : decode cX4_pick 34 = .ok (.aload_n 0, 1) := by decide +kernel
theorem dX4_pick_35 : decode cX4_pick 35 = .ok (.getfield 54, 3) := by decide +kernel
theorem dX4_pick_38 : decode cX4_pick 38 = .ok (.iload_n 3, 1) := by decide +kernel
theorem dX4_pick_39 : decode cX4_pick 39 = .ok (.iaload, 1) := by decide +kernel
theorem dX4_pick_40 : decode cX4_pick 40 = .ok (.iload_n 1, 1) := by decide +kernel
theorem dX4_pick_41 : decode cX4_pick 41 = .ok (.if_icmp .eq 7, 3) := by decide +kernel
theorem dX4_pick_44 : decode cX4_pick 44 = .ok (.iconst 1, 1) := by decide +kernel
theorem dX4_pick_45 : decode cX4_pick 45 = .ok (.goto 4, 3) := by decide +kernel
theorem dX4_pick_48 : decode cX4_pick 48 = .ok (.iconst 0, 1) := by decide +kernel
theorem dX4_pick_49 : decode cX4_pick 49 = .ok (.iand, 1) := by decide +kernel
theorem dX4_pick_50 : decode cX4_pick 50 = .ok (.istore_n 2, 1) := by decide +kernel
theorem dX4_pick_51 : decode cX4_pick 51 = .ok (.iinc 3 1, 3) := by decide +kernel
theorem dX4_pick_54 : decode cX4_pick 54 = .ok (.goto (-29), 3) := by decide +kernel
theorem dX4_pick_57 : decode cX4_pick 57 = .ok (.iload_n 2, 1) := by decide +kernel
theorem dX4_pick_58 : decode cX4_pick 58 = .ok (.ifCond .ne 6, 3) := by decide +kernel
theorem dX4_pick_61 : decode cX4_pick 61 = .ok (.bipush (-2), 2) := by decide +kernel
theorem dX4_pick_63 : decode cX4_pick 63 = .ok (.ireturn, 1) := by decide +kernel
theorem dX4_pick_64 : decode cX4_pick 64 = .ok (.aload_n 0, 1) := by decide +kernel
theorem dX4_pick_65 : decode cX4_pick 65 = .ok (.getfield 54, 3) := by decide +kernel
theorem dX4_pick_68 : decode cX4_pick 68 = .ok (.aload_n 0, 1) := by decide +kernel
theorem dX4_pick_69 : decode cX4_pick 69 = .ok (.getfield 125, 3) := by decide +kernel
theorem dX4_pick_72 : decode cX4_pick 72 = .ok (.iload_n 1, 1) := by decide +kernel
theorem dX4_pick_73 : decode cX4_pick 73 = .ok (.iastore, 1) := by decide +kernel
theorem dX4_pick_74 : decode cX4_pick 74 = .ok (.aload_n 0, 1) := by decide +kernel
theorem dX4_pick_75 : decode cX4_pick 75 = .ok (.dup, 1) := by decide +kernel
theorem dX4_pick_76 : decode cX4_pick 76 = .ok (.getfield 125, 3) := by decide +kernel
theorem dX4_pick_79 : decode cX4_pick 79 = .ok (.iconst 1, 1) := by decide +kernel
theorem dX4_pick_80 : decode cX4_pick 80 = .ok (.iadd, 1) := by decide +kernel
theorem dX4_pick_81 : decode cX4_pick 81 = .ok (.putfield 125, 3) := by decide +kernel
theorem dX4_pick_84 : decode cX4_pick 84 = .ok (.aload_n 0, 1) := by decide +kernel
theorem dX4_pick_85 : decode cX4_pick 85 = .ok (.getfield 125, 3) := by decide +kernel
theorem dX4_pick_88 : decode cX4_pick 88 = .ok (.ireturn, 1) := by decide +kernel
theorem dX4_drop_0 : decode cX4_drop 0 = .ok (.aload_n 0, 1) := by decide +kernel
theorem dX4_drop_1 : decode cX4_drop 1 = .ok (.getfield 125, 3) := by decide +kernel
theorem dX4_drop_4 : decode cX4_drop 4 = .ok (.istore_n 1, 1) := by decide +kernel
theorem dX4_drop_5 : decode cX4_drop 5 = .ok (.aload_n 0, 1) := by decide +kernel
theorem dX4_drop_6 : decode cX4_drop 6 = .ok (.iconst 0, 1) := by decide +kernel
theorem dX4_drop_7 : decode cX4_drop 7 = .ok (.putfield 125, 3) := by decide +kernel
theorem dX4_drop_10 : decode cX4_drop 10 = .ok (.iload_n 1, 1) := by decide +kernel
theorem dX4_drop_11 : decode cX4_drop 11 = .ok (.ireturn, 1) := by decide +kernel
theorem dX4_mayBeIn_0 : decode cX4_mayBeIn 0 = .ok (.aload_n 0, 1) := by decide +kernel
theorem dX4_mayBeIn_1 : decode cX4_mayBeIn 1 = .ok (.getfield 9, 3) := by decide +kernel
theorem dX4_mayBeIn_4 : decode cX4_mayBeIn 4 = .ok (.iload_n 3, 1) := by decide +kernel
theorem dX4_mayBeIn_5 : decode cX4_mayBeIn 5 = .ok (.iaload, 1) := by decide +kernel
theorem dX4_mayBeIn_6 : decode cX4_mayBeIn 6 = .ok (.istore 4, 2) := by decide +kernel
theorem dX4_mayBeIn_8 : decode cX4_mayBeIn 8 = .ok (.aload_n 0, 1) := by decide +kernel
theorem dX4_mayBeIn_9 : decode cX4_mayBeIn 9 = .ok (.getfield 19, 3) := by decide +kernel
theorem dX4_mayBeIn_12 : decode cX4_mayBeIn 12 = .ok (.iload_n 3, 1) := by decide +kernel
theorem dX4_mayBeIn_13 : decode cX4_mayBeIn 13 = .ok (.iaload, 1) := by decide +kernel
theorem dX4_mayBeIn_14 : decode cX4_mayBeIn 14 = .ok (.ifCond .eq 5, 3) := by decide +kernel
theorem dX4_mayBeIn_17 : decode cX4_mayBeIn 17 = .ok (.iconst 0, 1) := by decide +kernel
theorem dX4_mayBeIn_18 : decode cX4_mayBeIn 18 = .ok (.ireturn, 1) := by decide +kernel
theorem dX4_mayBeIn_19 : decode cX4_mayBeIn 19 = .ok (.iload_n 1, 1) := by decide +kernel
theorem dX4_mayBeIn_20 : decode cX4_mayBeIn 20 = .ok (.iconst 1, 1) := by decide +kernel
theorem dX4_mayBeIn_21 : decode cX4_mayBeIn 21 = .ok (.if_icmp .ne 20, 3) := by decide +kernel
theorem dX4_mayBeIn_24 : decode cX4_mayBeIn 24 = .ok (.iload 4, 2) := by decide +kernel
theorem dX4_mayBeIn_26 : decode cX4_mayBeIn 26 = .ok (.ifCond .eq 9, 3) := by decide +kernel
theorem dX4_mayBeIn_29 : decode cX4_mayBeIn 29 = .ok (.iload 4, 2) := by decide +kernel
theorem dX4_mayBeIn_31 : decode cX4_mayBeIn 31 = .ok (.iconst 4, 1) := by decide +kernel
theorem dX4_mayBeIn_32 : decode cX4_mayBeIn 32 = .ok (.if_icmp .ne 7, 3) := by decide +kernel
theorem dX4_mayBeIn_35 : decode cX4_mayBeIn 35 = .ok (.iconst 1, 1) := by decide +kernel
theorem dX4_mayBeIn_36 : decode cX4_mayBeIn 36 = .ok (.goto 4, 3) := by decide +kernel
theorem dX4_mayBeIn_39 : decode cX4_mayBeIn 39 = .ok (.iconst 0, 1) := by decide +kernel
theorem dX4_mayBeIn_40 : decode cX4_mayBeIn 40 = .ok (.ireturn, 1) := by decide +kernel
theorem dX4_mayBeIn_41 : decode cX4_mayBeIn 41 = .ok (.iload_n 1, 1) := by decide +kernel
theorem dX4_mayBeIn_42 : decode cX4_mayBeIn 42 = .ok (.iconst 2, 1) := by decide +kernel
theorem dX4_mayBeIn_43 : decode cX4_mayBeIn 43 = .ok (.if_icmp .ne 17, 3) := by decide +kernel
theorem dX4_mayBeIn_46 : decode cX4_mayBeIn 46 = .ok (.iload 4, 2) := by decide +kernel
theorem dX4_mayBeIn_48 : decode cX4_mayBeIn 48 = .ok (.iconst 1, 1) := by decide +kernel
theorem dX4_mayBeIn_49 : decode cX4_mayBeIn 49 = .ok (.if_icmp .ne 7, 3) := by decide +kernel
theorem dX4_mayBeIn_52 : decode cX4_mayBeIn 52 = .ok (.iconst 1, 1) := by decide +kernel
theorem dX4_mayBeIn_53 : decode cX4_mayBeIn 53 = .ok (.goto 24, 3) := by decide +kernel
theorem dX4_mayBeIn_56 : decode cX4_mayBeIn 56 = .ok (.iconst 0, 1) := by decide +kernel
theorem dX4_mayBeIn_57 : decode cX4_mayBeIn 57 = .ok (.goto 20, 3) := by decide +kernel
theorem dX4_mayBeIn_60 : decode cX4_mayBeIn 60 = .ok (.iload 4, 2) := by decide +kernel
theorem dX4_mayBeIn_62 : decode cX4_mayBeIn 62 = .ok (.iconst 2, 1) := by decide +kernel
theorem dX4_mayBeIn_63 : decode cX4_mayBeIn 63 = .ok (.if_icmp .eq 9, 3) := by decide +kernel
theorem dX4_mayBeIn_66 : decode cX4_mayBeIn 66 = .ok (.iload 4, 2) := by decide +kernel
theorem dX4_mayBeIn_68 : decode cX4_mayBeIn 68 = .ok (.iconst 5, 1) := by decide +kernel
theorem dX4_mayBeIn_69 : decode cX4_mayBeIn 69 = .ok (.if_icmp .ne 7, 3) := by decide +kernel
theorem dX4_mayBeIn_72 : decode cX4_mayBeIn 72 = .ok (.iconst 1, 1) := by decide +kernel
theorem dX4_mayBeIn_73 : decode cX4_mayBeIn 73 = .ok (.goto 4, 3) := by decide +kernel
theorem dX4_mayBeIn_76 : decode cX4_mayBeIn 76 = .ok (.iconst 0, 1) := by decide +kernel
theorem dX4_mayBeIn_77 : decode cX4_mayBeIn 77 = .ok (.istore 5, 2) := by decide +kernel
theorem dX4_mayBeIn_79 : decode cX4_mayBeIn 79 = .ok (.iload 5, 2) := by decide +kernel
theorem dX4_mayBeIn_81 : decode cX4_mayBeIn 81 = .ok (.ifCond .eq 19, 3) := by decide +kernel
theorem dX4_mayBeIn_84 : decode cX4_mayBeIn 84 = .ok (.aload_n 0, 1) := by decide +kernel
theorem dX4_mayBeIn_85 : decode cX4_mayBeIn 85 = .ok (.getfield 16, 3) := by decide +kernel
theorem dX4_mayBeIn_88 : decode cX4_mayBeIn 88 = .ok (.iload_n 3, 1) := by decide +kernel
theorem dX4_mayBeIn_89 : decode cX4_mayBeIn 89 = .ok (.iaload, 1) := by decide +kernel
theorem dX4_mayBeIn_90 : decode cX4_mayBeIn 90 = .ok (.iconst 3, 1) := by decide +kernel
theorem dX4_mayBeIn_91 : decode cX4_mayBeIn 91 = .ok (.iload_n 2, 1) := by decide +kernel
theorem dX4_mayBeIn_92 : decode cX4_mayBeIn 92 = .ok (.isub, 1) := by decide +kernel
theorem dX4_mayBeIn_93 : decode cX4_mayBeIn 93 = .ok (.if_icmp .ne 7, 3) := by decide +kernel
theorem dX4_mayBeIn_96 : decode cX4_mayBeIn 96 = .ok (.iconst 1, 1) := by decide +kernel
theorem dX4_mayBeIn_97 : decode cX4_mayBeIn 97 = .ok (.goto 4, 3) := by decide +kernel
theorem dX4_mayBeIn_100 : decode cX4_mayBeIn 100 = .ok (.iconst 0, 1) := by decide +kernel
theorem dX4_mayBeIn_101 : decode cX4_mayBeIn 101 = .ok (.ireturn, 1) := by decide +kernel
theorem dX4_lay_0 : decode cX4_lay 0 = .ok (.iload_n 1, 1) := by decide +kernel
theorem dX4_lay_1 : decode cX4_lay 1 = .ok (.iconst 1, 1) := by decide +kernel
theorem dX4_lay_2 : decode cX4_lay 2 = .ok (.if_icmp .lt 38, 3) := by decide +kernel
theorem dX4_lay_5 : decode cX4_lay 5 = .ok (.iload_n 1, 1) := by decide +kernel
theorem dX4_lay_6 : decode cX4_lay 6 = .ok (.iconst 3, 1) := by decide +kernel
theorem dX4_lay_7 : decode cX4_lay 7 = .ok (.if_icmp .gt 33, 3) := by decide +kernel
theorem dX4_lay_10 : decode cX4_lay 10 = .ok (.iload_n 2, 1) := by decide +kernel
theorem dX4_lay_11 : decode cX4_lay 11 = .ok (.iconst 1, 1) := by decide +kernel
theorem dX4_lay_12 : decode cX4_lay 12 = .ok (.if_icmp .lt 28, 3) := by decide +kernel
theorem dX4_lay_15 : decode cX4_lay 15 = .ok (.iload_n 2, 1) := by decide +kernel
theorem dX4_lay_16 : decode cX4_lay 16 = .ok (.iconst 2, 1) := by decide +kernel
theorem dX4_lay_17 : decode cX4_lay 17 = .ok (.if_icmp .gt 23, 3) := by decide +kernel
theorem dX4_lay_20 : decode cX4_lay 20 = .ok (.iload_n 3, 1) := by decide +kernel
theorem dX4_lay_21 : decode cX4_lay 21 = .ok (.ifCond .lt 19, 3) := by decide +kernel
theorem dX4_lay_24 : decode cX4_lay 24 = .ok (.iload_n 3, 1) := by decide +kernel
theorem dX4_lay_25 : decode cX4_lay 25 = .ok (.sipush 400, 3) := by decide +kernel
theorem dX4_lay_28 : decode cX4_lay 28 = .ok (.if_icmp .gt 12, 3) := by decide +kernel
theorem dX4_lay_31 : decode cX4_lay 31 = .ok (.aload_n 0, 1) := by decide +kernel
theorem dX4_lay_32 : decode cX4_lay 32 = .ok (.getfield 105, 3) := by decide +kernel
theorem dX4_lay_35 : decode cX4_lay 35 = .ok (.bipush 120, 2) := by decide +kernel
theorem dX4_lay_37 : decode cX4_lay 37 = .ok (.if_icmp .ne 6, 3) := by decide +kernel
theorem dX4_lay_40 : decode cX4_lay 40 = .ok (.bipush (-2), 2) := by decide +kernel
theorem dX4_lay_42 : decode cX4_lay 42 = .ok (.ireturn, 1) := by decide +kernel
theorem dX4_lay_43 : decode cX4_lay 43 = .ok (.iload_n 1, 1) := by decide +kernel
theorem dX4_lay_44 : decode cX4_lay 44 = .ok (.iconst 1, 1) := by decide +kernel
theorem dX4_lay_45 : decode cX4_lay 45 = .ok (.if_icmp .ne 19, 3) := by decide +kernel
theorem dX4_lay_48 : decode cX4_lay 48 = .ok (.aload_n 0, 1) := by decide +kernel
theorem dX4_lay_49 : decode cX4_lay 49 = .ok (.getfield 125, 3) := by decide +kernel
theorem dX4_lay_52 : decode cX4_lay 52 = .ok (.iconst 2, 1) := by decide +kernel
theorem dX4_lay_53 : decode cX4_lay 53 = .ok (.if_icmp .lt 7, 3) := by decide +kernel
theorem dX4_lay_56 : decode cX4_lay 56 = .ok (.iconst 1, 1) := by decide +kernel
theorem dX4_lay_57 : decode cX4_lay 57 = .ok (.goto 49, 3) := by decide +kernel
theorem dX4_lay_60 : decode cX4_lay 60 = .ok (.iconst 0, 1) := by decide +kernel
theorem dX4_lay_61 : decode cX4_lay 61 = .ok (.goto 45, 3) := by decide +kernel
theorem dX4_lay_64 : decode cX4_lay 64 = .ok (.iload_n 1, 1) := by decide +kernel
theorem dX4_lay_65 : decode cX4_lay 65 = .ok (.iconst 2, 1) := by decide +kernel
theorem dX4_lay_66 : decode cX4_lay 66 = .ok (.if_icmp .ne 27, 3) := by decide +kernel
theorem dX4_lay_69 : decode cX4_lay 69 = .ok (.aload_n 0, 1) := by decide +kernel
theorem dX4_lay_70 : decode cX4_lay 70 = .ok (.getfield 125, 3) := by decide +kernel
theorem dX4_lay_73 : decode cX4_lay 73 = .ok (.iconst 3, 1) := by decide +kernel
theorem dX4_lay_74 : decode cX4_lay 74 = .ok (.if_icmp .eq 11, 3) := by decide +kernel
theorem dX4_lay_77 : decode cX4_lay 77 = .ok (.aload_n 0, 1) := by decide +kernel
theorem dX4_lay_78 : decode cX4_lay 78 = .ok (.getfield 125, 3) := by decide +kernel
theorem dX4_lay_81 : decode cX4_lay 81 = .ok (.iconst 4, 1) := by decide +kernel
theorem dX4_lay_82 : decode cX4_lay 82 = .ok (.if_icmp .ne 7, 3) := by decide +kernel
theorem dX4_lay_85 : decode cX4_lay 85 = .ok (.iconst 1, 1) := by decide +kernel
theorem dX4_lay_86 : decode cX4_lay 86 = .ok (.goto 20, 3) := by decide +kernel
theorem dX4_lay_89 : decode cX4_lay 89 = .ok (.iconst 0, 1) := by decide +kernel
theorem dX4_lay_90 : decode cX4_lay 90 = .ok (.goto 16, 3) := by decide +kernel
theorem dX4_lay_93 : decode cX4_lay 93 = .ok (.aload_n 0, 1) := by decide +kernel
theorem dX4_lay_94 : decode cX4_lay 94 = .ok (.getfield 125, 3) := by decide +kernel
theorem dX4_lay_97 : decode cX4_lay 97 = .ok (.iconst 3, 1) := by decide +kernel
theorem dX4_lay_98 : decode cX4_lay 98 = .ok (.if_icmp .ne 7, 3) := by decide +kernel
theorem dX4_lay_101 : decode cX4_lay 101 = .ok (.iconst 1, 1) := by decide +kernel
theorem dX4_lay_102 : decode cX4_lay 102 = .ok (.goto 4, 3) := by decide +kernel
theorem dX4_lay_105 : decode cX4_lay 105 = .ok (.iconst 0, 1) := by decide +kernel
theorem dX4_lay_106 : decode cX4_lay 106 = .ok (.istore 4, 2) := by decide +kernel
theorem dX4_lay_108 : decode cX4_lay 108 = .ok (.sipush 2000, 3) := by decide +kernel
theorem dX4_lay_111 : decode cX4_lay 111 = .ok (.istore 5, 2) := by decide +kernel
theorem dX4_lay_113 : decode cX4_lay 113 = .ok (.iconst 0, 1) := by decide +kernel
theorem dX4_lay_114 : decode cX4_lay 114 = .ok (.istore 6, 2) := by decide +kernel
theorem dX4_lay_116 : decode cX4_lay 116 = .ok (.iload 6, 2) := by decide +kernel
theorem dX4_lay_118 : decode cX4_lay 118 = .ok (.aload_n 0, 1) := by decide +kernel
theorem dX4_lay_119 : decode cX4_lay 119 = .ok (.getfield 125, 3) := by decide +kernel
theorem dX4_lay_122 : decode cX4_lay 122 = .ok (.if_icmp .ge 63, 3) := by decide +kernel
theorem dX4_lay_125 : decode cX4_lay 125 = .ok (.iload 4, 2) := by decide +kernel
theorem dX4_lay_127 : decode cX4_lay 127 = .ok (.aload_n 0, 1) := by decide +kernel
theorem dX4_lay_128 : decode cX4_lay 128 = .ok (.iload_n 1, 1) := by decide +kernel
theorem dX4_lay_129 : decode cX4_lay 129 = .ok (.iload_n 2, 1) := by decide +kernel
theorem dX4_lay_130 : decode cX4_lay 130 = .ok (.aload_n 0, 1) := by decide +kernel
theorem dX4_lay_131 : decode cX4_lay 131 = .ok (.getfield 54, 3) := by decide +kernel
theorem dX4_lay_134 : decode cX4_lay 134 = .ok (.iload 6, 2) := by decide +kernel
theorem dX4_lay_136 : decode cX4_lay 136 = .ok (.iaload, 1) := by decide +kernel
theorem dX4_lay_137 : decode cX4_lay 137 = .ok (.invokevirtual 128, 3) := by decide +kernel
theorem dX4_lay_140 : decode cX4_lay 140 = .ok (.iand, 1) := by decide +kernel
theorem dX4_lay_141 : decode cX4_lay 141 = .ok (.istore 4, 2) := by decide +kernel
theorem dX4_lay_143 : decode cX4_lay 143 = .ok (.aload_n 0, 1) := by decide +kernel
theorem dX4_lay_144 : decode cX4_lay 144 = .ok (.getfield 13, 3) := by decide +kernel
theorem dX4_lay_147 : decode cX4_lay 147 = .ok (.aload_n 0, 1) := by decide +kernel
theorem dX4_lay_148 : decode cX4_lay 148 = .ok (.getfield 54, 3) := by decide +kernel
theorem dX4_lay_151 : decode cX4_lay 151 = .ok (.iload 6, 2) := by decide +kernel
theorem dX4_lay_153 : decode cX4_lay 153 = .ok (.iaload, 1) := by decide +kernel
theorem dX4_lay_154 : decode cX4_lay 154 = .ok (.iaload, 1) := by decide +kernel
theorem dX4_lay_155 : decode cX4_lay 155 = .ok (.iload 5, 2) := by decide +kernel
theorem dX4_lay_157 : decode cX4_lay 157 = .ok (.if_icmp .ge 18, 3) := by decide +kernel
theorem dX4_lay_160 : decode cX4_lay 160 = .ok (.aload_n 0, 1) := by decide +kernel
theorem dX4_lay_161 : decode cX4_lay 161 = .ok (.getfield 13, 3) := by decide +kernel
theorem dX4_lay_164 : decode cX4_lay 164 = .ok (.aload_n 0, 1) := by decide +kernel
theorem dX4_lay_165 : decode cX4_lay 165 = .ok (.getfield 54, 3) := by decide +kernel
theorem dX4_lay_168 : decode cX4_lay 168 = .ok (.iload 6, 2) := by decide +kernel
theorem dX4_lay_170 : decode cX4_lay 170 = .ok (.iaload, 1) := by decide +kernel
theorem dX4_lay_171 : decode cX4_lay 171 = .ok (.iaload, 1) := by decide +kernel
theorem dX4_lay_172 : decode cX4_lay 172 = .ok (.goto 5, 3) := by decide +kernel
theorem dX4_lay_175 : decode cX4_lay 175 = .ok (.iload 5, 2) := by decide +kernel
theorem dX4_lay_177 : decode cX4_lay 177 = .ok (.istore 5, 2) := by decide +kernel
theorem dX4_lay_179 : decode cX4_lay 179 = .ok (.iinc 6 1, 3) := by decide +kernel
theorem dX4_lay_182 : decode cX4_lay 182 = .ok (.goto (-66), 3) := by decide +kernel
theorem dX4_lay_185 : decode cX4_lay 185 = .ok (.iload 5, 2) := by decide +kernel
theorem dX4_lay_187 : decode cX4_lay 187 = .ok (.sipush 1000, 3) := by decide +kernel
theorem dX4_lay_190 : decode cX4_lay 190 = .ok (.iload_n 3, 1) := by decide +kernel
theorem dX4_lay_191 : decode cX4_lay 191 = .ok (.isub, 1) := by decide +kernel
theorem dX4_lay_192 : decode cX4_lay 192 = .ok (.imul, 1) := by decide +kernel
theorem dX4_lay_193 : decode cX4_lay 193 = .ok (.sipush 1000, 3) := by decide +kernel
theorem dX4_lay_196 : decode cX4_lay 196 = .ok (.idiv, 1) := by decide +kernel
theorem dX4_lay_197 : decode cX4_lay 197 = .ok (.istore 6, 2) := by decide +kernel
theorem dX4_lay_199 : decode cX4_lay 199 = .ok (.iload 4, 2) := by decide +kernel
theorem dX4_lay_201 : decode cX4_lay 201 = .ok (.ifCond .eq 8, 3) := by decide +kernel
theorem dX4_lay_204 : decode cX4_lay 204 = .ok (.iload 6, 2) := by decide +kernel
theorem dX4_lay_206 : decode cX4_lay 206 = .ok (.ifCond .ne 6, 3) := by decide +kernel
theorem dX4_lay_209 : decode cX4_lay 209 = .ok (.bipush (-2), 2) := by decide +kernel
theorem dX4_lay_211 : decode cX4_lay 211 = .ok (.ireturn, 1) := by decide +kernel
theorem dX4_lay_212 : decode cX4_lay 212 = .ok (.aload_n 0, 1) := by decide +kernel
theorem dX4_lay_213 : decode cX4_lay 213 = .ok (.iload_n 1, 1) := by decide +kernel
theorem dX4_lay_214 : decode cX4_lay 214 = .ok (.iload 6, 2) := by decide +kernel
theorem dX4_lay_216 : decode cX4_lay 216 = .ok (.iload_n 2, 1) := by decide +kernel
theorem dX4_lay_217 : decode cX4_lay 217 = .ok (.invokevirtual 114, 3) := by decide +kernel
theorem dX4_lay_220 : decode cX4_lay 220 = .ok (.istore 7, 2) := by decide +kernel
theorem dX4_lay_222 : decode cX4_lay 222 = .ok (.iconst 0, 1) := by decide +kernel
theorem dX4_lay_223 : decode cX4_lay 223 = .ok (.istore 8, 2) := by decide +kernel
theorem dX4_lay_225 : decode cX4_lay 225 = .ok (.iload 8, 2) := by decide +kernel
theorem dX4_lay_227 : decode cX4_lay 227 = .ok (.aload_n 0, 1) := by decide +kernel
theorem dX4_lay_228 : decode cX4_lay 228 = .ok (.getfield 125, 3) := by decide +kernel
theorem dX4_lay_231 : decode cX4_lay 231 = .ok (.if_icmp .ge 22, 3) := by decide +kernel
theorem dX4_lay_234 : decode cX4_lay 234 = .ok (.aload_n 0, 1) := by decide +kernel
theorem dX4_lay_235 : decode cX4_lay 235 = .ok (.iload 7, 2) := by decide +kernel
theorem dX4_lay_237 : decode cX4_lay 237 = .ok (.aload_n 0, 1) := by decide +kernel
theorem dX4_lay_238 : decode cX4_lay 238 = .ok (.getfield 54, 3) := by decide +kernel
theorem dX4_lay_241 : decode cX4_lay 241 = .ok (.iload 8, 2) := by decide +kernel
theorem dX4_lay_243 : decode cX4_lay 243 = .ok (.iaload, 1) := by decide +kernel
theorem dX4_lay_244 : decode cX4_lay 244 = .ok (.invokevirtual 132, 3) := by decide +kernel
theorem dX4_lay_247 : decode cX4_lay 247 = .ok (.iinc 8 1, 3) := by decide +kernel
theorem dX4_lay_250 : decode cX4_lay 250 = .ok (.goto (-25), 3) := by decide +kernel
theorem dX4_lay_253 : decode cX4_lay 253 = .ok (.aload_n 0, 1) := by decide +kernel
theorem dX4_lay_254 : decode cX4_lay 254 = .ok (.iconst 0, 1) := by decide +kernel
theorem dX4_lay_255 : decode cX4_lay 255 = .ok (.putfield 125, 3) := by decide +kernel
theorem dX4_lay_258 : decode cX4_lay 258 = .ok (.iload 7, 2) := by decide +kernel
theorem dX4_lay_260 : decode cX4_lay 260 = .ok (.ireturn, 1) := by decide +kernel
theorem dX4_putIn_0 : decode cX4_putIn 0 = .ok (.aload_n 0, 1) := by decide +kernel
theorem dX4_putIn_1 : decode cX4_putIn 1 = .ok (.getfield 29, 3) := by decide +kernel
theorem dX4_putIn_4 : decode cX4_putIn 4 = .ok (.bipush 9, 2) := by decide +kernel
theorem dX4_putIn_6 : decode cX4_putIn 6 = .ok (.iload_n 1, 1) := by decide +kernel
theorem dX4_putIn_7 : decode cX4_putIn 7 = .ok (.imul, 1) := by decide +kernel
theorem dX4_putIn_8 : decode cX4_putIn 8 = .ok (.aload_n 0, 1) := by decide +kernel
theorem dX4_putIn_9 : decode cX4_putIn 9 = .ok (.getfield 26, 3) := by decide +kernel
theorem dX4_putIn_12 : decode cX4_putIn 12 = .ok (.iload_n 1, 1) := by decide +kernel
theorem dX4_putIn_13 : decode cX4_putIn 13 = .ok (.iaload, 1) := by decide +kernel
theorem dX4_putIn_14 : decode cX4_putIn 14 = .ok (.iadd, 1) := by decide +kernel
theorem dX4_putIn_15 : decode cX4_putIn 15 = .ok (.iload_n 2, 1) := by decide +kernel
theorem dX4_putIn_16 : decode cX4_putIn 16 = .ok (.iastore, 1) := by decide +kernel
theorem dX4_putIn_17 : decode cX4_putIn 17 = .ok (.aload_n 0, 1) := by decide +kernel
theorem dX4_putIn_18 : decode cX4_putIn 18 = .ok (.getfield 26, 3) := by decide +kernel
theorem dX4_putIn_21 : decode cX4_putIn 21 = .ok (.iload_n 1, 1) := by decide +kernel
theorem dX4_putIn_22 : decode cX4_putIn 22 = .ok (.dup2, 1) := by decide +kernel
theorem dX4_putIn_23 : decode cX4_putIn 23 = .ok (.iaload, 1) := by decide +kernel
theorem dX4_putIn_24 : decode cX4_putIn 24 = .ok (.iconst 1, 1) := by decide +kernel
theorem dX4_putIn_25 : decode cX4_putIn 25 = .ok (.iadd, 1) := by decide +kernel
theorem dX4_putIn_26 : decode cX4_putIn 26 = .ok (.iastore, 1) := by decide +kernel
theorem dX4_putIn_27 : decode cX4_putIn 27 = .ok (.aload_n 0, 1) := by decide +kernel
theorem dX4_putIn_28 : decode cX4_putIn 28 = .ok (.getfield 19, 3) := by decide +kernel
theorem dX4_putIn_31 : decode cX4_putIn 31 = .ok (.iload_n 2, 1) := by decide +kernel
theorem dX4_putIn_32 : decode cX4_putIn 32 = .ok (.iconst 1, 1) := by decide +kernel
theorem dX4_putIn_33 : decode cX4_putIn 33 = .ok (.iastore, 1) := by decide +kernel
theorem dX4_putIn_34 : decode cX4_putIn 34 = .ok (.aload_n 0, 1) := by decide +kernel
theorem dX4_putIn_35 : decode cX4_putIn 35 = .ok (.getfield 32, 3) := by decide +kernel
theorem dX4_putIn_38 : decode cX4_putIn 38 = .ok (.iload_n 2, 1) := by decide +kernel
theorem dX4_putIn_39 : decode cX4_putIn 39 = .ok (.iload_n 1, 1) := by decide +kernel
theorem dX4_putIn_40 : decode cX4_putIn 40 = .ok (.iastore, 1) := by decide +kernel
theorem dX4_putIn_41 : decode cX4_putIn 41 = .ok (.return_, 1) := by decide +kernel
theorem dX4_isThick_0 : decode cX4_isThick 0 = .ok (.aload_n 0, 1) := by decide +kernel
theorem dX4_isThick_1 : decode cX4_isThick 1 = .ok (.getfield 9, 3) := by decide +kernel
theorem dX4_isThick_4 : decode cX4_isThick 4 = .ok (.iload_n 1, 1) := by decide +kernel
theorem dX4_isThick_5 : decode cX4_isThick 5 = .ok (.iaload, 1) := by decide +kernel
theorem dX4_isThick_6 : decode cX4_isThick 6 = .ok (.iconst 2, 1) := by decide +kernel
theorem dX4_isThick_7 : decode cX4_isThick 7 = .ok (.if_icmp .eq 23, 3) := by decide +kernel
theorem dX4_isThick_10 : decode cX4_isThick 10 = .ok (.aload_n 0, 1) := by decide +kernel
theorem dX4_isThick_11 : decode cX4_isThick 11 = .ok (.getfield 9, 3) := by decide +kernel
theorem dX4_isThick_14 : decode cX4_isThick 14 = .ok (.iload_n 1, 1) := by decide +kernel
theorem dX4_isThick_15 : decode cX4_isThick 15 = .ok (.iaload, 1) := by decide +kernel
theorem dX4_isThick_16 : decode cX4_isThick 16 = .ok (.iconst 3, 1) := by decide +kernel
theorem dX4_isThick_17 : decode cX4_isThick 17 = .ok (.if_icmp .eq 13, 3) := by decide +kernel
theorem dX4_isThick_20 : decode cX4_isThick 20 = .ok (.aload_n 0, 1) := by decide +kernel
theorem dX4_isThick_21 : decode cX4_isThick 21 = .ok (.getfield 9, 3) := by decide +kernel
theorem dX4_isThick_24 : decode cX4_isThick 24 = .ok (.iload_n 1, 1) := by decide +kernel
theorem dX4_isThick_25 : decode cX4_isThick 25 = .ok (.iaload, 1) := by decide +kernel
theorem dX4_isThick_26 : decode cX4_isThick 26 = .ok (.iconst 5, 1) := by decide +kernel
theorem dX4_isThick_27 : decode cX4_isThick 27 = .ok (.if_icmp .ne 7, 3) := by decide +kernel
theorem dX4_isThick_30 : decode cX4_isThick 30 = .ok (.iconst 1, 1) := by decide +kernel
theorem dX4_isThick_31 : decode cX4_isThick 31 = .ok (.goto 4, 3) := by decide +kernel
theorem dX4_isThick_34 : decode cX4_isThick 34 = .ok (.iconst 0, 1) := by decide +kernel
theorem dX4_isThick_35 : decode cX4_isThick 35 = .ok (.ireturn, 1) := by decide +kernel
theorem dX4_splice_0 : decode cX4_splice 0 = .ok (.aload_n 0, 1) := by decide +kernel
theorem dX4_splice_1 : decode cX4_splice 1 = .ok (.iload_n 1, 1) := by decide +kernel
theorem dX4_splice_2 : decode cX4_splice 2 = .ok (.invokevirtual 122, 3) := by decide +kernel
theorem dX4_splice_5 : decode cX4_splice 5 = .ok (.ifCond .eq 72, 3) := by decide +kernel
theorem dX4_splice_8 : decode cX4_splice 8 = .ok (.aload_n 0, 1) := by decide +kernel
theorem dX4_splice_9 : decode cX4_splice 9 = .ok (.iload_n 2, 1) := by decide +kernel
theorem dX4_splice_10 : decode cX4_splice 10 = .ok (.invokevirtual 122, 3) := by decide +kernel
theorem dX4_splice_13 : decode cX4_splice 13 = .ok (.ifCond .eq 64, 3) := by decide +kernel
theorem dX4_splice_16 : decode cX4_splice 16 = .ok (.iload_n 1, 1) := by decide +kernel
theorem dX4_splice_17 : decode cX4_splice 17 = .ok (.iload_n 2, 1) := by decide +kernel
theorem dX4_splice_18 : decode cX4_splice 18 = .ok (.if_icmp .eq 59, 3) := by decide +kernel
theorem dX4_splice_21 : decode cX4_splice 21 = .ok (.aload_n 0, 1) := by decide +kernel
theorem dX4_splice_22 : decode cX4_splice 22 = .ok (.iload_n 1, 1) := by decide +kernel
theorem dX4_splice_23 : decode cX4_splice 23 = .ok (.invokevirtual 136, 3) := by decide +kernel
theorem dX4_splice_26 : decode cX4_splice 26 = .ok (.ifCond .eq 51, 3) := by decide +kernel
theorem dX4_splice_29 : decode cX4_splice 29 = .ok (.aload_n 0, 1) := by decide +kernel
theorem dX4_splice_30 : decode cX4_splice 30 = .ok (.iload_n 2, 1) := by decide +kernel
theorem dX4_splice_31 : decode cX4_splice 31 = .ok (.invokevirtual 136, 3) := by decide +kernel
theorem dX4_splice_34 : decode cX4_splice 34 = .ok (.ifCond .eq 43, 3) := by decide +kernel
theorem dX4_splice_37 : decode cX4_splice 37 = .ok (.aload_n 0, 1) := by decide +kernel
theorem dX4_splice_38 : decode cX4_splice 38 = .ok (.getfield 16, 3) := by decide +kernel
theorem dX4_splice_41 : decode cX4_splice 41 = .ok (.iload_n 1, 1) := by decide +kernel
theorem dX4_splice_42 : decode cX4_splice 42 = .ok (.iaload, 1) := by decide +kernel
theorem dX4_splice_43 : decode cX4_splice 43 = .ok (.aload_n 0, 1) := by decide +kernel
theorem dX4_splice_44 : decode cX4_splice 44 = .ok (.getfield 16, 3) := by decide +kernel
theorem dX4_splice_47 : decode cX4_splice 47 = .ok (.iload_n 2, 1) := by decide +kernel
theorem dX4_splice_48 : decode cX4_splice 48 = .ok (.iaload, 1) := by decide +kernel
theorem dX4_splice_49 : decode cX4_splice 49 = .ok (.if_icmp .ne 28, 3) := by decide +kernel
theorem dX4_splice_52 : decode cX4_splice 52 = .ok (.iload_n 3, 1) := by decide +kernel
theorem dX4_splice_53 : decode cX4_splice 53 = .ok (.iconst 1, 1) := by decide +kernel
theorem dX4_splice_54 : decode cX4_splice 54 = .ok (.if_icmp .lt 23, 3) := by decide +kernel
theorem dX4_splice_57 : decode cX4_splice 57 = .ok (.iload_n 3, 1) := by decide +kernel
theorem dX4_splice_58 : decode cX4_splice 58 = .ok (.aload_n 0, 1) := by decide +kernel
theorem dX4_splice_59 : decode cX4_splice 59 = .ok (.getfield 13, 3) := by decide +kernel
theorem dX4_splice_62 : decode cX4_splice 62 = .ok (.iload_n 1, 1) := by decide +kernel
theorem dX4_splice_63 : decode cX4_splice 63 = .ok (.iaload, 1) := by decide +kernel
theorem dX4_splice_64 : decode cX4_splice 64 = .ok (.if_icmp .gt 13, 3) := by decide +kernel
theorem dX4_splice_67 : decode cX4_splice 67 = .ok (.iload_n 3, 1) := by decide +kernel
theorem dX4_splice_68 : decode cX4_splice 68 = .ok (.aload_n 0, 1) := by decide +kernel
theorem dX4_splice_69 : decode cX4_splice 69 = .ok (.getfield 13, 3) := by decide +kernel
theorem dX4_splice_72 : decode cX4_splice 72 = .ok (.iload_n 2, 1) := by decide +kernel
theorem dX4_splice_73 : decode cX4_splice 73 = .ok (.iaload, 1) := by decide +kernel
theorem dX4_splice_74 : decode cX4_splice 74 = .ok (.if_icmp .le 6, 3) := by decide +kernel
theorem dX4_splice_77 : decode cX4_splice 77 = .ok (.bipush (-2), 2) := by decide +kernel
theorem dX4_splice_79 : decode cX4_splice 79 = .ok (.ireturn, 1) := by decide +kernel
theorem dX4_splice_80 : decode cX4_splice 80 = .ok (.aload_n 0, 1) := by decide +kernel
theorem dX4_splice_81 : decode cX4_splice 81 = .ok (.getfield 13, 3) := by decide +kernel
theorem dX4_splice_84 : decode cX4_splice 84 = .ok (.iload_n 1, 1) := by decide +kernel
theorem dX4_splice_85 : decode cX4_splice 85 = .ok (.iaload, 1) := by decide +kernel
theorem dX4_splice_86 : decode cX4_splice 86 = .ok (.aload_n 0, 1) := by decide +kernel
theorem dX4_splice_87 : decode cX4_splice 87 = .ok (.getfield 13, 3) := by decide +kernel
theorem dX4_splice_90 : decode cX4_splice 90 = .ok (.iload_n 2, 1) := by decide +kernel
theorem dX4_splice_91 : decode cX4_splice 91 = .ok (.iaload, 1) := by decide +kernel
theorem dX4_splice_92 : decode cX4_splice 92 = .ok (.iadd, 1) := by decide +kernel
theorem dX4_splice_93 : decode cX4_splice 93 = .ok (.iload_n 3, 1) := by decide +kernel
theorem dX4_splice_94 : decode cX4_splice 94 = .ok (.isub, 1) := by decide +kernel
theorem dX4_splice_95 : decode cX4_splice 95 = .ok (.istore 4, 2) := by decide +kernel
theorem dX4_splice_97 : decode cX4_splice 97 = .ok (.iload 4, 2) := by decide +kernel
theorem dX4_splice_99 : decode cX4_splice 99 = .ok (.sipush 2000, 3) := by decide +kernel
theorem dX4_splice_102 : decode cX4_splice 102 = .ok (.if_icmp .gt 12, 3) := by decide +kernel
theorem dX4_splice_105 : decode cX4_splice 105 = .ok (.aload_n 0, 1) := by decide +kernel
theorem dX4_splice_106 : decode cX4_splice 106 = .ok (.getfield 105, 3) := by decide +kernel
theorem dX4_splice_109 : decode cX4_splice 109 = .ok (.bipush 120, 2) := by decide +kernel
theorem dX4_splice_111 : decode cX4_splice 111 = .ok (.if_icmp .ne 6, 3) := by decide +kernel
theorem dX4_splice_114 : decode cX4_splice 114 = .ok (.bipush (-2), 2) := by decide +kernel
theorem dX4_splice_116 : decode cX4_splice 116 = .ok (.ireturn, 1) := by decide +kernel
theorem dX4_splice_117 : decode cX4_splice 117 = .ok (.aload_n 0, 1) := by decide +kernel
theorem dX4_splice_118 : decode cX4_splice 118 = .ok (.iconst 5, 1) := by decide +kernel
theorem dX4_splice_119 : decode cX4_splice 119 = .ok (.iload 4, 2) := by decide +kernel
theorem dX4_splice_121 : decode cX4_splice 121 = .ok (.aload_n 0, 1) := by decide +kernel
theorem dX4_splice_122 : decode cX4_splice 122 = .ok (.getfield 16, 3) := by decide +kernel
theorem dX4_splice_125 : decode cX4_splice 125 = .ok (.iload_n 1, 1) := by decide +kernel
theorem dX4_splice_126 : decode cX4_splice 126 = .ok (.iaload, 1) := by decide +kernel
theorem dX4_splice_127 : decode cX4_splice 127 = .ok (.invokevirtual 114, 3) := by decide +kernel
theorem dX4_splice_130 : decode cX4_splice 130 = .ok (.istore 5, 2) := by decide +kernel
theorem dX4_splice_132 : decode cX4_splice 132 = .ok (.aload_n 0, 1) := by decide +kernel
theorem dX4_splice_133 : decode cX4_splice 133 = .ok (.getfield 35, 3) := by decide +kernel
theorem dX4_splice_136 : decode cX4_splice 136 = .ok (.iload 5, 2) := by decide +kernel
theorem dX4_splice_138 : decode cX4_splice 138 = .ok (.iload_n 3, 1) := by decide +kernel
theorem dX4_splice_139 : decode cX4_splice 139 = .ok (.iastore, 1) := by decide +kernel
theorem dX4_splice_140 : decode cX4_splice 140 = .ok (.aload_n 0, 1) := by decide +kernel
theorem dX4_splice_141 : decode cX4_splice 141 = .ok (.iload 5, 2) := by decide +kernel
theorem dX4_splice_143 : decode cX4_splice 143 = .ok (.iload_n 1, 1) := by decide +kernel
theorem dX4_splice_144 : decode cX4_splice 144 = .ok (.invokevirtual 132, 3) := by decide +kernel
theorem dX4_splice_147 : decode cX4_splice 147 = .ok (.aload_n 0, 1) := by decide +kernel
theorem dX4_splice_148 : decode cX4_splice 148 = .ok (.iload 5, 2) := by decide +kernel
theorem dX4_splice_150 : decode cX4_splice 150 = .ok (.iload_n 2, 1) := by decide +kernel
theorem dX4_splice_151 : decode cX4_splice 151 = .ok (.invokevirtual 132, 3) := by decide +kernel
theorem dX4_splice_154 : decode cX4_splice 154 = .ok (.iload 5, 2) := by decide +kernel
theorem dX4_splice_156 : decode cX4_splice 156 = .ok (.ireturn, 1) := by decide +kernel
theorem dX4_untwist_0 : decode cX4_untwist 0 = .ok (.aload_n 0, 1) := by decide +kernel
theorem dX4_untwist_1 : decode cX4_untwist 1 = .ok (.iload_n 1, 1) := by decide +kernel
theorem dX4_untwist_2 : decode cX4_untwist 2 = .ok (.invokevirtual 122, 3) := by decide +kernel
theorem dX4_untwist_5 : decode cX4_untwist 5 = .ok (.ifCond .eq 12, 3) := by decide +kernel
theorem dX4_untwist_8 : decode cX4_untwist 8 = .ok (.aload_n 0, 1) := by decide +kernel
theorem dX4_untwist_9 : decode cX4_untwist 9 = .ok (.getfield 26, 3) := by decide +kernel
theorem dX4_untwist_12 : decode cX4_untwist 12 = .ok (.iload_n 1, 1) := by decide +kernel
theorem dX4_untwist_13 : decode cX4_untwist 13 = .ok (.iaload, 1) := by decide +kernel
theorem dX4_untwist_14 : decode cX4_untwist 14 = .ok (.ifCond .ne 6, 3) := by decide +kernel
theorem dX4_untwist_17 : decode cX4_untwist 17 = .ok (.bipush (-2), 2) := by decide +kernel
theorem dX4_untwist_19 : decode cX4_untwist 19 = .ok (.ireturn, 1) := by decide +kernel
theorem dX4_untwist_20 : decode cX4_untwist 20 = .ok (.aload_n 0, 1) := by decide +kernel
theorem dX4_untwist_21 : decode cX4_untwist 21 = .ok (.getfield 19, 3) := by decide +kernel
theorem dX4_untwist_24 : decode cX4_untwist 24 = .ok (.iload_n 1, 1) := by decide +kernel
theorem dX4_untwist_25 : decode cX4_untwist 25 = .ok (.iconst 3, 1) := by decide +kernel
theorem dX4_untwist_26 : decode cX4_untwist 26 = .ok (.iastore, 1) := by decide +kernel
theorem dX4_untwist_27 : decode cX4_untwist 27 = .ok (.iconst 0, 1) := by decide +kernel
theorem dX4_untwist_28 : decode cX4_untwist 28 = .ok (.istore_n 2, 1) := by decide +kernel
theorem dX4_untwist_29 : decode cX4_untwist 29 = .ok (.iload_n 2, 1) := by decide +kernel
theorem dX4_untwist_30 : decode cX4_untwist 30 = .ok (.aload_n 0, 1) := by decide +kernel
theorem dX4_untwist_31 : decode cX4_untwist 31 = .ok (.getfield 26, 3) := by decide +kernel
theorem dX4_untwist_34 : decode cX4_untwist 34 = .ok (.iload_n 1, 1) := by decide +kernel
theorem dX4_untwist_35 : decode cX4_untwist 35 = .ok (.iaload, 1) := by decide +kernel
theorem dX4_untwist_36 : decode cX4_untwist 36 = .ok (.if_icmp .ge 35, 3) := by decide +kernel
theorem dX4_untwist_39 : decode cX4_untwist 39 = .ok (.aload_n 0, 1) := by decide +kernel
theorem dX4_untwist_40 : decode cX4_untwist 40 = .ok (.getfield 29, 3) := by decide +kernel
theorem dX4_untwist_43 : decode cX4_untwist 43 = .ok (.bipush 9, 2) := by decide +kernel
theorem dX4_untwist_45 : decode cX4_untwist 45 = .ok (.iload_n 1, 1) := by decide +kernel
theorem dX4_untwist_46 : decode cX4_untwist 46 = .ok (.imul, 1) := by decide +kernel
theorem dX4_untwist_47 : decode cX4_untwist 47 = .ok (.iload_n 2, 1) := by decide +kernel
theorem dX4_untwist_48 : decode cX4_untwist 48 = .ok (.iadd, 1) := by decide +kernel
theorem dX4_untwist_49 : decode cX4_untwist 49 = .ok (.iaload, 1) := by decide +kernel
theorem dX4_untwist_50 : decode cX4_untwist 50 = .ok (.istore_n 3, 1) := by decide +kernel
theorem dX4_untwist_51 : decode cX4_untwist 51 = .ok (.aload_n 0, 1) := by decide +kernel
theorem dX4_untwist_52 : decode cX4_untwist 52 = .ok (.getfield 19, 3) := by decide +kernel
theorem dX4_untwist_55 : decode cX4_untwist 55 = .ok (.iload_n 3, 1) := by decide +kernel
theorem dX4_untwist_56 : decode cX4_untwist 56 = .ok (.iconst 0, 1) := by decide +kernel
theorem dX4_untwist_57 : decode cX4_untwist 57 = .ok (.iastore, 1) := by decide +kernel
theorem dX4_untwist_58 : decode cX4_untwist 58 = .ok (.aload_n 0, 1) := by decide +kernel
theorem dX4_untwist_59 : decode cX4_untwist 59 = .ok (.getfield 32, 3) := by decide +kernel
theorem dX4_untwist_62 : decode cX4_untwist 62 = .ok (.iload_n 3, 1) := by decide +kernel
theorem dX4_untwist_63 : decode cX4_untwist 63 = .ok (.iconst (-1), 1) := by decide +kernel
theorem dX4_untwist_64 : decode cX4_untwist 64 = .ok (.iastore, 1) := by decide +kernel
theorem dX4_untwist_65 : decode cX4_untwist 65 = .ok (.iinc 2 1, 3) := by decide +kernel
theorem dX4_untwist_68 : decode cX4_untwist 68 = .ok (.goto (-39), 3) := by decide +kernel
theorem dX4_untwist_71 : decode cX4_untwist 71 = .ok (.aload_n 0, 1) := by decide +kernel
theorem dX4_untwist_72 : decode cX4_untwist 72 = .ok (.getfield 26, 3) := by decide +kernel
theorem dX4_untwist_75 : decode cX4_untwist 75 = .ok (.iload_n 1, 1) := by decide +kernel
theorem dX4_untwist_76 : decode cX4_untwist 76 = .ok (.iaload, 1) := by decide +kernel
theorem dX4_untwist_77 : decode cX4_untwist 77 = .ok (.ireturn, 1) := by decide +kernel
theorem dX4_weight_0 : decode cX4_weight 0 = .ok (.iconst 0, 1) := by decide +kernel
theorem dX4_weight_1 : decode cX4_weight 1 = .ok (.istore_n 2, 1) := by decide +kernel
theorem dX4_weight_2 : decode cX4_weight 2 = .ok (.iload_n 2, 1) := by decide +kernel
theorem dX4_weight_3 : decode cX4_weight 3 = .ok (.iload_n 1, 1) := by decide +kernel
theorem dX4_weight_4 : decode cX4_weight 4 = .ok (.if_icmp .gt 118, 3) := by decide +kernel
theorem dX4_weight_7 : decode cX4_weight 7 = .ok (.iconst 0, 1) := by decide +kernel
theorem dX4_weight_8 : decode cX4_weight 8 = .ok (.istore_n 3, 1) := by decide +kernel
theorem dX4_weight_9 : decode cX4_weight 9 = .ok (.iconst 0, 1) := by decide +kernel
theorem dX4_weight_10 : decode cX4_weight 10 = .ok (.istore 4, 2) := by decide +kernel
theorem dX4_weight_12 : decode cX4_weight 12 = .ok (.iload 4, 2) := by decide +kernel
theorem dX4_weight_14 : decode cX4_weight 14 = .ok (.aload_n 0, 1) := by decide +kernel
theorem dX4_weight_15 : decode cX4_weight 15 = .ok (.getfield 26, 3) := by decide +kernel
theorem dX4_weight_18 : decode cX4_weight 18 = .ok (.iload_n 2, 1) := by decide +kernel
theorem dX4_weight_19 : decode cX4_weight 19 = .ok (.iaload, 1) := by decide +kernel
theorem dX4_weight_20 : decode cX4_weight 20 = .ok (.if_icmp .ge 29, 3) := by decide +kernel
theorem dX4_weight_23 : decode cX4_weight 23 = .ok (.iload_n 3, 1) := by decide +kernel
theorem dX4_weight_24 : decode cX4_weight 24 = .ok (.aload_n 0, 1) := by decide +kernel
theorem dX4_weight_25 : decode cX4_weight 25 = .ok (.getfield 75, 3) := by decide +kernel
theorem dX4_weight_28 : decode cX4_weight 28 = .ok (.aload_n 0, 1) := by decide +kernel
theorem dX4_weight_29 : decode cX4_weight 29 = .ok (.getfield 29, 3) := by decide +kernel
theorem dX4_weight_32 : decode cX4_weight 32 = .ok (.bipush 9, 2) := by decide +kernel
theorem dX4_weight_34 : decode cX4_weight 34 = .ok (.iload_n 2, 1) := by decide +kernel
theorem dX4_weight_35 : decode cX4_weight 35 = .ok (.imul, 1) := by decide +kernel
theorem dX4_weight_36 : decode cX4_weight 36 = .ok (.iload 4, 2) := by decide +kernel
theorem dX4_weight_38 : decode cX4_weight 38 = .ok (.iadd, 1) := by decide +kernel
theorem dX4_weight_39 : decode cX4_weight 39 = .ok (.iaload, 1) := by decide +kernel
theorem dX4_weight_40 : decode cX4_weight 40 = .ok (.iaload, 1) := by decide +kernel
theorem dX4_weight_41 : decode cX4_weight 41 = .ok (.iadd, 1) := by decide +kernel
theorem dX4_weight_42 : decode cX4_weight 42 = .ok (.istore_n 3, 1) := by decide +kernel
theorem dX4_weight_43 : decode cX4_weight 43 = .ok (.iinc 4 1, 3) := by decide +kernel
theorem dX4_weight_46 : decode cX4_weight 46 = .ok (.goto (-34), 3) := by decide +kernel
theorem dX4_weight_49 : decode cX4_weight 49 = .ok (.aload_n 0, 1) := by decide +kernel
theorem dX4_weight_50 : decode cX4_weight 50 = .ok (.getfield 75, 3) := by decide +kernel
theorem dX4_weight_53 : decode cX4_weight 53 = .ok (.iload_n 2, 1) := by decide +kernel
theorem dX4_weight_54 : decode cX4_weight 54 = .ok (.aload_n 0, 1) := by decide +kernel
theorem dX4_weight_55 : decode cX4_weight 55 = .ok (.getfield 9, 3) := by decide +kernel
theorem dX4_weight_58 : decode cX4_weight 58 = .ok (.iload_n 2, 1) := by decide +kernel
theorem dX4_weight_59 : decode cX4_weight 59 = .ok (.iaload, 1) := by decide +kernel
theorem dX4_weight_60 : decode cX4_weight 60 = .ok (.ifCond .ne 12, 3) := by decide +kernel
theorem dX4_weight_63 : decode cX4_weight 63 = .ok (.aload_n 0, 1) := by decide +kernel
theorem dX4_weight_64 : decode cX4_weight 64 = .ok (.getfield 13, 3) := by decide +kernel
theorem dX4_weight_67 : decode cX4_weight 67 = .ok (.iload_n 2, 1) := by decide +kernel
theorem dX4_weight_68 : decode cX4_weight 68 = .ok (.iaload, 1) := by decide +kernel
theorem dX4_weight_69 : decode cX4_weight 69 = .ok (.goto 46, 3) := by decide +kernel
theorem dX4_weight_72 : decode cX4_weight 72 = .ok (.aload_n 0, 1) := by decide +kernel
theorem dX4_weight_73 : decode cX4_weight 73 = .ok (.getfield 9, 3) := by decide +kernel
theorem dX4_weight_76 : decode cX4_weight 76 = .ok (.iload_n 2, 1) := by decide +kernel
theorem dX4_weight_77 : decode cX4_weight 77 = .ok (.iaload, 1) := by decide +kernel
theorem dX4_weight_78 : decode cX4_weight 78 = .ok (.iconst 4, 1) := by decide +kernel
theorem dX4_weight_79 : decode cX4_weight 79 = .ok (.if_icmp .ne 14, 3) := by decide +kernel
theorem dX4_weight_82 : decode cX4_weight 82 = .ok (.iconst 2, 1) := by decide +kernel
theorem dX4_weight_83 : decode cX4_weight 83 = .ok (.aload_n 0, 1) := by decide +kernel
theorem dX4_weight_84 : decode cX4_weight 84 = .ok (.getfield 13, 3) := by decide +kernel
theorem dX4_weight_87 : decode cX4_weight 87 = .ok (.iload_n 2, 1) := by decide +kernel
theorem dX4_weight_88 : decode cX4_weight 88 = .ok (.iaload, 1) := by decide +kernel
theorem dX4_weight_89 : decode cX4_weight 89 = .ok (.imul, 1) := by decide +kernel
theorem dX4_weight_90 : decode cX4_weight 90 = .ok (.goto 25, 3) := by decide +kernel
theorem dX4_weight_93 : decode cX4_weight 93 = .ok (.aload_n 0, 1) := by decide +kernel
theorem dX4_weight_94 : decode cX4_weight 94 = .ok (.getfield 9, 3) := by decide +kernel
theorem dX4_weight_97 : decode cX4_weight 97 = .ok (.iload_n 2, 1) := by decide +kernel
theorem dX4_weight_98 : decode cX4_weight 98 = .ok (.iaload, 1) := by decide +kernel
theorem dX4_weight_99 : decode cX4_weight 99 = .ok (.iconst 3, 1) := by decide +kernel
theorem dX4_weight_100 : decode cX4_weight 100 = .ok (.if_icmp .ne 14, 3) := by decide +kernel
theorem dX4_weight_103 : decode cX4_weight 103 = .ok (.iload_n 3, 1) := by decide +kernel
theorem dX4_weight_104 : decode cX4_weight 104 = .ok (.aload_n 0, 1) := by decide +kernel
theorem dX4_weight_105 : decode cX4_weight 105 = .ok (.getfield 13, 3) := by decide +kernel
theorem dX4_weight_108 : decode cX4_weight 108 = .ok (.iload_n 2, 1) := by decide +kernel
theorem dX4_weight_109 : decode cX4_weight 109 = .ok (.iaload, 1) := by decide +kernel
theorem dX4_weight_110 : decode cX4_weight 110 = .ok (.iadd, 1) := by decide +kernel
theorem dX4_weight_111 : decode cX4_weight 111 = .ok (.goto 4, 3) := by decide +kernel
theorem dX4_weight_114 : decode cX4_weight 114 = .ok (.iload_n 3, 1) := by decide +kernel
theorem dX4_weight_115 : decode cX4_weight 115 = .ok (.iastore, 1) := by decide +kernel
theorem dX4_weight_116 : decode cX4_weight 116 = .ok (.iinc 2 1, 3) := by decide +kernel
theorem dX4_weight_119 : decode cX4_weight 119 = .ok (.goto (-117), 3) := by decide +kernel
theorem dX4_weight_122 : decode cX4_weight 122 = .ok (.aload_n 0, 1) := by decide +kernel
theorem dX4_weight_123 : decode cX4_weight 123 = .ok (.getfield 75, 3) := by decide +kernel
theorem dX4_weight_126 : decode cX4_weight 126 = .ok (.iload_n 1, 1) := by decide +kernel
theorem dX4_weight_127 : decode cX4_weight 127 = .ok (.iaload, 1) := by decide +kernel
theorem dX4_weight_128 : decode cX4_weight 128 = .ok (.ireturn, 1) := by decide +kernel
theorem dX4_of_0 : decode cX4_of 0 = .ok (.aload_n 0, 1) := by decide +kernel
theorem dX4_of_1 : decode cX4_of 1 = .ok (.iload_n 1, 1) := by decide +kernel
theorem dX4_of_2 : decode cX4_of 2 = .ok (.invokevirtual 109, 3) := by decide +kernel
theorem dX4_of_5 : decode cX4_of 5 = .ok (.ifCond .ne 6, 3) := by decide +kernel
theorem dX4_of_8 : decode cX4_of 8 = .ok (.bipush (-2), 2) := by decide +kernel
theorem dX4_of_10 : decode cX4_of 10 = .ok (.ireturn, 1) := by decide +kernel
theorem dX4_of_11 : decode cX4_of 11 = .ok (.iload_n 2, 1) := by decide +kernel
theorem dX4_of_12 : decode cX4_of 12 = .ok (.tableswitch 103 0 7 #[48, 55, 62, 69, 76, 83, 89, 96], 48) := by decide +kernel
theorem dX4_of_60 : decode cX4_of 60 = .ok (.aload_n 0, 1) := by decide +kernel
theorem dX4_of_61 : decode cX4_of 61 = .ok (.getfield 9, 3) := by decide +kernel
theorem dX4_of_64 : decode cX4_of 64 = .ok (.iload_n 1, 1) := by decide +kernel
theorem dX4_of_65 : decode cX4_of 65 = .ok (.iaload, 1) := by decide +kernel
theorem dX4_of_66 : decode cX4_of 66 = .ok (.ireturn, 1) := by decide +kernel
theorem dX4_of_67 : decode cX4_of 67 = .ok (.aload_n 0, 1) := by decide +kernel
theorem dX4_of_68 : decode cX4_of 68 = .ok (.getfield 13, 3) := by decide +kernel
theorem dX4_of_71 : decode cX4_of 71 = .ok (.iload_n 1, 1) := by decide +kernel
theorem dX4_of_72 : decode cX4_of 72 = .ok (.iaload, 1) := by decide +kernel
theorem dX4_of_73 : decode cX4_of 73 = .ok (.ireturn, 1) := by decide +kernel
theorem dX4_of_74 : decode cX4_of 74 = .ok (.aload_n 0, 1) := by decide +kernel
theorem dX4_of_75 : decode cX4_of 75 = .ok (.getfield 16, 3) := by decide +kernel
theorem dX4_of_78 : decode cX4_of 78 = .ok (.iload_n 1, 1) := by decide +kernel
theorem dX4_of_79 : decode cX4_of 79 = .ok (.iaload, 1) := by decide +kernel
theorem dX4_of_80 : decode cX4_of 80 = .ok (.ireturn, 1) := by decide +kernel
theorem dX4_of_81 : decode cX4_of 81 = .ok (.aload_n 0, 1) := by decide +kernel
theorem dX4_of_82 : decode cX4_of 82 = .ok (.getfield 19, 3) := by decide +kernel
theorem dX4_of_85 : decode cX4_of 85 = .ok (.iload_n 1, 1) := by decide +kernel
theorem dX4_of_86 : decode cX4_of 86 = .ok (.iaload, 1) := by decide +kernel
theorem dX4_of_87 : decode cX4_of 87 = .ok (.ireturn, 1) := by decide +kernel
theorem dX4_of_88 : decode cX4_of 88 = .ok (.aload_n 0, 1) := by decide +kernel
theorem dX4_of_89 : decode cX4_of 89 = .ok (.getfield 26, 3) := by decide +kernel
theorem dX4_of_92 : decode cX4_of 92 = .ok (.iload_n 1, 1) := by decide +kernel
theorem dX4_of_93 : decode cX4_of 93 = .ok (.iaload, 1) := by decide +kernel
theorem dX4_of_94 : decode cX4_of 94 = .ok (.ireturn, 1) := by decide +kernel
theorem dX4_of_95 : decode cX4_of 95 = .ok (.aload_n 0, 1) := by decide +kernel
theorem dX4_of_96 : decode cX4_of 96 = .ok (.iload_n 1, 1) := by decide +kernel
theorem dX4_of_97 : decode cX4_of 97 = .ok (.invokevirtual 139, 3) := by decide +kernel
theorem dX4_of_100 : decode cX4_of 100 = .ok (.ireturn, 1) := by decide +kernel
theorem dX4_of_101 : decode cX4_of 101 = .ok (.aload_n 0, 1) := by decide +kernel
theorem dX4_of_102 : decode cX4_of 102 = .ok (.getfield 32, 3) := by decide +kernel
theorem dX4_of_105 : decode cX4_of 105 = .ok (.iload_n 1, 1) := by decide +kernel
theorem dX4_of_106 : decode cX4_of 106 = .ok (.iaload, 1) := by decide +kernel
theorem dX4_of_107 : decode cX4_of 107 = .ok (.ireturn, 1) := by decide +kernel
theorem dX4_of_108 : decode cX4_of 108 = .ok (.aload_n 0, 1) := by decide +kernel
theorem dX4_of_109 : decode cX4_of 109 = .ok (.getfield 38, 3) := by decide +kernel
theorem dX4_of_112 : decode cX4_of 112 = .ok (.iload_n 1, 1) := by decide +kernel
theorem dX4_of_113 : decode cX4_of 113 = .ok (.iaload, 1) := by decide +kernel
theorem dX4_of_114 : decode cX4_of 114 = .ok (.ireturn, 1) := by decide +kernel
theorem dX4_of_115 : decode cX4_of 115 = .ok (.bipush (-2), 2) := by decide +kernel
theorem dX4_of_117 : decode cX4_of 117 = .ok (.ireturn, 1) := by decide +kernel
theorem dX4_part_0 : decode cX4_part 0 = .ok (.aload_n 0, 1) := by decide +kernel
theorem dX4_part_1 : decode cX4_part 1 = .ok (.iload_n 1, 1) := by decide +kernel
theorem dX4_part_2 : decode cX4_part 2 = .ok (.invokevirtual 109, 3) := by decide +kernel
theorem dX4_part_5 : decode cX4_part 5 = .ok (.ifCond .eq 17, 3) := by decide +kernel
theorem dX4_part_8 : decode cX4_part 8 = .ok (.iload_n 2, 1) := by decide +kernel
theorem dX4_part_9 : decode cX4_part 9 = .ok (.ifCond .lt 13, 3) := by decide +kernel
theorem dX4_part_12 : decode cX4_part 12 = .ok (.iload_n 2, 1) := by decide +kernel
theorem dX4_part_13 : decode cX4_part 13 = .ok (.aload_n 0, 1) := by decide +kernel
theorem dX4_part_14 : decode cX4_part 14 = .ok (.getfield 26, 3) := by decide +kernel
theorem dX4_part_17 : decode cX4_part 17 = .ok (.iload_n 1, 1) := by decide +kernel
theorem dX4_part_18 : decode cX4_part 18 = .ok (.iaload, 1) := by decide +kernel
theorem dX4_part_19 : decode cX4_part 19 = .ok (.if_icmp .lt 8, 3) := by decide +kernel
theorem dX4_part_22 : decode cX4_part 22 = .ok (.bipush (-2), 2) := by decide +kernel
theorem dX4_part_24 : decode cX4_part 24 = .ok (.goto 14, 3) := by decide +kernel
theorem dX4_part_27 : decode cX4_part 27 = .ok (.aload_n 0, 1) := by decide +kernel
theorem dX4_part_28 : decode cX4_part 28 = .ok (.getfield 29, 3) := by decide +kernel
theorem dX4_part_31 : decode cX4_part 31 = .ok (.bipush 9, 2) := by decide +kernel
theorem dX4_part_33 : decode cX4_part 33 = .ok (.iload_n 1, 1) := by decide +kernel
theorem dX4_part_34 : decode cX4_part 34 = .ok (.imul, 1) := by decide +kernel
theorem dX4_part_35 : decode cX4_part 35 = .ok (.iload_n 2, 1) := by decide +kernel
theorem dX4_part_36 : decode cX4_part 36 = .ok (.iadd, 1) := by decide +kernel
theorem dX4_part_37 : decode cX4_part 37 = .ok (.iaload, 1) := by decide +kernel
theorem dX4_part_38 : decode cX4_part 38 = .ok (.ireturn, 1) := by decide +kernel
theorem dX4_count_0 : decode cX4_count 0 = .ok (.iconst 0, 1) := by decide +kernel
theorem dX4_count_1 : decode cX4_count 1 = .ok (.istore_n 2, 1) := by decide +kernel
theorem dX4_count_2 : decode cX4_count 2 = .ok (.iload_n 1, 1) := by decide +kernel
theorem dX4_count_3 : decode cX4_count 3 = .ok (.ifCond .ne 8, 3) := by decide +kernel
theorem dX4_count_6 : decode cX4_count 6 = .ok (.aload_n 0, 1) := by decide +kernel
theorem dX4_count_7 : decode cX4_count 7 = .ok (.getfield 105, 3) := by decide +kernel
theorem dX4_count_10 : decode cX4_count 10 = .ok (.ireturn, 1) := by decide +kernel
theorem dX4_count_11 : decode cX4_count 11 = .ok (.iload_n 1, 1) := by decide +kernel
theorem dX4_count_12 : decode cX4_count 12 = .ok (.iconst 1, 1) := by decide +kernel
theorem dX4_count_13 : decode cX4_count 13 = .ok (.if_icmp .lt 46, 3) := by decide +kernel
theorem dX4_count_16 : decode cX4_count 16 = .ok (.iload_n 1, 1) := by decide +kernel
theorem dX4_count_17 : decode cX4_count 17 = .ok (.iconst 4, 1) := by decide +kernel
theorem dX4_count_18 : decode cX4_count 18 = .ok (.if_icmp .gt 41, 3) := by decide +kernel
theorem dX4_count_21 : decode cX4_count 21 = .ok (.iconst 0, 1) := by decide +kernel
theorem dX4_count_22 : decode cX4_count 22 = .ok (.istore_n 3, 1) := by decide +kernel
theorem dX4_count_23 : decode cX4_count 23 = .ok (.iload_n 3, 1) := by decide +kernel
theorem dX4_count_24 : decode cX4_count 24 = .ok (.aload_n 0, 1) := by decide +kernel
theorem dX4_count_25 : decode cX4_count 25 = .ok (.getfield 105, 3) := by decide +kernel
theorem dX4_count_28 : decode cX4_count 28 = .ok (.if_icmp .ge 29, 3) := by decide +kernel
theorem dX4_count_31 : decode cX4_count 31 = .ok (.iload_n 2, 1) := by decide +kernel
theorem dX4_count_32 : decode cX4_count 32 = .ok (.aload_n 0, 1) := by decide +kernel
theorem dX4_count_33 : decode cX4_count 33 = .ok (.getfield 19, 3) := by decide +kernel
theorem dX4_count_36 : decode cX4_count 36 = .ok (.iload_n 3, 1) := by decide +kernel
theorem dX4_count_37 : decode cX4_count 37 = .ok (.iaload, 1) := by decide +kernel
theorem dX4_count_38 : decode cX4_count 38 = .ok (.iload_n 1, 1) := by decide +kernel
theorem dX4_count_39 : decode cX4_count 39 = .ok (.iconst 1, 1) := by decide +kernel
theorem dX4_count_40 : decode cX4_count 40 = .ok (.isub, 1) := by decide +kernel
theorem dX4_count_41 : decode cX4_count 41 = .ok (.if_icmp .ne 7, 3) := by decide +kernel
theorem dX4_count_44 : decode cX4_count 44 = .ok (.iconst 1, 1) := by decide +kernel
theorem dX4_count_45 : decode cX4_count 45 = .ok (.goto 4, 3) := by decide +kernel
theorem dX4_count_48 : decode cX4_count 48 = .ok (.iconst 0, 1) := by decide +kernel
theorem dX4_count_49 : decode cX4_count 49 = .ok (.iadd, 1) := by decide +kernel
theorem dX4_count_50 : decode cX4_count 50 = .ok (.istore_n 2, 1) := by decide +kernel
theorem dX4_count_51 : decode cX4_count 51 = .ok (.iinc 3 1, 3) := by decide +kernel
theorem dX4_count_54 : decode cX4_count 54 = .ok (.goto (-31), 3) := by decide +kernel
theorem dX4_count_57 : decode cX4_count 57 = .ok (.iload_n 2, 1) := by decide +kernel
theorem dX4_count_58 : decode cX4_count 58 = .ok (.ireturn, 1) := by decide +kernel
theorem dX4_count_59 : decode cX4_count 59 = .ok (.iload_n 1, 1) := by decide +kernel
theorem dX4_count_60 : decode cX4_count 60 = .ok (.bipush 7, 2) := by decide +kernel
theorem dX4_count_62 : decode cX4_count 62 = .ok (.if_icmp .ne 38, 3) := by decide +kernel
theorem dX4_count_65 : decode cX4_count 65 = .ok (.iconst 0, 1) := by decide +kernel
theorem dX4_count_66 : decode cX4_count 66 = .ok (.istore_n 3, 1) := by decide +kernel
theorem dX4_count_67 : decode cX4_count 67 = .ok (.iload_n 3, 1) := by decide +kernel
theorem dX4_count_68 : decode cX4_count 68 = .ok (.aload_n 0, 1) := by decide +kernel
theorem dX4_count_69 : decode cX4_count 69 = .ok (.getfield 143, 3) := by decide +kernel
theorem dX4_count_72 : decode cX4_count 72 = .ok (.if_icmp .ge 26, 3) := by decide +kernel
theorem dX4_count_75 : decode cX4_count 75 = .ok (.iload_n 2, 1) := by decide +kernel
theorem dX4_count_76 : decode cX4_count 76 = .ok (.aload_n 0, 1) := by decide +kernel
theorem dX4_count_77 : decode cX4_count 77 = .ok (.getfield 66, 3) := by decide +kernel
theorem dX4_count_80 : decode cX4_count 80 = .ok (.iload_n 3, 1) := by decide +kernel
theorem dX4_count_81 : decode cX4_count 81 = .ok (.iaload, 1) := by decide +kernel
theorem dX4_count_82 : decode cX4_count 82 = .ok (.ifCond .lt 7, 3) := by decide +kernel
theorem dX4_count_85 : decode cX4_count 85 = .ok (.iconst 1, 1) := by decide +kernel
theorem dX4_count_86 : decode cX4_count 86 = .ok (.goto 4, 3) := by decide +kernel
theorem dX4_count_89 : decode cX4_count 89 = .ok (.iconst 0, 1) := by decide +kernel
theorem dX4_count_90 : decode cX4_count 90 = .ok (.iadd, 1) := by decide +kernel
theorem dX4_count_91 : decode cX4_count 91 = .ok (.istore_n 2, 1) := by decide +kernel
theorem dX4_count_92 : decode cX4_count 92 = .ok (.iinc 3 1, 3) := by decide +kernel
theorem dX4_count_95 : decode cX4_count 95 = .ok (.goto (-28), 3) := by decide +kernel
theorem dX4_count_98 : decode cX4_count 98 = .ok (.iload_n 2, 1) := by decide +kernel
theorem dX4_count_99 : decode cX4_count 99 = .ok (.ireturn, 1) := by decide +kernel
theorem dX4_count_100 : decode cX4_count 100 = .ok (.iload_n 1, 1) := by decide +kernel
theorem dX4_count_101 : decode cX4_count 101 = .ok (.iconst 5, 1) := by decide +kernel
theorem dX4_count_102 : decode cX4_count 102 = .ok (.if_icmp .ne 10, 3) := by decide +kernel
theorem dX4_count_105 : decode cX4_count 105 = .ok (.aload_n 0, 1) := by decide +kernel
theorem dX4_count_106 : decode cX4_count 106 = .ok (.getfield 125, 3) := by decide +kernel
theorem dX4_count_109 : decode cX4_count 109 = .ok (.goto 31, 3) := by decide +kernel
theorem dX4_count_112 : decode cX4_count 112 = .ok (.iload_n 1, 1) := by decide +kernel
theorem dX4_count_113 : decode cX4_count 113 = .ok (.bipush 6, 2) := by decide +kernel
theorem dX4_count_115 : decode cX4_count 115 = .ok (.if_icmp .ne 10, 3) := by decide +kernel
theorem dX4_count_118 : decode cX4_count 118 = .ok (.aload_n 0, 1) := by decide +kernel
theorem dX4_count_119 : decode cX4_count 119 = .ok (.getfield 143, 3) := by decide +kernel
theorem dX4_count_122 : decode cX4_count 122 = .ok (.goto 18, 3) := by decide +kernel
theorem dX4_count_125 : decode cX4_count 125 = .ok (.iload_n 1, 1) := by decide +kernel
theorem dX4_count_126 : decode cX4_count 126 = .ok (.bipush 8, 2) := by decide +kernel
theorem dX4_count_128 : decode cX4_count 128 = .ok (.if_icmp .ne 10, 3) := by decide +kernel
theorem dX4_count_131 : decode cX4_count 131 = .ok (.aload_n 0, 1) := by decide +kernel
theorem dX4_count_132 : decode cX4_count 132 = .ok (.getfield 146, 3) := by decide +kernel
theorem dX4_count_135 : decode cX4_count 135 = .ok (.goto 5, 3) := by decide +kernel
theorem dX4_count_138 : decode cX4_count 138 = .ok (.bipush (-2), 2) := by decide +kernel
theorem dX4_count_140 : decode cX4_count 140 = .ok (.ireturn, 1) := by decide +kernel
theorem dX4_row_0 : decode cX4_row 0 = .ok (.aload_n 0, 1) := by decide +kernel
theorem dX4_row_1 : decode cX4_row 1 = .ok (.iload_n 1, 1) := by decide +kernel
theorem dX4_row_2 : decode cX4_row 2 = .ok (.invokevirtual 149, 3) := by decide +kernel
theorem dX4_row_5 : decode cX4_row 5 = .ok (.ifCond .eq 9, 3) := by decide +kernel
theorem dX4_row_8 : decode cX4_row 8 = .ok (.iload_n 2, 1) := by decide +kernel
theorem dX4_row_9 : decode cX4_row 9 = .ok (.bipush 8, 2) := by decide +kernel
theorem dX4_row_11 : decode cX4_row 11 = .ok (.if_icmp .le 6, 3) := by decide +kernel
theorem dX4_row_14 : decode cX4_row 14 = .ok (.bipush (-2), 2) := by decide +kernel
theorem dX4_row_16 : decode cX4_row 16 = .ok (.ireturn, 1) := by decide +kernel
theorem dX4_row_17 : decode cX4_row 17 = .ok (.iload_n 2, 1) := by decide +kernel
theorem dX4_row_18 : decode cX4_row 18 = .ok (.ifCond .ge 6, 3) := by decide +kernel
theorem dX4_row_21 : decode cX4_row 21 = .ok (.bipush (-13), 2) := by decide +kernel
theorem dX4_row_23 : decode cX4_row 23 = .ok (.ireturn, 1) := by decide +kernel
theorem dX4_row_24 : decode cX4_row 24 = .ok (.aload_n 0, 1) := by decide +kernel
theorem dX4_row_25 : decode cX4_row 25 = .ok (.getfield 38, 3) := by decide +kernel
theorem dX4_row_28 : decode cX4_row 28 = .ok (.iload_n 1, 1) := by decide +kernel
theorem dX4_row_29 : decode cX4_row 29 = .ok (.iload_n 2, 1) := by decide +kernel
theorem dX4_row_30 : decode cX4_row 30 = .ok (.iastore, 1) := by decide +kernel
theorem dX4_row_31 : decode cX4_row 31 = .ok (.iconst 0, 1) := by decide +kernel
theorem dX4_row_32 : decode cX4_row 32 = .ok (.istore_n 3, 1) := by decide +kernel
theorem dX4_row_33 : decode cX4_row 33 = .ok (.iload_n 3, 1) := by decide +kernel
theorem dX4_row_34 : decode cX4_row 34 = .ok (.bipush 8, 2) := by decide +kernel
theorem dX4_row_36 : decode cX4_row 36 = .ok (.if_icmp .ge 21, 3) := by decide +kernel
theorem dX4_row_39 : decode cX4_row 39 = .ok (.aload_n 0, 1) := by decide +kernel
theorem dX4_row_40 : decode cX4_row 40 = .ok (.getfield 41, 3) := by decide +kernel
theorem dX4_row_43 : decode cX4_row 43 = .ok (.bipush 8, 2) := by decide +kernel
theorem dX4_row_45 : decode cX4_row 45 = .ok (.iload_n 1, 1) := by decide +kernel
theorem dX4_row_46 : decode cX4_row 46 = .ok (.imul, 1) := by decide +kernel
theorem dX4_row_47 : decode cX4_row 47 = .ok (.iload_n 3, 1) := by decide +kernel
theorem dX4_row_48 : decode cX4_row 48 = .ok (.iadd, 1) := by decide +kernel
theorem dX4_row_49 : decode cX4_row 49 = .ok (.iconst 0, 1) := by decide +kernel
theorem dX4_row_50 : decode cX4_row 50 = .ok (.bastore, 1) := by decide +kernel
theorem dX4_row_51 : decode cX4_row 51 = .ok (.iinc 3 1, 3) := by decide +kernel
theorem dX4_row_54 : decode cX4_row 54 = .ok (.goto (-21), 3) := by decide +kernel
theorem dX4_row_57 : decode cX4_row 57 = .ok (.iload_n 2, 1) := by decide +kernel
theorem dX4_row_58 : decode cX4_row 58 = .ok (.ireturn, 1) := by decide +kernel
theorem dX4_lose_0 : decode cX4_lose 0 = .ok (.aload_n 0, 1) := by decide +kernel
theorem dX4_lose_1 : decode cX4_lose 1 = .ok (.iload_n 1, 1) := by decide +kernel
theorem dX4_lose_2 : decode cX4_lose 2 = .ok (.invokevirtual 149, 3) := by decide +kernel
theorem dX4_lose_5 : decode cX4_lose 5 = .ok (.ifCond .ne 6, 3) := by decide +kernel
theorem dX4_lose_8 : decode cX4_lose 8 = .ok (.bipush (-2), 2) := by decide +kernel
theorem dX4_lose_10 : decode cX4_lose 10 = .ok (.ireturn, 1) := by decide +kernel
theorem dX4_lose_11 : decode cX4_lose 11 = .ok (.aload_n 0, 1) := by decide +kernel
theorem dX4_lose_12 : decode cX4_lose 12 = .ok (.getfield 38, 3) := by decide +kernel
theorem dX4_lose_15 : decode cX4_lose 15 = .ok (.iload_n 1, 1) := by decide +kernel
theorem dX4_lose_16 : decode cX4_lose 16 = .ok (.iaload, 1) := by decide +kernel
theorem dX4_lose_17 : decode cX4_lose 17 = .ok (.ifCond .lt 7, 3) := by decide +kernel
theorem dX4_lose_20 : decode cX4_lose 20 = .ok (.iconst 1, 1) := by decide +kernel
theorem dX4_lose_21 : decode cX4_lose 21 = .ok (.goto 4, 3) := by decide +kernel
theorem dX4_lose_24 : decode cX4_lose 24 = .ok (.iconst 0, 1) := by decide +kernel
theorem dX4_lose_25 : decode cX4_lose 25 = .ok (.istore_n 2, 1) := by decide +kernel
theorem dX4_lose_26 : decode cX4_lose 26 = .ok (.aload_n 0, 1) := by decide +kernel
theorem dX4_lose_27 : decode cX4_lose 27 = .ok (.getfield 38, 3) := by decide +kernel
theorem dX4_lose_30 : decode cX4_lose 30 = .ok (.iload_n 1, 1) := by decide +kernel
theorem dX4_lose_31 : decode cX4_lose 31 = .ok (.iconst (-1), 1) := by decide +kernel
theorem dX4_lose_32 : decode cX4_lose 32 = .ok (.iastore, 1) := by decide +kernel
theorem dX4_lose_33 : decode cX4_lose 33 = .ok (.iload_n 2, 1) := by decide +kernel
theorem dX4_lose_34 : decode cX4_lose 34 = .ok (.ireturn, 1) := by decide +kernel
theorem dX4_spot_0 : decode cX4_spot 0 = .ok (.aload_n 0, 1) := by decide +kernel
theorem dX4_spot_1 : decode cX4_spot 1 = .ok (.iload_n 1, 1) := by decide +kernel
theorem dX4_spot_2 : decode cX4_spot 2 = .ok (.invokevirtual 149, 3) := by decide +kernel
theorem dX4_spot_5 : decode cX4_spot 5 = .ok (.ifCond .eq 40, 3) := by decide +kernel
theorem dX4_spot_8 : decode cX4_spot 8 = .ok (.iload_n 3, 1) := by decide +kernel
theorem dX4_spot_9 : decode cX4_spot 9 = .ok (.ifCond .lt 36, 3) := by decide +kernel
theorem dX4_spot_12 : decode cX4_spot 12 = .ok (.iload_n 3, 1) := by decide +kernel
theorem dX4_spot_13 : decode cX4_spot 13 = .ok (.sipush 2000, 3) := by decide +kernel
theorem dX4_spot_16 : decode cX4_spot 16 = .ok (.if_icmp .gt 29, 3) := by decide +kernel
theorem dX4_spot_19 : decode cX4_spot 19 = .ok (.iload 4, 2) := by decide +kernel
theorem dX4_spot_21 : decode cX4_spot 21 = .ok (.ifCond .lt 24, 3) := by decide +kernel
theorem dX4_spot_24 : decode cX4_spot 24 = .ok (.iload 4, 2) := by decide +kernel
theorem dX4_spot_26 : decode cX4_spot 26 = .ok (.sipush 2000, 3) := by decide +kernel
theorem dX4_spot_29 : decode cX4_spot 29 = .ok (.if_icmp .gt 16, 3) := by decide +kernel
theorem dX4_spot_32 : decode cX4_spot 32 = .ok (.iload 5, 2) := by decide +kernel
theorem dX4_spot_34 : decode cX4_spot 34 = .ok (.iconst (-1), 1) := by decide +kernel
theorem dX4_spot_35 : decode cX4_spot 35 = .ok (.if_icmp .lt 10, 3) := by decide +kernel
theorem dX4_spot_38 : decode cX4_spot 38 = .ok (.iload 5, 2) := by decide +kernel
theorem dX4_spot_40 : decode cX4_spot 40 = .ok (.bipush 8, 2) := by decide +kernel
theorem dX4_spot_42 : decode cX4_spot 42 = .ok (.if_icmp .le 6, 3) := by decide +kernel
theorem dX4_spot_45 : decode cX4_spot 45 = .ok (.bipush (-2), 2) := by decide +kernel
theorem dX4_spot_47 : decode cX4_spot 47 = .ok (.ireturn, 1) := by decide +kernel
theorem dX4_spot_48 : decode cX4_spot 48 = .ok (.aload_n 0, 1) := by decide +kernel
theorem dX4_spot_49 : decode cX4_spot 49 = .ok (.getfield 38, 3) := by decide +kernel
theorem dX4_spot_52 : decode cX4_spot 52 = .ok (.iload_n 1, 1) := by decide +kernel
theorem dX4_spot_53 : decode cX4_spot 53 = .ok (.iaload, 1) := by decide +kernel
theorem dX4_spot_54 : decode cX4_spot 54 = .ok (.ifCond .ge 6, 3) := by decide +kernel
theorem dX4_spot_57 : decode cX4_spot 57 = .ok (.bipush (-10), 2) := by decide +kernel
theorem dX4_spot_59 : decode cX4_spot 59 = .ok (.ireturn, 1) := by decide +kernel
theorem dX4_spot_60 : decode cX4_spot 60 = .ok (.iload_n 2, 1) := by decide +kernel
theorem dX4_spot_61 : decode cX4_spot 61 = .ok (.ifCond .lt 13, 3) := by decide +kernel
theorem dX4_spot_64 : decode cX4_spot 64 = .ok (.iload_n 2, 1) := by decide +kernel
theorem dX4_spot_65 : decode cX4_spot 65 = .ok (.aload_n 0, 1) := by decide +kernel
theorem dX4_spot_66 : decode cX4_spot 66 = .ok (.getfield 38, 3) := by decide +kernel
theorem dX4_spot_69 : decode cX4_spot 69 = .ok (.iload_n 1, 1) := by decide +kernel
theorem dX4_spot_70 : decode cX4_spot 70 = .ok (.iaload, 1) := by decide +kernel
theorem dX4_spot_71 : decode cX4_spot 71 = .ok (.if_icmp .lt 6, 3) := by decide +kernel
theorem dX4_spot_74 : decode cX4_spot 74 = .ok (.bipush (-11), 2) := by decide +kernel
theorem dX4_spot_76 : decode cX4_spot 76 = .ok (.ireturn, 1) := by decide +kernel
theorem dX4_spot_77 : decode cX4_spot 77 = .ok (.bipush 8, 2) := by decide +kernel
theorem dX4_spot_79 : decode cX4_spot 79 = .ok (.iload_n 1, 1) := by decide +kernel
theorem dX4_spot_80 : decode cX4_spot 80 = .ok (.imul, 1) := by decide +kernel
theorem dX4_spot_81 : decode cX4_spot 81 = .ok (.iload_n 2, 1) := by decide +kernel
theorem dX4_spot_82 : decode cX4_spot 82 = .ok (.iadd, 1) := by decide +kernel
theorem dX4_spot_83 : decode cX4_spot 83 = .ok (.istore 6, 2) := by decide +kernel
theorem dX4_spot_85 : decode cX4_spot 85 = .ok (.aload_n 0, 1) := by decide +kernel
theorem dX4_spot_86 : decode cX4_spot 86 = .ok (.getfield 41, 3) := by decide +kernel
theorem dX4_spot_89 : decode cX4_spot 89 = .ok (.iload 6, 2) := by decide +kernel
theorem dX4_spot_91 : decode cX4_spot 91 = .ok (.baload, 1) := by decide +kernel
theorem dX4_spot_92 : decode cX4_spot 92 = .ok (.ifCond .eq 7, 3) := by decide +kernel
theorem dX4_spot_95 : decode cX4_spot 95 = .ok (.iconst 1, 1) := by decide +kernel
theorem dX4_spot_96 : decode cX4_spot 96 = .ok (.goto 4, 3) := by decide +kernel
theorem dX4_spot_99 : decode cX4_spot 99 = .ok (.iconst 0, 1) := by decide +kernel
theorem dX4_spot_100 : decode cX4_spot 100 = .ok (.istore 7, 2) := by decide +kernel
theorem dX4_spot_102 : decode cX4_spot 102 = .ok (.aload_n 0, 1) := by decide +kernel
theorem dX4_spot_103 : decode cX4_spot 103 = .ok (.getfield 41, 3) := by decide +kernel
theorem dX4_spot_106 : decode cX4_spot 106 = .ok (.iload 6, 2) := by decide +kernel
theorem dX4_spot_108 : decode cX4_spot 108 = .ok (.iload 5, 2) := by decide +kernel
theorem dX4_spot_110 : decode cX4_spot 110 = .ok (.ifCond .lt 7, 3) := by decide +kernel
theorem dX4_spot_113 : decode cX4_spot 113 = .ok (.iconst 1, 1) := by decide +kernel
theorem dX4_spot_114 : decode cX4_spot 114 = .ok (.goto 4, 3) := by decide +kernel
theorem dX4_spot_117 : decode cX4_spot 117 = .ok (.iconst 0, 1) := by decide +kernel
theorem dX4_spot_118 : decode cX4_spot 118 = .ok (.bastore, 1) := by decide +kernel
theorem dX4_spot_119 : decode cX4_spot 119 = .ok (.aload_n 0, 1) := by decide +kernel
theorem dX4_spot_120 : decode cX4_spot 120 = .ok (.getfield 45, 3) := by decide +kernel
theorem dX4_spot_123 : decode cX4_spot 123 = .ok (.iload 6, 2) := by decide +kernel
theorem dX4_spot_125 : decode cX4_spot 125 = .ok (.iload_n 3, 1) := by decide +kernel
theorem dX4_spot_126 : decode cX4_spot 126 = .ok (.iastore, 1) := by decide +kernel
theorem dX4_spot_127 : decode cX4_spot 127 = .ok (.aload_n 0, 1) := by decide +kernel
theorem dX4_spot_128 : decode cX4_spot 128 = .ok (.getfield 48, 3) := by decide +kernel
theorem dX4_spot_131 : decode cX4_spot 131 = .ok (.iload 6, 2) := by decide +kernel
theorem dX4_spot_133 : decode cX4_spot 133 = .ok (.iload 4, 2) := by decide +kernel
theorem dX4_spot_135 : decode cX4_spot 135 = .ok (.iastore, 1) := by decide +kernel
theorem dX4_spot_136 : decode cX4_spot 136 = .ok (.aload_n 0, 1) := by decide +kernel
theorem dX4_spot_137 : decode cX4_spot 137 = .ok (.getfield 51, 3) := by decide +kernel
theorem dX4_spot_140 : decode cX4_spot 140 = .ok (.iload 6, 2) := by decide +kernel
theorem dX4_spot_142 : decode cX4_spot 142 = .ok (.iload 5, 2) := by decide +kernel
theorem dX4_spot_144 : decode cX4_spot 144 = .ok (.i2f, 1) := by decide +kernel
theorem dX4_spot_145 : decode cX4_spot 145 = .ok (.ldc 118, 2) := by decide +kernel
theorem dX4_spot_147 : decode cX4_spot 147 = .ok (.fmul, 1) := by decide +kernel
theorem dX4_spot_148 : decode cX4_spot 148 = .ok (.fastore, 1) := by decide +kernel
theorem dX4_spot_149 : decode cX4_spot 149 = .ok (.iload 7, 2) := by decide +kernel
theorem dX4_spot_151 : decode cX4_spot 151 = .ok (.ireturn, 1) := by decide +kernel
theorem dX4_carry_0 : decode cX4_carry 0 = .ok (.aload_n 0, 1) := by decide +kernel
theorem dX4_carry_1 : decode cX4_carry 1 = .ok (.iload_n 1, 1) := by decide +kernel
theorem dX4_carry_2 : decode cX4_carry 2 = .ok (.invokevirtual 149, 3) := by decide +kernel
theorem dX4_carry_5 : decode cX4_carry 5 = .ok (.ifCond .eq 11, 3) := by decide +kernel
theorem dX4_carry_8 : decode cX4_carry 8 = .ok (.aload_n 0, 1) := by decide +kernel
theorem dX4_carry_9 : decode cX4_carry 9 = .ok (.iload_n 3, 1) := by decide +kernel
theorem dX4_carry_10 : decode cX4_carry 10 = .ok (.invokevirtual 149, 3) := by decide +kernel
theorem dX4_carry_13 : decode cX4_carry 13 = .ok (.ifCond .ne 6, 3) := by decide +kernel
theorem dX4_carry_16 : decode cX4_carry 16 = .ok (.bipush (-2), 2) := by decide +kernel
theorem dX4_carry_18 : decode cX4_carry 18 = .ok (.ireturn, 1) := by decide +kernel
theorem dX4_carry_19 : decode cX4_carry 19 = .ok (.aload_n 0, 1) := by decide +kernel
theorem dX4_carry_20 : decode cX4_carry 20 = .ok (.getfield 38, 3) := by decide +kernel
theorem dX4_carry_23 : decode cX4_carry 23 = .ok (.iload_n 1, 1) := by decide +kernel
theorem dX4_carry_24 : decode cX4_carry 24 = .ok (.iaload, 1) := by decide +kernel
theorem dX4_carry_25 : decode cX4_carry 25 = .ok (.ifCond .lt 12, 3) := by decide +kernel
theorem dX4_carry_28 : decode cX4_carry 28 = .ok (.aload_n 0, 1) := by decide +kernel
theorem dX4_carry_29 : decode cX4_carry 29 = .ok (.getfield 38, 3) := by decide +kernel
theorem dX4_carry_32 : decode cX4_carry 32 = .ok (.iload_n 3, 1) := by decide +kernel
theorem dX4_carry_33 : decode cX4_carry 33 = .ok (.iaload, 1) := by decide +kernel
theorem dX4_carry_34 : decode cX4_carry 34 = .ok (.ifCond .ge 6, 3) := by decide +kernel
theorem dX4_carry_37 : decode cX4_carry 37 = .ok (.bipush (-10), 2) := by decide +kernel
theorem dX4_carry_39 : decode cX4_carry 39 = .ok (.ireturn, 1) := by decide +kernel
theorem dX4_carry_40 : decode cX4_carry 40 = .ok (.iload_n 2, 1) := by decide +kernel
theorem dX4_carry_41 : decode cX4_carry 41 = .ok (.ifCond .lt 47, 3) := by decide +kernel
theorem dX4_carry_44 : decode cX4_carry 44 = .ok (.iload 4, 2) := by decide +kernel
theorem dX4_carry_46 : decode cX4_carry 46 = .ok (.ifCond .lt 42, 3) := by decide +kernel
theorem dX4_carry_49 : decode cX4_carry 49 = .ok (.iload 5, 2) := by decide +kernel
theorem dX4_carry_51 : decode cX4_carry 51 = .ok (.ifCond .lt 37, 3) := by decide +kernel
theorem dX4_carry_54 : decode cX4_carry 54 = .ok (.iload 5, 2) := by decide +kernel
theorem dX4_carry_56 : decode cX4_carry 56 = .ok (.bipush 8, 2) := by decide +kernel
theorem dX4_carry_58 : decode cX4_carry 58 = .ok (.if_icmp .gt 30, 3) := by decide +kernel
theorem dX4_carry_61 : decode cX4_carry 61 = .ok (.iload_n 2, 1) := by decide +kernel
theorem dX4_carry_62 : decode cX4_carry 62 = .ok (.aload_n 0, 1) := by decide +kernel
theorem dX4_carry_63 : decode cX4_carry 63 = .ok (.getfield 38, 3) := by decide +kernel
theorem dX4_carry_66 : decode cX4_carry 66 = .ok (.iload_n 1, 1) := by decide +kernel
theorem dX4_carry_67 : decode cX4_carry 67 = .ok (.iaload, 1) := by decide +kernel
theorem dX4_carry_68 : decode cX4_carry 68 = .ok (.iload 5, 2) := by decide +kernel
theorem dX4_carry_70 : decode cX4_carry 70 = .ok (.isub, 1) := by decide +kernel
theorem dX4_carry_71 : decode cX4_carry 71 = .ok (.if_icmp .gt 17, 3) := by decide +kernel
theorem dX4_carry_74 : decode cX4_carry 74 = .ok (.iload 4, 2) := by decide +kernel
theorem dX4_carry_76 : decode cX4_carry 76 = .ok (.aload_n 0, 1) := by decide +kernel
theorem dX4_carry_77 : decode cX4_carry 77 = .ok (.getfield 38, 3) := by decide +kernel
theorem dX4_carry_80 : decode cX4_carry 80 = .ok (.iload_n 3, 1) := by decide +kernel
theorem dX4_carry_81 : decode cX4_carry 81 = .ok (.iaload, 1) := by decide +kernel
theorem dX4_carry_82 : decode cX4_carry 82 = .ok (.iload 5, 2) := by decide +kernel
theorem dX4_carry_84 : decode cX4_carry 84 = .ok (.isub, 1) := by decide +kernel
theorem dX4_carry_85 : decode cX4_carry 85 = .ok (.if_icmp .le 6, 3) := by decide +kernel
theorem dX4_carry_88 : decode cX4_carry 88 = .ok (.bipush (-11), 2) := by decide +kernel
theorem dX4_carry_90 : decode cX4_carry 90 = .ok (.ireturn, 1) := by decide +kernel
theorem dX4_carry_91 : decode cX4_carry 91 = .ok (.iconst 0, 1) := by decide +kernel
theorem dX4_carry_92 : decode cX4_carry 92 = .ok (.istore 6, 2) := by decide +kernel
theorem dX4_carry_94 : decode cX4_carry 94 = .ok (.iload 6, 2) := by decide +kernel
theorem dX4_carry_96 : decode cX4_carry 96 = .ok (.iload 5, 2) := by decide +kernel
theorem dX4_carry_98 : decode cX4_carry 98 = .ok (.if_icmp .ge 76, 3) := by decide +kernel
theorem dX4_carry_101 : decode cX4_carry 101 = .ok (.bipush 8, 2) := by decide +kernel
theorem dX4_carry_103 : decode cX4_carry 103 = .ok (.iload_n 1, 1) := by decide +kernel
theorem dX4_carry_104 : decode cX4_carry 104 = .ok (.imul, 1) := by decide +kernel
theorem dX4_carry_105 : decode cX4_carry 105 = .ok (.iload_n 2, 1) := by decide +kernel
theorem dX4_carry_106 : decode cX4_carry 106 = .ok (.iadd, 1) := by decide +kernel
theorem dX4_carry_107 : decode cX4_carry 107 = .ok (.iload 6, 2) := by decide +kernel
theorem dX4_carry_109 : decode cX4_carry 109 = .ok (.iadd, 1) := by decide +kernel
theorem dX4_carry_110 : decode cX4_carry 110 = .ok (.istore 7, 2) := by decide +kernel
theorem dX4_carry_112 : decode cX4_carry 112 = .ok (.aload_n 0, 1) := by decide +kernel
theorem dX4_carry_113 : decode cX4_carry 113 = .ok (.getfield 78, 3) := by decide +kernel
theorem dX4_carry_116 : decode cX4_carry 116 = .ok (.iload 6, 2) := by decide +kernel
theorem dX4_carry_118 : decode cX4_carry 118 = .ok (.aload_n 0, 1) := by decide +kernel
theorem dX4_carry_119 : decode cX4_carry 119 = .ok (.getfield 41, 3) := by decide +kernel
theorem dX4_carry_122 : decode cX4_carry 122 = .ok (.iload 7, 2) := by decide +kernel
theorem dX4_carry_124 : decode cX4_carry 124 = .ok (.baload, 1) := by decide +kernel
theorem dX4_carry_125 : decode cX4_carry 125 = .ok (.bastore, 1) := by decide +kernel
theorem dX4_carry_126 : decode cX4_carry 126 = .ok (.aload_n 0, 1) := by decide +kernel
theorem dX4_carry_127 : decode cX4_carry 127 = .ok (.getfield 81, 3) := by decide +kernel
theorem dX4_carry_130 : decode cX4_carry 130 = .ok (.iload 6, 2) := by decide +kernel
theorem dX4_carry_132 : decode cX4_carry 132 = .ok (.aload_n 0, 1) := by decide +kernel
theorem dX4_carry_133 : decode cX4_carry 133 = .ok (.getfield 45, 3) := by decide +kernel
theorem dX4_carry_136 : decode cX4_carry 136 = .ok (.iload 7, 2) := by decide +kernel
theorem dX4_carry_138 : decode cX4_carry 138 = .ok (.iaload, 1) := by decide +kernel
theorem dX4_carry_139 : decode cX4_carry 139 = .ok (.iastore, 1) := by decide +kernel
theorem dX4_carry_140 : decode cX4_carry 140 = .ok (.aload_n 0, 1) := by decide +kernel
theorem dX4_carry_141 : decode cX4_carry 141 = .ok (.getfield 84, 3) := by decide +kernel
theorem dX4_carry_144 : decode cX4_carry 144 = .ok (.iload 6, 2) := by decide +kernel
theorem dX4_carry_146 : decode cX4_carry 146 = .ok (.aload_n 0, 1) := by decide +kernel
theorem dX4_carry_147 : decode cX4_carry 147 = .ok (.getfield 48, 3) := by decide +kernel
theorem dX4_carry_150 : decode cX4_carry 150 = .ok (.iload 7, 2) := by decide +kernel
theorem dX4_carry_152 : decode cX4_carry 152 = .ok (.iaload, 1) := by decide +kernel
theorem dX4_carry_153 : decode cX4_carry 153 = .ok (.iastore, 1) := by decide +kernel
theorem dX4_carry_154 : decode cX4_carry 154 = .ok (.aload_n 0, 1) := by decide +kernel
theorem dX4_carry_155 : decode cX4_carry 155 = .ok (.getfield 87, 3) := by decide +kernel
theorem dX4_carry_158 : decode cX4_carry 158 = .ok (.iload 6, 2) := by decide +kernel
theorem dX4_carry_160 : decode cX4_carry 160 = .ok (.aload_n 0, 1) := by decide +kernel
theorem dX4_carry_161 : decode cX4_carry 161 = .ok (.getfield 51, 3) := by decide +kernel
theorem dX4_carry_164 : decode cX4_carry 164 = .ok (.iload 7, 2) := by decide +kernel
theorem dX4_carry_166 : decode cX4_carry 166 = .ok (.faload, 1) := by decide +kernel
theorem dX4_carry_167 : decode cX4_carry 167 = .ok (.fastore, 1) := by decide +kernel
theorem dX4_carry_168 : decode cX4_carry 168 = .ok (.iinc 6 1, 3) := by decide +kernel
theorem dX4_carry_171 : decode cX4_carry 171 = .ok (.goto (-77), 3) := by decide +kernel
theorem dX4_carry_174 : decode cX4_carry 174 = .ok (.iconst 0, 1) := by decide +kernel
theorem dX4_carry_175 : decode cX4_carry 175 = .ok (.istore 6, 2) := by decide +kernel
theorem dX4_carry_177 : decode cX4_carry 177 = .ok (.iload 6, 2) := by decide +kernel
theorem dX4_carry_179 : decode cX4_carry 179 = .ok (.iload 5, 2) := by decide +kernel
theorem dX4_carry_181 : decode cX4_carry 181 = .ok (.if_icmp .ge 77, 3) := by decide +kernel
theorem dX4_carry_184 : decode cX4_carry 184 = .ok (.bipush 8, 2) := by decide +kernel
theorem dX4_carry_186 : decode cX4_carry 186 = .ok (.iload_n 3, 1) := by decide +kernel
theorem dX4_carry_187 : decode cX4_carry 187 = .ok (.imul, 1) := by decide +kernel
theorem dX4_carry_188 : decode cX4_carry 188 = .ok (.iload 4, 2) := by decide +kernel
theorem dX4_carry_190 : decode cX4_carry 190 = .ok (.iadd, 1) := by decide +kernel
theorem dX4_carry_191 : decode cX4_carry 191 = .ok (.iload 6, 2) := by decide +kernel
theorem dX4_carry_193 : decode cX4_carry 193 = .ok (.iadd, 1) := by decide +kernel
theorem dX4_carry_194 : decode cX4_carry 194 = .ok (.istore 7, 2) := by decide +kernel
theorem dX4_carry_196 : decode cX4_carry 196 = .ok (.aload_n 0, 1) := by decide +kernel
theorem dX4_carry_197 : decode cX4_carry 197 = .ok (.getfield 41, 3) := by decide +kernel
theorem dX4_carry_200 : decode cX4_carry 200 = .ok (.iload 7, 2) := by decide +kernel
theorem dX4_carry_202 : decode cX4_carry 202 = .ok (.aload_n 0, 1) := by decide +kernel
theorem dX4_carry_203 : decode cX4_carry 203 = .ok (.getfield 78, 3) := by decide +kernel
theorem dX4_carry_206 : decode cX4_carry 206 = .ok (.iload 6, 2) := by decide +kernel
theorem dX4_carry_208 : decode cX4_carry 208 = .ok (.baload, 1) := by decide +kernel
theorem dX4_carry_209 : decode cX4_carry 209 = .ok (.bastore, 1) := by decide +kernel
theorem dX4_carry_210 : decode cX4_carry 210 = .ok (.aload_n 0, 1) := by decide +kernel
theorem dX4_carry_211 : decode cX4_carry 211 = .ok (.getfield 45, 3) := by decide +kernel
theorem dX4_carry_214 : decode cX4_carry 214 = .ok (.iload 7, 2) := by decide +kernel
theorem dX4_carry_216 : decode cX4_carry 216 = .ok (.aload_n 0, 1) := by decide +kernel
theorem dX4_carry_217 : decode cX4_carry 217 = .ok (.getfield 81, 3) := by decide +kernel
theorem dX4_carry_220 : decode cX4_carry 220 = .ok (.iload 6, 2) := by decide +kernel
theorem dX4_carry_222 : decode cX4_carry 222 = .ok (.iaload, 1) := by decide +kernel
theorem dX4_carry_223 : decode cX4_carry 223 = .ok (.iastore, 1) := by decide +kernel
theorem dX4_carry_224 : decode cX4_carry 224 = .ok (.aload_n 0, 1) := by decide +kernel
theorem dX4_carry_225 : decode cX4_carry 225 = .ok (.getfield 48, 3) := by decide +kernel
theorem dX4_carry_228 : decode cX4_carry 228 = .ok (.iload 7, 2) := by decide +kernel
theorem dX4_carry_230 : decode cX4_carry 230 = .ok (.aload_n 0, 1) := by decide +kernel
theorem dX4_carry_231 : decode cX4_carry 231 = .ok (.getfield 84, 3) := by decide +kernel
theorem dX4_carry_234 : decode cX4_carry 234 = .ok (.iload 6, 2) := by decide +kernel
theorem dX4_carry_236 : decode cX4_carry 236 = .ok (.iaload, 1) := by decide +kernel
theorem dX4_carry_237 : decode cX4_carry 237 = .ok (.iastore, 1) := by decide +kernel
theorem dX4_carry_238 : decode cX4_carry 238 = .ok (.aload_n 0, 1) := by decide +kernel
theorem dX4_carry_239 : decode cX4_carry 239 = .ok (.getfield 51, 3) := by decide +kernel
theorem dX4_carry_242 : decode cX4_carry 242 = .ok (.iload 7, 2) := by decide +kernel
theorem dX4_carry_244 : decode cX4_carry 244 = .ok (.aload_n 0, 1) := by decide +kernel
theorem dX4_carry_245 : decode cX4_carry 245 = .ok (.getfield 87, 3) := by decide +kernel
theorem dX4_carry_248 : decode cX4_carry 248 = .ok (.iload 6, 2) := by decide +kernel
theorem dX4_carry_250 : decode cX4_carry 250 = .ok (.faload, 1) := by decide +kernel
theorem dX4_carry_251 : decode cX4_carry 251 = .ok (.fastore, 1) := by decide +kernel
theorem dX4_carry_252 : decode cX4_carry 252 = .ok (.iinc 6 1, 3) := by decide +kernel
theorem dX4_carry_255 : decode cX4_carry 255 = .ok (.goto (-78), 3) := by decide +kernel
theorem dX4_carry_258 : decode cX4_carry 258 = .ok (.iconst 0, 1) := by decide +kernel
theorem dX4_carry_259 : decode cX4_carry 259 = .ok (.istore 6, 2) := by decide +kernel
theorem dX4_carry_261 : decode cX4_carry 261 = .ok (.iconst 0, 1) := by decide +kernel
theorem dX4_carry_262 : decode cX4_carry 262 = .ok (.istore 7, 2) := by decide +kernel
theorem dX4_carry_264 : decode cX4_carry 264 = .ok (.iload 7, 2) := by decide +kernel
theorem dX4_carry_266 : decode cX4_carry 266 = .ok (.aload_n 0, 1) := by decide +kernel
theorem dX4_carry_267 : decode cX4_carry 267 = .ok (.getfield 38, 3) := by decide +kernel
theorem dX4_carry_270 : decode cX4_carry 270 = .ok (.iload_n 3, 1) := by decide +kernel
theorem dX4_carry_271 : decode cX4_carry 271 = .ok (.iaload, 1) := by decide +kernel
theorem dX4_carry_272 : decode cX4_carry 272 = .ok (.if_icmp .ge 34, 3) := by decide +kernel
theorem dX4_carry_275 : decode cX4_carry 275 = .ok (.iload 6, 2) := by decide +kernel
theorem dX4_carry_277 : decode cX4_carry 277 = .ok (.aload_n 0, 1) := by decide +kernel
theorem dX4_carry_278 : decode cX4_carry 278 = .ok (.getfield 41, 3) := by decide +kernel
theorem dX4_carry_281 : decode cX4_carry 281 = .ok (.bipush 8, 2) := by decide +kernel
theorem dX4_carry_283 : decode cX4_carry 283 = .ok (.iload_n 3, 1) := by decide +kernel
theorem dX4_carry_284 : decode cX4_carry 284 = .ok (.imul, 1) := by decide +kernel
theorem dX4_carry_285 : decode cX4_carry 285 = .ok (.iload 7, 2) := by decide +kernel
theorem dX4_carry_287 : decode cX4_carry 287 = .ok (.iadd, 1) := by decide +kernel
theorem dX4_carry_288 : decode cX4_carry 288 = .ok (.baload, 1) := by decide +kernel
theorem dX4_carry_289 : decode cX4_carry 289 = .ok (.ifCond .eq 7, 3) := by decide +kernel
theorem dX4_carry_292 : decode cX4_carry 292 = .ok (.iconst 1, 1) := by decide +kernel
theorem dX4_carry_293 : decode cX4_carry 293 = .ok (.goto 4, 3) := by decide +kernel
theorem dX4_carry_296 : decode cX4_carry 296 = .ok (.iconst 0, 1) := by decide +kernel
theorem dX4_carry_297 : decode cX4_carry 297 = .ok (.iadd, 1) := by decide +kernel
theorem dX4_carry_298 : decode cX4_carry 298 = .ok (.istore 6, 2) := by decide +kernel
theorem dX4_carry_300 : decode cX4_carry 300 = .ok (.iinc 7 1, 3) := by decide +kernel
theorem dX4_carry_303 : decode cX4_carry 303 = .ok (.goto (-39), 3) := by decide +kernel
theorem dX4_carry_306 : decode cX4_carry 306 = .ok (.iload 6, 2) := by decide +kernel
theorem dX4_carry_308 : decode cX4_carry 308 = .ok (.ireturn, 1) := by decide +kernel
theorem dX4_tellPlaces_0 : decode cX4_tellPlaces 0 = .ok (.iconst 0, 1) := by decide +kernel
theorem dX4_tellPlaces_1 : decode cX4_tellPlaces 1 = .ok (.istore_n 3, 1) := by decide +kernel
theorem dX4_tellPlaces_2 : decode cX4_tellPlaces 2 = .ok (.iload_n 3, 1) := by decide +kernel
theorem dX4_tellPlaces_3 : decode cX4_tellPlaces 3 = .ok (.iload_n 1, 1) := by decide +kernel
theorem dX4_tellPlaces_4 : decode cX4_tellPlaces 4 = .ok (.if_icmp .ge 16, 3) := by decide +kernel
theorem dX4_tellPlaces_7 : decode cX4_tellPlaces 7 = .ok (.aload_n 0, 1) := by decide +kernel
theorem dX4_tellPlaces_8 : decode cX4_tellPlaces 8 = .ok (.getfield 90, 3) := by decide +kernel
theorem dX4_tellPlaces_11 : decode cX4_tellPlaces 11 = .ok (.iload_n 3, 1) := by decide +kernel
theorem dX4_tellPlaces_12 : decode cX4_tellPlaces 12 = .ok (.iconst (-1), 1) := by decide +kernel
theorem dX4_tellPlaces_13 : decode cX4_tellPlaces 13 = .ok (.iastore, 1) := by decide +kernel
theorem dX4_tellPlaces_14 : decode cX4_tellPlaces 14 = .ok (.iinc 3 1, 3) := by decide +kernel
theorem dX4_tellPlaces_17 : decode cX4_tellPlaces 17 = .ok (.goto (-15), 3) := by decide +kernel
theorem dX4_tellPlaces_20 : decode cX4_tellPlaces 20 = .ok (.aload_n 0, 1) := by decide +kernel
theorem dX4_tellPlaces_21 : decode cX4_tellPlaces 21 = .ok (.getfield 90, 3) := by decide +kernel
theorem dX4_tellPlaces_24 : decode cX4_tellPlaces 24 = .ok (.iload_n 1, 1) := by decide +kernel
theorem dX4_tellPlaces_25 : decode cX4_tellPlaces 25 = .ok (.iload_n 2, 1) := by decide +kernel
theorem dX4_tellPlaces_26 : decode cX4_tellPlaces 26 = .ok (.iastore, 1) := by decide +kernel
theorem dX4_tellPlaces_27 : decode cX4_tellPlaces 27 = .ok (.iload_n 1, 1) := by decide +kernel
theorem dX4_tellPlaces_28 : decode cX4_tellPlaces 28 = .ok (.istore_n 3, 1) := by decide +kernel
theorem dX4_tellPlaces_29 : decode cX4_tellPlaces 29 = .ok (.iload_n 3, 1) := by decide +kernel
theorem dX4_tellPlaces_30 : decode cX4_tellPlaces 30 = .ok (.ifCond .lt 189, 3) := by decide +kernel
theorem dX4_tellPlaces_33 : decode cX4_tellPlaces 33 = .ok (.iconst 0, 1) := by decide +kernel
theorem dX4_tellPlaces_34 : decode cX4_tellPlaces 34 = .ok (.istore 4, 2) := by decide +kernel
theorem dX4_tellPlaces_36 : decode cX4_tellPlaces 36 = .ok (.iload 4, 2) := by decide +kernel
theorem dX4_tellPlaces_38 : decode cX4_tellPlaces 38 = .ok (.aload_n 0, 1) := by decide +kernel
theorem dX4_tellPlaces_39 : decode cX4_tellPlaces 39 = .ok (.getfield 26, 3) := by decide +kernel
theorem dX4_tellPlaces_42 : decode cX4_tellPlaces 42 = .ok (.iload_n 3, 1) := by decide +kernel
theorem dX4_tellPlaces_43 : decode cX4_tellPlaces 43 = .ok (.iaload, 1) := by decide +kernel
theorem dX4_tellPlaces_44 : decode cX4_tellPlaces 44 = .ok (.if_icmp .ge 169, 3) := by decide +kernel
theorem dX4_tellPlaces_47 : decode cX4_tellPlaces 47 = .ok (.aload_n 0, 1) := by decide +kernel
theorem dX4_tellPlaces_48 : decode cX4_tellPlaces 48 = .ok (.getfield 90, 3) := by decide +kernel
theorem dX4_tellPlaces_51 : decode cX4_tellPlaces 51 = .ok (.iload_n 3, 1) := by decide +kernel
theorem dX4_tellPlaces_52 : decode cX4_tellPlaces 52 = .ok (.iaload, 1) := by decide +kernel
theorem dX4_tellPlaces_53 : decode cX4_tellPlaces 53 = .ok (.ifCond .lt 160, 3) := by decide +kernel
theorem dX4_tellPlaces_56 : decode cX4_tellPlaces 56 = .ok (.aload_n 0, 1) := by decide +kernel
theorem dX4_tellPlaces_57 : decode cX4_tellPlaces 57 = .ok (.getfield 29, 3) := by decide +kernel
theorem dX4_tellPlaces_60 : decode cX4_tellPlaces 60 = .ok (.bipush 9, 2) := by decide +kernel
theorem dX4_tellPlaces_62 : decode cX4_tellPlaces 62 = .ok (.iload_n 3, 1) := by decide +kernel
theorem dX4_tellPlaces_63 : decode cX4_tellPlaces 63 = .ok (.imul, 1) := by decide +kernel
theorem dX4_tellPlaces_64 : decode cX4_tellPlaces 64 = .ok (.iload 4, 2) := by decide +kernel
theorem dX4_tellPlaces_66 : decode cX4_tellPlaces 66 = .ok (.iadd, 1) := by decide +kernel
theorem dX4_tellPlaces_67 : decode cX4_tellPlaces 67 = .ok (.iaload, 1) := by decide +kernel
theorem dX4_tellPlaces_68 : decode cX4_tellPlaces 68 = .ok (.istore 5, 2) := by decide +kernel
theorem dX4_tellPlaces_70 : decode cX4_tellPlaces 70 = .ok (.aload_n 0, 1) := by decide +kernel
theorem dX4_tellPlaces_71 : decode cX4_tellPlaces 71 = .ok (.getfield 32, 3) := by decide +kernel
theorem dX4_tellPlaces_74 : decode cX4_tellPlaces 74 = .ok (.iload 5, 2) := by decide +kernel
theorem dX4_tellPlaces_76 : decode cX4_tellPlaces 76 = .ok (.iaload, 1) := by decide +kernel
theorem dX4_tellPlaces_77 : decode cX4_tellPlaces 77 = .ok (.iload_n 3, 1) := by decide +kernel
theorem dX4_tellPlaces_78 : decode cX4_tellPlaces 78 = .ok (.if_icmp .ne 90, 3) := by decide +kernel
theorem dX4_tellPlaces_81 : decode cX4_tellPlaces 81 = .ok (.aload_n 0, 1) := by decide +kernel
theorem dX4_tellPlaces_82 : decode cX4_tellPlaces 82 = .ok (.getfield 9, 3) := by decide +kernel
theorem dX4_tellPlaces_85 : decode cX4_tellPlaces 85 = .ok (.iload_n 3, 1) := by decide +kernel
theorem dX4_tellPlaces_86 : decode cX4_tellPlaces 86 = .ok (.iaload, 1) := by decide +kernel
theorem dX4_tellPlaces_87 : decode cX4_tellPlaces 87 = .ok (.iconst 5, 1) := by decide +kernel
theorem dX4_tellPlaces_88 : decode cX4_tellPlaces 88 = .ok (.if_icmp .ne 80, 3) := by decide +kernel
theorem dX4_tellPlaces_91 : decode cX4_tellPlaces 91 = .ok (.iload 4, 2) := by decide +kernel
theorem dX4_tellPlaces_93 : decode cX4_tellPlaces 93 = .ok (.ifCond .ne 12, 3) := by decide +kernel
theorem dX4_tellPlaces_96 : decode cX4_tellPlaces 96 = .ok (.aload_n 0, 1) := by decide +kernel
theorem dX4_tellPlaces_97 : decode cX4_tellPlaces 97 = .ok (.getfield 90, 3) := by decide +kernel
theorem dX4_tellPlaces_100 : decode cX4_tellPlaces 100 = .ok (.iload_n 3, 1) := by decide +kernel
theorem dX4_tellPlaces_101 : decode cX4_tellPlaces 101 = .ok (.iaload, 1) := by decide +kernel
theorem dX4_tellPlaces_102 : decode cX4_tellPlaces 102 = .ok (.goto 31, 3) := by decide +kernel
theorem dX4_tellPlaces_105 : decode cX4_tellPlaces 105 = .ok (.aload_n 0, 1) := by decide +kernel
theorem dX4_tellPlaces_106 : decode cX4_tellPlaces 106 = .ok (.getfield 90, 3) := by decide +kernel
theorem dX4_tellPlaces_109 : decode cX4_tellPlaces 109 = .ok (.iload_n 3, 1) := by decide +kernel
theorem dX4_tellPlaces_110 : decode cX4_tellPlaces 110 = .ok (.iaload, 1) := by decide +kernel
theorem dX4_tellPlaces_111 : decode cX4_tellPlaces 111 = .ok (.aload_n 0, 1) := by decide +kernel
theorem dX4_tellPlaces_112 : decode cX4_tellPlaces 112 = .ok (.getfield 13, 3) := by decide +kernel
theorem dX4_tellPlaces_115 : decode cX4_tellPlaces 115 = .ok (.aload_n 0, 1) := by decide +kernel
theorem dX4_tellPlaces_116 : decode cX4_tellPlaces 116 = .ok (.getfield 29, 3) := by decide +kernel
theorem dX4_tellPlaces_119 : decode cX4_tellPlaces 119 = .ok (.bipush 9, 2) := by decide +kernel
theorem dX4_tellPlaces_121 : decode cX4_tellPlaces 121 = .ok (.iload_n 3, 1) := by decide +kernel
theorem dX4_tellPlaces_122 : decode cX4_tellPlaces 122 = .ok (.imul, 1) := by decide +kernel
theorem dX4_tellPlaces_123 : decode cX4_tellPlaces 123 = .ok (.iaload, 1) := by decide +kernel
theorem dX4_tellPlaces_124 : decode cX4_tellPlaces 124 = .ok (.iaload, 1) := by decide +kernel
theorem dX4_tellPlaces_125 : decode cX4_tellPlaces 125 = .ok (.isub, 1) := by decide +kernel
theorem dX4_tellPlaces_126 : decode cX4_tellPlaces 126 = .ok (.aload_n 0, 1) := by decide +kernel
theorem dX4_tellPlaces_127 : decode cX4_tellPlaces 127 = .ok (.getfield 35, 3) := by decide +kernel
theorem dX4_tellPlaces_130 : decode cX4_tellPlaces 130 = .ok (.iload_n 3, 1) := by decide +kernel
theorem dX4_tellPlaces_131 : decode cX4_tellPlaces 131 = .ok (.iaload, 1) := by decide +kernel
theorem dX4_tellPlaces_132 : decode cX4_tellPlaces 132 = .ok (.iadd, 1) := by decide +kernel
theorem dX4_tellPlaces_133 : decode cX4_tellPlaces 133 = .ok (.istore 6, 2) := by decide +kernel
theorem dX4_tellPlaces_135 : decode cX4_tellPlaces 135 = .ok (.aload_n 0, 1) := by decide +kernel
theorem dX4_tellPlaces_136 : decode cX4_tellPlaces 136 = .ok (.getfield 90, 3) := by decide +kernel
theorem dX4_tellPlaces_139 : decode cX4_tellPlaces 139 = .ok (.iload 5, 2) := by decide +kernel
theorem dX4_tellPlaces_141 : decode cX4_tellPlaces 141 = .ok (.iload 6, 2) := by decide +kernel
theorem dX4_tellPlaces_143 : decode cX4_tellPlaces 143 = .ok (.ifCond .lt 20, 3) := by decide +kernel
theorem dX4_tellPlaces_146 : decode cX4_tellPlaces 146 = .ok (.iload 6, 2) := by decide +kernel
theorem dX4_tellPlaces_148 : decode cX4_tellPlaces 148 = .ok (.aload_n 0, 1) := by decide +kernel
theorem dX4_tellPlaces_149 : decode cX4_tellPlaces 149 = .ok (.getfield 13, 3) := by decide +kernel
theorem dX4_tellPlaces_152 : decode cX4_tellPlaces 152 = .ok (.iload 5, 2) := by decide +kernel
theorem dX4_tellPlaces_154 : decode cX4_tellPlaces 154 = .ok (.iaload, 1) := by decide +kernel
theorem dX4_tellPlaces_155 : decode cX4_tellPlaces 155 = .ok (.if_icmp .ge 8, 3) := by decide +kernel
theorem dX4_tellPlaces_158 : decode cX4_tellPlaces 158 = .ok (.iload 6, 2) := by decide +kernel
theorem dX4_tellPlaces_160 : decode cX4_tellPlaces 160 = .ok (.goto 4, 3) := by decide +kernel
theorem dX4_tellPlaces_163 : decode cX4_tellPlaces 163 = .ok (.iconst (-1), 1) := by decide +kernel
theorem dX4_tellPlaces_164 : decode cX4_tellPlaces 164 = .ok (.iastore, 1) := by decide +kernel
theorem dX4_tellPlaces_165 : decode cX4_tellPlaces 165 = .ok (.goto 42, 3) := by decide +kernel
theorem dX4_tellPlaces_168 : decode cX4_tellPlaces 168 = .ok (.aload_n 0, 1) := by decide +kernel
theorem dX4_tellPlaces_169 : decode cX4_tellPlaces 169 = .ok (.getfield 32, 3) := by decide +kernel
theorem dX4_tellPlaces_172 : decode cX4_tellPlaces 172 = .ok (.iload 5, 2) := by decide +kernel
theorem dX4_tellPlaces_174 : decode cX4_tellPlaces 174 = .ok (.iaload, 1) := by decide +kernel
theorem dX4_tellPlaces_175 : decode cX4_tellPlaces 175 = .ok (.iload_n 3, 1) := by decide +kernel
theorem dX4_tellPlaces_176 : decode cX4_tellPlaces 176 = .ok (.if_icmp .ne 31, 3) := by decide +kernel
theorem dX4_tellPlaces_179 : decode cX4_tellPlaces 179 = .ok (.aload_n 0, 1) := by decide +kernel
theorem dX4_tellPlaces_180 : decode cX4_tellPlaces 180 = .ok (.getfield 90, 3) := by decide +kernel
theorem dX4_tellPlaces_183 : decode cX4_tellPlaces 183 = .ok (.iload 5, 2) := by decide +kernel
theorem dX4_tellPlaces_185 : decode cX4_tellPlaces 185 = .ok (.aload_n 0, 1) := by decide +kernel
theorem dX4_tellPlaces_186 : decode cX4_tellPlaces 186 = .ok (.getfield 90, 3) := by decide +kernel
theorem dX4_tellPlaces_189 : decode cX4_tellPlaces 189 = .ok (.iload_n 3, 1) := by decide +kernel
theorem dX4_tellPlaces_190 : decode cX4_tellPlaces 190 = .ok (.iaload, 1) := by decide +kernel
theorem dX4_tellPlaces_191 : decode cX4_tellPlaces 191 = .ok (.aload_n 0, 1) := by decide +kernel
theorem dX4_tellPlaces_192 : decode cX4_tellPlaces 192 = .ok (.getfield 13, 3) := by decide +kernel
theorem dX4_tellPlaces_195 : decode cX4_tellPlaces 195 = .ok (.iload 5, 2) := by decide +kernel
theorem dX4_tellPlaces_197 : decode cX4_tellPlaces 197 = .ok (.iaload, 1) := by decide +kernel
theorem dX4_tellPlaces_198 : decode cX4_tellPlaces 198 = .ok (.imul, 1) := by decide +kernel
theorem dX4_tellPlaces_199 : decode cX4_tellPlaces 199 = .ok (.aload_n 0, 1) := by decide +kernel
theorem dX4_tellPlaces_200 : decode cX4_tellPlaces 200 = .ok (.getfield 13, 3) := by decide +kernel
theorem dX4_tellPlaces_203 : decode cX4_tellPlaces 203 = .ok (.iload_n 3, 1) := by decide +kernel
theorem dX4_tellPlaces_204 : decode cX4_tellPlaces 204 = .ok (.iaload, 1) := by decide +kernel
theorem dX4_tellPlaces_205 : decode cX4_tellPlaces 205 = .ok (.idiv, 1) := by decide +kernel
theorem dX4_tellPlaces_206 : decode cX4_tellPlaces 206 = .ok (.iastore, 1) := by decide +kernel
theorem dX4_tellPlaces_207 : decode cX4_tellPlaces 207 = .ok (.iinc 4 1, 3) := by decide +kernel
theorem dX4_tellPlaces_210 : decode cX4_tellPlaces 210 = .ok (.goto (-174), 3) := by decide +kernel
theorem dX4_tellPlaces_213 : decode cX4_tellPlaces 213 = .ok (.iinc 3 (-1), 3) := by decide +kernel
theorem dX4_tellPlaces_216 : decode cX4_tellPlaces 216 = .ok (.goto (-187), 3) := by decide +kernel
theorem dX4_tellPlaces_219 : decode cX4_tellPlaces 219 = .ok (.return_, 1) := by decide +kernel
theorem dX4_base_0 : decode cX4_base 0 = .ok (.aload_n 0, 1) := by decide +kernel
theorem dX4_base_1 : decode cX4_base 1 = .ok (.getfield 9, 3) := by decide +kernel
theorem dX4_base_4 : decode cX4_base 4 = .ok (.iload_n 1, 1) := by decide +kernel
theorem dX4_base_5 : decode cX4_base 5 = .ok (.iaload, 1) := by decide +kernel
theorem dX4_base_6 : decode cX4_base 6 = .ok (.ifCond .ne 10, 3) := by decide +kernel
theorem dX4_base_9 : decode cX4_base 9 = .ok (.aload_n 0, 1) := by decide +kernel
end
section
theorem dX4_base_10 : decode cX4_base 10 = .ok (.getfield 22, 3) := by decide +kernel
theorem dX4_base_13 : decode cX4_base 13 = .ok (.iload_n 1, 1) := by decide +kernel
theorem dX4_base_14 : decode cX4_base 14 = .ok (.faload, 1) := by decide +kernel
theorem dX4_base_15 : decode cX4_base 15 = .ok (.freturn, 1) := by decide +kernel
theorem dX4_base_16 : decode cX4_base 16 = .ok (.aload_n 0, 1) := by decide +kernel
theorem dX4_base_17 : decode cX4_base 17 = .ok (.getfield 9, 3) := by decide +kernel
theorem dX4_base_20 : decode cX4_base 20 = .ok (.iload_n 1, 1) := by decide +kernel
theorem dX4_base_21 : decode cX4_base 21 = .ok (.iaload, 1) := by decide +kernel
theorem dX4_base_22 : decode cX4_base 22 = .ok (.iconst 4, 1) := by decide +kernel
theorem dX4_base_23 : decode cX4_base 23 = .ok (.if_icmp .ne 13, 3) := by decide +kernel
theorem dX4_base_26 : decode cX4_base 26 = .ok (.aload_n 0, 1) := by decide +kernel
theorem dX4_base_27 : decode cX4_base 27 = .ok (.getfield 22, 3) := by decide +kernel
theorem dX4_base_30 : decode cX4_base 30 = .ok (.iload_n 1, 1) := by decide +kernel
theorem dX4_base_31 : decode cX4_base 31 = .ok (.faload, 1) := by decide +kernel
theorem dX4_base_32 : decode cX4_base 32 = .ok (.ldc 152, 2) := by decide +kernel
theorem dX4_base_34 : decode cX4_base 34 = .ok (.fmul, 1) := by decide +kernel
theorem dX4_base_35 : decode cX4_base 35 = .ok (.freturn, 1) := by decide +kernel
theorem dX4_base_36 : decode cX4_base 36 = .ok (.aload_n 0, 1) := by decide +kernel
theorem dX4_base_37 : decode cX4_base 37 = .ok (.getfield 9, 3) := by decide +kernel
theorem dX4_base_40 : decode cX4_base 40 = .ok (.iload_n 1, 1) := by decide +kernel
theorem dX4_base_41 : decode cX4_base 41 = .ok (.iaload, 1) := by decide +kernel
theorem dX4_base_42 : decode cX4_base 42 = .ok (.iconst 5, 1) := by decide +kernel
theorem dX4_base_43 : decode cX4_base 43 = .ok (.if_icmp .ne 84, 3) := by decide +kernel
theorem dX4_base_46 : decode cX4_base 46 = .ok (.aload_n 0, 1) := by decide +kernel
theorem dX4_base_47 : decode cX4_base 47 = .ok (.getfield 29, 3) := by decide +kernel
theorem dX4_base_50 : decode cX4_base 50 = .ok (.bipush 9, 2) := by decide +kernel
theorem dX4_base_52 : decode cX4_base 52 = .ok (.iload_n 1, 1) := by decide +kernel
theorem dX4_base_53 : decode cX4_base 53 = .ok (.imul, 1) := by decide +kernel
theorem dX4_base_54 : decode cX4_base 54 = .ok (.iaload, 1) := by decide +kernel
theorem dX4_base_55 : decode cX4_base 55 = .ok (.istore_n 2, 1) := by decide +kernel
theorem dX4_base_56 : decode cX4_base 56 = .ok (.aload_n 0, 1) := by decide +kernel
theorem dX4_base_57 : decode cX4_base 57 = .ok (.getfield 29, 3) := by decide +kernel
theorem dX4_base_60 : decode cX4_base 60 = .ok (.bipush 9, 2) := by decide +kernel
theorem dX4_base_62 : decode cX4_base 62 = .ok (.iload_n 1, 1) := by decide +kernel
theorem dX4_base_63 : decode cX4_base 63 = .ok (.imul, 1) := by decide +kernel
theorem dX4_base_64 : decode cX4_base 64 = .ok (.iconst 1, 1) := by decide +kernel
theorem dX4_base_65 : decode cX4_base 65 = .ok (.iadd, 1) := by decide +kernel
theorem dX4_base_66 : decode cX4_base 66 = .ok (.iaload, 1) := by decide +kernel
theorem dX4_base_67 : decode cX4_base 67 = .ok (.istore_n 3, 1) := by decide +kernel
theorem dX4_base_68 : decode cX4_base 68 = .ok (.aload_n 0, 1) := by decide +kernel
theorem dX4_base_69 : decode cX4_base 69 = .ok (.getfield 90, 3) := by decide +kernel
theorem dX4_base_72 : decode cX4_base 72 = .ok (.iload_n 2, 1) := by decide +kernel
theorem dX4_base_73 : decode cX4_base 73 = .ok (.iaload, 1) := by decide +kernel
theorem dX4_base_74 : decode cX4_base 74 = .ok (.ifCond .ge 12, 3) := by decide +kernel
theorem dX4_base_77 : decode cX4_base 77 = .ok (.aload_n 0, 1) := by decide +kernel
theorem dX4_base_78 : decode cX4_base 78 = .ok (.getfield 93, 3) := by decide +kernel
theorem dX4_base_81 : decode cX4_base 81 = .ok (.iload_n 3, 1) := by decide +kernel
theorem dX4_base_82 : decode cX4_base 82 = .ok (.faload, 1) := by decide +kernel
theorem dX4_base_83 : decode cX4_base 83 = .ok (.goto 43, 3) := by decide +kernel
theorem dX4_base_86 : decode cX4_base 86 = .ok (.aload_n 0, 1) := by decide +kernel
theorem dX4_base_87 : decode cX4_base 87 = .ok (.getfield 90, 3) := by decide +kernel
theorem dX4_base_90 : decode cX4_base 90 = .ok (.iload_n 3, 1) := by decide +kernel
theorem dX4_base_91 : decode cX4_base 91 = .ok (.iaload, 1) := by decide +kernel
theorem dX4_base_92 : decode cX4_base 92 = .ok (.ifCond .lt 19, 3) := by decide +kernel
theorem dX4_base_95 : decode cX4_base 95 = .ok (.aload_n 0, 1) := by decide +kernel
theorem dX4_base_96 : decode cX4_base 96 = .ok (.getfield 93, 3) := by decide +kernel
theorem dX4_base_99 : decode cX4_base 99 = .ok (.iload_n 2, 1) := by decide +kernel
theorem dX4_base_100 : decode cX4_base 100 = .ok (.faload, 1) := by decide +kernel
theorem dX4_base_101 : decode cX4_base 101 = .ok (.aload_n 0, 1) := by decide +kernel
theorem dX4_base_102 : decode cX4_base 102 = .ok (.getfield 93, 3) := by decide +kernel
theorem dX4_base_105 : decode cX4_base 105 = .ok (.iload_n 3, 1) := by decide +kernel
theorem dX4_base_106 : decode cX4_base 106 = .ok (.faload, 1) := by decide +kernel
theorem dX4_base_107 : decode cX4_base 107 = .ok (.fcmp .l, 1) := by decide +kernel
theorem dX4_base_108 : decode cX4_base 108 = .ok (.ifCond .lt 12, 3) := by decide +kernel
theorem dX4_base_111 : decode cX4_base 111 = .ok (.aload_n 0, 1) := by decide +kernel
theorem dX4_base_112 : decode cX4_base 112 = .ok (.getfield 93, 3) := by decide +kernel
theorem dX4_base_115 : decode cX4_base 115 = .ok (.iload_n 2, 1) := by decide +kernel
theorem dX4_base_116 : decode cX4_base 116 = .ok (.faload, 1) := by decide +kernel
theorem dX4_base_117 : decode cX4_base 117 = .ok (.goto 9, 3) := by decide +kernel
theorem dX4_base_120 : decode cX4_base 120 = .ok (.aload_n 0, 1) := by decide +kernel
theorem dX4_base_121 : decode cX4_base 121 = .ok (.getfield 93, 3) := by decide +kernel
theorem dX4_base_124 : decode cX4_base 124 = .ok (.iload_n 3, 1) := by decide +kernel
theorem dX4_base_125 : decode cX4_base 125 = .ok (.faload, 1) := by decide +kernel
theorem dX4_base_126 : decode cX4_base 126 = .ok (.freturn, 1) := by decide +kernel
theorem dX4_base_127 : decode cX4_base 127 = .ok (.fconst 0, 1) := by decide +kernel
theorem dX4_base_128 : decode cX4_base 128 = .ok (.fstore_n 2, 1) := by decide +kernel
theorem dX4_base_129 : decode cX4_base 129 = .ok (.iconst 0, 1) := by decide +kernel
theorem dX4_base_130 : decode cX4_base 130 = .ok (.istore_n 3, 1) := by decide +kernel
theorem dX4_base_131 : decode cX4_base 131 = .ok (.iload_n 3, 1) := by decide +kernel
theorem dX4_base_132 : decode cX4_base 132 = .ok (.aload_n 0, 1) := by decide +kernel
theorem dX4_base_133 : decode cX4_base 133 = .ok (.getfield 26, 3) := by decide +kernel
theorem dX4_base_136 : decode cX4_base 136 = .ok (.iload_n 1, 1) := by decide +kernel
theorem dX4_base_137 : decode cX4_base 137 = .ok (.iaload, 1) := by decide +kernel
theorem dX4_base_138 : decode cX4_base 138 = .ok (.if_icmp .ge 28, 3) := by decide +kernel
theorem dX4_base_141 : decode cX4_base 141 = .ok (.fload_n 2, 1) := by decide +kernel
theorem dX4_base_142 : decode cX4_base 142 = .ok (.aload_n 0, 1) := by decide +kernel
theorem dX4_base_143 : decode cX4_base 143 = .ok (.getfield 93, 3) := by decide +kernel
theorem dX4_base_146 : decode cX4_base 146 = .ok (.aload_n 0, 1) := by decide +kernel
theorem dX4_base_147 : decode cX4_base 147 = .ok (.getfield 29, 3) := by decide +kernel
theorem dX4_base_150 : decode cX4_base 150 = .ok (.bipush 9, 2) := by decide +kernel
theorem dX4_base_152 : decode cX4_base 152 = .ok (.iload_n 1, 1) := by decide +kernel
theorem dX4_base_153 : decode cX4_base 153 = .ok (.imul, 1) := by decide +kernel
theorem dX4_base_154 : decode cX4_base 154 = .ok (.iload_n 3, 1) := by decide +kernel
theorem dX4_base_155 : decode cX4_base 155 = .ok (.iadd, 1) := by decide +kernel
theorem dX4_base_156 : decode cX4_base 156 = .ok (.iaload, 1) := by decide +kernel
theorem dX4_base_157 : decode cX4_base 157 = .ok (.faload, 1) := by decide +kernel
theorem dX4_base_158 : decode cX4_base 158 = .ok (.fadd, 1) := by decide +kernel
theorem dX4_base_159 : decode cX4_base 159 = .ok (.fstore_n 2, 1) := by decide +kernel
theorem dX4_base_160 : decode cX4_base 160 = .ok (.iinc 3 1, 3) := by decide +kernel
theorem dX4_base_163 : decode cX4_base 163 = .ok (.goto (-32), 3) := by decide +kernel
theorem dX4_base_166 : decode cX4_base 166 = .ok (.aload_n 0, 1) := by decide +kernel
theorem dX4_base_167 : decode cX4_base 167 = .ok (.getfield 9, 3) := by decide +kernel
theorem dX4_base_170 : decode cX4_base 170 = .ok (.iload_n 1, 1) := by decide +kernel
theorem dX4_base_171 : decode cX4_base 171 = .ok (.iaload, 1) := by decide +kernel
theorem dX4_base_172 : decode cX4_base 172 = .ok (.iconst 1, 1) := by decide +kernel
theorem dX4_base_173 : decode cX4_base 173 = .ok (.if_icmp .ne 10, 3) := by decide +kernel
theorem dX4_base_176 : decode cX4_base 176 = .ok (.fload_n 2, 1) := by decide +kernel
theorem dX4_base_177 : decode cX4_base 177 = .ok (.ldc 153, 2) := by decide +kernel
theorem dX4_base_179 : decode cX4_base 179 = .ok (.fmul, 1) := by decide +kernel
theorem dX4_base_180 : decode cX4_base 180 = .ok (.goto 24, 3) := by decide +kernel
theorem dX4_base_183 : decode cX4_base 183 = .ok (.aload_n 0, 1) := by decide +kernel
theorem dX4_base_184 : decode cX4_base 184 = .ok (.getfield 9, 3) := by decide +kernel
theorem dX4_base_187 : decode cX4_base 187 = .ok (.iload_n 1, 1) := by decide +kernel
theorem dX4_base_188 : decode cX4_base 188 = .ok (.iaload, 1) := by decide +kernel
theorem dX4_base_189 : decode cX4_base 189 = .ok (.iconst 2, 1) := by decide +kernel
theorem dX4_base_190 : decode cX4_base 190 = .ok (.if_icmp .ne 10, 3) := by decide +kernel
theorem dX4_base_193 : decode cX4_base 193 = .ok (.fload_n 2, 1) := by decide +kernel
theorem dX4_base_194 : decode cX4_base 194 = .ok (.ldc 154, 2) := by decide +kernel
theorem dX4_base_196 : decode cX4_base 196 = .ok (.fmul, 1) := by decide +kernel
theorem dX4_base_197 : decode cX4_base 197 = .ok (.goto 7, 3) := by decide +kernel
theorem dX4_base_200 : decode cX4_base 200 = .ok (.fload_n 2, 1) := by decide +kernel
theorem dX4_base_201 : decode cX4_base 201 = .ok (.ldc 155, 2) := by decide +kernel
theorem dX4_base_203 : decode cX4_base 203 = .ok (.fmul, 1) := by decide +kernel
theorem dX4_base_204 : decode cX4_base 204 = .ok (.freturn, 1) := by decide +kernel
theorem dX4_bearing_0 : decode cX4_bearing 0 = .ok (.aload_n 0, 1) := by decide +kernel
theorem dX4_bearing_1 : decode cX4_bearing 1 = .ok (.iload_n 1, 1) := by decide +kernel
theorem dX4_bearing_2 : decode cX4_bearing 2 = .ok (.iload_n 2, 1) := by decide +kernel
theorem dX4_bearing_3 : decode cX4_bearing 3 = .ok (.invokevirtual 156, 3) := by decide +kernel
theorem dX4_bearing_6 : decode cX4_bearing 6 = .ok (.iconst 0, 1) := by decide +kernel
theorem dX4_bearing_7 : decode cX4_bearing 7 = .ok (.istore_n 3, 1) := by decide +kernel
theorem dX4_bearing_8 : decode cX4_bearing 8 = .ok (.iload_n 3, 1) := by decide +kernel
theorem dX4_bearing_9 : decode cX4_bearing 9 = .ok (.iload_n 1, 1) := by decide +kernel
theorem dX4_bearing_10 : decode cX4_bearing 10 = .ok (.if_icmp .gt 119, 3) := by decide +kernel
theorem dX4_bearing_13 : decode cX4_bearing 13 = .ok (.aload_n 0, 1) := by decide +kernel
theorem dX4_bearing_14 : decode cX4_bearing 14 = .ok (.getfield 90, 3) := by decide +kernel
theorem dX4_bearing_17 : decode cX4_bearing 17 = .ok (.iload_n 3, 1) := by decide +kernel
theorem dX4_bearing_18 : decode cX4_bearing 18 = .ok (.iaload, 1) := by decide +kernel
theorem dX4_bearing_19 : decode cX4_bearing 19 = .ok (.ifCond .ge 6, 3) := by decide +kernel
theorem dX4_bearing_22 : decode cX4_bearing 22 = .ok (.goto 101, 3) := by decide +kernel
theorem dX4_bearing_25 : decode cX4_bearing 25 = .ok (.aload_n 0, 1) := by decide +kernel
theorem dX4_bearing_26 : decode cX4_bearing 26 = .ok (.iload_n 3, 1) := by decide +kernel
theorem dX4_bearing_27 : decode cX4_bearing 27 = .ok (.invokevirtual 159, 3) := by decide +kernel
theorem dX4_bearing_30 : decode cX4_bearing 30 = .ok (.fstore 4, 2) := by decide +kernel
theorem dX4_bearing_32 : decode cX4_bearing 32 = .ok (.iconst 0, 1) := by decide +kernel
theorem dX4_bearing_33 : decode cX4_bearing 33 = .ok (.istore 5, 2) := by decide +kernel
theorem dX4_bearing_35 : decode cX4_bearing 35 = .ok (.iload 5, 2) := by decide +kernel
theorem dX4_bearing_37 : decode cX4_bearing 37 = .ok (.aload_n 0, 1) := by decide +kernel
theorem dX4_bearing_38 : decode cX4_bearing 38 = .ok (.getfield 38, 3) := by decide +kernel
theorem dX4_bearing_41 : decode cX4_bearing 41 = .ok (.iload_n 3, 1) := by decide +kernel
theorem dX4_bearing_42 : decode cX4_bearing 42 = .ok (.iaload, 1) := by decide +kernel
theorem dX4_bearing_43 : decode cX4_bearing 43 = .ok (.if_icmp .ge 72, 3) := by decide +kernel
theorem dX4_bearing_46 : decode cX4_bearing 46 = .ok (.bipush 8, 2) := by decide +kernel
theorem dX4_bearing_48 : decode cX4_bearing 48 = .ok (.iload_n 3, 1) := by decide +kernel
theorem dX4_bearing_49 : decode cX4_bearing 49 = .ok (.imul, 1) := by decide +kernel
theorem dX4_bearing_50 : decode cX4_bearing 50 = .ok (.iload 5, 2) := by decide +kernel
theorem dX4_bearing_52 : decode cX4_bearing 52 = .ok (.iadd, 1) := by decide +kernel
theorem dX4_bearing_53 : decode cX4_bearing 53 = .ok (.istore 6, 2) := by decide +kernel
theorem dX4_bearing_55 : decode cX4_bearing 55 = .ok (.aload_n 0, 1) := by decide +kernel
theorem dX4_bearing_56 : decode cX4_bearing 56 = .ok (.getfield 41, 3) := by decide +kernel
theorem dX4_bearing_59 : decode cX4_bearing 59 = .ok (.iload 6, 2) := by decide +kernel
theorem dX4_bearing_61 : decode cX4_bearing 61 = .ok (.baload, 1) := by decide +kernel
theorem dX4_bearing_62 : decode cX4_bearing 62 = .ok (.ifCond .eq 47, 3) := by decide +kernel
theorem dX4_bearing_65 : decode cX4_bearing 65 = .ok (.aload_n 0, 1) := by decide +kernel
theorem dX4_bearing_66 : decode cX4_bearing 66 = .ok (.getfield 45, 3) := by decide +kernel
theorem dX4_bearing_69 : decode cX4_bearing 69 = .ok (.iload 6, 2) := by decide +kernel
theorem dX4_bearing_71 : decode cX4_bearing 71 = .ok (.iaload, 1) := by decide +kernel
theorem dX4_bearing_72 : decode cX4_bearing 72 = .ok (.aload_n 0, 1) := by decide +kernel
theorem dX4_bearing_73 : decode cX4_bearing 73 = .ok (.getfield 90, 3) := by decide +kernel
theorem dX4_bearing_76 : decode cX4_bearing 76 = .ok (.iload_n 3, 1) := by decide +kernel
theorem dX4_bearing_77 : decode cX4_bearing 77 = .ok (.iaload, 1) := by decide +kernel
theorem dX4_bearing_78 : decode cX4_bearing 78 = .ok (.if_icmp .gt 31, 3) := by decide +kernel
theorem dX4_bearing_81 : decode cX4_bearing 81 = .ok (.aload_n 0, 1) := by decide +kernel
theorem dX4_bearing_82 : decode cX4_bearing 82 = .ok (.getfield 90, 3) := by decide +kernel
theorem dX4_bearing_85 : decode cX4_bearing 85 = .ok (.iload_n 3, 1) := by decide +kernel
theorem dX4_bearing_86 : decode cX4_bearing 86 = .ok (.iaload, 1) := by decide +kernel
theorem dX4_bearing_87 : decode cX4_bearing 87 = .ok (.aload_n 0, 1) := by decide +kernel
theorem dX4_bearing_88 : decode cX4_bearing 88 = .ok (.getfield 48, 3) := by decide +kernel
theorem dX4_bearing_91 : decode cX4_bearing 91 = .ok (.iload 6, 2) := by decide +kernel
theorem dX4_bearing_93 : decode cX4_bearing 93 = .ok (.iaload, 1) := by decide +kernel
theorem dX4_bearing_94 : decode cX4_bearing 94 = .ok (.if_icmp .gt 15, 3) := by decide +kernel
theorem dX4_bearing_97 : decode cX4_bearing 97 = .ok (.fload 4, 2) := by decide +kernel
theorem dX4_bearing_99 : decode cX4_bearing 99 = .ok (.aload_n 0, 1) := by decide +kernel
theorem dX4_bearing_100 : decode cX4_bearing 100 = .ok (.getfield 51, 3) := by decide +kernel
theorem dX4_bearing_103 : decode cX4_bearing 103 = .ok (.iload 6, 2) := by decide +kernel
theorem dX4_bearing_105 : decode cX4_bearing 105 = .ok (.faload, 1) := by decide +kernel
theorem dX4_bearing_106 : decode cX4_bearing 106 = .ok (.fmul, 1) := by decide +kernel
theorem dX4_bearing_107 : decode cX4_bearing 107 = .ok (.fstore 4, 2) := by decide +kernel
theorem dX4_bearing_109 : decode cX4_bearing 109 = .ok (.iinc 5 1, 3) := by decide +kernel
theorem dX4_bearing_112 : decode cX4_bearing 112 = .ok (.goto (-77), 3) := by decide +kernel
theorem dX4_bearing_115 : decode cX4_bearing 115 = .ok (.aload_n 0, 1) := by decide +kernel
theorem dX4_bearing_116 : decode cX4_bearing 116 = .ok (.getfield 93, 3) := by decide +kernel
theorem dX4_bearing_119 : decode cX4_bearing 119 = .ok (.iload_n 3, 1) := by decide +kernel
theorem dX4_bearing_120 : decode cX4_bearing 120 = .ok (.fload 4, 2) := by decide +kernel
theorem dX4_bearing_122 : decode cX4_bearing 122 = .ok (.fastore, 1) := by decide +kernel
theorem dX4_bearing_123 : decode cX4_bearing 123 = .ok (.iinc 3 1, 3) := by decide +kernel
theorem dX4_bearing_126 : decode cX4_bearing 126 = .ok (.goto (-118), 3) := by decide +kernel
theorem dX4_bearing_129 : decode cX4_bearing 129 = .ok (.aload_n 0, 1) := by decide +kernel
theorem dX4_bearing_130 : decode cX4_bearing 130 = .ok (.getfield 93, 3) := by decide +kernel
theorem dX4_bearing_133 : decode cX4_bearing 133 = .ok (.iload_n 1, 1) := by decide +kernel
theorem dX4_bearing_134 : decode cX4_bearing 134 = .ok (.faload, 1) := by decide +kernel
theorem dX4_bearing_135 : decode cX4_bearing 135 = .ok (.freturn, 1) := by decide +kernel
theorem dX4_leastOf_0 : decode cX4_leastOf 0 = .ok (.aload_n 0, 1) := by decide +kernel
theorem dX4_leastOf_1 : decode cX4_leastOf 1 = .ok (.iload_n 1, 1) := by decide +kernel
theorem dX4_leastOf_2 : decode cX4_leastOf 2 = .ok (.iconst 0, 1) := by decide +kernel
theorem dX4_leastOf_3 : decode cX4_leastOf 3 = .ok (.invokevirtual 163, 3) := by decide +kernel
theorem dX4_leastOf_6 : decode cX4_leastOf 6 = .ok (.fstore_n 2, 1) := by decide +kernel
theorem dX4_leastOf_7 : decode cX4_leastOf 7 = .ok (.aload_n 0, 1) := by decide +kernel
theorem dX4_leastOf_8 : decode cX4_leastOf 8 = .ok (.iconst 0, 1) := by decide +kernel
theorem dX4_leastOf_9 : decode cX4_leastOf 9 = .ok (.putfield 167, 3) := by decide +kernel
theorem dX4_leastOf_12 : decode cX4_leastOf 12 = .ok (.iconst 1, 1) := by decide +kernel
theorem dX4_leastOf_13 : decode cX4_leastOf 13 = .ok (.istore_n 3, 1) := by decide +kernel
theorem dX4_leastOf_14 : decode cX4_leastOf 14 = .ok (.iload_n 3, 1) := by decide +kernel
theorem dX4_leastOf_15 : decode cX4_leastOf 15 = .ok (.aload_n 0, 1) := by decide +kernel
theorem dX4_leastOf_16 : decode cX4_leastOf 16 = .ok (.getfield 13, 3) := by decide +kernel
theorem dX4_leastOf_19 : decode cX4_leastOf 19 = .ok (.iload_n 1, 1) := by decide +kernel
theorem dX4_leastOf_20 : decode cX4_leastOf 20 = .ok (.iaload, 1) := by decide +kernel
theorem dX4_leastOf_21 : decode cX4_leastOf 21 = .ok (.if_icmp .ge 32, 3) := by decide +kernel
theorem dX4_leastOf_24 : decode cX4_leastOf 24 = .ok (.aload_n 0, 1) := by decide +kernel
theorem dX4_leastOf_25 : decode cX4_leastOf 25 = .ok (.iload_n 1, 1) := by decide +kernel
theorem dX4_leastOf_26 : decode cX4_leastOf 26 = .ok (.iload_n 3, 1) := by decide +kernel
theorem dX4_leastOf_27 : decode cX4_leastOf 27 = .ok (.invokevirtual 163, 3) := by decide +kernel
theorem dX4_leastOf_30 : decode cX4_leastOf 30 = .ok (.fstore 4, 2) := by decide +kernel
theorem dX4_leastOf_32 : decode cX4_leastOf 32 = .ok (.fload 4, 2) := by decide +kernel
theorem dX4_leastOf_34 : decode cX4_leastOf 34 = .ok (.fload_n 2, 1) := by decide +kernel
theorem dX4_leastOf_35 : decode cX4_leastOf 35 = .ok (.fcmp .g, 1) := by decide +kernel
theorem dX4_leastOf_36 : decode cX4_leastOf 36 = .ok (.ifCond .ge 11, 3) := by decide +kernel
theorem dX4_leastOf_39 : decode cX4_leastOf 39 = .ok (.fload 4, 2) := by decide +kernel
theorem dX4_leastOf_41 : decode cX4_leastOf 41 = .ok (.fstore_n 2, 1) := by decide +kernel
theorem dX4_leastOf_42 : decode cX4_leastOf 42 = .ok (.aload_n 0, 1) := by decide +kernel
theorem dX4_leastOf_43 : decode cX4_leastOf 43 = .ok (.iload_n 3, 1) := by decide +kernel
theorem dX4_leastOf_44 : decode cX4_leastOf 44 = .ok (.putfield 167, 3) := by decide +kernel
theorem dX4_leastOf_47 : decode cX4_leastOf 47 = .ok (.iinc 3 1, 3) := by decide +kernel
theorem dX4_leastOf_50 : decode cX4_leastOf 50 = .ok (.goto (-36), 3) := by decide +kernel
theorem dX4_leastOf_53 : decode cX4_leastOf 53 = .ok (.fload_n 2, 1) := by decide +kernel
theorem dX4_leastOf_54 : decode cX4_leastOf 54 = .ok (.freturn, 1) := by decide +kernel
theorem dX4_bears_0 : decode cX4_bears 0 = .ok (.aload_n 0, 1) := by decide +kernel
theorem dX4_bears_1 : decode cX4_bears 1 = .ok (.iload_n 1, 1) := by decide +kernel
theorem dX4_bears_2 : decode cX4_bears 2 = .ok (.invokevirtual 149, 3) := by decide +kernel
theorem dX4_bears_5 : decode cX4_bears 5 = .ok (.ifCond .eq 17, 3) := by decide +kernel
theorem dX4_bears_8 : decode cX4_bears 8 = .ok (.iload_n 2, 1) := by decide +kernel
theorem dX4_bears_9 : decode cX4_bears 9 = .ok (.ifCond .lt 13, 3) := by decide +kernel
theorem dX4_bears_12 : decode cX4_bears 12 = .ok (.iload_n 2, 1) := by decide +kernel
theorem dX4_bears_13 : decode cX4_bears 13 = .ok (.aload_n 0, 1) := by decide +kernel
theorem dX4_bears_14 : decode cX4_bears 14 = .ok (.getfield 13, 3) := by decide +kernel
theorem dX4_bears_17 : decode cX4_bears 17 = .ok (.iload_n 1, 1) := by decide +kernel
theorem dX4_bears_18 : decode cX4_bears 18 = .ok (.iaload, 1) := by decide +kernel
theorem dX4_bears_19 : decode cX4_bears 19 = .ok (.if_icmp .lt 9, 3) := by decide +kernel
theorem dX4_bears_22 : decode cX4_bears 22 = .ok (.ldc2_w 170, 3) := by decide +kernel
theorem dX4_bears_25 : decode cX4_bears 25 = .ok (.goto 10, 3) := by decide +kernel
theorem dX4_bears_28 : decode cX4_bears 28 = .ok (.aload_n 0, 1) := by decide +kernel
theorem dX4_bears_29 : decode cX4_bears 29 = .ok (.iload_n 1, 1) := by decide +kernel
theorem dX4_bears_30 : decode cX4_bears 30 = .ok (.iload_n 2, 1) := by decide +kernel
theorem dX4_bears_31 : decode cX4_bears 31 = .ok (.invokevirtual 163, 3) := by decide +kernel
theorem dX4_bears_34 : decode cX4_bears 34 = .ok (.f2d, 1) := by decide +kernel
theorem dX4_bears_35 : decode cX4_bears 35 = .ok (.dreturn, 1) := by decide +kernel
theorem dX4_least_0 : decode cX4_least 0 = .ok (.aload_n 0, 1) := by decide +kernel
theorem dX4_least_1 : decode cX4_least 1 = .ok (.iload_n 1, 1) := by decide +kernel
theorem dX4_least_2 : decode cX4_least 2 = .ok (.invokevirtual 149, 3) := by decide +kernel
theorem dX4_least_5 : decode cX4_least 5 = .ok (.ifCond .eq 12, 3) := by decide +kernel
theorem dX4_least_8 : decode cX4_least 8 = .ok (.aload_n 0, 1) := by decide +kernel
theorem dX4_least_9 : decode cX4_least 9 = .ok (.iload_n 1, 1) := by decide +kernel
theorem dX4_least_10 : decode cX4_least 10 = .ok (.invokevirtual 172, 3) := by decide +kernel
theorem dX4_least_13 : decode cX4_least 13 = .ok (.f2d, 1) := by decide +kernel
theorem dX4_least_14 : decode cX4_least 14 = .ok (.goto 6, 3) := by decide +kernel
theorem dX4_least_17 : decode cX4_least 17 = .ok (.ldc2_w 170, 3) := by decide +kernel
theorem dX4_least_20 : decode cX4_least 20 = .ok (.dreturn, 1) := by decide +kernel
theorem dX4_where_0 : decode cX4_where 0 = .ok (.aload_n 0, 1) := by decide +kernel
theorem dX4_where_1 : decode cX4_where 1 = .ok (.iload_n 1, 1) := by decide +kernel
theorem dX4_where_2 : decode cX4_where 2 = .ok (.invokevirtual 149, 3) := by decide +kernel
theorem dX4_where_5 : decode cX4_where 5 = .ok (.ifCond .ne 6, 3) := by decide +kernel
theorem dX4_where_8 : decode cX4_where 8 = .ok (.bipush (-2), 2) := by decide +kernel
theorem dX4_where_10 : decode cX4_where 10 = .ok (.ireturn, 1) := by decide +kernel
theorem dX4_where_11 : decode cX4_where 11 = .ok (.aload_n 0, 1) := by decide +kernel
theorem dX4_where_12 : decode cX4_where 12 = .ok (.iload_n 1, 1) := by decide +kernel
theorem dX4_where_13 : decode cX4_where 13 = .ok (.invokevirtual 172, 3) := by decide +kernel
theorem dX4_where_16 : decode cX4_where 16 = .ok (.fstore_n 2, 1) := by decide +kernel
theorem dX4_where_17 : decode cX4_where 17 = .ok (.aload_n 0, 1) := by decide +kernel
theorem dX4_where_18 : decode cX4_where 18 = .ok (.getfield 167, 3) := by decide +kernel
theorem dX4_where_21 : decode cX4_where 21 = .ok (.ireturn, 1) := by decide +kernel
theorem dX4_grams_0 : decode cX4_grams 0 = .ok (.aload_n 0, 1) := by decide +kernel
theorem dX4_grams_1 : decode cX4_grams 1 = .ok (.iload_n 1, 1) := by decide +kernel
theorem dX4_grams_2 : decode cX4_grams 2 = .ok (.invokevirtual 149, 3) := by decide +kernel
theorem dX4_grams_5 : decode cX4_grams 5 = .ok (.ifCond .eq 15, 3) := by decide +kernel
theorem dX4_grams_8 : decode cX4_grams 8 = .ok (.aload_n 0, 1) := by decide +kernel
theorem dX4_grams_9 : decode cX4_grams 9 = .ok (.iload_n 1, 1) := by decide +kernel
theorem dX4_grams_10 : decode cX4_grams 10 = .ok (.invokevirtual 172, 3) := by decide +kernel
theorem dX4_grams_13 : decode cX4_grams 13 = .ok (.ldc 175, 2) := by decide +kernel
theorem dX4_grams_15 : decode cX4_grams 15 = .ok (.fmul, 1) := by decide +kernel
theorem dX4_grams_16 : decode cX4_grams 16 = .ok (.f2l, 1) := by decide +kernel
theorem dX4_grams_17 : decode cX4_grams 17 = .ok (.goto 6, 3) := by decide +kernel
theorem dX4_grams_20 : decode cX4_grams 20 = .ok (.ldc2_w 176, 3) := by decide +kernel
theorem dX4_grams_23 : decode cX4_grams 23 = .ok (.lreturn, 1) := by decide +kernel
theorem dX4_rest_0 : decode cX4_rest 0 = .ok (.aload_n 0, 1) := by decide +kernel
theorem dX4_rest_1 : decode cX4_rest 1 = .ok (.iload_n 1, 1) := by decide +kernel
theorem dX4_rest_2 : decode cX4_rest 2 = .ok (.invokevirtual 149, 3) := by decide +kernel
theorem dX4_rest_5 : decode cX4_rest 5 = .ok (.ifCond .eq 14, 3) := by decide +kernel
theorem dX4_rest_8 : decode cX4_rest 8 = .ok (.iload_n 2, 1) := by decide +kernel
theorem dX4_rest_9 : decode cX4_rest 9 = .ok (.iconst 1, 1) := by decide +kernel
theorem dX4_rest_10 : decode cX4_rest 10 = .ok (.if_icmp .lt 9, 3) := by decide +kernel
theorem dX4_rest_13 : decode cX4_rest 13 = .ok (.iload_n 2, 1) := by decide +kernel
theorem dX4_rest_14 : decode cX4_rest 14 = .ok (.ldc 113, 2) := by decide +kernel
theorem dX4_rest_16 : decode cX4_rest 16 = .ok (.if_icmp .le 9, 3) := by decide +kernel
theorem dX4_rest_19 : decode cX4_rest 19 = .ok (.ldc2_w 170, 3) := by decide +kernel
theorem dX4_rest_22 : decode cX4_rest 22 = .ok (.goto 15, 3) := by decide +kernel
theorem dX4_rest_25 : decode cX4_rest 25 = .ok (.aload_n 0, 1) := by decide +kernel
theorem dX4_rest_26 : decode cX4_rest 26 = .ok (.iload_n 1, 1) := by decide +kernel
theorem dX4_rest_27 : decode cX4_rest 27 = .ok (.invokevirtual 172, 3) := by decide +kernel
theorem dX4_rest_30 : decode cX4_rest 30 = .ok (.iload_n 2, 1) := by decide +kernel
theorem dX4_rest_31 : decode cX4_rest 31 = .ok (.i2f, 1) := by decide +kernel
theorem dX4_rest_32 : decode cX4_rest 32 = .ok (.ldc 118, 2) := by decide +kernel
theorem dX4_rest_34 : decode cX4_rest 34 = .ok (.fmul, 1) := by decide +kernel
theorem dX4_rest_35 : decode cX4_rest 35 = .ok (.frem, 1) := by decide +kernel
theorem dX4_rest_36 : decode cX4_rest 36 = .ok (.f2d, 1) := by decide +kernel
theorem dX4_rest_37 : decode cX4_rest 37 = .ok (.dreturn, 1) := by decide +kernel
theorem dX4_left_0 : decode cX4_left 0 = .ok (.aload_n 0, 1) := by decide +kernel
theorem dX4_left_1 : decode cX4_left 1 = .ok (.iload_n 1, 1) := by decide +kernel
theorem dX4_left_2 : decode cX4_left 2 = .ok (.invokevirtual 149, 3) := by decide +kernel
theorem dX4_left_5 : decode cX4_left 5 = .ok (.ifCond .eq 14, 3) := by decide +kernel
theorem dX4_left_8 : decode cX4_left 8 = .ok (.iload_n 2, 1) := by decide +kernel
theorem dX4_left_9 : decode cX4_left 9 = .ok (.iconst 1, 1) := by decide +kernel
theorem dX4_left_10 : decode cX4_left 10 = .ok (.if_icmp .lt 9, 3) := by decide +kernel
theorem dX4_left_13 : decode cX4_left 13 = .ok (.iload_n 2, 1) := by decide +kernel
theorem dX4_left_14 : decode cX4_left 14 = .ok (.ldc 178, 2) := by decide +kernel
theorem dX4_left_16 : decode cX4_left 16 = .ok (.if_icmp .le 9, 3) := by decide +kernel
theorem dX4_left_19 : decode cX4_left 19 = .ok (.ldc2_w 170, 3) := by decide +kernel
theorem dX4_left_22 : decode cX4_left 22 = .ok (.goto 16, 3) := by decide +kernel
theorem dX4_left_25 : decode cX4_left 25 = .ok (.aload_n 0, 1) := by decide +kernel
theorem dX4_left_26 : decode cX4_left 26 = .ok (.iload_n 1, 1) := by decide +kernel
theorem dX4_left_27 : decode cX4_left 27 = .ok (.invokevirtual 172, 3) := by decide +kernel
theorem dX4_left_30 : decode cX4_left 30 = .ok (.f2d, 1) := by decide +kernel
theorem dX4_left_31 : decode cX4_left 31 = .ok (.iload_n 2, 1) := by decide +kernel
theorem dX4_left_32 : decode cX4_left 32 = .ok (.i2d, 1) := by decide +kernel
theorem dX4_left_33 : decode cX4_left 33 = .ok (.ldc2_w 179, 3) := by decide +kernel
theorem dX4_left_36 : decode cX4_left 36 = .ok (.dmul, 1) := by decide +kernel
theorem dX4_left_37 : decode cX4_left 37 = .ok (.drem, 1) := by decide +kernel
theorem dX4_left_38 : decode cX4_left 38 = .ok (.dreturn, 1) := by decide +kernel
theorem dX4_floor_0 : decode cX4_floor 0 = .ok (.dload_n 0, 1) := by decide +kernel
theorem dX4_floor_1 : decode cX4_floor 1 = .ok (.d2l, 1) := by decide +kernel
theorem dX4_floor_2 : decode cX4_floor 2 = .ok (.lstore_n 2, 1) := by decide +kernel
theorem dX4_floor_3 : decode cX4_floor 3 = .ok (.lload_n 2, 1) := by decide +kernel
theorem dX4_floor_4 : decode cX4_floor 4 = .ok (.l2d, 1) := by decide +kernel
theorem dX4_floor_5 : decode cX4_floor 5 = .ok (.dload_n 0, 1) := by decide +kernel
theorem dX4_floor_6 : decode cX4_floor 6 = .ok (.dcmp .l, 1) := by decide +kernel
theorem dX4_floor_7 : decode cX4_floor 7 = .ok (.ifCond .le 9, 3) := by decide +kernel
theorem dX4_floor_10 : decode cX4_floor 10 = .ok (.lload_n 2, 1) := by decide +kernel
theorem dX4_floor_11 : decode cX4_floor 11 = .ok (.lconst 1, 1) := by decide +kernel
theorem dX4_floor_12 : decode cX4_floor 12 = .ok (.lsub, 1) := by decide +kernel
theorem dX4_floor_13 : decode cX4_floor 13 = .ok (.goto 4, 3) := by decide +kernel
theorem dX4_floor_16 : decode cX4_floor 16 = .ok (.lload_n 2, 1) := by decide +kernel
theorem dX4_floor_17 : decode cX4_floor 17 = .ok (.lreturn, 1) := by decide +kernel
theorem dX4_nearest_0 : decode cX4_nearest 0 = .ok (.dload_n 0, 1) := by decide +kernel
theorem dX4_nearest_1 : decode cX4_nearest 1 = .ok (.invokestatic 181, 3) := by decide +kernel
theorem dX4_nearest_4 : decode cX4_nearest 4 = .ok (.lstore_n 2, 1) := by decide +kernel
theorem dX4_nearest_5 : decode cX4_nearest 5 = .ok (.dload_n 0, 1) := by decide +kernel
theorem dX4_nearest_6 : decode cX4_nearest 6 = .ok (.lload_n 2, 1) := by decide +kernel
theorem dX4_nearest_7 : decode cX4_nearest 7 = .ok (.l2d, 1) := by decide +kernel
theorem dX4_nearest_8 : decode cX4_nearest 8 = .ok (.dsub, 1) := by decide +kernel
theorem dX4_nearest_9 : decode cX4_nearest 9 = .ok (.dstore 4, 2) := by decide +kernel
theorem dX4_nearest_11 : decode cX4_nearest 11 = .ok (.dload 4, 2) := by decide +kernel
theorem dX4_nearest_13 : decode cX4_nearest 13 = .ok (.ldc2_w 185, 3) := by decide +kernel
theorem dX4_nearest_16 : decode cX4_nearest 16 = .ok (.dcmp .l, 1) := by decide +kernel
theorem dX4_nearest_17 : decode cX4_nearest 17 = .ok (.ifCond .gt 20, 3) := by decide +kernel
theorem dX4_nearest_20 : decode cX4_nearest 20 = .ok (.dload 4, 2) := by decide +kernel
theorem dX4_nearest_22 : decode cX4_nearest 22 = .ok (.ldc2_w 185, 3) := by decide +kernel
theorem dX4_nearest_25 : decode cX4_nearest 25 = .ok (.dcmp .l, 1) := by decide +kernel
theorem dX4_nearest_26 : decode cX4_nearest 26 = .ok (.ifCond .ne 17, 3) := by decide +kernel
theorem dX4_nearest_29 : decode cX4_nearest 29 = .ok (.lload_n 2, 1) := by decide +kernel
theorem dX4_nearest_30 : decode cX4_nearest 30 = .ok (.lconst 1, 1) := by decide +kernel
theorem dX4_nearest_31 : decode cX4_nearest 31 = .ok (.land, 1) := by decide +kernel
theorem dX4_nearest_32 : decode cX4_nearest 32 = .ok (.lconst 1, 1) := by decide +kernel
theorem dX4_nearest_33 : decode cX4_nearest 33 = .ok (.lcmp, 1) := by decide +kernel
theorem dX4_nearest_34 : decode cX4_nearest 34 = .ok (.ifCond .ne 9, 3) := by decide +kernel
theorem dX4_nearest_37 : decode cX4_nearest 37 = .ok (.lload_n 2, 1) := by decide +kernel
theorem dX4_nearest_38 : decode cX4_nearest 38 = .ok (.lconst 1, 1) := by decide +kernel
theorem dX4_nearest_39 : decode cX4_nearest 39 = .ok (.ladd, 1) := by decide +kernel
theorem dX4_nearest_40 : decode cX4_nearest 40 = .ok (.goto 4, 3) := by decide +kernel
theorem dX4_nearest_43 : decode cX4_nearest 43 = .ok (.lload_n 2, 1) := by decide +kernel
theorem dX4_nearest_44 : decode cX4_nearest 44 = .ok (.lreturn, 1) := by decide +kernel
theorem dX4_turned_0 : decode cX4_turned 0 = .ok (.aload_n 0, 1) := by decide +kernel
theorem dX4_turned_1 : decode cX4_turned 1 = .ok (.iload_n 1, 1) := by decide +kernel
theorem dX4_turned_2 : decode cX4_turned 2 = .ok (.invokevirtual 149, 3) := by decide +kernel
theorem dX4_turned_5 : decode cX4_turned 5 = .ok (.ifCond .eq 23, 3) := by decide +kernel
theorem dX4_turned_8 : decode cX4_turned 8 = .ok (.iload_n 2, 1) := by decide +kernel
theorem dX4_turned_9 : decode cX4_turned 9 = .ok (.ifCond .lt 19, 3) := by decide +kernel
theorem dX4_turned_12 : decode cX4_turned 12 = .ok (.iload_n 2, 1) := by decide +kernel
theorem dX4_turned_13 : decode cX4_turned 13 = .ok (.ldc 113, 2) := by decide +kernel
theorem dX4_turned_15 : decode cX4_turned 15 = .ok (.if_icmp .gt 13, 3) := by decide +kernel
theorem dX4_turned_18 : decode cX4_turned 18 = .ok (.iload_n 3, 1) := by decide +kernel
theorem dX4_turned_19 : decode cX4_turned 19 = .ok (.ifCond .lt 9, 3) := by decide +kernel
theorem dX4_turned_22 : decode cX4_turned 22 = .ok (.iload_n 3, 1) := by decide +kernel
theorem dX4_turned_23 : decode cX4_turned 23 = .ok (.bipush 12, 2) := by decide +kernel
theorem dX4_turned_25 : decode cX4_turned 25 = .ok (.if_icmp .le 7, 3) := by decide +kernel
theorem dX4_turned_28 : decode cX4_turned 28 = .ok (.ldc2_w 187, 3) := by decide +kernel
theorem dX4_turned_31 : decode cX4_turned 31 = .ok (.lreturn, 1) := by decide +kernel
theorem dX4_turned_32 : decode cX4_turned 32 = .ok (.aload_n 0, 1) := by decide +kernel
theorem dX4_turned_33 : decode cX4_turned 33 = .ok (.iload_n 1, 1) := by decide +kernel
theorem dX4_turned_34 : decode cX4_turned 34 = .ok (.invokevirtual 172, 3) := by decide +kernel
theorem dX4_turned_37 : decode cX4_turned 37 = .ok (.fstore 4, 2) := by decide +kernel
theorem dX4_turned_39 : decode cX4_turned 39 = .ok (.fload 4, 2) := by decide +kernel
theorem dX4_turned_41 : decode cX4_turned 41 = .ok (.f2d, 1) := by decide +kernel
theorem dX4_turned_42 : decode cX4_turned 42 = .ok (.iload_n 2, 1) := by decide +kernel
theorem dX4_turned_43 : decode cX4_turned 43 = .ok (.i2d, 1) := by decide +kernel
theorem dX4_turned_44 : decode cX4_turned 44 = .ok (.ldc2_w 189, 3) := by decide +kernel
theorem dX4_turned_47 : decode cX4_turned 47 = .ok (.dmul, 1) := by decide +kernel
theorem dX4_turned_48 : decode cX4_turned 48 = .ok (.dsub, 1) := by decide +kernel
theorem dX4_turned_49 : decode cX4_turned 49 = .ok (.dstore 5, 2) := by decide +kernel
theorem dX4_turned_51 : decode cX4_turned 51 = .ok (.fload 4, 2) := by decide +kernel
theorem dX4_turned_53 : decode cX4_turned 53 = .ok (.iload_n 2, 1) := by decide +kernel
theorem dX4_turned_54 : decode cX4_turned 54 = .ok (.i2f, 1) := by decide +kernel
theorem dX4_turned_55 : decode cX4_turned 55 = .ok (.ldc 118, 2) := by decide +kernel
theorem dX4_turned_57 : decode cX4_turned 57 = .ok (.fmul, 1) := by decide +kernel
theorem dX4_turned_58 : decode cX4_turned 58 = .ok (.fsub, 1) := by decide +kernel
theorem dX4_turned_59 : decode cX4_turned 59 = .ok (.fstore 7, 2) := by decide +kernel
theorem dX4_turned_61 : decode cX4_turned 61 = .ok (.iload_n 3, 1) := by decide +kernel
theorem dX4_turned_62 : decode cX4_turned 62 = .ok (.tableswitch 298 0 11 #[62, 68, 96, 102, 128, 149, 172, 195, 212, 238, 258, 278], 62) := by decide +kernel
theorem dX4_turned_124 : decode cX4_turned 124 = .ok (.dload 5, 2) := by decide +kernel
theorem dX4_turned_126 : decode cX4_turned 126 = .ok (.invokestatic 181, 3) := by decide +kernel
theorem dX4_turned_129 : decode cX4_turned 129 = .ok (.lreturn, 1) := by decide +kernel
theorem dX4_turned_130 : decode cX4_turned 130 = .ok (.dload 5, 2) := by decide +kernel
theorem dX4_turned_132 : decode cX4_turned 132 = .ok (.invokestatic 181, 3) := by decide +kernel
theorem dX4_turned_135 : decode cX4_turned 135 = .ok (.l2d, 1) := by decide +kernel
theorem dX4_turned_136 : decode cX4_turned 136 = .ok (.dload 5, 2) := by decide +kernel
theorem dX4_turned_138 : decode cX4_turned 138 = .ok (.dcmp .g, 1) := by decide +kernel
theorem dX4_turned_139 : decode cX4_turned 139 = .ok (.ifCond .ge 13, 3) := by decide +kernel
theorem dX4_turned_142 : decode cX4_turned 142 = .ok (.dload 5, 2) := by decide +kernel
theorem dX4_turned_144 : decode cX4_turned 144 = .ok (.invokestatic 181, 3) := by decide +kernel
theorem dX4_turned_147 : decode cX4_turned 147 = .ok (.lconst 1, 1) := by decide +kernel
theorem dX4_turned_148 : decode cX4_turned 148 = .ok (.ladd, 1) := by decide +kernel
theorem dX4_turned_149 : decode cX4_turned 149 = .ok (.goto 8, 3) := by decide +kernel
theorem dX4_turned_152 : decode cX4_turned 152 = .ok (.dload 5, 2) := by decide +kernel
theorem dX4_turned_154 : decode cX4_turned 154 = .ok (.invokestatic 181, 3) := by decide +kernel
theorem dX4_turned_157 : decode cX4_turned 157 = .ok (.lreturn, 1) := by decide +kernel
theorem dX4_turned_158 : decode cX4_turned 158 = .ok (.dload 5, 2) := by decide +kernel
theorem dX4_turned_160 : decode cX4_turned 160 = .ok (.invokestatic 191, 3) := by decide +kernel
theorem dX4_turned_163 : decode cX4_turned 163 = .ok (.lreturn, 1) := by decide +kernel
theorem dX4_turned_164 : decode cX4_turned 164 = .ok (.dload 5, 2) := by decide +kernel
theorem dX4_turned_166 : decode cX4_turned 166 = .ok (.dconst 0, 1) := by decide +kernel
theorem dX4_turned_167 : decode cX4_turned 167 = .ok (.dcmp .g, 1) := by decide +kernel
theorem dX4_turned_168 : decode cX4_turned 168 = .ok (.ifCond .ge 9, 3) := by decide +kernel
theorem dX4_turned_171 : decode cX4_turned 171 = .ok (.ldc2_w 194, 3) := by decide +kernel
theorem dX4_turned_174 : decode cX4_turned 174 = .ok (.goto 15, 3) := by decide +kernel
theorem dX4_turned_177 : decode cX4_turned 177 = .ok (.dload 5, 2) := by decide +kernel
theorem dX4_turned_179 : decode cX4_turned 179 = .ok (.dconst 0, 1) := by decide +kernel
theorem dX4_turned_180 : decode cX4_turned 180 = .ok (.dcmp .l, 1) := by decide +kernel
theorem dX4_turned_181 : decode cX4_turned 181 = .ok (.ifCond .le 7, 3) := by decide +kernel
theorem dX4_turned_184 : decode cX4_turned 184 = .ok (.lconst 1, 1) := by decide +kernel
theorem dX4_turned_185 : decode cX4_turned 185 = .ok (.goto 4, 3) := by decide +kernel
theorem dX4_turned_188 : decode cX4_turned 188 = .ok (.lconst 0, 1) := by decide +kernel
theorem dX4_turned_189 : decode cX4_turned 189 = .ok (.lreturn, 1) := by decide +kernel
theorem dX4_turned_190 : decode cX4_turned 190 = .ok (.ldc2_w 196, 3) := by decide +kernel
theorem dX4_turned_193 : decode cX4_turned 193 = .ok (.dload 5, 2) := by decide +kernel
theorem dX4_turned_195 : decode cX4_turned 195 = .ok (.dconst 0, 1) := by decide +kernel
theorem dX4_turned_196 : decode cX4_turned 196 = .ok (.dcmp .g, 1) := by decide +kernel
theorem dX4_turned_197 : decode cX4_turned 197 = .ok (.ifCond .ge 9, 3) := by decide +kernel
theorem dX4_turned_200 : decode cX4_turned 200 = .ok (.dload 5, 2) := by decide +kernel
theorem dX4_turned_202 : decode cX4_turned 202 = .ok (.dneg, 1) := by decide +kernel
theorem dX4_turned_203 : decode cX4_turned 203 = .ok (.goto 5, 3) := by decide +kernel
theorem dX4_turned_206 : decode cX4_turned 206 = .ok (.dload 5, 2) := by decide +kernel
theorem dX4_turned_208 : decode cX4_turned 208 = .ok (.dmul, 1) := by decide +kernel
theorem dX4_turned_209 : decode cX4_turned 209 = .ok (.d2l, 1) := by decide +kernel
theorem dX4_turned_210 : decode cX4_turned 210 = .ok (.lreturn, 1) := by decide +kernel
theorem dX4_turned_211 : decode cX4_turned 211 = .ok (.ldc2_w 196, 3) := by decide +kernel
theorem dX4_turned_214 : decode cX4_turned 214 = .ok (.dload 5, 2) := by decide +kernel
theorem dX4_turned_216 : decode cX4_turned 216 = .ok (.ldc2_w 198, 3) := by decide +kernel
theorem dX4_turned_219 : decode cX4_turned 219 = .ok (.dcmp .l, 1) := by decide +kernel
theorem dX4_turned_220 : decode cX4_turned 220 = .ok (.ifCond .le 8, 3) := by decide +kernel
theorem dX4_turned_223 : decode cX4_turned 223 = .ok (.dload 5, 2) := by decide +kernel
theorem dX4_turned_225 : decode cX4_turned 225 = .ok (.goto 6, 3) := by decide +kernel
theorem dX4_turned_228 : decode cX4_turned 228 = .ok (.ldc2_w 198, 3) := by decide +kernel
theorem dX4_turned_231 : decode cX4_turned 231 = .ok (.dmul, 1) := by decide +kernel
theorem dX4_turned_232 : decode cX4_turned 232 = .ok (.d2l, 1) := by decide +kernel
theorem dX4_turned_233 : decode cX4_turned 233 = .ok (.lreturn, 1) := by decide +kernel
theorem dX4_turned_234 : decode cX4_turned 234 = .ok (.ldc2_w 196, 3) := by decide +kernel
theorem dX4_turned_237 : decode cX4_turned 237 = .ok (.dload 5, 2) := by decide +kernel
theorem dX4_turned_239 : decode cX4_turned 239 = .ok (.ldc2_w 198, 3) := by decide +kernel
theorem dX4_turned_242 : decode cX4_turned 242 = .ok (.dcmp .g, 1) := by decide +kernel
theorem dX4_turned_243 : decode cX4_turned 243 = .ok (.ifCond .ge 8, 3) := by decide +kernel
theorem dX4_turned_246 : decode cX4_turned 246 = .ok (.dload 5, 2) := by decide +kernel
theorem dX4_turned_248 : decode cX4_turned 248 = .ok (.goto 6, 3) := by decide +kernel
theorem dX4_turned_251 : decode cX4_turned 251 = .ok (.ldc2_w 198, 3) := by decide +kernel
theorem dX4_turned_254 : decode cX4_turned 254 = .ok (.dmul, 1) := by decide +kernel
theorem dX4_turned_255 : decode cX4_turned 255 = .ok (.d2l, 1) := by decide +kernel
theorem dX4_turned_256 : decode cX4_turned 256 = .ok (.lreturn, 1) := by decide +kernel
theorem dX4_turned_257 : decode cX4_turned 257 = .ok (.dload 5, 2) := by decide +kernel
theorem dX4_turned_259 : decode cX4_turned 259 = .ok (.dconst 0, 1) := by decide +kernel
theorem dX4_turned_260 : decode cX4_turned 260 = .ok (.dcmp .g, 1) := by decide +kernel
theorem dX4_turned_261 : decode cX4_turned 261 = .ok (.ifCond .ge 9, 3) := by decide +kernel
theorem dX4_turned_264 : decode cX4_turned 264 = .ok (.ldc2_w 176, 3) := by decide +kernel
theorem dX4_turned_267 : decode cX4_turned 267 = .ok (.goto 6, 3) := by decide +kernel
theorem dX4_turned_270 : decode cX4_turned 270 = .ok (.ldc2_w 200, 3) := by decide +kernel
theorem dX4_turned_273 : decode cX4_turned 273 = .ok (.lreturn, 1) := by decide +kernel
theorem dX4_turned_274 : decode cX4_turned 274 = .ok (.fload 7, 2) := by decide +kernel
theorem dX4_turned_276 : decode cX4_turned 276 = .ok (.fconst 0, 1) := by decide +kernel
theorem dX4_turned_277 : decode cX4_turned 277 = .ok (.fcmp .g, 1) := by decide +kernel
theorem dX4_turned_278 : decode cX4_turned 278 = .ok (.ifCond .ge 9, 3) := by decide +kernel
theorem dX4_turned_281 : decode cX4_turned 281 = .ok (.ldc2_w 194, 3) := by decide +kernel
theorem dX4_turned_284 : decode cX4_turned 284 = .ok (.goto 15, 3) := by decide +kernel
theorem dX4_turned_287 : decode cX4_turned 287 = .ok (.fload 7, 2) := by decide +kernel
theorem dX4_turned_289 : decode cX4_turned 289 = .ok (.fconst 0, 1) := by decide +kernel
theorem dX4_turned_290 : decode cX4_turned 290 = .ok (.fcmp .l, 1) := by decide +kernel
theorem dX4_turned_291 : decode cX4_turned 291 = .ok (.ifCond .le 7, 3) := by decide +kernel
theorem dX4_turned_294 : decode cX4_turned 294 = .ok (.lconst 1, 1) := by decide +kernel
theorem dX4_turned_295 : decode cX4_turned 295 = .ok (.goto 4, 3) := by decide +kernel
theorem dX4_turned_298 : decode cX4_turned 298 = .ok (.lconst 0, 1) := by decide +kernel
theorem dX4_turned_299 : decode cX4_turned 299 = .ok (.lreturn, 1) := by decide +kernel
theorem dX4_turned_300 : decode cX4_turned 300 = .ok (.ldc 202, 2) := by decide +kernel
theorem dX4_turned_302 : decode cX4_turned 302 = .ok (.fload 7, 2) := by decide +kernel
theorem dX4_turned_304 : decode cX4_turned 304 = .ok (.fconst 0, 1) := by decide +kernel
theorem dX4_turned_305 : decode cX4_turned 305 = .ok (.fcmp .g, 1) := by decide +kernel
theorem dX4_turned_306 : decode cX4_turned 306 = .ok (.ifCond .ge 9, 3) := by decide +kernel
theorem dX4_turned_309 : decode cX4_turned 309 = .ok (.fload 7, 2) := by decide +kernel
theorem dX4_turned_311 : decode cX4_turned 311 = .ok (.fneg, 1) := by decide +kernel
theorem dX4_turned_312 : decode cX4_turned 312 = .ok (.goto 5, 3) := by decide +kernel
theorem dX4_turned_315 : decode cX4_turned 315 = .ok (.fload 7, 2) := by decide +kernel
theorem dX4_turned_317 : decode cX4_turned 317 = .ok (.fmul, 1) := by decide +kernel
theorem dX4_turned_318 : decode cX4_turned 318 = .ok (.f2l, 1) := by decide +kernel
theorem dX4_turned_319 : decode cX4_turned 319 = .ok (.lreturn, 1) := by decide +kernel
theorem dX4_turned_320 : decode cX4_turned 320 = .ok (.ldc 202, 2) := by decide +kernel
theorem dX4_turned_322 : decode cX4_turned 322 = .ok (.fload 7, 2) := by decide +kernel
theorem dX4_turned_324 : decode cX4_turned 324 = .ok (.ldc 203, 2) := by decide +kernel
theorem dX4_turned_326 : decode cX4_turned 326 = .ok (.fcmp .l, 1) := by decide +kernel
theorem dX4_turned_327 : decode cX4_turned 327 = .ok (.ifCond .le 8, 3) := by decide +kernel
theorem dX4_turned_330 : decode cX4_turned 330 = .ok (.fload 7, 2) := by decide +kernel
theorem dX4_turned_332 : decode cX4_turned 332 = .ok (.goto 5, 3) := by decide +kernel
theorem dX4_turned_335 : decode cX4_turned 335 = .ok (.ldc 203, 2) := by decide +kernel
theorem dX4_turned_337 : decode cX4_turned 337 = .ok (.fmul, 1) := by decide +kernel
theorem dX4_turned_338 : decode cX4_turned 338 = .ok (.f2l, 1) := by decide +kernel
theorem dX4_turned_339 : decode cX4_turned 339 = .ok (.lreturn, 1) := by decide +kernel
theorem dX4_turned_340 : decode cX4_turned 340 = .ok (.ldc 202, 2) := by decide +kernel
theorem dX4_turned_342 : decode cX4_turned 342 = .ok (.fload 7, 2) := by decide +kernel
theorem dX4_turned_344 : decode cX4_turned 344 = .ok (.ldc 203, 2) := by decide +kernel
theorem dX4_turned_346 : decode cX4_turned 346 = .ok (.fcmp .g, 1) := by decide +kernel
theorem dX4_turned_347 : decode cX4_turned 347 = .ok (.ifCond .ge 8, 3) := by decide +kernel
theorem dX4_turned_350 : decode cX4_turned 350 = .ok (.fload 7, 2) := by decide +kernel
theorem dX4_turned_352 : decode cX4_turned 352 = .ok (.goto 5, 3) := by decide +kernel
theorem dX4_turned_355 : decode cX4_turned 355 = .ok (.ldc 203, 2) := by decide +kernel
theorem dX4_turned_357 : decode cX4_turned 357 = .ok (.fmul, 1) := by decide +kernel
theorem dX4_turned_358 : decode cX4_turned 358 = .ok (.f2l, 1) := by decide +kernel
theorem dX4_turned_359 : decode cX4_turned 359 = .ok (.lreturn, 1) := by decide +kernel
theorem dX4_turned_360 : decode cX4_turned 360 = .ok (.fload 7, 2) := by decide +kernel
theorem dX4_turned_362 : decode cX4_turned 362 = .ok (.fconst 0, 1) := by decide +kernel
theorem dX4_turned_363 : decode cX4_turned 363 = .ok (.fcmp .g, 1) := by decide +kernel
theorem dX4_turned_364 : decode cX4_turned 364 = .ok (.ifCond .ge 9, 3) := by decide +kernel
theorem dX4_turned_367 : decode cX4_turned 367 = .ok (.ldc2_w 176, 3) := by decide +kernel
theorem dX4_turned_370 : decode cX4_turned 370 = .ok (.goto 6, 3) := by decide +kernel
theorem dX4_turned_373 : decode cX4_turned 373 = .ok (.ldc2_w 200, 3) := by decide +kernel
theorem dX4_turned_376 : decode cX4_turned 376 = .ok (.lreturn, 1) := by decide +kernel
theorem dX4_isReel_0 : decode cX4_isReel 0 = .ok (.iload_n 1, 1) := by decide +kernel
theorem dX4_isReel_1 : decode cX4_isReel 1 = .ok (.ifCond .lt 13, 3) := by decide +kernel
theorem dX4_isReel_4 : decode cX4_isReel 4 = .ok (.iload_n 1, 1) := by decide +kernel
theorem dX4_isReel_5 : decode cX4_isReel 5 = .ok (.bipush 6, 2) := by decide +kernel
theorem dX4_isReel_7 : decode cX4_isReel 7 = .ok (.if_icmp .ge 7, 3) := by decide +kernel
theorem dX4_isReel_10 : decode cX4_isReel 10 = .ok (.iconst 1, 1) := by decide +kernel
theorem dX4_isReel_11 : decode cX4_isReel 11 = .ok (.goto 4, 3) := by decide +kernel
theorem dX4_isReel_14 : decode cX4_isReel 14 = .ok (.iconst 0, 1) := by decide +kernel
theorem dX4_isReel_15 : decode cX4_isReel 15 = .ok (.ireturn, 1) := by decide +kernel
theorem dX4_isCutFrom_0 : decode cX4_isCutFrom 0 = .ok (.iconst 0, 1) := by decide +kernel
theorem dX4_isCutFrom_1 : decode cX4_isCutFrom 1 = .ok (.istore_n 2, 1) := by decide +kernel
theorem dX4_isCutFrom_2 : decode cX4_isCutFrom 2 = .ok (.iconst 0, 1) := by decide +kernel
theorem dX4_isCutFrom_3 : decode cX4_isCutFrom 3 = .ok (.istore_n 3, 1) := by decide +kernel
theorem dX4_isCutFrom_4 : decode cX4_isCutFrom 4 = .ok (.iload_n 3, 1) := by decide +kernel
theorem dX4_isCutFrom_5 : decode cX4_isCutFrom 5 = .ok (.aload_n 0, 1) := by decide +kernel
theorem dX4_isCutFrom_6 : decode cX4_isCutFrom 6 = .ok (.getfield 143, 3) := by decide +kernel
theorem dX4_isCutFrom_9 : decode cX4_isCutFrom 9 = .ok (.if_icmp .ge 27, 3) := by decide +kernel
theorem dX4_isCutFrom_12 : decode cX4_isCutFrom 12 = .ok (.iload_n 2, 1) := by decide +kernel
theorem dX4_isCutFrom_13 : decode cX4_isCutFrom 13 = .ok (.aload_n 0, 1) := by decide +kernel
theorem dX4_isCutFrom_14 : decode cX4_isCutFrom 14 = .ok (.getfield 66, 3) := by decide +kernel
theorem dX4_isCutFrom_17 : decode cX4_isCutFrom 17 = .ok (.iload_n 3, 1) := by decide +kernel
theorem dX4_isCutFrom_18 : decode cX4_isCutFrom 18 = .ok (.iaload, 1) := by decide +kernel
theorem dX4_isCutFrom_19 : decode cX4_isCutFrom 19 = .ok (.iload_n 1, 1) := by decide +kernel
theorem dX4_isCutFrom_20 : decode cX4_isCutFrom 20 = .ok (.if_icmp .ne 7, 3) := by decide +kernel
theorem dX4_isCutFrom_23 : decode cX4_isCutFrom 23 = .ok (.iconst 1, 1) := by decide +kernel
theorem dX4_isCutFrom_24 : decode cX4_isCutFrom 24 = .ok (.goto 4, 3) := by decide +kernel
theorem dX4_isCutFrom_27 : decode cX4_isCutFrom 27 = .ok (.iconst 0, 1) := by decide +kernel
theorem dX4_isCutFrom_28 : decode cX4_isCutFrom 28 = .ok (.ior, 1) := by decide +kernel
theorem dX4_isCutFrom_29 : decode cX4_isCutFrom 29 = .ok (.istore_n 2, 1) := by decide +kernel
theorem dX4_isCutFrom_30 : decode cX4_isCutFrom 30 = .ok (.iinc 3 1, 3) := by decide +kernel
theorem dX4_isCutFrom_33 : decode cX4_isCutFrom 33 = .ok (.goto (-29), 3) := by decide +kernel
theorem dX4_isCutFrom_36 : decode cX4_isCutFrom 36 = .ok (.iload_n 2, 1) := by decide +kernel
theorem dX4_isCutFrom_37 : decode cX4_isCutFrom 37 = .ok (.ireturn, 1) := by decide +kernel
theorem dX4_hang_0 : decode cX4_hang 0 = .ok (.aload_n 0, 1) := by decide +kernel
theorem dX4_hang_1 : decode cX4_hang 1 = .ok (.iload_n 2, 1) := by decide +kernel
theorem dX4_hang_2 : decode cX4_hang 2 = .ok (.invokevirtual 122, 3) := by decide +kernel
theorem dX4_hang_5 : decode cX4_hang 5 = .ok (.ifCond .ne 6, 3) := by decide +kernel
theorem dX4_hang_8 : decode cX4_hang 8 = .ok (.bipush (-2), 2) := by decide +kernel
theorem dX4_hang_10 : decode cX4_hang 10 = .ok (.ireturn, 1) := by decide +kernel
theorem dX4_hang_11 : decode cX4_hang 11 = .ok (.aload_n 0, 1) := by decide +kernel
theorem dX4_hang_12 : decode cX4_hang 12 = .ok (.iload_n 1, 1) := by decide +kernel
theorem dX4_hang_13 : decode cX4_hang 13 = .ok (.invokevirtual 204, 3) := by decide +kernel
theorem dX4_hang_16 : decode cX4_hang 16 = .ok (.ifCond .ne 6, 3) := by decide +kernel
theorem dX4_hang_19 : decode cX4_hang 19 = .ok (.bipush (-11), 2) := by decide +kernel
theorem dX4_hang_21 : decode cX4_hang 21 = .ok (.ireturn, 1) := by decide +kernel
theorem dX4_hang_22 : decode cX4_hang 22 = .ok (.aload_n 0, 1) := by decide +kernel
theorem dX4_hang_23 : decode cX4_hang 23 = .ok (.getfield 57, 3) := by decide +kernel
theorem dX4_hang_26 : decode cX4_hang 26 = .ok (.iload_n 1, 1) := by decide +kernel
theorem dX4_hang_27 : decode cX4_hang 27 = .ok (.iaload, 1) := by decide +kernel
theorem dX4_hang_28 : decode cX4_hang 28 = .ok (.ifCond .lt 6, 3) := by decide +kernel
theorem dX4_hang_31 : decode cX4_hang 31 = .ok (.bipush (-2), 2) := by decide +kernel
theorem dX4_hang_33 : decode cX4_hang 33 = .ok (.ireturn, 1) := by decide +kernel
theorem dX4_hang_34 : decode cX4_hang 34 = .ok (.aload_n 0, 1) := by decide +kernel
theorem dX4_hang_35 : decode cX4_hang 35 = .ok (.getfield 57, 3) := by decide +kernel
theorem dX4_hang_38 : decode cX4_hang 38 = .ok (.iload_n 1, 1) := by decide +kernel
theorem dX4_hang_39 : decode cX4_hang 39 = .ok (.iload_n 2, 1) := by decide +kernel
theorem dX4_hang_40 : decode cX4_hang 40 = .ok (.iastore, 1) := by decide +kernel
theorem dX4_hang_41 : decode cX4_hang 41 = .ok (.aload_n 0, 1) := by decide +kernel
theorem dX4_hang_42 : decode cX4_hang 42 = .ok (.getfield 19, 3) := by decide +kernel
theorem dX4_hang_45 : decode cX4_hang 45 = .ok (.iload_n 2, 1) := by decide +kernel
theorem dX4_hang_46 : decode cX4_hang 46 = .ok (.iconst 2, 1) := by decide +kernel
theorem dX4_hang_47 : decode cX4_hang 47 = .ok (.iastore, 1) := by decide +kernel
theorem dX4_hang_48 : decode cX4_hang 48 = .ok (.aload_n 0, 1) := by decide +kernel
theorem dX4_hang_49 : decode cX4_hang 49 = .ok (.getfield 13, 3) := by decide +kernel
theorem dX4_hang_52 : decode cX4_hang 52 = .ok (.iload_n 2, 1) := by decide +kernel
theorem dX4_hang_53 : decode cX4_hang 53 = .ok (.iaload, 1) := by decide +kernel
theorem dX4_hang_54 : decode cX4_hang 54 = .ok (.ireturn, 1) := by decide +kernel
theorem dX4_off_0 : decode cX4_off 0 = .ok (.aload_n 0, 1) := by decide +kernel
theorem dX4_off_1 : decode cX4_off 1 = .ok (.iload_n 1, 1) := by decide +kernel
theorem dX4_off_2 : decode cX4_off 2 = .ok (.invokevirtual 204, 3) := by decide +kernel
theorem dX4_off_5 : decode cX4_off 5 = .ok (.ifCond .ne 6, 3) := by decide +kernel
theorem dX4_off_8 : decode cX4_off 8 = .ok (.bipush (-11), 2) := by decide +kernel
theorem dX4_off_10 : decode cX4_off 10 = .ok (.ireturn, 1) := by decide +kernel
theorem dX4_off_11 : decode cX4_off 11 = .ok (.aload_n 0, 1) := by decide +kernel
theorem dX4_off_12 : decode cX4_off 12 = .ok (.getfield 57, 3) := by decide +kernel
theorem dX4_off_15 : decode cX4_off 15 = .ok (.iload_n 1, 1) := by decide +kernel
theorem dX4_off_16 : decode cX4_off 16 = .ok (.iaload, 1) := by decide +kernel
theorem dX4_off_17 : decode cX4_off 17 = .ok (.ifCond .ge 6, 3) := by decide +kernel
theorem dX4_off_20 : decode cX4_off 20 = .ok (.bipush (-10), 2) := by decide +kernel
theorem dX4_off_22 : decode cX4_off 22 = .ok (.ireturn, 1) := by decide +kernel
theorem dX4_off_23 : decode cX4_off 23 = .ok (.aload_n 0, 1) := by decide +kernel
theorem dX4_off_24 : decode cX4_off 24 = .ok (.iload_n 1, 1) := by decide +kernel
theorem dX4_off_25 : decode cX4_off 25 = .ok (.invokevirtual 207, 3) := by decide +kernel
theorem dX4_off_28 : decode cX4_off 28 = .ok (.ifCond .eq 6, 3) := by decide +kernel
theorem dX4_off_31 : decode cX4_off 31 = .ok (.bipush (-2), 2) := by decide +kernel
theorem dX4_off_33 : decode cX4_off 33 = .ok (.ireturn, 1) := by decide +kernel
theorem dX4_off_34 : decode cX4_off 34 = .ok (.aload_n 0, 1) := by decide +kernel
theorem dX4_off_35 : decode cX4_off 35 = .ok (.getfield 57, 3) := by decide +kernel
theorem dX4_off_38 : decode cX4_off 38 = .ok (.iload_n 1, 1) := by decide +kernel
theorem dX4_off_39 : decode cX4_off 39 = .ok (.iaload, 1) := by decide +kernel
theorem dX4_off_40 : decode cX4_off 40 = .ok (.istore_n 2, 1) := by decide +kernel
theorem dX4_off_41 : decode cX4_off 41 = .ok (.aload_n 0, 1) := by decide +kernel
theorem dX4_off_42 : decode cX4_off 42 = .ok (.getfield 57, 3) := by decide +kernel
theorem dX4_off_45 : decode cX4_off 45 = .ok (.iload_n 1, 1) := by decide +kernel
theorem dX4_off_46 : decode cX4_off 46 = .ok (.iconst (-1), 1) := by decide +kernel
theorem dX4_off_47 : decode cX4_off 47 = .ok (.iastore, 1) := by decide +kernel
theorem dX4_off_48 : decode cX4_off 48 = .ok (.aload_n 0, 1) := by decide +kernel
theorem dX4_off_49 : decode cX4_off 49 = .ok (.getfield 19, 3) := by decide +kernel
theorem dX4_off_52 : decode cX4_off 52 = .ok (.iload_n 2, 1) := by decide +kernel
theorem dX4_off_53 : decode cX4_off 53 = .ok (.iconst 0, 1) := by decide +kernel
theorem dX4_off_54 : decode cX4_off 54 = .ok (.iastore, 1) := by decide +kernel
theorem dX4_off_55 : decode cX4_off 55 = .ok (.iload_n 2, 1) := by decide +kernel
theorem dX4_off_56 : decode cX4_off 56 = .ok (.ireturn, 1) := by decide +kernel
theorem dX4_above_0 : decode cX4_above 0 = .ok (.iload_n 0, 1) := by decide +kernel
theorem dX4_above_1 : decode cX4_above 1 = .ok (.iconst 1, 1) := by decide +kernel
theorem dX4_above_2 : decode cX4_above 2 = .ok (.if_icmp .eq 8, 3) := by decide +kernel
theorem dX4_above_5 : decode cX4_above 5 = .ok (.iload_n 0, 1) := by decide +kernel
theorem dX4_above_6 : decode cX4_above 6 = .ok (.iconst 4, 1) := by decide +kernel
theorem dX4_above_7 : decode cX4_above 7 = .ok (.if_icmp .ne 7, 3) := by decide +kernel
theorem dX4_above_10 : decode cX4_above 10 = .ok (.iconst 0, 1) := by decide +kernel
theorem dX4_above_11 : decode cX4_above 11 = .ok (.goto 27, 3) := by decide +kernel
theorem dX4_above_14 : decode cX4_above 14 = .ok (.iload_n 0, 1) := by decide +kernel
theorem dX4_above_15 : decode cX4_above 15 = .ok (.iconst 2, 1) := by decide +kernel
theorem dX4_above_16 : decode cX4_above 16 = .ok (.if_icmp .ne 7, 3) := by decide +kernel
theorem dX4_above_19 : decode cX4_above 19 = .ok (.iconst 1, 1) := by decide +kernel
theorem dX4_above_20 : decode cX4_above 20 = .ok (.goto 18, 3) := by decide +kernel
theorem dX4_above_23 : decode cX4_above 23 = .ok (.iload_n 0, 1) := by decide +kernel
theorem dX4_above_24 : decode cX4_above 24 = .ok (.iconst 3, 1) := by decide +kernel
theorem dX4_above_25 : decode cX4_above 25 = .ok (.if_icmp .eq 8, 3) := by decide +kernel
theorem dX4_above_28 : decode cX4_above 28 = .ok (.iload_n 0, 1) := by decide +kernel
theorem dX4_above_29 : decode cX4_above 29 = .ok (.iconst 5, 1) := by decide +kernel
theorem dX4_above_30 : decode cX4_above 30 = .ok (.if_icmp .ne 7, 3) := by decide +kernel
theorem dX4_above_33 : decode cX4_above 33 = .ok (.iconst 2, 1) := by decide +kernel
theorem dX4_above_34 : decode cX4_above 34 = .ok (.goto 4, 3) := by decide +kernel
theorem dX4_above_37 : decode cX4_above 37 = .ok (.iconst (-1), 1) := by decide +kernel
theorem dX4_above_38 : decode cX4_above 38 = .ok (.ireturn, 1) := by decide +kernel
theorem dX4_take_0 : decode cX4_take 0 = .ok (.iload_n 2, 1) := by decide +kernel
theorem dX4_take_1 : decode cX4_take 1 = .ok (.ifCond .lt 8, 3) := by decide +kernel
theorem dX4_take_4 : decode cX4_take 4 = .ok (.iload_n 2, 1) := by decide +kernel
theorem dX4_take_5 : decode cX4_take 5 = .ok (.iconst 5, 1) := by decide +kernel
theorem dX4_take_6 : decode cX4_take 6 = .ok (.if_icmp .le 6, 3) := by decide +kernel
theorem dX4_take_9 : decode cX4_take 9 = .ok (.bipush (-2), 2) := by decide +kernel
theorem dX4_take_11 : decode cX4_take 11 = .ok (.ireturn, 1) := by decide +kernel
theorem dX4_take_12 : decode cX4_take 12 = .ok (.aload_n 0, 1) := by decide +kernel
theorem dX4_take_13 : decode cX4_take 13 = .ok (.iload_n 1, 1) := by decide +kernel
theorem dX4_take_14 : decode cX4_take 14 = .ok (.invokevirtual 204, 3) := by decide +kernel
theorem dX4_take_17 : decode cX4_take 17 = .ok (.ifCond .ne 6, 3) := by decide +kernel
theorem dX4_take_20 : decode cX4_take 20 = .ok (.bipush (-11), 2) := by decide +kernel
theorem dX4_take_22 : decode cX4_take 22 = .ok (.ireturn, 1) := by decide +kernel
theorem dX4_take_23 : decode cX4_take 23 = .ok (.aload_n 0, 1) := by decide +kernel
theorem dX4_take_24 : decode cX4_take 24 = .ok (.getfield 57, 3) := by decide +kernel
theorem dX4_take_27 : decode cX4_take 27 = .ok (.iload_n 1, 1) := by decide +kernel
theorem dX4_take_28 : decode cX4_take 28 = .ok (.iaload, 1) := by decide +kernel
theorem dX4_take_29 : decode cX4_take 29 = .ok (.ifCond .ge 6, 3) := by decide +kernel
theorem dX4_take_32 : decode cX4_take 32 = .ok (.bipush (-10), 2) := by decide +kernel
theorem dX4_take_34 : decode cX4_take 34 = .ok (.ireturn, 1) := by decide +kernel
theorem dX4_take_35 : decode cX4_take 35 = .ok (.aload_n 0, 1) := by decide +kernel
theorem dX4_take_36 : decode cX4_take 36 = .ok (.getfield 9, 3) := by decide +kernel
theorem dX4_take_39 : decode cX4_take 39 = .ok (.aload_n 0, 1) := by decide +kernel
theorem dX4_take_40 : decode cX4_take 40 = .ok (.getfield 57, 3) := by decide +kernel
theorem dX4_take_43 : decode cX4_take 43 = .ok (.iload_n 1, 1) := by decide +kernel
theorem dX4_take_44 : decode cX4_take 44 = .ok (.iaload, 1) := by decide +kernel
theorem dX4_take_45 : decode cX4_take 45 = .ok (.iaload, 1) := by decide +kernel
theorem dX4_take_46 : decode cX4_take 46 = .ok (.istore_n 3, 1) := by decide +kernel
theorem dX4_take_47 : decode cX4_take 47 = .ok (.iload_n 3, 1) := by decide +kernel
theorem dX4_take_48 : decode cX4_take 48 = .ok (.ifCond .lt 16, 3) := by decide +kernel
theorem dX4_take_51 : decode cX4_take 51 = .ok (.iload_n 3, 1) := by decide +kernel
theorem dX4_take_52 : decode cX4_take 52 = .ok (.iload_n 2, 1) := by decide +kernel
theorem dX4_take_53 : decode cX4_take 53 = .ok (.if_icmp .eq 11, 3) := by decide +kernel
theorem dX4_take_56 : decode cX4_take 56 = .ok (.iload_n 3, 1) := by decide +kernel
theorem dX4_take_57 : decode cX4_take 57 = .ok (.invokestatic 210, 3) := by decide +kernel
theorem dX4_take_60 : decode cX4_take 60 = .ok (.istore_n 3, 1) := by decide +kernel
theorem dX4_take_61 : decode cX4_take 61 = .ok (.goto (-14), 3) := by decide +kernel
theorem dX4_take_64 : decode cX4_take 64 = .ok (.iload_n 3, 1) := by decide +kernel
theorem dX4_take_65 : decode cX4_take 65 = .ok (.iload_n 2, 1) := by decide +kernel
theorem dX4_take_66 : decode cX4_take 66 = .ok (.if_icmp .ne 12, 3) := by decide +kernel
theorem dX4_take_69 : decode cX4_take 69 = .ok (.aload_n 0, 1) := by decide +kernel
theorem dX4_take_70 : decode cX4_take 70 = .ok (.getfield 57, 3) := by decide +kernel
theorem dX4_take_73 : decode cX4_take 73 = .ok (.iload_n 1, 1) := by decide +kernel
theorem dX4_take_74 : decode cX4_take 74 = .ok (.iaload, 1) := by decide +kernel
theorem dX4_take_75 : decode cX4_take 75 = .ok (.goto 5, 3) := by decide +kernel
theorem dX4_take_78 : decode cX4_take 78 = .ok (.bipush (-12), 2) := by decide +kernel
theorem dX4_take_80 : decode cX4_take 80 = .ok (.ireturn, 1) := by decide +kernel
theorem dX4_order_0 : decode cX4_order 0 = .ok (.iload_n 1, 1) := by decide +kernel
theorem dX4_order_1 : decode cX4_order 1 = .ok (.iconst 1, 1) := by decide +kernel
theorem dX4_order_2 : decode cX4_order 2 = .ok (.if_icmp .lt 29, 3) := by decide +kernel
theorem dX4_order_5 : decode cX4_order 5 = .ok (.iload_n 1, 1) := by decide +kernel
theorem dX4_order_6 : decode cX4_order 6 = .ok (.sipush 2000, 3) := by decide +kernel
theorem dX4_order_9 : decode cX4_order 9 = .ok (.if_icmp .gt 22, 3) := by decide +kernel
theorem dX4_order_12 : decode cX4_order 12 = .ok (.iload_n 2, 1) := by decide +kernel
theorem dX4_order_13 : decode cX4_order 13 = .ok (.ifCond .lt 18, 3) := by decide +kernel
theorem dX4_order_16 : decode cX4_order 16 = .ok (.iload_n 2, 1) := by decide +kernel
theorem dX4_order_17 : decode cX4_order 17 = .ok (.ldc 213, 2) := by decide +kernel
theorem dX4_order_19 : decode cX4_order 19 = .ok (.if_icmp .gt 12, 3) := by decide +kernel
theorem dX4_order_22 : decode cX4_order 22 = .ok (.aload_n 0, 1) := by decide +kernel
theorem dX4_order_23 : decode cX4_order 23 = .ok (.getfield 143, 3) := by decide +kernel
theorem dX4_order_26 : decode cX4_order 26 = .ok (.bipush 6, 2) := by decide +kernel
theorem dX4_order_28 : decode cX4_order 28 = .ok (.if_icmp .ne 6, 3) := by decide +kernel
theorem dX4_order_31 : decode cX4_order 31 = .ok (.bipush (-2), 2) := by decide +kernel
theorem dX4_order_33 : decode cX4_order 33 = .ok (.ireturn, 1) := by decide +kernel
theorem dX4_order_34 : decode cX4_order 34 = .ok (.aload_n 0, 1) := by decide +kernel
theorem dX4_order_35 : decode cX4_order 35 = .ok (.getfield 60, 3) := by decide +kernel
theorem dX4_order_38 : decode cX4_order 38 = .ok (.aload_n 0, 1) := by decide +kernel
theorem dX4_order_39 : decode cX4_order 39 = .ok (.getfield 143, 3) := by decide +kernel
theorem dX4_order_42 : decode cX4_order 42 = .ok (.iload_n 1, 1) := by decide +kernel
theorem dX4_order_43 : decode cX4_order 43 = .ok (.iastore, 1) := by decide +kernel
theorem dX4_order_44 : decode cX4_order 44 = .ok (.aload_n 0, 1) := by decide +kernel
theorem dX4_order_45 : decode cX4_order 45 = .ok (.getfield 63, 3) := by decide +kernel
theorem dX4_order_48 : decode cX4_order 48 = .ok (.aload_n 0, 1) := by decide +kernel
theorem dX4_order_49 : decode cX4_order 49 = .ok (.getfield 143, 3) := by decide +kernel
theorem dX4_order_52 : decode cX4_order 52 = .ok (.iload_n 2, 1) := by decide +kernel
theorem dX4_order_53 : decode cX4_order 53 = .ok (.i2f, 1) := by decide +kernel
theorem dX4_order_54 : decode cX4_order 54 = .ok (.ldc 118, 2) := by decide +kernel
theorem dX4_order_56 : decode cX4_order 56 = .ok (.fmul, 1) := by decide +kernel
theorem dX4_order_57 : decode cX4_order 57 = .ok (.fastore, 1) := by decide +kernel
theorem dX4_order_58 : decode cX4_order 58 = .ok (.aload_n 0, 1) := by decide +kernel
theorem dX4_order_59 : decode cX4_order 59 = .ok (.getfield 66, 3) := by decide +kernel
theorem dX4_order_62 : decode cX4_order 62 = .ok (.aload_n 0, 1) := by decide +kernel
theorem dX4_order_63 : decode cX4_order 63 = .ok (.getfield 143, 3) := by decide +kernel
theorem dX4_order_66 : decode cX4_order 66 = .ok (.iconst (-1), 1) := by decide +kernel
theorem dX4_order_67 : decode cX4_order 67 = .ok (.iastore, 1) := by decide +kernel
theorem dX4_order_68 : decode cX4_order 68 = .ok (.aload_n 0, 1) := by decide +kernel
theorem dX4_order_69 : decode cX4_order 69 = .ok (.getfield 69, 3) := by decide +kernel
theorem dX4_order_72 : decode cX4_order 72 = .ok (.aload_n 0, 1) := by decide +kernel
theorem dX4_order_73 : decode cX4_order 73 = .ok (.getfield 143, 3) := by decide +kernel
theorem dX4_order_76 : decode cX4_order 76 = .ok (.iconst 0, 1) := by decide +kernel
theorem dX4_order_77 : decode cX4_order 77 = .ok (.iastore, 1) := by decide +kernel
theorem dX4_order_78 : decode cX4_order 78 = .ok (.aload_n 0, 1) := by decide +kernel
theorem dX4_order_79 : decode cX4_order 79 = .ok (.dup, 1) := by decide +kernel
theorem dX4_order_80 : decode cX4_order 80 = .ok (.getfield 143, 3) := by decide +kernel
theorem dX4_order_83 : decode cX4_order 83 = .ok (.iconst 1, 1) := by decide +kernel
theorem dX4_order_84 : decode cX4_order 84 = .ok (.iadd, 1) := by decide +kernel
theorem dX4_order_85 : decode cX4_order 85 = .ok (.putfield 143, 3) := by decide +kernel
theorem dX4_order_88 : decode cX4_order 88 = .ok (.aload_n 0, 1) := by decide +kernel
theorem dX4_order_89 : decode cX4_order 89 = .ok (.getfield 143, 3) := by decide +kernel
theorem dX4_order_92 : decode cX4_order 92 = .ok (.iconst 1, 1) := by decide +kernel
theorem dX4_order_93 : decode cX4_order 93 = .ok (.isub, 1) := by decide +kernel
theorem dX4_order_94 : decode cX4_order 94 = .ok (.ireturn, 1) := by decide +kernel
theorem dX4_markTaken_0 : decode cX4_markTaken 0 = .ok (.iconst 0, 1) := by decide +kernel
theorem dX4_markTaken_1 : decode cX4_markTaken 1 = .ok (.istore_n 2, 1) := by decide +kernel
theorem dX4_markTaken_2 : decode cX4_markTaken 2 = .ok (.iload_n 2, 1) := by decide +kernel
theorem dX4_markTaken_3 : decode cX4_markTaken 3 = .ok (.sipush 2001, 3) := by decide +kernel
theorem dX4_markTaken_6 : decode cX4_markTaken 6 = .ok (.if_icmp .ge 16, 3) := by decide +kernel
theorem dX4_markTaken_9 : decode cX4_markTaken 9 = .ok (.aload_n 0, 1) := by decide +kernel
theorem dX4_markTaken_10 : decode cX4_markTaken 10 = .ok (.getfield 96, 3) := by decide +kernel
theorem dX4_markTaken_13 : decode cX4_markTaken 13 = .ok (.iload_n 2, 1) := by decide +kernel
theorem dX4_markTaken_14 : decode cX4_markTaken 14 = .ok (.iconst 0, 1) := by decide +kernel
theorem dX4_markTaken_15 : decode cX4_markTaken 15 = .ok (.bastore, 1) := by decide +kernel
theorem dX4_markTaken_16 : decode cX4_markTaken 16 = .ok (.iinc 2 1, 3) := by decide +kernel
theorem dX4_markTaken_19 : decode cX4_markTaken 19 = .ok (.goto (-17), 3) := by decide +kernel
theorem dX4_markTaken_22 : decode cX4_markTaken 22 = .ok (.iconst 0, 1) := by decide +kernel
theorem dX4_markTaken_23 : decode cX4_markTaken 23 = .ok (.istore_n 2, 1) := by decide +kernel
theorem dX4_markTaken_24 : decode cX4_markTaken 24 = .ok (.iload_n 2, 1) := by decide +kernel
theorem dX4_markTaken_25 : decode cX4_markTaken 25 = .ok (.aload_n 0, 1) := by decide +kernel
theorem dX4_markTaken_26 : decode cX4_markTaken 26 = .ok (.getfield 143, 3) := by decide +kernel
theorem dX4_markTaken_29 : decode cX4_markTaken 29 = .ok (.if_icmp .ge 51, 3) := by decide +kernel
theorem dX4_markTaken_32 : decode cX4_markTaken 32 = .ok (.iconst 0, 1) := by decide +kernel
theorem dX4_markTaken_33 : decode cX4_markTaken 33 = .ok (.istore_n 3, 1) := by decide +kernel
theorem dX4_markTaken_34 : decode cX4_markTaken 34 = .ok (.iload_n 3, 1) := by decide +kernel
theorem dX4_markTaken_35 : decode cX4_markTaken 35 = .ok (.aload_n 0, 1) := by decide +kernel
theorem dX4_markTaken_36 : decode cX4_markTaken 36 = .ok (.getfield 60, 3) := by decide +kernel
theorem dX4_markTaken_39 : decode cX4_markTaken 39 = .ok (.iload_n 2, 1) := by decide +kernel
theorem dX4_markTaken_40 : decode cX4_markTaken 40 = .ok (.iaload, 1) := by decide +kernel
theorem dX4_markTaken_41 : decode cX4_markTaken 41 = .ok (.if_icmp .ge 33, 3) := by decide +kernel
theorem dX4_markTaken_44 : decode cX4_markTaken 44 = .ok (.aload_n 0, 1) := by decide +kernel
theorem dX4_markTaken_45 : decode cX4_markTaken 45 = .ok (.getfield 66, 3) := by decide +kernel
theorem dX4_markTaken_48 : decode cX4_markTaken 48 = .ok (.iload_n 2, 1) := by decide +kernel
theorem dX4_markTaken_49 : decode cX4_markTaken 49 = .ok (.iaload, 1) := by decide +kernel
theorem dX4_markTaken_50 : decode cX4_markTaken 50 = .ok (.iload_n 1, 1) := by decide +kernel
theorem dX4_markTaken_51 : decode cX4_markTaken 51 = .ok (.if_icmp .ne 23, 3) := by decide +kernel
theorem dX4_markTaken_54 : decode cX4_markTaken 54 = .ok (.aload_n 0, 1) := by decide +kernel
theorem dX4_markTaken_55 : decode cX4_markTaken 55 = .ok (.getfield 96, 3) := by decide +kernel
theorem dX4_markTaken_58 : decode cX4_markTaken 58 = .ok (.aload_n 0, 1) := by decide +kernel
theorem dX4_markTaken_59 : decode cX4_markTaken 59 = .ok (.getfield 69, 3) := by decide +kernel
theorem dX4_markTaken_62 : decode cX4_markTaken 62 = .ok (.iload_n 2, 1) := by decide +kernel
theorem dX4_markTaken_63 : decode cX4_markTaken 63 = .ok (.iaload, 1) := by decide +kernel
theorem dX4_markTaken_64 : decode cX4_markTaken 64 = .ok (.iload_n 3, 1) := by decide +kernel
theorem dX4_markTaken_65 : decode cX4_markTaken 65 = .ok (.iadd, 1) := by decide +kernel
theorem dX4_markTaken_66 : decode cX4_markTaken 66 = .ok (.iconst 1, 1) := by decide +kernel
theorem dX4_markTaken_67 : decode cX4_markTaken 67 = .ok (.bastore, 1) := by decide +kernel
theorem dX4_markTaken_68 : decode cX4_markTaken 68 = .ok (.iinc 3 1, 3) := by decide +kernel
theorem dX4_markTaken_71 : decode cX4_markTaken 71 = .ok (.goto (-37), 3) := by decide +kernel
theorem dX4_markTaken_74 : decode cX4_markTaken 74 = .ok (.iinc 2 1, 3) := by decide +kernel
theorem dX4_markTaken_77 : decode cX4_markTaken 77 = .ok (.goto (-53), 3) := by decide +kernel
theorem dX4_markTaken_80 : decode cX4_markTaken 80 = .ok (.return_, 1) := by decide +kernel
theorem dX4_look_0 : decode cX4_look 0 = .ok (.iconst 0, 1) := by decide +kernel
theorem dX4_look_1 : decode cX4_look 1 = .ok (.istore_n 2, 1) := by decide +kernel
theorem dX4_look_2 : decode cX4_look 2 = .ok (.aload_n 0, 1) := by decide +kernel
theorem dX4_look_3 : decode cX4_look 3 = .ok (.getfield 57, 3) := by decide +kernel
theorem dX4_look_6 : decode cX4_look 6 = .ok (.iload_n 1, 1) := by decide +kernel
theorem dX4_look_7 : decode cX4_look 7 = .ok (.iaload, 1) := by decide +kernel
theorem dX4_look_8 : decode cX4_look 8 = .ok (.ifCond .lt 47, 3) := by decide +kernel
theorem dX4_look_11 : decode cX4_look 11 = .ok (.iload_n 2, 1) := by decide +kernel
theorem dX4_look_12 : decode cX4_look 12 = .ok (.aload_n 0, 1) := by decide +kernel
theorem dX4_look_13 : decode cX4_look 13 = .ok (.getfield 13, 3) := by decide +kernel
theorem dX4_look_16 : decode cX4_look 16 = .ok (.aload_n 0, 1) := by decide +kernel
theorem dX4_look_17 : decode cX4_look 17 = .ok (.getfield 57, 3) := by decide +kernel
theorem dX4_look_20 : decode cX4_look 20 = .ok (.iload_n 1, 1) := by decide +kernel
theorem dX4_look_21 : decode cX4_look 21 = .ok (.iaload, 1) := by decide +kernel
theorem dX4_look_22 : decode cX4_look 22 = .ok (.iaload, 1) := by decide +kernel
theorem dX4_look_23 : decode cX4_look 23 = .ok (.if_icmp .ge 32, 3) := by decide +kernel
theorem dX4_look_26 : decode cX4_look 26 = .ok (.aload_n 0, 1) := by decide +kernel
theorem dX4_look_27 : decode cX4_look 27 = .ok (.getfield 99, 3) := by decide +kernel
theorem dX4_look_30 : decode cX4_look 30 = .ok (.sipush 2001, 3) := by decide +kernel
theorem dX4_look_33 : decode cX4_look 33 = .ok (.iload_n 1, 1) := by decide +kernel
theorem dX4_look_34 : decode cX4_look 34 = .ok (.imul, 1) := by decide +kernel
theorem dX4_look_35 : decode cX4_look 35 = .ok (.iload_n 2, 1) := by decide +kernel
theorem dX4_look_36 : decode cX4_look 36 = .ok (.iadd, 1) := by decide +kernel
theorem dX4_look_37 : decode cX4_look 37 = .ok (.aload_n 0, 1) := by decide +kernel
theorem dX4_look_38 : decode cX4_look 38 = .ok (.aload_n 0, 1) := by decide +kernel
theorem dX4_look_39 : decode cX4_look 39 = .ok (.getfield 57, 3) := by decide +kernel
theorem dX4_look_42 : decode cX4_look 42 = .ok (.iload_n 1, 1) := by decide +kernel
theorem dX4_look_43 : decode cX4_look 43 = .ok (.iaload, 1) := by decide +kernel
theorem dX4_look_44 : decode cX4_look 44 = .ok (.iload_n 2, 1) := by decide +kernel
theorem dX4_look_45 : decode cX4_look 45 = .ok (.invokevirtual 163, 3) := by decide +kernel
theorem dX4_look_48 : decode cX4_look 48 = .ok (.fastore, 1) := by decide +kernel
theorem dX4_look_49 : decode cX4_look 49 = .ok (.iinc 2 1, 3) := by decide +kernel
theorem dX4_look_52 : decode cX4_look 52 = .ok (.goto (-50), 3) := by decide +kernel
theorem dX4_look_55 : decode cX4_look 55 = .ok (.return_, 1) := by decide +kernel
theorem dX4_fit_0 : decode cX4_fit 0 = .ok (.iconst 0, 1) := by decide +kernel
theorem dX4_fit_1 : decode cX4_fit 1 = .ok (.istore_n 3, 1) := by decide +kernel
theorem dX4_fit_2 : decode cX4_fit 2 = .ok (.aload_n 0, 1) := by decide +kernel
theorem dX4_fit_3 : decode cX4_fit 3 = .ok (.iload_n 2, 1) := by decide +kernel
theorem dX4_fit_4 : decode cX4_fit 4 = .ok (.invokevirtual 214, 3) := by decide +kernel
theorem dX4_fit_7 : decode cX4_fit 7 = .ok (.iconst 0, 1) := by decide +kernel
theorem dX4_fit_8 : decode cX4_fit 8 = .ok (.istore 4, 2) := by decide +kernel
theorem dX4_fit_10 : decode cX4_fit 10 = .ok (.iload 4, 2) := by decide +kernel
theorem dX4_fit_12 : decode cX4_fit 12 = .ok (.aload_n 0, 1) := by decide +kernel
theorem dX4_fit_13 : decode cX4_fit 13 = .ok (.getfield 13, 3) := by decide +kernel
theorem dX4_fit_16 : decode cX4_fit 16 = .ok (.aload_n 0, 1) := by decide +kernel
theorem dX4_fit_17 : decode cX4_fit 17 = .ok (.getfield 57, 3) := by decide +kernel
theorem dX4_fit_20 : decode cX4_fit 20 = .ok (.iload_n 2, 1) := by decide +kernel
theorem dX4_fit_21 : decode cX4_fit 21 = .ok (.iaload, 1) := by decide +kernel
theorem dX4_fit_22 : decode cX4_fit 22 = .ok (.iaload, 1) := by decide +kernel
theorem dX4_fit_23 : decode cX4_fit 23 = .ok (.if_icmp .ge 67, 3) := by decide +kernel
theorem dX4_fit_26 : decode cX4_fit 26 = .ok (.aload_n 0, 1) := by decide +kernel
theorem dX4_fit_27 : decode cX4_fit 27 = .ok (.getfield 96, 3) := by decide +kernel
theorem dX4_fit_30 : decode cX4_fit 30 = .ok (.iload 4, 2) := by decide +kernel
theorem dX4_fit_32 : decode cX4_fit 32 = .ok (.baload, 1) := by decide +kernel
theorem dX4_fit_33 : decode cX4_fit 33 = .ok (.ifCond .ne 26, 3) := by decide +kernel
theorem dX4_fit_36 : decode cX4_fit 36 = .ok (.aload_n 0, 1) := by decide +kernel
theorem dX4_fit_37 : decode cX4_fit 37 = .ok (.getfield 99, 3) := by decide +kernel
theorem dX4_fit_40 : decode cX4_fit 40 = .ok (.sipush 2001, 3) := by decide +kernel
theorem dX4_fit_43 : decode cX4_fit 43 = .ok (.iload_n 2, 1) := by decide +kernel
theorem dX4_fit_44 : decode cX4_fit 44 = .ok (.imul, 1) := by decide +kernel
theorem dX4_fit_45 : decode cX4_fit 45 = .ok (.iload 4, 2) := by decide +kernel
theorem dX4_fit_47 : decode cX4_fit 47 = .ok (.iadd, 1) := by decide +kernel
theorem dX4_fit_48 : decode cX4_fit 48 = .ok (.faload, 1) := by decide +kernel
theorem dX4_fit_49 : decode cX4_fit 49 = .ok (.aload_n 0, 1) := by decide +kernel
theorem dX4_fit_50 : decode cX4_fit 50 = .ok (.getfield 63, 3) := by decide +kernel
theorem dX4_fit_53 : decode cX4_fit 53 = .ok (.iload_n 1, 1) := by decide +kernel
theorem dX4_fit_54 : decode cX4_fit 54 = .ok (.faload, 1) := by decide +kernel
theorem dX4_fit_55 : decode cX4_fit 55 = .ok (.fcmp .g, 1) := by decide +kernel
theorem dX4_fit_56 : decode cX4_fit 56 = .ok (.ifCond .ge 7, 3) := by decide +kernel
theorem dX4_fit_59 : decode cX4_fit 59 = .ok (.iconst 0, 1) := by decide +kernel
theorem dX4_fit_60 : decode cX4_fit 60 = .ok (.goto 6, 3) := by decide +kernel
theorem dX4_fit_63 : decode cX4_fit 63 = .ok (.iload_n 3, 1) := by decide +kernel
theorem dX4_fit_64 : decode cX4_fit 64 = .ok (.iconst 1, 1) := by decide +kernel
theorem dX4_fit_65 : decode cX4_fit 65 = .ok (.iadd, 1) := by decide +kernel
theorem dX4_fit_66 : decode cX4_fit 66 = .ok (.istore_n 3, 1) := by decide +kernel
theorem dX4_fit_67 : decode cX4_fit 67 = .ok (.iload_n 3, 1) := by decide +kernel
theorem dX4_fit_68 : decode cX4_fit 68 = .ok (.aload_n 0, 1) := by decide +kernel
theorem dX4_fit_69 : decode cX4_fit 69 = .ok (.getfield 60, 3) := by decide +kernel
theorem dX4_fit_72 : decode cX4_fit 72 = .ok (.iload_n 1, 1) := by decide +kernel
theorem dX4_fit_73 : decode cX4_fit 73 = .ok (.iaload, 1) := by decide +kernel
theorem dX4_fit_74 : decode cX4_fit 74 = .ok (.if_icmp .ne 10, 3) := by decide +kernel
theorem dX4_fit_77 : decode cX4_fit 77 = .ok (.iload 4, 2) := by decide +kernel
theorem dX4_fit_79 : decode cX4_fit 79 = .ok (.iload_n 3, 1) := by decide +kernel
theorem dX4_fit_80 : decode cX4_fit 80 = .ok (.isub, 1) := by decide +kernel
theorem dX4_fit_81 : decode cX4_fit 81 = .ok (.iconst 1, 1) := by decide +kernel
theorem dX4_fit_82 : decode cX4_fit 82 = .ok (.iadd, 1) := by decide +kernel
theorem dX4_fit_83 : decode cX4_fit 83 = .ok (.ireturn, 1) := by decide +kernel
theorem dX4_fit_84 : decode cX4_fit 84 = .ok (.iinc 4 1, 3) := by decide +kernel
theorem dX4_fit_87 : decode cX4_fit 87 = .ok (.goto (-77), 3) := by decide +kernel
theorem dX4_fit_90 : decode cX4_fit 90 = .ok (.iconst (-1), 1) := by decide +kernel
theorem dX4_fit_91 : decode cX4_fit 91 = .ok (.ireturn, 1) := by decide +kernel
theorem dX4_cutFrom_0 : decode cX4_cutFrom 0 = .ok (.iconst 0, 1) := by decide +kernel
theorem dX4_cutFrom_1 : decode cX4_cutFrom 1 = .ok (.istore_n 3, 1) := by decide +kernel
theorem dX4_cutFrom_2 : decode cX4_cutFrom 2 = .ok (.iload_n 3, 1) := by decide +kernel
theorem dX4_cutFrom_3 : decode cX4_cutFrom 3 = .ok (.bipush 6, 2) := by decide +kernel
theorem dX4_cutFrom_5 : decode cX4_cutFrom 5 = .ok (.if_icmp .ge 52, 3) := by decide +kernel
theorem dX4_cutFrom_8 : decode cX4_cutFrom 8 = .ok (.iload_n 2, 1) := by decide +kernel
theorem dX4_cutFrom_9 : decode cX4_cutFrom 9 = .ok (.iload_n 3, 1) := by decide +kernel
theorem dX4_cutFrom_10 : decode cX4_cutFrom 10 = .ok (.ishr, 1) := by decide +kernel
theorem dX4_cutFrom_11 : decode cX4_cutFrom 11 = .ok (.iconst 1, 1) := by decide +kernel
theorem dX4_cutFrom_12 : decode cX4_cutFrom 12 = .ok (.iand, 1) := by decide +kernel
theorem dX4_cutFrom_13 : decode cX4_cutFrom 13 = .ok (.iconst 1, 1) := by decide +kernel
theorem dX4_cutFrom_14 : decode cX4_cutFrom 14 = .ok (.if_icmp .ne 12, 3) := by decide +kernel
theorem dX4_cutFrom_17 : decode cX4_cutFrom 17 = .ok (.aload_n 0, 1) := by decide +kernel
theorem dX4_cutFrom_18 : decode cX4_cutFrom 18 = .ok (.iload_n 1, 1) := by decide +kernel
theorem dX4_cutFrom_19 : decode cX4_cutFrom 19 = .ok (.iload_n 3, 1) := by decide +kernel
theorem dX4_cutFrom_20 : decode cX4_cutFrom 20 = .ok (.invokevirtual 218, 3) := by decide +kernel
theorem dX4_cutFrom_23 : decode cX4_cutFrom 23 = .ok (.goto 4, 3) := by decide +kernel
theorem dX4_cutFrom_26 : decode cX4_cutFrom 26 = .ok (.iconst (-1), 1) := by decide +kernel
theorem dX4_cutFrom_27 : decode cX4_cutFrom 27 = .ok (.istore 4, 2) := by decide +kernel
theorem dX4_cutFrom_29 : decode cX4_cutFrom 29 = .ok (.iload 4, 2) := by decide +kernel
theorem dX4_cutFrom_31 : decode cX4_cutFrom 31 = .ok (.ifCond .lt 20, 3) := by decide +kernel
theorem dX4_cutFrom_34 : decode cX4_cutFrom 34 = .ok (.aload_n 0, 1) := by decide +kernel
theorem dX4_cutFrom_35 : decode cX4_cutFrom 35 = .ok (.getfield 66, 3) := by decide +kernel
theorem dX4_cutFrom_38 : decode cX4_cutFrom 38 = .ok (.iload_n 1, 1) := by decide +kernel
theorem dX4_cutFrom_39 : decode cX4_cutFrom 39 = .ok (.iload_n 3, 1) := by decide +kernel
theorem dX4_cutFrom_40 : decode cX4_cutFrom 40 = .ok (.iastore, 1) := by decide +kernel
theorem dX4_cutFrom_41 : decode cX4_cutFrom 41 = .ok (.aload_n 0, 1) := by decide +kernel
theorem dX4_cutFrom_42 : decode cX4_cutFrom 42 = .ok (.getfield 69, 3) := by decide +kernel
theorem dX4_cutFrom_45 : decode cX4_cutFrom 45 = .ok (.iload_n 1, 1) := by decide +kernel
theorem dX4_cutFrom_46 : decode cX4_cutFrom 46 = .ok (.iload 4, 2) := by decide +kernel
theorem dX4_cutFrom_48 : decode cX4_cutFrom 48 = .ok (.iastore, 1) := by decide +kernel
theorem dX4_cutFrom_49 : decode cX4_cutFrom 49 = .ok (.iconst 1, 1) := by decide +kernel
theorem dX4_cutFrom_50 : decode cX4_cutFrom 50 = .ok (.ireturn, 1) := by decide +kernel
theorem dX4_cutFrom_51 : decode cX4_cutFrom 51 = .ok (.iinc 3 1, 3) := by decide +kernel
theorem dX4_cutFrom_54 : decode cX4_cutFrom 54 = .ok (.goto (-52), 3) := by decide +kernel
theorem dX4_cutFrom_57 : decode cX4_cutFrom 57 = .ok (.iconst 0, 1) := by decide +kernel
theorem dX4_cutFrom_58 : decode cX4_cutFrom 58 = .ok (.ireturn, 1) := by decide +kernel
theorem dX4_hungReels_0 : decode cX4_hungReels 0 = .ok (.iconst 0, 1) := by decide +kernel
theorem dX4_hungReels_1 : decode cX4_hungReels 1 = .ok (.istore_n 1, 1) := by decide +kernel
theorem dX4_hungReels_2 : decode cX4_hungReels 2 = .ok (.iconst 0, 1) := by decide +kernel
theorem dX4_hungReels_3 : decode cX4_hungReels 3 = .ok (.istore_n 2, 1) := by decide +kernel
theorem dX4_hungReels_4 : decode cX4_hungReels 4 = .ok (.iload_n 2, 1) := by decide +kernel
theorem dX4_hungReels_5 : decode cX4_hungReels 5 = .ok (.bipush 6, 2) := by decide +kernel
theorem dX4_hungReels_7 : decode cX4_hungReels 7 = .ok (.if_icmp .ge 33, 3) := by decide +kernel
theorem dX4_hungReels_10 : decode cX4_hungReels 10 = .ok (.iload_n 1, 1) := by decide +kernel
theorem dX4_hungReels_11 : decode cX4_hungReels 11 = .ok (.aload_n 0, 1) := by decide +kernel
theorem dX4_hungReels_12 : decode cX4_hungReels 12 = .ok (.getfield 57, 3) := by decide +kernel
theorem dX4_hungReels_15 : decode cX4_hungReels 15 = .ok (.iload_n 2, 1) := by decide +kernel
theorem dX4_hungReels_16 : decode cX4_hungReels 16 = .ok (.iaload, 1) := by decide +kernel
theorem dX4_hungReels_17 : decode cX4_hungReels 17 = .ok (.ifCond .lt 9, 3) := by decide +kernel
theorem dX4_hungReels_20 : decode cX4_hungReels 20 = .ok (.iconst 1, 1) := by decide +kernel
theorem dX4_hungReels_21 : decode cX4_hungReels 21 = .ok (.iload_n 2, 1) := by decide +kernel
theorem dX4_hungReels_22 : decode cX4_hungReels 22 = .ok (.ishl, 1) := by decide +kernel
theorem dX4_hungReels_23 : decode cX4_hungReels 23 = .ok (.goto 4, 3) := by decide +kernel
theorem dX4_hungReels_26 : decode cX4_hungReels 26 = .ok (.iconst 0, 1) := by decide +kernel
theorem dX4_hungReels_27 : decode cX4_hungReels 27 = .ok (.ior, 1) := by decide +kernel
theorem dX4_hungReels_28 : decode cX4_hungReels 28 = .ok (.istore_n 1, 1) := by decide +kernel
theorem dX4_hungReels_29 : decode cX4_hungReels 29 = .ok (.aload_n 0, 1) := by decide +kernel
theorem dX4_hungReels_30 : decode cX4_hungReels 30 = .ok (.iload_n 2, 1) := by decide +kernel
theorem dX4_hungReels_31 : decode cX4_hungReels 31 = .ok (.invokevirtual 222, 3) := by decide +kernel
theorem dX4_hungReels_34 : decode cX4_hungReels 34 = .ok (.iinc 2 1, 3) := by decide +kernel
theorem dX4_hungReels_37 : decode cX4_hungReels 37 = .ok (.goto (-33), 3) := by decide +kernel
theorem dX4_hungReels_40 : decode cX4_hungReels 40 = .ok (.iload_n 1, 1) := by decide +kernel
theorem dX4_hungReels_41 : decode cX4_hungReels 41 = .ok (.ireturn, 1) := by decide +kernel
theorem dX4_cut_0 : decode cX4_cut 0 = .ok (.iload_n 1, 1) := by decide +kernel
theorem dX4_cut_1 : decode cX4_cut 1 = .ok (.ifCond .lt 20, 3) := by decide +kernel
theorem dX4_cut_4 : decode cX4_cut 4 = .ok (.iload_n 1, 1) := by decide +kernel
theorem dX4_cut_5 : decode cX4_cut 5 = .ok (.aload_n 0, 1) := by decide +kernel
theorem dX4_cut_6 : decode cX4_cut 6 = .ok (.getfield 143, 3) := by decide +kernel
theorem dX4_cut_9 : decode cX4_cut 9 = .ok (.if_icmp .ge 12, 3) := by decide +kernel
theorem dX4_cut_12 : decode cX4_cut 12 = .ok (.aload_n 0, 1) := by decide +kernel
theorem dX4_cut_13 : decode cX4_cut 13 = .ok (.getfield 66, 3) := by decide +kernel
theorem dX4_cut_16 : decode cX4_cut 16 = .ok (.iload_n 1, 1) := by decide +kernel
theorem dX4_cut_17 : decode cX4_cut 17 = .ok (.iaload, 1) := by decide +kernel
theorem dX4_cut_18 : decode cX4_cut 18 = .ok (.ifCond .lt 6, 3) := by decide +kernel
theorem dX4_cut_21 : decode cX4_cut 21 = .ok (.bipush (-2), 2) := by decide +kernel
theorem dX4_cut_23 : decode cX4_cut 23 = .ok (.ireturn, 1) := by decide +kernel
theorem dX4_cut_24 : decode cX4_cut 24 = .ok (.aload_n 0, 1) := by decide +kernel
theorem dX4_cut_25 : decode cX4_cut 25 = .ok (.iload_n 1, 1) := by decide +kernel
theorem dX4_cut_26 : decode cX4_cut 26 = .ok (.aload_n 0, 1) := by decide +kernel
theorem dX4_cut_27 : decode cX4_cut 27 = .ok (.invokevirtual 225, 3) := by decide +kernel
theorem dX4_cut_30 : decode cX4_cut 30 = .ok (.invokevirtual 229, 3) := by decide +kernel
theorem dX4_cut_33 : decode cX4_cut 33 = .ok (.ifCond .eq 23, 3) := by decide +kernel
theorem dX4_cut_36 : decode cX4_cut 36 = .ok (.sipush 10000, 3) := by decide +kernel
theorem dX4_cut_39 : decode cX4_cut 39 = .ok (.aload_n 0, 1) := by decide +kernel
theorem dX4_cut_40 : decode cX4_cut 40 = .ok (.getfield 66, 3) := by decide +kernel
theorem dX4_cut_43 : decode cX4_cut 43 = .ok (.iload_n 1, 1) := by decide +kernel
theorem dX4_cut_44 : decode cX4_cut 44 = .ok (.iaload, 1) := by decide +kernel
theorem dX4_cut_45 : decode cX4_cut 45 = .ok (.imul, 1) := by decide +kernel
theorem dX4_cut_46 : decode cX4_cut 46 = .ok (.aload_n 0, 1) := by decide +kernel
theorem dX4_cut_47 : decode cX4_cut 47 = .ok (.getfield 69, 3) := by decide +kernel
theorem dX4_cut_50 : decode cX4_cut 50 = .ok (.iload_n 1, 1) := by decide +kernel
theorem dX4_cut_51 : decode cX4_cut 51 = .ok (.iaload, 1) := by decide +kernel
theorem dX4_cut_52 : decode cX4_cut 52 = .ok (.iadd, 1) := by decide +kernel
theorem dX4_cut_53 : decode cX4_cut 53 = .ok (.goto 4, 3) := by decide +kernel
theorem dX4_cut_56 : decode cX4_cut 56 = .ok (.iconst (-1), 1) := by decide +kernel
theorem dX4_cut_57 : decode cX4_cut 57 = .ok (.ireturn, 1) := by decide +kernel
theorem dX4_join_0 : decode cX4_join 0 = .ok (.iload_n 1, 1) := by decide +kernel
theorem dX4_join_1 : decode cX4_join 1 = .ok (.ifCond .lt 20, 3) := by decide +kernel
theorem dX4_join_4 : decode cX4_join 4 = .ok (.iload_n 1, 1) := by decide +kernel
theorem dX4_join_5 : decode cX4_join 5 = .ok (.aload_n 0, 1) := by decide +kernel
theorem dX4_join_6 : decode cX4_join 6 = .ok (.getfield 143, 3) := by decide +kernel
theorem dX4_join_9 : decode cX4_join 9 = .ok (.if_icmp .ge 12, 3) := by decide +kernel
theorem dX4_join_12 : decode cX4_join 12 = .ok (.aload_n 0, 1) := by decide +kernel
theorem dX4_join_13 : decode cX4_join 13 = .ok (.getfield 66, 3) := by decide +kernel
theorem dX4_join_16 : decode cX4_join 16 = .ok (.iload_n 1, 1) := by decide +kernel
theorem dX4_join_17 : decode cX4_join 17 = .ok (.iaload, 1) := by decide +kernel
theorem dX4_join_18 : decode cX4_join 18 = .ok (.ifCond .ge 6, 3) := by decide +kernel
theorem dX4_join_21 : decode cX4_join 21 = .ok (.bipush (-2), 2) := by decide +kernel
theorem dX4_join_23 : decode cX4_join 23 = .ok (.ireturn, 1) := by decide +kernel
theorem dX4_join_24 : decode cX4_join 24 = .ok (.sipush 10000, 3) := by decide +kernel
theorem dX4_join_27 : decode cX4_join 27 = .ok (.aload_n 0, 1) := by decide +kernel
theorem dX4_join_28 : decode cX4_join 28 = .ok (.getfield 66, 3) := by decide +kernel
theorem dX4_join_31 : decode cX4_join 31 = .ok (.iload_n 1, 1) := by decide +kernel
theorem dX4_join_32 : decode cX4_join 32 = .ok (.iaload, 1) := by decide +kernel
theorem dX4_join_33 : decode cX4_join 33 = .ok (.imul, 1) := by decide +kernel
theorem dX4_join_34 : decode cX4_join 34 = .ok (.aload_n 0, 1) := by decide +kernel
theorem dX4_join_35 : decode cX4_join 35 = .ok (.getfield 69, 3) := by decide +kernel
theorem dX4_join_38 : decode cX4_join 38 = .ok (.iload_n 1, 1) := by decide +kernel
theorem dX4_join_39 : decode cX4_join 39 = .ok (.iaload, 1) := by decide +kernel
theorem dX4_join_40 : decode cX4_join 40 = .ok (.iadd, 1) := by decide +kernel
theorem dX4_join_41 : decode cX4_join 41 = .ok (.istore_n 2, 1) := by decide +kernel
theorem dX4_join_42 : decode cX4_join 42 = .ok (.aload_n 0, 1) := by decide +kernel
theorem dX4_join_43 : decode cX4_join 43 = .ok (.getfield 66, 3) := by decide +kernel
theorem dX4_join_46 : decode cX4_join 46 = .ok (.iload_n 1, 1) := by decide +kernel
theorem dX4_join_47 : decode cX4_join 47 = .ok (.iconst (-1), 1) := by decide +kernel
theorem dX4_join_48 : decode cX4_join 48 = .ok (.iastore, 1) := by decide +kernel
theorem dX4_join_49 : decode cX4_join 49 = .ok (.iload_n 2, 1) := by decide +kernel
theorem dX4_join_50 : decode cX4_join 50 = .ok (.ireturn, 1) := by decide +kernel
theorem dX4_begun_0 : decode cX4_begun 0 = .ok (.iconst 0, 1) := by decide +kernel
theorem dX4_begun_1 : decode cX4_begun 1 = .ok (.istore_n 1, 1) := by decide +kernel
theorem dX4_begun_2 : decode cX4_begun 2 = .ok (.iconst 0, 1) := by decide +kernel
theorem dX4_begun_3 : decode cX4_begun 3 = .ok (.istore_n 2, 1) := by decide +kernel
theorem dX4_begun_4 : decode cX4_begun 4 = .ok (.iload_n 2, 1) := by decide +kernel
theorem dX4_begun_5 : decode cX4_begun 5 = .ok (.bipush 6, 2) := by decide +kernel
theorem dX4_begun_7 : decode cX4_begun 7 = .ok (.if_icmp .ge 35, 3) := by decide +kernel
theorem dX4_begun_10 : decode cX4_begun 10 = .ok (.iload_n 1, 1) := by decide +kernel
theorem dX4_begun_11 : decode cX4_begun 11 = .ok (.aload_n 0, 1) := by decide +kernel
theorem dX4_begun_12 : decode cX4_begun 12 = .ok (.iload_n 2, 1) := by decide +kernel
theorem dX4_begun_13 : decode cX4_begun 13 = .ok (.invokevirtual 207, 3) := by decide +kernel
theorem dX4_begun_16 : decode cX4_begun 16 = .ok (.ifCond .eq 17, 3) := by decide +kernel
theorem dX4_begun_19 : decode cX4_begun 19 = .ok (.aload_n 0, 1) := by decide +kernel
theorem dX4_begun_20 : decode cX4_begun 20 = .ok (.getfield 13, 3) := by decide +kernel
theorem dX4_begun_23 : decode cX4_begun 23 = .ok (.aload_n 0, 1) := by decide +kernel
theorem dX4_begun_24 : decode cX4_begun 24 = .ok (.getfield 57, 3) := by decide +kernel
theorem dX4_begun_27 : decode cX4_begun 27 = .ok (.iload_n 2, 1) := by decide +kernel
theorem dX4_begun_28 : decode cX4_begun 28 = .ok (.iaload, 1) := by decide +kernel
theorem dX4_begun_29 : decode cX4_begun 29 = .ok (.iaload, 1) := by decide +kernel
theorem dX4_begun_30 : decode cX4_begun 30 = .ok (.goto 4, 3) := by decide +kernel
theorem dX4_begun_33 : decode cX4_begun 33 = .ok (.iconst 0, 1) := by decide +kernel
theorem dX4_begun_34 : decode cX4_begun 34 = .ok (.iadd, 1) := by decide +kernel
theorem dX4_begun_35 : decode cX4_begun 35 = .ok (.istore_n 1, 1) := by decide +kernel
theorem dX4_begun_36 : decode cX4_begun 36 = .ok (.iinc 2 1, 3) := by decide +kernel
theorem dX4_begun_39 : decode cX4_begun 39 = .ok (.goto (-35), 3) := by decide +kernel
theorem dX4_begun_42 : decode cX4_begun 42 = .ok (.iload_n 1, 1) := by decide +kernel
theorem dX4_begun_43 : decode cX4_begun 43 = .ok (.ireturn, 1) := by decide +kernel
theorem dX4_serves_0 : decode cX4_serves 0 = .ok (.iconst 0, 1) := by decide +kernel
theorem dX4_serves_1 : decode cX4_serves 1 = .ok (.istore_n 2, 1) := by decide +kernel
theorem dX4_serves_2 : decode cX4_serves 2 = .ok (.iload_n 2, 1) := by decide +kernel
theorem dX4_serves_3 : decode cX4_serves 3 = .ok (.aload_n 0, 1) := by decide +kernel
theorem dX4_serves_4 : decode cX4_serves 4 = .ok (.getfield 143, 3) := by decide +kernel
theorem dX4_serves_7 : decode cX4_serves 7 = .ok (.if_icmp .ge 21, 3) := by decide +kernel
theorem dX4_serves_10 : decode cX4_serves 10 = .ok (.aload_n 0, 1) := by decide +kernel
theorem dX4_serves_11 : decode cX4_serves 11 = .ok (.getfield 102, 3) := by decide +kernel
theorem dX4_serves_14 : decode cX4_serves 14 = .ok (.iload_n 2, 1) := by decide +kernel
theorem dX4_serves_15 : decode cX4_serves 15 = .ok (.aload_n 0, 1) := by decide +kernel
theorem dX4_serves_16 : decode cX4_serves 16 = .ok (.getfield 66, 3) := by decide +kernel
theorem dX4_serves_19 : decode cX4_serves 19 = .ok (.iload_n 2, 1) := by decide +kernel
theorem dX4_serves_20 : decode cX4_serves 20 = .ok (.iaload, 1) := by decide +kernel
theorem dX4_serves_21 : decode cX4_serves 21 = .ok (.iastore, 1) := by decide +kernel
theorem dX4_serves_22 : decode cX4_serves 22 = .ok (.iinc 2 1, 3) := by decide +kernel
theorem dX4_serves_25 : decode cX4_serves 25 = .ok (.goto (-23), 3) := by decide +kernel
theorem dX4_serves_28 : decode cX4_serves 28 = .ok (.iconst 1, 1) := by decide +kernel
theorem dX4_serves_29 : decode cX4_serves 29 = .ok (.istore_n 2, 1) := by decide +kernel
theorem dX4_serves_30 : decode cX4_serves 30 = .ok (.iconst 0, 1) := by decide +kernel
theorem dX4_serves_31 : decode cX4_serves 31 = .ok (.istore_n 3, 1) := by decide +kernel
theorem dX4_serves_32 : decode cX4_serves 32 = .ok (.iload_n 3, 1) := by decide +kernel
theorem dX4_serves_33 : decode cX4_serves 33 = .ok (.aload_n 0, 1) := by decide +kernel
theorem dX4_serves_34 : decode cX4_serves 34 = .ok (.getfield 143, 3) := by decide +kernel
theorem dX4_serves_37 : decode cX4_serves 37 = .ok (.if_icmp .ge 37, 3) := by decide +kernel
theorem dX4_serves_40 : decode cX4_serves 40 = .ok (.iload_n 2, 1) := by decide +kernel
theorem dX4_serves_41 : decode cX4_serves 41 = .ok (.ifCond .eq 33, 3) := by decide +kernel
theorem dX4_serves_44 : decode cX4_serves 44 = .ok (.aload_n 0, 1) := by decide +kernel
theorem dX4_serves_45 : decode cX4_serves 45 = .ok (.getfield 66, 3) := by decide +kernel
theorem dX4_serves_48 : decode cX4_serves 48 = .ok (.iload_n 3, 1) := by decide +kernel
theorem dX4_serves_49 : decode cX4_serves 49 = .ok (.iaload, 1) := by decide +kernel
theorem dX4_serves_50 : decode cX4_serves 50 = .ok (.ifCond .ge 12, 3) := by decide +kernel
theorem dX4_serves_53 : decode cX4_serves 53 = .ok (.aload_n 0, 1) := by decide +kernel
theorem dX4_serves_54 : decode cX4_serves 54 = .ok (.iload_n 3, 1) := by decide +kernel
theorem dX4_serves_55 : decode cX4_serves 55 = .ok (.iload_n 1, 1) := by decide +kernel
theorem dX4_serves_56 : decode cX4_serves 56 = .ok (.invokevirtual 229, 3) := by decide +kernel
theorem dX4_serves_59 : decode cX4_serves 59 = .ok (.ifCond .eq 7, 3) := by decide +kernel
theorem dX4_serves_62 : decode cX4_serves 62 = .ok (.iconst 1, 1) := by decide +kernel
theorem dX4_serves_63 : decode cX4_serves 63 = .ok (.goto 4, 3) := by decide +kernel
theorem dX4_serves_66 : decode cX4_serves 66 = .ok (.iconst 0, 1) := by decide +kernel
theorem dX4_serves_67 : decode cX4_serves 67 = .ok (.istore_n 2, 1) := by decide +kernel
theorem dX4_serves_68 : decode cX4_serves 68 = .ok (.iinc 3 1, 3) := by decide +kernel
theorem dX4_serves_71 : decode cX4_serves 71 = .ok (.goto (-39), 3) := by decide +kernel
theorem dX4_serves_74 : decode cX4_serves 74 = .ok (.iconst 0, 1) := by decide +kernel
theorem dX4_serves_75 : decode cX4_serves 75 = .ok (.istore_n 3, 1) := by decide +kernel
theorem dX4_serves_76 : decode cX4_serves 76 = .ok (.iload_n 3, 1) := by decide +kernel
theorem dX4_serves_77 : decode cX4_serves 77 = .ok (.aload_n 0, 1) := by decide +kernel
theorem dX4_serves_78 : decode cX4_serves 78 = .ok (.getfield 143, 3) := by decide +kernel
theorem dX4_serves_81 : decode cX4_serves 81 = .ok (.if_icmp .ge 21, 3) := by decide +kernel
theorem dX4_serves_84 : decode cX4_serves 84 = .ok (.aload_n 0, 1) := by decide +kernel
theorem dX4_serves_85 : decode cX4_serves 85 = .ok (.getfield 66, 3) := by decide +kernel
theorem dX4_serves_88 : decode cX4_serves 88 = .ok (.iload_n 3, 1) := by decide +kernel
theorem dX4_serves_89 : decode cX4_serves 89 = .ok (.aload_n 0, 1) := by decide +kernel
theorem dX4_serves_90 : decode cX4_serves 90 = .ok (.getfield 102, 3) := by decide +kernel
theorem dX4_serves_93 : decode cX4_serves 93 = .ok (.iload_n 3, 1) := by decide +kernel
theorem dX4_serves_94 : decode cX4_serves 94 = .ok (.iaload, 1) := by decide +kernel
theorem dX4_serves_95 : decode cX4_serves 95 = .ok (.iastore, 1) := by decide +kernel
theorem dX4_serves_96 : decode cX4_serves 96 = .ok (.iinc 3 1, 3) := by decide +kernel
theorem dX4_serves_99 : decode cX4_serves 99 = .ok (.goto (-23), 3) := by decide +kernel
theorem dX4_serves_102 : decode cX4_serves 102 = .ok (.iload_n 2, 1) := by decide +kernel
theorem dX4_serves_103 : decode cX4_serves 103 = .ok (.ireturn, 1) := by decide +kernel
theorem dX4_fewest_0 : decode cX4_fewest 0 = .ok (.iconst 0, 1) := by decide +kernel
theorem dX4_fewest_1 : decode cX4_fewest 1 = .ok (.istore_n 1, 1) := by decide +kernel
theorem dX4_fewest_2 : decode cX4_fewest 2 = .ok (.iconst 0, 1) := by decide +kernel
theorem dX4_fewest_3 : decode cX4_fewest 3 = .ok (.istore_n 2, 1) := by decide +kernel
theorem dX4_fewest_4 : decode cX4_fewest 4 = .ok (.iload_n 2, 1) := by decide +kernel
theorem dX4_fewest_5 : decode cX4_fewest 5 = .ok (.aload_n 0, 1) := by decide +kernel
theorem dX4_fewest_6 : decode cX4_fewest 6 = .ok (.getfield 143, 3) := by decide +kernel
theorem dX4_fewest_9 : decode cX4_fewest 9 = .ok (.if_icmp .ge 26, 3) := by decide +kernel
theorem dX4_fewest_12 : decode cX4_fewest 12 = .ok (.iload_n 1, 1) := by decide +kernel
theorem dX4_fewest_13 : decode cX4_fewest 13 = .ok (.aload_n 0, 1) := by decide +kernel
theorem dX4_fewest_14 : decode cX4_fewest 14 = .ok (.getfield 66, 3) := by decide +kernel
theorem dX4_fewest_17 : decode cX4_fewest 17 = .ok (.iload_n 2, 1) := by decide +kernel
theorem dX4_fewest_18 : decode cX4_fewest 18 = .ok (.iaload, 1) := by decide +kernel
theorem dX4_fewest_19 : decode cX4_fewest 19 = .ok (.ifCond .ge 7, 3) := by decide +kernel
theorem dX4_fewest_22 : decode cX4_fewest 22 = .ok (.iconst 1, 1) := by decide +kernel
theorem dX4_fewest_23 : decode cX4_fewest 23 = .ok (.goto 4, 3) := by decide +kernel
theorem dX4_fewest_26 : decode cX4_fewest 26 = .ok (.iconst 0, 1) := by decide +kernel
theorem dX4_fewest_27 : decode cX4_fewest 27 = .ok (.iadd, 1) := by decide +kernel
theorem dX4_fewest_28 : decode cX4_fewest 28 = .ok (.istore_n 1, 1) := by decide +kernel
theorem dX4_fewest_29 : decode cX4_fewest 29 = .ok (.iinc 2 1, 3) := by decide +kernel
theorem dX4_fewest_32 : decode cX4_fewest 32 = .ok (.goto (-28), 3) := by decide +kernel
theorem dX4_fewest_35 : decode cX4_fewest 35 = .ok (.iload_n 1, 1) := by decide +kernel
theorem dX4_fewest_36 : decode cX4_fewest 36 = .ok (.ifCond .ne 5, 3) := by decide +kernel
theorem dX4_fewest_39 : decode cX4_fewest 39 = .ok (.iconst 0, 1) := by decide +kernel
theorem dX4_fewest_40 : decode cX4_fewest 40 = .ok (.ireturn, 1) := by decide +kernel
theorem dX4_fewest_41 : decode cX4_fewest 41 = .ok (.aload_n 0, 1) := by decide +kernel
theorem dX4_fewest_42 : decode cX4_fewest 42 = .ok (.invokevirtual 225, 3) := by decide +kernel
theorem dX4_fewest_45 : decode cX4_fewest 45 = .ok (.istore_n 2, 1) := by decide +kernel
theorem dX4_fewest_46 : decode cX4_fewest 46 = .ok (.iconst 0, 1) := by decide +kernel
theorem dX4_fewest_47 : decode cX4_fewest 47 = .ok (.istore_n 3, 1) := by decide +kernel
theorem dX4_fewest_48 : decode cX4_fewest 48 = .ok (.iload_n 3, 1) := by decide +kernel
theorem dX4_fewest_49 : decode cX4_fewest 49 = .ok (.bipush 6, 2) := by decide +kernel
theorem dX4_fewest_51 : decode cX4_fewest 51 = .ok (.if_icmp .ge 29, 3) := by decide +kernel
theorem dX4_fewest_54 : decode cX4_fewest 54 = .ok (.iload_n 2, 1) := by decide +kernel
theorem dX4_fewest_55 : decode cX4_fewest 55 = .ok (.aload_n 0, 1) := by decide +kernel
theorem dX4_fewest_56 : decode cX4_fewest 56 = .ok (.iload_n 3, 1) := by decide +kernel
theorem dX4_fewest_57 : decode cX4_fewest 57 = .ok (.invokevirtual 207, 3) := by decide +kernel
theorem dX4_fewest_60 : decode cX4_fewest 60 = .ok (.ifCond .eq 11, 3) := by decide +kernel
theorem dX4_fewest_63 : decode cX4_fewest 63 = .ok (.iconst 1, 1) := by decide +kernel
theorem dX4_fewest_64 : decode cX4_fewest 64 = .ok (.iload_n 3, 1) := by decide +kernel
theorem dX4_fewest_65 : decode cX4_fewest 65 = .ok (.ishl, 1) := by decide +kernel
theorem dX4_fewest_66 : decode cX4_fewest 66 = .ok (.iconst (-1), 1) := by decide +kernel
theorem dX4_fewest_67 : decode cX4_fewest 67 = .ok (.ixor, 1) := by decide +kernel
theorem dX4_fewest_68 : decode cX4_fewest 68 = .ok (.goto 4, 3) := by decide +kernel
theorem dX4_fewest_71 : decode cX4_fewest 71 = .ok (.iconst (-1), 1) := by decide +kernel
theorem dX4_fewest_72 : decode cX4_fewest 72 = .ok (.iand, 1) := by decide +kernel
theorem dX4_fewest_73 : decode cX4_fewest 73 = .ok (.istore_n 2, 1) := by decide +kernel
theorem dX4_fewest_74 : decode cX4_fewest 74 = .ok (.iinc 3 1, 3) := by decide +kernel
theorem dX4_fewest_77 : decode cX4_fewest 77 = .ok (.goto (-29), 3) := by decide +kernel
theorem dX4_fewest_80 : decode cX4_fewest 80 = .ok (.iconst (-1), 1) := by decide +kernel
theorem dX4_fewest_81 : decode cX4_fewest 81 = .ok (.istore_n 3, 1) := by decide +kernel
theorem dX4_fewest_82 : decode cX4_fewest 82 = .ok (.iconst 1, 1) := by decide +kernel
theorem dX4_fewest_83 : decode cX4_fewest 83 = .ok (.istore 4, 2) := by decide +kernel
theorem dX4_fewest_85 : decode cX4_fewest 85 = .ok (.iload 4, 2) := by decide +kernel
theorem dX4_fewest_87 : decode cX4_fewest 87 = .ok (.bipush 64, 2) := by decide +kernel
theorem dX4_fewest_89 : decode cX4_fewest 89 = .ok (.if_icmp .ge 100, 3) := by decide +kernel
theorem dX4_fewest_92 : decode cX4_fewest 92 = .ok (.iconst 0, 1) := by decide +kernel
theorem dX4_fewest_93 : decode cX4_fewest 93 = .ok (.istore 5, 2) := by decide +kernel
theorem dX4_fewest_95 : decode cX4_fewest 95 = .ok (.iconst 0, 1) := by decide +kernel
theorem dX4_fewest_96 : decode cX4_fewest 96 = .ok (.istore 6, 2) := by decide +kernel
theorem dX4_fewest_98 : decode cX4_fewest 98 = .ok (.iload 6, 2) := by decide +kernel
theorem dX4_fewest_100 : decode cX4_fewest 100 = .ok (.bipush 6, 2) := by decide +kernel
theorem dX4_fewest_102 : decode cX4_fewest 102 = .ok (.if_icmp .ge 50, 3) := by decide +kernel
theorem dX4_fewest_105 : decode cX4_fewest 105 = .ok (.iload 5, 2) := by decide +kernel
theorem dX4_fewest_107 : decode cX4_fewest 107 = .ok (.iload 4, 2) := by decide +kernel
theorem dX4_fewest_109 : decode cX4_fewest 109 = .ok (.iload_n 2, 1) := by decide +kernel
theorem dX4_fewest_110 : decode cX4_fewest 110 = .ok (.iand, 1) := by decide +kernel
theorem dX4_fewest_111 : decode cX4_fewest 111 = .ok (.iload 4, 2) := by decide +kernel
theorem dX4_fewest_113 : decode cX4_fewest 113 = .ok (.if_icmp .ne 29, 3) := by decide +kernel
theorem dX4_fewest_116 : decode cX4_fewest 116 = .ok (.iload 4, 2) := by decide +kernel
theorem dX4_fewest_118 : decode cX4_fewest 118 = .ok (.iload 6, 2) := by decide +kernel
theorem dX4_fewest_120 : decode cX4_fewest 120 = .ok (.ishr, 1) := by decide +kernel
theorem dX4_fewest_121 : decode cX4_fewest 121 = .ok (.iconst 1, 1) := by decide +kernel
theorem dX4_fewest_122 : decode cX4_fewest 122 = .ok (.iand, 1) := by decide +kernel
theorem dX4_fewest_123 : decode cX4_fewest 123 = .ok (.iconst 1, 1) := by decide +kernel
theorem dX4_fewest_124 : decode cX4_fewest 124 = .ok (.if_icmp .ne 18, 3) := by decide +kernel
theorem dX4_fewest_127 : decode cX4_fewest 127 = .ok (.aload_n 0, 1) := by decide +kernel
theorem dX4_fewest_128 : decode cX4_fewest 128 = .ok (.getfield 13, 3) := by decide +kernel
theorem dX4_fewest_131 : decode cX4_fewest 131 = .ok (.aload_n 0, 1) := by decide +kernel
theorem dX4_fewest_132 : decode cX4_fewest 132 = .ok (.getfield 57, 3) := by decide +kernel
theorem dX4_fewest_135 : decode cX4_fewest 135 = .ok (.iload 6, 2) := by decide +kernel
theorem dX4_fewest_137 : decode cX4_fewest 137 = .ok (.iaload, 1) := by decide +kernel
theorem dX4_fewest_138 : decode cX4_fewest 138 = .ok (.iaload, 1) := by decide +kernel
theorem dX4_fewest_139 : decode cX4_fewest 139 = .ok (.goto 4, 3) := by decide +kernel
theorem dX4_fewest_142 : decode cX4_fewest 142 = .ok (.iconst 0, 1) := by decide +kernel
theorem dX4_fewest_143 : decode cX4_fewest 143 = .ok (.iadd, 1) := by decide +kernel
theorem dX4_fewest_144 : decode cX4_fewest 144 = .ok (.istore 5, 2) := by decide +kernel
theorem dX4_fewest_146 : decode cX4_fewest 146 = .ok (.iinc 6 1, 3) := by decide +kernel
theorem dX4_fewest_149 : decode cX4_fewest 149 = .ok (.goto (-51), 3) := by decide +kernel
theorem dX4_fewest_152 : decode cX4_fewest 152 = .ok (.iload 4, 2) := by decide +kernel
theorem dX4_fewest_154 : decode cX4_fewest 154 = .ok (.iload_n 2, 1) := by decide +kernel
theorem dX4_fewest_155 : decode cX4_fewest 155 = .ok (.iand, 1) := by decide +kernel
theorem dX4_fewest_156 : decode cX4_fewest 156 = .ok (.iload 4, 2) := by decide +kernel
theorem dX4_fewest_158 : decode cX4_fewest 158 = .ok (.if_icmp .ne 25, 3) := by decide +kernel
theorem dX4_fewest_161 : decode cX4_fewest 161 = .ok (.iload_n 3, 1) := by decide +kernel
theorem dX4_fewest_162 : decode cX4_fewest 162 = .ok (.ifCond .lt 9, 3) := by decide +kernel
theorem dX4_fewest_165 : decode cX4_fewest 165 = .ok (.iload 5, 2) := by decide +kernel
theorem dX4_fewest_167 : decode cX4_fewest 167 = .ok (.iload_n 3, 1) := by decide +kernel
theorem dX4_fewest_168 : decode cX4_fewest 168 = .ok (.if_icmp .ge 15, 3) := by decide +kernel
theorem dX4_fewest_171 : decode cX4_fewest 171 = .ok (.aload_n 0, 1) := by decide +kernel
theorem dX4_fewest_172 : decode cX4_fewest 172 = .ok (.iload 4, 2) := by decide +kernel
theorem dX4_fewest_174 : decode cX4_fewest 174 = .ok (.invokevirtual 233, 3) := by decide +kernel
theorem dX4_fewest_177 : decode cX4_fewest 177 = .ok (.ifCond .eq 6, 3) := by decide +kernel
theorem dX4_fewest_180 : decode cX4_fewest 180 = .ok (.iload 5, 2) := by decide +kernel
theorem dX4_fewest_182 : decode cX4_fewest 182 = .ok (.istore_n 3, 1) := by decide +kernel
theorem dX4_fewest_183 : decode cX4_fewest 183 = .ok (.iinc 4 1, 3) := by decide +kernel
theorem dX4_fewest_186 : decode cX4_fewest 186 = .ok (.goto (-101), 3) := by decide +kernel
theorem dX4_fewest_189 : decode cX4_fewest 189 = .ok (.iload_n 3, 1) := by decide +kernel
theorem dX4_fewest_190 : decode cX4_fewest 190 = .ok (.ireturn, 1) := by decide +kernel
theorem dX4_stage_0 : decode cX4_stage 0 = .ok (.iload_n 1, 1) := by decide +kernel
theorem dX4_stage_1 : decode cX4_stage 1 = .ok (.ifCond .lt 18, 3) := by decide +kernel
theorem dX4_stage_4 : decode cX4_stage 4 = .ok (.iload_n 1, 1) := by decide +kernel
theorem dX4_stage_5 : decode cX4_stage 5 = .ok (.bipush 8, 2) := by decide +kernel
theorem dX4_stage_7 : decode cX4_stage 7 = .ok (.if_icmp .gt 12, 3) := by decide +kernel
theorem dX4_stage_10 : decode cX4_stage 10 = .ok (.aload_n 0, 1) := by decide +kernel
theorem dX4_stage_11 : decode cX4_stage 11 = .ok (.getfield 146, 3) := by decide +kernel
theorem dX4_stage_14 : decode cX4_stage 14 = .ok (.bipush 10, 2) := by decide +kernel
theorem dX4_stage_16 : decode cX4_stage 16 = .ok (.if_icmp .ne 6, 3) := by decide +kernel
theorem dX4_stage_19 : decode cX4_stage 19 = .ok (.bipush (-2), 2) := by decide +kernel
theorem dX4_stage_21 : decode cX4_stage 21 = .ok (.ireturn, 1) := by decide +kernel
theorem dX4_stage_22 : decode cX4_stage 22 = .ok (.aload_n 0, 1) := by decide +kernel
theorem dX4_stage_23 : decode cX4_stage 23 = .ok (.getfield 72, 3) := by decide +kernel
theorem dX4_stage_26 : decode cX4_stage 26 = .ok (.aload_n 0, 1) := by decide +kernel
theorem dX4_stage_27 : decode cX4_stage 27 = .ok (.getfield 146, 3) := by decide +kernel
theorem dX4_stage_30 : decode cX4_stage 30 = .ok (.iload_n 1, 1) := by decide +kernel
theorem dX4_stage_31 : decode cX4_stage 31 = .ok (.iastore, 1) := by decide +kernel
theorem dX4_stage_32 : decode cX4_stage 32 = .ok (.aload_n 0, 1) := by decide +kernel
theorem dX4_stage_33 : decode cX4_stage 33 = .ok (.dup, 1) := by decide +kernel
theorem dX4_stage_34 : decode cX4_stage 34 = .ok (.getfield 146, 3) := by decide +kernel
theorem dX4_stage_37 : decode cX4_stage 37 = .ok (.iconst 1, 1) := by decide +kernel
theorem dX4_stage_38 : decode cX4_stage 38 = .ok (.iadd, 1) := by decide +kernel
theorem dX4_stage_39 : decode cX4_stage 39 = .ok (.putfield 146, 3) := by decide +kernel
theorem dX4_stage_42 : decode cX4_stage 42 = .ok (.aload_n 0, 1) := by decide +kernel
theorem dX4_stage_43 : decode cX4_stage 43 = .ok (.getfield 146, 3) := by decide +kernel
theorem dX4_stage_46 : decode cX4_stage 46 = .ok (.ireturn, 1) := by decide +kernel
theorem dX4_unstage_0 : decode cX4_unstage 0 = .ok (.aload_n 0, 1) := by decide +kernel
theorem dX4_unstage_1 : decode cX4_unstage 1 = .ok (.getfield 146, 3) := by decide +kernel
theorem dX4_unstage_4 : decode cX4_unstage 4 = .ok (.ifCond .ne 6, 3) := by decide +kernel
theorem dX4_unstage_7 : decode cX4_unstage 7 = .ok (.bipush (-2), 2) := by decide +kernel
theorem dX4_unstage_9 : decode cX4_unstage 9 = .ok (.ireturn, 1) := by decide +kernel
theorem dX4_unstage_10 : decode cX4_unstage 10 = .ok (.aload_n 0, 1) := by decide +kernel
theorem dX4_unstage_11 : decode cX4_unstage 11 = .ok (.dup, 1) := by decide +kernel
theorem dX4_unstage_12 : decode cX4_unstage 12 = .ok (.getfield 146, 3) := by decide +kernel
theorem dX4_unstage_15 : decode cX4_unstage 15 = .ok (.iconst 1, 1) := by decide +kernel
theorem dX4_unstage_16 : decode cX4_unstage 16 = .ok (.isub, 1) := by decide +kernel
theorem dX4_unstage_17 : decode cX4_unstage 17 = .ok (.putfield 146, 3) := by decide +kernel
theorem dX4_unstage_20 : decode cX4_unstage 20 = .ok (.aload_n 0, 1) := by decide +kernel
theorem dX4_unstage_21 : decode cX4_unstage 21 = .ok (.getfield 72, 3) := by decide +kernel
theorem dX4_unstage_24 : decode cX4_unstage 24 = .ok (.aload_n 0, 1) := by decide +kernel
theorem dX4_unstage_25 : decode cX4_unstage 25 = .ok (.getfield 146, 3) := by decide +kernel
theorem dX4_unstage_28 : decode cX4_unstage 28 = .ok (.iaload, 1) := by decide +kernel
theorem dX4_unstage_29 : decode cX4_unstage 29 = .ok (.ireturn, 1) := by decide +kernel
theorem dX4_product_0 : decode cX4_product 0 = .ok (.lconst 1, 1) := by decide +kernel
theorem dX4_product_1 : decode cX4_product 1 = .ok (.lstore_n 2, 1) := by decide +kernel
theorem dX4_product_2 : decode cX4_product 2 = .ok (.iconst 0, 1) := by decide +kernel
theorem dX4_product_3 : decode cX4_product 3 = .ok (.istore 4, 2) := by decide +kernel
theorem dX4_product_5 : decode cX4_product 5 = .ok (.iload 4, 2) := by decide +kernel
theorem dX4_product_7 : decode cX4_product 7 = .ok (.iload_n 1, 1) := by decide +kernel
theorem dX4_product_8 : decode cX4_product 8 = .ok (.if_icmp .ge 20, 3) := by decide +kernel
theorem dX4_product_11 : decode cX4_product 11 = .ok (.lload_n 2, 1) := by decide +kernel
theorem dX4_product_12 : decode cX4_product 12 = .ok (.aload_n 0, 1) := by decide +kernel
theorem dX4_product_13 : decode cX4_product 13 = .ok (.getfield 72, 3) := by decide +kernel
theorem dX4_product_16 : decode cX4_product 16 = .ok (.iload 4, 2) := by decide +kernel
theorem dX4_product_18 : decode cX4_product 18 = .ok (.iaload, 1) := by decide +kernel
theorem dX4_product_19 : decode cX4_product 19 = .ok (.i2l, 1) := by decide +kernel
theorem dX4_product_20 : decode cX4_product 20 = .ok (.lmul, 1) := by decide +kernel
theorem dX4_product_21 : decode cX4_product 21 = .ok (.lstore_n 2, 1) := by decide +kernel
theorem dX4_product_22 : decode cX4_product 22 = .ok (.iinc 4 1, 3) := by decide +kernel
theorem dX4_product_25 : decode cX4_product 25 = .ok (.goto (-20), 3) := by decide +kernel
theorem dX4_product_28 : decode cX4_product 28 = .ok (.lload_n 2, 1) := by decide +kernel
theorem dX4_product_29 : decode cX4_product 29 = .ok (.lreturn, 1) := by decide +kernel
theorem dX4_lowest_0 : decode cX4_lowest 0 = .ok (.lload_n 0, 1) := by decide +kernel
theorem dX4_lowest_1 : decode cX4_lowest 1 = .ok (.lstore 5, 2) := by decide +kernel
theorem dX4_lowest_3 : decode cX4_lowest 3 = .ok (.lload_n 2, 1) := by decide +kernel
theorem dX4_lowest_4 : decode cX4_lowest 4 = .ok (.lstore 7, 2) := by decide +kernel
theorem dX4_lowest_6 : decode cX4_lowest 6 = .ok (.lload 7, 2) := by decide +kernel
theorem dX4_lowest_8 : decode cX4_lowest 8 = .ok (.lconst 0, 1) := by decide +kernel
theorem dX4_lowest_9 : decode cX4_lowest 9 = .ok (.lcmp, 1) := by decide +kernel
theorem dX4_lowest_10 : decode cX4_lowest 10 = .ok (.ifCond .eq 21, 3) := by decide +kernel
theorem dX4_lowest_13 : decode cX4_lowest 13 = .ok (.lload 5, 2) := by decide +kernel
theorem dX4_lowest_15 : decode cX4_lowest 15 = .ok (.lload 7, 2) := by decide +kernel
theorem dX4_lowest_17 : decode cX4_lowest 17 = .ok (.lrem, 1) := by decide +kernel
theorem dX4_lowest_18 : decode cX4_lowest 18 = .ok (.lstore 9, 2) := by decide +kernel
theorem dX4_lowest_20 : decode cX4_lowest 20 = .ok (.lload 7, 2) := by decide +kernel
theorem dX4_lowest_22 : decode cX4_lowest 22 = .ok (.lstore 5, 2) := by decide +kernel
theorem dX4_lowest_24 : decode cX4_lowest 24 = .ok (.lload 9, 2) := by decide +kernel
theorem dX4_lowest_26 : decode cX4_lowest 26 = .ok (.lstore 7, 2) := by decide +kernel
theorem dX4_lowest_28 : decode cX4_lowest 28 = .ok (.goto (-22), 3) := by decide +kernel
theorem dX4_lowest_31 : decode cX4_lowest 31 = .ok (.iload 4, 2) := by decide +kernel
theorem dX4_lowest_33 : decode cX4_lowest 33 = .ok (.ifCond .ne 10, 3) := by decide +kernel
theorem dX4_lowest_36 : decode cX4_lowest 36 = .ok (.lload_n 0, 1) := by decide +kernel
theorem dX4_lowest_37 : decode cX4_lowest 37 = .ok (.lload 5, 2) := by decide +kernel
theorem dX4_lowest_39 : decode cX4_lowest 39 = .ok (.ldiv, 1) := by decide +kernel
theorem dX4_lowest_40 : decode cX4_lowest 40 = .ok (.goto 7, 3) := by decide +kernel
theorem dX4_lowest_43 : decode cX4_lowest 43 = .ok (.lload_n 2, 1) := by decide +kernel
theorem dX4_lowest_44 : decode cX4_lowest 44 = .ok (.lload 5, 2) := by decide +kernel
theorem dX4_lowest_46 : decode cX4_lowest 46 = .ok (.ldiv, 1) := by decide +kernel
theorem dX4_lowest_47 : decode cX4_lowest 47 = .ok (.lreturn, 1) := by decide +kernel
theorem dX4_pull_0 : decode cX4_pull 0 = .ok (.aload_n 0, 1) := by decide +kernel
theorem dX4_pull_1 : decode cX4_pull 1 = .ok (.aload_n 0, 1) := by decide +kernel
theorem dX4_pull_2 : decode cX4_pull 2 = .ok (.getfield 146, 3) := by decide +kernel
theorem dX4_pull_5 : decode cX4_pull 5 = .ok (.invokevirtual 236, 3) := by decide +kernel
theorem dX4_pull_8 : decode cX4_pull 8 = .ok (.lstore_n 3, 1) := by decide +kernel
theorem dX4_pull_9 : decode cX4_pull 9 = .ok (.lload_n 3, 1) := by decide +kernel
theorem dX4_pull_10 : decode cX4_pull 10 = .ok (.lconst 0, 1) := by decide +kernel
theorem dX4_pull_11 : decode cX4_pull 11 = .ok (.lcmp, 1) := by decide +kernel
theorem dX4_pull_12 : decode cX4_pull 12 = .ok (.ifCond .ne 7, 3) := by decide +kernel
theorem dX4_pull_15 : decode cX4_pull 15 = .ok (.ldc2_w 194, 3) := by decide +kernel
theorem dX4_pull_18 : decode cX4_pull 18 = .ok (.lreturn, 1) := by decide +kernel
theorem dX4_pull_19 : decode cX4_pull 19 = .ok (.iload_n 1, 1) := by decide +kernel
theorem dX4_pull_20 : decode cX4_pull 20 = .ok (.ifCond .lt 18, 3) := by decide +kernel
theorem dX4_pull_23 : decode cX4_pull 23 = .ok (.iload_n 1, 1) := by decide +kernel
theorem dX4_pull_24 : decode cX4_pull 24 = .ok (.ldc 178, 2) := by decide +kernel
theorem dX4_pull_26 : decode cX4_pull 26 = .ok (.if_icmp .gt 12, 3) := by decide +kernel
theorem dX4_pull_29 : decode cX4_pull 29 = .ok (.iload_n 2, 1) := by decide +kernel
theorem dX4_pull_30 : decode cX4_pull 30 = .ok (.ifCond .lt 8, 3) := by decide +kernel
theorem dX4_pull_33 : decode cX4_pull 33 = .ok (.iload_n 2, 1) := by decide +kernel
theorem dX4_pull_34 : decode cX4_pull 34 = .ok (.iconst 1, 1) := by decide +kernel
theorem dX4_pull_35 : decode cX4_pull 35 = .ok (.if_icmp .le 9, 3) := by decide +kernel
theorem dX4_pull_38 : decode cX4_pull 38 = .ok (.ldc2_w 176, 3) := by decide +kernel
theorem dX4_pull_41 : decode cX4_pull 41 = .ok (.goto 10, 3) := by decide +kernel
theorem dX4_pull_44 : decode cX4_pull 44 = .ok (.iload_n 1, 1) := by decide +kernel
theorem dX4_pull_45 : decode cX4_pull 45 = .ok (.i2l, 1) := by decide +kernel
theorem dX4_pull_46 : decode cX4_pull 46 = .ok (.lload_n 3, 1) := by decide +kernel
theorem dX4_pull_47 : decode cX4_pull 47 = .ok (.iload_n 2, 1) := by decide +kernel
theorem dX4_pull_48 : decode cX4_pull 48 = .ok (.invokestatic 240, 3) := by decide +kernel
theorem dX4_pull_51 : decode cX4_pull 51 = .ok (.lreturn, 1) := by decide +kernel
theorem dX4_stress_0 : decode cX4_stress 0 = .ok (.iload_n 1, 1) := by decide +kernel
theorem dX4_stress_1 : decode cX4_stress 1 = .ok (.ifCond .lt 30, 3) := by decide +kernel
theorem dX4_stress_4 : decode cX4_stress 4 = .ok (.iload_n 1, 1) := by decide +kernel
theorem dX4_stress_5 : decode cX4_stress 5 = .ok (.aload_n 0, 1) := by decide +kernel
theorem dX4_stress_6 : decode cX4_stress 6 = .ok (.getfield 146, 3) := by decide +kernel
theorem dX4_stress_9 : decode cX4_stress 9 = .ok (.if_icmp .ge 22, 3) := by decide +kernel
theorem dX4_stress_12 : decode cX4_stress 12 = .ok (.iload_n 2, 1) := by decide +kernel
theorem dX4_stress_13 : decode cX4_stress 13 = .ok (.ifCond .lt 18, 3) := by decide +kernel
theorem dX4_stress_16 : decode cX4_stress 16 = .ok (.iload_n 2, 1) := by decide +kernel
theorem dX4_stress_17 : decode cX4_stress 17 = .ok (.ldc 178, 2) := by decide +kernel
theorem dX4_stress_19 : decode cX4_stress 19 = .ok (.if_icmp .gt 12, 3) := by decide +kernel
theorem dX4_stress_22 : decode cX4_stress 22 = .ok (.iload_n 3, 1) := by decide +kernel
theorem dX4_stress_23 : decode cX4_stress 23 = .ok (.ifCond .lt 8, 3) := by decide +kernel
theorem dX4_stress_26 : decode cX4_stress 26 = .ok (.iload_n 3, 1) := by decide +kernel
theorem dX4_stress_27 : decode cX4_stress 27 = .ok (.iconst 1, 1) := by decide +kernel
theorem dX4_stress_28 : decode cX4_stress 28 = .ok (.if_icmp .le 7, 3) := by decide +kernel
theorem dX4_stress_31 : decode cX4_stress 31 = .ok (.ldc2_w 176, 3) := by decide +kernel
theorem dX4_stress_34 : decode cX4_stress 34 = .ok (.lreturn, 1) := by decide +kernel
theorem dX4_stress_35 : decode cX4_stress 35 = .ok (.aload_n 0, 1) := by decide +kernel
theorem dX4_stress_36 : decode cX4_stress 36 = .ok (.iload_n 1, 1) := by decide +kernel
theorem dX4_stress_37 : decode cX4_stress 37 = .ok (.iconst 1, 1) := by decide +kernel
theorem dX4_stress_38 : decode cX4_stress 38 = .ok (.iadd, 1) := by decide +kernel
theorem dX4_stress_39 : decode cX4_stress 39 = .ok (.invokevirtual 236, 3) := by decide +kernel
theorem dX4_stress_42 : decode cX4_stress 42 = .ok (.lstore 4, 2) := by decide +kernel
theorem dX4_stress_44 : decode cX4_stress 44 = .ok (.lload 4, 2) := by decide +kernel
theorem dX4_stress_46 : decode cX4_stress 46 = .ok (.lconst 0, 1) := by decide +kernel
theorem dX4_stress_47 : decode cX4_stress 47 = .ok (.lcmp, 1) := by decide +kernel
theorem dX4_stress_48 : decode cX4_stress 48 = .ok (.ifCond .ne 9, 3) := by decide +kernel
theorem dX4_stress_51 : decode cX4_stress 51 = .ok (.ldc2_w 194, 3) := by decide +kernel
theorem dX4_stress_54 : decode cX4_stress 54 = .ok (.goto 11, 3) := by decide +kernel
theorem dX4_stress_57 : decode cX4_stress 57 = .ok (.iload_n 2, 1) := by decide +kernel
theorem dX4_stress_58 : decode cX4_stress 58 = .ok (.i2l, 1) := by decide +kernel
theorem dX4_stress_59 : decode cX4_stress 59 = .ok (.lload 4, 2) := by decide +kernel
theorem dX4_stress_61 : decode cX4_stress 61 = .ok (.iload_n 3, 1) := by decide +kernel
theorem dX4_stress_62 : decode cX4_stress 62 = .ok (.invokestatic 240, 3) := by decide +kernel
theorem dX4_stress_65 : decode cX4_stress 65 = .ok (.lreturn, 1) := by decide +kernel
end
section
theorem dL_law_0 : decode cL_law 0 = .ok (.new 7, 3) := by decide +kernel
theorem dL_law_3 : decode cL_law 3 = .ok (.dup, 1) := by decide +kernel
theorem dL_law_4 : decode cL_law 4 = .ok (.invokespecial 9, 3) := by decide +kernel
theorem dL_law_7 : decode cL_law 7 = .ok (.astore_n 1, 1) := by decide +kernel
theorem dL_law_8 : decode cL_law 8 = .ok (.new 10, 3) := by decide +kernel
theorem dL_law_11 : decode cL_law 11 = .ok (.dup, 1) := by decide +kernel
theorem dL_law_12 : decode cL_law 12 = .ok (.invokespecial 12, 3) := by decide +kernel
theorem dL_law_15 : decode cL_law 15 = .ok (.astore_n 2, 1) := by decide +kernel
theorem dL_law_16 : decode cL_law 16 = .ok (.iconst 0, 1) := by decide +kernel
theorem dL_law_17 : decode cL_law 17 = .ok (.istore_n 3, 1) := by decide +kernel
theorem dL_law_18 : decode cL_law 18 = .ok (.iload_n 3, 1) := by decide +kernel
theorem dL_law_19 : decode cL_law 19 = .ok (.aload_n 0, 1) := by decide +kernel
theorem dL_law_20 : decode cL_law 20 = .ok (.arraylength, 1) := by decide +kernel
theorem dL_law_21 : decode cL_law 21 = .ok (.bipush 6, 2) := by decide +kernel
theorem dL_law_23 : decode cL_law 23 = .ok (.isub, 1) := by decide +kernel
theorem dL_law_24 : decode cL_law 24 = .ok (.if_icmp .gt 1277, 3) := by decide +kernel
theorem dL_law_27 : decode cL_law 27 = .ok (.aload_n 0, 1) := by decide +kernel
theorem dL_law_28 : decode cL_law 28 = .ok (.iload_n 3, 1) := by decide +kernel
theorem dL_law_29 : decode cL_law 29 = .ok (.iaload, 1) := by decide +kernel
theorem dL_law_30 : decode cL_law 30 = .ok (.bipush 63, 2) := by decide +kernel
theorem dL_law_32 : decode cL_law 32 = .ok (.iand, 1) := by decide +kernel
theorem dL_law_33 : decode cL_law 33 = .ok (.tableswitch 1262 0 32 #[147, 180, 213, 236, 249, 292, 335, 358, 391, 424, 447, 480, 503, 566, 629, 690, 741, 764, 788, 849, 910, 954, 987, 1010, 1043, 1076, 1099, 1122, 1135, 1148, 1171, 1184, 1218], 147) := by decide +kernel
theorem dL_law_180 : decode cL_law 180 = .ok (.aload_n 1, 1) := by decide +kernel
theorem dL_law_181 : decode cL_law 181 = .ok (.aload_n 0, 1) := by decide +kernel
theorem dL_law_182 : decode cL_law 182 = .ok (.iload_n 3, 1) := by decide +kernel
theorem dL_law_183 : decode cL_law 183 = .ok (.iconst 1, 1) := by decide +kernel
theorem dL_law_184 : decode cL_law 184 = .ok (.iadd, 1) := by decide +kernel
theorem dL_law_185 : decode cL_law 185 = .ok (.iaload, 1) := by decide +kernel
theorem dL_law_186 : decode cL_law 186 = .ok (.aload_n 0, 1) := by decide +kernel
theorem dL_law_187 : decode cL_law 187 = .ok (.iload_n 3, 1) := by decide +kernel
theorem dL_law_188 : decode cL_law 188 = .ok (.iconst 2, 1) := by decide +kernel
theorem dL_law_189 : decode cL_law 189 = .ok (.iadd, 1) := by decide +kernel
theorem dL_law_190 : decode cL_law 190 = .ok (.iaload, 1) := by decide +kernel
theorem dL_law_191 : decode cL_law 191 = .ok (.invokevirtual 13, 3) := by decide +kernel
theorem dL_law_194 : decode cL_law 194 = .ok (.aload_n 2, 1) := by decide +kernel
theorem dL_law_195 : decode cL_law 195 = .ok (.aload_n 0, 1) := by decide +kernel
theorem dL_law_196 : decode cL_law 196 = .ok (.iload_n 3, 1) := by decide +kernel
theorem dL_law_197 : decode cL_law 197 = .ok (.iconst 1, 1) := by decide +kernel
theorem dL_law_198 : decode cL_law 198 = .ok (.iadd, 1) := by decide +kernel
theorem dL_law_199 : decode cL_law 199 = .ok (.iaload, 1) := by decide +kernel
theorem dL_law_200 : decode cL_law 200 = .ok (.aload_n 0, 1) := by decide +kernel
theorem dL_law_201 : decode cL_law 201 = .ok (.iload_n 3, 1) := by decide +kernel
theorem dL_law_202 : decode cL_law 202 = .ok (.iconst 2, 1) := by decide +kernel
theorem dL_law_203 : decode cL_law 203 = .ok (.iadd, 1) := by decide +kernel
theorem dL_law_204 : decode cL_law 204 = .ok (.iaload, 1) := by decide +kernel
theorem dL_law_205 : decode cL_law 205 = .ok (.invokevirtual 17, 3) := by decide +kernel
theorem dL_law_208 : decode cL_law 208 = .ok (.if_icmp .eq 1087, 3) := by decide +kernel
theorem dL_law_211 : decode cL_law 211 = .ok (.iconst 0, 1) := by decide +kernel
theorem dL_law_212 : decode cL_law 212 = .ok (.ireturn, 1) := by decide +kernel
theorem dL_law_213 : decode cL_law 213 = .ok (.aload_n 1, 1) := by decide +kernel
theorem dL_law_214 : decode cL_law 214 = .ok (.aload_n 0, 1) := by decide +kernel
theorem dL_law_215 : decode cL_law 215 = .ok (.iload_n 3, 1) := by decide +kernel
theorem dL_law_216 : decode cL_law 216 = .ok (.iconst 1, 1) := by decide +kernel
theorem dL_law_217 : decode cL_law 217 = .ok (.iadd, 1) := by decide +kernel
theorem dL_law_218 : decode cL_law 218 = .ok (.iaload, 1) := by decide +kernel
theorem dL_law_219 : decode cL_law 219 = .ok (.aload_n 0, 1) := by decide +kernel
theorem dL_law_220 : decode cL_law 220 = .ok (.iload_n 3, 1) := by decide +kernel
theorem dL_law_221 : decode cL_law 221 = .ok (.iconst 2, 1) := by decide +kernel
theorem dL_law_222 : decode cL_law 222 = .ok (.iadd, 1) := by decide +kernel
theorem dL_law_223 : decode cL_law 223 = .ok (.iaload, 1) := by decide +kernel
theorem dL_law_224 : decode cL_law 224 = .ok (.invokevirtual 18, 3) := by decide +kernel
theorem dL_law_227 : decode cL_law 227 = .ok (.aload_n 2, 1) := by decide +kernel
theorem dL_law_228 : decode cL_law 228 = .ok (.aload_n 0, 1) := by decide +kernel
theorem dL_law_229 : decode cL_law 229 = .ok (.iload_n 3, 1) := by decide +kernel
theorem dL_law_230 : decode cL_law 230 = .ok (.iconst 1, 1) := by decide +kernel
theorem dL_law_231 : decode cL_law 231 = .ok (.iadd, 1) := by decide +kernel
theorem dL_law_232 : decode cL_law 232 = .ok (.iaload, 1) := by decide +kernel
theorem dL_law_233 : decode cL_law 233 = .ok (.aload_n 0, 1) := by decide +kernel
theorem dL_law_234 : decode cL_law 234 = .ok (.iload_n 3, 1) := by decide +kernel
theorem dL_law_235 : decode cL_law 235 = .ok (.iconst 2, 1) := by decide +kernel
theorem dL_law_236 : decode cL_law 236 = .ok (.iadd, 1) := by decide +kernel
theorem dL_law_237 : decode cL_law 237 = .ok (.iaload, 1) := by decide +kernel
theorem dL_law_238 : decode cL_law 238 = .ok (.invokevirtual 21, 3) := by decide +kernel
theorem dL_law_241 : decode cL_law 241 = .ok (.if_icmp .eq 1054, 3) := by decide +kernel
theorem dL_law_244 : decode cL_law 244 = .ok (.iconst 0, 1) := by decide +kernel
theorem dL_law_245 : decode cL_law 245 = .ok (.ireturn, 1) := by decide +kernel
theorem dL_law_246 : decode cL_law 246 = .ok (.aload_n 1, 1) := by decide +kernel
theorem dL_law_247 : decode cL_law 247 = .ok (.aload_n 0, 1) := by decide +kernel
theorem dL_law_248 : decode cL_law 248 = .ok (.iload_n 3, 1) := by decide +kernel
theorem dL_law_249 : decode cL_law 249 = .ok (.iconst 1, 1) := by decide +kernel
theorem dL_law_250 : decode cL_law 250 = .ok (.iadd, 1) := by decide +kernel
theorem dL_law_251 : decode cL_law 251 = .ok (.iaload, 1) := by decide +kernel
theorem dL_law_252 : decode cL_law 252 = .ok (.invokevirtual 22, 3) := by decide +kernel
theorem dL_law_255 : decode cL_law 255 = .ok (.aload_n 2, 1) := by decide +kernel
theorem dL_law_256 : decode cL_law 256 = .ok (.aload_n 0, 1) := by decide +kernel
theorem dL_law_257 : decode cL_law 257 = .ok (.iload_n 3, 1) := by decide +kernel
theorem dL_law_258 : decode cL_law 258 = .ok (.iconst 1, 1) := by decide +kernel
theorem dL_law_259 : decode cL_law 259 = .ok (.iadd, 1) := by decide +kernel
theorem dL_law_260 : decode cL_law 260 = .ok (.iaload, 1) := by decide +kernel
theorem dL_law_261 : decode cL_law 261 = .ok (.invokevirtual 26, 3) := by decide +kernel
theorem dL_law_264 : decode cL_law 264 = .ok (.if_icmp .eq 1031, 3) := by decide +kernel
theorem dL_law_267 : decode cL_law 267 = .ok (.iconst 0, 1) := by decide +kernel
theorem dL_law_268 : decode cL_law 268 = .ok (.ireturn, 1) := by decide +kernel
theorem dL_law_269 : decode cL_law 269 = .ok (.aload_n 1, 1) := by decide +kernel
theorem dL_law_270 : decode cL_law 270 = .ok (.invokevirtual 27, 3) := by decide +kernel
theorem dL_law_273 : decode cL_law 273 = .ok (.aload_n 2, 1) := by decide +kernel
theorem dL_law_274 : decode cL_law 274 = .ok (.invokevirtual 31, 3) := by decide +kernel
theorem dL_law_277 : decode cL_law 277 = .ok (.if_icmp .eq 1018, 3) := by decide +kernel
theorem dL_law_280 : decode cL_law 280 = .ok (.iconst 0, 1) := by decide +kernel
theorem dL_law_281 : decode cL_law 281 = .ok (.ireturn, 1) := by decide +kernel
theorem dL_law_282 : decode cL_law 282 = .ok (.aload_n 1, 1) := by decide +kernel
theorem dL_law_283 : decode cL_law 283 = .ok (.aload_n 0, 1) := by decide +kernel
theorem dL_law_284 : decode cL_law 284 = .ok (.iload_n 3, 1) := by decide +kernel
theorem dL_law_285 : decode cL_law 285 = .ok (.iconst 1, 1) := by decide +kernel
theorem dL_law_286 : decode cL_law 286 = .ok (.iadd, 1) := by decide +kernel
theorem dL_law_287 : decode cL_law 287 = .ok (.iaload, 1) := by decide +kernel
theorem dL_law_288 : decode cL_law 288 = .ok (.aload_n 0, 1) := by decide +kernel
theorem dL_law_289 : decode cL_law 289 = .ok (.iload_n 3, 1) := by decide +kernel
theorem dL_law_290 : decode cL_law 290 = .ok (.iconst 2, 1) := by decide +kernel
theorem dL_law_291 : decode cL_law 291 = .ok (.iadd, 1) := by decide +kernel
theorem dL_law_292 : decode cL_law 292 = .ok (.iaload, 1) := by decide +kernel
theorem dL_law_293 : decode cL_law 293 = .ok (.aload_n 0, 1) := by decide +kernel
theorem dL_law_294 : decode cL_law 294 = .ok (.iload_n 3, 1) := by decide +kernel
theorem dL_law_295 : decode cL_law 295 = .ok (.iconst 3, 1) := by decide +kernel
theorem dL_law_296 : decode cL_law 296 = .ok (.iadd, 1) := by decide +kernel
theorem dL_law_297 : decode cL_law 297 = .ok (.iaload, 1) := by decide +kernel
theorem dL_law_298 : decode cL_law 298 = .ok (.invokevirtual 32, 3) := by decide +kernel
theorem dL_law_301 : decode cL_law 301 = .ok (.aload_n 2, 1) := by decide +kernel
theorem dL_law_302 : decode cL_law 302 = .ok (.aload_n 0, 1) := by decide +kernel
theorem dL_law_303 : decode cL_law 303 = .ok (.iload_n 3, 1) := by decide +kernel
theorem dL_law_304 : decode cL_law 304 = .ok (.iconst 1, 1) := by decide +kernel
theorem dL_law_305 : decode cL_law 305 = .ok (.iadd, 1) := by decide +kernel
theorem dL_law_306 : decode cL_law 306 = .ok (.iaload, 1) := by decide +kernel
theorem dL_law_307 : decode cL_law 307 = .ok (.aload_n 0, 1) := by decide +kernel
theorem dL_law_308 : decode cL_law 308 = .ok (.iload_n 3, 1) := by decide +kernel
theorem dL_law_309 : decode cL_law 309 = .ok (.iconst 2, 1) := by decide +kernel
theorem dL_law_310 : decode cL_law 310 = .ok (.iadd, 1) := by decide +kernel
theorem dL_law_311 : decode cL_law 311 = .ok (.iaload, 1) := by decide +kernel
theorem dL_law_312 : decode cL_law 312 = .ok (.aload_n 0, 1) := by decide +kernel
theorem dL_law_313 : decode cL_law 313 = .ok (.iload_n 3, 1) := by decide +kernel
theorem dL_law_314 : decode cL_law 314 = .ok (.iconst 3, 1) := by decide +kernel
theorem dL_law_315 : decode cL_law 315 = .ok (.iadd, 1) := by decide +kernel
theorem dL_law_316 : decode cL_law 316 = .ok (.iaload, 1) := by decide +kernel
theorem dL_law_317 : decode cL_law 317 = .ok (.invokevirtual 36, 3) := by decide +kernel
theorem dL_law_320 : decode cL_law 320 = .ok (.if_icmp .eq 975, 3) := by decide +kernel
theorem dL_law_323 : decode cL_law 323 = .ok (.iconst 0, 1) := by decide +kernel
theorem dL_law_324 : decode cL_law 324 = .ok (.ireturn, 1) := by decide +kernel
theorem dL_law_325 : decode cL_law 325 = .ok (.aload_n 1, 1) := by decide +kernel
theorem dL_law_326 : decode cL_law 326 = .ok (.aload_n 0, 1) := by decide +kernel
theorem dL_law_327 : decode cL_law 327 = .ok (.iload_n 3, 1) := by decide +kernel
theorem dL_law_328 : decode cL_law 328 = .ok (.iconst 1, 1) := by decide +kernel
theorem dL_law_329 : decode cL_law 329 = .ok (.iadd, 1) := by decide +kernel
theorem dL_law_330 : decode cL_law 330 = .ok (.iaload, 1) := by decide +kernel
theorem dL_law_331 : decode cL_law 331 = .ok (.aload_n 0, 1) := by decide +kernel
theorem dL_law_332 : decode cL_law 332 = .ok (.iload_n 3, 1) := by decide +kernel
theorem dL_law_333 : decode cL_law 333 = .ok (.iconst 2, 1) := by decide +kernel
theorem dL_law_334 : decode cL_law 334 = .ok (.iadd, 1) := by decide +kernel
theorem dL_law_335 : decode cL_law 335 = .ok (.iaload, 1) := by decide +kernel
theorem dL_law_336 : decode cL_law 336 = .ok (.aload_n 0, 1) := by decide +kernel
theorem dL_law_337 : decode cL_law 337 = .ok (.iload_n 3, 1) := by decide +kernel
theorem dL_law_338 : decode cL_law 338 = .ok (.iconst 3, 1) := by decide +kernel
theorem dL_law_339 : decode cL_law 339 = .ok (.iadd, 1) := by decide +kernel
theorem dL_law_340 : decode cL_law 340 = .ok (.iaload, 1) := by decide +kernel
theorem dL_law_341 : decode cL_law 341 = .ok (.invokevirtual 37, 3) := by decide +kernel
theorem dL_law_344 : decode cL_law 344 = .ok (.aload_n 2, 1) := by decide +kernel
theorem dL_law_345 : decode cL_law 345 = .ok (.aload_n 0, 1) := by decide +kernel
theorem dL_law_346 : decode cL_law 346 = .ok (.iload_n 3, 1) := by decide +kernel
theorem dL_law_347 : decode cL_law 347 = .ok (.iconst 1, 1) := by decide +kernel
theorem dL_law_348 : decode cL_law 348 = .ok (.iadd, 1) := by decide +kernel
theorem dL_law_349 : decode cL_law 349 = .ok (.iaload, 1) := by decide +kernel
theorem dL_law_350 : decode cL_law 350 = .ok (.aload_n 0, 1) := by decide +kernel
theorem dL_law_351 : decode cL_law 351 = .ok (.iload_n 3, 1) := by decide +kernel
theorem dL_law_352 : decode cL_law 352 = .ok (.iconst 2, 1) := by decide +kernel
theorem dL_law_353 : decode cL_law 353 = .ok (.iadd, 1) := by decide +kernel
theorem dL_law_354 : decode cL_law 354 = .ok (.iaload, 1) := by decide +kernel
theorem dL_law_355 : decode cL_law 355 = .ok (.aload_n 0, 1) := by decide +kernel
theorem dL_law_356 : decode cL_law 356 = .ok (.iload_n 3, 1) := by decide +kernel
theorem dL_law_357 : decode cL_law 357 = .ok (.iconst 3, 1) := by decide +kernel
theorem dL_law_358 : decode cL_law 358 = .ok (.iadd, 1) := by decide +kernel
theorem dL_law_359 : decode cL_law 359 = .ok (.iaload, 1) := by decide +kernel
theorem dL_law_360 : decode cL_law 360 = .ok (.invokevirtual 40, 3) := by decide +kernel
theorem dL_law_363 : decode cL_law 363 = .ok (.if_icmp .eq 932, 3) := by decide +kernel
theorem dL_law_366 : decode cL_law 366 = .ok (.iconst 0, 1) := by decide +kernel
theorem dL_law_367 : decode cL_law 367 = .ok (.ireturn, 1) := by decide +kernel
theorem dL_law_368 : decode cL_law 368 = .ok (.aload_n 1, 1) := by decide +kernel
theorem dL_law_369 : decode cL_law 369 = .ok (.aload_n 0, 1) := by decide +kernel
theorem dL_law_370 : decode cL_law 370 = .ok (.iload_n 3, 1) := by decide +kernel
theorem dL_law_371 : decode cL_law 371 = .ok (.iconst 1, 1) := by decide +kernel
theorem dL_law_372 : decode cL_law 372 = .ok (.iadd, 1) := by decide +kernel
theorem dL_law_373 : decode cL_law 373 = .ok (.iaload, 1) := by decide +kernel
theorem dL_law_374 : decode cL_law 374 = .ok (.invokevirtual 41, 3) := by decide +kernel
theorem dL_law_377 : decode cL_law 377 = .ok (.aload_n 2, 1) := by decide +kernel
theorem dL_law_378 : decode cL_law 378 = .ok (.aload_n 0, 1) := by decide +kernel
theorem dL_law_379 : decode cL_law 379 = .ok (.iload_n 3, 1) := by decide +kernel
theorem dL_law_380 : decode cL_law 380 = .ok (.iconst 1, 1) := by decide +kernel
theorem dL_law_381 : decode cL_law 381 = .ok (.iadd, 1) := by decide +kernel
theorem dL_law_382 : decode cL_law 382 = .ok (.iaload, 1) := by decide +kernel
theorem dL_law_383 : decode cL_law 383 = .ok (.invokevirtual 44, 3) := by decide +kernel
theorem dL_law_386 : decode cL_law 386 = .ok (.if_icmp .eq 909, 3) := by decide +kernel
theorem dL_law_389 : decode cL_law 389 = .ok (.iconst 0, 1) := by decide +kernel
theorem dL_law_390 : decode cL_law 390 = .ok (.ireturn, 1) := by decide +kernel
theorem dL_law_391 : decode cL_law 391 = .ok (.aload_n 1, 1) := by decide +kernel
theorem dL_law_392 : decode cL_law 392 = .ok (.aload_n 0, 1) := by decide +kernel
theorem dL_law_393 : decode cL_law 393 = .ok (.iload_n 3, 1) := by decide +kernel
theorem dL_law_394 : decode cL_law 394 = .ok (.iconst 1, 1) := by decide +kernel
theorem dL_law_395 : decode cL_law 395 = .ok (.iadd, 1) := by decide +kernel
theorem dL_law_396 : decode cL_law 396 = .ok (.iaload, 1) := by decide +kernel
theorem dL_law_397 : decode cL_law 397 = .ok (.aload_n 0, 1) := by decide +kernel
theorem dL_law_398 : decode cL_law 398 = .ok (.iload_n 3, 1) := by decide +kernel
theorem dL_law_399 : decode cL_law 399 = .ok (.iconst 2, 1) := by decide +kernel
theorem dL_law_400 : decode cL_law 400 = .ok (.iadd, 1) := by decide +kernel
theorem dL_law_401 : decode cL_law 401 = .ok (.iaload, 1) := by decide +kernel
theorem dL_law_402 : decode cL_law 402 = .ok (.invokevirtual 45, 3) := by decide +kernel
theorem dL_law_405 : decode cL_law 405 = .ok (.aload_n 2, 1) := by decide +kernel
theorem dL_law_406 : decode cL_law 406 = .ok (.aload_n 0, 1) := by decide +kernel
theorem dL_law_407 : decode cL_law 407 = .ok (.iload_n 3, 1) := by decide +kernel
theorem dL_law_408 : decode cL_law 408 = .ok (.iconst 1, 1) := by decide +kernel
theorem dL_law_409 : decode cL_law 409 = .ok (.iadd, 1) := by decide +kernel
theorem dL_law_410 : decode cL_law 410 = .ok (.iaload, 1) := by decide +kernel
theorem dL_law_411 : decode cL_law 411 = .ok (.aload_n 0, 1) := by decide +kernel
theorem dL_law_412 : decode cL_law 412 = .ok (.iload_n 3, 1) := by decide +kernel
theorem dL_law_413 : decode cL_law 413 = .ok (.iconst 2, 1) := by decide +kernel
theorem dL_law_414 : decode cL_law 414 = .ok (.iadd, 1) := by decide +kernel
theorem dL_law_415 : decode cL_law 415 = .ok (.iaload, 1) := by decide +kernel
theorem dL_law_416 : decode cL_law 416 = .ok (.invokevirtual 48, 3) := by decide +kernel
theorem dL_law_419 : decode cL_law 419 = .ok (.if_icmp .eq 876, 3) := by decide +kernel
theorem dL_law_422 : decode cL_law 422 = .ok (.iconst 0, 1) := by decide +kernel
theorem dL_law_423 : decode cL_law 423 = .ok (.ireturn, 1) := by decide +kernel
theorem dL_law_424 : decode cL_law 424 = .ok (.aload_n 1, 1) := by decide +kernel
theorem dL_law_425 : decode cL_law 425 = .ok (.aload_n 0, 1) := by decide +kernel
theorem dL_law_426 : decode cL_law 426 = .ok (.iload_n 3, 1) := by decide +kernel
theorem dL_law_427 : decode cL_law 427 = .ok (.iconst 1, 1) := by decide +kernel
theorem dL_law_428 : decode cL_law 428 = .ok (.iadd, 1) := by decide +kernel
theorem dL_law_429 : decode cL_law 429 = .ok (.iaload, 1) := by decide +kernel
theorem dL_law_430 : decode cL_law 430 = .ok (.aload_n 0, 1) := by decide +kernel
theorem dL_law_431 : decode cL_law 431 = .ok (.iload_n 3, 1) := by decide +kernel
theorem dL_law_432 : decode cL_law 432 = .ok (.iconst 2, 1) := by decide +kernel
theorem dL_law_433 : decode cL_law 433 = .ok (.iadd, 1) := by decide +kernel
theorem dL_law_434 : decode cL_law 434 = .ok (.iaload, 1) := by decide +kernel
theorem dL_law_435 : decode cL_law 435 = .ok (.invokevirtual 49, 3) := by decide +kernel
theorem dL_law_438 : decode cL_law 438 = .ok (.aload_n 2, 1) := by decide +kernel
theorem dL_law_439 : decode cL_law 439 = .ok (.aload_n 0, 1) := by decide +kernel
theorem dL_law_440 : decode cL_law 440 = .ok (.iload_n 3, 1) := by decide +kernel
theorem dL_law_441 : decode cL_law 441 = .ok (.iconst 1, 1) := by decide +kernel
theorem dL_law_442 : decode cL_law 442 = .ok (.iadd, 1) := by decide +kernel
theorem dL_law_443 : decode cL_law 443 = .ok (.iaload, 1) := by decide +kernel
theorem dL_law_444 : decode cL_law 444 = .ok (.aload_n 0, 1) := by decide +kernel
theorem dL_law_445 : decode cL_law 445 = .ok (.iload_n 3, 1) := by decide +kernel
theorem dL_law_446 : decode cL_law 446 = .ok (.iconst 2, 1) := by decide +kernel
theorem dL_law_447 : decode cL_law 447 = .ok (.iadd, 1) := by decide +kernel
theorem dL_law_448 : decode cL_law 448 = .ok (.iaload, 1) := by decide +kernel
theorem dL_law_449 : decode cL_law 449 = .ok (.invokevirtual 52, 3) := by decide +kernel
theorem dL_law_452 : decode cL_law 452 = .ok (.if_icmp .eq 843, 3) := by decide +kernel
theorem dL_law_455 : decode cL_law 455 = .ok (.iconst 0, 1) := by decide +kernel
theorem dL_law_456 : decode cL_law 456 = .ok (.ireturn, 1) := by decide +kernel
theorem dL_law_457 : decode cL_law 457 = .ok (.aload_n 1, 1) := by decide +kernel
theorem dL_law_458 : decode cL_law 458 = .ok (.aload_n 0, 1) := by decide +kernel
theorem dL_law_459 : decode cL_law 459 = .ok (.iload_n 3, 1) := by decide +kernel
theorem dL_law_460 : decode cL_law 460 = .ok (.iconst 1, 1) := by decide +kernel
theorem dL_law_461 : decode cL_law 461 = .ok (.iadd, 1) := by decide +kernel
theorem dL_law_462 : decode cL_law 462 = .ok (.iaload, 1) := by decide +kernel
theorem dL_law_463 : decode cL_law 463 = .ok (.invokevirtual 53, 3) := by decide +kernel
theorem dL_law_466 : decode cL_law 466 = .ok (.aload_n 2, 1) := by decide +kernel
theorem dL_law_467 : decode cL_law 467 = .ok (.aload_n 0, 1) := by decide +kernel
theorem dL_law_468 : decode cL_law 468 = .ok (.iload_n 3, 1) := by decide +kernel
theorem dL_law_469 : decode cL_law 469 = .ok (.iconst 1, 1) := by decide +kernel
theorem dL_law_470 : decode cL_law 470 = .ok (.iadd, 1) := by decide +kernel
theorem dL_law_471 : decode cL_law 471 = .ok (.iaload, 1) := by decide +kernel
theorem dL_law_472 : decode cL_law 472 = .ok (.invokevirtual 56, 3) := by decide +kernel
theorem dL_law_475 : decode cL_law 475 = .ok (.if_icmp .eq 820, 3) := by decide +kernel
theorem dL_law_478 : decode cL_law 478 = .ok (.iconst 0, 1) := by decide +kernel
theorem dL_law_479 : decode cL_law 479 = .ok (.ireturn, 1) := by decide +kernel
theorem dL_law_480 : decode cL_law 480 = .ok (.aload_n 1, 1) := by decide +kernel
theorem dL_law_481 : decode cL_law 481 = .ok (.aload_n 0, 1) := by decide +kernel
theorem dL_law_482 : decode cL_law 482 = .ok (.iload_n 3, 1) := by decide +kernel
theorem dL_law_483 : decode cL_law 483 = .ok (.iconst 1, 1) := by decide +kernel
theorem dL_law_484 : decode cL_law 484 = .ok (.iadd, 1) := by decide +kernel
theorem dL_law_485 : decode cL_law 485 = .ok (.iaload, 1) := by decide +kernel
theorem dL_law_486 : decode cL_law 486 = .ok (.aload_n 0, 1) := by decide +kernel
theorem dL_law_487 : decode cL_law 487 = .ok (.iload_n 3, 1) := by decide +kernel
theorem dL_law_488 : decode cL_law 488 = .ok (.iconst 2, 1) := by decide +kernel
theorem dL_law_489 : decode cL_law 489 = .ok (.iadd, 1) := by decide +kernel
theorem dL_law_490 : decode cL_law 490 = .ok (.iaload, 1) := by decide +kernel
theorem dL_law_491 : decode cL_law 491 = .ok (.invokevirtual 57, 3) := by decide +kernel
theorem dL_law_494 : decode cL_law 494 = .ok (.aload_n 2, 1) := by decide +kernel
theorem dL_law_495 : decode cL_law 495 = .ok (.aload_n 0, 1) := by decide +kernel
theorem dL_law_496 : decode cL_law 496 = .ok (.iload_n 3, 1) := by decide +kernel
theorem dL_law_497 : decode cL_law 497 = .ok (.iconst 1, 1) := by decide +kernel
theorem dL_law_498 : decode cL_law 498 = .ok (.iadd, 1) := by decide +kernel
theorem dL_law_499 : decode cL_law 499 = .ok (.iaload, 1) := by decide +kernel
theorem dL_law_500 : decode cL_law 500 = .ok (.aload_n 0, 1) := by decide +kernel
theorem dL_law_501 : decode cL_law 501 = .ok (.iload_n 3, 1) := by decide +kernel
theorem dL_law_502 : decode cL_law 502 = .ok (.iconst 2, 1) := by decide +kernel
theorem dL_law_503 : decode cL_law 503 = .ok (.iadd, 1) := by decide +kernel
theorem dL_law_504 : decode cL_law 504 = .ok (.iaload, 1) := by decide +kernel
theorem dL_law_505 : decode cL_law 505 = .ok (.invokevirtual 60, 3) := by decide +kernel
theorem dL_law_508 : decode cL_law 508 = .ok (.if_icmp .eq 787, 3) := by decide +kernel
theorem dL_law_511 : decode cL_law 511 = .ok (.iconst 0, 1) := by decide +kernel
theorem dL_law_512 : decode cL_law 512 = .ok (.ireturn, 1) := by decide +kernel
theorem dL_law_513 : decode cL_law 513 = .ok (.aload_n 1, 1) := by decide +kernel
theorem dL_law_514 : decode cL_law 514 = .ok (.aload_n 0, 1) := by decide +kernel
theorem dL_law_515 : decode cL_law 515 = .ok (.iload_n 3, 1) := by decide +kernel
theorem dL_law_516 : decode cL_law 516 = .ok (.iconst 1, 1) := by decide +kernel
theorem dL_law_517 : decode cL_law 517 = .ok (.iadd, 1) := by decide +kernel
theorem dL_law_518 : decode cL_law 518 = .ok (.iaload, 1) := by decide +kernel
theorem dL_law_519 : decode cL_law 519 = .ok (.invokevirtual 61, 3) := by decide +kernel
theorem dL_law_522 : decode cL_law 522 = .ok (.aload_n 2, 1) := by decide +kernel
theorem dL_law_523 : decode cL_law 523 = .ok (.aload_n 0, 1) := by decide +kernel
theorem dL_law_524 : decode cL_law 524 = .ok (.iload_n 3, 1) := by decide +kernel
theorem dL_law_525 : decode cL_law 525 = .ok (.iconst 1, 1) := by decide +kernel
theorem dL_law_526 : decode cL_law 526 = .ok (.iadd, 1) := by decide +kernel
theorem dL_law_527 : decode cL_law 527 = .ok (.iaload, 1) := by decide +kernel
theorem dL_law_528 : decode cL_law 528 = .ok (.invokevirtual 64, 3) := by decide +kernel
theorem dL_law_531 : decode cL_law 531 = .ok (.if_icmp .eq 764, 3) := by decide +kernel
theorem dL_law_534 : decode cL_law 534 = .ok (.iconst 0, 1) := by decide +kernel
theorem dL_law_535 : decode cL_law 535 = .ok (.ireturn, 1) := by decide +kernel
theorem dL_law_536 : decode cL_law 536 = .ok (.aload_n 1, 1) := by decide +kernel
theorem dL_law_537 : decode cL_law 537 = .ok (.aload_n 0, 1) := by decide +kernel
theorem dL_law_538 : decode cL_law 538 = .ok (.iload_n 3, 1) := by decide +kernel
theorem dL_law_539 : decode cL_law 539 = .ok (.iconst 1, 1) := by decide +kernel
theorem dL_law_540 : decode cL_law 540 = .ok (.iadd, 1) := by decide +kernel
theorem dL_law_541 : decode cL_law 541 = .ok (.iaload, 1) := by decide +kernel
theorem dL_law_542 : decode cL_law 542 = .ok (.aload_n 0, 1) := by decide +kernel
theorem dL_law_543 : decode cL_law 543 = .ok (.iload_n 3, 1) := by decide +kernel
theorem dL_law_544 : decode cL_law 544 = .ok (.iconst 2, 1) := by decide +kernel
theorem dL_law_545 : decode cL_law 545 = .ok (.iadd, 1) := by decide +kernel
theorem dL_law_546 : decode cL_law 546 = .ok (.iaload, 1) := by decide +kernel
theorem dL_law_547 : decode cL_law 547 = .ok (.aload_n 0, 1) := by decide +kernel
theorem dL_law_548 : decode cL_law 548 = .ok (.iload_n 3, 1) := by decide +kernel
theorem dL_law_549 : decode cL_law 549 = .ok (.iconst 3, 1) := by decide +kernel
theorem dL_law_550 : decode cL_law 550 = .ok (.iadd, 1) := by decide +kernel
theorem dL_law_551 : decode cL_law 551 = .ok (.iaload, 1) := by decide +kernel
theorem dL_law_552 : decode cL_law 552 = .ok (.aload_n 0, 1) := by decide +kernel
theorem dL_law_553 : decode cL_law 553 = .ok (.iload_n 3, 1) := by decide +kernel
theorem dL_law_554 : decode cL_law 554 = .ok (.iconst 4, 1) := by decide +kernel
theorem dL_law_555 : decode cL_law 555 = .ok (.iadd, 1) := by decide +kernel
theorem dL_law_556 : decode cL_law 556 = .ok (.iaload, 1) := by decide +kernel
theorem dL_law_557 : decode cL_law 557 = .ok (.aload_n 0, 1) := by decide +kernel
theorem dL_law_558 : decode cL_law 558 = .ok (.iload_n 3, 1) := by decide +kernel
theorem dL_law_559 : decode cL_law 559 = .ok (.iconst 5, 1) := by decide +kernel
theorem dL_law_560 : decode cL_law 560 = .ok (.iadd, 1) := by decide +kernel
theorem dL_law_561 : decode cL_law 561 = .ok (.iaload, 1) := by decide +kernel
theorem dL_law_562 : decode cL_law 562 = .ok (.invokevirtual 65, 3) := by decide +kernel
theorem dL_law_565 : decode cL_law 565 = .ok (.aload_n 2, 1) := by decide +kernel
theorem dL_law_566 : decode cL_law 566 = .ok (.aload_n 0, 1) := by decide +kernel
theorem dL_law_567 : decode cL_law 567 = .ok (.iload_n 3, 1) := by decide +kernel
theorem dL_law_568 : decode cL_law 568 = .ok (.iconst 1, 1) := by decide +kernel
theorem dL_law_569 : decode cL_law 569 = .ok (.iadd, 1) := by decide +kernel
theorem dL_law_570 : decode cL_law 570 = .ok (.iaload, 1) := by decide +kernel
theorem dL_law_571 : decode cL_law 571 = .ok (.aload_n 0, 1) := by decide +kernel
theorem dL_law_572 : decode cL_law 572 = .ok (.iload_n 3, 1) := by decide +kernel
theorem dL_law_573 : decode cL_law 573 = .ok (.iconst 2, 1) := by decide +kernel
theorem dL_law_574 : decode cL_law 574 = .ok (.iadd, 1) := by decide +kernel
theorem dL_law_575 : decode cL_law 575 = .ok (.iaload, 1) := by decide +kernel
theorem dL_law_576 : decode cL_law 576 = .ok (.aload_n 0, 1) := by decide +kernel
theorem dL_law_577 : decode cL_law 577 = .ok (.iload_n 3, 1) := by decide +kernel
theorem dL_law_578 : decode cL_law 578 = .ok (.iconst 3, 1) := by decide +kernel
theorem dL_law_579 : decode cL_law 579 = .ok (.iadd, 1) := by decide +kernel
theorem dL_law_580 : decode cL_law 580 = .ok (.iaload, 1) := by decide +kernel
theorem dL_law_581 : decode cL_law 581 = .ok (.aload_n 0, 1) := by decide +kernel
theorem dL_law_582 : decode cL_law 582 = .ok (.iload_n 3, 1) := by decide +kernel
theorem dL_law_583 : decode cL_law 583 = .ok (.iconst 4, 1) := by decide +kernel
theorem dL_law_584 : decode cL_law 584 = .ok (.iadd, 1) := by decide +kernel
theorem dL_law_585 : decode cL_law 585 = .ok (.iaload, 1) := by decide +kernel
theorem dL_law_586 : decode cL_law 586 = .ok (.aload_n 0, 1) := by decide +kernel
theorem dL_law_587 : decode cL_law 587 = .ok (.iload_n 3, 1) := by decide +kernel
theorem dL_law_588 : decode cL_law 588 = .ok (.iconst 5, 1) := by decide +kernel
theorem dL_law_589 : decode cL_law 589 = .ok (.iadd, 1) := by decide +kernel
theorem dL_law_590 : decode cL_law 590 = .ok (.iaload, 1) := by decide +kernel
theorem dL_law_591 : decode cL_law 591 = .ok (.invokevirtual 69, 3) := by decide +kernel
theorem dL_law_594 : decode cL_law 594 = .ok (.if_icmp .eq 701, 3) := by decide +kernel
theorem dL_law_597 : decode cL_law 597 = .ok (.iconst 0, 1) := by decide +kernel
theorem dL_law_598 : decode cL_law 598 = .ok (.ireturn, 1) := by decide +kernel
theorem dL_law_599 : decode cL_law 599 = .ok (.aload_n 1, 1) := by decide +kernel
theorem dL_law_600 : decode cL_law 600 = .ok (.aload_n 0, 1) := by decide +kernel
theorem dL_law_601 : decode cL_law 601 = .ok (.iload_n 3, 1) := by decide +kernel
theorem dL_law_602 : decode cL_law 602 = .ok (.iconst 1, 1) := by decide +kernel
theorem dL_law_603 : decode cL_law 603 = .ok (.iadd, 1) := by decide +kernel
theorem dL_law_604 : decode cL_law 604 = .ok (.iaload, 1) := by decide +kernel
theorem dL_law_605 : decode cL_law 605 = .ok (.aload_n 0, 1) := by decide +kernel
theorem dL_law_606 : decode cL_law 606 = .ok (.iload_n 3, 1) := by decide +kernel
theorem dL_law_607 : decode cL_law 607 = .ok (.iconst 2, 1) := by decide +kernel
theorem dL_law_608 : decode cL_law 608 = .ok (.iadd, 1) := by decide +kernel
theorem dL_law_609 : decode cL_law 609 = .ok (.iaload, 1) := by decide +kernel
theorem dL_law_610 : decode cL_law 610 = .ok (.aload_n 0, 1) := by decide +kernel
theorem dL_law_611 : decode cL_law 611 = .ok (.iload_n 3, 1) := by decide +kernel
theorem dL_law_612 : decode cL_law 612 = .ok (.iconst 3, 1) := by decide +kernel
theorem dL_law_613 : decode cL_law 613 = .ok (.iadd, 1) := by decide +kernel
theorem dL_law_614 : decode cL_law 614 = .ok (.iaload, 1) := by decide +kernel
theorem dL_law_615 : decode cL_law 615 = .ok (.aload_n 0, 1) := by decide +kernel
theorem dL_law_616 : decode cL_law 616 = .ok (.iload_n 3, 1) := by decide +kernel
theorem dL_law_617 : decode cL_law 617 = .ok (.iconst 4, 1) := by decide +kernel
theorem dL_law_618 : decode cL_law 618 = .ok (.iadd, 1) := by decide +kernel
theorem dL_law_619 : decode cL_law 619 = .ok (.iaload, 1) := by decide +kernel
theorem dL_law_620 : decode cL_law 620 = .ok (.aload_n 0, 1) := by decide +kernel
theorem dL_law_621 : decode cL_law 621 = .ok (.iload_n 3, 1) := by decide +kernel
theorem dL_law_622 : decode cL_law 622 = .ok (.iconst 5, 1) := by decide +kernel
theorem dL_law_623 : decode cL_law 623 = .ok (.iadd, 1) := by decide +kernel
theorem dL_law_624 : decode cL_law 624 = .ok (.iaload, 1) := by decide +kernel
theorem dL_law_625 : decode cL_law 625 = .ok (.invokevirtual 70, 3) := by decide +kernel
theorem dL_law_628 : decode cL_law 628 = .ok (.aload_n 2, 1) := by decide +kernel
theorem dL_law_629 : decode cL_law 629 = .ok (.aload_n 0, 1) := by decide +kernel
theorem dL_law_630 : decode cL_law 630 = .ok (.iload_n 3, 1) := by decide +kernel
theorem dL_law_631 : decode cL_law 631 = .ok (.iconst 1, 1) := by decide +kernel
theorem dL_law_632 : decode cL_law 632 = .ok (.iadd, 1) := by decide +kernel
theorem dL_law_633 : decode cL_law 633 = .ok (.iaload, 1) := by decide +kernel
theorem dL_law_634 : decode cL_law 634 = .ok (.aload_n 0, 1) := by decide +kernel
theorem dL_law_635 : decode cL_law 635 = .ok (.iload_n 3, 1) := by decide +kernel
theorem dL_law_636 : decode cL_law 636 = .ok (.iconst 2, 1) := by decide +kernel
theorem dL_law_637 : decode cL_law 637 = .ok (.iadd, 1) := by decide +kernel
theorem dL_law_638 : decode cL_law 638 = .ok (.iaload, 1) := by decide +kernel
theorem dL_law_639 : decode cL_law 639 = .ok (.aload_n 0, 1) := by decide +kernel
theorem dL_law_640 : decode cL_law 640 = .ok (.iload_n 3, 1) := by decide +kernel
theorem dL_law_641 : decode cL_law 641 = .ok (.iconst 3, 1) := by decide +kernel
theorem dL_law_642 : decode cL_law 642 = .ok (.iadd, 1) := by decide +kernel
theorem dL_law_643 : decode cL_law 643 = .ok (.iaload, 1) := by decide +kernel
theorem dL_law_644 : decode cL_law 644 = .ok (.aload_n 0, 1) := by decide +kernel
theorem dL_law_645 : decode cL_law 645 = .ok (.iload_n 3, 1) := by decide +kernel
theorem dL_law_646 : decode cL_law 646 = .ok (.iconst 4, 1) := by decide +kernel
theorem dL_law_647 : decode cL_law 647 = .ok (.iadd, 1) := by decide +kernel
theorem dL_law_648 : decode cL_law 648 = .ok (.iaload, 1) := by decide +kernel
theorem dL_law_649 : decode cL_law 649 = .ok (.aload_n 0, 1) := by decide +kernel
theorem dL_law_650 : decode cL_law 650 = .ok (.iload_n 3, 1) := by decide +kernel
theorem dL_law_651 : decode cL_law 651 = .ok (.iconst 5, 1) := by decide +kernel
theorem dL_law_652 : decode cL_law 652 = .ok (.iadd, 1) := by decide +kernel
theorem dL_law_653 : decode cL_law 653 = .ok (.iaload, 1) := by decide +kernel
theorem dL_law_654 : decode cL_law 654 = .ok (.invokevirtual 73, 3) := by decide +kernel
theorem dL_law_657 : decode cL_law 657 = .ok (.if_icmp .eq 638, 3) := by decide +kernel
theorem dL_law_660 : decode cL_law 660 = .ok (.iconst 0, 1) := by decide +kernel
theorem dL_law_661 : decode cL_law 661 = .ok (.ireturn, 1) := by decide +kernel
theorem dL_law_662 : decode cL_law 662 = .ok (.aload_n 1, 1) := by decide +kernel
theorem dL_law_663 : decode cL_law 663 = .ok (.aload_n 0, 1) := by decide +kernel
theorem dL_law_664 : decode cL_law 664 = .ok (.iload_n 3, 1) := by decide +kernel
theorem dL_law_665 : decode cL_law 665 = .ok (.iconst 1, 1) := by decide +kernel
theorem dL_law_666 : decode cL_law 666 = .ok (.iadd, 1) := by decide +kernel
theorem dL_law_667 : decode cL_law 667 = .ok (.iaload, 1) := by decide +kernel
theorem dL_law_668 : decode cL_law 668 = .ok (.aload_n 0, 1) := by decide +kernel
theorem dL_law_669 : decode cL_law 669 = .ok (.iload_n 3, 1) := by decide +kernel
theorem dL_law_670 : decode cL_law 670 = .ok (.iconst 2, 1) := by decide +kernel
theorem dL_law_671 : decode cL_law 671 = .ok (.iadd, 1) := by decide +kernel
theorem dL_law_672 : decode cL_law 672 = .ok (.iaload, 1) := by decide +kernel
theorem dL_law_673 : decode cL_law 673 = .ok (.invokevirtual 74, 3) := by decide +kernel
theorem dL_law_676 : decode cL_law 676 = .ok (.dstore 4, 2) := by decide +kernel
theorem dL_law_678 : decode cL_law 678 = .ok (.aload_n 2, 1) := by decide +kernel
theorem dL_law_679 : decode cL_law 679 = .ok (.aload_n 0, 1) := by decide +kernel
theorem dL_law_680 : decode cL_law 680 = .ok (.iload_n 3, 1) := by decide +kernel
theorem dL_law_681 : decode cL_law 681 = .ok (.iconst 1, 1) := by decide +kernel
theorem dL_law_682 : decode cL_law 682 = .ok (.iadd, 1) := by decide +kernel
theorem dL_law_683 : decode cL_law 683 = .ok (.iaload, 1) := by decide +kernel
theorem dL_law_684 : decode cL_law 684 = .ok (.aload_n 0, 1) := by decide +kernel
theorem dL_law_685 : decode cL_law 685 = .ok (.iload_n 3, 1) := by decide +kernel
theorem dL_law_686 : decode cL_law 686 = .ok (.iconst 2, 1) := by decide +kernel
theorem dL_law_687 : decode cL_law 687 = .ok (.iadd, 1) := by decide +kernel
theorem dL_law_688 : decode cL_law 688 = .ok (.iaload, 1) := by decide +kernel
theorem dL_law_689 : decode cL_law 689 = .ok (.invokevirtual 78, 3) := by decide +kernel
theorem dL_law_692 : decode cL_law 692 = .ok (.dstore 6, 2) := by decide +kernel
theorem dL_law_694 : decode cL_law 694 = .ok (.dload 4, 2) := by decide +kernel
theorem dL_law_696 : decode cL_law 696 = .ok (.dload 6, 2) := by decide +kernel
theorem dL_law_698 : decode cL_law 698 = .ok (.dcmp .l, 1) := by decide +kernel
theorem dL_law_699 : decode cL_law 699 = .ok (.ifCond .eq 21, 3) := by decide +kernel
theorem dL_law_702 : decode cL_law 702 = .ok (.dload 4, 2) := by decide +kernel
theorem dL_law_704 : decode cL_law 704 = .ok (.dload 4, 2) := by decide +kernel
theorem dL_law_706 : decode cL_law 706 = .ok (.dcmp .l, 1) := by decide +kernel
theorem dL_law_707 : decode cL_law 707 = .ok (.ifCond .eq 11, 3) := by decide +kernel
theorem dL_law_710 : decode cL_law 710 = .ok (.dload 6, 2) := by decide +kernel
theorem dL_law_712 : decode cL_law 712 = .ok (.dload 6, 2) := by decide +kernel
theorem dL_law_714 : decode cL_law 714 = .ok (.dcmp .l, 1) := by decide +kernel
theorem dL_law_715 : decode cL_law 715 = .ok (.ifCond .ne 5, 3) := by decide +kernel
theorem dL_law_718 : decode cL_law 718 = .ok (.iconst 0, 1) := by decide +kernel
theorem dL_law_719 : decode cL_law 719 = .ok (.ireturn, 1) := by decide +kernel
theorem dL_law_720 : decode cL_law 720 = .ok (.goto 575, 3) := by decide +kernel
theorem dL_law_723 : decode cL_law 723 = .ok (.aload_n 1, 1) := by decide +kernel
theorem dL_law_724 : decode cL_law 724 = .ok (.aload_n 0, 1) := by decide +kernel
theorem dL_law_725 : decode cL_law 725 = .ok (.iload_n 3, 1) := by decide +kernel
theorem dL_law_726 : decode cL_law 726 = .ok (.iconst 1, 1) := by decide +kernel
theorem dL_law_727 : decode cL_law 727 = .ok (.iadd, 1) := by decide +kernel
theorem dL_law_728 : decode cL_law 728 = .ok (.iaload, 1) := by decide +kernel
theorem dL_law_729 : decode cL_law 729 = .ok (.invokevirtual 79, 3) := by decide +kernel
theorem dL_law_732 : decode cL_law 732 = .ok (.dstore 4, 2) := by decide +kernel
theorem dL_law_734 : decode cL_law 734 = .ok (.aload_n 2, 1) := by decide +kernel
theorem dL_law_735 : decode cL_law 735 = .ok (.aload_n 0, 1) := by decide +kernel
theorem dL_law_736 : decode cL_law 736 = .ok (.iload_n 3, 1) := by decide +kernel
theorem dL_law_737 : decode cL_law 737 = .ok (.iconst 1, 1) := by decide +kernel
theorem dL_law_738 : decode cL_law 738 = .ok (.iadd, 1) := by decide +kernel
theorem dL_law_739 : decode cL_law 739 = .ok (.iaload, 1) := by decide +kernel
theorem dL_law_740 : decode cL_law 740 = .ok (.invokevirtual 83, 3) := by decide +kernel
theorem dL_law_743 : decode cL_law 743 = .ok (.dstore 6, 2) := by decide +kernel
theorem dL_law_745 : decode cL_law 745 = .ok (.dload 4, 2) := by decide +kernel
theorem dL_law_747 : decode cL_law 747 = .ok (.dload 6, 2) := by decide +kernel
theorem dL_law_749 : decode cL_law 749 = .ok (.dcmp .l, 1) := by decide +kernel
theorem dL_law_750 : decode cL_law 750 = .ok (.ifCond .eq 21, 3) := by decide +kernel
theorem dL_law_753 : decode cL_law 753 = .ok (.dload 4, 2) := by decide +kernel
theorem dL_law_755 : decode cL_law 755 = .ok (.dload 4, 2) := by decide +kernel
theorem dL_law_757 : decode cL_law 757 = .ok (.dcmp .l, 1) := by decide +kernel
theorem dL_law_758 : decode cL_law 758 = .ok (.ifCond .eq 11, 3) := by decide +kernel
theorem dL_law_761 : decode cL_law 761 = .ok (.dload 6, 2) := by decide +kernel
theorem dL_law_763 : decode cL_law 763 = .ok (.dload 6, 2) := by decide +kernel
theorem dL_law_765 : decode cL_law 765 = .ok (.dcmp .l, 1) := by decide +kernel
theorem dL_law_766 : decode cL_law 766 = .ok (.ifCond .ne 5, 3) := by decide +kernel
theorem dL_law_769 : decode cL_law 769 = .ok (.iconst 0, 1) := by decide +kernel
theorem dL_law_770 : decode cL_law 770 = .ok (.ireturn, 1) := by decide +kernel
theorem dL_law_771 : decode cL_law 771 = .ok (.goto 524, 3) := by decide +kernel
theorem dL_law_774 : decode cL_law 774 = .ok (.aload_n 1, 1) := by decide +kernel
theorem dL_law_775 : decode cL_law 775 = .ok (.aload_n 0, 1) := by decide +kernel
theorem dL_law_776 : decode cL_law 776 = .ok (.iload_n 3, 1) := by decide +kernel
theorem dL_law_777 : decode cL_law 777 = .ok (.iconst 1, 1) := by decide +kernel
theorem dL_law_778 : decode cL_law 778 = .ok (.iadd, 1) := by decide +kernel
theorem dL_law_779 : decode cL_law 779 = .ok (.iaload, 1) := by decide +kernel
theorem dL_law_780 : decode cL_law 780 = .ok (.invokevirtual 84, 3) := by decide +kernel
theorem dL_law_783 : decode cL_law 783 = .ok (.aload_n 2, 1) := by decide +kernel
theorem dL_law_784 : decode cL_law 784 = .ok (.aload_n 0, 1) := by decide +kernel
theorem dL_law_785 : decode cL_law 785 = .ok (.iload_n 3, 1) := by decide +kernel
theorem dL_law_786 : decode cL_law 786 = .ok (.iconst 1, 1) := by decide +kernel
theorem dL_law_787 : decode cL_law 787 = .ok (.iadd, 1) := by decide +kernel
theorem dL_law_788 : decode cL_law 788 = .ok (.iaload, 1) := by decide +kernel
theorem dL_law_789 : decode cL_law 789 = .ok (.invokevirtual 87, 3) := by decide +kernel
theorem dL_law_792 : decode cL_law 792 = .ok (.if_icmp .eq 503, 3) := by decide +kernel
theorem dL_law_795 : decode cL_law 795 = .ok (.iconst 0, 1) := by decide +kernel
theorem dL_law_796 : decode cL_law 796 = .ok (.ireturn, 1) := by decide +kernel
theorem dL_law_797 : decode cL_law 797 = .ok (.aload_n 1, 1) := by decide +kernel
theorem dL_law_798 : decode cL_law 798 = .ok (.aload_n 0, 1) := by decide +kernel
theorem dL_law_799 : decode cL_law 799 = .ok (.iload_n 3, 1) := by decide +kernel
theorem dL_law_800 : decode cL_law 800 = .ok (.iconst 1, 1) := by decide +kernel
theorem dL_law_801 : decode cL_law 801 = .ok (.iadd, 1) := by decide +kernel
theorem dL_law_802 : decode cL_law 802 = .ok (.iaload, 1) := by decide +kernel
theorem dL_law_803 : decode cL_law 803 = .ok (.invokevirtual 88, 3) := by decide +kernel
theorem dL_law_806 : decode cL_law 806 = .ok (.aload_n 2, 1) := by decide +kernel
theorem dL_law_807 : decode cL_law 807 = .ok (.aload_n 0, 1) := by decide +kernel
theorem dL_law_808 : decode cL_law 808 = .ok (.iload_n 3, 1) := by decide +kernel
theorem dL_law_809 : decode cL_law 809 = .ok (.iconst 1, 1) := by decide +kernel
theorem dL_law_810 : decode cL_law 810 = .ok (.iadd, 1) := by decide +kernel
theorem dL_law_811 : decode cL_law 811 = .ok (.iaload, 1) := by decide +kernel
theorem dL_law_812 : decode cL_law 812 = .ok (.invokevirtual 92, 3) := by decide +kernel
theorem dL_law_815 : decode cL_law 815 = .ok (.lcmp, 1) := by decide +kernel
theorem dL_law_816 : decode cL_law 816 = .ok (.ifCond .eq 479, 3) := by decide +kernel
theorem dL_law_819 : decode cL_law 819 = .ok (.iconst 0, 1) := by decide +kernel
theorem dL_law_820 : decode cL_law 820 = .ok (.ireturn, 1) := by decide +kernel
theorem dL_law_821 : decode cL_law 821 = .ok (.aload_n 1, 1) := by decide +kernel
theorem dL_law_822 : decode cL_law 822 = .ok (.aload_n 0, 1) := by decide +kernel
theorem dL_law_823 : decode cL_law 823 = .ok (.iload_n 3, 1) := by decide +kernel
theorem dL_law_824 : decode cL_law 824 = .ok (.iconst 1, 1) := by decide +kernel
theorem dL_law_825 : decode cL_law 825 = .ok (.iadd, 1) := by decide +kernel
theorem dL_law_826 : decode cL_law 826 = .ok (.iaload, 1) := by decide +kernel
theorem dL_law_827 : decode cL_law 827 = .ok (.aload_n 0, 1) := by decide +kernel
theorem dL_law_828 : decode cL_law 828 = .ok (.iload_n 3, 1) := by decide +kernel
theorem dL_law_829 : decode cL_law 829 = .ok (.iconst 2, 1) := by decide +kernel
theorem dL_law_830 : decode cL_law 830 = .ok (.iadd, 1) := by decide +kernel
theorem dL_law_831 : decode cL_law 831 = .ok (.iaload, 1) := by decide +kernel
theorem dL_law_832 : decode cL_law 832 = .ok (.invokevirtual 93, 3) := by decide +kernel
theorem dL_law_835 : decode cL_law 835 = .ok (.dstore 4, 2) := by decide +kernel
theorem dL_law_837 : decode cL_law 837 = .ok (.aload_n 2, 1) := by decide +kernel
theorem dL_law_838 : decode cL_law 838 = .ok (.aload_n 0, 1) := by decide +kernel
theorem dL_law_839 : decode cL_law 839 = .ok (.iload_n 3, 1) := by decide +kernel
theorem dL_law_840 : decode cL_law 840 = .ok (.iconst 1, 1) := by decide +kernel
theorem dL_law_841 : decode cL_law 841 = .ok (.iadd, 1) := by decide +kernel
theorem dL_law_842 : decode cL_law 842 = .ok (.iaload, 1) := by decide +kernel
theorem dL_law_843 : decode cL_law 843 = .ok (.aload_n 0, 1) := by decide +kernel
theorem dL_law_844 : decode cL_law 844 = .ok (.iload_n 3, 1) := by decide +kernel
theorem dL_law_845 : decode cL_law 845 = .ok (.iconst 2, 1) := by decide +kernel
theorem dL_law_846 : decode cL_law 846 = .ok (.iadd, 1) := by decide +kernel
theorem dL_law_847 : decode cL_law 847 = .ok (.iaload, 1) := by decide +kernel
theorem dL_law_848 : decode cL_law 848 = .ok (.invokevirtual 96, 3) := by decide +kernel
theorem dL_law_851 : decode cL_law 851 = .ok (.dstore 6, 2) := by decide +kernel
theorem dL_law_853 : decode cL_law 853 = .ok (.dload 4, 2) := by decide +kernel
theorem dL_law_855 : decode cL_law 855 = .ok (.dload 6, 2) := by decide +kernel
theorem dL_law_857 : decode cL_law 857 = .ok (.dcmp .l, 1) := by decide +kernel
theorem dL_law_858 : decode cL_law 858 = .ok (.ifCond .eq 21, 3) := by decide +kernel
theorem dL_law_861 : decode cL_law 861 = .ok (.dload 4, 2) := by decide +kernel
theorem dL_law_863 : decode cL_law 863 = .ok (.dload 4, 2) := by decide +kernel
theorem dL_law_865 : decode cL_law 865 = .ok (.dcmp .l, 1) := by decide +kernel
theorem dL_law_866 : decode cL_law 866 = .ok (.ifCond .eq 11, 3) := by decide +kernel
theorem dL_law_869 : decode cL_law 869 = .ok (.dload 6, 2) := by decide +kernel
theorem dL_law_871 : decode cL_law 871 = .ok (.dload 6, 2) := by decide +kernel
theorem dL_law_873 : decode cL_law 873 = .ok (.dcmp .l, 1) := by decide +kernel
theorem dL_law_874 : decode cL_law 874 = .ok (.ifCond .ne 5, 3) := by decide +kernel
theorem dL_law_877 : decode cL_law 877 = .ok (.iconst 0, 1) := by decide +kernel
theorem dL_law_878 : decode cL_law 878 = .ok (.ireturn, 1) := by decide +kernel
theorem dL_law_879 : decode cL_law 879 = .ok (.goto 416, 3) := by decide +kernel
theorem dL_law_882 : decode cL_law 882 = .ok (.aload_n 1, 1) := by decide +kernel
theorem dL_law_883 : decode cL_law 883 = .ok (.aload_n 0, 1) := by decide +kernel
theorem dL_law_884 : decode cL_law 884 = .ok (.iload_n 3, 1) := by decide +kernel
theorem dL_law_885 : decode cL_law 885 = .ok (.iconst 1, 1) := by decide +kernel
theorem dL_law_886 : decode cL_law 886 = .ok (.iadd, 1) := by decide +kernel
theorem dL_law_887 : decode cL_law 887 = .ok (.iaload, 1) := by decide +kernel
theorem dL_law_888 : decode cL_law 888 = .ok (.aload_n 0, 1) := by decide +kernel
theorem dL_law_889 : decode cL_law 889 = .ok (.iload_n 3, 1) := by decide +kernel
theorem dL_law_890 : decode cL_law 890 = .ok (.iconst 2, 1) := by decide +kernel
theorem dL_law_891 : decode cL_law 891 = .ok (.iadd, 1) := by decide +kernel
theorem dL_law_892 : decode cL_law 892 = .ok (.iaload, 1) := by decide +kernel
theorem dL_law_893 : decode cL_law 893 = .ok (.invokevirtual 97, 3) := by decide +kernel
theorem dL_law_896 : decode cL_law 896 = .ok (.dstore 4, 2) := by decide +kernel
theorem dL_law_898 : decode cL_law 898 = .ok (.aload_n 2, 1) := by decide +kernel
theorem dL_law_899 : decode cL_law 899 = .ok (.aload_n 0, 1) := by decide +kernel
theorem dL_law_900 : decode cL_law 900 = .ok (.iload_n 3, 1) := by decide +kernel
theorem dL_law_901 : decode cL_law 901 = .ok (.iconst 1, 1) := by decide +kernel
theorem dL_law_902 : decode cL_law 902 = .ok (.iadd, 1) := by decide +kernel
theorem dL_law_903 : decode cL_law 903 = .ok (.iaload, 1) := by decide +kernel
theorem dL_law_904 : decode cL_law 904 = .ok (.aload_n 0, 1) := by decide +kernel
theorem dL_law_905 : decode cL_law 905 = .ok (.iload_n 3, 1) := by decide +kernel
theorem dL_law_906 : decode cL_law 906 = .ok (.iconst 2, 1) := by decide +kernel
theorem dL_law_907 : decode cL_law 907 = .ok (.iadd, 1) := by decide +kernel
theorem dL_law_908 : decode cL_law 908 = .ok (.iaload, 1) := by decide +kernel
theorem dL_law_909 : decode cL_law 909 = .ok (.invokevirtual 100, 3) := by decide +kernel
theorem dL_law_912 : decode cL_law 912 = .ok (.dstore 6, 2) := by decide +kernel
theorem dL_law_914 : decode cL_law 914 = .ok (.dload 4, 2) := by decide +kernel
theorem dL_law_916 : decode cL_law 916 = .ok (.dload 6, 2) := by decide +kernel
theorem dL_law_918 : decode cL_law 918 = .ok (.dcmp .l, 1) := by decide +kernel
theorem dL_law_919 : decode cL_law 919 = .ok (.ifCond .eq 21, 3) := by decide +kernel
theorem dL_law_922 : decode cL_law 922 = .ok (.dload 4, 2) := by decide +kernel
theorem dL_law_924 : decode cL_law 924 = .ok (.dload 4, 2) := by decide +kernel
theorem dL_law_926 : decode cL_law 926 = .ok (.dcmp .l, 1) := by decide +kernel
theorem dL_law_927 : decode cL_law 927 = .ok (.ifCond .eq 11, 3) := by decide +kernel
theorem dL_law_930 : decode cL_law 930 = .ok (.dload 6, 2) := by decide +kernel
theorem dL_law_932 : decode cL_law 932 = .ok (.dload 6, 2) := by decide +kernel
theorem dL_law_934 : decode cL_law 934 = .ok (.dcmp .l, 1) := by decide +kernel
theorem dL_law_935 : decode cL_law 935 = .ok (.ifCond .ne 5, 3) := by decide +kernel
theorem dL_law_938 : decode cL_law 938 = .ok (.iconst 0, 1) := by decide +kernel
theorem dL_law_939 : decode cL_law 939 = .ok (.ireturn, 1) := by decide +kernel
theorem dL_law_940 : decode cL_law 940 = .ok (.goto 355, 3) := by decide +kernel
theorem dL_law_943 : decode cL_law 943 = .ok (.aload_n 1, 1) := by decide +kernel
theorem dL_law_944 : decode cL_law 944 = .ok (.aload_n 0, 1) := by decide +kernel
theorem dL_law_945 : decode cL_law 945 = .ok (.iload_n 3, 1) := by decide +kernel
theorem dL_law_946 : decode cL_law 946 = .ok (.iconst 1, 1) := by decide +kernel
theorem dL_law_947 : decode cL_law 947 = .ok (.iadd, 1) := by decide +kernel
theorem dL_law_948 : decode cL_law 948 = .ok (.iaload, 1) := by decide +kernel
theorem dL_law_949 : decode cL_law 949 = .ok (.aload_n 0, 1) := by decide +kernel
theorem dL_law_950 : decode cL_law 950 = .ok (.iload_n 3, 1) := by decide +kernel
theorem dL_law_951 : decode cL_law 951 = .ok (.iconst 2, 1) := by decide +kernel
theorem dL_law_952 : decode cL_law 952 = .ok (.iadd, 1) := by decide +kernel
theorem dL_law_953 : decode cL_law 953 = .ok (.iaload, 1) := by decide +kernel
theorem dL_law_954 : decode cL_law 954 = .ok (.aload_n 0, 1) := by decide +kernel
theorem dL_law_955 : decode cL_law 955 = .ok (.iload_n 3, 1) := by decide +kernel
theorem dL_law_956 : decode cL_law 956 = .ok (.iconst 3, 1) := by decide +kernel
theorem dL_law_957 : decode cL_law 957 = .ok (.iadd, 1) := by decide +kernel
theorem dL_law_958 : decode cL_law 958 = .ok (.iaload, 1) := by decide +kernel
theorem dL_law_959 : decode cL_law 959 = .ok (.invokevirtual 101, 3) := by decide +kernel
theorem dL_law_962 : decode cL_law 962 = .ok (.aload_n 2, 1) := by decide +kernel
theorem dL_law_963 : decode cL_law 963 = .ok (.aload_n 0, 1) := by decide +kernel
theorem dL_law_964 : decode cL_law 964 = .ok (.iload_n 3, 1) := by decide +kernel
theorem dL_law_965 : decode cL_law 965 = .ok (.iconst 1, 1) := by decide +kernel
theorem dL_law_966 : decode cL_law 966 = .ok (.iadd, 1) := by decide +kernel
theorem dL_law_967 : decode cL_law 967 = .ok (.iaload, 1) := by decide +kernel
theorem dL_law_968 : decode cL_law 968 = .ok (.aload_n 0, 1) := by decide +kernel
theorem dL_law_969 : decode cL_law 969 = .ok (.iload_n 3, 1) := by decide +kernel
theorem dL_law_970 : decode cL_law 970 = .ok (.iconst 2, 1) := by decide +kernel
theorem dL_law_971 : decode cL_law 971 = .ok (.iadd, 1) := by decide +kernel
theorem dL_law_972 : decode cL_law 972 = .ok (.iaload, 1) := by decide +kernel
theorem dL_law_973 : decode cL_law 973 = .ok (.aload_n 0, 1) := by decide +kernel
theorem dL_law_974 : decode cL_law 974 = .ok (.iload_n 3, 1) := by decide +kernel
theorem dL_law_975 : decode cL_law 975 = .ok (.iconst 3, 1) := by decide +kernel
theorem dL_law_976 : decode cL_law 976 = .ok (.iadd, 1) := by decide +kernel
theorem dL_law_977 : decode cL_law 977 = .ok (.iaload, 1) := by decide +kernel
theorem dL_law_978 : decode cL_law 978 = .ok (.invokevirtual 105, 3) := by decide +kernel
theorem dL_law_981 : decode cL_law 981 = .ok (.lcmp, 1) := by decide +kernel
theorem dL_law_982 : decode cL_law 982 = .ok (.ifCond .eq 313, 3) := by decide +kernel
theorem dL_law_985 : decode cL_law 985 = .ok (.iconst 0, 1) := by decide +kernel
theorem dL_law_986 : decode cL_law 986 = .ok (.ireturn, 1) := by decide +kernel
theorem dL_law_987 : decode cL_law 987 = .ok (.aload_n 1, 1) := by decide +kernel
theorem dL_law_988 : decode cL_law 988 = .ok (.aload_n 0, 1) := by decide +kernel
theorem dL_law_989 : decode cL_law 989 = .ok (.iload_n 3, 1) := by decide +kernel
theorem dL_law_990 : decode cL_law 990 = .ok (.iconst 1, 1) := by decide +kernel
theorem dL_law_991 : decode cL_law 991 = .ok (.iadd, 1) := by decide +kernel
theorem dL_law_992 : decode cL_law 992 = .ok (.iaload, 1) := by decide +kernel
theorem dL_law_993 : decode cL_law 993 = .ok (.aload_n 0, 1) := by decide +kernel
theorem dL_law_994 : decode cL_law 994 = .ok (.iload_n 3, 1) := by decide +kernel
theorem dL_law_995 : decode cL_law 995 = .ok (.iconst 2, 1) := by decide +kernel
theorem dL_law_996 : decode cL_law 996 = .ok (.iadd, 1) := by decide +kernel
theorem dL_law_997 : decode cL_law 997 = .ok (.iaload, 1) := by decide +kernel
theorem dL_law_998 : decode cL_law 998 = .ok (.invokevirtual 106, 3) := by decide +kernel
theorem dL_law_1001 : decode cL_law 1001 = .ok (.aload_n 2, 1) := by decide +kernel
theorem dL_law_1002 : decode cL_law 1002 = .ok (.aload_n 0, 1) := by decide +kernel
theorem dL_law_1003 : decode cL_law 1003 = .ok (.iload_n 3, 1) := by decide +kernel
theorem dL_law_1004 : decode cL_law 1004 = .ok (.iconst 1, 1) := by decide +kernel
theorem dL_law_1005 : decode cL_law 1005 = .ok (.iadd, 1) := by decide +kernel
theorem dL_law_1006 : decode cL_law 1006 = .ok (.iaload, 1) := by decide +kernel
theorem dL_law_1007 : decode cL_law 1007 = .ok (.aload_n 0, 1) := by decide +kernel
theorem dL_law_1008 : decode cL_law 1008 = .ok (.iload_n 3, 1) := by decide +kernel
theorem dL_law_1009 : decode cL_law 1009 = .ok (.iconst 2, 1) := by decide +kernel
theorem dL_law_1010 : decode cL_law 1010 = .ok (.iadd, 1) := by decide +kernel
theorem dL_law_1011 : decode cL_law 1011 = .ok (.iaload, 1) := by decide +kernel
theorem dL_law_1012 : decode cL_law 1012 = .ok (.invokevirtual 109, 3) := by decide +kernel
theorem dL_law_1015 : decode cL_law 1015 = .ok (.if_icmp .eq 280, 3) := by decide +kernel
theorem dL_law_1018 : decode cL_law 1018 = .ok (.iconst 0, 1) := by decide +kernel
theorem dL_law_1019 : decode cL_law 1019 = .ok (.ireturn, 1) := by decide +kernel
theorem dL_law_1020 : decode cL_law 1020 = .ok (.aload_n 1, 1) := by decide +kernel
theorem dL_law_1021 : decode cL_law 1021 = .ok (.aload_n 0, 1) := by decide +kernel
theorem dL_law_1022 : decode cL_law 1022 = .ok (.iload_n 3, 1) := by decide +kernel
theorem dL_law_1023 : decode cL_law 1023 = .ok (.iconst 1, 1) := by decide +kernel
theorem dL_law_1024 : decode cL_law 1024 = .ok (.iadd, 1) := by decide +kernel
theorem dL_law_1025 : decode cL_law 1025 = .ok (.iaload, 1) := by decide +kernel
theorem dL_law_1026 : decode cL_law 1026 = .ok (.invokevirtual 110, 3) := by decide +kernel
theorem dL_law_1029 : decode cL_law 1029 = .ok (.aload_n 2, 1) := by decide +kernel
theorem dL_law_1030 : decode cL_law 1030 = .ok (.aload_n 0, 1) := by decide +kernel
theorem dL_law_1031 : decode cL_law 1031 = .ok (.iload_n 3, 1) := by decide +kernel
theorem dL_law_1032 : decode cL_law 1032 = .ok (.iconst 1, 1) := by decide +kernel
theorem dL_law_1033 : decode cL_law 1033 = .ok (.iadd, 1) := by decide +kernel
theorem dL_law_1034 : decode cL_law 1034 = .ok (.iaload, 1) := by decide +kernel
theorem dL_law_1035 : decode cL_law 1035 = .ok (.invokevirtual 113, 3) := by decide +kernel
theorem dL_law_1038 : decode cL_law 1038 = .ok (.if_icmp .eq 257, 3) := by decide +kernel
theorem dL_law_1041 : decode cL_law 1041 = .ok (.iconst 0, 1) := by decide +kernel
theorem dL_law_1042 : decode cL_law 1042 = .ok (.ireturn, 1) := by decide +kernel
theorem dL_law_1043 : decode cL_law 1043 = .ok (.aload_n 1, 1) := by decide +kernel
theorem dL_law_1044 : decode cL_law 1044 = .ok (.aload_n 0, 1) := by decide +kernel
theorem dL_law_1045 : decode cL_law 1045 = .ok (.iload_n 3, 1) := by decide +kernel
theorem dL_law_1046 : decode cL_law 1046 = .ok (.iconst 1, 1) := by decide +kernel
theorem dL_law_1047 : decode cL_law 1047 = .ok (.iadd, 1) := by decide +kernel
theorem dL_law_1048 : decode cL_law 1048 = .ok (.iaload, 1) := by decide +kernel
theorem dL_law_1049 : decode cL_law 1049 = .ok (.aload_n 0, 1) := by decide +kernel
theorem dL_law_1050 : decode cL_law 1050 = .ok (.iload_n 3, 1) := by decide +kernel
theorem dL_law_1051 : decode cL_law 1051 = .ok (.iconst 2, 1) := by decide +kernel
theorem dL_law_1052 : decode cL_law 1052 = .ok (.iadd, 1) := by decide +kernel
theorem dL_law_1053 : decode cL_law 1053 = .ok (.iaload, 1) := by decide +kernel
theorem dL_law_1054 : decode cL_law 1054 = .ok (.invokevirtual 114, 3) := by decide +kernel
theorem dL_law_1057 : decode cL_law 1057 = .ok (.aload_n 2, 1) := by decide +kernel
theorem dL_law_1058 : decode cL_law 1058 = .ok (.aload_n 0, 1) := by decide +kernel
theorem dL_law_1059 : decode cL_law 1059 = .ok (.iload_n 3, 1) := by decide +kernel
theorem dL_law_1060 : decode cL_law 1060 = .ok (.iconst 1, 1) := by decide +kernel
theorem dL_law_1061 : decode cL_law 1061 = .ok (.iadd, 1) := by decide +kernel
theorem dL_law_1062 : decode cL_law 1062 = .ok (.iaload, 1) := by decide +kernel
theorem dL_law_1063 : decode cL_law 1063 = .ok (.aload_n 0, 1) := by decide +kernel
theorem dL_law_1064 : decode cL_law 1064 = .ok (.iload_n 3, 1) := by decide +kernel
theorem dL_law_1065 : decode cL_law 1065 = .ok (.iconst 2, 1) := by decide +kernel
theorem dL_law_1066 : decode cL_law 1066 = .ok (.iadd, 1) := by decide +kernel
theorem dL_law_1067 : decode cL_law 1067 = .ok (.iaload, 1) := by decide +kernel
theorem dL_law_1068 : decode cL_law 1068 = .ok (.invokevirtual 117, 3) := by decide +kernel
theorem dL_law_1071 : decode cL_law 1071 = .ok (.if_icmp .eq 224, 3) := by decide +kernel
theorem dL_law_1074 : decode cL_law 1074 = .ok (.iconst 0, 1) := by decide +kernel
theorem dL_law_1075 : decode cL_law 1075 = .ok (.ireturn, 1) := by decide +kernel
theorem dL_law_1076 : decode cL_law 1076 = .ok (.aload_n 1, 1) := by decide +kernel
theorem dL_law_1077 : decode cL_law 1077 = .ok (.aload_n 0, 1) := by decide +kernel
theorem dL_law_1078 : decode cL_law 1078 = .ok (.iload_n 3, 1) := by decide +kernel
theorem dL_law_1079 : decode cL_law 1079 = .ok (.iconst 1, 1) := by decide +kernel
theorem dL_law_1080 : decode cL_law 1080 = .ok (.iadd, 1) := by decide +kernel
theorem dL_law_1081 : decode cL_law 1081 = .ok (.iaload, 1) := by decide +kernel
theorem dL_law_1082 : decode cL_law 1082 = .ok (.aload_n 0, 1) := by decide +kernel
theorem dL_law_1083 : decode cL_law 1083 = .ok (.iload_n 3, 1) := by decide +kernel
theorem dL_law_1084 : decode cL_law 1084 = .ok (.iconst 2, 1) := by decide +kernel
theorem dL_law_1085 : decode cL_law 1085 = .ok (.iadd, 1) := by decide +kernel
theorem dL_law_1086 : decode cL_law 1086 = .ok (.iaload, 1) := by decide +kernel
theorem dL_law_1087 : decode cL_law 1087 = .ok (.invokevirtual 118, 3) := by decide +kernel
theorem dL_law_1090 : decode cL_law 1090 = .ok (.aload_n 2, 1) := by decide +kernel
theorem dL_law_1091 : decode cL_law 1091 = .ok (.aload_n 0, 1) := by decide +kernel
theorem dL_law_1092 : decode cL_law 1092 = .ok (.iload_n 3, 1) := by decide +kernel
theorem dL_law_1093 : decode cL_law 1093 = .ok (.iconst 1, 1) := by decide +kernel
theorem dL_law_1094 : decode cL_law 1094 = .ok (.iadd, 1) := by decide +kernel
theorem dL_law_1095 : decode cL_law 1095 = .ok (.iaload, 1) := by decide +kernel
theorem dL_law_1096 : decode cL_law 1096 = .ok (.aload_n 0, 1) := by decide +kernel
theorem dL_law_1097 : decode cL_law 1097 = .ok (.iload_n 3, 1) := by decide +kernel
theorem dL_law_1098 : decode cL_law 1098 = .ok (.iconst 2, 1) := by decide +kernel
theorem dL_law_1099 : decode cL_law 1099 = .ok (.iadd, 1) := by decide +kernel
theorem dL_law_1100 : decode cL_law 1100 = .ok (.iaload, 1) := by decide +kernel
theorem dL_law_1101 : decode cL_law 1101 = .ok (.invokevirtual 121, 3) := by decide +kernel
theorem dL_law_1104 : decode cL_law 1104 = .ok (.if_icmp .eq 191, 3) := by decide +kernel
theorem dL_law_1107 : decode cL_law 1107 = .ok (.iconst 0, 1) := by decide +kernel
theorem dL_law_1108 : decode cL_law 1108 = .ok (.ireturn, 1) := by decide +kernel
theorem dL_law_1109 : decode cL_law 1109 = .ok (.aload_n 1, 1) := by decide +kernel
theorem dL_law_1110 : decode cL_law 1110 = .ok (.aload_n 0, 1) := by decide +kernel
theorem dL_law_1111 : decode cL_law 1111 = .ok (.iload_n 3, 1) := by decide +kernel
theorem dL_law_1112 : decode cL_law 1112 = .ok (.iconst 1, 1) := by decide +kernel
theorem dL_law_1113 : decode cL_law 1113 = .ok (.iadd, 1) := by decide +kernel
theorem dL_law_1114 : decode cL_law 1114 = .ok (.iaload, 1) := by decide +kernel
theorem dL_law_1115 : decode cL_law 1115 = .ok (.invokevirtual 122, 3) := by decide +kernel
theorem dL_law_1118 : decode cL_law 1118 = .ok (.aload_n 2, 1) := by decide +kernel
theorem dL_law_1119 : decode cL_law 1119 = .ok (.aload_n 0, 1) := by decide +kernel
theorem dL_law_1120 : decode cL_law 1120 = .ok (.iload_n 3, 1) := by decide +kernel
theorem dL_law_1121 : decode cL_law 1121 = .ok (.iconst 1, 1) := by decide +kernel
theorem dL_law_1122 : decode cL_law 1122 = .ok (.iadd, 1) := by decide +kernel
theorem dL_law_1123 : decode cL_law 1123 = .ok (.iaload, 1) := by decide +kernel
theorem dL_law_1124 : decode cL_law 1124 = .ok (.invokevirtual 125, 3) := by decide +kernel
theorem dL_law_1127 : decode cL_law 1127 = .ok (.if_icmp .eq 168, 3) := by decide +kernel
theorem dL_law_1130 : decode cL_law 1130 = .ok (.iconst 0, 1) := by decide +kernel
theorem dL_law_1131 : decode cL_law 1131 = .ok (.ireturn, 1) := by decide +kernel
theorem dL_law_1132 : decode cL_law 1132 = .ok (.aload_n 1, 1) := by decide +kernel
theorem dL_law_1133 : decode cL_law 1133 = .ok (.aload_n 0, 1) := by decide +kernel
theorem dL_law_1134 : decode cL_law 1134 = .ok (.iload_n 3, 1) := by decide +kernel
theorem dL_law_1135 : decode cL_law 1135 = .ok (.iconst 1, 1) := by decide +kernel
theorem dL_law_1136 : decode cL_law 1136 = .ok (.iadd, 1) := by decide +kernel
theorem dL_law_1137 : decode cL_law 1137 = .ok (.iaload, 1) := by decide +kernel
theorem dL_law_1138 : decode cL_law 1138 = .ok (.invokevirtual 126, 3) := by decide +kernel
theorem dL_law_1141 : decode cL_law 1141 = .ok (.aload_n 2, 1) := by decide +kernel
theorem dL_law_1142 : decode cL_law 1142 = .ok (.aload_n 0, 1) := by decide +kernel
theorem dL_law_1143 : decode cL_law 1143 = .ok (.iload_n 3, 1) := by decide +kernel
theorem dL_law_1144 : decode cL_law 1144 = .ok (.iconst 1, 1) := by decide +kernel
theorem dL_law_1145 : decode cL_law 1145 = .ok (.iadd, 1) := by decide +kernel
theorem dL_law_1146 : decode cL_law 1146 = .ok (.iaload, 1) := by decide +kernel
theorem dL_law_1147 : decode cL_law 1147 = .ok (.invokevirtual 129, 3) := by decide +kernel
theorem dL_law_1150 : decode cL_law 1150 = .ok (.if_icmp .eq 145, 3) := by decide +kernel
theorem dL_law_1153 : decode cL_law 1153 = .ok (.iconst 0, 1) := by decide +kernel
theorem dL_law_1154 : decode cL_law 1154 = .ok (.ireturn, 1) := by decide +kernel
theorem dL_law_1155 : decode cL_law 1155 = .ok (.aload_n 1, 1) := by decide +kernel
theorem dL_law_1156 : decode cL_law 1156 = .ok (.invokevirtual 130, 3) := by decide +kernel
theorem dL_law_1159 : decode cL_law 1159 = .ok (.aload_n 2, 1) := by decide +kernel
theorem dL_law_1160 : decode cL_law 1160 = .ok (.invokevirtual 133, 3) := by decide +kernel
theorem dL_law_1163 : decode cL_law 1163 = .ok (.if_icmp .eq 132, 3) := by decide +kernel
theorem dL_law_1166 : decode cL_law 1166 = .ok (.iconst 0, 1) := by decide +kernel
theorem dL_law_1167 : decode cL_law 1167 = .ok (.ireturn, 1) := by decide +kernel
theorem dL_law_1168 : decode cL_law 1168 = .ok (.aload_n 1, 1) := by decide +kernel
theorem dL_law_1169 : decode cL_law 1169 = .ok (.invokevirtual 134, 3) := by decide +kernel
theorem dL_law_1172 : decode cL_law 1172 = .ok (.aload_n 2, 1) := by decide +kernel
theorem dL_law_1173 : decode cL_law 1173 = .ok (.invokevirtual 137, 3) := by decide +kernel
theorem dL_law_1176 : decode cL_law 1176 = .ok (.if_icmp .eq 119, 3) := by decide +kernel
theorem dL_law_1179 : decode cL_law 1179 = .ok (.iconst 0, 1) := by decide +kernel
theorem dL_law_1180 : decode cL_law 1180 = .ok (.ireturn, 1) := by decide +kernel
theorem dL_law_1181 : decode cL_law 1181 = .ok (.aload_n 1, 1) := by decide +kernel
theorem dL_law_1182 : decode cL_law 1182 = .ok (.aload_n 0, 1) := by decide +kernel
theorem dL_law_1183 : decode cL_law 1183 = .ok (.iload_n 3, 1) := by decide +kernel
theorem dL_law_1184 : decode cL_law 1184 = .ok (.iconst 1, 1) := by decide +kernel
theorem dL_law_1185 : decode cL_law 1185 = .ok (.iadd, 1) := by decide +kernel
theorem dL_law_1186 : decode cL_law 1186 = .ok (.iaload, 1) := by decide +kernel
theorem dL_law_1187 : decode cL_law 1187 = .ok (.invokevirtual 138, 3) := by decide +kernel
theorem dL_law_1190 : decode cL_law 1190 = .ok (.aload_n 2, 1) := by decide +kernel
theorem dL_law_1191 : decode cL_law 1191 = .ok (.aload_n 0, 1) := by decide +kernel
theorem dL_law_1192 : decode cL_law 1192 = .ok (.iload_n 3, 1) := by decide +kernel
theorem dL_law_1193 : decode cL_law 1193 = .ok (.iconst 1, 1) := by decide +kernel
theorem dL_law_1194 : decode cL_law 1194 = .ok (.iadd, 1) := by decide +kernel
theorem dL_law_1195 : decode cL_law 1195 = .ok (.iaload, 1) := by decide +kernel
theorem dL_law_1196 : decode cL_law 1196 = .ok (.invokevirtual 141, 3) := by decide +kernel
theorem dL_law_1199 : decode cL_law 1199 = .ok (.if_icmp .eq 96, 3) := by decide +kernel
theorem dL_law_1202 : decode cL_law 1202 = .ok (.iconst 0, 1) := by decide +kernel
theorem dL_law_1203 : decode cL_law 1203 = .ok (.ireturn, 1) := by decide +kernel
theorem dL_law_1204 : decode cL_law 1204 = .ok (.aload_n 1, 1) := by decide +kernel
theorem dL_law_1205 : decode cL_law 1205 = .ok (.invokevirtual 142, 3) := by decide +kernel
theorem dL_law_1208 : decode cL_law 1208 = .ok (.aload_n 2, 1) := by decide +kernel
theorem dL_law_1209 : decode cL_law 1209 = .ok (.invokevirtual 145, 3) := by decide +kernel
theorem dL_law_1212 : decode cL_law 1212 = .ok (.if_icmp .eq 83, 3) := by decide +kernel
theorem dL_law_1215 : decode cL_law 1215 = .ok (.iconst 0, 1) := by decide +kernel
theorem dL_law_1216 : decode cL_law 1216 = .ok (.ireturn, 1) := by decide +kernel
theorem dL_law_1217 : decode cL_law 1217 = .ok (.aload_n 1, 1) := by decide +kernel
theorem dL_law_1218 : decode cL_law 1218 = .ok (.aload_n 0, 1) := by decide +kernel
theorem dL_law_1219 : decode cL_law 1219 = .ok (.iload_n 3, 1) := by decide +kernel
theorem dL_law_1220 : decode cL_law 1220 = .ok (.iconst 1, 1) := by decide +kernel
theorem dL_law_1221 : decode cL_law 1221 = .ok (.iadd, 1) := by decide +kernel
theorem dL_law_1222 : decode cL_law 1222 = .ok (.iaload, 1) := by decide +kernel
theorem dL_law_1223 : decode cL_law 1223 = .ok (.aload_n 0, 1) := by decide +kernel
theorem dL_law_1224 : decode cL_law 1224 = .ok (.iload_n 3, 1) := by decide +kernel
theorem dL_law_1225 : decode cL_law 1225 = .ok (.iconst 2, 1) := by decide +kernel
theorem dL_law_1226 : decode cL_law 1226 = .ok (.iadd, 1) := by decide +kernel
theorem dL_law_1227 : decode cL_law 1227 = .ok (.iaload, 1) := by decide +kernel
theorem dL_law_1228 : decode cL_law 1228 = .ok (.invokevirtual 146, 3) := by decide +kernel
theorem dL_law_1231 : decode cL_law 1231 = .ok (.aload_n 2, 1) := by decide +kernel
theorem dL_law_1232 : decode cL_law 1232 = .ok (.aload_n 0, 1) := by decide +kernel
theorem dL_law_1233 : decode cL_law 1233 = .ok (.iload_n 3, 1) := by decide +kernel
theorem dL_law_1234 : decode cL_law 1234 = .ok (.iconst 1, 1) := by decide +kernel
theorem dL_law_1235 : decode cL_law 1235 = .ok (.iadd, 1) := by decide +kernel
theorem dL_law_1236 : decode cL_law 1236 = .ok (.iaload, 1) := by decide +kernel
theorem dL_law_1237 : decode cL_law 1237 = .ok (.aload_n 0, 1) := by decide +kernel
theorem dL_law_1238 : decode cL_law 1238 = .ok (.iload_n 3, 1) := by decide +kernel
theorem dL_law_1239 : decode cL_law 1239 = .ok (.iconst 2, 1) := by decide +kernel
theorem dL_law_1240 : decode cL_law 1240 = .ok (.iadd, 1) := by decide +kernel
theorem dL_law_1241 : decode cL_law 1241 = .ok (.iaload, 1) := by decide +kernel
theorem dL_law_1242 : decode cL_law 1242 = .ok (.invokevirtual 150, 3) := by decide +kernel
theorem dL_law_1245 : decode cL_law 1245 = .ok (.lcmp, 1) := by decide +kernel
theorem dL_law_1246 : decode cL_law 1246 = .ok (.ifCond .eq 49, 3) := by decide +kernel
theorem dL_law_1249 : decode cL_law 1249 = .ok (.iconst 0, 1) := by decide +kernel
theorem dL_law_1250 : decode cL_law 1250 = .ok (.ireturn, 1) := by decide +kernel
theorem dL_law_1251 : decode cL_law 1251 = .ok (.aload_n 1, 1) := by decide +kernel
theorem dL_law_1252 : decode cL_law 1252 = .ok (.aload_n 0, 1) := by decide +kernel
theorem dL_law_1253 : decode cL_law 1253 = .ok (.iload_n 3, 1) := by decide +kernel
theorem dL_law_1254 : decode cL_law 1254 = .ok (.iconst 1, 1) := by decide +kernel
theorem dL_law_1255 : decode cL_law 1255 = .ok (.iadd, 1) := by decide +kernel
theorem dL_law_1256 : decode cL_law 1256 = .ok (.iaload, 1) := by decide +kernel
theorem dL_law_1257 : decode cL_law 1257 = .ok (.aload_n 0, 1) := by decide +kernel
theorem dL_law_1258 : decode cL_law 1258 = .ok (.iload_n 3, 1) := by decide +kernel
theorem dL_law_1259 : decode cL_law 1259 = .ok (.iconst 2, 1) := by decide +kernel
theorem dL_law_1260 : decode cL_law 1260 = .ok (.iadd, 1) := by decide +kernel
theorem dL_law_1261 : decode cL_law 1261 = .ok (.iaload, 1) := by decide +kernel
theorem dL_law_1262 : decode cL_law 1262 = .ok (.aload_n 0, 1) := by decide +kernel
theorem dL_law_1263 : decode cL_law 1263 = .ok (.iload_n 3, 1) := by decide +kernel
theorem dL_law_1264 : decode cL_law 1264 = .ok (.iconst 3, 1) := by decide +kernel
theorem dL_law_1265 : decode cL_law 1265 = .ok (.iadd, 1) := by decide +kernel
theorem dL_law_1266 : decode cL_law 1266 = .ok (.iaload, 1) := by decide +kernel
theorem dL_law_1267 : decode cL_law 1267 = .ok (.invokevirtual 151, 3) := by decide +kernel
theorem dL_law_1270 : decode cL_law 1270 = .ok (.aload_n 2, 1) := by decide +kernel
theorem dL_law_1271 : decode cL_law 1271 = .ok (.aload_n 0, 1) := by decide +kernel
theorem dL_law_1272 : decode cL_law 1272 = .ok (.iload_n 3, 1) := by decide +kernel
theorem dL_law_1273 : decode cL_law 1273 = .ok (.iconst 1, 1) := by decide +kernel
theorem dL_law_1274 : decode cL_law 1274 = .ok (.iadd, 1) := by decide +kernel
theorem dL_law_1275 : decode cL_law 1275 = .ok (.iaload, 1) := by decide +kernel
theorem dL_law_1276 : decode cL_law 1276 = .ok (.aload_n 0, 1) := by decide +kernel
theorem dL_law_1277 : decode cL_law 1277 = .ok (.iload_n 3, 1) := by decide +kernel
theorem dL_law_1278 : decode cL_law 1278 = .ok (.iconst 2, 1) := by decide +kernel
theorem dL_law_1279 : decode cL_law 1279 = .ok (.iadd, 1) := by decide +kernel
theorem dL_law_1280 : decode cL_law 1280 = .ok (.iaload, 1) := by decide +kernel
theorem dL_law_1281 : decode cL_law 1281 = .ok (.aload_n 0, 1) := by decide +kernel
theorem dL_law_1282 : decode cL_law 1282 = .ok (.iload_n 3, 1) := by decide +kernel
theorem dL_law_1283 : decode cL_law 1283 = .ok (.iconst 3, 1) := by decide +kernel
theorem dL_law_1284 : decode cL_law 1284 = .ok (.iadd, 1) := by decide +kernel
theorem dL_law_1285 : decode cL_law 1285 = .ok (.iaload, 1) := by decide +kernel
theorem dL_law_1286 : decode cL_law 1286 = .ok (.invokevirtual 154, 3) := by decide +kernel
theorem dL_law_1289 : decode cL_law 1289 = .ok (.lcmp, 1) := by decide +kernel
theorem dL_law_1290 : decode cL_law 1290 = .ok (.ifCond .eq 5, 3) := by decide +kernel
theorem dL_law_1293 : decode cL_law 1293 = .ok (.iconst 0, 1) := by decide +kernel
theorem dL_law_1294 : decode cL_law 1294 = .ok (.ireturn, 1) := by decide +kernel
theorem dL_law_1295 : decode cL_law 1295 = .ok (.iinc 3 6, 3) := by decide +kernel
theorem dL_law_1298 : decode cL_law 1298 = .ok (.goto (-1280), 3) := by decide +kernel
theorem dL_law_1301 : decode cL_law 1301 = .ok (.iconst 1, 1) := by decide +kernel
theorem dL_law_1302 : decode cL_law 1302 = .ok (.ireturn, 1) := by decide +kernel
end
section

/-! VALUES AND HEAPS OF MY OWN: ints and longs as whole numbers, floats by their bits, references by their addresses -/
theorem zin {w : Cond} {i : Nat} (h : lw_tbl[i]? = some w) (g : goodWord w = true) : w ∈ lw_tbl.filter goodWord := List.mem_filter.mpr ⟨List.mem_of_getElem? h, g⟩
def lw_all : List Cond := lw_tbl.filter goodWord
theorem lw_all_tbl {w : Cond} (h : w ∈ lw_all) : w ∈ lw_tbl := (List.mem_filter.mp h).1
theorem lw_all_good {w : Cond} (h : w ∈ lw_all) : goodWord w = true := (List.mem_filter.mp h).2
def zNest : Cond → Bool
  | .fieldLinkNest .. => true
  | .methodLinkNest .. => true
  | _ => false
def lw_nst : List Cond := lw_tbl.filter zNest
theorem znin {w : Cond} {i : Nat} (h : lw_tbl[i]? = some w) (g : zNest w = true) : w ∈ lw_nst := List.mem_filter.mpr ⟨List.mem_of_getElem? h, g⟩
theorem zNest_warm {w : Cond} (g : zNest w = true) {s U : State} (hW : s.WarmedH U.vm) (hZ : va_Nw w s) : va_Nw w U := by
  cases w <;> first | (simp [zNest] at g; done) | exact va_Nw.warmF hW hZ | exact va_Nw.warmM hW hZ
theorem zNest_tab {w : Cond} (g : zNest w = true) : w.onTables = true := by
  cases w <;> first | (simp [zNest] at g; done) | rfl
theorem zNst_warm {s U : State} (hW : s.WarmedH U.vm) (h : ∀ w ∈ lw_nst, va_Nw w s) : ∀ w ∈ lw_nst, va_Nw w U := fun w hw => zNest_warm (List.mem_filter.mp hw).2 hW (h w hw)
theorem zNst_same {s U : State} (hv : s.vm = U.vm) (h : ∀ w ∈ lw_nst, va_Nw w s) : ∀ w ∈ lw_nst, va_Nw w U := fun w hw => va_Nw.same (zNest_tab (List.mem_filter.mp hw).2) hv (h w hw)
abbrev zV : Type := Int ⊕ (Int ⊕ (UInt32 ⊕ (UInt64 ⊕ Option Nat)))
abbrev vI (z : Int) : zV := .inl z
abbrev vL (z : Int) : zV := .inr (.inl z)
abbrev vF (x : UInt32) : zV := .inr (.inr (.inl x))
abbrev vD (x : UInt64) : zV := .inr (.inr (.inr (.inl x)))
abbrev vR (r : Option Nat) : zV := .inr (.inr (.inr (.inr r)))
def rv : zV → Value
  | .inl z => .int (Int32.ofInt z)
  | .inr (.inl z) => .long (Int64.ofInt z)
  | .inr (.inr (.inl x)) => .float x
  | .inr (.inr (.inr (.inl x))) => .double x
  | .inr (.inr (.inr (.inr r))) => va_rf r
def vcat : zV → Nat
  | .inl _ => 1
  | .inr (.inl _) => 2
  | .inr (.inr (.inl _)) => 1
  | .inr (.inr (.inr (.inl _))) => 2
  | .inr (.inr (.inr (.inr _))) => 1
theorem rv_cat (v : zV) : (rv v).category = vcat v := by
  rcases v with z | z | z | z | z
  · rfl
  · rfl
  · rfl
  · rfl
  · cases z <;> rfl
abbrev zT : Type := List Nat × (Nat → Nat) × (Nat → Nat) × (Nat → Int → Int) × (Nat → Int → UInt32) × (Nat → Int → Option Nat)
def tL (t : zT) : List Nat := t.1
def tK (t : zT) : Nat → Nat := t.2.1
def tN (t : zT) : Nat → Nat := t.2.2.1
def tI (t : zT) : Nat → Int → Int := t.2.2.2.1
def tF (t : zT) : Nat → Int → UInt32 := t.2.2.2.2.1
def tP (t : zT) : Nat → Int → Option Nat := t.2.2.2.2.2
def up2 {α : Type} (f : Nat → Int → α) (a : Nat) (k : Int) (v : α) : Nat → Int → α := fun b j => if b = a ∧ j = k then v else f b j
def up1 {α : Type} (f : Nat → α) (a : Nat) (v : α) : Nat → α := fun b => if b = a then v else f b
def sI (t : zT) (a : Nat) (k : Int) (v : Int) : zT := (tL t, tK t, tN t, up2 (tI t) a k v, tF t, tP t)
def sF (t : zT) (a : Nat) (k : Int) (v : UInt32) : zT := (tL t, tK t, tN t, tI t, up2 (tF t) a k v, tP t)
def sP (t : zT) (a : Nat) (k : Int) (v : Option Nat) : zT := (tL t, tK t, tN t, tI t, tF t, up2 (tP t) a k v)
/-- ints of one array, copied from another -/
def sC (t : zT) (b a : Nat) (i k n : Int) : zT := (tL t, tK t, tN t, (fun q j => if q = a ∧ k ≤ j ∧ j < k + n then tI t b (i + (j - k)) else tI t q j), tF t, tP t)
/-- a new cell -/
def sA (t : zT) (q kd n : Nat) : zT := (tL t ++ [q], up1 (tK t) q kd, up1 (tN t) q n, up1 (tI t) q (fun _ => 0), up1 (tF t) q (fun _ => 0), up1 (tP t) q (fun _ => none))
def zNf : Nat → Nat
  | 0 => 6
  | 1 => 14
  | 2 => 4
  | 3 => 9
  | _ => 36
/-- what a field is: 0 an int, 1 a float, 2 a reference -/
def zTg : Nat → Nat → Nat
  | 0, k => if k = 1 then 1 else 0
  | 1, k => if k = 4 then 2 else if k = 5 then 1 else if 11 ≤ k then 2 else 0
  | 2, k => if k = 1 then 0 else 2
  | 3, k => if k = 1 ∨ k = 3 ∨ k = 6 ∨ k = 8 then 0 else 2
  | _, k => if k = 0 ∨ k = 15 ∨ k = 18 ∨ k = 23 ∨ k = 32 then 0 else 2
def zFv (t : zT) (a tg k : Nat) : Value := if tg = 0 then .int (Int32.ofInt (tI t a k)) else if tg = 1 then .float (tF t a k) else va_rf (tP t a k)
def zE (cy : Nat → ClassId) (t : zT) (a : Nat) : va_E :=
  if tK t a < 5 then .inr (tK t a, (List.range (zNf (tK t a))).map (fun k => zFv t a (zTg (tK t a) k) k))
  else if tK t a = 5 then .inl (cy 5, tN t a, .inr (.inr (.inl (fun j => tF t a j))))
  else if tK t a < 8 then .inl (cy (tK t a), tN t a, .inl (fun j => Int32.ofInt (tI t a j)))
  else .inl (cy (tK t a), tN t a, .inr (.inr (.inr (.inr (fun j => tP t a j)))))
abbrev zW (cy : Nat → ClassId) (t : zT) : va_W := va_pl (tL t) (zE cy t)
abbrev zTy (cy : Nat → ClassId) : List (ClassId × FieldType) := [(cy 5, .float), (cy 6, .int), (cy 7, .boolean), (cy 8, .object RX0), (cy 9, .object RX1), (cy 10, .object RX2)]
def zab (j : Nat) : Value := .int (if j = 0 then -1 else if j = 1 then 0 else if j = 2 then 1 else if j = 3 then 2 else if j = 4 then 0 else 2)
def zAB (A : Nat → Prop) (U : State) (H : Heap) : Prop := ∃ ta : Nat, va_Z "RopeWalk" "ABOVE" "[I" (.ref ta) A U H ∧ va_T .int ta 6 zab A U H
def zAO (U : State) : Prop := va_AO RX0 U ∧ va_AO RX1 U ∧ va_AO RX2 U
theorem zAB.moved {A : Nat → Prop} {u U : State} {H : Heap} (hvm : u.vm.Alike U.vm) (h : zAB A u H) : zAB A U H := by
  obtain ⟨ta, h1, h2⟩ := h
  exact ⟨ta, h1.moved hvm, h2.moved hvm⟩
theorem zAO.moved {u U : State} (hvm : u.vm.Alike U.vm) (h : zAO u) : zAO U := ⟨h.1.moved hvm, h.2.1.moved hvm, h.2.2.moved hvm⟩
def zR (d mc ms : Nat) : Room := { frames := d, cells := mc, slots := ms, locals := 40 * d }
/-- what stands for the whole of a method's body -/
def zCV (y : MethodName) (b : ByteArray) (nL : Nat) (ret : Option FieldType) (p : Program) (s : State) (m : MethodId) (args : Array Value) (meth : Method) (c : Code) (D : va_G) (cy : Nat → ClassId) (A : Nat → Prop) : Prop :=
  p.tables.exec = Jvm.exec ∧ c.code = b ∧ meth.sig.returnType = ret ∧ (∀ w ∈ lw_all, w.before args s = true) ∧ (∀ w ∈ lw_nst, va_Nw w s) ∧ s.vm.findClass y.cls = some m.cls ∧ c.maxLocals = nL ∧ meth.locks = false ∧ meth.name = y.name ∧ va_K D vwCl (zTy cy) s ∧ (∀ q, s.heap.size ≤ q → A q) ∧ zAB A s s.heap ∧ zAO s
def zWD (D : va_G) (cy : Nat → ClassId) (A : Nat → Prop) (H0 : Heap) (t : zT) (H : Heap) (locs : List Loc) : Prop := va_P D vwCl (zW cy t) H ∧ va_D A (zW cy t) ∧ va_S A H0 H locs
/-- a method's end -/
def zQ (D : va_G) (cy : Nat → ClassId) (A : Nat → Prop) (Post : Option zV → zT → Prop) : Array Value → State → Outcome → State → Prop := fun _ st oc u => (∃ (r : Option zV) (t1 : zT), oc = .returned (r.map rv) ∧ Post r t1 ∧ va_P D vwCl (zW cy t1) u.heap ∧ va_D A (zW cy t1) ∧ va_K D vwCl (zTy cy) u) ∧ va_F A st u
abbrev zlv (lv : List (Nat × zV)) : List (Nat × Value) := lv.map fun q => (q.1, rv q.2)
/-- THE JUDGEMENT: from this place on the method comes to an end that Post holds of -/
def zOK (y : MethodName) (b : ByteArray) (nL : Nat) (ret : Option FieldType) (d mc ms : Nat) (Post : Option zV → zT → Prop) (cu su pc : Nat) (lv : List (Nat × zV)) (st : List zV) (t : zT) : Prop :=
  ∀ (p : Program) (l : Launch) (e : Env) (s : State) (m : MethodId) (args : Array Value) (below : List Frame) (meth : Method) (c : Code) (D : va_G) (cy : Nat → ClassId) (A : Nat → Prop), zCV y b nL ret p s m args meth c D cy A → ∀ (H : Heap) (locs : List Loc) (ls : Array Slot), zWD D cy A s.heap t H locs → lv_has ls nL (zlv lv) → W p l e (zR d mc ms) s m args below meth c H locs cu su (MQ below (zQ D cy A Post) args s mc ms A) (F0 m pc ls (st.map rv))
def zws (y : MethodName) (b : ByteArray) (nL : Nat) (ret : Option FieldType) : List Cond := Cond.code y b nL ret :: lw_all
def zB (cy : Nat → ClassId) (D : va_G) (t : zT) (sz : Nat) (U : State) : Prop := U.heap.size = sz ∧ va_P D vwCl (zW cy t) U.heap ∧ va_D (fun _ => True) (zW cy t) ∧ va_K D vwCl (zTy cy) U ∧ (∀ w ∈ lw_nst, va_Nw w U) ∧ zAB (va_A (zW cy t) sz) U U.heap ∧ zAO U
/-- A CONTRACT, of one call -/
def zM (y : MethodName) (b : ByteArray) (nL : Nat) (ret : Option FieldType) (d mc ms : Nat) (as : List zV) (t : zT) (Post : Option zV → zT → Prop) : Prop :=
  ∀ (l : Launch) (D : va_G) (cy : Nat → ClassId) (sz : Nat), Met l y (zws y b nL ret) (zR d mc ms) (va_Pc (as.map rv) (zB cy D t sz)) (zQ D cy (va_A (zW cy t) sz) Post) mc ms (va_A (zW cy t) sz)
theorem zB_blind {cy : Nat → ClassId} {D : va_G} {t : zT} {sz : Nat} {av : List Value} : FrameBlind (va_Pc av (zB cy D t sz)) := by
  intro a U g mk q
  obtain ⟨q0, q1, qP, qD, qK, qN, qA, qO⟩ := q
  exact ⟨q0, q1, qP, qD, va_K.moved (u := U) (U := U.calling g mk a) (Vm.Alike.refl U.vm) qK, zNst_same (s := U) (U := U.calling g mk a) rfl qN, zAB.moved (u := U) (U := U.calling g mk a) (Vm.Alike.refl U.vm) qA, zAO.moved (u := U) (U := U.calling g mk a) (Vm.Alike.refl U.vm) qO⟩
/-- a contract by its body -/
theorem zM.of {y : MethodName} {b : ByteArray} {nL : Nat} {ret : Option FieldType} {d mc ms : Nat} {as : List zV} {t : zT} {Post : Option zV → zT → Prop} (lv : List (Nat × zV)) (hy : plainName y.cls = true) (hl : lv_args 0 (as.map rv) = zlv lv) (hn : (lg_sl (as.map rv)).length ≤ nL) (h : zOK y b nL ret d mc ms Post 0 0 0 lv [] t) : zM y b nL ret d mc ms as t Post := by
  intro l D cy sz
  refine Met.ofW (cc := b) (maxL := nL) (ret := ret) hy rfl ?_
  intro p e s m args below meth c s₁ B hml hv
  obtain ⟨rfl, hsz, hP, hD0, hK, hN, hAb, hO⟩ := hv
  subst hsz
  have hts := atoms_spec (ws := zws y b nL ret) B.pre
  have hD := hD0.self (sz := s.heap.size)
  have hls := lv_entry (as.map rv) (n := nL) hn
  rw [lg_entry_eq]
  rw [hl] at hls
  exact h p l e s m _ below meth c D cy _ ⟨B.exec, B.bytes, B.returns, fun w hw => hts w (List.mem_cons_of_mem _ hw), hN, findClass_of_methodNamed B.named, hml, B.notSynchronized, (name_of_methodNamed B.named B.method).1, hK, fun q hq => Or.inr hq, hAb, hO⟩ _ _ _ ⟨hP, hD, va_S.rf⟩ hls
end
section

section ZR
variable {y : MethodName} {b : ByteArray} {nL : Nat} {ret : Option FieldType} {d mc ms : Nat} {Post : Option zV → zT → Prop} {cu su pc : Nat} {lv : List (Nat × zV)} {st : List zV} {t : zT}
theorem zOK.mono {P2 : Option zV → zT → Prop} (h : zOK y b nL ret d mc ms Post cu su pc lv st t) (hp : ∀ r t1, Post r t1 → P2 r t1) : zOK y b nL ret d mc ms P2 cu su pc lv st t := by
  intro p l e s m args below meth c D cy A hC H locs ls hw hl T hT X
  obtain ⟨u, h1, o, h2, h3, ⟨⟨r, t1, e1, e2, e3⟩, h4⟩, h5⟩ := h p l e s m args below meth c D cy A hC H locs ls hw hl T hT X
  exact ⟨u, h1, o, h2, h3, ⟨⟨r, t1, e1, hp r t1 e2, e3⟩, h4⟩, h5⟩
def zget (i : Nat) : List (Nat × zV) → Option zV
  | [] => none
  | q :: l => if i = q.1 then some q.2 else zget i l
theorem zget_mem {i : Nat} {v : zV} : ∀ {l : List (Nat × zV)}, zget i l = some v → (i, v) ∈ l
  | [], h => by simp [zget] at h
  | (j, w) :: l, h => by
    unfold zget at h
    split at h
    · next e => cases h; subst e; exact List.mem_cons_self
    · exact List.mem_cons_of_mem _ (zget_mem h)
def zset (i : Nat) (v : zV) (l : List (Nat × zV)) : List (Nat × zV) := (i, v) :: l.filter (fun q => !(q.1 == i) && !(q.1 + 1 == i && vcat q.2 == 2))
def zset2 (i : Nat) (v : zV) (l : List (Nat × zV)) : List (Nat × zV) := (i, v) :: l.filter (fun q => !(q.1 == i) && (!(q.1 == i + 1) && !(q.1 + 1 == i && vcat q.2 == 2)))
theorem zlv_get {ls : Array Slot} {i : Nat} {v : zV} (h : lv_has ls nL (zlv lv)) (hg : zget i lv = some v) : ls[i]? = some (.val (rv v)) := h.2.2 (i, rv v) (List.mem_map.mpr ⟨(i, v), zget_mem hg, rfl⟩)
theorem zlv_set (i : Nat) (v : zV) (l : List (Nat × zV)) : (i, rv v) :: (zlv l).filter (fun q => !(q.1 == i) && !(q.1 + 1 == i && q.2.category == 2)) = zlv (zset i v l) := by
  unfold zset zlv
  rw [List.map_cons, List.filter_map]
  congr 2
  apply List.filter_congr
  intro q hq
  simp [Function.comp, rv_cat]
theorem zlv_set2 (i : Nat) (v : zV) (l : List (Nat × zV)) : (i, rv v) :: (zlv l).filter (fun q => !(q.1 == i) && (!(q.1 == i + 1) && !(q.1 + 1 == i && q.2.category == 2))) = zlv (zset2 i v l) := by
  unfold zset2 zlv
  rw [List.map_cons, List.filter_map]
  congr 2
  apply List.filter_congr
  intro q hq
  simp [Function.comp, rv_cat]
/-- fewer locals -/
def zsub (lv : List (Nat × zV)) : List (Nat × zV) → Prop
  | [] => True
  | q :: l => zget q.1 lv = some q.2 ∧ zsub lv l
theorem zsub_in {lv l : List (Nat × zV)} (h : zsub lv l) : ∀ q ∈ l, q ∈ lv := by
  induction l with
  | nil => intro q hq; cases hq
  | cons a l ih =>
    intro q hq
    rcases List.mem_cons.mp hq with rfl | hq
    · exact zget_mem h.1
    · exact ih h.2 q hq
theorem z_sub {lv' : List (Nat × zV)} (h : zsub lv lv') (kk : zOK y b nL ret d mc ms Post cu su pc lv' st t) : zOK y b nL ret d mc ms Post cu su pc lv st t := by
  intro p l e s m args below meth c D cy A hC H locs ls hw hl
  refine kk p l e s m args below meth c D cy A hC H locs ls hw ⟨hl.1, hl.2.1, fun q hq => ?_⟩
  obtain ⟨q', hq', rfl⟩ := List.mem_map.mp hq
  exact hl.2.2 _ (List.mem_map.mpr ⟨q', zsub_in h q' hq', rfl⟩)
theorem z_top {v w : zV} (h : v = w) (kk : zOK y b nL ret d mc ms Post cu su pc lv (w :: st) t) : zOK y b nL ret d mc ms Post cu su pc lv (v :: st) t := h ▸ kk
theorem z_heap {t' : zT} (h : t = t') (kk : zOK y b nL ret d mc ms Post cu su pc lv st t') : zOK y b nL ret d mc ms Post cu su pc lv st t := h ▸ kk
/-- a row that changes the stack and the place alone -/
theorem z_pure (pc' : Nat) {st1 : List zV} (h : ∀ (p : Program) (l : Launch) (e : Env) (R : Room) (s : State) (m : MethodId) (args : Array Value) (below : List Frame) (meth : Method) (c : Code) (H : Heap) (locs : List Loc) (cells slots : Nat) (Q : State → Prop) (ls : Array Slot), p.tables.exec = Jvm.exec → c.code = b → W p l e R s m args below meth c H locs cells slots Q (F0 m pc' ls (st1.map rv)) → W p l e R s m args below meth c H locs cells slots Q (F0 m pc ls (st.map rv)))
    (kk : zOK y b nL ret d mc ms Post cu su pc' lv st1 t) : zOK y b nL ret d mc ms Post cu su pc lv st t := fun p l e s m args below meth c D cy A hC H locs ls hw hl =>
  h p l e (zR d mc ms) s m args below meth c H locs cu su _ ls hC.1 hC.2.1 (kk p l e s m args below meth c D cy A hC H locs ls hw hl)
/-- a row that reads a local -/
theorem z_local (pc' : Nat) {st1 : List zV} (i : Nat) {v : zV} (hg : zget i lv = some v) (h : ∀ (p : Program) (l : Launch) (e : Env) (R : Room) (s : State) (m : MethodId) (args : Array Value) (below : List Frame) (meth : Method) (c : Code) (H : Heap) (locs : List Loc) (cells slots : Nat) (Q : State → Prop) (ls : Array Slot), p.tables.exec = Jvm.exec → c.code = b → ls[i]? = some (.val (rv v)) → W p l e R s m args below meth c H locs cells slots Q (F0 m pc' ls (st1.map rv)) → W p l e R s m args below meth c H locs cells slots Q (F0 m pc ls (st.map rv)))
    (kk : zOK y b nL ret d mc ms Post cu su pc' lv st1 t) : zOK y b nL ret d mc ms Post cu su pc lv st t := fun p l e s m args below meth c D cy A hC H locs ls hw hl =>
  h p l e (zR d mc ms) s m args below meth c H locs cu su _ ls hC.1 hC.2.1 (zlv_get hl hg) (kk p l e s m args below meth c D cy A hC H locs ls hw hl)
/-- a row that writes a local -/
theorem z_store (pc' : Nat) {st1 : List zV} {lv' : List (Nat × zV)} (h : ∀ (p : Program) (l : Launch) (e : Env) (R : Room) (s : State) (m : MethodId) (args : Array Value) (below : List Frame) (meth : Method) (c : Code) (H : Heap) (locs : List Loc) (cells slots : Nat) (Q : State → Prop) (ls : Array Slot), p.tables.exec = Jvm.exec → c.code = b → lv_has ls nL (zlv lv) → (∀ ls' : Array Slot, lv_has ls' nL (zlv lv') → W p l e R s m args below meth c H locs cells slots Q (F0 m pc' ls' (st1.map rv))) → W p l e R s m args below meth c H locs cells slots Q (F0 m pc ls (st.map rv)))
    (kk : zOK y b nL ret d mc ms Post cu su pc' lv' st1 t) : zOK y b nL ret d mc ms Post cu su pc lv st t := fun p l e s m args below meth c D cy A hC H locs ls hw hl =>
  h p l e (zR d mc ms) s m args below meth c H locs cu su _ ls hC.1 hC.2.1 hl (fun ls' hl' => kk p l e s m args below meth c D cy A hC H locs ls' hw hl')
/-- a row with two ways on -/
theorem z_fork (tgt pc' : Nat) {c0 : Prop} {st1 : List zV} (h : ∀ (p : Program) (l : Launch) (e : Env) (R : Room) (s : State) (m : MethodId) (args : Array Value) (below : List Frame) (meth : Method) (c : Code) (H : Heap) (locs : List Loc) (cells slots : Nat) (Q : State → Prop) (ls : Array Slot), p.tables.exec = Jvm.exec → c.code = b → (c0 → W p l e R s m args below meth c H locs cells slots Q (F0 m tgt ls (st1.map rv))) → (¬ c0 → W p l e R s m args below meth c H locs cells slots Q (F0 m pc' ls (st1.map rv))) → W p l e R s m args below meth c H locs cells slots Q (F0 m pc ls (st.map rv)))
    (k1 : c0 → zOK y b nL ret d mc ms Post cu su tgt lv st1 t) (k2 : ¬ c0 → zOK y b nL ret d mc ms Post cu su pc' lv st1 t) : zOK y b nL ret d mc ms Post cu su pc lv st t := fun p l e s m args below meth c D cy A hC H locs ls hw hl =>
  h p l e (zR d mc ms) s m args below meth c H locs cu su _ ls hC.1 hC.2.1 (fun q => k1 q p l e s m args below meth c D cy A hC H locs ls hw hl) (fun q => k2 q p l e s m args below meth c D cy A hC H locs ls hw hl)
abbrev zi (z : Int) : Prop := -2147483648 ≤ z ∧ z ≤ 2147483647
abbrev zj (z : Int) : Prop := -9223372036854775808 ≤ z ∧ z ≤ 9223372036854775807
theorem zi_toInt {z : Int} (h : zi z) : (Int32.ofInt z).toInt = z := Int32.toInt_ofInt_of_le (by have := h.1; omega) (by have := h.2; omega)
theorem zj_toInt {z : Int} (h : zj z) : (Int64.ofInt z).toInt = z := Int64.toInt_ofInt_of_le (by have := h.1; omega) (by have := h.2; omega)
theorem zi_lt {a c : Int} (h1 : zi a) (h2 : zi c) : Int32.ofInt a < Int32.ofInt c ↔ a < c := by rw [Int32.lt_iff_toInt_lt, zi_toInt h1, zi_toInt h2]
theorem zi_le {a c : Int} (h1 : zi a) (h2 : zi c) : Int32.ofInt a ≤ Int32.ofInt c ↔ a ≤ c := by rw [Int32.le_iff_toInt_le, zi_toInt h1, zi_toInt h2]
theorem zi_eq {a c : Int} (h1 : zi a) (h2 : zi c) : Int32.ofInt a = Int32.ofInt c ↔ a = c := by rw [← Int32.toInt_inj, zi_toInt h1, zi_toInt h2]
theorem zi_0 : zi 0 := ⟨by omega, by omega⟩
theorem zj_lt {a c : Int} (h1 : zj a) (h2 : zj c) : Int64.ofInt a < Int64.ofInt c ↔ a < c := by rw [Int64.lt_iff_toInt_lt, zj_toInt h1, zj_toInt h2]
theorem zj_eq {a c : Int} (h1 : zj a) (h2 : zj c) : Int64.ofInt a = Int64.ofInt c ↔ a = c := by rw [← Int64.toInt_inj, zj_toInt h1, zj_toInt h2]
theorem zj_0 : zj 0 := ⟨by omega, by omega⟩
theorem lrem_mod (x z : Int64) : x - (x / z) * z = x % z := by
  apply Int64.toInt_inj.mp
  have h1 := Int64.le_toInt (x % z)
  have h2 := Int64.toInt_lt (x % z)
  rw [Int64.toInt_sub, Int64.toInt_mul, Int64.toInt_div, Int.bmod_mul_bmod, Int.sub_bmod_bmod, Int.mul_comm (x.toInt.tdiv z.toInt), ← Int.tmod_def, ← Int64.toInt_mod]
  exact Int.bmod_eq_of_le_mul_two (by omega) (by omega)
theorem zi_ofInt0 : (0 : Int32) = Int32.ofInt 0 := rfl

theorem z_iconst (pc' : Nat) {n : Int} (hd : decode b pc = .ok (.iconst n, 1)) (hp : pc + 1 = pc')  (kk : zOK y b nL ret d mc ms Post cu su pc' lv (vI n :: st) t) : zOK y b nL ret d mc ms Post cu su pc lv (st) t := by
  subst hp
  refine z_pure (pc + 1) (st1 := vI n :: st) (fun p l e R s m args below meth c H locs cells slots Q ls hx hb k => ?_) kk
  exact lv_iconst hx hb hd rfl k
theorem z_bipush (pc' : Nat) {n : Int} (hd : decode b pc = .ok (.bipush n, 2)) (hp : pc + 2 = pc') (h1 : -128 ≤ n ∧ n ≤ 127) (kk : zOK y b nL ret d mc ms Post cu su pc' lv (vI n :: st) t) : zOK y b nL ret d mc ms Post cu su pc lv (st) t := by
  subst hp
  refine z_pure (pc + 2) (st1 := vI n :: st) (fun p l e R s m args below meth c H locs cells slots Q ls hx hb k => ?_) kk
  exact lv_bipush hx hb hd (Int32.toInt_inj.mp (by rw [zi_toInt (by omega)]; rw [Int8.toInt_toInt32, Int8.toInt_ofInt_of_le (by omega) (by omega)])) k
theorem z_sipush (pc' : Nat) {n : Int} (hd : decode b pc = .ok (.sipush n, 3)) (hp : pc + 3 = pc') (h1 : -32768 ≤ n ∧ n ≤ 32767) (kk : zOK y b nL ret d mc ms Post cu su pc' lv (vI n :: st) t) : zOK y b nL ret d mc ms Post cu su pc lv (st) t := by
  subst hp
  refine z_pure (pc + 3) (st1 := vI n :: st) (fun p l e R s m args below meth c H locs cells slots Q ls hx hb k => ?_) kk
  exact lv_sipush hx hb hd (Int32.toInt_inj.mp (by rw [zi_toInt (by omega)]; rw [Int16.toInt_toInt32, Int16.toInt_ofInt_of_le (by omega) (by omega)])) k
theorem z_lconst (pc' : Nat) {n : Fin 2} {z : Int} (hd : decode b pc = .ok (.lconst n, 1)) (hp : pc + 1 = pc') (hz : Int64.ofNat (n : Nat) = Int64.ofInt z) (kk : zOK y b nL ret d mc ms Post cu su pc' lv (vL z :: st) t) : zOK y b nL ret d mc ms Post cu su pc lv (st) t := by
  subst hp
  refine z_pure (pc + 1) (st1 := vL z :: st) (fun p l e R s m args below meth c H locs cells slots Q ls hx hb k => ?_) kk
  exact lv_lconst hx hb hd hz k
theorem z_fconst0 (pc' : Nat)  (hd : decode b pc = .ok (.fconst 0, 1)) (hp : pc + 1 = pc')  (kk : zOK y b nL ret d mc ms Post cu su pc' lv (vF 0 :: st) t) : zOK y b nL ret d mc ms Post cu su pc lv (st) t := by
  subst hp
  refine z_pure (pc + 1) (st1 := vF 0 :: st) (fun p l e R s m args below meth c H locs cells slots Q ls hx hb k => ?_) kk
  exact lv_fconst0 hx hb hd k
theorem z_dconst0 (pc' : Nat)  (hd : decode b pc = .ok (.dconst 0, 1)) (hp : pc + 1 = pc')  (kk : zOK y b nL ret d mc ms Post cu su pc' lv (vD 0 :: st) t) : zOK y b nL ret d mc ms Post cu su pc lv (st) t := by
  subst hp
  refine z_pure (pc + 1) (st1 := vD 0 :: st) (fun p l e R s m args below meth c H locs cells slots Q ls hx hb k => ?_) kk
  exact lv_dconst0 hx hb hd k
theorem z_null (pc' : Nat)  (hd : decode b pc = .ok (.aconst_null, 1)) (hp : pc + 1 = pc')  (kk : zOK y b nL ret d mc ms Post cu su pc' lv (vR none :: st) t) : zOK y b nL ret d mc ms Post cu su pc lv (st) t := by
  subst hp
  refine z_pure (pc + 1) (st1 := vR none :: st) (fun p l e R s m args below meth c H locs cells slots Q ls hx hb k => ?_) kk
  exact lv_null hx hb hd k
theorem z_iadd (pc' : Nat) {x z : Int} (hd : decode b pc = .ok (.iadd, 1)) (hp : pc + 1 = pc')  (kk : zOK y b nL ret d mc ms Post cu su pc' lv (vI (x + z) :: st) t) : zOK y b nL ret d mc ms Post cu su pc lv (vI z :: vI x :: st) t := by
  subst hp
  refine z_pure (pc + 1) (st1 := vI (x + z) :: st) (fun p l e R s m args below meth c H locs cells slots Q ls hx hb k => ?_) kk
  rw [List.map_cons, show rv (vI (x + z)) = .int (Int32.ofInt x + Int32.ofInt z) from congrArg Value.int (Int32.ofInt_add x z)] at k
  exact lv_iadd hx hb hd k
theorem z_isub (pc' : Nat) {x z : Int} (hd : decode b pc = .ok (.isub, 1)) (hp : pc + 1 = pc')  (kk : zOK y b nL ret d mc ms Post cu su pc' lv (vI (x - z) :: st) t) : zOK y b nL ret d mc ms Post cu su pc lv (vI z :: vI x :: st) t := by
  subst hp
  refine z_pure (pc + 1) (st1 := vI (x - z) :: st) (fun p l e R s m args below meth c H locs cells slots Q ls hx hb k => ?_) kk
  rw [List.map_cons, show rv (vI (x - z)) = .int (Int32.ofInt x - Int32.ofInt z) from congrArg Value.int (Int32.ofInt_sub x z)] at k
  exact lv_isub hx hb hd k
theorem z_imul (pc' : Nat) {x z : Int} (hd : decode b pc = .ok (.imul, 1)) (hp : pc + 1 = pc')  (kk : zOK y b nL ret d mc ms Post cu su pc' lv (vI (x * z) :: st) t) : zOK y b nL ret d mc ms Post cu su pc lv (vI z :: vI x :: st) t := by
  subst hp
  refine z_pure (pc + 1) (st1 := vI (x * z) :: st) (fun p l e R s m args below meth c H locs cells slots Q ls hx hb k => ?_) kk
  rw [List.map_cons, show rv (vI (x * z)) = .int (Int32.ofInt x * Int32.ofInt z) from congrArg Value.int (Int32.ofInt_mul x z)] at k
  exact lv_imul hx hb hd k
theorem z_ladd (pc' : Nat) {x z : Int} (hd : decode b pc = .ok (.ladd, 1)) (hp : pc + 1 = pc')  (kk : zOK y b nL ret d mc ms Post cu su pc' lv (vL (x + z) :: st) t) : zOK y b nL ret d mc ms Post cu su pc lv (vL z :: vL x :: st) t := by
  subst hp
  refine z_pure (pc + 1) (st1 := vL (x + z) :: st) (fun p l e R s m args below meth c H locs cells slots Q ls hx hb k => ?_) kk
  rw [List.map_cons, show rv (vL (x + z)) = .long (Int64.ofInt x + Int64.ofInt z) from congrArg Value.long (Int64.ofInt_add x z)] at k
  exact lv_ladd hx hb hd k
theorem z_lsub (pc' : Nat) {x z : Int} (hd : decode b pc = .ok (.lsub, 1)) (hp : pc + 1 = pc')  (kk : zOK y b nL ret d mc ms Post cu su pc' lv (vL (x - z) :: st) t) : zOK y b nL ret d mc ms Post cu su pc lv (vL z :: vL x :: st) t := by
  subst hp
  refine z_pure (pc + 1) (st1 := vL (x - z) :: st) (fun p l e R s m args below meth c H locs cells slots Q ls hx hb k => ?_) kk
  rw [List.map_cons, show rv (vL (x - z)) = .long (Int64.ofInt x - Int64.ofInt z) from congrArg Value.long (Int64.ofInt_sub x z)] at k
  exact lv_lsub hx hb hd k
theorem z_lmul (pc' : Nat) {x z : Int} (hd : decode b pc = .ok (.lmul, 1)) (hp : pc + 1 = pc')  (kk : zOK y b nL ret d mc ms Post cu su pc' lv (vL (x * z) :: st) t) : zOK y b nL ret d mc ms Post cu su pc lv (vL z :: vL x :: st) t := by
  subst hp
  refine z_pure (pc + 1) (st1 := vL (x * z) :: st) (fun p l e R s m args below meth c H locs cells slots Q ls hx hb k => ?_) kk
  rw [List.map_cons, show rv (vL (x * z)) = .long (Int64.ofInt x * Int64.ofInt z) from congrArg Value.long (Int64.ofInt_mul x z)] at k
  exact lv_lmul hx hb hd k
theorem z_lneg (pc' : Nat) {x : Int} (hd : decode b pc = .ok (.lneg, 1)) (hp : pc + 1 = pc')  (kk : zOK y b nL ret d mc ms Post cu su pc' lv (vL (-x) :: st) t) : zOK y b nL ret d mc ms Post cu su pc lv (vL x :: st) t := by
  subst hp
  refine z_pure (pc + 1) (st1 := vL (-x) :: st) (fun p l e R s m args below meth c H locs cells slots Q ls hx hb k => ?_) kk
  rw [List.map_cons, show rv (vL (-x)) = .long (-Int64.ofInt x) from congrArg Value.long (Int64.ofInt_neg x)] at k
  exact lv_lneg hx hb hd k
theorem z_idiv (pc' : Nat) {x z : Int} (hd : decode b pc = .ok (.idiv, 1)) (hp : pc + 1 = pc') (hx1 : zi x) (hz1 : zi z) (hne : z ≠ 0) (kk : zOK y b nL ret d mc ms Post cu su pc' lv (vI (x.tdiv z) :: st) t) : zOK y b nL ret d mc ms Post cu su pc lv (vI z :: vI x :: st) t := by
  subst hp
  refine z_pure (pc + 1) (st1 := vI (x.tdiv z) :: st) (fun p l e R s m args below meth c H locs cells slots Q ls hx hb k => ?_) kk
  rw [List.map_cons, show rv (vI (x.tdiv z)) = .int (Int32.ofInt x / Int32.ofInt z) from congrArg Value.int (Int32.ofInt_tdiv hx1.1 hx1.2 hz1.1 hz1.2)] at k
  exact lv_idiv hx hb hd (fun q => hne ((zi_eq hz1 zi_0).mp q)) k
theorem z_irem (pc' : Nat) {x z : Int} (hd : decode b pc = .ok (.irem, 1)) (hp : pc + 1 = pc') (hx1 : zi x) (hz1 : zi z) (hne : z ≠ 0) (kk : zOK y b nL ret d mc ms Post cu su pc' lv (vI (x.tmod z) :: st) t) : zOK y b nL ret d mc ms Post cu su pc lv (vI z :: vI x :: st) t := by
  subst hp
  refine z_pure (pc + 1) (st1 := vI (x.tmod z) :: st) (fun p l e R s m args below meth c H locs cells slots Q ls hx hb k => ?_) kk
  have e1 : Int32.ofInt (x.tmod z) = Int32.ofInt x % Int32.ofInt z := Int32.ofInt_tmod hx1.1 hx1.2 hz1.1 hz1.2
  rw [List.map_cons, show rv (vI (x.tmod z)) = .int (Int32.ofInt x - (Int32.ofInt x / Int32.ofInt z) * Int32.ofInt z) from congrArg Value.int (e1.trans (irem_eq_mod _ _).symm)] at k
  exact lv_irem hx hb hd (fun q => hne ((zi_eq hz1 zi_0).mp q)) k
theorem z_iload (pc' : Nat) {i : Nat} {x : Int} (hd : decode b pc = .ok (.iload i, 2)) (hp : pc + 2 = pc') (hg : zget i lv = some (vI x)) (kk : zOK y b nL ret d mc ms Post cu su pc' lv (vI x :: st) t) : zOK y b nL ret d mc ms Post cu su pc lv st t := by
  subst hp
  refine z_local (pc + 2) i hg (fun p l e R s m args below meth c H locs cells slots Q ls hx hb hl k => ?_) kk
  exact lv_iload hx hb hd hl k
theorem z_iload_n (pc' : Nat) {i : Fin 4} {x : Int} (hd : decode b pc = .ok (.iload_n i, 1)) (hp : pc + 1 = pc') (hg : zget (i : Nat) lv = some (vI x)) (kk : zOK y b nL ret d mc ms Post cu su pc' lv (vI x :: st) t) : zOK y b nL ret d mc ms Post cu su pc lv st t := by
  subst hp
  refine z_local (pc + 1) (i : Nat) hg (fun p l e R s m args below meth c H locs cells slots Q ls hx hb hl k => ?_) kk
  exact lv_iload_n hx hb hd rfl hl k
theorem z_lload (pc' : Nat) {i : Nat} {x : Int} (hd : decode b pc = .ok (.lload i, 2)) (hp : pc + 2 = pc') (hg : zget i lv = some (vL x)) (kk : zOK y b nL ret d mc ms Post cu su pc' lv (vL x :: st) t) : zOK y b nL ret d mc ms Post cu su pc lv st t := by
  subst hp
  refine z_local (pc + 2) i hg (fun p l e R s m args below meth c H locs cells slots Q ls hx hb hl k => ?_) kk
  exact lv_lload hx hb hd hl k
theorem z_lload_n (pc' : Nat) {i : Fin 4} {x : Int} (hd : decode b pc = .ok (.lload_n i, 1)) (hp : pc + 1 = pc') (hg : zget (i : Nat) lv = some (vL x)) (kk : zOK y b nL ret d mc ms Post cu su pc' lv (vL x :: st) t) : zOK y b nL ret d mc ms Post cu su pc lv st t := by
  subst hp
  refine z_local (pc + 1) (i : Nat) hg (fun p l e R s m args below meth c H locs cells slots Q ls hx hb hl k => ?_) kk
  exact lv_lload_n hx hb hd rfl hl k
theorem z_fload (pc' : Nat) {i : Nat} {x : UInt32} (hd : decode b pc = .ok (.fload i, 2)) (hp : pc + 2 = pc') (hg : zget i lv = some (vF x)) (kk : zOK y b nL ret d mc ms Post cu su pc' lv (vF x :: st) t) : zOK y b nL ret d mc ms Post cu su pc lv st t := by
  subst hp
  refine z_local (pc + 2) i hg (fun p l e R s m args below meth c H locs cells slots Q ls hx hb hl k => ?_) kk
  exact lv_fload hx hb hd hl k
theorem z_fload_n (pc' : Nat) {i : Fin 4} {x : UInt32} (hd : decode b pc = .ok (.fload_n i, 1)) (hp : pc + 1 = pc') (hg : zget (i : Nat) lv = some (vF x)) (kk : zOK y b nL ret d mc ms Post cu su pc' lv (vF x :: st) t) : zOK y b nL ret d mc ms Post cu su pc lv st t := by
  subst hp
  refine z_local (pc + 1) (i : Nat) hg (fun p l e R s m args below meth c H locs cells slots Q ls hx hb hl k => ?_) kk
  exact lv_fload_n hx hb hd rfl hl k
theorem z_dload (pc' : Nat) {i : Nat} {x : UInt64} (hd : decode b pc = .ok (.dload i, 2)) (hp : pc + 2 = pc') (hg : zget i lv = some (vD x)) (kk : zOK y b nL ret d mc ms Post cu su pc' lv (vD x :: st) t) : zOK y b nL ret d mc ms Post cu su pc lv st t := by
  subst hp
  refine z_local (pc + 2) i hg (fun p l e R s m args below meth c H locs cells slots Q ls hx hb hl k => ?_) kk
  exact lv_dload hx hb hd hl k
theorem z_dload_n (pc' : Nat) {i : Fin 4} {x : UInt64} (hd : decode b pc = .ok (.dload_n i, 1)) (hp : pc + 1 = pc') (hg : zget (i : Nat) lv = some (vD x)) (kk : zOK y b nL ret d mc ms Post cu su pc' lv (vD x :: st) t) : zOK y b nL ret d mc ms Post cu su pc lv st t := by
  subst hp
  refine z_local (pc + 1) (i : Nat) hg (fun p l e R s m args below meth c H locs cells slots Q ls hx hb hl k => ?_) kk
  exact lv_dload_n hx hb hd rfl hl k
theorem z_aload (pc' : Nat) {i : Nat} {x : Option Nat} (hd : decode b pc = .ok (.aload i, 2)) (hp : pc + 2 = pc') (hg : zget i lv = some (vR x)) (kk : zOK y b nL ret d mc ms Post cu su pc' lv (vR x :: st) t) : zOK y b nL ret d mc ms Post cu su pc lv st t := by
  subst hp
  refine z_local (pc + 2) i hg (fun p l e R s m args below meth c H locs cells slots Q ls hx hb hl k => ?_) kk
  cases x with
  | none => exact lv_aloadN hx hb hd hl k
  | some x => exact lv_aload hx hb hd hl k
theorem z_aload_n (pc' : Nat) {i : Fin 4} {x : Option Nat} (hd : decode b pc = .ok (.aload_n i, 1)) (hp : pc + 1 = pc') (hg : zget (i : Nat) lv = some (vR x)) (kk : zOK y b nL ret d mc ms Post cu su pc' lv (vR x :: st) t) : zOK y b nL ret d mc ms Post cu su pc lv st t := by
  subst hp
  refine z_local (pc + 1) (i : Nat) hg (fun p l e R s m args below meth c H locs cells slots Q ls hx hb hl k => ?_) kk
  cases x with
  | none => exact lv_aload_nN hx hb hd rfl hl k
  | some x => exact lv_aload_n hx hb hd rfl hl k
theorem z_istore (pc' : Nat) {i : Nat} {x : Int} {lv' : List (Nat × zV)} (hd : decode b pc = .ok (.istore i, 2)) (hp : pc + 2 = pc') (hn : Nat.blt (i) nL = true) (hs : zset i (vI x) lv = lv') (kk : zOK y b nL ret d mc ms Post cu su pc' lv' st t) : zOK y b nL ret d mc ms Post cu su pc lv (vI x :: st) t := by
  subst hp
  subst hs
  refine z_store (pc + 2) (fun p l e R s m args below meth c H locs cells slots Q ls hx hb hl k => ?_) kk
  exact lv_istore hx hb hd hl (Nat.le_of_ble_eq_true hn) (zlv_set i (vI x) lv) k
theorem z_istore_n (pc' : Nat) {i : Fin 4} {x : Int} {lv' : List (Nat × zV)} (hd : decode b pc = .ok (.istore_n i, 1)) (hp : pc + 1 = pc') (hn : Nat.blt ((i : Nat)) nL = true) (hs : zset (i : Nat) (vI x) lv = lv') (kk : zOK y b nL ret d mc ms Post cu su pc' lv' st t) : zOK y b nL ret d mc ms Post cu su pc lv (vI x :: st) t := by
  subst hp
  subst hs
  refine z_store (pc + 1) (fun p l e R s m args below meth c H locs cells slots Q ls hx hb hl k => ?_) kk
  exact lv_istore_n hx hb hd rfl hl (Nat.le_of_ble_eq_true hn) (zlv_set i (vI x) lv) k
theorem z_fstore (pc' : Nat) {i : Nat} {x : UInt32} {lv' : List (Nat × zV)} (hd : decode b pc = .ok (.fstore i, 2)) (hp : pc + 2 = pc') (hn : Nat.blt (i) nL = true) (hs : zset i (vF x) lv = lv') (kk : zOK y b nL ret d mc ms Post cu su pc' lv' st t) : zOK y b nL ret d mc ms Post cu su pc lv (vF x :: st) t := by
  subst hp
  subst hs
  refine z_store (pc + 2) (fun p l e R s m args below meth c H locs cells slots Q ls hx hb hl k => ?_) kk
  exact lv_fstore hx hb hd hl (Nat.le_of_ble_eq_true hn) (zlv_set i (vF x) lv) k
theorem z_fstore_n (pc' : Nat) {i : Fin 4} {x : UInt32} {lv' : List (Nat × zV)} (hd : decode b pc = .ok (.fstore_n i, 1)) (hp : pc + 1 = pc') (hn : Nat.blt ((i : Nat)) nL = true) (hs : zset (i : Nat) (vF x) lv = lv') (kk : zOK y b nL ret d mc ms Post cu su pc' lv' st t) : zOK y b nL ret d mc ms Post cu su pc lv (vF x :: st) t := by
  subst hp
  subst hs
  refine z_store (pc + 1) (fun p l e R s m args below meth c H locs cells slots Q ls hx hb hl k => ?_) kk
  exact lv_fstore_n hx hb hd rfl hl (Nat.le_of_ble_eq_true hn) (zlv_set i (vF x) lv) k
theorem z_lstore (pc' : Nat) {i : Nat} {x : Int} {lv' : List (Nat × zV)} (hd : decode b pc = .ok (.lstore i, 2)) (hp : pc + 2 = pc') (hn : Nat.blt (i + 1) nL = true) (hs : zset2 i (vL x) lv = lv') (kk : zOK y b nL ret d mc ms Post cu su pc' lv' st t) : zOK y b nL ret d mc ms Post cu su pc lv (vL x :: st) t := by
  subst hp
  subst hs
  refine z_store (pc + 2) (fun p l e R s m args below meth c H locs cells slots Q ls hx hb hl k => ?_) kk
  exact lv_lstore hx hb hd hl (Nat.le_of_ble_eq_true hn) (zlv_set2 i (vL x) lv) k
theorem z_lstore_n (pc' : Nat) {i : Fin 4} {x : Int} {lv' : List (Nat × zV)} (hd : decode b pc = .ok (.lstore_n i, 1)) (hp : pc + 1 = pc') (hn : Nat.blt ((i : Nat) + 1) nL = true) (hs : zset2 (i : Nat) (vL x) lv = lv') (kk : zOK y b nL ret d mc ms Post cu su pc' lv' st t) : zOK y b nL ret d mc ms Post cu su pc lv (vL x :: st) t := by
  subst hp
  subst hs
  refine z_store (pc + 1) (fun p l e R s m args below meth c H locs cells slots Q ls hx hb hl k => ?_) kk
  exact lv_lstore_n hx hb hd rfl hl (Nat.le_of_ble_eq_true hn) (zlv_set2 i (vL x) lv) k
theorem z_dstore (pc' : Nat) {i : Nat} {x : UInt64} {lv' : List (Nat × zV)} (hd : decode b pc = .ok (.dstore i, 2)) (hp : pc + 2 = pc') (hn : Nat.blt (i + 1) nL = true) (hs : zset2 i (vD x) lv = lv') (kk : zOK y b nL ret d mc ms Post cu su pc' lv' st t) : zOK y b nL ret d mc ms Post cu su pc lv (vD x :: st) t := by
  subst hp
  subst hs
  refine z_store (pc + 2) (fun p l e R s m args below meth c H locs cells slots Q ls hx hb hl k => ?_) kk
  exact lv_dstore hx hb hd hl (Nat.le_of_ble_eq_true hn) (zlv_set2 i (vD x) lv) k
theorem z_dstore_n (pc' : Nat) {i : Fin 4} {x : UInt64} {lv' : List (Nat × zV)} (hd : decode b pc = .ok (.dstore_n i, 1)) (hp : pc + 1 = pc') (hn : Nat.blt ((i : Nat) + 1) nL = true) (hs : zset2 (i : Nat) (vD x) lv = lv') (kk : zOK y b nL ret d mc ms Post cu su pc' lv' st t) : zOK y b nL ret d mc ms Post cu su pc lv (vD x :: st) t := by
  subst hp
  subst hs
  refine z_store (pc + 1) (fun p l e R s m args below meth c H locs cells slots Q ls hx hb hl k => ?_) kk
  exact lv_dstore_n hx hb hd rfl hl (Nat.le_of_ble_eq_true hn) (zlv_set2 i (vD x) lv) k
theorem z_astore (pc' : Nat) {i : Nat} {x : Option Nat} {lv' : List (Nat × zV)} (hd : decode b pc = .ok (.astore i, 2)) (hp : pc + 2 = pc') (hn : Nat.blt (i) nL = true) (hs : zset i (vR x) lv = lv') (kk : zOK y b nL ret d mc ms Post cu su pc' lv' st t) : zOK y b nL ret d mc ms Post cu su pc lv (vR x :: st) t := by
  subst hp
  subst hs
  refine z_store (pc + 2) (fun p l e R s m args below meth c H locs cells slots Q ls hx hb hl k => ?_) kk
  cases x with
  | none => exact lv_astoreN hx hb hd hl (Nat.le_of_ble_eq_true hn) (zlv_set i (vR none) lv) k
  | some x => exact lv_astore hx hb hd hl (Nat.le_of_ble_eq_true hn) (zlv_set i (vR (some x)) lv) k
theorem z_astore_n (pc' : Nat) {i : Fin 4} {x : Option Nat} {lv' : List (Nat × zV)} (hd : decode b pc = .ok (.astore_n i, 1)) (hp : pc + 1 = pc') (hn : Nat.blt ((i : Nat)) nL = true) (hs : zset (i : Nat) (vR x) lv = lv') (kk : zOK y b nL ret d mc ms Post cu su pc' lv' st t) : zOK y b nL ret d mc ms Post cu su pc lv (vR x :: st) t := by
  subst hp
  subst hs
  refine z_store (pc + 1) (fun p l e R s m args below meth c H locs cells slots Q ls hx hb hl k => ?_) kk
  cases x with
  | none => exact lv_astore_nN hx hb hd rfl hl (Nat.le_of_ble_eq_true hn) (zlv_set i (vR none) lv) k
  | some x => exact lv_astore_n hx hb hd rfl hl (Nat.le_of_ble_eq_true hn) (zlv_set i (vR (some x)) lv) k
theorem z_iinc (pc' : Nat) {i : Nat} {n : Int} {x : Int} {lv' : List (Nat × zV)} (hd : decode b pc = .ok (.iinc i n, 3)) (hp : pc + 3 = pc') (hn : Nat.blt i nL = true) (hg : zget i lv = some (vI x)) (hs : zset i (vI (x + n)) lv = lv') (kk : zOK y b nL ret d mc ms Post cu su pc' lv' st t) : zOK y b nL ret d mc ms Post cu su pc lv st t := by
  subst hp
  subst hs
  refine z_store (pc + 3) (fun p l e R s m args below meth c H locs cells slots Q ls hx hb hl k => ?_) kk
  obtain ⟨j, hj⟩ := List.getElem?_of_mem (show (i, Value.int (Int32.ofInt x)) ∈ zlv lv from List.mem_map.mpr ⟨(i, vI x), zget_mem hg, rfl⟩)
  exact lv_iinc (v := Int32.ofInt (x + n)) hx hb hd hl hj (Int32.ofInt_add x n).symm (Nat.le_of_ble_eq_true hn) (zlv_set i (vI (x + n)) lv) k
theorem z_dup (pc' : Nat) {v : zV} (hd : decode b pc = .ok (.dup, 1)) (hp : pc + 1 = pc') (hc : vcat v = 1) (kk : zOK y b nL ret d mc ms Post cu su pc' lv (v :: v :: st) t) : zOK y b nL ret d mc ms Post cu su pc lv (v :: st) t := by
  subst hp
  refine z_pure (pc + 1) (st1 := v :: v :: st) (fun p l e R s m args below meth c H locs cells slots Q ls hx hb k => ?_) kk
  exact lv_dup hx hb hd ((rv_cat v).trans hc) k
theorem z_dup2 (pc' : Nat) {v w : zV} (hd : decode b pc = .ok (.dup2, 1)) (hp : pc + 1 = pc') (hc : vcat v = 1) (hc2 : vcat w = 1) (kk : zOK y b nL ret d mc ms Post cu su pc' lv (v :: w :: v :: w :: st) t) : zOK y b nL ret d mc ms Post cu su pc lv (v :: w :: st) t := by
  subst hp
  refine z_pure (pc + 1) (st1 := v :: w :: v :: w :: st) (fun p l e R s m args below meth c H locs cells slots Q ls hx hb k => ?_) kk
  exact lv_dup2_11 hx hb hd ((rv_cat v).trans hc) ((rv_cat w).trans hc2) k
theorem z_iand (pc' : Nat) {x z w : Int} (hd : decode b pc = .ok (.iand, 1)) (hp : pc + 1 = pc') (hw : Int32.ofInt x &&& Int32.ofInt z = Int32.ofInt w) (kk : zOK y b nL ret d mc ms Post cu su pc' lv (vI w :: st) t) : zOK y b nL ret d mc ms Post cu su pc lv (vI z :: vI x :: st) t := by
  subst hp
  refine z_pure (pc + 1) (st1 := vI w :: st) (fun p l e R s m args below meth c H locs cells slots Q ls hx hb k => ?_) kk
  rw [List.map_cons, show rv (vI w) = .int (Int32.ofInt x &&& Int32.ofInt z) from congrArg Value.int hw.symm] at k
  exact lv_iand hx hb hd k
theorem z_ior (pc' : Nat) {x z w : Int} (hd : decode b pc = .ok (.ior, 1)) (hp : pc + 1 = pc') (hw : Int32.ofInt x ||| Int32.ofInt z = Int32.ofInt w) (kk : zOK y b nL ret d mc ms Post cu su pc' lv (vI w :: st) t) : zOK y b nL ret d mc ms Post cu su pc lv (vI z :: vI x :: st) t := by
  subst hp
  refine z_pure (pc + 1) (st1 := vI w :: st) (fun p l e R s m args below meth c H locs cells slots Q ls hx hb k => ?_) kk
  rw [List.map_cons, show rv (vI w) = .int (Int32.ofInt x ||| Int32.ofInt z) from congrArg Value.int hw.symm] at k
  exact lv_ior hx hb hd k
theorem z_ixor (pc' : Nat) {x z w : Int} (hd : decode b pc = .ok (.ixor, 1)) (hp : pc + 1 = pc') (hw : Int32.ofInt x ^^^ Int32.ofInt z = Int32.ofInt w) (kk : zOK y b nL ret d mc ms Post cu su pc' lv (vI w :: st) t) : zOK y b nL ret d mc ms Post cu su pc lv (vI z :: vI x :: st) t := by
  subst hp
  refine z_pure (pc + 1) (st1 := vI w :: st) (fun p l e R s m args below meth c H locs cells slots Q ls hx hb k => ?_) kk
  rw [List.map_cons, show rv (vI w) = .int (Int32.ofInt x ^^^ Int32.ofInt z) from congrArg Value.int hw.symm] at k
  exact lv_ixor hx hb hd k
theorem z_ishl (pc' : Nat) {x z w : Int} (hd : decode b pc = .ok (.ishl, 1)) (hp : pc + 1 = pc') (hw : Int32.ofInt x <<< (Int32.ofInt z &&& 31) = Int32.ofInt w) (kk : zOK y b nL ret d mc ms Post cu su pc' lv (vI w :: st) t) : zOK y b nL ret d mc ms Post cu su pc lv (vI z :: vI x :: st) t := by
  subst hp
  refine z_pure (pc + 1) (st1 := vI w :: st) (fun p l e R s m args below meth c H locs cells slots Q ls hx hb k => ?_) kk
  rw [List.map_cons, show rv (vI w) = .int (Int32.ofInt x <<< (Int32.ofInt z &&& 31)) from congrArg Value.int hw.symm] at k
  exact lv_ishl hx hb hd k
theorem z_ishr (pc' : Nat) {x z w : Int} (hd : decode b pc = .ok (.ishr, 1)) (hp : pc + 1 = pc') (hw : Int32.ofInt x >>> (Int32.ofInt z &&& 31) = Int32.ofInt w) (kk : zOK y b nL ret d mc ms Post cu su pc' lv (vI w :: st) t) : zOK y b nL ret d mc ms Post cu su pc lv (vI z :: vI x :: st) t := by
  subst hp
  refine z_pure (pc + 1) (st1 := vI w :: st) (fun p l e R s m args below meth c H locs cells slots Q ls hx hb k => ?_) kk
  rw [List.map_cons, show rv (vI w) = .int (Int32.ofInt x >>> (Int32.ofInt z &&& 31)) from congrArg Value.int hw.symm] at k
  exact lv_ishr hx hb hd k
theorem z_land (pc' : Nat) {x z w : Int} (hd : decode b pc = .ok (.land, 1)) (hp : pc + 1 = pc') (hw : Int64.ofInt x &&& Int64.ofInt z = Int64.ofInt w) (kk : zOK y b nL ret d mc ms Post cu su pc' lv (vL w :: st) t) : zOK y b nL ret d mc ms Post cu su pc lv (vL z :: vL x :: st) t := by
  subst hp
  refine z_pure (pc + 1) (st1 := vL w :: st) (fun p l e R s m args below meth c H locs cells slots Q ls hx hb k => ?_) kk
  rw [List.map_cons, show rv (vL w) = .long (Int64.ofInt x &&& Int64.ofInt z) from congrArg Value.long hw.symm] at k
  exact lv_land hx hb hd k
theorem z_i2l (pc' : Nat) {x : Int} (hd : decode b pc = .ok (.i2l, 1)) (hp : pc + 1 = pc') (hz : zi x) (kk : zOK y b nL ret d mc ms Post cu su pc' lv (vL x :: st) t) : zOK y b nL ret d mc ms Post cu su pc lv (vI x :: st) t := by
  subst hp
  refine z_pure (pc + 1) (st1 := vL x :: st) (fun p l e R s m args below meth c H locs cells slots Q ls hx hb k => ?_) kk
  exact lv_i2l hx hb hd (Int32.toInt64_ofInt hz.1 hz.2) k
theorem z_ldiv (pc' : Nat) {x z : Int} (hd : decode b pc = .ok (.ldiv, 1)) (hp : pc + 1 = pc') (hx1 : zj x) (hz1 : zj z) (hne : z ≠ 0) (kk : zOK y b nL ret d mc ms Post cu su pc' lv (vL (x.tdiv z) :: st) t) : zOK y b nL ret d mc ms Post cu su pc lv (vL z :: vL x :: st) t := by
  subst hp
  refine z_pure (pc + 1) (st1 := vL (x.tdiv z) :: st) (fun p l e R s m args below meth c H locs cells slots Q ls hx hb k => ?_) kk
  rw [List.map_cons, show rv (vL (x.tdiv z)) = .long (Int64.ofInt x / Int64.ofInt z) from congrArg Value.long (Int64.ofInt_tdiv hx1.1 hx1.2 hz1.1 hz1.2)] at k
  exact lv_ldiv hx hb hd (fun q => hne ((zj_eq hz1 zj_0).mp q)) k
theorem z_lrem (pc' : Nat) {x z : Int} (hd : decode b pc = .ok (.lrem, 1)) (hp : pc + 1 = pc') (hx1 : zj x) (hz1 : zj z) (hne : z ≠ 0) (kk : zOK y b nL ret d mc ms Post cu su pc' lv (vL (x.tmod z) :: st) t) : zOK y b nL ret d mc ms Post cu su pc lv (vL z :: vL x :: st) t := by
  subst hp
  refine z_pure (pc + 1) (st1 := vL (x.tmod z) :: st) (fun p l e R s m args below meth c H locs cells slots Q ls hx hb k => ?_) kk
  have e1 : Int64.ofInt (x.tmod z) = Int64.ofInt x % Int64.ofInt z := Int64.ofInt_tmod hx1.1 hx1.2 hz1.1 hz1.2
  rw [List.map_cons, show rv (vL (x.tmod z)) = .long (Int64.ofInt x - (Int64.ofInt x / Int64.ofInt z) * Int64.ofInt z) from congrArg Value.long (e1.trans (lrem_mod _ _).symm)] at k
  exact lv_lrem hx hb hd (fun q => hne ((zj_eq hz1 zj_0).mp q)) k
def zlc (x z : Int) : Int := if z < x then 1 else if x = z then 0 else -1
theorem zlc_eq {x z : Int} (h1 : zj x) (h2 : zj z) : lg_cmp (Int64.ofInt x) (Int64.ofInt z) = Int32.ofInt (zlc x z) := by
  unfold lg_cmp zlc
  simp only [gt_iff_lt, zj_lt h2 h1, zj_eq h1 h2]
  split
  · rfl
  · split <;> rfl
theorem z_lcmp (pc' : Nat) {x z : Int} (hd : decode b pc = .ok (.lcmp, 1)) (hp : pc + 1 = pc') (h1 : zj x) (h2 : zj z) (kk : zOK y b nL ret d mc ms Post cu su pc' lv (vI (zlc x z) :: st) t) : zOK y b nL ret d mc ms Post cu su pc lv (vL z :: vL x :: st) t := by
  subst hp
  refine z_pure (pc + 1) (st1 := vI (zlc x z) :: st) (fun p l e R s m args below meth c H locs cells slots Q ls hx hb k => ?_) kk
  rw [List.map_cons, show rv (vI (zlc x z)) = .int (lg_cmp (Int64.ofInt x) (Int64.ofInt z)) from congrArg Value.int (zlc_eq h1 h2).symm] at k
  exact W.lcmp hx hb hd k
theorem z_fadd (pc' : Nat) {x z : UInt32} (hd : decode b pc = .ok (.fadd, 1)) (hp : pc + 1 = pc') (hn : vf_n32 (FP.fadd x z)) (kk : zOK y b nL ret d mc ms Post cu su pc' lv (vF (FP.fadd x z) :: st) t) : zOK y b nL ret d mc ms Post cu su pc lv (vF z :: vF x :: st) t := by
  subst hp
  refine z_pure (pc + 1) (st1 := vF (FP.fadd x z) :: st) (fun p l e R s m args below meth c H locs cells slots Q ls hx hb k => ?_) kk
  exact lv_fadd hx hb hd hn k
theorem z_fsub (pc' : Nat) {x z : UInt32} (hd : decode b pc = .ok (.fsub, 1)) (hp : pc + 1 = pc') (hn : vf_n32 (FP.fsub x z)) (kk : zOK y b nL ret d mc ms Post cu su pc' lv (vF (FP.fsub x z) :: st) t) : zOK y b nL ret d mc ms Post cu su pc lv (vF z :: vF x :: st) t := by
  subst hp
  refine z_pure (pc + 1) (st1 := vF (FP.fsub x z) :: st) (fun p l e R s m args below meth c H locs cells slots Q ls hx hb k => ?_) kk
  exact lv_fsub hx hb hd hn k
theorem z_fmul (pc' : Nat) {x z : UInt32} (hd : decode b pc = .ok (.fmul, 1)) (hp : pc + 1 = pc') (hn : vf_n32 (FP.fmul x z)) (kk : zOK y b nL ret d mc ms Post cu su pc' lv (vF (FP.fmul x z) :: st) t) : zOK y b nL ret d mc ms Post cu su pc lv (vF z :: vF x :: st) t := by
  subst hp
  refine z_pure (pc + 1) (st1 := vF (FP.fmul x z) :: st) (fun p l e R s m args below meth c H locs cells slots Q ls hx hb k => ?_) kk
  exact lv_fmul hx hb hd hn k
theorem z_fdiv (pc' : Nat) {x z : UInt32} (hd : decode b pc = .ok (.fdiv, 1)) (hp : pc + 1 = pc') (hn : vf_n32 (FP.fdiv x z)) (kk : zOK y b nL ret d mc ms Post cu su pc' lv (vF (FP.fdiv x z) :: st) t) : zOK y b nL ret d mc ms Post cu su pc lv (vF z :: vF x :: st) t := by
  subst hp
  refine z_pure (pc + 1) (st1 := vF (FP.fdiv x z) :: st) (fun p l e R s m args below meth c H locs cells slots Q ls hx hb k => ?_) kk
  exact lv_fdiv hx hb hd hn k
theorem z_frem (pc' : Nat) {x z : UInt32} (hd : decode b pc = .ok (.frem, 1)) (hp : pc + 1 = pc') (hn : vf_n32 (FP.frem x z)) (kk : zOK y b nL ret d mc ms Post cu su pc' lv (vF (FP.frem x z) :: st) t) : zOK y b nL ret d mc ms Post cu su pc lv (vF z :: vF x :: st) t := by
  subst hp
  refine z_pure (pc + 1) (st1 := vF (FP.frem x z) :: st) (fun p l e R s m args below meth c H locs cells slots Q ls hx hb k => ?_) kk
  exact lv_frem hx hb hd hn k
theorem z_dadd (pc' : Nat) {x z : UInt64} (hd : decode b pc = .ok (.dadd, 1)) (hp : pc + 1 = pc') (hn : vf_n64 (FP.dadd x z)) (kk : zOK y b nL ret d mc ms Post cu su pc' lv (vD (FP.dadd x z) :: st) t) : zOK y b nL ret d mc ms Post cu su pc lv (vD z :: vD x :: st) t := by
  subst hp
  refine z_pure (pc + 1) (st1 := vD (FP.dadd x z) :: st) (fun p l e R s m args below meth c H locs cells slots Q ls hx hb k => ?_) kk
  exact lv_dadd hx hb hd hn k
theorem z_dsub (pc' : Nat) {x z : UInt64} (hd : decode b pc = .ok (.dsub, 1)) (hp : pc + 1 = pc') (hn : vf_n64 (FP.dsub x z)) (kk : zOK y b nL ret d mc ms Post cu su pc' lv (vD (FP.dsub x z) :: st) t) : zOK y b nL ret d mc ms Post cu su pc lv (vD z :: vD x :: st) t := by
  subst hp
  refine z_pure (pc + 1) (st1 := vD (FP.dsub x z) :: st) (fun p l e R s m args below meth c H locs cells slots Q ls hx hb k => ?_) kk
  exact lv_dsub hx hb hd hn k
theorem z_dmul (pc' : Nat) {x z : UInt64} (hd : decode b pc = .ok (.dmul, 1)) (hp : pc + 1 = pc') (hn : vf_n64 (FP.dmul x z)) (kk : zOK y b nL ret d mc ms Post cu su pc' lv (vD (FP.dmul x z) :: st) t) : zOK y b nL ret d mc ms Post cu su pc lv (vD z :: vD x :: st) t := by
  subst hp
  refine z_pure (pc + 1) (st1 := vD (FP.dmul x z) :: st) (fun p l e R s m args below meth c H locs cells slots Q ls hx hb k => ?_) kk
  exact lv_dmul hx hb hd hn k
theorem z_ddiv (pc' : Nat) {x z : UInt64} (hd : decode b pc = .ok (.ddiv, 1)) (hp : pc + 1 = pc') (hn : vf_n64 (FP.ddiv x z)) (kk : zOK y b nL ret d mc ms Post cu su pc' lv (vD (FP.ddiv x z) :: st) t) : zOK y b nL ret d mc ms Post cu su pc lv (vD z :: vD x :: st) t := by
  subst hp
  refine z_pure (pc + 1) (st1 := vD (FP.ddiv x z) :: st) (fun p l e R s m args below meth c H locs cells slots Q ls hx hb k => ?_) kk
  exact lv_ddiv hx hb hd hn k
theorem z_drem (pc' : Nat) {x z : UInt64} (hd : decode b pc = .ok (.drem, 1)) (hp : pc + 1 = pc') (hn : vf_n64 (FP.drem x z)) (kk : zOK y b nL ret d mc ms Post cu su pc' lv (vD (FP.drem x z) :: st) t) : zOK y b nL ret d mc ms Post cu su pc lv (vD z :: vD x :: st) t := by
  subst hp
  refine z_pure (pc + 1) (st1 := vD (FP.drem x z) :: st) (fun p l e R s m args below meth c H locs cells slots Q ls hx hb k => ?_) kk
  exact lv_drem hx hb hd hn k
theorem z_fneg (pc' : Nat) {x : UInt32} (hd : decode b pc = .ok (.fneg, 1)) (hp : pc + 1 = pc')  (kk : zOK y b nL ret d mc ms Post cu su pc' lv (vF (FP.fneg x) :: st) t) : zOK y b nL ret d mc ms Post cu su pc lv (vF x :: st) t := by
  subst hp
  refine z_pure (pc + 1) (st1 := vF (FP.fneg x) :: st) (fun p l e R s m args below meth c H locs cells slots Q ls hx hb k => ?_) kk
  exact lv_fneg hx hb hd k
theorem z_dneg (pc' : Nat) {x : UInt64} (hd : decode b pc = .ok (.dneg, 1)) (hp : pc + 1 = pc')  (kk : zOK y b nL ret d mc ms Post cu su pc' lv (vD (FP.dneg x) :: st) t) : zOK y b nL ret d mc ms Post cu su pc lv (vD x :: st) t := by
  subst hp
  refine z_pure (pc + 1) (st1 := vD (FP.dneg x) :: st) (fun p l e R s m args below meth c H locs cells slots Q ls hx hb k => ?_) kk
  exact lv_dneg hx hb hd k
def zfc (o : Option Ordering) (op : CmpOp) : Int := (Op.cmpValue o op).toInt
theorem zfc_eq (o : Option Ordering) (op : CmpOp) : Int32.ofInt (zfc o op) = Op.cmpValue o op := Int32.ofInt_toInt _
theorem z_fcmp (pc' : Nat) {x z : UInt32} {op : CmpOp} (hd : decode b pc = .ok (.fcmp op, 1)) (hp : pc + 1 = pc')  (kk : zOK y b nL ret d mc ms Post cu su pc' lv (vI (zfc (FP.fcmp x z) op) :: st) t) : zOK y b nL ret d mc ms Post cu su pc lv (vF z :: vF x :: st) t := by
  subst hp
  refine z_pure (pc + 1) (st1 := vI (zfc (FP.fcmp x z) op) :: st) (fun p l e R s m args below meth c H locs cells slots Q ls hx hb k => ?_) kk
  rw [List.map_cons, show rv (vI (zfc (FP.fcmp x z) op)) = .int (Op.cmpValue (FP.fcmp x z) op) from congrArg Value.int (zfc_eq _ _)] at k
  exact lv_fcmp hx hb hd k
theorem z_dcmp (pc' : Nat) {x z : UInt64} {op : CmpOp} (hd : decode b pc = .ok (.dcmp op, 1)) (hp : pc + 1 = pc')  (kk : zOK y b nL ret d mc ms Post cu su pc' lv (vI (zfc (FP.dcmp x z) op) :: st) t) : zOK y b nL ret d mc ms Post cu su pc lv (vD z :: vD x :: st) t := by
  subst hp
  refine z_pure (pc + 1) (st1 := vI (zfc (FP.dcmp x z) op) :: st) (fun p l e R s m args below meth c H locs cells slots Q ls hx hb k => ?_) kk
  rw [List.map_cons, show rv (vI (zfc (FP.dcmp x z) op)) = .int (Op.cmpValue (FP.dcmp x z) op) from congrArg Value.int (zfc_eq _ _)] at k
  exact lv_dcmp hx hb hd k
theorem z_i2f (pc' : Nat) {x : Int} (hd : decode b pc = .ok (.i2f, 1)) (hp : pc + 1 = pc')  (kk : zOK y b nL ret d mc ms Post cu su pc' lv (vF (FP.i2f (Int32.ofInt x)) :: st) t) : zOK y b nL ret d mc ms Post cu su pc lv (vI x :: st) t := by
  subst hp
  refine z_pure (pc + 1) (st1 := vF (FP.i2f (Int32.ofInt x)) :: st) (fun p l e R s m args below meth c H locs cells slots Q ls hx hb k => ?_) kk
  exact lv_i2f hx hb hd k
theorem z_i2d (pc' : Nat) {x : Int} (hd : decode b pc = .ok (.i2d, 1)) (hp : pc + 1 = pc')  (kk : zOK y b nL ret d mc ms Post cu su pc' lv (vD (FP.i2d (Int32.ofInt x)) :: st) t) : zOK y b nL ret d mc ms Post cu su pc lv (vI x :: st) t := by
  subst hp
  refine z_pure (pc + 1) (st1 := vD (FP.i2d (Int32.ofInt x)) :: st) (fun p l e R s m args below meth c H locs cells slots Q ls hx hb k => ?_) kk
  exact lv_i2d hx hb hd k
theorem z_l2d (pc' : Nat) {x : Int} (hd : decode b pc = .ok (.l2d, 1)) (hp : pc + 1 = pc')  (kk : zOK y b nL ret d mc ms Post cu su pc' lv (vD (FP.l2d (Int64.ofInt x)) :: st) t) : zOK y b nL ret d mc ms Post cu su pc lv (vL x :: st) t := by
  subst hp
  refine z_pure (pc + 1) (st1 := vD (FP.l2d (Int64.ofInt x)) :: st) (fun p l e R s m args below meth c H locs cells slots Q ls hx hb k => ?_) kk
  exact lv_l2d hx hb hd k
theorem z_f2l (pc' : Nat) {x : UInt32} {z : Int} (hd : decode b pc = .ok (.f2l, 1)) (hp : pc + 1 = pc') (hz : FP.f2l x = Int64.ofInt z) (kk : zOK y b nL ret d mc ms Post cu su pc' lv (vL z :: st) t) : zOK y b nL ret d mc ms Post cu su pc lv (vF x :: st) t := by
  subst hp
  refine z_pure (pc + 1) (st1 := vL z :: st) (fun p l e R s m args below meth c H locs cells slots Q ls hx hb k => ?_) kk
  rw [List.map_cons, show rv (vL z) = .long (FP.f2l x) from congrArg Value.long hz.symm] at k
  exact lv_f2l hx hb hd k
theorem z_d2l (pc' : Nat) {x : UInt64} {z : Int} (hd : decode b pc = .ok (.d2l, 1)) (hp : pc + 1 = pc') (hz : FP.d2l x = Int64.ofInt z) (kk : zOK y b nL ret d mc ms Post cu su pc' lv (vL z :: st) t) : zOK y b nL ret d mc ms Post cu su pc lv (vD x :: st) t := by
  subst hp
  refine z_pure (pc + 1) (st1 := vL z :: st) (fun p l e R s m args below meth c H locs cells slots Q ls hx hb k => ?_) kk
  rw [List.map_cons, show rv (vL z) = .long (FP.d2l x) from congrArg Value.long hz.symm] at k
  exact lv_d2l hx hb hd k
theorem z_f2d (pc' : Nat) {x : UInt32} (hd : decode b pc = .ok (.f2d, 1)) (hp : pc + 1 = pc') (hn : vf_n64 (FP.f2d x)) (kk : zOK y b nL ret d mc ms Post cu su pc' lv (vD (FP.f2d x) :: st) t) : zOK y b nL ret d mc ms Post cu su pc lv (vF x :: st) t := by
  subst hp
  refine z_pure (pc + 1) (st1 := vD (FP.f2d x) :: st) (fun p l e R s m args below meth c H locs cells slots Q ls hx hb k => ?_) kk
  exact lv_f2d hx hb hd hn k
theorem z_goto (tgt : Nat) {off : Int} (hd : decode b pc = .ok (.goto off, 3)) (ht : (pc : Int) + off = (tgt : Int)) (kk : zOK y b nL ret d mc ms Post cu su tgt lv st t) : zOK y b nL ret d mc ms Post cu su pc lv st t :=
  z_pure tgt (fun p l e R s m args below meth c H locs cells slots Q ls hx hb k => lv_goto hx hb hd ht k) kk
theorem z_if_eq (tgt pc' : Nat) {x : Int} {off : Int} (hd : decode b pc = .ok (.ifCond .eq off, 3)) (ht : (pc : Int) + off = (tgt : Int)) (hp : pc + 3 = pc') (h1 : zi x) (k1 : (x = 0) → zOK y b nL ret d mc ms Post cu su tgt lv st t) (k2 : ¬ (x = 0) → zOK y b nL ret d mc ms Post cu su pc' lv st t) : zOK y b nL ret d mc ms Post cu su pc lv (vI x :: st) t := by
  subst hp
  refine z_fork tgt (pc + 3) (fun p l e R s m args below meth c H locs cells slots Q ls hx hb k1 k2 => ?_) k1 k2
  exact lv_if_eq hx hb hd ht (fun q => k1 ((zi_eq h1 zi_0).mp q)) (fun q => k2 (fun w => q ((zi_eq h1 zi_0).mpr w)))
theorem z_icmp_eq (tgt pc' : Nat) {x z : Int} {off : Int} (hd : decode b pc = .ok (.if_icmp .eq off, 3)) (ht : (pc : Int) + off = (tgt : Int)) (hp : pc + 3 = pc') (h1 : zi x) (h2 : zi z) (k1 : (x = z) → zOK y b nL ret d mc ms Post cu su tgt lv st t) (k2 : ¬ (x = z) → zOK y b nL ret d mc ms Post cu su pc' lv st t) : zOK y b nL ret d mc ms Post cu su pc lv (vI z :: vI x :: st) t := by
  subst hp
  refine z_fork tgt (pc + 3) (fun p l e R s m args below meth c H locs cells slots Q ls hx hb k1 k2 => ?_) k1 k2
  exact lv_icmp_eq hx hb hd ht (fun q => k1 ((zi_eq h1 h2).mp q)) (fun q => k2 (fun w => q ((zi_eq h1 h2).mpr w)))
theorem z_if_ne (tgt pc' : Nat) {x : Int} {off : Int} (hd : decode b pc = .ok (.ifCond .ne off, 3)) (ht : (pc : Int) + off = (tgt : Int)) (hp : pc + 3 = pc') (h1 : zi x) (k1 : (x ≠ 0) → zOK y b nL ret d mc ms Post cu su tgt lv st t) (k2 : ¬ (x ≠ 0) → zOK y b nL ret d mc ms Post cu su pc' lv st t) : zOK y b nL ret d mc ms Post cu su pc lv (vI x :: st) t := by
  subst hp
  refine z_fork tgt (pc + 3) (fun p l e R s m args below meth c H locs cells slots Q ls hx hb k1 k2 => ?_) k1 k2
  exact lv_if_ne hx hb hd ht (fun q => k1 (fun w => q ((zi_eq h1 zi_0).mpr w))) (fun q => k2 (fun w => w ((zi_eq h1 zi_0).mp q)))
theorem z_icmp_ne (tgt pc' : Nat) {x z : Int} {off : Int} (hd : decode b pc = .ok (.if_icmp .ne off, 3)) (ht : (pc : Int) + off = (tgt : Int)) (hp : pc + 3 = pc') (h1 : zi x) (h2 : zi z) (k1 : (x ≠ z) → zOK y b nL ret d mc ms Post cu su tgt lv st t) (k2 : ¬ (x ≠ z) → zOK y b nL ret d mc ms Post cu su pc' lv st t) : zOK y b nL ret d mc ms Post cu su pc lv (vI z :: vI x :: st) t := by
  subst hp
  refine z_fork tgt (pc + 3) (fun p l e R s m args below meth c H locs cells slots Q ls hx hb k1 k2 => ?_) k1 k2
  exact lv_icmp_ne hx hb hd ht (fun q => k1 (fun w => q ((zi_eq h1 h2).mpr w))) (fun q => k2 (fun w => w ((zi_eq h1 h2).mp q)))
theorem z_if_lt (tgt pc' : Nat) {x : Int} {off : Int} (hd : decode b pc = .ok (.ifCond .lt off, 3)) (ht : (pc : Int) + off = (tgt : Int)) (hp : pc + 3 = pc') (h1 : zi x) (k1 : (x < 0) → zOK y b nL ret d mc ms Post cu su tgt lv st t) (k2 : ¬ (x < 0) → zOK y b nL ret d mc ms Post cu su pc' lv st t) : zOK y b nL ret d mc ms Post cu su pc lv (vI x :: st) t := by
  subst hp
  refine z_fork tgt (pc + 3) (fun p l e R s m args below meth c H locs cells slots Q ls hx hb k1 k2 => ?_) k1 k2
  exact lv_if_lt hx hb hd ht (fun q => k1 ((zi_lt h1 zi_0).mp q)) (fun q => k2 (fun w => q ((zi_lt h1 zi_0).mpr w)))
theorem z_icmp_lt (tgt pc' : Nat) {x z : Int} {off : Int} (hd : decode b pc = .ok (.if_icmp .lt off, 3)) (ht : (pc : Int) + off = (tgt : Int)) (hp : pc + 3 = pc') (h1 : zi x) (h2 : zi z) (k1 : (x < z) → zOK y b nL ret d mc ms Post cu su tgt lv st t) (k2 : ¬ (x < z) → zOK y b nL ret d mc ms Post cu su pc' lv st t) : zOK y b nL ret d mc ms Post cu su pc lv (vI z :: vI x :: st) t := by
  subst hp
  refine z_fork tgt (pc + 3) (fun p l e R s m args below meth c H locs cells slots Q ls hx hb k1 k2 => ?_) k1 k2
  exact lv_icmp_lt hx hb hd ht (fun q => k1 ((zi_lt h1 h2).mp q)) (fun q => k2 (fun w => q ((zi_lt h1 h2).mpr w)))
theorem z_if_ge (tgt pc' : Nat) {x : Int} {off : Int} (hd : decode b pc = .ok (.ifCond .ge off, 3)) (ht : (pc : Int) + off = (tgt : Int)) (hp : pc + 3 = pc') (h1 : zi x) (k1 : (0 ≤ x) → zOK y b nL ret d mc ms Post cu su tgt lv st t) (k2 : ¬ (0 ≤ x) → zOK y b nL ret d mc ms Post cu su pc' lv st t) : zOK y b nL ret d mc ms Post cu su pc lv (vI x :: st) t := by
  subst hp
  refine z_fork tgt (pc + 3) (fun p l e R s m args below meth c H locs cells slots Q ls hx hb k1 k2 => ?_) k1 k2
  exact lv_if_ge hx hb hd ht (fun q => k1 ((zi_le zi_0 h1).mp q)) (fun q => k2 (fun w => q ((zi_le zi_0 h1).mpr w)))
theorem z_icmp_ge (tgt pc' : Nat) {x z : Int} {off : Int} (hd : decode b pc = .ok (.if_icmp .ge off, 3)) (ht : (pc : Int) + off = (tgt : Int)) (hp : pc + 3 = pc') (h1 : zi x) (h2 : zi z) (k1 : (z ≤ x) → zOK y b nL ret d mc ms Post cu su tgt lv st t) (k2 : ¬ (z ≤ x) → zOK y b nL ret d mc ms Post cu su pc' lv st t) : zOK y b nL ret d mc ms Post cu su pc lv (vI z :: vI x :: st) t := by
  subst hp
  refine z_fork tgt (pc + 3) (fun p l e R s m args below meth c H locs cells slots Q ls hx hb k1 k2 => ?_) k1 k2
  exact lv_icmp_ge hx hb hd ht (fun q => k1 ((zi_le h2 h1).mp q)) (fun q => k2 (fun w => q ((zi_le h2 h1).mpr w)))
theorem z_if_gt (tgt pc' : Nat) {x : Int} {off : Int} (hd : decode b pc = .ok (.ifCond .gt off, 3)) (ht : (pc : Int) + off = (tgt : Int)) (hp : pc + 3 = pc') (h1 : zi x) (k1 : (0 < x) → zOK y b nL ret d mc ms Post cu su tgt lv st t) (k2 : ¬ (0 < x) → zOK y b nL ret d mc ms Post cu su pc' lv st t) : zOK y b nL ret d mc ms Post cu su pc lv (vI x :: st) t := by
  subst hp
  refine z_fork tgt (pc + 3) (fun p l e R s m args below meth c H locs cells slots Q ls hx hb k1 k2 => ?_) k1 k2
  exact lv_if_gt hx hb hd ht (fun q => k1 ((zi_lt zi_0 h1).mp q)) (fun q => k2 (fun w => q ((zi_lt zi_0 h1).mpr w)))
theorem z_icmp_gt (tgt pc' : Nat) {x z : Int} {off : Int} (hd : decode b pc = .ok (.if_icmp .gt off, 3)) (ht : (pc : Int) + off = (tgt : Int)) (hp : pc + 3 = pc') (h1 : zi x) (h2 : zi z) (k1 : (z < x) → zOK y b nL ret d mc ms Post cu su tgt lv st t) (k2 : ¬ (z < x) → zOK y b nL ret d mc ms Post cu su pc' lv st t) : zOK y b nL ret d mc ms Post cu su pc lv (vI z :: vI x :: st) t := by
  subst hp
  refine z_fork tgt (pc + 3) (fun p l e R s m args below meth c H locs cells slots Q ls hx hb k1 k2 => ?_) k1 k2
  exact lv_icmp_gt hx hb hd ht (fun q => k1 ((zi_lt h2 h1).mp q)) (fun q => k2 (fun w => q ((zi_lt h2 h1).mpr w)))
theorem z_if_le (tgt pc' : Nat) {x : Int} {off : Int} (hd : decode b pc = .ok (.ifCond .le off, 3)) (ht : (pc : Int) + off = (tgt : Int)) (hp : pc + 3 = pc') (h1 : zi x) (k1 : (x ≤ 0) → zOK y b nL ret d mc ms Post cu su tgt lv st t) (k2 : ¬ (x ≤ 0) → zOK y b nL ret d mc ms Post cu su pc' lv st t) : zOK y b nL ret d mc ms Post cu su pc lv (vI x :: st) t := by
  subst hp
  refine z_fork tgt (pc + 3) (fun p l e R s m args below meth c H locs cells slots Q ls hx hb k1 k2 => ?_) k1 k2
  exact lv_if_le hx hb hd ht (fun q => k1 ((zi_le h1 zi_0).mp q)) (fun q => k2 (fun w => q ((zi_le h1 zi_0).mpr w)))
theorem z_icmp_le (tgt pc' : Nat) {x z : Int} {off : Int} (hd : decode b pc = .ok (.if_icmp .le off, 3)) (ht : (pc : Int) + off = (tgt : Int)) (hp : pc + 3 = pc') (h1 : zi x) (h2 : zi z) (k1 : (x ≤ z) → zOK y b nL ret d mc ms Post cu su tgt lv st t) (k2 : ¬ (x ≤ z) → zOK y b nL ret d mc ms Post cu su pc' lv st t) : zOK y b nL ret d mc ms Post cu su pc lv (vI z :: vI x :: st) t := by
  subst hp
  refine z_fork tgt (pc + 3) (fun p l e R s m args below meth c H locs cells slots Q ls hx hb k1 k2 => ?_) k1 k2
  exact lv_icmp_le hx hb hd ht (fun q => k1 ((zi_le h1 h2).mp q)) (fun q => k2 (fun w => q ((zi_le h1 h2).mpr w)))
theorem z_acmp_eq (tgt pc' : Nat) {rx ry : Option Nat} {off : Int} (hd : decode b pc = .ok (.if_acmp .eq off, 3)) (ht : (pc : Int) + off = (tgt : Int)) (hp : pc + 3 = pc')  (k1 : (rx = ry) → zOK y b nL ret d mc ms Post cu su tgt lv st t) (k2 : ¬ (rx = ry) → zOK y b nL ret d mc ms Post cu su pc' lv st t) : zOK y b nL ret d mc ms Post cu su pc lv (vR ry :: vR rx :: st) t := by
  subst hp
  refine z_fork tgt (pc + 3) (fun p l e R s m args below meth c H locs cells slots Q ls hx hb k1 k2 => ?_) k1 k2
  exact lv_acmp_eq hx hb hd ht k1 k2
theorem z_acmp_ne (tgt pc' : Nat) {rx ry : Option Nat} {off : Int} (hd : decode b pc = .ok (.if_acmp .ne off, 3)) (ht : (pc : Int) + off = (tgt : Int)) (hp : pc + 3 = pc')  (k1 : (¬ rx = ry) → zOK y b nL ret d mc ms Post cu su tgt lv st t) (k2 : ¬ (¬ rx = ry) → zOK y b nL ret d mc ms Post cu su pc' lv st t) : zOK y b nL ret d mc ms Post cu su pc lv (vR ry :: vR rx :: st) t := by
  subst hp
  refine z_fork tgt (pc + 3) (fun p l e R s m args below meth c H locs cells slots Q ls hx hb k1 k2 => ?_) k1 k2
  exact lv_acmp_ne hx hb hd ht k1 (fun q => k2 (fun w => w q))
theorem z_ifnull (tgt pc' : Nat) {r : Option Nat} {off : Int} (hd : decode b pc = .ok (.ifnull off, 3)) (ht : (pc : Int) + off = (tgt : Int)) (hp : pc + 3 = pc')  (k1 : (r = none) → zOK y b nL ret d mc ms Post cu su tgt lv st t) (k2 : ¬ (r = none) → zOK y b nL ret d mc ms Post cu su pc' lv st t) : zOK y b nL ret d mc ms Post cu su pc lv (vR r :: st) t := by
  subst hp
  refine z_fork tgt (pc + 3) (fun p l e R s m args below meth c H locs cells slots Q ls hx hb k1 k2 => ?_) k1 k2
  cases r with
  | none => exact lv_ifnullN hx hb hd ht (k1 rfl)
  | some x => exact lv_ifnull hx hb hd (k2 (fun q => by cases q))
theorem z_ifnonnull (tgt pc' : Nat) {r : Option Nat} {off : Int} (hd : decode b pc = .ok (.ifnonnull off, 3)) (ht : (pc : Int) + off = (tgt : Int)) (hp : pc + 3 = pc')  (k1 : (¬ r = none) → zOK y b nL ret d mc ms Post cu su tgt lv st t) (k2 : ¬ (¬ r = none) → zOK y b nL ret d mc ms Post cu su pc' lv st t) : zOK y b nL ret d mc ms Post cu su pc lv (vR r :: st) t := by
  subst hp
  refine z_fork tgt (pc + 3) (fun p l e R s m args below meth c H locs cells slots Q ls hx hb k1 k2 => ?_) k1 k2
  cases r with
  | none => exact lv_ifnonnullN hx hb hd (k2 (fun q => q rfl))
  | some x => exact lv_ifnonnull hx hb hd ht (k1 (fun q => by cases q))
theorem z_swOut (tgt : Nat) {dflt lo hi : Int} {offs : Array Int} {len : Nat} {x : Int} (hd : decode b pc = .ok (.tableswitch dflt lo hi offs, len)) (h1 : zi x) (h : x < lo ∨ hi < x) (ht : (pc : Int) + dflt = (tgt : Int)) (kk : zOK y b nL ret d mc ms Post cu su tgt lv st t) : zOK y b nL ret d mc ms Post cu su pc lv (vI x :: st) t :=
  z_pure tgt (fun p l e R s m args below meth c H locs cells slots Q ls hx hb k => lv_tableOut hx hb hd (by rw [zi_toInt h1]; exact h) ht k) kk
theorem z_swIn (tgt : Nat) {dflt lo hi : Int} {offs : Array Int} {len : Nat} {x off : Int} (hd : decode b pc = .ok (.tableswitch dflt lo hi offs, len)) (h1 : zi x) (h2 : ¬ x < lo) (h3 : ¬ hi < x) (ho : offs[(x - lo).toNat]? = some off) (ht : (pc : Int) + off = (tgt : Int)) (kk : zOK y b nL ret d mc ms Post cu su tgt lv st t) : zOK y b nL ret d mc ms Post cu su pc lv (vI x :: st) t :=
  z_pure tgt (fun p l e R s m args below meth c H locs cells slots Q ls hx hb k => lv_tableIn hx hb hd (by rw [zi_toInt h1]; exact h2) (by rw [zi_toInt h1]; exact h3) (by rw [zi_toInt h1]; exact ho) ht k) kk
theorem z_ldc (pc' : Nat) {index : Nat} {v : Int} (hl : Cond.constant y.cls index (Int32.ofInt v) ∈ lw_all) (hd : decode b pc = .ok (.ldc index, 2)) (hp : pc + 2 = pc') (kk : zOK y b nL ret d mc ms Post cu su pc' lv (vI v :: st) t) : zOK y b nL ret d mc ms Post cu su pc lv st t := by
  subst hp
  intro p l e s m args below meth c D cy A hC H locs ls hw hlv
  have k := kk p l e s m args below meth c D cy A hC H locs ls hw hlv
  obtain ⟨hx, hb, -, hts, -, hown, -⟩ := hC
  exact lv_ldc hx hb hown (hts _ hl) hd k
theorem z_ldcw (pc' : Nat) {index : Nat} {v : Int} (hl : Cond.constant y.cls index (Int32.ofInt v) ∈ lw_all) (hd : decode b pc = .ok (.ldc_w index, 3)) (hp : pc + 3 = pc') (kk : zOK y b nL ret d mc ms Post cu su pc' lv (vI v :: st) t) : zOK y b nL ret d mc ms Post cu su pc lv st t := by
  subst hp
  intro p l e s m args below meth c D cy A hC H locs ls hw hlv
  have k := kk p l e s m args below meth c D cy A hC H locs ls hw hlv
  obtain ⟨hx, hb, -, hts, -, hown, -⟩ := hC
  exact lv_ldcw hx hb hown (hts _ hl) hd k
theorem z_ldcf (pc' : Nat) {index : Nat} {v : UInt32} (hl : Cond.constantFloat y.cls index v ∈ lw_all) (hd : decode b pc = .ok (.ldc index, 2)) (hp : pc + 2 = pc') (kk : zOK y b nL ret d mc ms Post cu su pc' lv (vF v :: st) t) : zOK y b nL ret d mc ms Post cu su pc lv st t := by
  subst hp
  intro p l e s m args below meth c D cy A hC H locs ls hw hlv
  have k := kk p l e s m args below meth c D cy A hC H locs ls hw hlv
  obtain ⟨hx, hb, -, hts, -, hown, -⟩ := hC
  exact lv_ldcf hx hb hown (hts _ hl) hd k
theorem z_ldc2l (pc' : Nat) {index : Nat} {v : Int} (hl : Cond.constantLong y.cls index (Int64.ofInt v) ∈ lw_all) (hd : decode b pc = .ok (.ldc2_w index, 3)) (hp : pc + 3 = pc') (kk : zOK y b nL ret d mc ms Post cu su pc' lv (vL v :: st) t) : zOK y b nL ret d mc ms Post cu su pc lv st t := by
  subst hp
  intro p l e s m args below meth c D cy A hC H locs ls hw hlv
  have k := kk p l e s m args below meth c D cy A hC H locs ls hw hlv
  obtain ⟨hx, hb, -, hts, -, hown, -⟩ := hC
  exact lv_ldc2 hx hb hown (hts _ hl) hd k
theorem z_ldc2d (pc' : Nat) {index : Nat} {v : UInt64} (hl : Cond.constantDouble y.cls index v ∈ lw_all) (hd : decode b pc = .ok (.ldc2_w index, 3)) (hp : pc + 3 = pc') (kk : zOK y b nL ret d mc ms Post cu su pc' lv (vD v :: st) t) : zOK y b nL ret d mc ms Post cu su pc lv st t := by
  subst hp
  intro p l e s m args below meth c D cy A hC H locs ls hw hlv
  have k := kk p l e s m args below meth c D cy A hC H locs ls hw hlv
  obtain ⟨hx, hb, -, hts, -, hown, -⟩ := hC
  exact lv_ldc2d hx hb hown (hts _ hl) hd k
theorem z_ldcwf (pc' : Nat) {index : Nat} {v : UInt32} (hl : Cond.constantFloat y.cls index v ∈ lw_all) (hd : decode b pc = .ok (.ldc_w index, 3)) (hp : pc + 3 = pc') (kk : zOK y b nL ret d mc ms Post cu su pc' lv (vF v :: st) t) : zOK y b nL ret d mc ms Post cu su pc lv st t := by
  subst hp
  intro p l e s m args below meth c D cy A hC H locs ls hw hlv
  have k := kk p l e s m args below meth c D cy A hC H locs ls hw hlv
  obtain ⟨hx, hb, -, hts, -, hown, -⟩ := hC
  intro T hT X
  obtain ⟨u, a, b1⟩ := k T hT X
  refine ⟨u, ?_, b1⟩
  obtain ⟨k9, cf, hk, hcf, hcp⟩ := Cond.constantFloat_spec hown (hts _ hl)
  obtain ⟨k', hk', he⟩ := X.warmed.alike.2.2 _ _ hk
  jvm_step X.here [hx, hb, hd, ldc_w.wp_float (s := T) (f := F0 m pc ls (st.map rv)) X.here.top hk' (by rw [he]; exact hcf) hcp]
  exact a
end ZR
end
section

/-! heap rows, calls, ends -/
theorem up2_s {α : Type} (f : Nat → Int → α) (a : Nat) (k : Int) (v : α) : up2 f a k v a k = v := by simp [up2]
theorem up2_a {α : Type} (f : Nat → Int → α) (a : Nat) (k : Int) (v : α) {b : Nat} (h : b ≠ a) (j : Int) : up2 f a k v b j = f b j := by simp [up2, h]
theorem up2_k {α : Type} (f : Nat → Int → α) (a : Nat) (k : Int) (v : α) (b : Nat) {j : Int} (h : j ≠ k) : up2 f a k v b j = f b j := by simp [up2, h]
theorem zW_get {cy : Nat → ClassId} {t : zT} {a : Nat} (h : a ∈ tL t) : ∃ k : Nat, (zW cy t)[k]? = some (a, zE cy t a) := by
  obtain ⟨k, hk⟩ := va_pl_get (X := []) (f := zE cy t) h
  exact ⟨k, hk⟩
theorem zW_upd {cy : Nat → ClassId} {A : Nat → Prop} {t t' : zT} {a k : Nat} {e : va_E} (hL : tL t' = tL t) (hne : ∀ b, b ≠ a → zE cy t' b = zE cy t b) (hD : va_D A (zW cy t)) (ha : a ∈ tL t) (hk : (zW cy t)[k]? = some (a, zE cy t a)) (he : e = zE cy t' a) : (zW cy t).set k (a, e) = zW cy t' := by
  have h := va_pl_set (X := []) (e := e) hD ha hk
  refine h.trans ?_
  show va_pl (tL t) _ = va_pl (tL t') _
  rw [hL]
  refine va_pl_congr (fun b => ?_)
  by_cases hb : b = a
  · subst hb; rw [va_up_self]; exact he
  · rw [va_up_ne _ _ hb]; exact (hne b hb).symm
theorem zE_congr {cy : Nat → ClassId} {t t' : zT} {b : Nat} (h1 : tK t' b = tK t b) (h2 : tN t' b = tN t b) (h3 : ∀ j, tI t' b j = tI t b j) (h4 : ∀ j, tF t' b j = tF t b j) (h5 : ∀ j, tP t' b j = tP t b j) : zE cy t' b = zE cy t b := by
  unfold zE zFv
  simp only [h1, h2, h3, h4, h5]
theorem zE_sI_ne {cy : Nat → ClassId} {t : zT} {a : Nat} {k v : Int} {b : Nat} (h : b ≠ a) : zE cy (sI t a k v) b = zE cy t b :=
  zE_congr rfl rfl (fun j => up2_a _ _ _ _ h j) (fun _ => rfl) (fun _ => rfl)
theorem zE_sF_ne {cy : Nat → ClassId} {t : zT} {a : Nat} {k : Int} {v : UInt32} {b : Nat} (h : b ≠ a) : zE cy (sF t a k v) b = zE cy t b :=
  zE_congr rfl rfl (fun _ => rfl) (fun j => up2_a _ _ _ _ h j) (fun _ => rfl)
theorem zE_sP_ne {cy : Nat → ClassId} {t : zT} {a : Nat} {k : Int} {v : Option Nat} {b : Nat} (h : b ≠ a) : zE cy (sP t a k v) b = zE cy t b :=
  zE_congr rfl rfl (fun _ => rfl) (fun _ => rfl) (fun j => up2_a _ _ _ _ h j)
theorem zE_sC_ne {cy : Nat → ClassId} {t : zT} {a0 a : Nat} {i k n : Int} {b : Nat} (h : b ≠ a) : zE cy (sC t a0 a i k n) b = zE cy t b :=
  zE_congr rfl rfl (fun j => if_neg (fun q => h q.1)) (fun _ => rfl) (fun _ => rfl)
theorem zE_sA_ne {cy : Nat → ClassId} {t : zT} {q kd n : Nat} {b : Nat} (h : b ≠ q) : zE cy (sA t q kd n) b = zE cy t b :=
  zE_congr (if_neg h) (if_neg h) (fun j => congrFun (show up1 (tI t) q (fun _ => 0) b = tI t b from if_neg h) j) (fun j => congrFun (show up1 (tF t) q (fun _ => 0) b = tF t b from if_neg h) j) (fun j => congrFun (show up1 (tP t) q (fun _ => none) b = tP t b from if_neg h) j)
theorem zE_obj {cy : Nat → ClassId} {t : zT} {a ci : Nat} (hk : tK t a = ci) (h5 : ci < 5) : zE cy t a = .inr (ci, (List.range (zNf ci)).map (fun k => zFv t a (zTg ci k) k)) := by
  unfold zE; rw [hk, if_pos h5]
theorem zE_fl {cy : Nat → ClassId} {t : zT} {a : Nat} (hk : tK t a = 5) : zE cy t a = .inl (cy 5, tN t a, .inr (.inr (.inl (fun j => tF t a j)))) := by
  unfold zE; rw [hk, if_neg (by decide), if_pos rfl]
theorem zE_in {cy : Nat → ClassId} {t : zT} {a kd : Nat} (hk : tK t a = kd) (h : kd = 6 ∨ kd = 7) : zE cy t a = .inl (cy kd, tN t a, .inl (fun j => Int32.ofInt (tI t a j))) := by
  unfold zE; rw [hk, if_neg (by omega), if_neg (by omega), if_pos (by omega)]
theorem zE_rf {cy : Nat → ClassId} {t : zT} {a kd : Nat} (hk : tK t a = kd) (h : 8 ≤ kd) : zE cy t a = .inl (cy kd, tN t a, .inr (.inr (.inr (.inr (fun j => tP t a j))))) := by
  unfold zE; rw [hk, if_neg (by omega), if_neg (by omega), if_neg (by omega)]
/-- what the tables say of a field: class, place, kind (0 int, 1 float, 2 reference), final; its entry in the pool of own -/
def zFL (own : String) (idx ci k tg : Nat) (fin : Bool) : Prop := ∃ (C : String) (F : u_T) (N : Nat) (ty : Nat → FieldType), vwCl[ci]? = some (C, F, N) ∧ ci < 5 ∧ N = zNf ci ∧ k < N ∧ (∀ w ∈ u_ws C F N, w ∈ lw_all) ∧ (F k).1 = C ∧ zTg ci k = tg ∧ (F k).2.2.2 = fin ∧ (∀ k, k < N → parseFieldDescriptor (F k).2.2.1 = some (ty k)) ∧ (∀ a, a < N → ∀ b, b < N → a ≠ b → (F a).2.1 ≠ (F b).2.1) ∧ (tg = 0 → ty k = .int) ∧ (tg = 1 → ty k = .float) ∧ (tg = 2 → (∃ n, ty k = .object n) ∨ ∃ q, ty k = .array q) ∧ (Cond.fieldLink own idx C (F k).2.1 (F k).2.2.1 ∈ lw_all ∨ ∃ host, Cond.fieldLinkNest own idx C (F k).2.1 (F k).2.2.1 host ∈ lw_nst)
section ZH
variable {y : MethodName} {b : ByteArray} {nL : Nat} {ret : Option FieldType} {d mc ms : Nat} {Post : Option zV → zT → Prop} {cu su pc : Nat} {lv : List (Nat × zV)} {st : List zV} {t : zT}
theorem z_getV (pc' : Nat) {a idx ci k tg : Nat} {fin : Bool} {v : zV} (hL : zFL y.cls idx ci k tg fin) (ha : a ∈ tL t) (hk : tK t a = ci) (hv : zFv t a tg k = rv v) (hd : decode b pc = .ok (.getfield idx, 3)) (hp : pc + 3 = pc') (kk : zOK y b nL ret d mc ms Post cu su pc' lv (v :: st) t) : zOK y b nL ret d mc ms Post cu su pc lv (vR (some a) :: st) t := by
  subst hp
  intro p l e s m args below meth c D cy A hC H locs ls hw hl
  have h := kk p l e s m args below meth c D cy A hC H locs ls hw hl
  obtain ⟨hx, hb, hr, hts, hns, hown, -, -, -, hK, -⟩ := hC
  obtain ⟨C, F, N, ty, hcl, h5, rfl, hkN, hin, hdc, htg, -, -, -, -, -, -, hlink⟩ := hL
  obtain ⟨k0, hk0⟩ := zW_get (cy := cy) ha
  rw [zE_obj hk h5] at hk0
  have hvv : ((List.range (zNf ci)).map (fun k => zFv t a (zTg ci k) k))[k]? = some (rv v) := by
    rw [List.getElem?_map, List.getElem?_range hkN, ← hv, ← htg]; rfl
  rcases hlink with hlink | ⟨host, hlink⟩
  · exact va_get hx hb hts hin hown hK hw.1 k0 hk0 hcl k hkN (hts _ hlink) (by rw [hdc]; exact fun _ h9 => h9) hvv hd h
  · exact va_getN hx hb hts hin hown hK hw.1 k0 hk0 hcl k hkN (va_Nw.use rfl (hns _ hlink)) (by rw [hdc]; exact fun _ h9 => h9) hvv hd h
theorem z_getI (pc' : Nat) {a idx ci k : Nat} {fin : Bool} (hL : zFL y.cls idx ci k 0 fin) (ha : a ∈ tL t) (hk : tK t a = ci) (hd : decode b pc = .ok (.getfield idx, 3)) (hp : pc + 3 = pc') (kk : zOK y b nL ret d mc ms Post cu su pc' lv (vI (tI t a k) :: st) t) : zOK y b nL ret d mc ms Post cu su pc lv (vR (some a) :: st) t := z_getV pc' hL ha hk rfl hd hp kk
theorem z_getF (pc' : Nat) {a idx ci k : Nat} {fin : Bool} (hL : zFL y.cls idx ci k 1 fin) (ha : a ∈ tL t) (hk : tK t a = ci) (hd : decode b pc = .ok (.getfield idx, 3)) (hp : pc + 3 = pc') (kk : zOK y b nL ret d mc ms Post cu su pc' lv (vF (tF t a k) :: st) t) : zOK y b nL ret d mc ms Post cu su pc lv (vR (some a) :: st) t := z_getV pc' hL ha hk rfl hd hp kk
theorem z_getP (pc' : Nat) {a idx ci k : Nat} {fin : Bool} (hL : zFL y.cls idx ci k 2 fin) (ha : a ∈ tL t) (hk : tK t a = ci) (hd : decode b pc = .ok (.getfield idx, 3)) (hp : pc + 3 = pc') (kk : zOK y b nL ret d mc ms Post cu su pc' lv (vR (tP t a k) :: st) t) : zOK y b nL ret d mc ms Post cu su pc lv (vR (some a) :: st) t := z_getV pc' hL ha hk rfl hd hp kk
theorem zfs_set {t t' : zT} {a ci k : Nat} {v : Value} (hk : k < zNf ci) (h1 : zFv t' a (zTg ci k) k = v) (h2 : ∀ j, j ≠ k → zFv t' a (zTg ci j) j = zFv t a (zTg ci j) j) : ((List.range (zNf ci)).map (fun k => zFv t a (zTg ci k) k)).set k v = (List.range (zNf ci)).map (fun k => zFv t' a (zTg ci k) k) := by
  apply List.ext_getElem?
  intro j
  by_cases hj : j = k
  · subst hj
    rw [List.getElem?_set_self (by simpa using hk), List.getElem?_map, List.getElem?_range hk, ← h1]; rfl
  · rw [List.getElem?_set_ne (Ne.symm hj), List.getElem?_map, List.getElem?_map]
    cases hq : (List.range (zNf ci))[j]? with
    | none => rfl
    | some w =>
      have hw : w = j := by
        have := List.getElem?_eq_some_iff.mp hq
        obtain ⟨h3, h4⟩ := this
        rw [← h4, List.getElem_range]
      subst hw
      simp only [Option.map_some]
      rw [h2 _ hj]
theorem z_putV (pc' : Nat) {a idx ci k tg : Nat} {v : zV} {t' : zT} (hL : zFL y.cls idx ci k tg false) (ha : a ∈ tL t) (hk : tK t a = ci) (htL : tL t' = tL t) (htK : tK t' = tK t) (hne : ∀ (cy : Nat → ClassId) (q : Nat), q ≠ a → zE cy t' q = zE cy t q) (h1 : zFv t' a tg k = rv v) (h2 : ∀ j, j ≠ k → zFv t' a (zTg ci j) j = zFv t a (zTg ci j) j)
    (hv : ∀ ty : FieldType, (tg = 0 → ty = .int) → (tg = 1 → ty = .float) → (tg = 2 → (∃ n, ty = .object n) ∨ ∃ q, ty = .array q) → narrow ty (rv v) = rv v ∧ Jvm.fits ty (rv v) = true)
    (hd : decode b pc = .ok (.putfield idx, 3)) (hp : pc + 3 = pc') (kk : zOK y b nL ret d mc ms Post cu su pc' lv st t') : zOK y b nL ret d mc ms Post cu su pc lv (v :: vR (some a) :: st) t := by
  subst hp
  intro p l e s m args below meth c D cy A hC H locs ls hw hl
  have h := fun H1 locs1 hw1 => kk p l e s m args below meth c D cy A hC H1 locs1 ls hw1 hl
  obtain ⟨hx, hb, hr, hts, hns, hown, -, -, -, hK, -⟩ := hC
  obtain ⟨C, F, N, ty, hcl, h5, rfl, hkN, hin, hdc, htg, hfin, hty, hnm, t0, t1, t2, hlink⟩ := hL
  obtain ⟨k0, hk0⟩ := zW_get (cy := cy) ha
  have hk1 := hk0
  rw [zE_obj hk h5] at hk0
  obtain ⟨n1, n2⟩ := hv (ty k) t0 t1 t2
  have hk' : tK t' a = ci := by rw [htK]; exact hk
  have e1 : (zW cy t).set k0 (a, .inr (ci, ((List.range (zNf ci)).map (fun k => zFv t a (zTg ci k) k)).set k (rv v))) = zW cy t' :=
    zW_upd htL (hne cy) hw.2.1 ha hk1 (by rw [zE_obj hk' h5, zfs_set hkN (by rw [htg]; exact h1) h2])
  have hlen : k < ((List.range (zNf ci)).map (fun k => zFv t a (zTg ci k) k)).length := by simpa using hkN
  rcases hlink with hlink | ⟨host, hlink⟩
  · exact va_put hx hb hts hin ty hty hnm hown hK hw.1 hw.2.1 hw.2.2 k0 hk0 hcl k hkN (hts _ hlink) (by rw [hdc]; exact fun _ h9 => h9) hfin (hty k hkN) n1 n2 hlen hd (fun H1 locs1 a1 a2 a3 => h H1 locs1 ⟨by rw [← e1]; exact a1, by rw [← e1]; exact a2, a3⟩)
  · exact va_putN hx hb hts hin ty hty hnm hown hK hw.1 hw.2.1 hw.2.2 k0 hk0 hcl k hkN (va_Nw.use rfl (hns _ hlink)) (by rw [hdc]; exact fun _ h9 => h9) hfin (hty k hkN) n1 n2 hlen hd (fun H1 locs1 a1 a2 a3 => h H1 locs1 ⟨by rw [← e1]; exact a1, by rw [← e1]; exact a2, a3⟩)
theorem zFv_sI {t : zT} {a k : Nat} {z : Int} {ci : Nat} (htg : zTg ci k = 0) : zFv (sI t a k z) a 0 k = .int (Int32.ofInt z) ∧ ∀ j, j ≠ k → zFv (sI t a k z) a (zTg ci j) j = zFv t a (zTg ci j) j := by
  constructor
  · simp [zFv, sI, tI, up2]
  · intro j hj
    have : (j : Int) ≠ (k : Int) := by omega
    simp [zFv, sI, tI, tF, tP, up2, this]
theorem zFv_sF {t : zT} {a k : Nat} {z : UInt32} {ci : Nat} (htg : zTg ci k = 1) : zFv (sF t a k z) a 1 k = .float z ∧ ∀ j, j ≠ k → zFv (sF t a k z) a (zTg ci j) j = zFv t a (zTg ci j) j := by
  constructor
  · simp [zFv, sF, tF, up2]
  · intro j hj
    have : (j : Int) ≠ (k : Int) := by omega
    simp [zFv, sF, tI, tF, tP, up2, this]
theorem zFv_sP {t : zT} {a k : Nat} {z : Option Nat} {ci : Nat} (htg : zTg ci k = 2) : zFv (sP t a k z) a 2 k = va_rf z ∧ ∀ j, j ≠ k → zFv (sP t a k z) a (zTg ci j) j = zFv t a (zTg ci j) j := by
  constructor
  · simp [zFv, sP, tP, up2]
  · intro j hj
    have : (j : Int) ≠ (k : Int) := by omega
    simp [zFv, sP, tI, tF, tP, up2, this]
theorem zfit_r {ty : FieldType} {r : Option Nat} (h : (∃ n, ty = .object n) ∨ ∃ q, ty = .array q) : narrow ty (va_rf r) = va_rf r ∧ Jvm.fits ty (va_rf r) = true := by
  rcases h with ⟨n, rfl⟩ | ⟨q, rfl⟩ <;> cases r <;> exact ⟨rfl, rfl⟩
theorem z_putI (pc' : Nat) {a idx ci k : Nat} {z : Int} (hL : zFL y.cls idx ci k 0 false) (ha : a ∈ tL t) (hk : tK t a = ci) (hd : decode b pc = .ok (.putfield idx, 3)) (hp : pc + 3 = pc') (kk : zOK y b nL ret d mc ms Post cu su pc' lv st (sI t a k z)) : zOK y b nL ret d mc ms Post cu su pc lv (vI z :: vR (some a) :: st) t := by
  have htg : zTg ci k = 0 := by obtain ⟨_, _, _, _, -, -, -, -, -, -, h, -⟩ := hL; exact h
  exact z_putV pc' (v := vI z) (t' := sI t a k z) hL ha hk rfl rfl (fun _ _ => zE_sI_ne) (zFv_sI htg).1 (zFv_sI htg).2 (fun ty h _ _ => by rw [h rfl]; exact ⟨rfl, rfl⟩) hd hp kk
theorem z_putF (pc' : Nat) {a idx ci k : Nat} {z : UInt32} (hL : zFL y.cls idx ci k 1 false) (ha : a ∈ tL t) (hk : tK t a = ci) (hd : decode b pc = .ok (.putfield idx, 3)) (hp : pc + 3 = pc') (kk : zOK y b nL ret d mc ms Post cu su pc' lv st (sF t a k z)) : zOK y b nL ret d mc ms Post cu su pc lv (vF z :: vR (some a) :: st) t := by
  have htg : zTg ci k = 1 := by obtain ⟨_, _, _, _, -, -, -, -, -, -, h, -⟩ := hL; exact h
  exact z_putV pc' (v := vF z) (t' := sF t a k z) hL ha hk rfl rfl (fun _ _ => zE_sF_ne) (zFv_sF htg).1 (zFv_sF htg).2 (fun ty _ h _ => by rw [h rfl]; exact ⟨rfl, rfl⟩) hd hp kk
theorem z_putP (pc' : Nat) {a idx ci k : Nat} {z : Option Nat} (hL : zFL y.cls idx ci k 2 false) (ha : a ∈ tL t) (hk : tK t a = ci) (hd : decode b pc = .ok (.putfield idx, 3)) (hp : pc + 3 = pc') (kk : zOK y b nL ret d mc ms Post cu su pc' lv st (sP t a k z)) : zOK y b nL ret d mc ms Post cu su pc lv (vR z :: vR (some a) :: st) t := by
  have htg : zTg ci k = 2 := by obtain ⟨_, _, _, _, -, -, -, -, -, -, h, -⟩ := hL; exact h
  exact z_putV pc' (v := vR z) (t' := sP t a k z) hL ha hk rfl rfl (fun _ _ => zE_sP_ne) (zFv_sP htg).1 (zFv_sP htg).2 (fun ty _ _ h => zfit_r (h rfl)) hd hp kk
/-- a final field, in the constructor -/
theorem z_putVF (pc' : Nat) {a idx ci k tg : Nat} {v : zV} {t' : zT} (hL : zFL y.cls idx ci k tg true) (hin0 : y.name = "<init>") (hcls : ∃ r, vwCl[ci]? = some r ∧ r.1 = y.cls) (ha : a ∈ tL t) (hk : tK t a = ci) (htL : tL t' = tL t) (htK : tK t' = tK t) (hne : ∀ (cy : Nat → ClassId) (q : Nat), q ≠ a → zE cy t' q = zE cy t q) (h1 : zFv t' a tg k = rv v) (h2 : ∀ j, j ≠ k → zFv t' a (zTg ci j) j = zFv t a (zTg ci j) j)
    (hv : ∀ ty : FieldType, (tg = 0 → ty = .int) → (tg = 1 → ty = .float) → (tg = 2 → (∃ n, ty = .object n) ∨ ∃ q, ty = .array q) → narrow ty (rv v) = rv v ∧ Jvm.fits ty (rv v) = true)
    (hnn : ∀ C F N, vwCl[ci]? = some (C, F, N) → Cond.fieldLink y.cls idx C (F k).2.1 (F k).2.2.1 ∈ lw_all)
    (hd : decode b pc = .ok (.putfield idx, 3)) (hp : pc + 3 = pc') (kk : zOK y b nL ret d mc ms Post cu su pc' lv st t') : zOK y b nL ret d mc ms Post cu su pc lv (v :: vR (some a) :: st) t := by
  subst hp
  intro p l e s m args below meth c D cy A hC H locs ls hw hl
  have h := fun H1 locs1 hw1 => kk p l e s m args below meth c D cy A hC H1 locs1 ls hw1 hl
  obtain ⟨hx, hb, hr, hts, hns, hown, -, -, hname, hK, -⟩ := hC
  obtain ⟨C, F, N, ty, hcl, h5, rfl, hkN, hin, hdc, htg, hfin, hty, hnm, t0, t1, t2, -⟩ := hL
  obtain ⟨r, hr1, hr2⟩ := hcls
  have hrC : C = y.cls := by rw [hcl] at hr1; cases hr1; exact hr2
  obtain ⟨k0, hk0⟩ := zW_get (cy := cy) ha
  have hk1 := hk0
  rw [zE_obj hk h5] at hk0
  obtain ⟨n1, n2⟩ := hv (ty k) t0 t1 t2
  have hk' : tK t' a = ci := by rw [htK]; exact hk
  have e1 : (zW cy t).set k0 (a, .inr (ci, ((List.range (zNf ci)).map (fun k => zFv t a (zTg ci k) k)).set k (rv v))) = zW cy t' :=
    zW_upd htL (hne cy) hw.2.1 ha hk1 (by rw [zE_obj hk' h5, zfs_set hkN (by rw [htg]; exact h1) h2])
  have hlen : k < ((List.range (zNf ci)).map (fun k => zFv t a (zTg ci k) k)).length := by simpa using hkN
  exact va_putF hx hb hts hin ty hty hnm hown hK hw.1 hw.2.1 hw.2.2 k0 hk0 hcl k hkN (hts _ (hnn _ _ _ hcl)) (by rw [hdc]; exact fun _ h9 => h9) hfin (hname.trans hin0) (by rw [hdc, hrC]) (hty k hkN) n1 n2 hlen hd (fun H1 locs1 a1 a2 a3 => h H1 locs1 ⟨by rw [← e1]; exact a1, by rw [← e1]; exact a2, a3⟩)
/-- the pool entry of a field of the method's own class -/
def zFLo (own : String) (idx ci k : Nat) : Prop := (∃ r, vwCl[ci]? = some r ∧ r.1 = own) ∧ ∀ C F N, vwCl[ci]? = some (C, F, N) → Cond.fieldLink own idx C (F k).2.1 (F k).2.2.1 ∈ lw_all
theorem z_putIF (pc' : Nat) {a idx ci k : Nat} {z : Int} (hL : zFL y.cls idx ci k 0 true) (hin0 : y.name = "<init>") (ho : zFLo y.cls idx ci k) (ha : a ∈ tL t) (hk : tK t a = ci) (hd : decode b pc = .ok (.putfield idx, 3)) (hp : pc + 3 = pc') (kk : zOK y b nL ret d mc ms Post cu su pc' lv st (sI t a k z)) : zOK y b nL ret d mc ms Post cu su pc lv (vI z :: vR (some a) :: st) t := by
  have htg : zTg ci k = 0 := by obtain ⟨_, _, _, _, -, -, -, -, -, -, h, -⟩ := hL; exact h
  exact z_putVF pc' (v := vI z) (t' := sI t a k z) hL hin0 ho.1 ha hk rfl rfl (fun _ _ => zE_sI_ne) (zFv_sI htg).1 (zFv_sI htg).2 (fun ty h _ _ => by rw [h rfl]; exact ⟨rfl, rfl⟩) ho.2 hd hp kk
theorem z_putFF (pc' : Nat) {a idx ci k : Nat} {z : UInt32} (hL : zFL y.cls idx ci k 1 true) (hin0 : y.name = "<init>") (ho : zFLo y.cls idx ci k) (ha : a ∈ tL t) (hk : tK t a = ci) (hd : decode b pc = .ok (.putfield idx, 3)) (hp : pc + 3 = pc') (kk : zOK y b nL ret d mc ms Post cu su pc' lv st (sF t a k z)) : zOK y b nL ret d mc ms Post cu su pc lv (vF z :: vR (some a) :: st) t := by
  have htg : zTg ci k = 1 := by obtain ⟨_, _, _, _, -, -, -, -, -, -, h, -⟩ := hL; exact h
  exact z_putVF pc' (v := vF z) (t' := sF t a k z) hL hin0 ho.1 ha hk rfl rfl (fun _ _ => zE_sF_ne) (zFv_sF htg).1 (zFv_sF htg).2 (fun ty _ h _ => by rw [h rfl]; exact ⟨rfl, rfl⟩) ho.2 hd hp kk
theorem z_putPF (pc' : Nat) {a idx ci k : Nat} {z : Option Nat} (hL : zFL y.cls idx ci k 2 true) (hin0 : y.name = "<init>") (ho : zFLo y.cls idx ci k) (ha : a ∈ tL t) (hk : tK t a = ci) (hd : decode b pc = .ok (.putfield idx, 3)) (hp : pc + 3 = pc') (kk : zOK y b nL ret d mc ms Post cu su pc' lv st (sP t a k z)) : zOK y b nL ret d mc ms Post cu su pc lv (vR z :: vR (some a) :: st) t := by
  have htg : zTg ci k = 2 := by obtain ⟨_, _, _, _, -, -, -, -, -, -, h, -⟩ := hL; exact h
  exact z_putVF pc' (v := vR z) (t' := sP t a k z) hL hin0 ho.1 ha hk rfl rfl (fun _ _ => zE_sP_ne) (zFv_sP htg).1 (zFv_sP htg).2 (fun ty _ _ h => zfit_r (h rfl)) ho.2 hd hp kk
/-- an index within -/
theorem zix {j : Int} {n : Nat} (hn : n ≤ 2147483647) (h : 0 ≤ j ∧ j < n) : vp_in (Int32.ofInt j) n ∧ (Int32.ofInt j).toNatClampNeg = j.toNat ∧ ((j.toNat : Nat) : Int) = j := by
  have hj : zi j := ⟨by omega, by omega⟩
  have e : (Int32.ofInt j).toInt = j := zi_toInt hj
  refine ⟨vp_in_iff.mpr (by rw [e]; exact h), ?_, by omega⟩
  show (Int32.ofInt j).toInt.toNat = _
  rw [e]
theorem z_iald (pc' : Nat) {a : Nat} {j : Int} (n : Nat) (ha : a ∈ tL t) (hk : tK t a = 6) (hn : tN t a = n) (hm : Nat.ble n 2147483647 = true) (h : 0 ≤ j ∧ j < n) (hd : decode b pc = .ok (.iaload, 1)) (hp : pc + 1 = pc') (kk : zOK y b nL ret d mc ms Post cu su pc' lv (vI (tI t a j) :: st) t) : zOK y b nL ret d mc ms Post cu su pc lv (vI j :: vR (some a) :: st) t := by
  subst hp
  subst hn
  intro p l e s m args below meth c D cy A hC H locs ls hw hl
  have k := kk p l e s m args below meth c D cy A hC H locs ls hw hl
  obtain ⟨hx, hb, hr, hts, hns, hown, -, -, -, hK, -⟩ := hC
  obtain ⟨k0, hk0⟩ := zW_get (cy := cy) ha
  rw [zE_in hk (Or.inl rfl)] at hk0
  obtain ⟨g1, g2, g3⟩ := zix (Nat.le_of_ble_eq_true hm) h
  refine va_iald (t0 := 1) hx hb hK hw.1 k0 hk0 rfl g1 hd ?_
  rw [g2, g3]
  exact k
theorem z_bald (pc' : Nat) {a : Nat} {j : Int} (n : Nat) (ha : a ∈ tL t) (hk : tK t a = 7) (hn : tN t a = n) (hm : Nat.ble n 2147483647 = true) (h : 0 ≤ j ∧ j < n) (hd : decode b pc = .ok (.baload, 1)) (hp : pc + 1 = pc') (kk : zOK y b nL ret d mc ms Post cu su pc' lv (vI (tI t a j) :: st) t) : zOK y b nL ret d mc ms Post cu su pc lv (vI j :: vR (some a) :: st) t := by
  subst hp
  subst hn
  intro p l e s m args below meth c D cy A hC H locs ls hw hl
  have k := kk p l e s m args below meth c D cy A hC H locs ls hw hl
  obtain ⟨hx, hb, hr, hts, hns, hown, -, -, -, hK, -⟩ := hC
  obtain ⟨k0, hk0⟩ := zW_get (cy := cy) ha
  rw [zE_in hk (Or.inr rfl)] at hk0
  obtain ⟨g1, g2, g3⟩ := zix (Nat.le_of_ble_eq_true hm) h
  refine va_zald (t0 := 2) hx hb hK hw.1 k0 hk0 rfl g1 hd ?_
  rw [g2, g3]
  exact k
theorem z_fald (pc' : Nat) {a : Nat} {j : Int} (n : Nat) (ha : a ∈ tL t) (hk : tK t a = 5) (hn : tN t a = n) (hm : Nat.ble n 2147483647 = true) (h : 0 ≤ j ∧ j < n) (hd : decode b pc = .ok (.faload, 1)) (hp : pc + 1 = pc') (kk : zOK y b nL ret d mc ms Post cu su pc' lv (vF (tF t a j) :: st) t) : zOK y b nL ret d mc ms Post cu su pc lv (vI j :: vR (some a) :: st) t := by
  subst hp
  subst hn
  intro p l e s m args below meth c D cy A hC H locs ls hw hl
  have k := kk p l e s m args below meth c D cy A hC H locs ls hw hl
  obtain ⟨hx, hb, hr, hts, hns, hown, -, -, -, hK, -⟩ := hC
  obtain ⟨k0, hk0⟩ := zW_get (cy := cy) ha
  rw [zE_fl hk] at hk0
  obtain ⟨g1, g2, g3⟩ := zix (Nat.le_of_ble_eq_true hm) h
  refine va_fald (t0 := 0) hx hb hK hw.1 k0 hk0 rfl g1 hd ?_
  rw [g2, g3]
  exact k
theorem z_aald (pc' : Nat) {a kd : Nat} {j : Int} (n : Nat) (ha : a ∈ tL t) (hk : tK t a = kd) (h8 : kd = 8 ∨ kd = 9 ∨ kd = 10) (hn : tN t a = n) (hm : n ≤ 2147483647) (h : 0 ≤ j ∧ j < n) (hd : decode b pc = .ok (.aaload, 1)) (hp : pc + 1 = pc') (kk : zOK y b nL ret d mc ms Post cu su pc' lv (vR (tP t a j) :: st) t) : zOK y b nL ret d mc ms Post cu su pc lv (vI j :: vR (some a) :: st) t := by
  subst hp
  subst hn
  intro p l e s m args below meth c D cy A hC H locs ls hw hl
  have k := kk p l e s m args below meth c D cy A hC H locs ls hw hl
  obtain ⟨hx, hb, hr, hts, hns, hown, -, -, -, hK, -⟩ := hC
  obtain ⟨k0, hk0⟩ := zW_get (cy := cy) ha
  rw [zE_rf hk (by omega)] at hk0
  obtain ⟨g1, g2, g3⟩ := zix hm h
  rcases h8 with rfl | rfl | rfl
  · refine va_aldq (t0 := 3) (C := RX0) hx hb hK hw.1 k0 hk0 rfl g1 hd ?_
    rw [g2, g3]
    exact k
  · refine va_aldq (t0 := 4) (C := RX1) hx hb hK hw.1 k0 hk0 rfl g1 hd ?_
    rw [g2, g3]
    exact k
  · refine va_aldq (t0 := 5) (C := RX2) hx hb hK hw.1 k0 hk0 rfl g1 hd ?_
    rw [g2, g3]
    exact k
theorem z_alen (pc' : Nat) {a kd : Nat} (ha : a ∈ tL t) (hk : tK t a = kd) (h8 : 5 ≤ kd ∧ kd ≤ 10) (hd : decode b pc = .ok (.arraylength, 1)) (hp : pc + 1 = pc') (kk : zOK y b nL ret d mc ms Post cu su pc' lv (vI (tN t a) :: st) t) : zOK y b nL ret d mc ms Post cu su pc lv (vR (some a) :: st) t := by
  subst hp
  intro p l e s m args below meth c D cy A hC H locs ls hw hl
  have k := kk p l e s m args below meth c D cy A hC H locs ls hw hl
  obtain ⟨hx, hb, hr, hts, hns, hown, -, -, -, hK, -⟩ := hC
  obtain ⟨k0, hk0⟩ := zW_get (cy := cy) ha
  have hkd : kd = 5 ∨ (kd = 6 ∨ kd = 7) ∨ kd = 8 ∨ kd = 9 ∨ kd = 10 := by omega
  have e : Int32.ofNat (tN t a) = Int32.ofInt ((tN t a : Nat) : Int) := Int32.ofInt_eq_ofNat.symm
  rcases hkd with rfl | h67 | h89
  · rw [zE_fl hk] at hk0
    exact va_alen (ty := .float) hx hb hK hw.1 k0 0 hk0 rfl e hd k
  · rw [zE_in hk h67] at hk0
    rcases h67 with rfl | rfl
    · exact va_alen (ty := .int) hx hb hK hw.1 k0 1 hk0 rfl e hd k
    · exact va_alen (ty := .boolean) hx hb hK hw.1 k0 2 hk0 rfl e hd k
  · rw [zE_rf hk (by omega)] at hk0
    rcases h89 with rfl | rfl | rfl
    · exact va_alen (ty := .object RX0) hx hb hK hw.1 k0 3 hk0 rfl e hd k
    · exact va_alen (ty := .object RX1) hx hb hK hw.1 k0 4 hk0 rfl e hd k
    · exact va_alen (ty := .object RX2) hx hb hK hw.1 k0 5 hk0 rfl e hd k
theorem z_iast (pc' : Nat) {a : Nat} {j z : Int} (n : Nat) (ha : a ∈ tL t) (hk : tK t a = 6) (hn : tN t a = n) (hm : Nat.ble n 2147483647 = true) (h : 0 ≤ j ∧ j < n) (hd : decode b pc = .ok (.iastore, 1)) (hp : pc + 1 = pc') (kk : zOK y b nL ret d mc ms Post cu su pc' lv st (sI t a j z)) : zOK y b nL ret d mc ms Post cu su pc lv (vI z :: vI j :: vR (some a) :: st) t := by
  subst hp
  subst hn
  intro p l e s m args below meth c D cy A hC H locs ls hw hl
  have k := fun H1 locs1 hw1 => kk p l e s m args below meth c D cy A hC H1 locs1 ls hw1 hl
  obtain ⟨hx, hb, hr, hts, hns, hown, -, -, -, hK, -⟩ := hC
  obtain ⟨k0, hk0⟩ := zW_get (cy := cy) ha
  have hk1 := hk0
  rw [zE_in hk (Or.inl rfl)] at hk0
  obtain ⟨g1, g2, g3⟩ := zix (Nat.le_of_ble_eq_true hm) h
  have e1 : (zW cy t).set k0 (a, .inl (cy 6, tN t a, .inl (upd (fun q => Int32.ofInt (tI t a q)) (Int32.ofInt j).toNatClampNeg (Int32.ofInt z)))) = zW cy (sI t a j z) :=
    zW_upd rfl (fun _ => zE_sI_ne) hw.2.1 ha hk1 (by
      rw [zE_in (t := sI t a j z) hk (Or.inl rfl), g2]
      congr 3
      congr 1
      funext q
      by_cases hq : q = j.toNat
      · subst hq; rw [g3]; simp [upd, sI, tI, up2]
      · have : (q : Int) ≠ j := by omega
        simp [upd, sI, tI, up2, hq, this])
  exact va_iast (t0 := 1) hx hb hK hw.1 hw.2.1 hw.2.2 k0 hk0 rfl g1 hd (fun H1 locs1 a1 a2 a3 => k H1 locs1 ⟨by rw [← e1]; exact a1, by rw [← e1]; exact a2, a3⟩)
theorem z_bast (pc' : Nat) {a : Nat} {j z : Int} (n : Nat) (ha : a ∈ tL t) (hk : tK t a = 7) (hn : tN t a = n) (hm : Nat.ble n 2147483647 = true) (h : 0 ≤ j ∧ j < n) (hz : z = 0 ∨ z = 1) (hd : decode b pc = .ok (.bastore, 1)) (hp : pc + 1 = pc') (kk : zOK y b nL ret d mc ms Post cu su pc' lv st (sI t a j z)) : zOK y b nL ret d mc ms Post cu su pc lv (vI z :: vI j :: vR (some a) :: st) t := by
  subst hp
  subst hn
  intro p l e s m args below meth c D cy A hC H locs ls hw hl
  have k := fun H1 locs1 hw1 => kk p l e s m args below meth c D cy A hC H1 locs1 ls hw1 hl
  obtain ⟨hx, hb, hr, hts, hns, hown, -, -, -, hK, -⟩ := hC
  obtain ⟨k0, hk0⟩ := zW_get (cy := cy) ha
  have hk1 := hk0
  rw [zE_in hk (Or.inr rfl)] at hk0
  obtain ⟨g1, g2, g3⟩ := zix (Nat.le_of_ble_eq_true hm) h
  have hz2 : vp_nar .boolean (Int32.ofInt z) = Int32.ofInt z := by rcases hz with rfl | rfl <;> rfl
  have e1 : (zW cy t).set k0 (a, .inl (cy 7, tN t a, .inl (upd (fun q => Int32.ofInt (tI t a q)) (Int32.ofInt j).toNatClampNeg (vp_nar .boolean (Int32.ofInt z))))) = zW cy (sI t a j z) :=
    zW_upd rfl (fun _ => zE_sI_ne) hw.2.1 ha hk1 (by
      rw [zE_in (t := sI t a j z) hk (Or.inr rfl), g2, hz2]
      congr 3
      congr 1
      funext q
      by_cases hq : q = j.toNat
      · subst hq; rw [g3]; simp [upd, sI, tI, up2]
      · have : (q : Int) ≠ j := by omega
        simp [upd, sI, tI, up2, hq, this])
  exact va_zast (t0 := 2) hx hb hK hw.1 hw.2.1 hw.2.2 k0 hk0 rfl g1 hd (fun H1 locs1 a1 a2 a3 => k H1 locs1 ⟨by rw [← e1]; exact a1, by rw [← e1]; exact a2, a3⟩)
theorem z_fast (pc' : Nat) {a : Nat} {j : Int} {z : UInt32} (n : Nat) (ha : a ∈ tL t) (hk : tK t a = 5) (hn : tN t a = n) (hm : Nat.ble n 2147483647 = true) (h : 0 ≤ j ∧ j < n) (hd : decode b pc = .ok (.fastore, 1)) (hp : pc + 1 = pc') (kk : zOK y b nL ret d mc ms Post cu su pc' lv st (sF t a j z)) : zOK y b nL ret d mc ms Post cu su pc lv (vF z :: vI j :: vR (some a) :: st) t := by
  subst hp
  subst hn
  intro p l e s m args below meth c D cy A hC H locs ls hw hl
  have k := fun H1 locs1 hw1 => kk p l e s m args below meth c D cy A hC H1 locs1 ls hw1 hl
  obtain ⟨hx, hb, hr, hts, hns, hown, -, -, -, hK, -⟩ := hC
  obtain ⟨k0, hk0⟩ := zW_get (cy := cy) ha
  have hk1 := hk0
  rw [zE_fl hk] at hk0
  obtain ⟨g1, g2, g3⟩ := zix (Nat.le_of_ble_eq_true hm) h
  have e1 : (zW cy t).set k0 (a, .inl (cy 5, tN t a, .inr (.inr (.inl (vf_upd (fun q => tF t a q) (Int32.ofInt j).toNatClampNeg z))))) = zW cy (sF t a j z) :=
    zW_upd rfl (fun _ => zE_sF_ne) hw.2.1 ha hk1 (by
      rw [zE_fl (t := sF t a j z) hk, g2]
      refine congrArg (fun f => (Sum.inl (cy 5, tN t a, Sum.inr (Sum.inr (Sum.inl f))) : va_E)) (funext fun q => ?_)
      by_cases hq : q = j.toNat
      · subst hq; rw [g3]; simp [vf_upd, sF, tF, up2]
      · have : (q : Int) ≠ j := by omega
        simp [vf_upd, sF, tF, up2, hq, this])
  exact va_fast (t0 := 0) hx hb hK hw.1 hw.2.1 hw.2.2 k0 hk0 rfl g1 hd (fun H1 locs1 a1 a2 a3 => k H1 locs1 ⟨by rw [← e1]; exact a1, by rw [← e1]; exact a2, a3⟩)
theorem z_aast (pc' : Nat) {a v ci : Nat} {j : Int} (n : Nat) (ha : a ∈ tL t) (hk : tK t a = 8 + ci) (hv : v ∈ tL t) (hkv : tK t v = ci) (h3 : ci < 3) (hn : tN t a = n) (hm : n ≤ 2147483647) (h : 0 ≤ j ∧ j < n) (hd : decode b pc = .ok (.aastore, 1)) (hp : pc + 1 = pc') (kk : zOK y b nL ret d mc ms Post cu su pc' lv st (sP t a j (some v))) : zOK y b nL ret d mc ms Post cu su pc lv (vR (some v) :: vI j :: vR (some a) :: st) t := by
  subst hp
  subst hn
  intro p l e s m args below meth c D cy A hC H locs ls hw hl
  have k := fun H1 locs1 hw1 => kk p l e s m args below meth c D cy A hC H1 locs1 ls hw1 hl
  obtain ⟨hx, hb, hr, hts, hns, hown, -, -, -, hK, -⟩ := hC
  obtain ⟨k0, hk0⟩ := zW_get (cy := cy) ha
  obtain ⟨k2, hk2⟩ := zW_get (cy := cy) hv
  have hk1 := hk0
  rw [zE_rf hk (by omega)] at hk0
  rw [zE_obj hkv (by omega)] at hk2
  obtain ⟨g1, g2, g3⟩ := zix hm h
  have e1 : (zW cy t).set k0 (a, .inl (cy (8 + ci), tN t a, .inr (.inr (.inr (.inr (va_up (fun q => tP t a q) (Int32.ofInt j).toNatClampNeg (some v))))))) = zW cy (sP t a j (some v)) :=
    zW_upd rfl (fun _ => zE_sP_ne) hw.2.1 ha hk1 (by
      rw [zE_rf (t := sP t a j (some v)) hk (by omega), g2]
      refine congrArg (fun f => (Sum.inl (cy (8 + ci), tN t a, Sum.inr (Sum.inr (Sum.inr (Sum.inr f)))) : va_E)) (funext fun q => ?_)
      by_cases hq : q = j.toNat
      · subst hq; rw [g3]; simp [va_up, sP, tP, up2]
      · have : (q : Int) ≠ j := by omega
        simp [va_up, sP, tP, up2, hq, this])
  have hci : ci = 0 ∨ ci = 1 ∨ ci = 2 := by omega
  rcases hci with rfl | rfl | rfl
  · exact va_astq (r := (RX0, TX0, 6)) hx hb hK hw.1 hw.2.1 hw.2.2 k0 3 k2 0 hk0 rfl hk2 rfl g1 hd (fun H1 locs1 a1 a2 a3 => k H1 locs1 ⟨by rw [← e1]; exact a1, by rw [← e1]; exact a2, a3⟩)
  · exact va_astq (r := (RX1, TX1, 14)) hx hb hK hw.1 hw.2.1 hw.2.2 k0 4 k2 1 hk0 rfl hk2 rfl g1 hd (fun H1 locs1 a1 a2 a3 => k H1 locs1 ⟨by rw [← e1]; exact a1, by rw [← e1]; exact a2, a3⟩)
  · exact va_astq (r := (RX2, TX2, 4)) hx hb hK hw.1 hw.2.1 hw.2.2 k0 5 k2 2 hk0 rfl hk2 rfl g1 hd (fun H1 locs1 a1 a2 a3 => k H1 locs1 ⟨by rw [← e1]; exact a1, by rw [← e1]; exact a2, a3⟩)
end ZH
end
section

/-! making cells, calls, ends -/
section ZN
variable {y : MethodName} {b : ByteArray} {nL : Nat} {ret : Option FieldType} {d mc ms : Nat} {Post : Option zV → zT → Prop} {cu su pc : Nat} {lv : List (Nat × zV)} {st : List zV} {t : zT}
theorem zfresh {cy : Nat → ClassId} {A : Nat → Prop} {t : zT} {q : Nat} {e : va_E} (hD : va_D A (zW cy t ++ [(q, e)])) : q ∉ tL t := by
  intro h
  obtain ⟨k, hk⟩ := zW_get (cy := cy) h
  have hl := (List.getElem?_eq_some_iff.mp hk).1
  have h1 : (zW cy t ++ [(q, e)])[k]? = some (q, zE cy t q) := by rw [List.getElem?_append_left hl]; exact hk
  have h2 : (zW cy t ++ [(q, e)])[(zW cy t).length]? = some (q, e) := by simp
  have := hD.1 k (zW cy t).length _ _ h1 h2 rfl
  omega
theorem zW_new {cy : Nat → ClassId} {t : zT} {q kd n : Nat} {e : va_E} (hq : q ∉ tL t) (he : e = zE cy (sA t q kd n) q) : zW cy t ++ [(q, e)] = zW cy (sA t q kd n) := by
  refine (va_pl_push (e := e) hq).trans ?_
  show va_pl (tL t ++ [q]) _ = va_pl (tL t ++ [q]) _
  refine va_pl_congr (fun b => ?_)
  by_cases hb : b = q
  · subst hb; rw [va_up_self]; exact he
  · rw [va_up_ne _ _ hb]; exact (zE_sA_ne hb).symm
/-- what the tables say of making an object -/
def zNW (own : String) (idx ci n : Nat) : Prop := ∃ (C : String) (F : u_T) (ty : Nat → FieldType), vwCl[ci]? = some (C, F, n) ∧ ci < 5 ∧ n = zNf ci ∧ (∀ w ∈ u_ws C F n, w ∈ lw_all) ∧ (∀ k, k < n → parseFieldDescriptor (F k).2.2.1 = some (ty k)) ∧ (∀ k, k < n → defaultValue (ty k) = if zTg ci k = 0 then .int 0 else if zTg ci k = 1 then .float 0 else .null) ∧ Cond.classLink own idx C ∈ lw_all ∧ Cond.instantiable C n ∈ lw_all ∧ Cond.initialized C ∈ lw_all
theorem z_new (pc' : Nat) {idx ci n : Nat} (hL : zNW y.cls idx ci n) (hc : cu + 1 ≤ mc) (hs : su + n ≤ ms) (hd : decode b pc = .ok (.new idx, 3)) (hp : pc + 3 = pc') (kk : ∀ q, q ∉ tL t → zOK y b nL ret d mc ms Post (cu + 1) (su + n) pc' lv (vR (some q) :: st) (sA t q ci 0)) : zOK y b nL ret d mc ms Post cu su pc lv st t := by
  subst hp
  intro p l e s m args below meth c D cy A hC H locs ls hw hl
  have k := fun q hq H1 locs1 hw1 => kk q hq p l e s m args below meth c D cy A hC H1 locs1 ls hw1 hl
  obtain ⟨hx, hb, hr, hts, hns, hown, -, -, -, hK, hA, -⟩ := hC
  obtain ⟨C, F, ty, hcl, h5, rfl, hin, hty, hdf, g1, g2, g3⟩ := hL
  have hfs : ∀ j, j < zNf ci → defaultValue (ty j) = vp_V ((List.range (zNf ci)).map (fun k => if zTg ci k = 0 then Value.int 0 else if zTg ci k = 1 then Value.float 0 else Value.null)) j := by
    intro j hj
    rw [hdf j hj]
    simp [vp_V, hj]
  refine va_new hx hb hts hin ty hty hown (hts _ g1) (hts _ g2) (hts _ g3) hK hw.1 hw.2.1 hw.2.2 hA hcl hfs hc hs hd (fun q H1 a1 a2 a3 => ?_)
  have hq := zfresh a2
  have he : (Sum.inr (ci, (List.range (zNf ci)).map (fun k => if zTg ci k = 0 then Value.int 0 else if zTg ci k = 1 then Value.float 0 else Value.null)) : va_E) = zE cy (sA t q ci 0) q := by
    rw [zE_obj (t := sA t q ci 0) (show up1 (tK t) q ci q = ci from if_pos rfl) h5]
    refine congrArg (fun f => (Sum.inr (ci, f) : va_E)) (List.map_congr_left fun k _ => ?_)
    simp [zFv, sA, tI, tF, tP, up1, va_rf]
  have e1 := zW_new (kd := ci) (n := 0) hq he
  exact k q hq H1 locs ⟨by rw [← e1]; exact a1, by rw [← e1]; exact a2, a3⟩
/-- arrays of numbers: 4 boolean, 6 float, 10 int -/
theorem z_newaI (pc' : Nat) {j : Int} (N : Nat) (hj : j = N) (hN : Nat.ble N 1000000 = true) (hw0 : Cond.arrayClass .int ∈ lw_all) (hc : cu + 1 ≤ mc) (hs : su + N ≤ ms) (hd : decode b pc = .ok (.newarray .int, 2)) (hp : pc + 2 = pc') (kk : ∀ q, q ∉ tL t → zOK y b nL ret d mc ms Post (cu + 1) (su + N) pc' lv (vR (some q) :: st) (sA t q 6 N)) : zOK y b nL ret d mc ms Post cu su pc lv (vI j :: st) t := by
  subst hp
  subst hj
  have hN2 := Nat.le_of_ble_eq_true hN
  intro p l e s m args below meth c D cy A hC H locs ls hw hl
  have k := fun q hq H1 locs1 hw1 => kk q hq p l e s m args below meth c D cy A hC H1 locs1 ls hw1 hl
  obtain ⟨hx, hb, hr, hts, hns, hown, -, -, -, hK, hA, -⟩ := hC
  have hz : zi (N : Int) := ⟨by omega, by omega⟩
  refine va_newa (atype := .int) (ty := .int) (a0 := (N, .inl (fun _ => 0))) hx hb (hts (Cond.arrayClass _) hw0) rfl hK hw.1 hw.2.1 hw.2.2 hA (fun _ => rfl) (fun q => by rw [zi_ofInt0] at q; have := (zi_lt hz zi_0).mp q; omega) (show (Int32.ofInt (N : Int)).toInt.toNat = N by rw [zi_toInt hz]; omega) (by show N * 4 ≤ _; omega) hc hs hd (fun q cA H1 a0 a1 a2 a3 => ?_)
  have hq := zfresh a2
  have hcA : cA = cy 6 := by
    have r1 := (a0.2 6 (cA, .int) rfl).2
    have r2 := (hK.2 1 (cy 6, .int) rfl).2
    exact Option.some.inj (r1.symm.trans r2)
  subst hcA
  have e1 := zW_new (kd := 6) (n := N) (t := t) (cy := cy) hq (e := .inl (cy 6, N, .inl (fun _ => 0))) (by
    rw [zE_in (t := sA t q 6 N) (show up1 (tK t) q 6 q = 6 from if_pos rfl) (Or.inl rfl)]
    simp [sA, tI, tN, up1])
  exact k q hq H1 locs ⟨by rw [← e1]; exact a1, by rw [← e1]; exact a2, a3⟩
theorem z_newaZ (pc' : Nat) {j : Int} (N : Nat) (hj : j = N) (hN : Nat.ble N 1000000 = true) (hw0 : Cond.arrayClass .boolean ∈ lw_all) (hc : cu + 1 ≤ mc) (hs : su + N ≤ ms) (hd : decode b pc = .ok (.newarray .boolean, 2)) (hp : pc + 2 = pc') (kk : ∀ q, q ∉ tL t → zOK y b nL ret d mc ms Post (cu + 1) (su + N) pc' lv (vR (some q) :: st) (sA t q 7 N)) : zOK y b nL ret d mc ms Post cu su pc lv (vI j :: st) t := by
  subst hp
  subst hj
  have hN2 := Nat.le_of_ble_eq_true hN
  intro p l e s m args below meth c D cy A hC H locs ls hw hl
  have k := fun q hq H1 locs1 hw1 => kk q hq p l e s m args below meth c D cy A hC H1 locs1 ls hw1 hl
  obtain ⟨hx, hb, hr, hts, hns, hown, -, -, -, hK, hA, -⟩ := hC
  have hz : zi (N : Int) := ⟨by omega, by omega⟩
  refine va_newa (atype := .boolean) (ty := .boolean) (a0 := (N, .inl (fun _ => 0))) hx hb (hts (Cond.arrayClass _) hw0) rfl hK hw.1 hw.2.1 hw.2.2 hA (fun _ => rfl) (fun q => by rw [zi_ofInt0] at q; have := (zi_lt hz zi_0).mp q; omega) (show (Int32.ofInt (N : Int)).toInt.toNat = N by rw [zi_toInt hz]; omega) (by show N * 1 ≤ _; omega) hc hs hd (fun q cA H1 a0 a1 a2 a3 => ?_)
  have hq := zfresh a2
  have hcA : cA = cy 7 := by
    have r1 := (a0.2 6 (cA, .boolean) rfl).2
    have r2 := (hK.2 2 (cy 7, .boolean) rfl).2
    exact Option.some.inj (r1.symm.trans r2)
  subst hcA
  have e1 := zW_new (kd := 7) (n := N) (t := t) (cy := cy) hq (e := .inl (cy 7, N, .inl (fun _ => 0))) (by
    rw [zE_in (t := sA t q 7 N) (show up1 (tK t) q 7 q = 7 from if_pos rfl) (Or.inr rfl)]
    simp [sA, tI, tN, up1])
  exact k q hq H1 locs ⟨by rw [← e1]; exact a1, by rw [← e1]; exact a2, a3⟩
theorem z_newaF (pc' : Nat) {j : Int} (N : Nat) (hj : j = N) (hN : Nat.ble N 1000000 = true) (hw0 : Cond.arrayClass .float ∈ lw_all) (hc : cu + 1 ≤ mc) (hs : su + N ≤ ms) (hd : decode b pc = .ok (.newarray .float, 2)) (hp : pc + 2 = pc') (kk : ∀ q, q ∉ tL t → zOK y b nL ret d mc ms Post (cu + 1) (su + N) pc' lv (vR (some q) :: st) (sA t q 5 N)) : zOK y b nL ret d mc ms Post cu su pc lv (vI j :: st) t := by
  subst hp
  subst hj
  have hN2 := Nat.le_of_ble_eq_true hN
  intro p l e s m args below meth c D cy A hC H locs ls hw hl
  have k := fun q hq H1 locs1 hw1 => kk q hq p l e s m args below meth c D cy A hC H1 locs1 ls hw1 hl
  obtain ⟨hx, hb, hr, hts, hns, hown, -, -, -, hK, hA, -⟩ := hC
  have hz : zi (N : Int) := ⟨by omega, by omega⟩
  refine va_newa (atype := .float) (ty := .float) (a0 := (N, .inr (.inr (.inl (fun _ => 0))))) hx hb (hts (Cond.arrayClass _) hw0) rfl hK hw.1 hw.2.1 hw.2.2 hA (fun _ => rfl) (fun q => by rw [zi_ofInt0] at q; have := (zi_lt hz zi_0).mp q; omega) (show (Int32.ofInt (N : Int)).toInt.toNat = N by rw [zi_toInt hz]; omega) (by show N * 4 ≤ _; omega) hc hs hd (fun q cA H1 a0 a1 a2 a3 => ?_)
  have hq := zfresh a2
  have hcA : cA = cy 5 := by
    have r1 := (a0.2 6 (cA, .float) rfl).2
    have r2 := (hK.2 0 (cy 5, .float) rfl).2
    exact Option.some.inj (r1.symm.trans r2)
  subst hcA
  have e1 := zW_new (kd := 5) (n := N) (t := t) (cy := cy) hq (e := .inl (cy 5, N, .inr (.inr (.inl (fun _ => 0))))) (by
    rw [zE_fl (t := sA t q 5 N) (show up1 (tK t) q 5 q = 5 from if_pos rfl)]
    simp [sA, tF, tN, up1])
  exact k q hq H1 locs ⟨by rw [← e1]; exact a1, by rw [← e1]; exact a2, a3⟩
theorem z_anew (pc' : Nat) {j : Int} {idx ci : Nat} {r : vw_C} (N : Nat) (hj : j = N) (hN : N ≤ 1000000) (h3 : ci < 3) (hr0 : vwCl[ci]? = some r) (hw0 : Cond.classLink y.cls idx r.1 ∈ lw_all) (hc : cu + 1 ≤ mc) (hs : su + N ≤ ms) (hd : decode b pc = .ok (.anewarray idx, 3)) (hp : pc + 3 = pc') (kk : ∀ q, q ∉ tL t → zOK y b nL ret d mc ms Post (cu + 1) (su + N) pc' lv (vR (some q) :: st) (sA t q (8 + ci) N)) : zOK y b nL ret d mc ms Post cu su pc lv (vI j :: st) t := by
  subst hp
  subst hj
  intro p l e s m args below meth c D cy A hC H locs ls hw hl
  have k := fun q hq H1 locs1 hw1 => kk q hq p l e s m args below meth c D cy A hC H1 locs1 ls hw1 hl
  obtain ⟨hx, hb, hr, hts, hns, hown, -, -, -, hK, hA, -, hO⟩ := hC
  have hz : zi (N : Int) := ⟨by omega, by omega⟩
  have hci : ci = 0 ∨ ci = 1 ∨ ci = 2 := by omega
  have hover : va_AO r.1 s := by
    rcases hci with rfl | rfl | rfl <;> cases hr0
    · exact hO.1
    · exact hO.2.1
    · exact hO.2.2
  refine va_newq hx hb hown (hts _ hw0) hover hK hw.1 hw.2.1 hw.2.2 hA (fun q => by rw [zi_ofInt0] at q; have := (zi_lt hz zi_0).mp q; omega) (show (Int32.ofInt (N : Int)).toInt.toNat = N by rw [zi_toInt hz]; omega) (by omega) hc hs hd (fun q cA H1 a0 a1 a2 a3 => ?_)
  have hq := zfresh a2
  have hcA : cA = cy (8 + ci) := by
    obtain ⟨_, _, _, _, _, r1⟩ := (a0.2 6 (cA, .object r.1) rfl).2
    rcases hci with rfl | rfl | rfl <;> cases hr0
    · obtain ⟨_, _, _, _, _, r2⟩ := (hK.2 3 (cy 8, .object RX0) rfl).2
      exact Option.some.inj (r1.symm.trans r2)
    · obtain ⟨_, _, _, _, _, r2⟩ := (hK.2 4 (cy 9, .object RX1) rfl).2
      exact Option.some.inj (r1.symm.trans r2)
    · obtain ⟨_, _, _, _, _, r2⟩ := (hK.2 5 (cy 10, .object RX2) rfl).2
      exact Option.some.inj (r1.symm.trans r2)
  subst hcA
  have e1 := zW_new (kd := 8 + ci) (n := N) (t := t) (cy := cy) hq (e := .inl (cy (8 + ci), N, .inr (.inr (.inr (.inr (fun _ => none)))))) (by
    rw [zE_rf (t := sA t q (8 + ci) N) (show up1 (tK t) q (8 + ci) q = 8 + ci from if_pos rfl) (by omega)]
    simp [sA, tP, tN, up1])
  exact k q hq H1 locs ⟨by rw [← e1]; exact a1, by rw [← e1]; exact a2, a3⟩
/-! ends -/
theorem zend {r : Option zV} (hp : Post r t) (hc : cu ≤ mc) (hs : su ≤ ms)
    (h : ∀ (p : Program) (l : Launch) (e : Env) (R : Room) (s : State) (m : MethodId) (args : Array Value) (below : List Frame) (meth : Method) (c : Code) (H : Heap) (locs : List Loc) (ls : Array Slot) (Qc : Array Value → State → Outcome → State → Prop) (free : Addr → Prop), p.tables.exec = Jvm.exec → c.code = b → meth.sig.returnType = ret → meth.locks = false → (∀ u : State, u.heap = H → s.WarmedH u.vm → Qc args s (.returned (r.map rv)) u) → (∀ q ∈ locs, free q.base) → W p l e R s m args below meth c H locs mc ms (MQ below Qc args s mc ms free) (F0 m pc ls (st.map rv))) : zOK y b nL ret d mc ms Post cu su pc lv st t := by
  intro p l e s m args below meth c D cy A hC H locs ls hw hl
  obtain ⟨hx, hb, hr, hts, hns, hown, -, hlk, -, hK, hA, -⟩ := hC
  refine W.widen hc hs ?_
  exact h p l e (zR d mc ms) s m args below meth c H locs ls _ _ hx hb hr hlk (fun u hu hW => ⟨⟨r, t, rfl, hp, by rw [hu]; exact hw.1, hw.2.1, va_K.moved hW.alike hK⟩, hw.2.2.F hu⟩) hw.2.2.2.2
theorem z_ireturn {z : Int} (hr : ret = some .int) (hd : decode b pc = .ok (.ireturn, 1)) (hc : cu ≤ mc) (hs : su ≤ ms) (hp : Post (some (vI z)) t) : zOK y b nL ret d mc ms Post cu su pc lv [vI z] t :=
  zend hp hc hs (fun p l e R s m args below meth c H locs ls Qc free hx hb hr2 hlk hq hf => W.iret hx hb (hr2.trans hr) hq hf hd hlk)
theorem z_zreturn {z : Int} (hr : ret = some .boolean) (hz : z = 0 ∨ z = 1) (hd : decode b pc = .ok (.ireturn, 1)) (hc : cu ≤ mc) (hs : su ≤ ms) (hp : Post (some (vI z)) t) : zOK y b nL ret d mc ms Post cu su pc lv [vI z] t :=
  zend hp hc hs (fun p l e R s m args below meth c H locs ls Qc free hx hb hr2 hlk hq hf => W.zret (ty := .boolean) hx hb (hr2.trans hr) (by rcases hz with rfl | rfl <;> rfl) hq hf hd hlk)
theorem z_lreturn {z : Int} (hr : ret = some .long) (hd : decode b pc = .ok (.lreturn, 1)) (hc : cu ≤ mc) (hs : su ≤ ms) (hp : Post (some (vL z)) t) : zOK y b nL ret d mc ms Post cu su pc lv [vL z] t :=
  zend hp hc hs (fun p l e R s m args below meth c H locs ls Qc free hx hb hr2 hlk hq hf => W.lret hx hb (hr2.trans hr) hq hf hd hlk)
theorem z_freturn {z : UInt32} (hr : ret = some .float) (hd : decode b pc = .ok (.freturn, 1)) (hc : cu ≤ mc) (hs : su ≤ ms) (hp : Post (some (vF z)) t) : zOK y b nL ret d mc ms Post cu su pc lv [vF z] t :=
  zend hp hc hs (fun p l e R s m args below meth c H locs ls Qc free hx hb hr2 hlk hq hf => W.fret hx hb (hr2.trans hr) hq hf hd hlk)
theorem z_dreturn {z : UInt64} (hr : ret = some .double) (hd : decode b pc = .ok (.dreturn, 1)) (hc : cu ≤ mc) (hs : su ≤ ms) (hp : Post (some (vD z)) t) : zOK y b nL ret d mc ms Post cu su pc lv [vD z] t :=
  zend hp hc hs (fun p l e R s m args below meth c H locs ls Qc free hx hb hr2 hlk hq hf => W.dret hx hb (hr2.trans hr) hq hf hd hlk)
theorem z_return (hr : ret = none) (hd : decode b pc = .ok (.return_, 1)) (hc : cu ≤ mc) (hs : su ≤ ms) (hp : Post none t) : zOK y b nL ret d mc ms Post cu su pc lv [] t :=
  zend hp hc hs (fun p l e R s m args below meth c H locs ls Qc free hx hb hr2 hlk hq hf => W.vret hx hb (hr2.trans hr) hq hf hd hlk)
theorem z_areturn {z : Option Nat} {rt : FieldType} (hr : ret = some rt) (hrt : (∃ n, rt = .object n) ∨ ∃ t, rt = .array t) (hd : decode b pc = .ok (.areturn, 1)) (hc : cu ≤ mc) (hs : su ≤ ms) (hp : Post (some (vR z)) t) : zOK y b nL ret d mc ms Post cu su pc lv [vR z] t :=
  zend hp hc hs (fun p l e R s m args below meth c H locs ls Qc free hx hb hr2 hlk hq hf => W.aret hx hb (hr2.trans hr) hrt (va_rf_or z) hq hf hd hlk)
/-! calls -/
theorem zafter {p : Program} {l : Launch} {e : Env} {R : Room} {s : State} {m : MethodId} {args : Array Value} {below : List Frame} {meth : Method} {c : Code} {H H0 : Heap} {locs : List Loc} {cells slots mc' ms' : Nat} {Q : State → Prop} {D : va_G} {cy : Nat → ClassId} {A0 A1 free : Nat → Prop} {ls : Array Slot} {st0 rest : List Value} {a : Array Value} {P1 : Option zV → zT → Prop}
    (hr : va_Run p l e R s m args below meth c H locs cells slots mc' ms' (F0 m pc ls st0) rest (zQ D cy A1 P1 a) free) (hS : va_S A0 H0 H locs) (hA : ∀ q, A1 q → A0 q) (hf : ∀ q, free q → A0 q)
    (kk : ∀ (r : Option zV) (t1 : zT) (H1 : Heap) (locs1 : List Loc), P1 r t1 → va_P D vwCl (zW cy t1) H1 → va_D A0 (zW cy t1) → va_S A0 H0 H1 locs1 → W p l e R s m args below meth c H1 locs1 (cells + mc') (slots + ms') Q (F0 m (pc + 3) ls ((r.toList ++ []).map rv ++ rest))) : W p l e R s m args below meth c H locs cells slots Q (F0 m pc ls st0) := by
  intro T hT X
  obtain ⟨v, st₀, u, T', L, h0, X', hL, e1, e2, ⟨⟨r, t1, hv, hp, hP1, hD1, -⟩, hz, hk⟩, stp⟩ := hr T hT X
  have hv2 : v = r.map rv := Outcome.returned.inj hv
  subst hv2
  rw [h0] at hz hk
  obtain ⟨t2, a1, b1⟩ := kk r t1 T'.heap (locs ++ L) hp (by rw [e1]; exact hP1) (hD1.weaken (fun _ q _ h => hA q.1 h))
    ⟨Nat.le_trans hS.1 (by rw [e1]; exact hz), fun q h1 h2 => by rw [e1, hk q (Nat.lt_of_lt_of_le h1 hS.1) (fun z => h2 (hA q z))]; exact hS.2.1 q h1 h2, fun q hq => by
      rcases List.mem_append.mp hq with h | h
      · exact hS.2.2 q h
      · exact hf _ (hL q h)⟩ T' rfl X'
  refine ⟨t2, stp t2 ?_, b1⟩
  have e3 : (r.map rv).toList ++ rest = (r.toList ++ []).map rv ++ rest := by cases r <;> rfl
  rw [e3]
  exact a1
def zcs (st : List zV) : Nat := (st.map vcat).sum
theorem zcs_eq (st : List zV) : ((st.map rv).map fun v => v.category).sum = zcs st := by
  unfold zcs
  rw [List.map_map]
  congr 1
  apply List.map_congr_left
  intro v _
  exact rv_cat v
/-- the tables on a call -/
def zCal (y' : MethodName) (b' : ByteArray) (nL' : Nat) (ret' : Option FieldType) (n : Nat) : Prop := Cond.code y' b' nL' ret' ∈ lw_all ∧ Cond.initialized y'.cls ∈ lw_all ∧ y'.cls ≠ "java/lang/invoke/MethodHandle" ∧ y'.cls ≠ "java/lang/invoke/VarHandle" ∧ (parseMethodDescriptor y'.desc).map (fun d => d.parameters.length) = some n ∧ nL' ≤ 21
theorem zws_good {y' : MethodName} {b' : ByteArray} {nL' : Nat} {ret' : Option FieldType} (h : Cond.code y' b' nL' ret' ∈ lw_all) : GoodIn lw_all (zws y' b' nL' ret') := by
  intro w hw
  rcases List.mem_cons.mp hw with rfl | hw
  · exact ⟨h, good_of_word (lw_all_good h)⟩
  · exact ⟨hw, good_of_word (lw_all_good hw)⟩
theorem zpre {p : Program} {s : State} {m : MethodId} {args : Array Value} {meth : Method} {c : Code} {D : va_G} {cy : Nat → ClassId} {A : Nat → Prop} {H : Heap} {locs : List Loc} {as : List zV} (hC : zCV y b nL ret p s m args meth c D cy A) (hw : zWD D cy A s.heap t H locs) :
    (∀ q, va_A (zW cy t) H.size q → A q) ∧ ∀ U : State, U.heap = H → s.WarmedH U.vm → va_Pc (as.map rv) (zB cy D t H.size) (as.map rv).toArray U := by
  obtain ⟨hx, hb, hr, hts, hns, hown, -, -, -, hK, hA, hAb, hO⟩ := hC
  have hF : ∀ q, va_A (zW cy t) H.size q → A q := by
    intro q h
    rcases h with ⟨k, e, h⟩ | h
    · exact hw.2.1.2 k (q, e) h
    · exact hA q (Nat.le_trans hw.2.2.1 h)
  refine ⟨hF, fun U hU hW => ⟨rfl, by rw [hU], by rw [hU]; exact hw.1, hw.2.1.weaken (fun _ _ _ _ => trivial), va_K.moved hW.alike hK, zNst_warm hW hns, ?_, hO.moved hW.alike⟩⟩
  obtain ⟨ta, h1, h2⟩ := hAb
  rw [hU]
  refine ⟨ta, ((h1.kept (H1 := H) (fun a g1 g2 => hw.2.2.2.1 a g1 g2)).narrow hF).moved hW.alike, ((h2.kept (H1 := H) (fun a g1 g2 => hw.2.2.2.1 a g1 g2)).narrow hF).moved hW.alike⟩
theorem z_callS (pc' : Nat) {idx n d' mc' ms' : Nat} {y' : MethodName} {b' : ByteArray} {nL' : Nat} {ret' : Option FieldType} {P1 : Option zV → zT → Prop} {st0 : List zV} (as : List zV) (hT : zCal y' b' nL' ret' n) (h1 : Cond.methodLink y.cls idx y' ∈ lw_all) (h2 : Cond.static y' ∈ lw_all) (hM : zM y' b' nL' ret' d' mc' ms' as t P1) (hst : st0 = as.reverse ++ st) (hn : as.length = n) (hdd : d' < d) (hcs : zcs st ≤ 8) (hmc : cu + mc' ≤ mc) (hms : su + ms' ≤ ms) (hd : decode b pc = .ok (.invokestatic idx, 3)) (hp : pc + 3 = pc')
    (kk : ∀ r t1, P1 r t1 → zOK y b nL ret d mc ms Post (cu + mc') (su + ms') pc' lv (r.toList ++ st) t1) : zOK y b nL ret d mc ms Post cu su pc lv st0 t := by
  subst hp
  subst hst
  intro p l e s m args below meth c D cy A hC H locs ls hw hl
  obtain ⟨hF, hpre⟩ := zpre (as := as) hC hw
  have k := fun r t1 hP1 H1 locs1 hw1 => kk r t1 hP1 p l e s m args below meth c D cy A hC H1 locs1 ls hw1 hl
  obtain ⟨hx, hb, hr, hts, hns, hown, hml, -, -, hK, hA, hAb, hO⟩ := hC
  obtain ⟨c1, c2, c3, c4, c5, c6⟩ := hT
  have hG : GoodIn lw_all (va_wsS y.cls idx y' (zws y' b' nL' ret')) := goodIn_app (fun w hw => by
    rcases List.mem_cons.mp hw with rfl | hw
    · exact ⟨h1, good_of_word (lw_all_good h1)⟩
    rcases List.mem_cons.mp hw with rfl | hw
    · exact ⟨h2, good_of_word (lw_all_good h2)⟩
    rcases List.mem_cons.mp hw with rfl | hw
    · exact ⟨c2, good_of_word (lw_all_good c2)⟩
    · cases hw) (zws_good c1)
  refine zafter (rest := st.map rv) (va_runS (As := as.map rv) ⟨hx, hb, hml, hown, hts⟩ (hM l D cy H.size) (va_cwS n hts hG rfl rfl rfl ⟨c3, c4, c5⟩ ⟨hdd, by show 8 + (nL' + 11) + 40 * d' ≤ 40 * d; omega⟩) ⟨zB_blind, hpre⟩ rfl (by simpa using hn) hl.1 (by simp) (lv_room (by rw [zcs_eq]; exact hcs)) hd ⟨hmc, hms⟩) hw.2.2 hF hF (fun r t1 H1 locs1 hP1 a1 a2 a3 => ?_)
  have := k r t1 hP1 H1 locs1 ⟨a1, a2, a3⟩
  rw [List.map_append] at this
  simpa using this
theorem z_callV (pc' : Nat) {idx n d' mc' ms' a ci : Nat} {r0 : vw_C} {y' : MethodName} {b' : ByteArray} {nL' : Nat} {ret' : Option FieldType} {P1 : Option zV → zT → Prop} {st0 : List zV} (as : List zV) (hT : zCal y' b' nL' ret' n) (h1 : Cond.methodLink y.cls idx y' ∈ lw_all) (h2 : Cond.instanceMethod y' ∈ lw_all) (h3 : Cond.selects y'.cls y' y' ∈ lw_all) (ha : a ∈ tL t) (hk : tK t a = ci) (h5 : ci < 5) (hr0 : vwCl[ci]? = some r0) (hr1 : r0.1 = y'.cls) (hM : zM y' b' nL' ret' d' mc' ms' (vR (some a) :: as) t P1) (hst : st0 = as.reverse ++ vR (some a) :: st) (hn : as.length = n) (hdd : d' < d) (hcs : zcs st ≤ 8) (hmc : cu + mc' ≤ mc) (hms : su + ms' ≤ ms) (hd : decode b pc = .ok (.invokevirtual idx, 3)) (hp : pc + 3 = pc')
    (kk : ∀ r t1, P1 r t1 → zOK y b nL ret d mc ms Post (cu + mc') (su + ms') pc' lv (r.toList ++ st) t1) : zOK y b nL ret d mc ms Post cu su pc lv st0 t := by
  subst hp
  subst hst
  intro p l e s m args below meth c D cy A hC H locs ls hw hl
  obtain ⟨hF, hpre⟩ := zpre (as := vR (some a) :: as) hC hw
  have k := fun r t1 hP1 H1 locs1 hw1 => kk r t1 hP1 p l e s m args below meth c D cy A hC H1 locs1 ls hw1 hl
  obtain ⟨hx, hb, hr, hts, hns, hown, hml, -, -, hK, hA, hAb, hO⟩ := hC
  obtain ⟨c1, c2, c3, c4, c5, c6⟩ := hT
  have hG : GoodIn lw_all (wsV y.cls idx y'.cls y' (zws y' b' nL' ret')) := goodIn_app (fun w hw => by
    rcases List.mem_cons.mp hw with rfl | hw
    · exact ⟨h1, good_of_word (lw_all_good h1)⟩
    rcases List.mem_cons.mp hw with rfl | hw
    · exact ⟨h2, good_of_word (lw_all_good h2)⟩
    rcases List.mem_cons.mp hw with rfl | hw
    · exact ⟨h3, good_of_word (lw_all_good h3)⟩
    rcases List.mem_cons.mp hw with rfl | hw
    · exact ⟨c2, good_of_word (lw_all_good c2)⟩
    · cases hw) (zws_good c1)
  obtain ⟨k0, hk0⟩ := zW_get (cy := cy) ha
  rw [zE_obj hk h5] at hk0
  have hrec := va_recv hK hw.1 hr0 hk0
  rw [hr1] at hrec
  refine zafter (rest := st.map rv) (va_runV (As := as.map rv) ⟨hx, hb, hml, hown, hts⟩ (hM l D cy H.size) (cwV n hts hG rfl rfl rfl ⟨rfl, c3, c4, c5⟩ ⟨hdd, by show 8 + (nL' + 11) + 40 * d' ≤ 40 * d; omega⟩) ⟨zB_blind, hrec, hpre⟩ rfl (by simpa using hn) hl.1 (by simp; rfl) (lv_room (by rw [zcs_eq]; exact hcs)) hd ⟨hmc, hms⟩) hw.2.2 hF hF (fun r t1 H1 locs1 hP1 a1 a2 a3 => ?_)
  have := k r t1 hP1 H1 locs1 ⟨a1, a2, a3⟩
  rw [List.map_append] at this
  simpa using this
/-- a constructor of a nest mate -/
theorem z_callI (pc' : Nat) {idx n d' mc' ms' a : Nat} {y' : MethodName} {b' : ByteArray} {nL' : Nat} {host : String} {P1 : Option zV → zT → Prop} {st0 : List zV} (as : List zV) (hT : zCal y' b' nL' none n) (h1 : Cond.methodLinkNest y.cls idx y' host ∈ lw_nst) (h2 : Cond.instanceMethod y' ∈ lw_all) (hnm : y'.name = "<init>") (hM : zM y' b' nL' none d' mc' ms' (vR (some a) :: as) t P1) (hst : st0 = as.reverse ++ vR (some a) :: st) (hn : as.length = n) (hdd : d' < d) (hcs : zcs st ≤ 8) (hmc : cu + mc' ≤ mc) (hms : su + ms' ≤ ms) (hd : decode b pc = .ok (.invokespecial idx, 3)) (hp : pc + 3 = pc')
    (kk : ∀ r t1, P1 r t1 → zOK y b nL ret d mc ms Post (cu + mc') (su + ms') pc' lv (r.toList ++ st) t1) : zOK y b nL ret d mc ms Post cu su pc lv st0 t := by
  subst hp
  subst hst
  intro p l e s m args below meth c D cy A hC H locs ls hw hl
  obtain ⟨hF, hpre⟩ := zpre (as := vR (some a) :: as) hC hw
  have k := fun r t1 hP1 H1 locs1 hw1 => kk r t1 hP1 p l e s m args below meth c D cy A hC H1 locs1 ls hw1 hl
  obtain ⟨hx, hb, hr, hts, hns, hown, hml, -, -, hK, hA, hAb, hO⟩ := hC
  obtain ⟨c1, c2, c3, c4, c5, c6⟩ := hT
  refine zafter (rest := st.map rv) (va_runIN (As := as.map rv) ⟨hx, hb, hml, hown, hts⟩ (hM l D cy H.size) ⟨va_cnB n hts (zws_good c1) rfl rfl rfl (hns _ h1) (hts _ c2) ⟨c3, c4, c5⟩ ⟨hdd, by show 8 + (nL' + 11) + 40 * d' ≤ 40 * d; omega⟩, hnm, hts _ h2⟩ ⟨zB_blind, hpre⟩ rfl (by simpa using hn) hl.1 (by simp; rfl) (lv_room (by rw [zcs_eq]; exact hcs)) hd ⟨hmc, hms⟩) hw.2.2 hF hF (fun r t1 H1 locs1 hP1 a1 a2 a3 => ?_)
  have := k r t1 hP1 H1 locs1 ⟨a1, a2, a3⟩
  rw [List.map_append] at this
  simpa using this
theorem z_objInit (pc' : Nat) {idx : Nat} {a : Nat} (h1 : Cond.methodLink y.cls idx objectInit ∈ lw_all) (h2 : Cond.instanceMethod objectInit ∈ lw_all) (h3 : Cond.code objectInit ⟨#[0xb1]⟩ 1 none ∈ lw_all) (hdd : 0 < d) (hcs : zcs st ≤ 8) (hd : decode b pc = .ok (.invokespecial idx, 3)) (hp : pc + 3 = pc') (kk : zOK y b nL ret d mc ms Post cu su pc' lv st t) : zOK y b nL ret d mc ms Post cu su pc lv (vR (some a) :: st) t := by
  subst hp
  intro p l e s m args below meth c D cy A hC H locs ls hw hl
  have k := kk p l e s m args below meth c D cy A hC H locs ls hw hl
  obtain ⟨hx, hb, hr, hts, hns, hown, hml, -⟩ := hC
  exact W.objInit hx hb hown (hts _ h1) (hts _ h2) (hts _ h3) rfl (by rw [hml]; exact hl.1) rfl hd hdd (by
    show 2 * 0 + _ + 12 ≤ 40 * d
    rw [zcs_eq]; omega) k
theorem zmm {x z : Int} (h1 : zi x) (h2 : zi z) : (if Int32.ofInt z < Int32.ofInt x then Int32.ofInt z else Int32.ofInt x) = Int32.ofInt (min x z) := by
  by_cases h : z < x
  · rw [if_pos ((zi_lt h2 h1).mpr h), Int.min_def, if_neg (by omega)]
  · rw [if_neg (fun q => h ((zi_lt h2 h1).mp q)), Int.min_def, if_pos (by omega)]
theorem zmx {x z : Int} (h1 : zi x) (h2 : zi z) : (if Int32.ofInt x < Int32.ofInt z then Int32.ofInt z else Int32.ofInt x) = Int32.ofInt (max x z) := by
  by_cases h : x < z
  · rw [if_pos ((zi_lt h1 h2).mpr h), Int.max_def, if_pos (by omega)]
  · rw [if_neg (fun q => h ((zi_lt h1 h2).mp q)), Int.max_def]
    split
    · rw [show x = z by omega]
    · rfl
theorem z_min (pc' : Nat) {idx : Nat} {x z : Int} (h1 : zi x) (h2 : zi z) (hL : Cond.methodLink y.cls idx Lib.Math.min.name ∈ lw_all) (g1 : Cond.static Lib.Math.min.name ∈ lw_all) (g2 : Cond.initialized "java/lang/Math" ∈ lw_all) (g3 : Cond.code Lib.Math.min.name Lib.Math.min.code 2 (some .int) ∈ lw_all) (hdd : 0 < d) (hcs : zcs st ≤ 8) (hc : cu ≤ mc) (hs : su ≤ ms) (hd : decode b pc = .ok (.invokestatic idx, 3)) (hp : pc + 3 = pc') (kk : zOK y b nL ret d mc ms Post cu su pc' lv (vI (min x z) :: st) t) : zOK y b nL ret d mc ms Post cu su pc lv (vI z :: vI x :: st) t := by
  subst hp
  intro p l e s m args below meth c D cy A hC H locs ls hw hl
  have k := kk p l e s m args below meth c D cy A hC H locs ls hw hl
  obtain ⟨hx, hb, hr, hts, hns, hown, hml, -⟩ := hC
  rw [List.map_cons, show rv (vI (min x z)) = .int (if Int32.ofInt z < Int32.ofInt x then Int32.ofInt z else Int32.ofInt x) from congrArg Value.int (zmm h1 h2).symm] at k
  exact va_mmin (R := zR d mc ms) hx hb (hml.trans hl.1.symm) hown (hts _ hL) (hts _ g1) (hts _ g2) (hts _ g3) hdd (by
    show _ + 13 ≤ 40 * d
    rw [zcs_eq]; omega) hc hs hd k
theorem z_max (pc' : Nat) {idx : Nat} {x z : Int} (h1 : zi x) (h2 : zi z) (hL : Cond.methodLink y.cls idx Lib.Math.max.name ∈ lw_all) (g1 : Cond.static Lib.Math.max.name ∈ lw_all) (g2 : Cond.initialized "java/lang/Math" ∈ lw_all) (g3 : Cond.code Lib.Math.max.name Lib.Math.max.code 2 (some .int) ∈ lw_all) (hdd : 0 < d) (hcs : zcs st ≤ 8) (hc : cu ≤ mc) (hs : su ≤ ms) (hd : decode b pc = .ok (.invokestatic idx, 3)) (hp : pc + 3 = pc') (kk : zOK y b nL ret d mc ms Post cu su pc' lv (vI (max x z) :: st) t) : zOK y b nL ret d mc ms Post cu su pc lv (vI z :: vI x :: st) t := by
  subst hp
  intro p l e s m args below meth c D cy A hC H locs ls hw hl
  have k := kk p l e s m args below meth c D cy A hC H locs ls hw hl
  obtain ⟨hx, hb, hr, hts, hns, hown, hml, -⟩ := hC
  rw [List.map_cons, show rv (vI (max x z)) = .int (if Int32.ofInt x < Int32.ofInt z then Int32.ofInt z else Int32.ofInt x) from congrArg Value.int (zmx h1 h2).symm] at k
  exact va_mmax (R := zR d mc ms) hx hb (hml.trans hl.1.symm) hown (hts _ hL) (hts _ g1) (hts _ g2) (hts _ g3) hdd (by
    show _ + 13 ≤ 40 * d
    rw [zcs_eq]; omega) hc hs hd k
/-- the table ABOVE: getstatic, iload, iaload -/
theorem z_above (pc' : Nat) {idx i : Nat} {j : Int} {pi : Instr} {ln : Nat} (hL : Cond.fieldLink y.cls idx "RopeWalk" "ABOVE" "[I" ∈ lw_all) (hg : zget i lv = some (vI j)) (h : 0 ≤ j ∧ j < 6) (hd : decode b pc = .ok (.getstatic idx, 3)) (hi : ∃ k : Fin 4, (k : Nat) = i ∧ decode b (pc + 3) = .ok (.iload_n k, 1)) (hd3 : decode b (pc + 3 + 1) = .ok (.iaload, 1)) (hp : pc + 5 = pc') (kk : zOK y b nL ret d mc ms Post cu su pc' lv (vI (if j = 0 then -1 else if j = 1 then 0 else if j = 2 then 1 else if j = 3 then 2 else if j = 4 then 0 else 2) :: st) t) : zOK y b nL ret d mc ms Post cu su pc lv st t := by
  subst hp
  intro p l e s m args below meth c D cy A hC H locs ls hw hl
  have k := kk p l e s m args below meth c D cy A hC H locs ls hw hl
  obtain ⟨hx, hb, hr, hts, hns, hown, hml, -, -, hK, hA, ⟨ta, hZ, hTa⟩, hO⟩ := hC
  obtain ⟨k4, hk4, hd2⟩ := hi
  refine va_gets hx hb hZ hw.2.2 hown (hts _ hL) (fun _ h9 => h9) hd ?_
  refine lv_iload_n hx hb hd2 hk4 (zlv_get hl hg) ?_
  obtain ⟨g1, g2, g3⟩ := zix (n := 6) (by omega) h
  refine va_ti hx hb hTa hw.2.2 g1 (v := .int (Int32.ofInt (if j = 0 then -1 else if j = 1 then 0 else if j = 2 then 1 else if j = 3 then 2 else if j = 4 then 0 else 2))) ?_ hd3 k
  rw [g2]
  have : j = 0 ∨ j = 1 ∨ j = 2 ∨ j = 3 ∨ j = 4 ∨ j = 5 := by omega
  rcases this with rfl | rfl | rfl | rfl | rfl | rfl <;> rfl
theorem z_copy (pc' : Nat) {idx a0 a : Nat} {i k n : Int} (n0 n1 : Nat) (hL : Cond.methodLink y.cls idx arraycopyName ∈ lw_all) (w1 : Cond.native arraycopyName ∈ lw_all) (w2 : Cond.static arraycopyName ∈ lw_all) (w3 : Cond.initialized "java/lang/System" ∈ lw_all) (ha0 : a0 ∈ tL t) (hk0 : tK t a0 = 6) (hn0 : tN t a0 = n0) (ha : a ∈ tL t) (hk : tK t a = 6) (hn1 : tN t a = n1) (hm : n0 ≤ 1000 ∧ n1 ≤ 1000) (h : 0 ≤ i ∧ 0 ≤ k ∧ 0 ≤ n ∧ i + n ≤ n0 ∧ k + n ≤ n1) (hdd : 1 < d) (hcs : zcs st ≤ 8) (hd : decode b pc = .ok (.invokestatic idx, 3)) (hp : pc + 3 = pc') (kk : zOK y b nL ret d mc ms Post cu su pc' lv st (sC t a0 a i k n)) : zOK y b nL ret d mc ms Post cu su pc lv (vI n :: vI k :: vR (some a) :: vI i :: vR (some a0) :: st) t := by
  subst hp
  subst hn0
  subst hn1
  intro p l e s m args below meth c D cy A hC H locs ls hw hl
  have kq := fun H1 locs1 hw1 => kk p l e s m args below meth c D cy A hC H1 locs1 ls hw1 hl
  obtain ⟨hx, hb, hr, hts, hns, hown, hml, -, -, hK, -⟩ := hC
  obtain ⟨q0, hq0⟩ := zW_get (cy := cy) ha0
  obtain ⟨q1, hq1⟩ := zW_get (cy := cy) ha
  have hk1 := hq1
  rw [zE_in hk0 (Or.inl rfl)] at hq0
  rw [zE_in hk (Or.inl rfl)] at hq1
  have hzi : zi i := ⟨by omega, by omega⟩
  have hzk : zi k := ⟨by omega, by omega⟩
  have hzn : zi n := ⟨by omega, by omega⟩
  have ei : (Int32.ofInt i).toNatClampNeg = i.toNat := by show (Int32.ofInt i).toInt.toNat = _; rw [zi_toInt hzi]
  have ek : (Int32.ofInt k).toNatClampNeg = k.toNat := by show (Int32.ofInt k).toInt.toNat = _; rw [zi_toInt hzk]
  have en : (Int32.ofInt n).toNatClampNeg = n.toNat := by show (Int32.ofInt n).toInt.toNat = _; rw [zi_toInt hzn]
  have ng : ∀ x : Int, zi x → 0 ≤ x → ¬ Int32.ofInt x < 0 := fun x hx h0 q => by rw [zi_ofInt0] at q; have := (zi_lt hx zi_0).mp q; omega
  have e1 : (zW cy t).set q1 (a, .inl (cy 6, tN t a, .inl (va_cpy (fun q => Int32.ofInt (tI t a0 q)) (fun q => Int32.ofInt (tI t a q)) (Int32.ofInt i).toNatClampNeg (Int32.ofInt k).toNatClampNeg (Int32.ofInt n).toNatClampNeg))) = zW cy (sC t a0 a i k n) :=
    zW_upd rfl (fun _ => zE_sC_ne) hw.2.1 ha hk1 (by
      rw [zE_in (t := sC t a0 a i k n) hk (Or.inl rfl), ei, ek, en]
      refine congrArg (fun f => (Sum.inl (cy 6, tN t a, Sum.inl f) : va_E)) (funext fun q => ?_)
      by_cases hq : k.toNat ≤ q ∧ q < k.toNat + n.toNat
      · rw [pk_cpy_in hq.1 hq.2]
        show _ = Int32.ofInt (if a = a ∧ k ≤ (q : Int) ∧ (q : Int) < k + n then _ else _)
        rw [if_pos ⟨rfl, by omega, by omega⟩]
        congr 2
        omega
      · rw [pk_cpy_out (by omega)]
        show _ = Int32.ofInt (if a = a ∧ k ≤ (q : Int) ∧ (q : Int) < k + n then _ else _)
        rw [if_neg (by omega)])
  refine va_copyi hx hb (hml.trans hl.1.symm) hown (hts _ hL) (hts _ w1) (hts _ w2) (hts _ w3) hK hw.1 hw.2.1 hw.2.2 q0 q1 1 1 hq0 hq1 rfl rfl rfl (ng i hzi h.1) (ng k hzk h.2.1) (ng n hzn h.2.2.1) (by rw [ei, en]; omega) (by rw [ek, en]; omega) (fun _ _ => rfl) (by show 1 ≤ d; omega) ?_ hd (fun H1 locs1 a1 a2 a3 => kq H1 locs1 ⟨by rw [← e1]; exact a1, by rw [← e1]; exact a2, a3⟩)
  show _ + _ ≤ 40 * d
  rw [zcs_eq]
  have : nativeFrameWords "java/lang/System" "arraycopy" 5 + 11 ≤ 72 := by decide +kernel
  omega
end ZN
end
section
theorem zin_X0 : ∀ w ∈ u_ws RX0 TX0 6, w ∈ lw_all := by decide +kernel
theorem zdf_X0 : ∀ k, k < 6 → defaultValue (tyX0 k) = if zTg 0 k = 0 then .int 0 else if zTg 0 k = 1 then .float 0 else .null := by decide +kernel
theorem zin_X1 : ∀ w ∈ u_ws RX1 TX1 14, w ∈ lw_all := by decide +kernel
theorem zdf_X1 : ∀ k, k < 14 → defaultValue (tyX1 k) = if zTg 1 k = 0 then .int 0 else if zTg 1 k = 1 then .float 0 else .null := by decide +kernel
theorem zin_X2 : ∀ w ∈ u_ws RX2 TX2 4, w ∈ lw_all := by decide +kernel
theorem zdf_X2 : ∀ k, k < 4 → defaultValue (tyX2 k) = if zTg 2 k = 0 then .int 0 else if zTg 2 k = 1 then .float 0 else .null := by decide +kernel
theorem zin_X3 : ∀ w ∈ u_ws RX3 TX3 9, w ∈ lw_all := by decide +kernel
theorem zdf_X3 : ∀ k, k < 9 → defaultValue (tyX3 k) = if zTg 3 k = 0 then .int 0 else if zTg 3 k = 1 then .float 0 else .null := by decide +kernel
theorem zin_X4 : ∀ w ∈ u_ws RX4 TX4 36, w ∈ lw_all := by decide +kernel
theorem zdf_X4 : ∀ k, k < 36 → defaultValue (tyX4 k) = if zTg 4 k = 0 then .int 0 else if zTg 4 k = 1 then .float 0 else .null := by decide +kernel
/-- RopeWalk$Order.reel -/
theorem fl_X0_7 : zFL RX0 7 0 2 0 false := ⟨RX0, TX0, 6, tyX0, rfl, by decide, rfl, by decide, zin_X0, rfl, rfl, rfl, tyX0_ok, nmX0, fun _ => rfl, fun h => absurd h (by decide), fun h => absurd h (by decide), Or.inl (zin (i := 443) (by decide +kernel) rfl)⟩
/-- RopeWalk$Order.trialReel -/
theorem fl_X0_13 : zFL RX0 13 0 4 0 false := ⟨RX0, TX0, 6, tyX0, rfl, by decide, rfl, by decide, zin_X0, rfl, rfl, rfl, tyX0_ok, nmX0, fun _ => rfl, fun h => absurd h (by decide), fun h => absurd h (by decide), Or.inl (zin (i := 446) (by decide +kernel) rfl)⟩
/-- RopeWalk$Order.length -/
theorem fl_X0_16 : zFL RX0 16 0 0 0 true := ⟨RX0, TX0, 6, tyX0, rfl, by decide, rfl, by decide, zin_X0, rfl, rfl, rfl, tyX0_ok, nmX0, fun _ => rfl, fun h => absurd h (by decide), fun h => absurd h (by decide), Or.inl (zin (i := 439) (by decide +kernel) rfl)⟩
theorem fo_X0_16 : zFLo RX0 16 0 0 := ⟨⟨_, rfl, rfl⟩, fun C F N h => by cases h; exact zin (i := 439) (by decide +kernel) rfl⟩
/-- RopeWalk$Order.need -/
theorem fl_X0_19 : zFL RX0 19 0 1 1 true := ⟨RX0, TX0, 6, tyX0, rfl, by decide, rfl, by decide, zin_X0, rfl, rfl, rfl, tyX0_ok, nmX0, fun h => absurd h (by decide), fun _ => rfl, fun h => absurd h (by decide), Or.inl (zin (i := 441) (by decide +kernel) rfl)⟩
theorem fo_X0_19 : zFLo RX0 19 0 1 := ⟨⟨_, rfl, rfl⟩, fun C F N h => by cases h; exact zin (i := 441) (by decide +kernel) rfl⟩
/-- RopeWalk$Piece.state -/
theorem fl_X1_9 : zFL RX1 9 1 8 0 false := ⟨RX1, TX1, 14, tyX1, rfl, by decide, rfl, by decide, zin_X1, rfl, rfl, rfl, tyX1_ok, nmX1, fun _ => rfl, fun h => absurd h (by decide), fun h => absurd h (by decide), Or.inl (zin (i := 145) (by decide +kernel) rfl)⟩
/-- RopeWalk$Piece.partOf -/
theorem fl_X1_15 : zFL RX1 15 1 9 0 false := ⟨RX1, TX1, 14, tyX1, rfl, by decide, rfl, by decide, zin_X1, rfl, rfl, rfl, tyX1_ok, nmX1, fun _ => rfl, fun h => absurd h (by decide), fun h => absurd h (by decide), Or.inl (zin (i := 147) (by decide +kernel) rfl)⟩
/-- RopeWalk$Piece.spots -/
theorem fl_X1_18 : zFL RX1 18 1 10 0 false := ⟨RX1, TX1, 14, tyX1, rfl, by decide, rfl, by decide, zin_X1, rfl, rfl, rfl, tyX1_ok, nmX1, fun _ => rfl, fun h => absurd h (by decide), fun h => absurd h (by decide), Or.inl (zin (i := 149) (by decide +kernel) rfl)⟩
/-- RopeWalk$Piece.from -/
theorem fl_X1_21 : zFL RX1 21 1 11 2 true := ⟨RX1, TX1, 14, tyX1, rfl, by decide, rfl, by decide, zin_X1, rfl, rfl, rfl, tyX1_ok, nmX1, fun h => absurd h (by decide), fun h => absurd h (by decide), fun _ => Or.inr ⟨_, rfl⟩, Or.inl (zin (i := 151) (by decide +kernel) rfl)⟩
theorem fo_X1_21 : zFLo RX1 21 1 11 := ⟨⟨_, rfl, rfl⟩, fun C F N h => by cases h; exact zin (i := 151) (by decide +kernel) rfl⟩
/-- RopeWalk$Piece.to -/
theorem fl_X1_25 : zFL RX1 25 1 12 2 true := ⟨RX1, TX1, 14, tyX1, rfl, by decide, rfl, by decide, zin_X1, rfl, rfl, rfl, tyX1_ok, nmX1, fun h => absurd h (by decide), fun h => absurd h (by decide), fun _ => Or.inr ⟨_, rfl⟩, Or.inl (zin (i := 153) (by decide +kernel) rfl)⟩
theorem fo_X1_25 : zFLo RX1 25 1 12 := ⟨⟨_, rfl, rfl⟩, fun C F N h => by cases h; exact zin (i := 153) (by decide +kernel) rfl⟩
/-- RopeWalk$Piece.share -/
theorem fl_X1_28 : zFL RX1 28 1 13 2 true := ⟨RX1, TX1, 14, tyX1, rfl, by decide, rfl, by decide, zin_X1, rfl, rfl, rfl, tyX1_ok, nmX1, fun h => absurd h (by decide), fun h => absurd h (by decide), fun _ => Or.inr ⟨_, rfl⟩, Or.inl (zin (i := 155) (by decide +kernel) rfl)⟩
theorem fo_X1_28 : zFLo RX1 28 1 13 := ⟨⟨_, rfl, rfl⟩, fun C F N h => by cases h; exact zin (i := 155) (by decide +kernel) rfl⟩
/-- RopeWalk$Piece.number -/
theorem fl_X1_31 : zFL RX1 31 1 0 0 true := ⟨RX1, TX1, 14, tyX1, rfl, by decide, rfl, by decide, zin_X1, rfl, rfl, rfl, tyX1_ok, nmX1, fun _ => rfl, fun h => absurd h (by decide), fun h => absurd h (by decide), Or.inl (zin (i := 132) (by decide +kernel) rfl)⟩
theorem fo_X1_31 : zFLo RX1 31 1 0 := ⟨⟨_, rfl, rfl⟩, fun C F N h => by cases h; exact zin (i := 132) (by decide +kernel) rfl⟩
/-- RopeWalk$Piece.kind -/
theorem fl_X1_34 : zFL RX1 34 1 1 0 true := ⟨RX1, TX1, 14, tyX1, rfl, by decide, rfl, by decide, zin_X1, rfl, rfl, rfl, tyX1_ok, nmX1, fun _ => rfl, fun h => absurd h (by decide), fun h => absurd h (by decide), Or.inl (zin (i := 134) (by decide +kernel) rfl)⟩
theorem fo_X1_34 : zFLo RX1 34 1 1 := ⟨⟨_, rfl, rfl⟩, fun C F N h => by cases h; exact zin (i := 134) (by decide +kernel) rfl⟩
/-- RopeWalk$Piece.length -/
theorem fl_X1_37 : zFL RX1 37 1 2 0 true := ⟨RX1, TX1, 14, tyX1, rfl, by decide, rfl, by decide, zin_X1, rfl, rfl, rfl, tyX1_ok, nmX1, fun _ => rfl, fun h => absurd h (by decide), fun h => absurd h (by decide), Or.inl (zin (i := 136) (by decide +kernel) rfl)⟩
theorem fo_X1_37 : zFLo RX1 37 1 2 := ⟨⟨_, rfl, rfl⟩, fun C F N h => by cases h; exact zin (i := 136) (by decide +kernel) rfl⟩
/-- RopeWalk$Piece.twist -/
theorem fl_X1_40 : zFL RX1 40 1 3 0 true := ⟨RX1, TX1, 14, tyX1, rfl, by decide, rfl, by decide, zin_X1, rfl, rfl, rfl, tyX1_ok, nmX1, fun _ => rfl, fun h => absurd h (by decide), fun h => absurd h (by decide), Or.inl (zin (i := 138) (by decide +kernel) rfl)⟩
theorem fo_X1_40 : zFLo RX1 40 1 3 := ⟨⟨_, rfl, rfl⟩, fun C F N h => by cases h; exact zin (i := 138) (by decide +kernel) rfl⟩
/-- RopeWalk$Piece.parts -/
theorem fl_X1_43 : zFL RX1 43 1 4 2 true := ⟨RX1, TX1, 14, tyX1, rfl, by decide, rfl, by decide, zin_X1, rfl, rfl, rfl, tyX1_ok, nmX1, fun h => absurd h (by decide), fun h => absurd h (by decide), fun _ => Or.inr ⟨_, rfl⟩, Or.inl (zin (i := 140) (by decide +kernel) rfl)⟩
theorem fo_X1_43 : zFLo RX1 43 1 4 := ⟨⟨_, rfl, rfl⟩, fun C F N h => by cases h; exact zin (i := 140) (by decide +kernel) rfl⟩
/-- RopeWalk$Reel.borne -/
theorem fl_X2_9 : zFL RX2 9 2 2 2 true := ⟨RX2, TX2, 4, tyX2, rfl, by decide, rfl, by decide, zin_X2, rfl, rfl, rfl, tyX2_ok, nmX2, fun h => absurd h (by decide), fun h => absurd h (by decide), fun _ => Or.inr ⟨_, rfl⟩, Or.inl (zin (i := 74) (by decide +kernel) rfl)⟩
theorem fo_X2_9 : zFLo RX2 9 2 2 := ⟨⟨_, rfl, rfl⟩, fun C F N h => by cases h; exact zin (i := 74) (by decide +kernel) rfl⟩
/-- RopeWalk$Reel.ends -/
theorem fl_X2_15 : zFL RX2 15 2 3 2 true := ⟨RX2, TX2, 4, tyX2, rfl, by decide, rfl, by decide, zin_X2, rfl, rfl, rfl, tyX2_ok, nmX2, fun h => absurd h (by decide), fun h => absurd h (by decide), fun _ => Or.inr ⟨_, rfl⟩, Or.inl (zin (i := 76) (by decide +kernel) rfl)⟩
theorem fo_X2_15 : zFLo RX2 15 2 3 := ⟨⟨_, rfl, rfl⟩, fun C F N h => by cases h; exact zin (i := 76) (by decide +kernel) rfl⟩
/-- RopeWalk.pieces -/
theorem fl_X3_11 : zFL RX3 11 3 0 2 true := ⟨RX3, TX3, 9, tyX3, rfl, by decide, rfl, by decide, zin_X3, rfl, rfl, rfl, tyX3_ok, nmX3, fun h => absurd h (by decide), fun h => absurd h (by decide), fun _ => Or.inr ⟨_, rfl⟩, Or.inl (zin (i := 89) (by decide +kernel) rfl)⟩
theorem fo_X3_11 : zFLo RX3 11 3 0 := ⟨⟨_, rfl, rfl⟩, fun C F N h => by cases h; exact zin (i := 89) (by decide +kernel) rfl⟩
/-- RopeWalk.picked -/
theorem fl_X3_15 : zFL RX3 15 3 2 2 true := ⟨RX3, TX3, 9, tyX3, rfl, by decide, rfl, by decide, zin_X3, rfl, rfl, rfl, tyX3_ok, nmX3, fun h => absurd h (by decide), fun h => absurd h (by decide), fun _ => Or.inr ⟨_, rfl⟩, Or.inl (zin (i := 91) (by decide +kernel) rfl)⟩
theorem fo_X3_15 : zFLo RX3 15 3 2 := ⟨⟨_, rfl, rfl⟩, fun C F N h => by cases h; exact zin (i := 91) (by decide +kernel) rfl⟩
/-- RopeWalk.reels -/
theorem fl_X3_20 : zFL RX3 20 3 4 2 true := ⟨RX3, TX3, 9, tyX3, rfl, by decide, rfl, by decide, zin_X3, rfl, rfl, rfl, tyX3_ok, nmX3, fun h => absurd h (by decide), fun h => absurd h (by decide), fun _ => Or.inr ⟨_, rfl⟩, Or.inl (zin (i := 93) (by decide +kernel) rfl)⟩
theorem fo_X3_20 : zFLo RX3 20 3 4 := ⟨⟨_, rfl, rfl⟩, fun C F N h => by cases h; exact zin (i := 93) (by decide +kernel) rfl⟩
/-- RopeWalk.orders -/
theorem fl_X3_26 : zFL RX3 26 3 5 2 true := ⟨RX3, TX3, 9, tyX3, rfl, by decide, rfl, by decide, zin_X3, rfl, rfl, rfl, tyX3_ok, nmX3, fun h => absurd h (by decide), fun h => absurd h (by decide), fun _ => Or.inr ⟨_, rfl⟩, Or.inl (zin (i := 94) (by decide +kernel) rfl)⟩
theorem fo_X3_26 : zFLo RX3 26 3 5 := ⟨⟨_, rfl, rfl⟩, fun C F N h => by cases h; exact zin (i := 94) (by decide +kernel) rfl⟩
/-- RopeWalk.stages -/
theorem fl_X3_30 : zFL RX3 30 3 7 2 true := ⟨RX3, TX3, 9, tyX3, rfl, by decide, rfl, by decide, zin_X3, rfl, rfl, rfl, tyX3_ok, nmX3, fun h => absurd h (by decide), fun h => absurd h (by decide), fun _ => Or.inr ⟨_, rfl⟩, Or.inl (zin (i := 96) (by decide +kernel) rfl)⟩
theorem fo_X3_30 : zFLo RX3 30 3 7 := ⟨⟨_, rfl, rfl⟩, fun C F N h => by cases h; exact zin (i := 96) (by decide +kernel) rfl⟩
/-- RopeWalk.pieceCount -/
theorem fl_X3_40 : zFL RX3 40 3 1 0 false := ⟨RX3, TX3, 9, tyX3, rfl, by decide, rfl, by decide, zin_X3, rfl, rfl, rfl, tyX3_ok, nmX3, fun _ => rfl, fun h => absurd h (by decide), fun h => absurd h (by decide), Or.inl (zin (i := 90) (by decide +kernel) rfl)⟩
/-- RopeWalk$Piece.strength -/
theorem fl_X3_49 : zFL RX3 49 1 5 1 false := ⟨RX1, TX1, 14, tyX1, rfl, by decide, rfl, by decide, zin_X1, rfl, rfl, rfl, tyX1_ok, nmX1, fun h => absurd h (by decide), fun _ => rfl, fun h => absurd h (by decide), Or.inr ⟨"RopeWalk", znin (i := 142) (by decide +kernel) rfl⟩⟩
/-- RopeWalk$Piece.weight -/
theorem fl_X3_53 : zFL RX3 53 1 7 0 false := ⟨RX1, TX1, 14, tyX1, rfl, by decide, rfl, by decide, zin_X1, rfl, rfl, rfl, tyX1_ok, nmX1, fun _ => rfl, fun h => absurd h (by decide), fun h => absurd h (by decide), Or.inr ⟨"RopeWalk", znin (i := 144) (by decide +kernel) rfl⟩⟩
/-- RopeWalk$Piece.number -/
theorem fl_X3_60 : zFL RX3 60 1 0 0 true := ⟨RX1, TX1, 14, tyX1, rfl, by decide, rfl, by decide, zin_X1, rfl, rfl, rfl, tyX1_ok, nmX1, fun _ => rfl, fun h => absurd h (by decide), fun h => absurd h (by decide), Or.inr ⟨"RopeWalk", znin (i := 133) (by decide +kernel) rfl⟩⟩
/-- RopeWalk$Piece.state -/
theorem fl_X3_67 : zFL RX3 67 1 8 0 false := ⟨RX1, TX1, 14, tyX1, rfl, by decide, rfl, by decide, zin_X1, rfl, rfl, rfl, tyX1_ok, nmX1, fun _ => rfl, fun h => absurd h (by decide), fun h => absurd h (by decide), Or.inr ⟨"RopeWalk", znin (i := 146) (by decide +kernel) rfl⟩⟩
/-- RopeWalk.pickedCount -/
theorem fl_X3_77 : zFL RX3 77 3 3 0 false := ⟨RX3, TX3, 9, tyX3, rfl, by decide, rfl, by decide, zin_X3, rfl, rfl, rfl, tyX3_ok, nmX3, fun _ => rfl, fun h => absurd h (by decide), fun h => absurd h (by decide), Or.inl (zin (i := 92) (by decide +kernel) rfl)⟩
/-- RopeWalk$Piece.kind -/
theorem fl_X3_103 : zFL RX3 103 1 1 0 true := ⟨RX1, TX1, 14, tyX1, rfl, by decide, rfl, by decide, zin_X1, rfl, rfl, rfl, tyX1_ok, nmX1, fun _ => rfl, fun h => absurd h (by decide), fun h => absurd h (by decide), Or.inr ⟨"RopeWalk", znin (i := 135) (by decide +kernel) rfl⟩⟩
/-- RopeWalk$Piece.twist -/
theorem fl_X3_106 : zFL RX3 106 1 3 0 true := ⟨RX1, TX1, 14, tyX1, rfl, by decide, rfl, by decide, zin_X1, rfl, rfl, rfl, tyX1_ok, nmX1, fun _ => rfl, fun h => absurd h (by decide), fun h => absurd h (by decide), Or.inr ⟨"RopeWalk", znin (i := 139) (by decide +kernel) rfl⟩⟩
/-- RopeWalk$Piece.length -/
theorem fl_X3_113 : zFL RX3 113 1 2 0 true := ⟨RX1, TX1, 14, tyX1, rfl, by decide, rfl, by decide, zin_X1, rfl, rfl, rfl, tyX1_ok, nmX1, fun _ => rfl, fun h => absurd h (by decide), fun h => absurd h (by decide), Or.inr ⟨"RopeWalk", znin (i := 137) (by decide +kernel) rfl⟩⟩
/-- RopeWalk$Piece.parts -/
theorem fl_X3_125 : zFL RX3 125 1 4 2 true := ⟨RX1, TX1, 14, tyX1, rfl, by decide, rfl, by decide, zin_X1, rfl, rfl, rfl, tyX1_ok, nmX1, fun h => absurd h (by decide), fun h => absurd h (by decide), fun _ => Or.inr ⟨_, rfl⟩, Or.inr ⟨"RopeWalk", znin (i := 141) (by decide +kernel) rfl⟩⟩
/-- RopeWalk$Piece.partOf -/
theorem fl_X3_128 : zFL RX3 128 1 9 0 false := ⟨RX1, TX1, 14, tyX1, rfl, by decide, rfl, by decide, zin_X1, rfl, rfl, rfl, tyX1_ok, nmX1, fun _ => rfl, fun h => absurd h (by decide), fun h => absurd h (by decide), Or.inr ⟨"RopeWalk", znin (i := 148) (by decide +kernel) rfl⟩⟩
/-- RopeWalk$Piece.secondFrom -/
theorem fl_X3_134 : zFL RX3 134 1 6 0 false := ⟨RX1, TX1, 14, tyX1, rfl, by decide, rfl, by decide, zin_X1, rfl, rfl, rfl, tyX1_ok, nmX1, fun _ => rfl, fun h => absurd h (by decide), fun h => absurd h (by decide), Or.inr ⟨"RopeWalk", znin (i := 143) (by decide +kernel) rfl⟩⟩
/-- RopeWalk$Piece.spots -/
theorem fl_X3_137 : zFL RX3 137 1 10 0 false := ⟨RX1, TX1, 14, tyX1, rfl, by decide, rfl, by decide, zin_X1, rfl, rfl, rfl, tyX1_ok, nmX1, fun _ => rfl, fun h => absurd h (by decide), fun h => absurd h (by decide), Or.inr ⟨"RopeWalk", znin (i := 150) (by decide +kernel) rfl⟩⟩
/-- RopeWalk.orderCount -/
theorem fl_X3_143 : zFL RX3 143 3 6 0 false := ⟨RX3, TX3, 9, tyX3, rfl, by decide, rfl, by decide, zin_X3, rfl, rfl, rfl, tyX3_ok, nmX3, fun _ => rfl, fun h => absurd h (by decide), fun h => absurd h (by decide), Or.inl (zin (i := 95) (by decide +kernel) rfl)⟩
/-- RopeWalk.stageCount -/
theorem fl_X3_149 : zFL RX3 149 3 8 0 false := ⟨RX3, TX3, 9, tyX3, rfl, by decide, rfl, by decide, zin_X3, rfl, rfl, rfl, tyX3_ok, nmX3, fun _ => rfl, fun h => absurd h (by decide), fun h => absurd h (by decide), Or.inl (zin (i := 97) (by decide +kernel) rfl)⟩
/-- RopeWalk$Piece.share -/
theorem fl_X3_155 : zFL RX3 155 1 13 2 true := ⟨RX1, TX1, 14, tyX1, rfl, by decide, rfl, by decide, zin_X1, rfl, rfl, rfl, tyX1_ok, nmX1, fun h => absurd h (by decide), fun h => absurd h (by decide), fun _ => Or.inr ⟨_, rfl⟩, Or.inr ⟨"RopeWalk", znin (i := 156) (by decide +kernel) rfl⟩⟩
/-- RopeWalk$Piece.from -/
theorem fl_X3_158 : zFL RX3 158 1 11 2 true := ⟨RX1, TX1, 14, tyX1, rfl, by decide, rfl, by decide, zin_X1, rfl, rfl, rfl, tyX1_ok, nmX1, fun h => absurd h (by decide), fun h => absurd h (by decide), fun _ => Or.inr ⟨_, rfl⟩, Or.inr ⟨"RopeWalk", znin (i := 152) (by decide +kernel) rfl⟩⟩
/-- RopeWalk$Piece.to -/
theorem fl_X3_161 : zFL RX3 161 1 12 2 true := ⟨RX1, TX1, 14, tyX1, rfl, by decide, rfl, by decide, zin_X1, rfl, rfl, rfl, tyX1_ok, nmX1, fun h => absurd h (by decide), fun h => absurd h (by decide), fun _ => Or.inr ⟨_, rfl⟩, Or.inr ⟨"RopeWalk", znin (i := 154) (by decide +kernel) rfl⟩⟩
/-- RopeWalk$Reel.piece -/
theorem fl_X3_270 : zFL RX3 270 2 0 2 false := ⟨RX2, TX2, 4, tyX2, rfl, by decide, rfl, by decide, zin_X2, rfl, rfl, rfl, tyX2_ok, nmX2, fun h => absurd h (by decide), fun h => absurd h (by decide), fun _ => Or.inl ⟨_, rfl⟩, Or.inr ⟨"RopeWalk", znin (i := 72) (by decide +kernel) rfl⟩⟩
theorem la_above : Cond.fieldLink RX3 281 "RopeWalk" "ABOVE" "[I" ∈ lw_all := zin (i := 427) (by decide +kernel) rfl
/-- RopeWalk$Order.reel -/
theorem fl_X3_292 : zFL RX3 292 0 2 0 false := ⟨RX0, TX0, 6, tyX0, rfl, by decide, rfl, by decide, zin_X0, rfl, rfl, rfl, tyX0_ok, nmX0, fun _ => rfl, fun h => absurd h (by decide), fun h => absurd h (by decide), Or.inr ⟨"RopeWalk", znin (i := 444) (by decide +kernel) rfl⟩⟩
/-- RopeWalk$Order.place -/
theorem fl_X3_305 : zFL RX3 305 0 3 0 false := ⟨RX0, TX0, 6, tyX0, rfl, by decide, rfl, by decide, zin_X0, rfl, rfl, rfl, tyX0_ok, nmX0, fun _ => rfl, fun h => absurd h (by decide), fun h => absurd h (by decide), Or.inr ⟨"RopeWalk", znin (i := 445) (by decide +kernel) rfl⟩⟩
/-- RopeWalk$Order.trialReel -/
theorem fl_X3_320 : zFL RX3 320 0 4 0 false := ⟨RX0, TX0, 6, tyX0, rfl, by decide, rfl, by decide, zin_X0, rfl, rfl, rfl, tyX0_ok, nmX0, fun _ => rfl, fun h => absurd h (by decide), fun h => absurd h (by decide), Or.inr ⟨"RopeWalk", znin (i := 447) (by decide +kernel) rfl⟩⟩
/-- RopeWalk$Order.trialPlace -/
theorem fl_X3_323 : zFL RX3 323 0 5 0 false := ⟨RX0, TX0, 6, tyX0, rfl, by decide, rfl, by decide, zin_X0, rfl, rfl, rfl, tyX0_ok, nmX0, fun _ => rfl, fun h => absurd h (by decide), fun h => absurd h (by decide), Or.inr ⟨"RopeWalk", znin (i := 448) (by decide +kernel) rfl⟩⟩
/-- RopeWalk$Reel.stretches -/
theorem fl_X3_330 : zFL RX3 330 2 1 0 false := ⟨RX2, TX2, 4, tyX2, rfl, by decide, rfl, by decide, zin_X2, rfl, rfl, rfl, tyX2_ok, nmX2, fun _ => rfl, fun h => absurd h (by decide), fun h => absurd h (by decide), Or.inr ⟨"RopeWalk", znin (i := 73) (by decide +kernel) rfl⟩⟩
/-- RopeWalk$Reel.borne -/
theorem fl_X3_333 : zFL RX3 333 2 2 2 true := ⟨RX2, TX2, 4, tyX2, rfl, by decide, rfl, by decide, zin_X2, rfl, rfl, rfl, tyX2_ok, nmX2, fun h => absurd h (by decide), fun h => absurd h (by decide), fun _ => Or.inr ⟨_, rfl⟩, Or.inr ⟨"RopeWalk", znin (i := 75) (by decide +kernel) rfl⟩⟩
/-- RopeWalk$Order.need -/
theorem fl_X3_337 : zFL RX3 337 0 1 1 true := ⟨RX0, TX0, 6, tyX0, rfl, by decide, rfl, by decide, zin_X0, rfl, rfl, rfl, tyX0_ok, nmX0, fun h => absurd h (by decide), fun _ => rfl, fun h => absurd h (by decide), Or.inr ⟨"RopeWalk", znin (i := 442) (by decide +kernel) rfl⟩⟩
/-- RopeWalk$Reel.ends -/
theorem fl_X3_340 : zFL RX3 340 2 3 2 true := ⟨RX2, TX2, 4, tyX2, rfl, by decide, rfl, by decide, zin_X2, rfl, rfl, rfl, tyX2_ok, nmX2, fun h => absurd h (by decide), fun h => absurd h (by decide), fun _ => Or.inr ⟨_, rfl⟩, Or.inr ⟨"RopeWalk", znin (i := 77) (by decide +kernel) rfl⟩⟩
/-- RopeWalk$Order.length -/
theorem fl_X3_343 : zFL RX3 343 0 0 0 true := ⟨RX0, TX0, 6, tyX0, rfl, by decide, rfl, by decide, zin_X0, rfl, rfl, rfl, tyX0_ok, nmX0, fun _ => rfl, fun h => absurd h (by decide), fun h => absurd h (by decide), Or.inr ⟨"RopeWalk", znin (i := 440) (by decide +kernel) rfl⟩⟩
/-- RopeWalkModel.kind -/
theorem fl_X4_9 : zFL RX4 9 4 1 2 true := ⟨RX4, TX4, 36, tyX4, rfl, by decide, rfl, by decide, zin_X4, rfl, rfl, rfl, tyX4_ok, nmX4, fun h => absurd h (by decide), fun h => absurd h (by decide), fun _ => Or.inr ⟨_, rfl⟩, Or.inl (zin (i := 557) (by decide +kernel) rfl)⟩
theorem fo_X4_9 : zFLo RX4 9 4 1 := ⟨⟨_, rfl, rfl⟩, fun C F N h => by cases h; exact zin (i := 557) (by decide +kernel) rfl⟩
/-- RopeWalkModel.length -/
theorem fl_X4_13 : zFL RX4 13 4 2 2 true := ⟨RX4, TX4, 36, tyX4, rfl, by decide, rfl, by decide, zin_X4, rfl, rfl, rfl, tyX4_ok, nmX4, fun h => absurd h (by decide), fun h => absurd h (by decide), fun _ => Or.inr ⟨_, rfl⟩, Or.inl (zin (i := 558) (by decide +kernel) rfl)⟩
theorem fo_X4_13 : zFLo RX4 13 4 2 := ⟨⟨_, rfl, rfl⟩, fun C F N h => by cases h; exact zin (i := 558) (by decide +kernel) rfl⟩
/-- RopeWalkModel.twist -/
theorem fl_X4_16 : zFL RX4 16 4 3 2 true := ⟨RX4, TX4, 36, tyX4, rfl, by decide, rfl, by decide, zin_X4, rfl, rfl, rfl, tyX4_ok, nmX4, fun h => absurd h (by decide), fun h => absurd h (by decide), fun _ => Or.inr ⟨_, rfl⟩, Or.inl (zin (i := 559) (by decide +kernel) rfl)⟩
theorem fo_X4_16 : zFLo RX4 16 4 3 := ⟨⟨_, rfl, rfl⟩, fun C F N h => by cases h; exact zin (i := 559) (by decide +kernel) rfl⟩
/-- RopeWalkModel.state -/
theorem fl_X4_19 : zFL RX4 19 4 4 2 true := ⟨RX4, TX4, 36, tyX4, rfl, by decide, rfl, by decide, zin_X4, rfl, rfl, rfl, tyX4_ok, nmX4, fun h => absurd h (by decide), fun h => absurd h (by decide), fun _ => Or.inr ⟨_, rfl⟩, Or.inl (zin (i := 560) (by decide +kernel) rfl)⟩
theorem fo_X4_19 : zFLo RX4 19 4 4 := ⟨⟨_, rfl, rfl⟩, fun C F N h => by cases h; exact zin (i := 560) (by decide +kernel) rfl⟩
/-- RopeWalkModel.strength -/
theorem fl_X4_22 : zFL RX4 22 4 5 2 true := ⟨RX4, TX4, 36, tyX4, rfl, by decide, rfl, by decide, zin_X4, rfl, rfl, rfl, tyX4_ok, nmX4, fun h => absurd h (by decide), fun h => absurd h (by decide), fun _ => Or.inr ⟨_, rfl⟩, Or.inl (zin (i := 561) (by decide +kernel) rfl)⟩
theorem fo_X4_22 : zFLo RX4 22 4 5 := ⟨⟨_, rfl, rfl⟩, fun C F N h => by cases h; exact zin (i := 561) (by decide +kernel) rfl⟩
/-- RopeWalkModel.parts -/
theorem fl_X4_26 : zFL RX4 26 4 6 2 true := ⟨RX4, TX4, 36, tyX4, rfl, by decide, rfl, by decide, zin_X4, rfl, rfl, rfl, tyX4_ok, nmX4, fun h => absurd h (by decide), fun h => absurd h (by decide), fun _ => Or.inr ⟨_, rfl⟩, Or.inl (zin (i := 562) (by decide +kernel) rfl)⟩
theorem fo_X4_26 : zFLo RX4 26 4 6 := ⟨⟨_, rfl, rfl⟩, fun C F N h => by cases h; exact zin (i := 562) (by decide +kernel) rfl⟩
/-- RopeWalkModel.part -/
theorem fl_X4_29 : zFL RX4 29 4 7 2 true := ⟨RX4, TX4, 36, tyX4, rfl, by decide, rfl, by decide, zin_X4, rfl, rfl, rfl, tyX4_ok, nmX4, fun h => absurd h (by decide), fun h => absurd h (by decide), fun _ => Or.inr ⟨_, rfl⟩, Or.inl (zin (i := 563) (by decide +kernel) rfl)⟩
theorem fo_X4_29 : zFLo RX4 29 4 7 := ⟨⟨_, rfl, rfl⟩, fun C F N h => by cases h; exact zin (i := 563) (by decide +kernel) rfl⟩
/-- RopeWalkModel.owner -/
theorem fl_X4_32 : zFL RX4 32 4 8 2 true := ⟨RX4, TX4, 36, tyX4, rfl, by decide, rfl, by decide, zin_X4, rfl, rfl, rfl, tyX4_ok, nmX4, fun h => absurd h (by decide), fun h => absurd h (by decide), fun _ => Or.inr ⟨_, rfl⟩, Or.inl (zin (i := 564) (by decide +kernel) rfl)⟩
theorem fo_X4_32 : zFLo RX4 32 4 8 := ⟨⟨_, rfl, rfl⟩, fun C F N h => by cases h; exact zin (i := 564) (by decide +kernel) rfl⟩
/-- RopeWalkModel.over -/
theorem fl_X4_35 : zFL RX4 35 4 9 2 true := ⟨RX4, TX4, 36, tyX4, rfl, by decide, rfl, by decide, zin_X4, rfl, rfl, rfl, tyX4_ok, nmX4, fun h => absurd h (by decide), fun h => absurd h (by decide), fun _ => Or.inr ⟨_, rfl⟩, Or.inl (zin (i := 565) (by decide +kernel) rfl)⟩
theorem fo_X4_35 : zFLo RX4 35 4 9 := ⟨⟨_, rfl, rfl⟩, fun C F N h => by cases h; exact zin (i := 565) (by decide +kernel) rfl⟩
/-- RopeWalkModel.spots -/
theorem fl_X4_38 : zFL RX4 38 4 10 2 true := ⟨RX4, TX4, 36, tyX4, rfl, by decide, rfl, by decide, zin_X4, rfl, rfl, rfl, tyX4_ok, nmX4, fun h => absurd h (by decide), fun h => absurd h (by decide), fun _ => Or.inr ⟨_, rfl⟩, Or.inl (zin (i := 566) (by decide +kernel) rfl)⟩
theorem fo_X4_38 : zFLo RX4 38 4 10 := ⟨⟨_, rfl, rfl⟩, fun C F N h => by cases h; exact zin (i := 566) (by decide +kernel) rfl⟩
/-- RopeWalkModel.isTold -/
theorem fl_X4_41 : zFL RX4 41 4 11 2 true := ⟨RX4, TX4, 36, tyX4, rfl, by decide, rfl, by decide, zin_X4, rfl, rfl, rfl, tyX4_ok, nmX4, fun h => absurd h (by decide), fun h => absurd h (by decide), fun _ => Or.inr ⟨_, rfl⟩, Or.inl (zin (i := 567) (by decide +kernel) rfl)⟩
theorem fo_X4_41 : zFLo RX4 41 4 11 := ⟨⟨_, rfl, rfl⟩, fun C F N h => by cases h; exact zin (i := 567) (by decide +kernel) rfl⟩
/-- RopeWalkModel.spotFrom -/
theorem fl_X4_45 : zFL RX4 45 4 12 2 true := ⟨RX4, TX4, 36, tyX4, rfl, by decide, rfl, by decide, zin_X4, rfl, rfl, rfl, tyX4_ok, nmX4, fun h => absurd h (by decide), fun h => absurd h (by decide), fun _ => Or.inr ⟨_, rfl⟩, Or.inl (zin (i := 568) (by decide +kernel) rfl)⟩
theorem fo_X4_45 : zFLo RX4 45 4 12 := ⟨⟨_, rfl, rfl⟩, fun C F N h => by cases h; exact zin (i := 568) (by decide +kernel) rfl⟩
/-- RopeWalkModel.spotTo -/
theorem fl_X4_48 : zFL RX4 48 4 13 2 true := ⟨RX4, TX4, 36, tyX4, rfl, by decide, rfl, by decide, zin_X4, rfl, rfl, rfl, tyX4_ok, nmX4, fun h => absurd h (by decide), fun h => absurd h (by decide), fun _ => Or.inr ⟨_, rfl⟩, Or.inl (zin (i := 569) (by decide +kernel) rfl)⟩
theorem fo_X4_48 : zFLo RX4 48 4 13 := ⟨⟨_, rfl, rfl⟩, fun C F N h => by cases h; exact zin (i := 569) (by decide +kernel) rfl⟩
/-- RopeWalkModel.spotShare -/
theorem fl_X4_51 : zFL RX4 51 4 14 2 true := ⟨RX4, TX4, 36, tyX4, rfl, by decide, rfl, by decide, zin_X4, rfl, rfl, rfl, tyX4_ok, nmX4, fun h => absurd h (by decide), fun h => absurd h (by decide), fun _ => Or.inr ⟨_, rfl⟩, Or.inl (zin (i := 570) (by decide +kernel) rfl)⟩
theorem fo_X4_51 : zFLo RX4 51 4 14 := ⟨⟨_, rfl, rfl⟩, fun C F N h => by cases h; exact zin (i := 570) (by decide +kernel) rfl⟩
/-- RopeWalkModel.pick -/
theorem fl_X4_54 : zFL RX4 54 4 16 2 true := ⟨RX4, TX4, 36, tyX4, rfl, by decide, rfl, by decide, zin_X4, rfl, rfl, rfl, tyX4_ok, nmX4, fun h => absurd h (by decide), fun h => absurd h (by decide), fun _ => Or.inr ⟨_, rfl⟩, Or.inl (zin (i := 572) (by decide +kernel) rfl)⟩
theorem fo_X4_54 : zFLo RX4 54 4 16 := ⟨⟨_, rfl, rfl⟩, fun C F N h => by cases h; exact zin (i := 572) (by decide +kernel) rfl⟩
/-- RopeWalkModel.reel -/
theorem fl_X4_57 : zFL RX4 57 4 17 2 true := ⟨RX4, TX4, 36, tyX4, rfl, by decide, rfl, by decide, zin_X4, rfl, rfl, rfl, tyX4_ok, nmX4, fun h => absurd h (by decide), fun h => absurd h (by decide), fun _ => Or.inr ⟨_, rfl⟩, Or.inl (zin (i := 573) (by decide +kernel) rfl)⟩
theorem fo_X4_57 : zFLo RX4 57 4 17 := ⟨⟨_, rfl, rfl⟩, fun C F N h => by cases h; exact zin (i := 573) (by decide +kernel) rfl⟩
/-- RopeWalkModel.orderLength -/
theorem fl_X4_60 : zFL RX4 60 4 19 2 true := ⟨RX4, TX4, 36, tyX4, rfl, by decide, rfl, by decide, zin_X4, rfl, rfl, rfl, tyX4_ok, nmX4, fun h => absurd h (by decide), fun h => absurd h (by decide), fun _ => Or.inr ⟨_, rfl⟩, Or.inl (zin (i := 575) (by decide +kernel) rfl)⟩
theorem fo_X4_60 : zFLo RX4 60 4 19 := ⟨⟨_, rfl, rfl⟩, fun C F N h => by cases h; exact zin (i := 575) (by decide +kernel) rfl⟩
/-- RopeWalkModel.orderMust -/
theorem fl_X4_63 : zFL RX4 63 4 20 2 true := ⟨RX4, TX4, 36, tyX4, rfl, by decide, rfl, by decide, zin_X4, rfl, rfl, rfl, tyX4_ok, nmX4, fun h => absurd h (by decide), fun h => absurd h (by decide), fun _ => Or.inr ⟨_, rfl⟩, Or.inl (zin (i := 576) (by decide +kernel) rfl)⟩
theorem fo_X4_63 : zFLo RX4 63 4 20 := ⟨⟨_, rfl, rfl⟩, fun C F N h => by cases h; exact zin (i := 576) (by decide +kernel) rfl⟩
/-- RopeWalkModel.cutReel -/
theorem fl_X4_66 : zFL RX4 66 4 21 2 true := ⟨RX4, TX4, 36, tyX4, rfl, by decide, rfl, by decide, zin_X4, rfl, rfl, rfl, tyX4_ok, nmX4, fun h => absurd h (by decide), fun h => absurd h (by decide), fun _ => Or.inr ⟨_, rfl⟩, Or.inl (zin (i := 577) (by decide +kernel) rfl)⟩
theorem fo_X4_66 : zFLo RX4 66 4 21 := ⟨⟨_, rfl, rfl⟩, fun C F N h => by cases h; exact zin (i := 577) (by decide +kernel) rfl⟩
/-- RopeWalkModel.cutPlace -/
theorem fl_X4_69 : zFL RX4 69 4 22 2 true := ⟨RX4, TX4, 36, tyX4, rfl, by decide, rfl, by decide, zin_X4, rfl, rfl, rfl, tyX4_ok, nmX4, fun h => absurd h (by decide), fun h => absurd h (by decide), fun _ => Or.inr ⟨_, rfl⟩, Or.inl (zin (i := 578) (by decide +kernel) rfl)⟩
theorem fo_X4_69 : zFLo RX4 69 4 22 := ⟨⟨_, rfl, rfl⟩, fun C F N h => by cases h; exact zin (i := 578) (by decide +kernel) rfl⟩
/-- RopeWalkModel.ropes -/
theorem fl_X4_72 : zFL RX4 72 4 24 2 true := ⟨RX4, TX4, 36, tyX4, rfl, by decide, rfl, by decide, zin_X4, rfl, rfl, rfl, tyX4_ok, nmX4, fun h => absurd h (by decide), fun h => absurd h (by decide), fun _ => Or.inr ⟨_, rfl⟩, Or.inl (zin (i := 580) (by decide +kernel) rfl)⟩
theorem fo_X4_72 : zFLo RX4 72 4 24 := ⟨⟨_, rfl, rfl⟩, fun C F N h => by cases h; exact zin (i := 580) (by decide +kernel) rfl⟩
/-- RopeWalkModel.weigh -/
theorem fl_X4_75 : zFL RX4 75 4 25 2 true := ⟨RX4, TX4, 36, tyX4, rfl, by decide, rfl, by decide, zin_X4, rfl, rfl, rfl, tyX4_ok, nmX4, fun h => absurd h (by decide), fun h => absurd h (by decide), fun _ => Or.inr ⟨_, rfl⟩, Or.inl (zin (i := 581) (by decide +kernel) rfl)⟩
theorem fo_X4_75 : zFLo RX4 75 4 25 := ⟨⟨_, rfl, rfl⟩, fun C F N h => by cases h; exact zin (i := 581) (by decide +kernel) rfl⟩
/-- RopeWalkModel.oldTold -/
theorem fl_X4_78 : zFL RX4 78 4 26 2 true := ⟨RX4, TX4, 36, tyX4, rfl, by decide, rfl, by decide, zin_X4, rfl, rfl, rfl, tyX4_ok, nmX4, fun h => absurd h (by decide), fun h => absurd h (by decide), fun _ => Or.inr ⟨_, rfl⟩, Or.inl (zin (i := 582) (by decide +kernel) rfl)⟩
theorem fo_X4_78 : zFLo RX4 78 4 26 := ⟨⟨_, rfl, rfl⟩, fun C F N h => by cases h; exact zin (i := 582) (by decide +kernel) rfl⟩
/-- RopeWalkModel.oldFrom -/
theorem fl_X4_81 : zFL RX4 81 4 27 2 true := ⟨RX4, TX4, 36, tyX4, rfl, by decide, rfl, by decide, zin_X4, rfl, rfl, rfl, tyX4_ok, nmX4, fun h => absurd h (by decide), fun h => absurd h (by decide), fun _ => Or.inr ⟨_, rfl⟩, Or.inl (zin (i := 583) (by decide +kernel) rfl)⟩
theorem fo_X4_81 : zFLo RX4 81 4 27 := ⟨⟨_, rfl, rfl⟩, fun C F N h => by cases h; exact zin (i := 583) (by decide +kernel) rfl⟩
/-- RopeWalkModel.oldTo -/
theorem fl_X4_84 : zFL RX4 84 4 28 2 true := ⟨RX4, TX4, 36, tyX4, rfl, by decide, rfl, by decide, zin_X4, rfl, rfl, rfl, tyX4_ok, nmX4, fun h => absurd h (by decide), fun h => absurd h (by decide), fun _ => Or.inr ⟨_, rfl⟩, Or.inl (zin (i := 584) (by decide +kernel) rfl)⟩
theorem fo_X4_84 : zFLo RX4 84 4 28 := ⟨⟨_, rfl, rfl⟩, fun C F N h => by cases h; exact zin (i := 584) (by decide +kernel) rfl⟩
/-- RopeWalkModel.oldShare -/
theorem fl_X4_87 : zFL RX4 87 4 29 2 true := ⟨RX4, TX4, 36, tyX4, rfl, by decide, rfl, by decide, zin_X4, rfl, rfl, rfl, tyX4_ok, nmX4, fun h => absurd h (by decide), fun h => absurd h (by decide), fun _ => Or.inr ⟨_, rfl⟩, Or.inl (zin (i := 585) (by decide +kernel) rfl)⟩
theorem fo_X4_87 : zFLo RX4 87 4 29 := ⟨⟨_, rfl, rfl⟩, fun C F N h => by cases h; exact zin (i := 585) (by decide +kernel) rfl⟩
/-- RopeWalkModel.place -/
theorem fl_X4_90 : zFL RX4 90 4 30 2 true := ⟨RX4, TX4, 36, tyX4, rfl, by decide, rfl, by decide, zin_X4, rfl, rfl, rfl, tyX4_ok, nmX4, fun h => absurd h (by decide), fun h => absurd h (by decide), fun _ => Or.inr ⟨_, rfl⟩, Or.inl (zin (i := 586) (by decide +kernel) rfl)⟩
theorem fo_X4_90 : zFLo RX4 90 4 30 := ⟨⟨_, rfl, rfl⟩, fun C F N h => by cases h; exact zin (i := 586) (by decide +kernel) rfl⟩
/-- RopeWalkModel.bear -/
theorem fl_X4_93 : zFL RX4 93 4 31 2 true := ⟨RX4, TX4, 36, tyX4, rfl, by decide, rfl, by decide, zin_X4, rfl, rfl, rfl, tyX4_ok, nmX4, fun h => absurd h (by decide), fun h => absurd h (by decide), fun _ => Or.inr ⟨_, rfl⟩, Or.inl (zin (i := 587) (by decide +kernel) rfl)⟩
theorem fo_X4_93 : zFLo RX4 93 4 31 := ⟨⟨_, rfl, rfl⟩, fun C F N h => by cases h; exact zin (i := 587) (by decide +kernel) rfl⟩
/-- RopeWalkModel.taken -/
theorem fl_X4_96 : zFL RX4 96 4 33 2 true := ⟨RX4, TX4, 36, tyX4, rfl, by decide, rfl, by decide, zin_X4, rfl, rfl, rfl, tyX4_ok, nmX4, fun h => absurd h (by decide), fun h => absurd h (by decide), fun _ => Or.inr ⟨_, rfl⟩, Or.inl (zin (i := 589) (by decide +kernel) rfl)⟩
theorem fo_X4_96 : zFLo RX4 96 4 33 := ⟨⟨_, rfl, rfl⟩, fun C F N h => by cases h; exact zin (i := 589) (by decide +kernel) rfl⟩
/-- RopeWalkModel.bearsAt -/
theorem fl_X4_99 : zFL RX4 99 4 34 2 true := ⟨RX4, TX4, 36, tyX4, rfl, by decide, rfl, by decide, zin_X4, rfl, rfl, rfl, tyX4_ok, nmX4, fun h => absurd h (by decide), fun h => absurd h (by decide), fun _ => Or.inr ⟨_, rfl⟩, Or.inl (zin (i := 590) (by decide +kernel) rfl)⟩
theorem fo_X4_99 : zFLo RX4 99 4 34 := ⟨⟨_, rfl, rfl⟩, fun C F N h => by cases h; exact zin (i := 590) (by decide +kernel) rfl⟩
/-- RopeWalkModel.cutBefore -/
theorem fl_X4_102 : zFL RX4 102 4 35 2 true := ⟨RX4, TX4, 36, tyX4, rfl, by decide, rfl, by decide, zin_X4, rfl, rfl, rfl, tyX4_ok, nmX4, fun h => absurd h (by decide), fun h => absurd h (by decide), fun _ => Or.inr ⟨_, rfl⟩, Or.inl (zin (i := 591) (by decide +kernel) rfl)⟩
theorem fo_X4_102 : zFLo RX4 102 4 35 := ⟨⟨_, rfl, rfl⟩, fun C F N h => by cases h; exact zin (i := 591) (by decide +kernel) rfl⟩
/-- RopeWalkModel.pieces -/
theorem fl_X4_105 : zFL RX4 105 4 0 0 false := ⟨RX4, TX4, 36, tyX4, rfl, by decide, rfl, by decide, zin_X4, rfl, rfl, rfl, tyX4_ok, nmX4, fun _ => rfl, fun h => absurd h (by decide), fun h => absurd h (by decide), Or.inl (zin (i := 556) (by decide +kernel) rfl)⟩
/-- RopeWalkModel.picked -/
theorem fl_X4_125 : zFL RX4 125 4 15 0 false := ⟨RX4, TX4, 36, tyX4, rfl, by decide, rfl, by decide, zin_X4, rfl, rfl, rfl, tyX4_ok, nmX4, fun _ => rfl, fun h => absurd h (by decide), fun h => absurd h (by decide), Or.inl (zin (i := 571) (by decide +kernel) rfl)⟩
/-- RopeWalkModel.orders -/
theorem fl_X4_143 : zFL RX4 143 4 18 0 false := ⟨RX4, TX4, 36, tyX4, rfl, by decide, rfl, by decide, zin_X4, rfl, rfl, rfl, tyX4_ok, nmX4, fun _ => rfl, fun h => absurd h (by decide), fun h => absurd h (by decide), Or.inl (zin (i := 574) (by decide +kernel) rfl)⟩
/-- RopeWalkModel.stages -/
theorem fl_X4_146 : zFL RX4 146 4 23 0 false := ⟨RX4, TX4, 36, tyX4, rfl, by decide, rfl, by decide, zin_X4, rfl, rfl, rfl, tyX4_ok, nmX4, fun _ => rfl, fun h => absurd h (by decide), fun h => absurd h (by decide), Or.inl (zin (i := 579) (by decide +kernel) rfl)⟩
/-- RopeWalkModel.weakest -/
theorem fl_X4_167 : zFL RX4 167 4 32 0 false := ⟨RX4, TX4, 36, tyX4, rfl, by decide, rfl, by decide, zin_X4, rfl, rfl, rfl, tyX4_ok, nmX4, fun _ => rfl, fun h => absurd h (by decide), fun h => absurd h (by decide), Or.inl (zin (i := 588) (by decide +kernel) rfl)⟩
theorem la_X3_init : zCal yX3_init cX3_init 2 none 0 := ⟨zin (i := 57) (by decide +kernel) rfl, zin (i := 46) (by decide +kernel) rfl, by decide +kernel, by decide +kernel, by decide +kernel, by decide⟩
theorem im_X3_init : Cond.instanceMethod yX3_init ∈ lw_all := zin (i := 56) (by decide +kernel) rfl
theorem la_X2_init : zCal yX2_init cX2_init 1 none 0 := ⟨zin (i := 70) (by decide +kernel) rfl, zin (i := 47) (by decide +kernel) rfl, by decide +kernel, by decide +kernel, by decide +kernel, by decide⟩
theorem im_X2_init : Cond.instanceMethod yX2_init ∈ lw_all := zin (i := 69) (by decide +kernel) rfl
theorem la_X3_yarn : zCal yX3_yarn cX3_yarn 3 (some .int) 2 := ⟨zin (i := 120) (by decide +kernel) rfl, zin (i := 46) (by decide +kernel) rfl, by decide +kernel, by decide +kernel, by decide +kernel, by decide⟩
theorem im_X3_yarn : Cond.instanceMethod yX3_yarn ∈ lw_all := zin (i := 118) (by decide +kernel) rfl
theorem se_X3_yarn : Cond.selects yX3_yarn.cls yX3_yarn yX3_yarn ∈ lw_all := zin (i := 119) (by decide +kernel) rfl
theorem la_X3_spin : zCal yX3_spin cX3_spin 6 (some .int) 3 := ⟨zin (i := 124) (by decide +kernel) rfl, zin (i := 46) (by decide +kernel) rfl, by decide +kernel, by decide +kernel, by decide +kernel, by decide⟩
theorem im_X3_spin : Cond.instanceMethod yX3_spin ∈ lw_all := zin (i := 123) (by decide +kernel) rfl
theorem se_X3_spin : Cond.selects yX3_spin.cls yX3_spin yX3_spin ∈ lw_all := zin (i := 0) (by decide +kernel) rfl
theorem la_X1_init : zCal yX1_init cX1_init 6 none 5 := ⟨zin (i := 130) (by decide +kernel) rfl, zin (i := 49) (by decide +kernel) rfl, by decide +kernel, by decide +kernel, by decide +kernel, by decide⟩
theorem im_X1_init : Cond.instanceMethod yX1_init ∈ lw_all := zin (i := 129) (by decide +kernel) rfl
theorem la_X3_keep : zCal yX3_keep cX3_keep 2 (some .int) 1 := ⟨zin (i := 190) (by decide +kernel) rfl, zin (i := 46) (by decide +kernel) rfl, by decide +kernel, by decide +kernel, by decide +kernel, by decide⟩
theorem im_X3_keep : Cond.instanceMethod yX3_keep ∈ lw_all := zin (i := 189) (by decide +kernel) rfl
theorem se_X3_keep : Cond.selects yX3_keep.cls yX3_keep yX3_keep ∈ lw_all := zin (i := 1) (by decide +kernel) rfl
theorem la_X3_tape : zCal yX3_tape cX3_tape 3 (some .int) 2 := ⟨zin (i := 194) (by decide +kernel) rfl, zin (i := 46) (by decide +kernel) rfl, by decide +kernel, by decide +kernel, by decide +kernel, by decide⟩
theorem im_X3_tape : Cond.instanceMethod yX3_tape ∈ lw_all := zin (i := 192) (by decide +kernel) rfl
theorem se_X3_tape : Cond.selects yX3_tape.cls yX3_tape yX3_tape ∈ lw_all := zin (i := 193) (by decide +kernel) rfl
theorem la_X3_pick : zCal yX3_pick cX3_pick 3 (some .int) 1 := ⟨zin (i := 198) (by decide +kernel) rfl, zin (i := 46) (by decide +kernel) rfl, by decide +kernel, by decide +kernel, by decide +kernel, by decide⟩
theorem im_X3_pick : Cond.instanceMethod yX3_pick ∈ lw_all := zin (i := 196) (by decide +kernel) rfl
theorem se_X3_pick : Cond.selects yX3_pick.cls yX3_pick yX3_pick ∈ lw_all := zin (i := 197) (by decide +kernel) rfl
theorem la_X3_freePiece : zCal yX3_freePiece cX3_freePiece 3 (some (.object "RopeWalk$Piece")) 1 := ⟨zin (i := 202) (by decide +kernel) rfl, zin (i := 46) (by decide +kernel) rfl, by decide +kernel, by decide +kernel, by decide +kernel, by decide⟩
theorem im_X3_freePiece : Cond.instanceMethod yX3_freePiece ∈ lw_all := zin (i := 201) (by decide +kernel) rfl
theorem se_X3_freePiece : Cond.selects yX3_freePiece.cls yX3_freePiece yX3_freePiece ∈ lw_all := zin (i := 2) (by decide +kernel) rfl
theorem la_X3_pieceAt : zCal yX3_pieceAt cX3_pieceAt 2 (some (.object "RopeWalk$Piece")) 1 := ⟨zin (i := 206) (by decide +kernel) rfl, zin (i := 46) (by decide +kernel) rfl, by decide +kernel, by decide +kernel, by decide +kernel, by decide⟩
theorem im_X3_pieceAt : Cond.instanceMethod yX3_pieceAt ∈ lw_all := zin (i := 205) (by decide +kernel) rfl
theorem se_X3_pieceAt : Cond.selects yX3_pieceAt.cls yX3_pieceAt yX3_pieceAt ∈ lw_all := zin (i := 3) (by decide +kernel) rfl
theorem la_X3_isPicked : zCal yX3_isPicked cX3_isPicked 3 (some .boolean) 1 := ⟨zin (i := 210) (by decide +kernel) rfl, zin (i := 46) (by decide +kernel) rfl, by decide +kernel, by decide +kernel, by decide +kernel, by decide⟩
theorem im_X3_isPicked : Cond.instanceMethod yX3_isPicked ∈ lw_all := zin (i := 209) (by decide +kernel) rfl
theorem se_X3_isPicked : Cond.selects yX3_isPicked.cls yX3_isPicked yX3_isPicked ∈ lw_all := zin (i := 4) (by decide +kernel) rfl
theorem la_X3_drop : zCal yX3_drop cX3_drop 2 (some .int) 0 := ⟨zin (i := 214) (by decide +kernel) rfl, zin (i := 46) (by decide +kernel) rfl, by decide +kernel, by decide +kernel, by decide +kernel, by decide⟩
theorem im_X3_drop : Cond.instanceMethod yX3_drop ∈ lw_all := zin (i := 212) (by decide +kernel) rfl
theorem se_X3_drop : Cond.selects yX3_drop.cls yX3_drop yX3_drop ∈ lw_all := zin (i := 213) (by decide +kernel) rfl
theorem la_X3_lay : zCal yX3_lay cX3_lay 6 (some .int) 3 := ⟨zin (i := 218) (by decide +kernel) rfl, zin (i := 46) (by decide +kernel) rfl, by decide +kernel, by decide +kernel, by decide +kernel, by decide⟩
theorem im_X3_lay : Cond.instanceMethod yX3_lay ∈ lw_all := zin (i := 216) (by decide +kernel) rfl
theorem se_X3_lay : Cond.selects yX3_lay.cls yX3_lay yX3_lay ∈ lw_all := zin (i := 217) (by decide +kernel) rfl
theorem la_X3_canHold : zCal yX3_canHold cX3_canHold 2 (some .boolean) 2 := ⟨zin (i := 221) (by decide +kernel) rfl, zin (i := 46) (by decide +kernel) rfl, by decide +kernel, by decide +kernel, by decide +kernel, by decide⟩
theorem sm_X3_canHold : Cond.static yX3_canHold ∈ lw_all := zin (i := 220) (by decide +kernel) rfl
theorem la_X3_pickedFit : zCal yX3_pickedFit cX3_pickedFit 5 (some .boolean) 2 := ⟨zin (i := 225) (by decide +kernel) rfl, zin (i := 46) (by decide +kernel) rfl, by decide +kernel, by decide +kernel, by decide +kernel, by decide⟩
theorem im_X3_pickedFit : Cond.instanceMethod yX3_pickedFit ∈ lw_all := zin (i := 224) (by decide +kernel) rfl
theorem se_X3_pickedFit : Cond.selects yX3_pickedFit.cls yX3_pickedFit yX3_pickedFit ∈ lw_all := zin (i := 5) (by decide +kernel) rfl
theorem la_X3_canBePart : zCal yX3_canBePart cX3_canBePart 3 (some .boolean) 3 := ⟨zin (i := 228) (by decide +kernel) rfl, zin (i := 46) (by decide +kernel) rfl, by decide +kernel, by decide +kernel, by decide +kernel, by decide⟩
theorem sm_X3_canBePart : Cond.static yX3_canBePart ∈ lw_all := zin (i := 227) (by decide +kernel) rfl
theorem la_X3_otherTwist : zCal yX3_otherTwist cX3_otherTwist 1 (some .int) 1 := ⟨zin (i := 231) (by decide +kernel) rfl, zin (i := 46) (by decide +kernel) rfl, by decide +kernel, by decide +kernel, by decide +kernel, by decide⟩
theorem sm_X3_otherTwist : Cond.static yX3_otherTwist ∈ lw_all := zin (i := 230) (by decide +kernel) rfl
theorem la_X3_shortestPicked : zCal yX3_shortestPicked cX3_shortestPicked 3 (some .int) 0 := ⟨zin (i := 235) (by decide +kernel) rfl, zin (i := 46) (by decide +kernel) rfl, by decide +kernel, by decide +kernel, by decide +kernel, by decide⟩
theorem im_X3_shortestPicked : Cond.instanceMethod yX3_shortestPicked ∈ lw_all := zin (i := 234) (by decide +kernel) rfl
theorem se_X3_shortestPicked : Cond.selects yX3_shortestPicked.cls yX3_shortestPicked yX3_shortestPicked ∈ lw_all := zin (i := 6) (by decide +kernel) rfl
theorem la_X3_pickedParts : zCal yX3_pickedParts cX3_pickedParts 4 (some (.array (.object "RopeWalk$Piece"))) 0 := ⟨zin (i := 242) (by decide +kernel) rfl, zin (i := 46) (by decide +kernel) rfl, by decide +kernel, by decide +kernel, by decide +kernel, by decide⟩
theorem im_X3_pickedParts : Cond.instanceMethod yX3_pickedParts ∈ lw_all := zin (i := 241) (by decide +kernel) rfl
theorem se_X3_pickedParts : Cond.selects yX3_pickedParts.cls yX3_pickedParts yX3_pickedParts ∈ lw_all := zin (i := 7) (by decide +kernel) rfl
theorem la_X3_takeParts : zCal yX3_takeParts cX3_takeParts 3 none 1 := ⟨zin (i := 248) (by decide +kernel) rfl, zin (i := 46) (by decide +kernel) rfl, by decide +kernel, by decide +kernel, by decide +kernel, by decide⟩
theorem sm_X3_takeParts : Cond.static yX3_takeParts ∈ lw_all := zin (i := 247) (by decide +kernel) rfl
theorem la_X3_splice : zCal yX3_splice cX3_splice 9 (some .int) 3 := ⟨zin (i := 252) (by decide +kernel) rfl, zin (i := 46) (by decide +kernel) rfl, by decide +kernel, by decide +kernel, by decide +kernel, by decide⟩
theorem im_X3_splice : Cond.instanceMethod yX3_splice ∈ lw_all := zin (i := 250) (by decide +kernel) rfl
theorem se_X3_splice : Cond.selects yX3_splice.cls yX3_splice yX3_splice ∈ lw_all := zin (i := 251) (by decide +kernel) rfl
theorem la_X3_canBeSpliced : zCal yX3_canBeSpliced cX3_canBeSpliced 1 (some .boolean) 1 := ⟨zin (i := 255) (by decide +kernel) rfl, zin (i := 46) (by decide +kernel) rfl, by decide +kernel, by decide +kernel, by decide +kernel, by decide⟩
theorem sm_X3_canBeSpliced : Cond.static yX3_canBeSpliced ∈ lw_all := zin (i := 254) (by decide +kernel) rfl
theorem la_X3_untwist : zCal yX3_untwist cX3_untwist 5 (some .int) 1 := ⟨zin (i := 259) (by decide +kernel) rfl, zin (i := 46) (by decide +kernel) rfl, by decide +kernel, by decide +kernel, by decide +kernel, by decide⟩
theorem im_X3_untwist : Cond.instanceMethod yX3_untwist ∈ lw_all := zin (i := 257) (by decide +kernel) rfl
theorem se_X3_untwist : Cond.selects yX3_untwist.cls yX3_untwist yX3_untwist ∈ lw_all := zin (i := 258) (by decide +kernel) rfl
theorem la_X3_of : zCal yX3_of cX3_of 4 (some .int) 2 := ⟨zin (i := 263) (by decide +kernel) rfl, zin (i := 46) (by decide +kernel) rfl, by decide +kernel, by decide +kernel, by decide +kernel, by decide⟩
theorem im_X3_of : Cond.instanceMethod yX3_of ∈ lw_all := zin (i := 261) (by decide +kernel) rfl
theorem se_X3_of : Cond.selects yX3_of.cls yX3_of yX3_of ∈ lw_all := zin (i := 262) (by decide +kernel) rfl
theorem la_X3_part : zCal yX3_part cX3_part 5 (some .int) 2 := ⟨zin (i := 267) (by decide +kernel) rfl, zin (i := 46) (by decide +kernel) rfl, by decide +kernel, by decide +kernel, by decide +kernel, by decide⟩
theorem im_X3_part : Cond.instanceMethod yX3_part ∈ lw_all := zin (i := 265) (by decide +kernel) rfl
theorem se_X3_part : Cond.selects yX3_part.cls yX3_part yX3_part ∈ lw_all := zin (i := 266) (by decide +kernel) rfl
theorem la_X3_count : zCal yX3_count cX3_count 2 (some .int) 1 := ⟨zin (i := 271) (by decide +kernel) rfl, zin (i := 46) (by decide +kernel) rfl, by decide +kernel, by decide +kernel, by decide +kernel, by decide⟩
theorem im_X3_count : Cond.instanceMethod yX3_count ∈ lw_all := zin (i := 269) (by decide +kernel) rfl
theorem se_X3_count : Cond.selects yX3_count.cls yX3_count yX3_count ∈ lw_all := zin (i := 270) (by decide +kernel) rfl
theorem la_X3_piecesThatAre : zCal yX3_piecesThatAre cX3_piecesThatAre 4 (some .int) 1 := ⟨zin (i := 275) (by decide +kernel) rfl, zin (i := 46) (by decide +kernel) rfl, by decide +kernel, by decide +kernel, by decide +kernel, by decide⟩
theorem im_X3_piecesThatAre : Cond.instanceMethod yX3_piecesThatAre ∈ lw_all := zin (i := 274) (by decide +kernel) rfl
theorem se_X3_piecesThatAre : Cond.selects yX3_piecesThatAre.cls yX3_piecesThatAre yX3_piecesThatAre ∈ lw_all := zin (i := 8) (by decide +kernel) rfl
theorem la_X3_cutOrders : zCal yX3_cutOrders cX3_cutOrders 3 (some .int) 0 := ⟨zin (i := 279) (by decide +kernel) rfl, zin (i := 46) (by decide +kernel) rfl, by decide +kernel, by decide +kernel, by decide +kernel, by decide⟩
theorem im_X3_cutOrders : Cond.instanceMethod yX3_cutOrders ∈ lw_all := zin (i := 278) (by decide +kernel) rfl
theorem se_X3_cutOrders : Cond.selects yX3_cutOrders.cls yX3_cutOrders yX3_cutOrders ∈ lw_all := zin (i := 9) (by decide +kernel) rfl
theorem la_X3_row : zCal yX3_row cX3_row 5 (some .int) 2 := ⟨zin (i := 283) (by decide +kernel) rfl, zin (i := 46) (by decide +kernel) rfl, by decide +kernel, by decide +kernel, by decide +kernel, by decide⟩
theorem im_X3_row : Cond.instanceMethod yX3_row ∈ lw_all := zin (i := 281) (by decide +kernel) rfl
theorem se_X3_row : Cond.selects yX3_row.cls yX3_row yX3_row ∈ lw_all := zin (i := 282) (by decide +kernel) rfl
theorem la_X3_pieceNotGone : zCal yX3_pieceNotGone cX3_pieceNotGone 3 (some (.object "RopeWalk$Piece")) 1 := ⟨zin (i := 287) (by decide +kernel) rfl, zin (i := 46) (by decide +kernel) rfl, by decide +kernel, by decide +kernel, by decide +kernel, by decide⟩
theorem im_X3_pieceNotGone : Cond.instanceMethod yX3_pieceNotGone ∈ lw_all := zin (i := 286) (by decide +kernel) rfl
theorem se_X3_pieceNotGone : Cond.selects yX3_pieceNotGone.cls yX3_pieceNotGone yX3_pieceNotGone ∈ lw_all := zin (i := 10) (by decide +kernel) rfl
theorem la_X3_lose : zCal yX3_lose cX3_lose 4 (some .int) 1 := ⟨zin (i := 291) (by decide +kernel) rfl, zin (i := 46) (by decide +kernel) rfl, by decide +kernel, by decide +kernel, by decide +kernel, by decide⟩
theorem im_X3_lose : Cond.instanceMethod yX3_lose ∈ lw_all := zin (i := 289) (by decide +kernel) rfl
theorem se_X3_lose : Cond.selects yX3_lose.cls yX3_lose yX3_lose ∈ lw_all := zin (i := 290) (by decide +kernel) rfl
theorem la_X3_spot : zCal yX3_spot cX3_spot 8 (some .int) 5 := ⟨zin (i := 295) (by decide +kernel) rfl, zin (i := 46) (by decide +kernel) rfl, by decide +kernel, by decide +kernel, by decide +kernel, by decide⟩
theorem im_X3_spot : Cond.instanceMethod yX3_spot ∈ lw_all := zin (i := 293) (by decide +kernel) rfl
theorem se_X3_spot : Cond.selects yX3_spot.cls yX3_spot yX3_spot ∈ lw_all := zin (i := 294) (by decide +kernel) rfl
theorem la_X3_carry : zCal yX3_carry cX3_carry 8 (some .int) 5 := ⟨zin (i := 299) (by decide +kernel) rfl, zin (i := 46) (by decide +kernel) rfl, by decide +kernel, by decide +kernel, by decide +kernel, by decide⟩
theorem im_X3_carry : Cond.instanceMethod yX3_carry ∈ lw_all := zin (i := 297) (by decide +kernel) rfl
theorem se_X3_carry : Cond.selects yX3_carry.cls yX3_carry yX3_carry ∈ lw_all := zin (i := 298) (by decide +kernel) rfl
theorem la_X3_hasSpots : zCal yX3_hasSpots cX3_hasSpots 3 (some .boolean) 3 := ⟨zin (i := 302) (by decide +kernel) rfl, zin (i := 46) (by decide +kernel) rfl, by decide +kernel, by decide +kernel, by decide +kernel, by decide⟩
theorem sm_X3_hasSpots : Cond.static yX3_hasSpots ∈ lw_all := zin (i := 301) (by decide +kernel) rfl
theorem la_X3_toldSpots : zCal yX3_toldSpots cX3_toldSpots 3 (some .int) 1 := ⟨zin (i := 308) (by decide +kernel) rfl, zin (i := 46) (by decide +kernel) rfl, by decide +kernel, by decide +kernel, by decide +kernel, by decide⟩
theorem sm_X3_toldSpots : Cond.static yX3_toldSpots ∈ lw_all := zin (i := 307) (by decide +kernel) rfl
theorem la_X3_bears : zCal yX3_bears cX3_bears 4 (some .double) 2 := ⟨zin (i := 312) (by decide +kernel) rfl, zin (i := 46) (by decide +kernel) rfl, by decide +kernel, by decide +kernel, by decide +kernel, by decide⟩
theorem im_X3_bears : Cond.instanceMethod yX3_bears ∈ lw_all := zin (i := 310) (by decide +kernel) rfl
theorem se_X3_bears : Cond.selects yX3_bears.cls yX3_bears yX3_bears ∈ lw_all := zin (i := 311) (by decide +kernel) rfl
theorem la_X3_bearing : zCal yX3_bearing cX3_bearing 4 (some .float) 3 := ⟨zin (i := 316) (by decide +kernel) rfl, zin (i := 46) (by decide +kernel) rfl, by decide +kernel, by decide +kernel, by decide +kernel, by decide⟩
theorem sm_X3_bearing : Cond.static yX3_bearing ∈ lw_all := zin (i := 315) (by decide +kernel) rfl
theorem la_X3_splicedBase : zCal yX3_splicedBase cX3_splicedBase 8 (some .float) 3 := ⟨zin (i := 319) (by decide +kernel) rfl, zin (i := 46) (by decide +kernel) rfl, by decide +kernel, by decide +kernel, by decide +kernel, by decide⟩
theorem sm_X3_splicedBase : Cond.static yX3_splicedBase ∈ lw_all := zin (i := 318) (by decide +kernel) rfl
theorem la_X3_splicedFrom : zCal yX3_splicedFrom cX3_splicedFrom 2 (some .int) 2 := ⟨zin (i := 322) (by decide +kernel) rfl, zin (i := 46) (by decide +kernel) rfl, by decide +kernel, by decide +kernel, by decide +kernel, by decide⟩
theorem sm_X3_splicedFrom : Cond.static yX3_splicedFrom ∈ lw_all := zin (i := 321) (by decide +kernel) rfl
theorem la_X3_laidBase : zCal yX3_laidBase cX3_laidBase 6 (some .float) 3 := ⟨zin (i := 325) (by decide +kernel) rfl, zin (i := 46) (by decide +kernel) rfl, by decide +kernel, by decide +kernel, by decide +kernel, by decide⟩
theorem sm_X3_laidBase : Cond.static yX3_laidBase ∈ lw_all := zin (i := 324) (by decide +kernel) rfl
theorem la_X3_placeOn : zCal yX3_placeOn cX3_placeOn 3 (some .int) 3 := ⟨zin (i := 328) (by decide +kernel) rfl, zin (i := 46) (by decide +kernel) rfl, by decide +kernel, by decide +kernel, by decide +kernel, by decide⟩
theorem sm_X3_placeOn : Cond.static yX3_placeOn ∈ lw_all := zin (i := 327) (by decide +kernel) rfl
theorem la_X3_worn : zCal yX3_worn cX3_worn 5 (some .float) 3 := ⟨zin (i := 334) (by decide +kernel) rfl, zin (i := 46) (by decide +kernel) rfl, by decide +kernel, by decide +kernel, by decide +kernel, by decide⟩
theorem sm_X3_worn : Cond.static yX3_worn ∈ lw_all := zin (i := 333) (by decide +kernel) rfl
theorem la_X3_least : zCal yX3_least cX3_least 3 (some .double) 1 := ⟨zin (i := 338) (by decide +kernel) rfl, zin (i := 46) (by decide +kernel) rfl, by decide +kernel, by decide +kernel, by decide +kernel, by decide⟩
theorem im_X3_least : Cond.instanceMethod yX3_least ∈ lw_all := zin (i := 336) (by decide +kernel) rfl
theorem se_X3_least : Cond.selects yX3_least.cls yX3_least yX3_least ∈ lw_all := zin (i := 337) (by decide +kernel) rfl
theorem la_X3_leastBorne : zCal yX3_leastBorne cX3_leastBorne 1 (some .float) 1 := ⟨zin (i := 341) (by decide +kernel) rfl, zin (i := 46) (by decide +kernel) rfl, by decide +kernel, by decide +kernel, by decide +kernel, by decide⟩
theorem sm_X3_leastBorne : Cond.static yX3_leastBorne ∈ lw_all := zin (i := 340) (by decide +kernel) rfl
theorem la_X3_weakestPlace : zCal yX3_weakestPlace cX3_weakestPlace 5 (some .int) 1 := ⟨zin (i := 344) (by decide +kernel) rfl, zin (i := 46) (by decide +kernel) rfl, by decide +kernel, by decide +kernel, by decide +kernel, by decide⟩
theorem sm_X3_weakestPlace : Cond.static yX3_weakestPlace ∈ lw_all := zin (i := 343) (by decide +kernel) rfl
theorem la_X3_steadyTo : zCal yX3_steadyTo cX3_steadyTo 6 (some .int) 3 := ⟨zin (i := 347) (by decide +kernel) rfl, zin (i := 46) (by decide +kernel) rfl, by decide +kernel, by decide +kernel, by decide +kernel, by decide⟩
theorem sm_X3_steadyTo : Cond.static yX3_steadyTo ∈ lw_all := zin (i := 346) (by decide +kernel) rfl
theorem la_X3_splicedSteadyTo : zCal yX3_splicedSteadyTo cX3_splicedSteadyTo 6 (some .int) 4 := ⟨zin (i := 350) (by decide +kernel) rfl, zin (i := 46) (by decide +kernel) rfl, by decide +kernel, by decide +kernel, by decide +kernel, by decide⟩
theorem sm_X3_splicedSteadyTo : Cond.static yX3_splicedSteadyTo ∈ lw_all := zin (i := 349) (by decide +kernel) rfl
theorem la_X3_laidSteadyTo : zCal yX3_laidSteadyTo cX3_laidSteadyTo 6 (some .int) 4 := ⟨zin (i := 353) (by decide +kernel) rfl, zin (i := 46) (by decide +kernel) rfl, by decide +kernel, by decide +kernel, by decide +kernel, by decide⟩
theorem sm_X3_laidSteadyTo : Cond.static yX3_laidSteadyTo ∈ lw_all := zin (i := 352) (by decide +kernel) rfl
theorem la_X3_rowSteadyTo : zCal yX3_rowSteadyTo cX3_rowSteadyTo 5 (some .int) 3 := ⟨zin (i := 356) (by decide +kernel) rfl, zin (i := 46) (by decide +kernel) rfl, by decide +kernel, by decide +kernel, by decide +kernel, by decide⟩
theorem sm_X3_rowSteadyTo : Cond.static yX3_rowSteadyTo ∈ lw_all := zin (i := 355) (by decide +kernel) rfl
theorem la_X3_where : zCal yX3_where cX3_where 3 (some .int) 1 := ⟨zin (i := 360) (by decide +kernel) rfl, zin (i := 46) (by decide +kernel) rfl, by decide +kernel, by decide +kernel, by decide +kernel, by decide⟩
theorem im_X3_where : Cond.instanceMethod yX3_where ∈ lw_all := zin (i := 358) (by decide +kernel) rfl
theorem se_X3_where : Cond.selects yX3_where.cls yX3_where yX3_where ∈ lw_all := zin (i := 359) (by decide +kernel) rfl
theorem la_X3_grams : zCal yX3_grams cX3_grams 3 (some .long) 1 := ⟨zin (i := 364) (by decide +kernel) rfl, zin (i := 46) (by decide +kernel) rfl, by decide +kernel, by decide +kernel, by decide +kernel, by decide⟩
theorem im_X3_grams : Cond.instanceMethod yX3_grams ∈ lw_all := zin (i := 362) (by decide +kernel) rfl
theorem se_X3_grams : Cond.selects yX3_grams.cls yX3_grams yX3_grams ∈ lw_all := zin (i := 363) (by decide +kernel) rfl
theorem la_X3_rest : zCal yX3_rest cX3_rest 4 (some .double) 2 := ⟨zin (i := 370) (by decide +kernel) rfl, zin (i := 46) (by decide +kernel) rfl, by decide +kernel, by decide +kernel, by decide +kernel, by decide⟩
theorem im_X3_rest : Cond.instanceMethod yX3_rest ∈ lw_all := zin (i := 368) (by decide +kernel) rfl
theorem se_X3_rest : Cond.selects yX3_rest.cls yX3_rest yX3_rest ∈ lw_all := zin (i := 369) (by decide +kernel) rfl
theorem la_X3_remainder : zCal yX3_remainder cX3_remainder 6 (some .double) 2 := ⟨zin (i := 373) (by decide +kernel) rfl, zin (i := 46) (by decide +kernel) rfl, by decide +kernel, by decide +kernel, by decide +kernel, by decide⟩
theorem sm_X3_remainder : Cond.static yX3_remainder ∈ lw_all := zin (i := 372) (by decide +kernel) rfl
theorem la_X3_left : zCal yX3_left cX3_left 4 (some .double) 2 := ⟨zin (i := 377) (by decide +kernel) rfl, zin (i := 46) (by decide +kernel) rfl, by decide +kernel, by decide +kernel, by decide +kernel, by decide⟩
theorem im_X3_left : Cond.instanceMethod yX3_left ∈ lw_all := zin (i := 375) (by decide +kernel) rfl
theorem se_X3_left : Cond.selects yX3_left.cls yX3_left yX3_left ∈ lw_all := zin (i := 376) (by decide +kernel) rfl
theorem la_X3_turned : zCal yX3_turned cX3_turned 6 (some .long) 3 := ⟨zin (i := 383) (by decide +kernel) rfl, zin (i := 46) (by decide +kernel) rfl, by decide +kernel, by decide +kernel, by decide +kernel, by decide⟩
theorem im_X3_turned : Cond.instanceMethod yX3_turned ∈ lw_all := zin (i := 381) (by decide +kernel) rfl
theorem se_X3_turned : Cond.selects yX3_turned.cls yX3_turned yX3_turned ∈ lw_all := zin (i := 382) (by decide +kernel) rfl
theorem la_X3_turnedFloat : zCal yX3_turnedFloat cX3_turnedFloat 2 (some .long) 2 := ⟨zin (i := 387) (by decide +kernel) rfl, zin (i := 46) (by decide +kernel) rfl, by decide +kernel, by decide +kernel, by decide +kernel, by decide⟩
theorem sm_X3_turnedFloat : Cond.static yX3_turnedFloat ∈ lw_all := zin (i := 386) (by decide +kernel) rfl
theorem la_X3_turnedDouble : zCal yX3_turnedDouble cX3_turnedDouble 3 (some .long) 2 := ⟨zin (i := 395) (by decide +kernel) rfl, zin (i := 46) (by decide +kernel) rfl, by decide +kernel, by decide +kernel, by decide +kernel, by decide⟩
theorem sm_X3_turnedDouble : Cond.static yX3_turnedDouble ∈ lw_all := zin (i := 394) (by decide +kernel) rfl
theorem la_X3_notAbove : zCal yX3_notAbove cX3_notAbove 4 (some .long) 1 := ⟨zin (i := 398) (by decide +kernel) rfl, zin (i := 46) (by decide +kernel) rfl, by decide +kernel, by decide +kernel, by decide +kernel, by decide⟩
theorem sm_X3_notAbove : Cond.static yX3_notAbove ∈ lw_all := zin (i := 397) (by decide +kernel) rfl
theorem la_X3_nearest : zCal yX3_nearest cX3_nearest 7 (some .long) 1 := ⟨zin (i := 401) (by decide +kernel) rfl, zin (i := 46) (by decide +kernel) rfl, by decide +kernel, by decide +kernel, by decide +kernel, by decide⟩
theorem sm_X3_nearest : Cond.static yX3_nearest ∈ lw_all := zin (i := 400) (by decide +kernel) rfl
theorem la_X3_hang : zCal yX3_hang cX3_hang 4 (some .int) 2 := ⟨zin (i := 408) (by decide +kernel) rfl, zin (i := 46) (by decide +kernel) rfl, by decide +kernel, by decide +kernel, by decide +kernel, by decide⟩
theorem im_X3_hang : Cond.instanceMethod yX3_hang ∈ lw_all := zin (i := 406) (by decide +kernel) rfl
theorem se_X3_hang : Cond.selects yX3_hang.cls yX3_hang yX3_hang ∈ lw_all := zin (i := 407) (by decide +kernel) rfl
theorem la_X3_isReel : zCal yX3_isReel cX3_isReel 1 (some .boolean) 1 := ⟨zin (i := 411) (by decide +kernel) rfl, zin (i := 46) (by decide +kernel) rfl, by decide +kernel, by decide +kernel, by decide +kernel, by decide⟩
theorem sm_X3_isReel : Cond.static yX3_isReel ∈ lw_all := zin (i := 410) (by decide +kernel) rfl
theorem la_X3_off : zCal yX3_off cX3_off 3 (some .int) 1 := ⟨zin (i := 415) (by decide +kernel) rfl, zin (i := 46) (by decide +kernel) rfl, by decide +kernel, by decide +kernel, by decide +kernel, by decide⟩
theorem im_X3_off : Cond.instanceMethod yX3_off ∈ lw_all := zin (i := 413) (by decide +kernel) rfl
theorem se_X3_off : Cond.selects yX3_off.cls yX3_off yX3_off ∈ lw_all := zin (i := 414) (by decide +kernel) rfl
theorem la_X3_isCutFrom : zCal yX3_isCutFrom cX3_isCutFrom 3 (some .boolean) 1 := ⟨zin (i := 419) (by decide +kernel) rfl, zin (i := 46) (by decide +kernel) rfl, by decide +kernel, by decide +kernel, by decide +kernel, by decide⟩
theorem im_X3_isCutFrom : Cond.instanceMethod yX3_isCutFrom ∈ lw_all := zin (i := 418) (by decide +kernel) rfl
theorem se_X3_isCutFrom : Cond.selects yX3_isCutFrom.cls yX3_isCutFrom yX3_isCutFrom ∈ lw_all := zin (i := 11) (by decide +kernel) rfl
theorem la_X3_take : zCal yX3_take cX3_take 4 (some .int) 2 := ⟨zin (i := 423) (by decide +kernel) rfl, zin (i := 46) (by decide +kernel) rfl, by decide +kernel, by decide +kernel, by decide +kernel, by decide⟩
theorem im_X3_take : Cond.instanceMethod yX3_take ∈ lw_all := zin (i := 421) (by decide +kernel) rfl
theorem se_X3_take : Cond.selects yX3_take.cls yX3_take yX3_take ∈ lw_all := zin (i := 422) (by decide +kernel) rfl
theorem la_X3_isOfKind : zCal yX3_isOfKind cX3_isOfKind 4 (some .boolean) 2 := ⟨zin (i := 426) (by decide +kernel) rfl, zin (i := 46) (by decide +kernel) rfl, by decide +kernel, by decide +kernel, by decide +kernel, by decide⟩
theorem sm_X3_isOfKind : Cond.static yX3_isOfKind ∈ lw_all := zin (i := 425) (by decide +kernel) rfl
theorem la_X3_order : zCal yX3_order cX3_order 3 (some .int) 2 := ⟨zin (i := 432) (by decide +kernel) rfl, zin (i := 46) (by decide +kernel) rfl, by decide +kernel, by decide +kernel, by decide +kernel, by decide⟩
theorem im_X3_order : Cond.instanceMethod yX3_order ∈ lw_all := zin (i := 430) (by decide +kernel) rfl
theorem se_X3_order : Cond.selects yX3_order.cls yX3_order yX3_order ∈ lw_all := zin (i := 431) (by decide +kernel) rfl
theorem la_X0_init : zCal yX0_init cX0_init 3 none 2 := ⟨zin (i := 437) (by decide +kernel) rfl, zin (i := 52) (by decide +kernel) rfl, by decide +kernel, by decide +kernel, by decide +kernel, by decide⟩
theorem im_X0_init : Cond.instanceMethod yX0_init ∈ lw_all := zin (i := 436) (by decide +kernel) rfl
theorem la_X3_cut : zCal yX3_cut cX3_cut 4 (some .int) 1 := ⟨zin (i := 465) (by decide +kernel) rfl, zin (i := 46) (by decide +kernel) rfl, by decide +kernel, by decide +kernel, by decide +kernel, by decide⟩
theorem im_X3_cut : Cond.instanceMethod yX3_cut ∈ lw_all := zin (i := 463) (by decide +kernel) rfl
theorem se_X3_cut : Cond.selects yX3_cut.cls yX3_cut yX3_cut ∈ lw_all := zin (i := 464) (by decide +kernel) rfl
theorem la_X3_orderAt : zCal yX3_orderAt cX3_orderAt 2 (some (.object "RopeWalk$Order")) 1 := ⟨zin (i := 469) (by decide +kernel) rfl, zin (i := 46) (by decide +kernel) rfl, by decide +kernel, by decide +kernel, by decide +kernel, by decide⟩
theorem im_X3_orderAt : Cond.instanceMethod yX3_orderAt ∈ lw_all := zin (i := 468) (by decide +kernel) rfl
theorem se_X3_orderAt : Cond.selects yX3_orderAt.cls yX3_orderAt yX3_orderAt ∈ lw_all := zin (i := 12) (by decide +kernel) rfl
theorem la_X3_measureReels : zCal yX3_measureReels cX3_measureReels 2 none 0 := ⟨zin (i := 473) (by decide +kernel) rfl, zin (i := 46) (by decide +kernel) rfl, by decide +kernel, by decide +kernel, by decide +kernel, by decide⟩
theorem im_X3_measureReels : Cond.instanceMethod yX3_measureReels ∈ lw_all := zin (i := 472) (by decide +kernel) rfl
theorem se_X3_measureReels : Cond.selects yX3_measureReels.cls yX3_measureReels yX3_measureReels ∈ lw_all := zin (i := 13) (by decide +kernel) rfl
theorem la_X3_measure : zCal yX3_measure cX3_measure 4 none 1 := ⟨zin (i := 476) (by decide +kernel) rfl, zin (i := 46) (by decide +kernel) rfl, by decide +kernel, by decide +kernel, by decide +kernel, by decide⟩
theorem sm_X3_measure : Cond.static yX3_measure ∈ lw_all := zin (i := 475) (by decide +kernel) rfl
theorem la_X3_startTrial : zCal yX3_startTrial cX3_startTrial 2 none 0 := ⟨zin (i := 480) (by decide +kernel) rfl, zin (i := 46) (by decide +kernel) rfl, by decide +kernel, by decide +kernel, by decide +kernel, by decide⟩
theorem im_X3_startTrial : Cond.instanceMethod yX3_startTrial ∈ lw_all := zin (i := 479) (by decide +kernel) rfl
theorem se_X3_startTrial : Cond.selects yX3_startTrial.cls yX3_startTrial yX3_startTrial ∈ lw_all := zin (i := 14) (by decide +kernel) rfl
theorem la_X3_firstFit : zCal yX3_firstFit cX3_firstFit 5 (some .int) 2 := ⟨zin (i := 484) (by decide +kernel) rfl, zin (i := 46) (by decide +kernel) rfl, by decide +kernel, by decide +kernel, by decide +kernel, by decide⟩
theorem im_X3_firstFit : Cond.instanceMethod yX3_firstFit ∈ lw_all := zin (i := 483) (by decide +kernel) rfl
theorem se_X3_firstFit : Cond.selects yX3_firstFit.cls yX3_firstFit yX3_firstFit ∈ lw_all := zin (i := 15) (by decide +kernel) rfl
theorem la_X3_fitOn : zCal yX3_fitOn cX3_fitOn 6 (some .int) 2 := ⟨zin (i := 488) (by decide +kernel) rfl, zin (i := 46) (by decide +kernel) rfl, by decide +kernel, by decide +kernel, by decide +kernel, by decide⟩
theorem im_X3_fitOn : Cond.instanceMethod yX3_fitOn ∈ lw_all := zin (i := 487) (by decide +kernel) rfl
theorem se_X3_fitOn : Cond.selects yX3_fitOn.cls yX3_fitOn yX3_fitOn ∈ lw_all := zin (i := 16) (by decide +kernel) rfl
theorem la_X3_besideTrials : zCal yX3_besideTrials cX3_besideTrials 8 (some .int) 3 := ⟨zin (i := 492) (by decide +kernel) rfl, zin (i := 46) (by decide +kernel) rfl, by decide +kernel, by decide +kernel, by decide +kernel, by decide⟩
theorem im_X3_besideTrials : Cond.instanceMethod yX3_besideTrials ∈ lw_all := zin (i := 491) (by decide +kernel) rfl
theorem se_X3_besideTrials : Cond.selects yX3_besideTrials.cls yX3_besideTrials yX3_besideTrials ∈ lw_all := zin (i := 17) (by decide +kernel) rfl
theorem la_X3_join : zCal yX3_join cX3_join 4 (some .int) 1 := ⟨zin (i := 496) (by decide +kernel) rfl, zin (i := 46) (by decide +kernel) rfl, by decide +kernel, by decide +kernel, by decide +kernel, by decide⟩
theorem im_X3_join : Cond.instanceMethod yX3_join ∈ lw_all := zin (i := 494) (by decide +kernel) rfl
theorem se_X3_join : Cond.selects yX3_join.cls yX3_join yX3_join ∈ lw_all := zin (i := 495) (by decide +kernel) rfl
theorem la_X3_begun : zCal yX3_begun cX3_begun 3 (some .int) 0 := ⟨zin (i := 500) (by decide +kernel) rfl, zin (i := 46) (by decide +kernel) rfl, by decide +kernel, by decide +kernel, by decide +kernel, by decide⟩
theorem im_X3_begun : Cond.instanceMethod yX3_begun ∈ lw_all := zin (i := 498) (by decide +kernel) rfl
theorem se_X3_begun : Cond.selects yX3_begun.cls yX3_begun yX3_begun ∈ lw_all := zin (i := 499) (by decide +kernel) rfl
theorem la_X3_lengthOn : zCal yX3_lengthOn cX3_lengthOn 2 (some .int) 1 := ⟨zin (i := 504) (by decide +kernel) rfl, zin (i := 46) (by decide +kernel) rfl, by decide +kernel, by decide +kernel, by decide +kernel, by decide⟩
theorem im_X3_lengthOn : Cond.instanceMethod yX3_lengthOn ∈ lw_all := zin (i := 503) (by decide +kernel) rfl
theorem se_X3_lengthOn : Cond.selects yX3_lengthOn.cls yX3_lengthOn yX3_lengthOn ∈ lw_all := zin (i := 18) (by decide +kernel) rfl
theorem la_X3_fewest : zCal yX3_fewest cX3_fewest 5 (some .int) 0 := ⟨zin (i := 508) (by decide +kernel) rfl, zin (i := 46) (by decide +kernel) rfl, by decide +kernel, by decide +kernel, by decide +kernel, by decide⟩
theorem im_X3_fewest : Cond.instanceMethod yX3_fewest ∈ lw_all := zin (i := 506) (by decide +kernel) rfl
theorem se_X3_fewest : Cond.selects yX3_fewest.cls yX3_fewest yX3_fewest ∈ lw_all := zin (i := 507) (by decide +kernel) rfl
theorem la_X3_unbegunReels : zCal yX3_unbegunReels cX3_unbegunReels 3 (some .int) 0 := ⟨zin (i := 512) (by decide +kernel) rfl, zin (i := 46) (by decide +kernel) rfl, by decide +kernel, by decide +kernel, by decide +kernel, by decide⟩
theorem im_X3_unbegunReels : Cond.instanceMethod yX3_unbegunReels ∈ lw_all := zin (i := 511) (by decide +kernel) rfl
theorem se_X3_unbegunReels : Cond.selects yX3_unbegunReels.cls yX3_unbegunReels yX3_unbegunReels ∈ lw_all := zin (i := 19) (by decide +kernel) rfl
theorem la_X3_lengthTogether : zCal yX3_lengthTogether cX3_lengthTogether 4 (some .int) 1 := ⟨zin (i := 516) (by decide +kernel) rfl, zin (i := 46) (by decide +kernel) rfl, by decide +kernel, by decide +kernel, by decide +kernel, by decide⟩
theorem im_X3_lengthTogether : Cond.instanceMethod yX3_lengthTogether ∈ lw_all := zin (i := 515) (by decide +kernel) rfl
theorem se_X3_lengthTogether : Cond.selects yX3_lengthTogether.cls yX3_lengthTogether yX3_lengthTogether ∈ lw_all := zin (i := 20) (by decide +kernel) rfl
theorem la_X3_allFit : zCal yX3_allFit cX3_allFit 5 (some .boolean) 1 := ⟨zin (i := 520) (by decide +kernel) rfl, zin (i := 46) (by decide +kernel) rfl, by decide +kernel, by decide +kernel, by decide +kernel, by decide⟩
theorem im_X3_allFit : Cond.instanceMethod yX3_allFit ∈ lw_all := zin (i := 519) (by decide +kernel) rfl
theorem se_X3_allFit : Cond.selects yX3_allFit.cls yX3_allFit yX3_allFit ∈ lw_all := zin (i := 21) (by decide +kernel) rfl
theorem la_X3_stage : zCal yX3_stage cX3_stage 2 (some .int) 1 := ⟨zin (i := 524) (by decide +kernel) rfl, zin (i := 46) (by decide +kernel) rfl, by decide +kernel, by decide +kernel, by decide +kernel, by decide⟩
theorem im_X3_stage : Cond.instanceMethod yX3_stage ∈ lw_all := zin (i := 522) (by decide +kernel) rfl
theorem se_X3_stage : Cond.selects yX3_stage.cls yX3_stage yX3_stage ∈ lw_all := zin (i := 523) (by decide +kernel) rfl
theorem la_X3_unstage : zCal yX3_unstage cX3_unstage 1 (some .int) 0 := ⟨zin (i := 528) (by decide +kernel) rfl, zin (i := 46) (by decide +kernel) rfl, by decide +kernel, by decide +kernel, by decide +kernel, by decide⟩
theorem im_X3_unstage : Cond.instanceMethod yX3_unstage ∈ lw_all := zin (i := 526) (by decide +kernel) rfl
theorem se_X3_unstage : Cond.selects yX3_unstage.cls yX3_unstage yX3_unstage ∈ lw_all := zin (i := 527) (by decide +kernel) rfl
theorem la_X3_pull : zCal yX3_pull cX3_pull 5 (some .long) 2 := ⟨zin (i := 532) (by decide +kernel) rfl, zin (i := 46) (by decide +kernel) rfl, by decide +kernel, by decide +kernel, by decide +kernel, by decide⟩
theorem im_X3_pull : Cond.instanceMethod yX3_pull ∈ lw_all := zin (i := 530) (by decide +kernel) rfl
theorem se_X3_pull : Cond.selects yX3_pull.cls yX3_pull yX3_pull ∈ lw_all := zin (i := 531) (by decide +kernel) rfl
theorem la_X3_ropesOfFirst : zCal yX3_ropesOfFirst cX3_ropesOfFirst 5 (some .long) 1 := ⟨zin (i := 536) (by decide +kernel) rfl, zin (i := 46) (by decide +kernel) rfl, by decide +kernel, by decide +kernel, by decide +kernel, by decide⟩
theorem im_X3_ropesOfFirst : Cond.instanceMethod yX3_ropesOfFirst ∈ lw_all := zin (i := 535) (by decide +kernel) rfl
theorem se_X3_ropesOfFirst : Cond.selects yX3_ropesOfFirst.cls yX3_ropesOfFirst yX3_ropesOfFirst ∈ lw_all := zin (i := 22) (by decide +kernel) rfl
theorem la_X3_canAskLoad : zCal yX3_canAskLoad cX3_canAskLoad 2 (some .boolean) 2 := ⟨zin (i := 539) (by decide +kernel) rfl, zin (i := 46) (by decide +kernel) rfl, by decide +kernel, by decide +kernel, by decide +kernel, by decide⟩
theorem sm_X3_canAskLoad : Cond.static yX3_canAskLoad ∈ lw_all := zin (i := 538) (by decide +kernel) rfl
theorem la_X3_lowestTerms : zCal yX3_lowestTerms cX3_lowestTerms 7 (some .long) 3 := ⟨zin (i := 542) (by decide +kernel) rfl, zin (i := 46) (by decide +kernel) rfl, by decide +kernel, by decide +kernel, by decide +kernel, by decide⟩
theorem sm_X3_lowestTerms : Cond.static yX3_lowestTerms ∈ lw_all := zin (i := 541) (by decide +kernel) rfl
theorem la_X3_greatestDivisor : zCal yX3_greatestDivisor cX3_greatestDivisor 11 (some .long) 2 := ⟨zin (i := 545) (by decide +kernel) rfl, zin (i := 46) (by decide +kernel) rfl, by decide +kernel, by decide +kernel, by decide +kernel, by decide⟩
theorem sm_X3_greatestDivisor : Cond.static yX3_greatestDivisor ∈ lw_all := zin (i := 544) (by decide +kernel) rfl
theorem la_X3_stress : zCal yX3_stress cX3_stress 6 (some .long) 3 := ⟨zin (i := 549) (by decide +kernel) rfl, zin (i := 46) (by decide +kernel) rfl, by decide +kernel, by decide +kernel, by decide +kernel, by decide⟩
theorem im_X3_stress : Cond.instanceMethod yX3_stress ∈ lw_all := zin (i := 547) (by decide +kernel) rfl
theorem se_X3_stress : Cond.selects yX3_stress.cls yX3_stress yX3_stress ∈ lw_all := zin (i := 548) (by decide +kernel) rfl
theorem la_X4_init : zCal yX4_init cX4_init 2 none 0 := ⟨zin (i := 554) (by decide +kernel) rfl, zin (i := 48) (by decide +kernel) rfl, by decide +kernel, by decide +kernel, by decide +kernel, by decide⟩
theorem im_X4_init : Cond.instanceMethod yX4_init ∈ lw_all := zin (i := 553) (by decide +kernel) rfl
theorem la_X4_yarn : zCal yX4_yarn cX4_yarn 3 (some .int) 2 := ⟨zin (i := 669) (by decide +kernel) rfl, zin (i := 48) (by decide +kernel) rfl, by decide +kernel, by decide +kernel, by decide +kernel, by decide⟩
theorem im_X4_yarn : Cond.instanceMethod yX4_yarn ∈ lw_all := zin (i := 667) (by decide +kernel) rfl
theorem se_X4_yarn : Cond.selects yX4_yarn.cls yX4_yarn yX4_yarn ∈ lw_all := zin (i := 668) (by decide +kernel) rfl
theorem la_X4_single : zCal yX4_single cX4_single 5 (some .int) 3 := ⟨zin (i := 673) (by decide +kernel) rfl, zin (i := 48) (by decide +kernel) rfl, by decide +kernel, by decide +kernel, by decide +kernel, by decide⟩
theorem im_X4_single : Cond.instanceMethod yX4_single ∈ lw_all := zin (i := 672) (by decide +kernel) rfl
theorem se_X4_single : Cond.selects yX4_single.cls yX4_single yX4_single ∈ lw_all := zin (i := 23) (by decide +kernel) rfl
theorem la_X4_newPiece : zCal yX4_newPiece cX4_newPiece 5 (some .int) 3 := ⟨zin (i := 678) (by decide +kernel) rfl, zin (i := 48) (by decide +kernel) rfl, by decide +kernel, by decide +kernel, by decide +kernel, by decide⟩
theorem im_X4_newPiece : Cond.instanceMethod yX4_newPiece ∈ lw_all := zin (i := 677) (by decide +kernel) rfl
theorem se_X4_newPiece : Cond.selects yX4_newPiece.cls yX4_newPiece yX4_newPiece ∈ lw_all := zin (i := 24) (by decide +kernel) rfl
theorem la_X4_tape : zCal yX4_tape cX4_tape 3 (some .int) 2 := ⟨zin (i := 683) (by decide +kernel) rfl, zin (i := 48) (by decide +kernel) rfl, by decide +kernel, by decide +kernel, by decide +kernel, by decide⟩
theorem im_X4_tape : Cond.instanceMethod yX4_tape ∈ lw_all := zin (i := 681) (by decide +kernel) rfl
theorem se_X4_tape : Cond.selects yX4_tape.cls yX4_tape yX4_tape ∈ lw_all := zin (i := 682) (by decide +kernel) rfl
theorem la_X4_pick : zCal yX4_pick cX4_pick 4 (some .int) 1 := ⟨zin (i := 687) (by decide +kernel) rfl, zin (i := 48) (by decide +kernel) rfl, by decide +kernel, by decide +kernel, by decide +kernel, by decide⟩
theorem im_X4_pick : Cond.instanceMethod yX4_pick ∈ lw_all := zin (i := 685) (by decide +kernel) rfl
theorem se_X4_pick : Cond.selects yX4_pick.cls yX4_pick yX4_pick ∈ lw_all := zin (i := 686) (by decide +kernel) rfl
theorem la_X4_isFree : zCal yX4_isFree cX4_isFree 2 (some .boolean) 1 := ⟨zin (i := 691) (by decide +kernel) rfl, zin (i := 48) (by decide +kernel) rfl, by decide +kernel, by decide +kernel, by decide +kernel, by decide⟩
theorem im_X4_isFree : Cond.instanceMethod yX4_isFree ∈ lw_all := zin (i := 690) (by decide +kernel) rfl
theorem se_X4_isFree : Cond.selects yX4_isFree.cls yX4_isFree yX4_isFree ∈ lw_all := zin (i := 25) (by decide +kernel) rfl
theorem la_X4_isPiece : zCal yX4_isPiece cX4_isPiece 2 (some .boolean) 1 := ⟨zin (i := 695) (by decide +kernel) rfl, zin (i := 48) (by decide +kernel) rfl, by decide +kernel, by decide +kernel, by decide +kernel, by decide⟩
theorem im_X4_isPiece : Cond.instanceMethod yX4_isPiece ∈ lw_all := zin (i := 694) (by decide +kernel) rfl
theorem se_X4_isPiece : Cond.selects yX4_isPiece.cls yX4_isPiece yX4_isPiece ∈ lw_all := zin (i := 26) (by decide +kernel) rfl
theorem la_X4_drop : zCal yX4_drop cX4_drop 2 (some .int) 0 := ⟨zin (i := 699) (by decide +kernel) rfl, zin (i := 48) (by decide +kernel) rfl, by decide +kernel, by decide +kernel, by decide +kernel, by decide⟩
theorem im_X4_drop : Cond.instanceMethod yX4_drop ∈ lw_all := zin (i := 697) (by decide +kernel) rfl
theorem se_X4_drop : Cond.selects yX4_drop.cls yX4_drop yX4_drop ∈ lw_all := zin (i := 698) (by decide +kernel) rfl
theorem la_X4_lay : zCal yX4_lay cX4_lay 9 (some .int) 3 := ⟨zin (i := 703) (by decide +kernel) rfl, zin (i := 48) (by decide +kernel) rfl, by decide +kernel, by decide +kernel, by decide +kernel, by decide⟩
theorem im_X4_lay : Cond.instanceMethod yX4_lay ∈ lw_all := zin (i := 701) (by decide +kernel) rfl
theorem se_X4_lay : Cond.selects yX4_lay.cls yX4_lay yX4_lay ∈ lw_all := zin (i := 702) (by decide +kernel) rfl
theorem la_X4_mayBeIn : zCal yX4_mayBeIn cX4_mayBeIn 6 (some .boolean) 3 := ⟨zin (i := 707) (by decide +kernel) rfl, zin (i := 48) (by decide +kernel) rfl, by decide +kernel, by decide +kernel, by decide +kernel, by decide⟩
theorem im_X4_mayBeIn : Cond.instanceMethod yX4_mayBeIn ∈ lw_all := zin (i := 706) (by decide +kernel) rfl
theorem se_X4_mayBeIn : Cond.selects yX4_mayBeIn.cls yX4_mayBeIn yX4_mayBeIn ∈ lw_all := zin (i := 27) (by decide +kernel) rfl
theorem la_X4_putIn : zCal yX4_putIn cX4_putIn 3 none 2 := ⟨zin (i := 711) (by decide +kernel) rfl, zin (i := 48) (by decide +kernel) rfl, by decide +kernel, by decide +kernel, by decide +kernel, by decide⟩
theorem im_X4_putIn : Cond.instanceMethod yX4_putIn ∈ lw_all := zin (i := 710) (by decide +kernel) rfl
theorem se_X4_putIn : Cond.selects yX4_putIn.cls yX4_putIn yX4_putIn ∈ lw_all := zin (i := 28) (by decide +kernel) rfl
theorem la_X4_splice : zCal yX4_splice cX4_splice 6 (some .int) 3 := ⟨zin (i := 715) (by decide +kernel) rfl, zin (i := 48) (by decide +kernel) rfl, by decide +kernel, by decide +kernel, by decide +kernel, by decide⟩
theorem im_X4_splice : Cond.instanceMethod yX4_splice ∈ lw_all := zin (i := 713) (by decide +kernel) rfl
theorem se_X4_splice : Cond.selects yX4_splice.cls yX4_splice yX4_splice ∈ lw_all := zin (i := 714) (by decide +kernel) rfl
theorem la_X4_isThick : zCal yX4_isThick cX4_isThick 2 (some .boolean) 1 := ⟨zin (i := 719) (by decide +kernel) rfl, zin (i := 48) (by decide +kernel) rfl, by decide +kernel, by decide +kernel, by decide +kernel, by decide⟩
theorem im_X4_isThick : Cond.instanceMethod yX4_isThick ∈ lw_all := zin (i := 718) (by decide +kernel) rfl
theorem se_X4_isThick : Cond.selects yX4_isThick.cls yX4_isThick yX4_isThick ∈ lw_all := zin (i := 29) (by decide +kernel) rfl
theorem la_X4_untwist : zCal yX4_untwist cX4_untwist 4 (some .int) 1 := ⟨zin (i := 723) (by decide +kernel) rfl, zin (i := 48) (by decide +kernel) rfl, by decide +kernel, by decide +kernel, by decide +kernel, by decide⟩
theorem im_X4_untwist : Cond.instanceMethod yX4_untwist ∈ lw_all := zin (i := 721) (by decide +kernel) rfl
theorem se_X4_untwist : Cond.selects yX4_untwist.cls yX4_untwist yX4_untwist ∈ lw_all := zin (i := 722) (by decide +kernel) rfl
theorem la_X4_of : zCal yX4_of cX4_of 3 (some .int) 2 := ⟨zin (i := 727) (by decide +kernel) rfl, zin (i := 48) (by decide +kernel) rfl, by decide +kernel, by decide +kernel, by decide +kernel, by decide⟩
theorem im_X4_of : Cond.instanceMethod yX4_of ∈ lw_all := zin (i := 725) (by decide +kernel) rfl
theorem se_X4_of : Cond.selects yX4_of.cls yX4_of yX4_of ∈ lw_all := zin (i := 726) (by decide +kernel) rfl
theorem la_X4_weight : zCal yX4_weight cX4_weight 5 (some .int) 1 := ⟨zin (i := 731) (by decide +kernel) rfl, zin (i := 48) (by decide +kernel) rfl, by decide +kernel, by decide +kernel, by decide +kernel, by decide⟩
theorem im_X4_weight : Cond.instanceMethod yX4_weight ∈ lw_all := zin (i := 730) (by decide +kernel) rfl
theorem se_X4_weight : Cond.selects yX4_weight.cls yX4_weight yX4_weight ∈ lw_all := zin (i := 30) (by decide +kernel) rfl
theorem la_X4_part : zCal yX4_part cX4_part 3 (some .int) 2 := ⟨zin (i := 735) (by decide +kernel) rfl, zin (i := 48) (by decide +kernel) rfl, by decide +kernel, by decide +kernel, by decide +kernel, by decide⟩
theorem im_X4_part : Cond.instanceMethod yX4_part ∈ lw_all := zin (i := 733) (by decide +kernel) rfl
theorem se_X4_part : Cond.selects yX4_part.cls yX4_part yX4_part ∈ lw_all := zin (i := 734) (by decide +kernel) rfl
theorem la_X4_count : zCal yX4_count cX4_count 4 (some .int) 1 := ⟨zin (i := 739) (by decide +kernel) rfl, zin (i := 48) (by decide +kernel) rfl, by decide +kernel, by decide +kernel, by decide +kernel, by decide⟩
theorem im_X4_count : Cond.instanceMethod yX4_count ∈ lw_all := zin (i := 737) (by decide +kernel) rfl
theorem se_X4_count : Cond.selects yX4_count.cls yX4_count yX4_count ∈ lw_all := zin (i := 738) (by decide +kernel) rfl
theorem la_X4_row : zCal yX4_row cX4_row 4 (some .int) 2 := ⟨zin (i := 743) (by decide +kernel) rfl, zin (i := 48) (by decide +kernel) rfl, by decide +kernel, by decide +kernel, by decide +kernel, by decide⟩
theorem im_X4_row : Cond.instanceMethod yX4_row ∈ lw_all := zin (i := 741) (by decide +kernel) rfl
theorem se_X4_row : Cond.selects yX4_row.cls yX4_row yX4_row ∈ lw_all := zin (i := 742) (by decide +kernel) rfl
theorem la_X4_isThere : zCal yX4_isThere cX4_isThere 2 (some .boolean) 1 := ⟨zin (i := 747) (by decide +kernel) rfl, zin (i := 48) (by decide +kernel) rfl, by decide +kernel, by decide +kernel, by decide +kernel, by decide⟩
theorem im_X4_isThere : Cond.instanceMethod yX4_isThere ∈ lw_all := zin (i := 746) (by decide +kernel) rfl
theorem se_X4_isThere : Cond.selects yX4_isThere.cls yX4_isThere yX4_isThere ∈ lw_all := zin (i := 31) (by decide +kernel) rfl
theorem la_X4_lose : zCal yX4_lose cX4_lose 3 (some .int) 1 := ⟨zin (i := 751) (by decide +kernel) rfl, zin (i := 48) (by decide +kernel) rfl, by decide +kernel, by decide +kernel, by decide +kernel, by decide⟩
theorem im_X4_lose : Cond.instanceMethod yX4_lose ∈ lw_all := zin (i := 749) (by decide +kernel) rfl
theorem se_X4_lose : Cond.selects yX4_lose.cls yX4_lose yX4_lose ∈ lw_all := zin (i := 750) (by decide +kernel) rfl
theorem la_X4_spot : zCal yX4_spot cX4_spot 8 (some .int) 5 := ⟨zin (i := 755) (by decide +kernel) rfl, zin (i := 48) (by decide +kernel) rfl, by decide +kernel, by decide +kernel, by decide +kernel, by decide⟩
theorem im_X4_spot : Cond.instanceMethod yX4_spot ∈ lw_all := zin (i := 753) (by decide +kernel) rfl
theorem se_X4_spot : Cond.selects yX4_spot.cls yX4_spot yX4_spot ∈ lw_all := zin (i := 754) (by decide +kernel) rfl
theorem la_X4_carry : zCal yX4_carry cX4_carry 8 (some .int) 5 := ⟨zin (i := 759) (by decide +kernel) rfl, zin (i := 48) (by decide +kernel) rfl, by decide +kernel, by decide +kernel, by decide +kernel, by decide⟩
theorem im_X4_carry : Cond.instanceMethod yX4_carry ∈ lw_all := zin (i := 757) (by decide +kernel) rfl
theorem se_X4_carry : Cond.selects yX4_carry.cls yX4_carry yX4_carry ∈ lw_all := zin (i := 758) (by decide +kernel) rfl
theorem la_X4_bears : zCal yX4_bears cX4_bears 3 (some .double) 2 := ⟨zin (i := 763) (by decide +kernel) rfl, zin (i := 48) (by decide +kernel) rfl, by decide +kernel, by decide +kernel, by decide +kernel, by decide⟩
theorem im_X4_bears : Cond.instanceMethod yX4_bears ∈ lw_all := zin (i := 761) (by decide +kernel) rfl
theorem se_X4_bears : Cond.selects yX4_bears.cls yX4_bears yX4_bears ∈ lw_all := zin (i := 762) (by decide +kernel) rfl
theorem la_X4_bearing : zCal yX4_bearing cX4_bearing 7 (some .float) 2 := ⟨zin (i := 768) (by decide +kernel) rfl, zin (i := 48) (by decide +kernel) rfl, by decide +kernel, by decide +kernel, by decide +kernel, by decide⟩
theorem im_X4_bearing : Cond.instanceMethod yX4_bearing ∈ lw_all := zin (i := 767) (by decide +kernel) rfl
theorem se_X4_bearing : Cond.selects yX4_bearing.cls yX4_bearing yX4_bearing ∈ lw_all := zin (i := 32) (by decide +kernel) rfl
theorem la_X4_tellPlaces : zCal yX4_tellPlaces cX4_tellPlaces 7 none 2 := ⟨zin (i := 772) (by decide +kernel) rfl, zin (i := 48) (by decide +kernel) rfl, by decide +kernel, by decide +kernel, by decide +kernel, by decide⟩
theorem im_X4_tellPlaces : Cond.instanceMethod yX4_tellPlaces ∈ lw_all := zin (i := 771) (by decide +kernel) rfl
theorem se_X4_tellPlaces : Cond.selects yX4_tellPlaces.cls yX4_tellPlaces yX4_tellPlaces ∈ lw_all := zin (i := 33) (by decide +kernel) rfl
theorem la_X4_base : zCal yX4_base cX4_base 4 (some .float) 1 := ⟨zin (i := 776) (by decide +kernel) rfl, zin (i := 48) (by decide +kernel) rfl, by decide +kernel, by decide +kernel, by decide +kernel, by decide⟩
theorem im_X4_base : Cond.instanceMethod yX4_base ∈ lw_all := zin (i := 775) (by decide +kernel) rfl
theorem se_X4_base : Cond.selects yX4_base.cls yX4_base yX4_base ∈ lw_all := zin (i := 34) (by decide +kernel) rfl
theorem la_X4_least : zCal yX4_least cX4_least 2 (some .double) 1 := ⟨zin (i := 784) (by decide +kernel) rfl, zin (i := 48) (by decide +kernel) rfl, by decide +kernel, by decide +kernel, by decide +kernel, by decide⟩
theorem im_X4_least : Cond.instanceMethod yX4_least ∈ lw_all := zin (i := 782) (by decide +kernel) rfl
theorem se_X4_least : Cond.selects yX4_least.cls yX4_least yX4_least ∈ lw_all := zin (i := 783) (by decide +kernel) rfl
theorem la_X4_leastOf : zCal yX4_leastOf cX4_leastOf 5 (some .float) 1 := ⟨zin (i := 788) (by decide +kernel) rfl, zin (i := 48) (by decide +kernel) rfl, by decide +kernel, by decide +kernel, by decide +kernel, by decide⟩
theorem im_X4_leastOf : Cond.instanceMethod yX4_leastOf ∈ lw_all := zin (i := 787) (by decide +kernel) rfl
theorem se_X4_leastOf : Cond.selects yX4_leastOf.cls yX4_leastOf yX4_leastOf ∈ lw_all := zin (i := 35) (by decide +kernel) rfl
theorem la_X4_where : zCal yX4_where cX4_where 3 (some .int) 1 := ⟨zin (i := 792) (by decide +kernel) rfl, zin (i := 48) (by decide +kernel) rfl, by decide +kernel, by decide +kernel, by decide +kernel, by decide⟩
theorem im_X4_where : Cond.instanceMethod yX4_where ∈ lw_all := zin (i := 790) (by decide +kernel) rfl
theorem se_X4_where : Cond.selects yX4_where.cls yX4_where yX4_where ∈ lw_all := zin (i := 791) (by decide +kernel) rfl
theorem la_X4_grams : zCal yX4_grams cX4_grams 2 (some .long) 1 := ⟨zin (i := 796) (by decide +kernel) rfl, zin (i := 48) (by decide +kernel) rfl, by decide +kernel, by decide +kernel, by decide +kernel, by decide⟩
theorem im_X4_grams : Cond.instanceMethod yX4_grams ∈ lw_all := zin (i := 794) (by decide +kernel) rfl
theorem se_X4_grams : Cond.selects yX4_grams.cls yX4_grams yX4_grams ∈ lw_all := zin (i := 795) (by decide +kernel) rfl
theorem la_X4_rest : zCal yX4_rest cX4_rest 3 (some .double) 2 := ⟨zin (i := 802) (by decide +kernel) rfl, zin (i := 48) (by decide +kernel) rfl, by decide +kernel, by decide +kernel, by decide +kernel, by decide⟩
theorem im_X4_rest : Cond.instanceMethod yX4_rest ∈ lw_all := zin (i := 800) (by decide +kernel) rfl
theorem se_X4_rest : Cond.selects yX4_rest.cls yX4_rest yX4_rest ∈ lw_all := zin (i := 801) (by decide +kernel) rfl
theorem la_X4_left : zCal yX4_left cX4_left 3 (some .double) 2 := ⟨zin (i := 806) (by decide +kernel) rfl, zin (i := 48) (by decide +kernel) rfl, by decide +kernel, by decide +kernel, by decide +kernel, by decide⟩
theorem im_X4_left : Cond.instanceMethod yX4_left ∈ lw_all := zin (i := 804) (by decide +kernel) rfl
theorem se_X4_left : Cond.selects yX4_left.cls yX4_left yX4_left ∈ lw_all := zin (i := 805) (by decide +kernel) rfl
theorem la_X4_turned : zCal yX4_turned cX4_turned 8 (some .long) 3 := ⟨zin (i := 812) (by decide +kernel) rfl, zin (i := 48) (by decide +kernel) rfl, by decide +kernel, by decide +kernel, by decide +kernel, by decide⟩
theorem im_X4_turned : Cond.instanceMethod yX4_turned ∈ lw_all := zin (i := 810) (by decide +kernel) rfl
theorem se_X4_turned : Cond.selects yX4_turned.cls yX4_turned yX4_turned ∈ lw_all := zin (i := 811) (by decide +kernel) rfl
theorem la_X4_floor : zCal yX4_floor cX4_floor 4 (some .long) 1 := ⟨zin (i := 817) (by decide +kernel) rfl, zin (i := 48) (by decide +kernel) rfl, by decide +kernel, by decide +kernel, by decide +kernel, by decide⟩
theorem sm_X4_floor : Cond.static yX4_floor ∈ lw_all := zin (i := 816) (by decide +kernel) rfl
theorem la_X4_nearest : zCal yX4_nearest cX4_nearest 6 (some .long) 1 := ⟨zin (i := 820) (by decide +kernel) rfl, zin (i := 48) (by decide +kernel) rfl, by decide +kernel, by decide +kernel, by decide +kernel, by decide⟩
theorem sm_X4_nearest : Cond.static yX4_nearest ∈ lw_all := zin (i := 819) (by decide +kernel) rfl
theorem la_X4_hang : zCal yX4_hang cX4_hang 3 (some .int) 2 := ⟨zin (i := 831) (by decide +kernel) rfl, zin (i := 48) (by decide +kernel) rfl, by decide +kernel, by decide +kernel, by decide +kernel, by decide⟩
theorem im_X4_hang : Cond.instanceMethod yX4_hang ∈ lw_all := zin (i := 829) (by decide +kernel) rfl
theorem se_X4_hang : Cond.selects yX4_hang.cls yX4_hang yX4_hang ∈ lw_all := zin (i := 830) (by decide +kernel) rfl
theorem la_X4_isReel : zCal yX4_isReel cX4_isReel 2 (some .boolean) 1 := ⟨zin (i := 835) (by decide +kernel) rfl, zin (i := 48) (by decide +kernel) rfl, by decide +kernel, by decide +kernel, by decide +kernel, by decide⟩
theorem im_X4_isReel : Cond.instanceMethod yX4_isReel ∈ lw_all := zin (i := 834) (by decide +kernel) rfl
theorem se_X4_isReel : Cond.selects yX4_isReel.cls yX4_isReel yX4_isReel ∈ lw_all := zin (i := 36) (by decide +kernel) rfl
theorem la_X4_off : zCal yX4_off cX4_off 3 (some .int) 1 := ⟨zin (i := 839) (by decide +kernel) rfl, zin (i := 48) (by decide +kernel) rfl, by decide +kernel, by decide +kernel, by decide +kernel, by decide⟩
theorem im_X4_off : Cond.instanceMethod yX4_off ∈ lw_all := zin (i := 837) (by decide +kernel) rfl
theorem se_X4_off : Cond.selects yX4_off.cls yX4_off yX4_off ∈ lw_all := zin (i := 838) (by decide +kernel) rfl
theorem la_X4_isCutFrom : zCal yX4_isCutFrom cX4_isCutFrom 4 (some .boolean) 1 := ⟨zin (i := 843) (by decide +kernel) rfl, zin (i := 48) (by decide +kernel) rfl, by decide +kernel, by decide +kernel, by decide +kernel, by decide⟩
theorem im_X4_isCutFrom : Cond.instanceMethod yX4_isCutFrom ∈ lw_all := zin (i := 842) (by decide +kernel) rfl
theorem se_X4_isCutFrom : Cond.selects yX4_isCutFrom.cls yX4_isCutFrom yX4_isCutFrom ∈ lw_all := zin (i := 37) (by decide +kernel) rfl
theorem la_X4_take : zCal yX4_take cX4_take 4 (some .int) 2 := ⟨zin (i := 847) (by decide +kernel) rfl, zin (i := 48) (by decide +kernel) rfl, by decide +kernel, by decide +kernel, by decide +kernel, by decide⟩
theorem im_X4_take : Cond.instanceMethod yX4_take ∈ lw_all := zin (i := 845) (by decide +kernel) rfl
theorem se_X4_take : Cond.selects yX4_take.cls yX4_take yX4_take ∈ lw_all := zin (i := 846) (by decide +kernel) rfl
theorem la_X4_above : zCal yX4_above cX4_above 1 (some .int) 1 := ⟨zin (i := 850) (by decide +kernel) rfl, zin (i := 48) (by decide +kernel) rfl, by decide +kernel, by decide +kernel, by decide +kernel, by decide⟩
theorem sm_X4_above : Cond.static yX4_above ∈ lw_all := zin (i := 849) (by decide +kernel) rfl
theorem la_X4_order : zCal yX4_order cX4_order 3 (some .int) 2 := ⟨zin (i := 854) (by decide +kernel) rfl, zin (i := 48) (by decide +kernel) rfl, by decide +kernel, by decide +kernel, by decide +kernel, by decide⟩
theorem im_X4_order : Cond.instanceMethod yX4_order ∈ lw_all := zin (i := 852) (by decide +kernel) rfl
theorem se_X4_order : Cond.selects yX4_order.cls yX4_order yX4_order ∈ lw_all := zin (i := 853) (by decide +kernel) rfl
theorem la_X4_cut : zCal yX4_cut cX4_cut 2 (some .int) 1 := ⟨zin (i := 859) (by decide +kernel) rfl, zin (i := 48) (by decide +kernel) rfl, by decide +kernel, by decide +kernel, by decide +kernel, by decide⟩
theorem im_X4_cut : Cond.instanceMethod yX4_cut ∈ lw_all := zin (i := 857) (by decide +kernel) rfl
theorem se_X4_cut : Cond.selects yX4_cut.cls yX4_cut yX4_cut ∈ lw_all := zin (i := 858) (by decide +kernel) rfl
theorem la_X4_hungReels : zCal yX4_hungReels cX4_hungReels 3 (some .int) 0 := ⟨zin (i := 863) (by decide +kernel) rfl, zin (i := 48) (by decide +kernel) rfl, by decide +kernel, by decide +kernel, by decide +kernel, by decide⟩
theorem im_X4_hungReels : Cond.instanceMethod yX4_hungReels ∈ lw_all := zin (i := 862) (by decide +kernel) rfl
theorem se_X4_hungReels : Cond.selects yX4_hungReels.cls yX4_hungReels yX4_hungReels ∈ lw_all := zin (i := 38) (by decide +kernel) rfl
theorem la_X4_look : zCal yX4_look cX4_look 3 none 1 := ⟨zin (i := 867) (by decide +kernel) rfl, zin (i := 48) (by decide +kernel) rfl, by decide +kernel, by decide +kernel, by decide +kernel, by decide⟩
theorem im_X4_look : Cond.instanceMethod yX4_look ∈ lw_all := zin (i := 866) (by decide +kernel) rfl
theorem se_X4_look : Cond.selects yX4_look.cls yX4_look yX4_look ∈ lw_all := zin (i := 39) (by decide +kernel) rfl
theorem la_X4_cutFrom : zCal yX4_cutFrom cX4_cutFrom 5 (some .boolean) 2 := ⟨zin (i := 871) (by decide +kernel) rfl, zin (i := 48) (by decide +kernel) rfl, by decide +kernel, by decide +kernel, by decide +kernel, by decide⟩
theorem im_X4_cutFrom : Cond.instanceMethod yX4_cutFrom ∈ lw_all := zin (i := 870) (by decide +kernel) rfl
theorem se_X4_cutFrom : Cond.selects yX4_cutFrom.cls yX4_cutFrom yX4_cutFrom ∈ lw_all := zin (i := 40) (by decide +kernel) rfl
theorem la_X4_fit : zCal yX4_fit cX4_fit 5 (some .int) 2 := ⟨zin (i := 875) (by decide +kernel) rfl, zin (i := 48) (by decide +kernel) rfl, by decide +kernel, by decide +kernel, by decide +kernel, by decide⟩
theorem im_X4_fit : Cond.instanceMethod yX4_fit ∈ lw_all := zin (i := 874) (by decide +kernel) rfl
theorem se_X4_fit : Cond.selects yX4_fit.cls yX4_fit yX4_fit ∈ lw_all := zin (i := 41) (by decide +kernel) rfl
theorem la_X4_markTaken : zCal yX4_markTaken cX4_markTaken 4 none 1 := ⟨zin (i := 879) (by decide +kernel) rfl, zin (i := 48) (by decide +kernel) rfl, by decide +kernel, by decide +kernel, by decide +kernel, by decide⟩
theorem im_X4_markTaken : Cond.instanceMethod yX4_markTaken ∈ lw_all := zin (i := 878) (by decide +kernel) rfl
theorem se_X4_markTaken : Cond.selects yX4_markTaken.cls yX4_markTaken yX4_markTaken ∈ lw_all := zin (i := 42) (by decide +kernel) rfl
theorem la_X4_join : zCal yX4_join cX4_join 3 (some .int) 1 := ⟨zin (i := 883) (by decide +kernel) rfl, zin (i := 48) (by decide +kernel) rfl, by decide +kernel, by decide +kernel, by decide +kernel, by decide⟩
theorem im_X4_join : Cond.instanceMethod yX4_join ∈ lw_all := zin (i := 881) (by decide +kernel) rfl
theorem se_X4_join : Cond.selects yX4_join.cls yX4_join yX4_join ∈ lw_all := zin (i := 882) (by decide +kernel) rfl
theorem la_X4_begun : zCal yX4_begun cX4_begun 3 (some .int) 0 := ⟨zin (i := 887) (by decide +kernel) rfl, zin (i := 48) (by decide +kernel) rfl, by decide +kernel, by decide +kernel, by decide +kernel, by decide⟩
theorem im_X4_begun : Cond.instanceMethod yX4_begun ∈ lw_all := zin (i := 885) (by decide +kernel) rfl
theorem se_X4_begun : Cond.selects yX4_begun.cls yX4_begun yX4_begun ∈ lw_all := zin (i := 886) (by decide +kernel) rfl
theorem la_X4_fewest : zCal yX4_fewest cX4_fewest 7 (some .int) 0 := ⟨zin (i := 891) (by decide +kernel) rfl, zin (i := 48) (by decide +kernel) rfl, by decide +kernel, by decide +kernel, by decide +kernel, by decide⟩
theorem im_X4_fewest : Cond.instanceMethod yX4_fewest ∈ lw_all := zin (i := 889) (by decide +kernel) rfl
theorem se_X4_fewest : Cond.selects yX4_fewest.cls yX4_fewest yX4_fewest ∈ lw_all := zin (i := 890) (by decide +kernel) rfl
theorem la_X4_serves : zCal yX4_serves cX4_serves 4 (some .boolean) 1 := ⟨zin (i := 895) (by decide +kernel) rfl, zin (i := 48) (by decide +kernel) rfl, by decide +kernel, by decide +kernel, by decide +kernel, by decide⟩
theorem im_X4_serves : Cond.instanceMethod yX4_serves ∈ lw_all := zin (i := 894) (by decide +kernel) rfl
theorem se_X4_serves : Cond.selects yX4_serves.cls yX4_serves yX4_serves ∈ lw_all := zin (i := 43) (by decide +kernel) rfl
theorem la_X4_stage : zCal yX4_stage cX4_stage 2 (some .int) 1 := ⟨zin (i := 899) (by decide +kernel) rfl, zin (i := 48) (by decide +kernel) rfl, by decide +kernel, by decide +kernel, by decide +kernel, by decide⟩
theorem im_X4_stage : Cond.instanceMethod yX4_stage ∈ lw_all := zin (i := 897) (by decide +kernel) rfl
theorem se_X4_stage : Cond.selects yX4_stage.cls yX4_stage yX4_stage ∈ lw_all := zin (i := 898) (by decide +kernel) rfl
theorem la_X4_unstage : zCal yX4_unstage cX4_unstage 1 (some .int) 0 := ⟨zin (i := 903) (by decide +kernel) rfl, zin (i := 48) (by decide +kernel) rfl, by decide +kernel, by decide +kernel, by decide +kernel, by decide⟩
theorem im_X4_unstage : Cond.instanceMethod yX4_unstage ∈ lw_all := zin (i := 901) (by decide +kernel) rfl
theorem se_X4_unstage : Cond.selects yX4_unstage.cls yX4_unstage yX4_unstage ∈ lw_all := zin (i := 902) (by decide +kernel) rfl
theorem la_X4_pull : zCal yX4_pull cX4_pull 5 (some .long) 2 := ⟨zin (i := 907) (by decide +kernel) rfl, zin (i := 48) (by decide +kernel) rfl, by decide +kernel, by decide +kernel, by decide +kernel, by decide⟩
theorem im_X4_pull : Cond.instanceMethod yX4_pull ∈ lw_all := zin (i := 905) (by decide +kernel) rfl
theorem se_X4_pull : Cond.selects yX4_pull.cls yX4_pull yX4_pull ∈ lw_all := zin (i := 906) (by decide +kernel) rfl
theorem la_X4_product : zCal yX4_product cX4_product 5 (some .long) 1 := ⟨zin (i := 911) (by decide +kernel) rfl, zin (i := 48) (by decide +kernel) rfl, by decide +kernel, by decide +kernel, by decide +kernel, by decide⟩
theorem im_X4_product : Cond.instanceMethod yX4_product ∈ lw_all := zin (i := 910) (by decide +kernel) rfl
theorem se_X4_product : Cond.selects yX4_product.cls yX4_product yX4_product ∈ lw_all := zin (i := 44) (by decide +kernel) rfl
theorem la_X4_lowest : zCal yX4_lowest cX4_lowest 11 (some .long) 3 := ⟨zin (i := 914) (by decide +kernel) rfl, zin (i := 48) (by decide +kernel) rfl, by decide +kernel, by decide +kernel, by decide +kernel, by decide⟩
theorem sm_X4_lowest : Cond.static yX4_lowest ∈ lw_all := zin (i := 913) (by decide +kernel) rfl
theorem la_X4_stress : zCal yX4_stress cX4_stress 6 (some .long) 3 := ⟨zin (i := 918) (by decide +kernel) rfl, zin (i := 48) (by decide +kernel) rfl, by decide +kernel, by decide +kernel, by decide +kernel, by decide⟩
theorem im_X4_stress : Cond.instanceMethod yX4_stress ∈ lw_all := zin (i := 916) (by decide +kernel) rfl
theorem se_X4_stress : Cond.selects yX4_stress.cls yX4_stress yX4_stress ∈ lw_all := zin (i := 917) (by decide +kernel) rfl
theorem ml_L_9 : Cond.methodLink RL 9 yX3_init ∈ lw_all := zin (i := 55) (by decide +kernel) rfl
theorem ml_L_12 : Cond.methodLink RL 12 yX4_init ∈ lw_all := zin (i := 552) (by decide +kernel) rfl
theorem ml_L_13 : Cond.methodLink RL 13 yX3_yarn ∈ lw_all := zin (i := 117) (by decide +kernel) rfl
theorem ml_L_17 : Cond.methodLink RL 17 yX4_yarn ∈ lw_all := zin (i := 666) (by decide +kernel) rfl
theorem ml_L_18 : Cond.methodLink RL 18 yX3_tape ∈ lw_all := zin (i := 191) (by decide +kernel) rfl
theorem ml_L_21 : Cond.methodLink RL 21 yX4_tape ∈ lw_all := zin (i := 680) (by decide +kernel) rfl
theorem ml_L_22 : Cond.methodLink RL 22 yX3_pick ∈ lw_all := zin (i := 195) (by decide +kernel) rfl
theorem ml_L_26 : Cond.methodLink RL 26 yX4_pick ∈ lw_all := zin (i := 684) (by decide +kernel) rfl
theorem ml_L_27 : Cond.methodLink RL 27 yX3_drop ∈ lw_all := zin (i := 211) (by decide +kernel) rfl
theorem ml_L_31 : Cond.methodLink RL 31 yX4_drop ∈ lw_all := zin (i := 696) (by decide +kernel) rfl
theorem ml_L_32 : Cond.methodLink RL 32 yX3_lay ∈ lw_all := zin (i := 215) (by decide +kernel) rfl
theorem ml_L_36 : Cond.methodLink RL 36 yX4_lay ∈ lw_all := zin (i := 700) (by decide +kernel) rfl
theorem ml_L_37 : Cond.methodLink RL 37 yX3_splice ∈ lw_all := zin (i := 249) (by decide +kernel) rfl
theorem ml_L_40 : Cond.methodLink RL 40 yX4_splice ∈ lw_all := zin (i := 712) (by decide +kernel) rfl
theorem ml_L_41 : Cond.methodLink RL 41 yX3_untwist ∈ lw_all := zin (i := 256) (by decide +kernel) rfl
theorem ml_L_44 : Cond.methodLink RL 44 yX4_untwist ∈ lw_all := zin (i := 720) (by decide +kernel) rfl
theorem ml_L_45 : Cond.methodLink RL 45 yX3_of ∈ lw_all := zin (i := 260) (by decide +kernel) rfl
theorem ml_L_48 : Cond.methodLink RL 48 yX4_of ∈ lw_all := zin (i := 724) (by decide +kernel) rfl
theorem ml_L_49 : Cond.methodLink RL 49 yX3_part ∈ lw_all := zin (i := 264) (by decide +kernel) rfl
theorem ml_L_52 : Cond.methodLink RL 52 yX4_part ∈ lw_all := zin (i := 732) (by decide +kernel) rfl
theorem ml_L_53 : Cond.methodLink RL 53 yX3_count ∈ lw_all := zin (i := 268) (by decide +kernel) rfl
theorem ml_L_56 : Cond.methodLink RL 56 yX4_count ∈ lw_all := zin (i := 736) (by decide +kernel) rfl
theorem ml_L_57 : Cond.methodLink RL 57 yX3_row ∈ lw_all := zin (i := 280) (by decide +kernel) rfl
theorem ml_L_60 : Cond.methodLink RL 60 yX4_row ∈ lw_all := zin (i := 740) (by decide +kernel) rfl
theorem ml_L_61 : Cond.methodLink RL 61 yX3_lose ∈ lw_all := zin (i := 288) (by decide +kernel) rfl
theorem ml_L_64 : Cond.methodLink RL 64 yX4_lose ∈ lw_all := zin (i := 748) (by decide +kernel) rfl
theorem ml_L_65 : Cond.methodLink RL 65 yX3_spot ∈ lw_all := zin (i := 292) (by decide +kernel) rfl
theorem ml_L_69 : Cond.methodLink RL 69 yX4_spot ∈ lw_all := zin (i := 752) (by decide +kernel) rfl
theorem ml_L_70 : Cond.methodLink RL 70 yX3_carry ∈ lw_all := zin (i := 296) (by decide +kernel) rfl
theorem ml_L_73 : Cond.methodLink RL 73 yX4_carry ∈ lw_all := zin (i := 756) (by decide +kernel) rfl
theorem ml_L_74 : Cond.methodLink RL 74 yX3_bears ∈ lw_all := zin (i := 309) (by decide +kernel) rfl
theorem ml_L_78 : Cond.methodLink RL 78 yX4_bears ∈ lw_all := zin (i := 760) (by decide +kernel) rfl
theorem ml_L_79 : Cond.methodLink RL 79 yX3_least ∈ lw_all := zin (i := 335) (by decide +kernel) rfl
theorem ml_L_83 : Cond.methodLink RL 83 yX4_least ∈ lw_all := zin (i := 781) (by decide +kernel) rfl
theorem ml_L_84 : Cond.methodLink RL 84 yX3_where ∈ lw_all := zin (i := 357) (by decide +kernel) rfl
theorem ml_L_87 : Cond.methodLink RL 87 yX4_where ∈ lw_all := zin (i := 789) (by decide +kernel) rfl
theorem ml_L_88 : Cond.methodLink RL 88 yX3_grams ∈ lw_all := zin (i := 361) (by decide +kernel) rfl
theorem ml_L_92 : Cond.methodLink RL 92 yX4_grams ∈ lw_all := zin (i := 793) (by decide +kernel) rfl
theorem ml_L_93 : Cond.methodLink RL 93 yX3_rest ∈ lw_all := zin (i := 367) (by decide +kernel) rfl
theorem ml_L_96 : Cond.methodLink RL 96 yX4_rest ∈ lw_all := zin (i := 799) (by decide +kernel) rfl
theorem ml_L_97 : Cond.methodLink RL 97 yX3_left ∈ lw_all := zin (i := 374) (by decide +kernel) rfl
theorem ml_L_100 : Cond.methodLink RL 100 yX4_left ∈ lw_all := zin (i := 803) (by decide +kernel) rfl
theorem ml_L_101 : Cond.methodLink RL 101 yX3_turned ∈ lw_all := zin (i := 380) (by decide +kernel) rfl
theorem ml_L_105 : Cond.methodLink RL 105 yX4_turned ∈ lw_all := zin (i := 809) (by decide +kernel) rfl
theorem ml_L_106 : Cond.methodLink RL 106 yX3_hang ∈ lw_all := zin (i := 405) (by decide +kernel) rfl
theorem ml_L_109 : Cond.methodLink RL 109 yX4_hang ∈ lw_all := zin (i := 828) (by decide +kernel) rfl
theorem ml_L_110 : Cond.methodLink RL 110 yX3_off ∈ lw_all := zin (i := 412) (by decide +kernel) rfl
theorem ml_L_113 : Cond.methodLink RL 113 yX4_off ∈ lw_all := zin (i := 836) (by decide +kernel) rfl
theorem ml_L_114 : Cond.methodLink RL 114 yX3_take ∈ lw_all := zin (i := 420) (by decide +kernel) rfl
theorem ml_L_117 : Cond.methodLink RL 117 yX4_take ∈ lw_all := zin (i := 844) (by decide +kernel) rfl
theorem ml_L_118 : Cond.methodLink RL 118 yX3_order ∈ lw_all := zin (i := 429) (by decide +kernel) rfl
theorem ml_L_121 : Cond.methodLink RL 121 yX4_order ∈ lw_all := zin (i := 851) (by decide +kernel) rfl
theorem ml_L_122 : Cond.methodLink RL 122 yX3_cut ∈ lw_all := zin (i := 462) (by decide +kernel) rfl
theorem ml_L_125 : Cond.methodLink RL 125 yX4_cut ∈ lw_all := zin (i := 856) (by decide +kernel) rfl
theorem ml_L_126 : Cond.methodLink RL 126 yX3_join ∈ lw_all := zin (i := 493) (by decide +kernel) rfl
theorem ml_L_129 : Cond.methodLink RL 129 yX4_join ∈ lw_all := zin (i := 880) (by decide +kernel) rfl
theorem ml_L_130 : Cond.methodLink RL 130 yX3_begun ∈ lw_all := zin (i := 497) (by decide +kernel) rfl
theorem ml_L_133 : Cond.methodLink RL 133 yX4_begun ∈ lw_all := zin (i := 884) (by decide +kernel) rfl
theorem ml_L_134 : Cond.methodLink RL 134 yX3_fewest ∈ lw_all := zin (i := 505) (by decide +kernel) rfl
theorem ml_L_137 : Cond.methodLink RL 137 yX4_fewest ∈ lw_all := zin (i := 888) (by decide +kernel) rfl
theorem ml_L_138 : Cond.methodLink RL 138 yX3_stage ∈ lw_all := zin (i := 521) (by decide +kernel) rfl
theorem ml_L_141 : Cond.methodLink RL 141 yX4_stage ∈ lw_all := zin (i := 896) (by decide +kernel) rfl
theorem ml_L_142 : Cond.methodLink RL 142 yX3_unstage ∈ lw_all := zin (i := 525) (by decide +kernel) rfl
theorem ml_L_145 : Cond.methodLink RL 145 yX4_unstage ∈ lw_all := zin (i := 900) (by decide +kernel) rfl
theorem ml_L_146 : Cond.methodLink RL 146 yX3_pull ∈ lw_all := zin (i := 529) (by decide +kernel) rfl
theorem ml_L_150 : Cond.methodLink RL 150 yX4_pull ∈ lw_all := zin (i := 904) (by decide +kernel) rfl
theorem ml_L_151 : Cond.methodLink RL 151 yX3_stress ∈ lw_all := zin (i := 546) (by decide +kernel) rfl
theorem ml_L_154 : Cond.methodLink RL 154 yX4_stress ∈ lw_all := zin (i := 915) (by decide +kernel) rfl
theorem ml_X0_1 : Cond.methodLink RX0 1 objectInit ∈ lw_all := zin (i := 438) (by decide +kernel) rfl
theorem ml_X1_3 : Cond.methodLink RX1 3 objectInit ∈ lw_all := zin (i := 131) (by decide +kernel) rfl
theorem ml_X2_3 : Cond.methodLink RX2 3 objectInit ∈ lw_all := zin (i := 71) (by decide +kernel) rfl
theorem ml_X3_1 : Cond.methodLink RX3 1 objectInit ∈ lw_all := zin (i := 58) (by decide +kernel) rfl
theorem mn_X3_34 : Cond.methodLinkNest RX3 34 yX2_init "RopeWalk" ∈ lw_nst := znin (i := 68) (by decide +kernel) rfl
theorem ml_X3_35 : Cond.methodLink RX3 35 yX3_spin ∈ lw_all := zin (i := 121) (by decide +kernel) rfl
theorem mn_X3_45 : Cond.methodLinkNest RX3 45 yX1_init "RopeWalk" ∈ lw_nst := znin (i := 128) (by decide +kernel) rfl
theorem ml_X3_56 : Cond.methodLink RX3 56 yX3_keep ∈ lw_all := zin (i := 187) (by decide +kernel) rfl
theorem ml_X3_63 : Cond.methodLink RX3 63 yX3_pieceAt ∈ lw_all := zin (i := 203) (by decide +kernel) rfl
theorem ml_X3_70 : Cond.methodLink RX3 70 yX3_freePiece ∈ lw_all := zin (i := 199) (by decide +kernel) rfl
theorem ml_X3_73 : Cond.methodLink RX3 73 yX3_isPicked ∈ lw_all := zin (i := 207) (by decide +kernel) rfl
theorem ml_X3_80 : Cond.methodLink RX3 80 yX3_canHold ∈ lw_all := zin (i := 219) (by decide +kernel) rfl
theorem ml_X3_84 : Cond.methodLink RX3 84 yX3_pickedFit ∈ lw_all := zin (i := 222) (by decide +kernel) rfl
theorem ml_X3_87 : Cond.methodLink RX3 87 yX3_shortestPicked ∈ lw_all := zin (i := 232) (by decide +kernel) rfl
theorem ml_X3_91 : Cond.methodLink RX3 91 yX3_pickedParts ∈ lw_all := zin (i := 239) (by decide +kernel) rfl
theorem ml_X3_95 : Cond.methodLink RX3 95 yX3_takeParts ∈ lw_all := zin (i := 246) (by decide +kernel) rfl
theorem ml_X3_99 : Cond.methodLink RX3 99 yX3_canBePart ∈ lw_all := zin (i := 226) (by decide +kernel) rfl
theorem ml_X3_109 : Cond.methodLink RX3 109 yX3_otherTwist ∈ lw_all := zin (i := 229) (by decide +kernel) rfl
theorem ml_X3_116 : Cond.methodLink RX3 116 Lib.Math.min.name ∈ lw_all := zin (i := 236) (by decide +kernel) rfl
theorem ml_X3_122 : Cond.methodLink RX3 122 Lib.Math.max.name ∈ lw_all := zin (i := 243) (by decide +kernel) rfl
theorem ml_X3_131 : Cond.methodLink RX3 131 yX3_canBeSpliced ∈ lw_all := zin (i := 253) (by decide +kernel) rfl
theorem ml_X3_140 : Cond.methodLink RX3 140 yX3_piecesThatAre ∈ lw_all := zin (i := 272) (by decide +kernel) rfl
theorem ml_X3_146 : Cond.methodLink RX3 146 yX3_cutOrders ∈ lw_all := zin (i := 276) (by decide +kernel) rfl
theorem ml_X3_152 : Cond.methodLink RX3 152 yX3_pieceNotGone ∈ lw_all := zin (i := 284) (by decide +kernel) rfl
theorem ml_X3_164 : Cond.methodLink RX3 164 yX3_hasSpots ∈ lw_all := zin (i := 300) (by decide +kernel) rfl
theorem ml_X3_168 : Cond.methodLink RX3 168 arraycopyName ∈ lw_all := zin (i := 303) (by decide +kernel) rfl
theorem ml_X3_174 : Cond.methodLink RX3 174 yX3_toldSpots ∈ lw_all := zin (i := 306) (by decide +kernel) rfl
theorem ml_X3_177 : Cond.methodLink RX3 177 yX3_splicedBase ∈ lw_all := zin (i := 317) (by decide +kernel) rfl
theorem ml_X3_181 : Cond.methodLink RX3 181 yX3_laidBase ∈ lw_all := zin (i := 323) (by decide +kernel) rfl
theorem ml_X3_184 : Cond.methodLink RX3 184 yX3_worn ∈ lw_all := zin (i := 332) (by decide +kernel) rfl
theorem ml_X3_188 : Cond.methodLink RX3 188 yX3_placeOn ∈ lw_all := zin (i := 326) (by decide +kernel) rfl
theorem ml_X3_192 : Cond.methodLink RX3 192 yX3_bearing ∈ lw_all := zin (i := 314) (by decide +kernel) rfl
theorem ml_X3_198 : Cond.methodLink RX3 198 yX3_splicedFrom ∈ lw_all := zin (i := 320) (by decide +kernel) rfl
theorem ml_X3_202 : Cond.methodLink RX3 202 yX3_splicedSteadyTo ∈ lw_all := zin (i := 348) (by decide +kernel) rfl
theorem ml_X3_206 : Cond.methodLink RX3 206 yX3_laidSteadyTo ∈ lw_all := zin (i := 351) (by decide +kernel) rfl
theorem ml_X3_209 : Cond.methodLink RX3 209 yX3_rowSteadyTo ∈ lw_all := zin (i := 354) (by decide +kernel) rfl
theorem ml_X3_213 : Cond.methodLink RX3 213 yX3_steadyTo ∈ lw_all := zin (i := 345) (by decide +kernel) rfl
theorem ml_X3_216 : Cond.methodLink RX3 216 yX3_weakestPlace ∈ lw_all := zin (i := 342) (by decide +kernel) rfl
theorem ml_X3_221 : Cond.methodLink RX3 221 yX3_leastBorne ∈ lw_all := zin (i := 339) (by decide +kernel) rfl
theorem ml_X3_228 : Cond.methodLink RX3 228 yX3_remainder ∈ lw_all := zin (i := 371) (by decide +kernel) rfl
theorem ml_X3_237 : Cond.methodLink RX3 237 yX3_turnedFloat ∈ lw_all := zin (i := 385) (by decide +kernel) rfl
theorem ml_X3_243 : Cond.methodLink RX3 243 yX3_turnedDouble ∈ lw_all := zin (i := 393) (by decide +kernel) rfl
theorem ml_X3_247 : Cond.methodLink RX3 247 yX3_notAbove ∈ lw_all := zin (i := 396) (by decide +kernel) rfl
theorem ml_X3_251 : Cond.methodLink RX3 251 yX3_nearest ∈ lw_all := zin (i := 399) (by decide +kernel) rfl
theorem ml_X3_266 : Cond.methodLink RX3 266 yX3_isReel ∈ lw_all := zin (i := 409) (by decide +kernel) rfl
theorem ml_X3_274 : Cond.methodLink RX3 274 yX3_isCutFrom ∈ lw_all := zin (i := 416) (by decide +kernel) rfl
theorem ml_X3_277 : Cond.methodLink RX3 277 yX3_isOfKind ∈ lw_all := zin (i := 424) (by decide +kernel) rfl
theorem mn_X3_285 : Cond.methodLinkNest RX3 285 yX0_init "RopeWalk" ∈ lw_nst := znin (i := 435) (by decide +kernel) rfl
theorem ml_X3_288 : Cond.methodLink RX3 288 yX3_orderAt ∈ lw_all := zin (i := 466) (by decide +kernel) rfl
theorem ml_X3_295 : Cond.methodLink RX3 295 yX3_measureReels ∈ lw_all := zin (i := 470) (by decide +kernel) rfl
theorem ml_X3_298 : Cond.methodLink RX3 298 yX3_startTrial ∈ lw_all := zin (i := 477) (by decide +kernel) rfl
theorem ml_X3_301 : Cond.methodLink RX3 301 yX3_firstFit ∈ lw_all := zin (i := 481) (by decide +kernel) rfl
theorem ml_X3_308 : Cond.methodLink RX3 308 yX3_lengthOn ∈ lw_all := zin (i := 501) (by decide +kernel) rfl
theorem ml_X3_311 : Cond.methodLink RX3 311 yX3_unbegunReels ∈ lw_all := zin (i := 509) (by decide +kernel) rfl
theorem ml_X3_314 : Cond.methodLink RX3 314 yX3_lengthTogether ∈ lw_all := zin (i := 513) (by decide +kernel) rfl
theorem ml_X3_317 : Cond.methodLink RX3 317 yX3_allFit ∈ lw_all := zin (i := 517) (by decide +kernel) rfl
theorem ml_X3_326 : Cond.methodLink RX3 326 yX3_fitOn ∈ lw_all := zin (i := 485) (by decide +kernel) rfl
theorem ml_X3_344 : Cond.methodLink RX3 344 yX3_besideTrials ∈ lw_all := zin (i := 489) (by decide +kernel) rfl
theorem ml_X3_347 : Cond.methodLink RX3 347 yX3_measure ∈ lw_all := zin (i := 474) (by decide +kernel) rfl
theorem ml_X3_351 : Cond.methodLink RX3 351 yX3_ropesOfFirst ∈ lw_all := zin (i := 533) (by decide +kernel) rfl
theorem ml_X3_355 : Cond.methodLink RX3 355 yX3_canAskLoad ∈ lw_all := zin (i := 537) (by decide +kernel) rfl
theorem ml_X3_358 : Cond.methodLink RX3 358 yX3_lowestTerms ∈ lw_all := zin (i := 540) (by decide +kernel) rfl
theorem ml_X3_362 : Cond.methodLink RX3 362 yX3_greatestDivisor ∈ lw_all := zin (i := 543) (by decide +kernel) rfl
theorem ml_X4_1 : Cond.methodLink RX4 1 objectInit ∈ lw_all := zin (i := 555) (by decide +kernel) rfl
theorem ml_X4_109 : Cond.methodLink RX4 109 yX4_isPiece ∈ lw_all := zin (i := 692) (by decide +kernel) rfl
theorem ml_X4_114 : Cond.methodLink RX4 114 yX4_newPiece ∈ lw_all := zin (i := 675) (by decide +kernel) rfl
theorem ml_X4_119 : Cond.methodLink RX4 119 yX4_single ∈ lw_all := zin (i := 670) (by decide +kernel) rfl
theorem ml_X4_122 : Cond.methodLink RX4 122 yX4_isFree ∈ lw_all := zin (i := 688) (by decide +kernel) rfl
theorem ml_X4_128 : Cond.methodLink RX4 128 yX4_mayBeIn ∈ lw_all := zin (i := 704) (by decide +kernel) rfl
theorem ml_X4_132 : Cond.methodLink RX4 132 yX4_putIn ∈ lw_all := zin (i := 708) (by decide +kernel) rfl
theorem ml_X4_136 : Cond.methodLink RX4 136 yX4_isThick ∈ lw_all := zin (i := 716) (by decide +kernel) rfl
theorem ml_X4_139 : Cond.methodLink RX4 139 yX4_weight ∈ lw_all := zin (i := 728) (by decide +kernel) rfl
theorem ml_X4_149 : Cond.methodLink RX4 149 yX4_isThere ∈ lw_all := zin (i := 744) (by decide +kernel) rfl
theorem ml_X4_156 : Cond.methodLink RX4 156 yX4_tellPlaces ∈ lw_all := zin (i := 769) (by decide +kernel) rfl
theorem ml_X4_159 : Cond.methodLink RX4 159 yX4_base ∈ lw_all := zin (i := 773) (by decide +kernel) rfl
theorem ml_X4_163 : Cond.methodLink RX4 163 yX4_bearing ∈ lw_all := zin (i := 765) (by decide +kernel) rfl
theorem ml_X4_172 : Cond.methodLink RX4 172 yX4_leastOf ∈ lw_all := zin (i := 785) (by decide +kernel) rfl
theorem ml_X4_181 : Cond.methodLink RX4 181 yX4_floor ∈ lw_all := zin (i := 815) (by decide +kernel) rfl
theorem ml_X4_191 : Cond.methodLink RX4 191 yX4_nearest ∈ lw_all := zin (i := 818) (by decide +kernel) rfl
theorem ml_X4_204 : Cond.methodLink RX4 204 yX4_isReel ∈ lw_all := zin (i := 832) (by decide +kernel) rfl
theorem ml_X4_207 : Cond.methodLink RX4 207 yX4_isCutFrom ∈ lw_all := zin (i := 840) (by decide +kernel) rfl
theorem ml_X4_210 : Cond.methodLink RX4 210 yX4_above ∈ lw_all := zin (i := 848) (by decide +kernel) rfl
theorem ml_X4_214 : Cond.methodLink RX4 214 yX4_markTaken ∈ lw_all := zin (i := 876) (by decide +kernel) rfl
theorem ml_X4_218 : Cond.methodLink RX4 218 yX4_fit ∈ lw_all := zin (i := 872) (by decide +kernel) rfl
theorem ml_X4_222 : Cond.methodLink RX4 222 yX4_look ∈ lw_all := zin (i := 864) (by decide +kernel) rfl
theorem ml_X4_225 : Cond.methodLink RX4 225 yX4_hungReels ∈ lw_all := zin (i := 860) (by decide +kernel) rfl
theorem ml_X4_229 : Cond.methodLink RX4 229 yX4_cutFrom ∈ lw_all := zin (i := 868) (by decide +kernel) rfl
theorem ml_X4_233 : Cond.methodLink RX4 233 yX4_serves ∈ lw_all := zin (i := 892) (by decide +kernel) rfl
theorem ml_X4_236 : Cond.methodLink RX4 236 yX4_product ∈ lw_all := zin (i := 908) (by decide +kernel) rfl
theorem ml_X4_240 : Cond.methodLink RX4 240 yX4_lowest ∈ lw_all := zin (i := 912) (by decide +kernel) rfl
theorem la_obj1 : Cond.instanceMethod objectInit ∈ lw_all := zin (i := 59) (by decide +kernel) rfl
theorem la_obj2 : Cond.code objectInit ⟨#[0xb1]⟩ 1 none ∈ lw_all := zin (i := 60) (by decide +kernel) rfl
theorem la_min1 : Cond.static Lib.Math.min.name ∈ lw_all := zin (i := 237) (by decide +kernel) rfl
theorem la_min2 : Cond.code Lib.Math.min.name Lib.Math.min.code 2 (some .int) ∈ lw_all := zin (i := 238) (by decide +kernel) rfl
theorem la_max1 : Cond.static Lib.Math.max.name ∈ lw_all := zin (i := 244) (by decide +kernel) rfl
theorem la_max2 : Cond.code Lib.Math.max.name Lib.Math.max.code 2 (some .int) ∈ lw_all := zin (i := 245) (by decide +kernel) rfl
theorem la_math : Cond.initialized "java/lang/Math" ∈ lw_all := zin (i := 50) (by decide +kernel) rfl
theorem la_sys : Cond.initialized "java/lang/System" ∈ lw_all := zin (i := 51) (by decide +kernel) rfl
theorem la_cpy1 : Cond.native arraycopyName ∈ lw_all := zin (i := 305) (by decide +kernel) rfl
theorem la_cpy2 : Cond.static arraycopyName ∈ lw_all := zin (i := 304) (by decide +kernel) rfl
theorem co_X3_39 : Cond.constant RX3 39 (Int32.ofInt (80000)) ∈ lw_all := zin (i := 125) (by decide +kernel) rfl
theorem co_X3_44 : Cond.constantFloat RX3 44 (1040187392) ∈ lw_all := zin (i := 126) (by decide +kernel) rfl
theorem co_X3_48 : Cond.constantFloat RX3 48 (1056964608) ∈ lw_all := zin (i := 186) (by decide +kernel) rfl
theorem co_X3_195 : Cond.constantFloat RX3 195 (1063256064) ∈ lw_all := zin (i := 329) (by decide +kernel) rfl
theorem co_X3_196 : Cond.constantFloat RX3 196 (1061158912) ∈ lw_all := zin (i := 330) (by decide +kernel) rfl
theorem co_X3_197 : Cond.constantFloat RX3 197 (1059061760) ∈ lw_all := zin (i := 331) (by decide +kernel) rfl
theorem co_X3_219 : Cond.constantDouble RX3 219 (13835058055282163712) ∈ lw_all := zin (i := 313) (by decide +kernel) rfl
theorem co_X3_225 : Cond.constantLong RX3 225 (Int64.ofInt (-2)) ∈ lw_all := zin (i := 365) (by decide +kernel) rfl
theorem co_X3_227 : Cond.constantFloat RX3 227 (1148846080) ∈ lw_all := zin (i := 366) (by decide +kernel) rfl
theorem co_X3_232 : Cond.constant RX3 232 (Int32.ofInt (1000000)) ∈ lw_all := zin (i := 378) (by decide +kernel) rfl
theorem co_X3_233 : Cond.constantDouble RX3 233 (4562146422526312448) ∈ lw_all := zin (i := 379) (by decide +kernel) rfl
theorem co_X3_235 : Cond.constantLong RX3 235 (Int64.ofInt (-1000000)) ∈ lw_all := zin (i := 384) (by decide +kernel) rfl
theorem co_X3_241 : Cond.constantDouble RX3 241 (4593671619917905920) ∈ lw_all := zin (i := 392) (by decide +kernel) rfl
theorem co_X3_254 : Cond.constantLong RX3 254 (Int64.ofInt (-1)) ∈ lw_all := zin (i := 388) (by decide +kernel) rfl
theorem co_X3_256 : Cond.constantDouble RX3 256 (4620693217682128896) ∈ lw_all := zin (i := 403) (by decide +kernel) rfl
theorem co_X3_258 : Cond.constantDouble RX3 258 (4598175219545276416) ∈ lw_all := zin (i := 404) (by decide +kernel) rfl
theorem co_X3_260 : Cond.constantLong RX3 260 (Int64.ofInt (2)) ∈ lw_all := zin (i := 391) (by decide +kernel) rfl
theorem co_X3_262 : Cond.constantFloat RX3 262 (1090519040) ∈ lw_all := zin (i := 389) (by decide +kernel) rfl
theorem co_X3_263 : Cond.constantFloat RX3 263 (1048576000) ∈ lw_all := zin (i := 390) (by decide +kernel) rfl
theorem co_X3_264 : Cond.constantDouble RX3 264 (4602678819172646912) ∈ lw_all := zin (i := 402) (by decide +kernel) rfl
theorem co_X3_284 : Cond.constant RX3 284 (Int32.ofInt (800000)) ∈ lw_all := zin (i := 433) (by decide +kernel) rfl
theorem co_X4_113 : Cond.constant RX4 113 (Int32.ofInt (80000)) ∈ lw_all := zin (i := 674) (by decide +kernel) rfl
theorem co_X4_118 : Cond.constantFloat RX4 118 (1040187392) ∈ lw_all := zin (i := 679) (by decide +kernel) rfl
theorem co_X4_152 : Cond.constantFloat RX4 152 (1056964608) ∈ lw_all := zin (i := 777) (by decide +kernel) rfl
theorem co_X4_153 : Cond.constantFloat RX4 153 (1063256064) ∈ lw_all := zin (i := 778) (by decide +kernel) rfl
theorem co_X4_154 : Cond.constantFloat RX4 154 (1061158912) ∈ lw_all := zin (i := 779) (by decide +kernel) rfl
theorem co_X4_155 : Cond.constantFloat RX4 155 (1059061760) ∈ lw_all := zin (i := 780) (by decide +kernel) rfl
theorem co_X4_170 : Cond.constantDouble RX4 170 (13835058055282163712) ∈ lw_all := zin (i := 764) (by decide +kernel) rfl
theorem co_X4_175 : Cond.constantFloat RX4 175 (1148846080) ∈ lw_all := zin (i := 797) (by decide +kernel) rfl
theorem co_X4_176 : Cond.constantLong RX4 176 (Int64.ofInt (-2)) ∈ lw_all := zin (i := 798) (by decide +kernel) rfl
theorem co_X4_178 : Cond.constant RX4 178 (Int32.ofInt (1000000)) ∈ lw_all := zin (i := 807) (by decide +kernel) rfl
theorem co_X4_179 : Cond.constantDouble RX4 179 (4562146422526312448) ∈ lw_all := zin (i := 808) (by decide +kernel) rfl
theorem co_X4_185 : Cond.constantDouble RX4 185 (4602678819172646912) ∈ lw_all := zin (i := 821) (by decide +kernel) rfl
theorem co_X4_187 : Cond.constantLong RX4 187 (Int64.ofInt (-1000000)) ∈ lw_all := zin (i := 813) (by decide +kernel) rfl
theorem co_X4_189 : Cond.constantDouble RX4 189 (4593671619917905920) ∈ lw_all := zin (i := 814) (by decide +kernel) rfl
theorem co_X4_194 : Cond.constantLong RX4 194 (Int64.ofInt (-1)) ∈ lw_all := zin (i := 822) (by decide +kernel) rfl
theorem co_X4_196 : Cond.constantDouble RX4 196 (4620693217682128896) ∈ lw_all := zin (i := 823) (by decide +kernel) rfl
theorem co_X4_198 : Cond.constantDouble RX4 198 (4598175219545276416) ∈ lw_all := zin (i := 824) (by decide +kernel) rfl
theorem co_X4_200 : Cond.constantLong RX4 200 (Int64.ofInt (2)) ∈ lw_all := zin (i := 825) (by decide +kernel) rfl
theorem co_X4_202 : Cond.constantFloat RX4 202 (1090519040) ∈ lw_all := zin (i := 826) (by decide +kernel) rfl
theorem co_X4_203 : Cond.constantFloat RX4 203 (1048576000) ∈ lw_all := zin (i := 827) (by decide +kernel) rfl
theorem co_X4_213 : Cond.constant RX4 213 (Int32.ofInt (800000)) ∈ lw_all := zin (i := 855) (by decide +kernel) rfl
theorem cl_L_7 : Cond.classLink RL 7 RX3 ∈ lw_all := zin (i := 53) (by decide +kernel) rfl
theorem nw_L_7 : zNW RL 7 3 9 := ⟨RX3, TX3, tyX3, rfl, by decide, rfl, zin_X3, tyX3_ok, zdf_X3, cl_L_7, zin (i := 54) (by decide +kernel) rfl, zin (i := 46) (by decide +kernel) rfl⟩
theorem cl_X3_9 : Cond.classLink RX3 9 RX1 ∈ lw_all := zin (i := 61) (by decide +kernel) rfl
theorem nw_X3_9 : zNW RX3 9 1 14 := ⟨RX1, TX1, tyX1, rfl, by decide, rfl, zin_X1, tyX1_ok, zdf_X1, cl_X3_9, zin (i := 127) (by decide +kernel) rfl, zin (i := 49) (by decide +kernel) rfl⟩
theorem cl_X3_18 : Cond.classLink RX3 18 RX2 ∈ lw_all := zin (i := 63) (by decide +kernel) rfl
theorem nw_X3_18 : zNW RX3 18 2 4 := ⟨RX2, TX2, tyX2, rfl, by decide, rfl, zin_X2, tyX2_ok, zdf_X2, cl_X3_18, zin (i := 67) (by decide +kernel) rfl, zin (i := 47) (by decide +kernel) rfl⟩
theorem cl_X3_24 : Cond.classLink RX3 24 RX0 ∈ lw_all := zin (i := 65) (by decide +kernel) rfl
theorem nw_X3_24 : zNW RX3 24 0 6 := ⟨RX0, TX0, tyX0, rfl, by decide, rfl, zin_X0, tyX0_ok, zdf_X0, cl_X3_24, zin (i := 434) (by decide +kernel) rfl, zin (i := 52) (by decide +kernel) rfl⟩
theorem la_arr_int : Cond.arrayClass .int ∈ lw_all := zin (i := 87) (by decide +kernel) rfl
theorem la_arr_float : Cond.arrayClass .float ∈ lw_all := zin (i := 88) (by decide +kernel) rfl
theorem cl_L_10 : Cond.classLink RL 10 RX4 ∈ lw_all := zin (i := 550) (by decide +kernel) rfl
theorem nw_L_10 : zNW RL 10 4 36 := ⟨RX4, TX4, tyX4, rfl, by decide, rfl, zin_X4, tyX4_ok, zdf_X4, cl_L_10, zin (i := 551) (by decide +kernel) rfl, zin (i := 48) (by decide +kernel) rfl⟩
theorem la_arr_boolean : Cond.arrayClass .boolean ∈ lw_all := zin (i := 665) (by decide +kernel) rfl
end
section

/-! THE REFERENCE'S STATE: m its ints (field k, place j; a plain field at place 0), f its floats; x its address, g its arrays' -/
def rkd (k : Nat) : Nat := if k = 11 ∨ k = 26 ∨ k = 33 then 7 else if k = 5 ∨ k = 14 ∨ k = 20 ∨ k = 29 ∨ k = 31 ∨ k = 34 then 5 else 6
def rln (k : Nat) : Nat := if k = 7 then 1080 else if k = 11 ∨ k = 12 ∨ k = 13 ∨ k = 14 then 960 else if k = 16 then 9 else if k = 17 ∨ k = 19 ∨ k = 20 ∨ k = 21 ∨ k = 22 ∨ k = 35 then 6 else if k = 24 then 10 else if k = 26 ∨ k = 27 ∨ k = 28 ∨ k = 29 then 8 else if k = 33 then 2001 else if k = 34 then 12006 else 120
def RS (x : Nat) (g : Nat → Nat) (t : zT) : Prop := x ∈ tL t ∧ tK t x = 4 ∧ (∀ k, k < 36 → zTg 4 k = 2 → tP t x k = some (g k) ∧ g k ∈ tL t ∧ tK t (g k) = rkd k ∧ tN t (g k) = rln k) ∧ ∀ i j, i < 36 → j < 36 → zTg 4 i = 2 → zTg 4 j = 2 → g i = g j → i = j
def RA (m : Nat → Int → Int) (f : Nat → Int → UInt32) (x : Nat) (g : Nat → Nat) (t : zT) : Prop := RS x g t ∧ (∀ k, k < 36 → zTg 4 k = 0 → tI t x k = m k 0) ∧ (∀ k, k < 36 → zTg 4 k = 2 → rkd k ≠ 5 → ∀ j, tI t (g k) j = m k j) ∧ (∀ k, k < 36 → zTg 4 k = 2 → rkd k = 5 → ∀ j, tF t (g k) j = f k j)
theorem zTg4 (k : Nat) : zTg 4 k = 0 ∨ zTg 4 k = 2 := by
  show (if k = 0 ∨ k = 15 ∨ k = 18 ∨ k = 23 ∨ k = 32 then 0 else 2) = 0 ∨ (if k = 0 ∨ k = 15 ∨ k = 18 ∨ k = 23 ∨ k = 32 then 0 else 2) = 2
  split
  · exact Or.inl rfl
  · exact Or.inr rfl
section RR
variable {m : Nat → Int → Int} {f : Nat → Int → UInt32} {x : Nat} {g : Nat → Nat} {t : zT}
theorem RS.xg (h : RS x g t) {k : Nat} (hk : k < 36) (h2 : zTg 4 k = 2) : g k ≠ x := by
  intro e
  have h3 := (h.2.2.1 k hk h2).2.2.1
  rw [e, h.2.1] at h3
  unfold rkd at h3
  split at h3
  · omega
  · split at h3 <;> omega
theorem RA.putI (h : RA m f x g t) {k : Nat} (hk : k < 36) (h2 : zTg 4 k = 0) (z : Int) : RA (up2 m k 0 z) f x g (sI t x k z) := by
  refine ⟨h.1, fun i hi hi2 => ?_, fun i hi hi2 hi5 j => ?_, h.2.2.2⟩
  · show up2 (tI t) x k z x i = up2 m k 0 z i 0
    by_cases e : i = k
    · subst e; rw [up2_s, up2_s]
    · rw [up2_k _ _ _ _ _ (by omega), up2_a _ _ _ _ e]; exact h.2.1 i hi hi2
  · show up2 (tI t) x k z (g i) j = up2 m k 0 z i j
    have e : i ≠ k := fun q => by rw [q, h2] at hi2; cases hi2
    rw [up2_a _ _ _ _ (h.1.xg hi hi2), up2_a _ _ _ _ e]
    exact h.2.2.1 i hi hi2 hi5 j
theorem RA.ast (h : RA m f x g t) {k : Nat} (hk : k < 36) (h2 : zTg 4 k = 2) (j z : Int) : RA (up2 m k j z) f x g (sI t (g k) j z) := by
  refine ⟨h.1, fun i hi hi2 => ?_, fun i hi hi2 hi5 j' => ?_, h.2.2.2⟩
  · show up2 (tI t) (g k) j z x i = up2 m k j z i 0
    have e : i ≠ k := fun q => by rw [q, h2] at hi2; cases hi2
    rw [up2_a _ _ _ _ (h.1.xg hk h2).symm, up2_a _ _ _ _ e]
    exact h.2.1 i hi hi2
  · show up2 (tI t) (g k) j z (g i) j' = up2 m k j z i j'
    by_cases e : i = k
    · subst e
      by_cases ej : j' = j
      · subst ej; rw [up2_s, up2_s]
      · rw [up2_k _ _ _ _ _ ej, up2_k _ _ _ _ _ ej]; exact h.2.2.1 i hi hi2 hi5 j'
    · rw [up2_a _ _ _ _ (fun q => e (h.1.2.2.2 i k hi hk hi2 h2 q)), up2_a _ _ _ _ e]; exact h.2.2.1 i hi hi2 hi5 j'
theorem RA.fst (h : RA m f x g t) {k : Nat} (hk : k < 36) (h2 : zTg 4 k = 2) (j : Int) (z : UInt32) : RA m (up2 f k j z) x g (sF t (g k) j z) := by
  refine ⟨h.1, h.2.1, h.2.2.1, fun i hi hi2 hi5 j' => ?_⟩
  show up2 (tF t) (g k) j z (g i) j' = up2 f k j z i j'
  by_cases e : i = k
  · subst e
    by_cases ej : j' = j
    · subst ej; rw [up2_s, up2_s]
    · rw [up2_k _ _ _ _ _ ej, up2_k _ _ _ _ _ ej]; exact h.2.2.2 i hi hi2 hi5 j'
  · rw [up2_a _ _ _ _ (fun q => e (h.1.2.2.2 i k hi hk hi2 h2 q)), up2_a _ _ _ _ e]; exact h.2.2.2 i hi hi2 hi5 j'
variable {y : MethodName} {b : ByteArray} {nL : Nat} {ret : Option FieldType} {d mc ms : Nat} {Post : Option zV → zT → Prop} {cu su pc : Nat} {lv : List (Nat × zV)} {st : List zV}
theorem r_getI (pc' : Nat) (h : RA m f x g t) {k idx : Nat} {fin : Bool} (hL : zFL y.cls idx 4 k 0 fin) (hk : k < 36 ∧ zTg 4 k = 0) (hd : decode b pc = .ok (.getfield idx, 3)) (hp : pc + 3 = pc') (kk : zOK y b nL ret d mc ms Post cu su pc' lv (vI (m k 0) :: st) t) : zOK y b nL ret d mc ms Post cu su pc lv (vR (some x) :: st) t :=
  z_getI pc' hL h.1.1 h.1.2.1 hd hp (by rw [h.2.1 k hk.1 hk.2]; exact kk)
theorem r_getP (pc' : Nat) (h : RA m f x g t) {k idx : Nat} {fin : Bool} (hL : zFL y.cls idx 4 k 2 fin) (hk : k < 36 ∧ zTg 4 k = 2) (hd : decode b pc = .ok (.getfield idx, 3)) (hp : pc + 3 = pc') (kk : zOK y b nL ret d mc ms Post cu su pc' lv (vR (some (g k)) :: st) t) : zOK y b nL ret d mc ms Post cu su pc lv (vR (some x) :: st) t :=
  z_getP pc' hL h.1.1 h.1.2.1 hd hp (by rw [(h.1.2.2.1 k hk.1 hk.2).1]; exact kk)
theorem r_putI (pc' : Nat) (h : RA m f x g t) {k idx : Nat} {z : Int} (hL : zFL y.cls idx 4 k 0 false) (hk : k < 36 ∧ zTg 4 k = 0) (hd : decode b pc = .ok (.putfield idx, 3)) (hp : pc + 3 = pc') (kk : ∀ t, RA (up2 m k 0 z) f x g t → zOK y b nL ret d mc ms Post cu su pc' lv st t) : zOK y b nL ret d mc ms Post cu su pc lv (vI z :: vR (some x) :: st) t :=
  z_putI pc' hL h.1.1 h.1.2.1 hd hp (kk _ (h.putI hk.1 hk.2 z))
theorem r_iald (pc' k n : Nat) (h : RA m f x g t) {j : Int} (hk : k < 36 ∧ zTg 4 k = 2 ∧ rkd k = 6 ∧ rln k = n ∧ n ≤ 2147483647) (hj : 0 ≤ j ∧ j < n) (hd : decode b pc = .ok (.iaload, 1)) (hp : pc + 1 = pc') (kk : zOK y b nL ret d mc ms Post cu su pc' lv (vI (m k j) :: st) t) : zOK y b nL ret d mc ms Post cu su pc lv (vI j :: vR (some (g k)) :: st) t := by
  obtain ⟨h1, h2, h3, h4⟩ := h.1.2.2.1 k hk.1 hk.2.1
  refine z_iald pc' n h2 (h3.trans hk.2.2.1) (h4.trans hk.2.2.2.1) (Nat.ble_eq_true_of_le hk.2.2.2.2) hj hd hp ?_
  rw [h.2.2.1 k hk.1 hk.2.1 (by rw [hk.2.2.1]; decide) j]
  exact kk
theorem r_bald (pc' k n : Nat) (h : RA m f x g t) {j : Int} (hk : k < 36 ∧ zTg 4 k = 2 ∧ rkd k = 7 ∧ rln k = n ∧ n ≤ 2147483647) (hj : 0 ≤ j ∧ j < n) (hd : decode b pc = .ok (.baload, 1)) (hp : pc + 1 = pc') (kk : zOK y b nL ret d mc ms Post cu su pc' lv (vI (m k j) :: st) t) : zOK y b nL ret d mc ms Post cu su pc lv (vI j :: vR (some (g k)) :: st) t := by
  obtain ⟨h1, h2, h3, h4⟩ := h.1.2.2.1 k hk.1 hk.2.1
  refine z_bald pc' n h2 (h3.trans hk.2.2.1) (h4.trans hk.2.2.2.1) (Nat.ble_eq_true_of_le hk.2.2.2.2) hj hd hp ?_
  rw [h.2.2.1 k hk.1 hk.2.1 (by rw [hk.2.2.1]; decide) j]
  exact kk
theorem r_fald (pc' k n : Nat) (h : RA m f x g t) {j : Int} (hk : k < 36 ∧ zTg 4 k = 2 ∧ rkd k = 5 ∧ rln k = n ∧ n ≤ 2147483647) (hj : 0 ≤ j ∧ j < n) (hd : decode b pc = .ok (.faload, 1)) (hp : pc + 1 = pc') (kk : zOK y b nL ret d mc ms Post cu su pc' lv (vF (f k j) :: st) t) : zOK y b nL ret d mc ms Post cu su pc lv (vI j :: vR (some (g k)) :: st) t := by
  obtain ⟨h1, h2, h3, h4⟩ := h.1.2.2.1 k hk.1 hk.2.1
  refine z_fald pc' n h2 (h3.trans hk.2.2.1) (h4.trans hk.2.2.2.1) (Nat.ble_eq_true_of_le hk.2.2.2.2) hj hd hp ?_
  rw [h.2.2.2 k hk.1 hk.2.1 hk.2.2.1 j]
  exact kk
theorem r_iast (pc' k n : Nat) (h : RA m f x g t) {j z : Int} (hk : k < 36 ∧ zTg 4 k = 2 ∧ rkd k = 6 ∧ rln k = n ∧ n ≤ 2147483647) (hj : 0 ≤ j ∧ j < n) (hd : decode b pc = .ok (.iastore, 1)) (hp : pc + 1 = pc') (kk : ∀ t, RA (up2 m k j z) f x g t → zOK y b nL ret d mc ms Post cu su pc' lv st t) : zOK y b nL ret d mc ms Post cu su pc lv (vI z :: vI j :: vR (some (g k)) :: st) t := by
  obtain ⟨h1, h2, h3, h4⟩ := h.1.2.2.1 k hk.1 hk.2.1
  exact z_iast pc' n h2 (h3.trans hk.2.2.1) (h4.trans hk.2.2.2.1) (Nat.ble_eq_true_of_le hk.2.2.2.2) hj hd hp (kk _ (h.ast hk.1 hk.2.1 j z))
theorem r_bast (pc' k n : Nat) (h : RA m f x g t) {j z : Int} (hk : k < 36 ∧ zTg 4 k = 2 ∧ rkd k = 7 ∧ rln k = n ∧ n ≤ 2147483647) (hj : 0 ≤ j ∧ j < n) (hz : z = 0 ∨ z = 1) (hd : decode b pc = .ok (.bastore, 1)) (hp : pc + 1 = pc') (kk : ∀ t, RA (up2 m k j z) f x g t → zOK y b nL ret d mc ms Post cu su pc' lv st t) : zOK y b nL ret d mc ms Post cu su pc lv (vI z :: vI j :: vR (some (g k)) :: st) t := by
  obtain ⟨h1, h2, h3, h4⟩ := h.1.2.2.1 k hk.1 hk.2.1
  exact z_bast pc' n h2 (h3.trans hk.2.2.1) (h4.trans hk.2.2.2.1) (Nat.ble_eq_true_of_le hk.2.2.2.2) hj hz hd hp (kk _ (h.ast hk.1 hk.2.1 j z))
theorem r_fast (pc' k n : Nat) (h : RA m f x g t) {j : Int} {z : UInt32} (hk : k < 36 ∧ zTg 4 k = 2 ∧ rkd k = 5 ∧ rln k = n ∧ n ≤ 2147483647) (hj : 0 ≤ j ∧ j < n) (hd : decode b pc = .ok (.fastore, 1)) (hp : pc + 1 = pc') (kk : ∀ t, RA m (up2 f k j z) x g t → zOK y b nL ret d mc ms Post cu su pc' lv st t) : zOK y b nL ret d mc ms Post cu su pc lv (vF z :: vI j :: vR (some (g k)) :: st) t := by
  obtain ⟨h1, h2, h3, h4⟩ := h.1.2.2.1 k hk.1 hk.2.1
  exact z_fast pc' n h2 (h3.trans hk.2.2.1) (h4.trans hk.2.2.2.1) (Nat.ble_eq_true_of_le hk.2.2.2.2) hj hd hp (kk _ (h.fst hk.1 hk.2.1 j z))
theorem rk1 : 1 < 36 ∧ zTg 4 1 = 2 ∧ rkd 1 = 6 ∧ rln 1 = 120 ∧ 120 ≤ 2147483647 := by decide
theorem rk2 : 2 < 36 ∧ zTg 4 2 = 2 ∧ rkd 2 = 6 ∧ rln 2 = 120 ∧ 120 ≤ 2147483647 := by decide
theorem rk3 : 3 < 36 ∧ zTg 4 3 = 2 ∧ rkd 3 = 6 ∧ rln 3 = 120 ∧ 120 ≤ 2147483647 := by decide
theorem rk4 : 4 < 36 ∧ zTg 4 4 = 2 ∧ rkd 4 = 6 ∧ rln 4 = 120 ∧ 120 ≤ 2147483647 := by decide
theorem rk5 : 5 < 36 ∧ zTg 4 5 = 2 ∧ rkd 5 = 5 ∧ rln 5 = 120 ∧ 120 ≤ 2147483647 := by decide
theorem rk6 : 6 < 36 ∧ zTg 4 6 = 2 ∧ rkd 6 = 6 ∧ rln 6 = 120 ∧ 120 ≤ 2147483647 := by decide
theorem rk7 : 7 < 36 ∧ zTg 4 7 = 2 ∧ rkd 7 = 6 ∧ rln 7 = 1080 ∧ 1080 ≤ 2147483647 := by decide
theorem rk8 : 8 < 36 ∧ zTg 4 8 = 2 ∧ rkd 8 = 6 ∧ rln 8 = 120 ∧ 120 ≤ 2147483647 := by decide
theorem rk9 : 9 < 36 ∧ zTg 4 9 = 2 ∧ rkd 9 = 6 ∧ rln 9 = 120 ∧ 120 ≤ 2147483647 := by decide
theorem rk10 : 10 < 36 ∧ zTg 4 10 = 2 ∧ rkd 10 = 6 ∧ rln 10 = 120 ∧ 120 ≤ 2147483647 := by decide
theorem rk11 : 11 < 36 ∧ zTg 4 11 = 2 ∧ rkd 11 = 7 ∧ rln 11 = 960 ∧ 960 ≤ 2147483647 := by decide
theorem rk12 : 12 < 36 ∧ zTg 4 12 = 2 ∧ rkd 12 = 6 ∧ rln 12 = 960 ∧ 960 ≤ 2147483647 := by decide
theorem rk13 : 13 < 36 ∧ zTg 4 13 = 2 ∧ rkd 13 = 6 ∧ rln 13 = 960 ∧ 960 ≤ 2147483647 := by decide
theorem rk14 : 14 < 36 ∧ zTg 4 14 = 2 ∧ rkd 14 = 5 ∧ rln 14 = 960 ∧ 960 ≤ 2147483647 := by decide
theorem rk16 : 16 < 36 ∧ zTg 4 16 = 2 ∧ rkd 16 = 6 ∧ rln 16 = 9 ∧ 9 ≤ 2147483647 := by decide
theorem rk17 : 17 < 36 ∧ zTg 4 17 = 2 ∧ rkd 17 = 6 ∧ rln 17 = 6 ∧ 6 ≤ 2147483647 := by decide
theorem rk19 : 19 < 36 ∧ zTg 4 19 = 2 ∧ rkd 19 = 6 ∧ rln 19 = 6 ∧ 6 ≤ 2147483647 := by decide
theorem rk20 : 20 < 36 ∧ zTg 4 20 = 2 ∧ rkd 20 = 5 ∧ rln 20 = 6 ∧ 6 ≤ 2147483647 := by decide
theorem rk21 : 21 < 36 ∧ zTg 4 21 = 2 ∧ rkd 21 = 6 ∧ rln 21 = 6 ∧ 6 ≤ 2147483647 := by decide
theorem rk22 : 22 < 36 ∧ zTg 4 22 = 2 ∧ rkd 22 = 6 ∧ rln 22 = 6 ∧ 6 ≤ 2147483647 := by decide
theorem rk24 : 24 < 36 ∧ zTg 4 24 = 2 ∧ rkd 24 = 6 ∧ rln 24 = 10 ∧ 10 ≤ 2147483647 := by decide
theorem rk25 : 25 < 36 ∧ zTg 4 25 = 2 ∧ rkd 25 = 6 ∧ rln 25 = 120 ∧ 120 ≤ 2147483647 := by decide
theorem rk26 : 26 < 36 ∧ zTg 4 26 = 2 ∧ rkd 26 = 7 ∧ rln 26 = 8 ∧ 8 ≤ 2147483647 := by decide
theorem rk27 : 27 < 36 ∧ zTg 4 27 = 2 ∧ rkd 27 = 6 ∧ rln 27 = 8 ∧ 8 ≤ 2147483647 := by decide
theorem rk28 : 28 < 36 ∧ zTg 4 28 = 2 ∧ rkd 28 = 6 ∧ rln 28 = 8 ∧ 8 ≤ 2147483647 := by decide
theorem rk29 : 29 < 36 ∧ zTg 4 29 = 2 ∧ rkd 29 = 5 ∧ rln 29 = 8 ∧ 8 ≤ 2147483647 := by decide
theorem rk30 : 30 < 36 ∧ zTg 4 30 = 2 ∧ rkd 30 = 6 ∧ rln 30 = 120 ∧ 120 ≤ 2147483647 := by decide
theorem rk31 : 31 < 36 ∧ zTg 4 31 = 2 ∧ rkd 31 = 5 ∧ rln 31 = 120 ∧ 120 ≤ 2147483647 := by decide
theorem rk33 : 33 < 36 ∧ zTg 4 33 = 2 ∧ rkd 33 = 7 ∧ rln 33 = 2001 ∧ 2001 ≤ 2147483647 := by decide
theorem rk34 : 34 < 36 ∧ zTg 4 34 = 2 ∧ rkd 34 = 5 ∧ rln 34 = 12006 ∧ 12006 ≤ 2147483647 := by decide
theorem rk35 : 35 < 36 ∧ zTg 4 35 = 2 ∧ rkd 35 = 6 ∧ rln 35 = 6 ∧ 6 ≤ 2147483647 := by decide
end RR

section RRe
variable {m : Nat → Int → Int} {f : Nat → Int → UInt32} {x : Nat} {g : Nat → Nat} {t : zT} {y : MethodName} {b : ByteArray} {nL : Nat} {ret : Option FieldType} {d mc ms : Nat} {Post : Option zV → zT → Prop} {cu su pc : Nat} {lv : List (Nat × zV)} {st : List zV}
theorem r_getIe (pc' : Nat) (h : RA m f x g t) {k idx : Nat} {fin : Bool} {z : Int} (hL : zFL y.cls idx 4 k 0 fin) (hk : k < 36 ∧ zTg 4 k = 0) (hz : m k 0 = z) (hd : decode b pc = .ok (.getfield idx, 3)) (hp : pc + 3 = pc') (kk : zOK y b nL ret d mc ms Post cu su pc' lv (vI z :: st) t) : zOK y b nL ret d mc ms Post cu su pc lv (vR (some x) :: st) t :=
  r_getI pc' h hL hk hd hp (by rw [hz]; exact kk)
theorem r_ialde (pc' k n : Nat) (h : RA m f x g t) {j z : Int} (hk : k < 36 ∧ zTg 4 k = 2 ∧ rkd k = 6 ∧ rln k = n ∧ n ≤ 2147483647) (hj : 0 ≤ j ∧ j < n) (hz : m k j = z) (hd : decode b pc = .ok (.iaload, 1)) (hp : pc + 1 = pc') (kk : zOK y b nL ret d mc ms Post cu su pc' lv (vI z :: st) t) : zOK y b nL ret d mc ms Post cu su pc lv (vI j :: vR (some (g k)) :: st) t :=
  r_iald pc' k n h hk hj hd hp (by rw [hz]; exact kk)
theorem r_balde (pc' k n : Nat) (h : RA m f x g t) {j z : Int} (hk : k < 36 ∧ zTg 4 k = 2 ∧ rkd k = 7 ∧ rln k = n ∧ n ≤ 2147483647) (hj : 0 ≤ j ∧ j < n) (hz : m k j = z) (hd : decode b pc = .ok (.baload, 1)) (hp : pc + 1 = pc') (kk : zOK y b nL ret d mc ms Post cu su pc' lv (vI z :: st) t) : zOK y b nL ret d mc ms Post cu su pc lv (vI j :: vR (some (g k)) :: st) t :=
  r_bald pc' k n h hk hj hd hp (by rw [hz]; exact kk)
end RRe
theorem RA_if {c : Prop} {m1 m2 : Nat → Int → Int} {f : Nat → Int → UInt32} {x : Nat} {g : Nat → Nat} {t : zT} (h1 : c → RA m1 f x g t) (h2 : ¬ c → RA m2 f x g t) : RA (@ite _ c (Classical.propDecidable c) m1 m2) f x g t := by
  by_cases h : c
  · rw [if_pos h]; exact h1 h
  · rw [if_neg h]; exact h2 h
theorem RA_if2 {c : Prop} {s1 s2 : (Nat → Int → Int) × (Nat → Int → UInt32)} {x : Nat} {g : Nat → Nat} {t : zT} (h1 : c → RA s1.1 s1.2 x g t) (h2 : ¬ c → RA s2.1 s2.2 x g t) : RA (@ite _ c (Classical.propDecidable c) s1 s2).1 (@ite _ c (Classical.propDecidable c) s1 s2).2 x g t := by
  by_cases h : c
  · rw [if_pos h]; exact h1 h
  · rw [if_neg h]; exact h2 h
end
section

/-! WHAT THE CALLS DO, on the state (m, f) -/
noncomputable abbrev cif {α : Sort _} (c : Prop) (a b : α) : α := @ite α c (Classical.propDecidable c) a b
abbrev zS : Type := (Nat → Int → Int) × (Nat → Int → UInt32)
def E8 (e : Int) : UInt32 := FP.fmul (FP.i2f (Int32.ofInt e)) 1040187392
theorem E8_num {e : Int} (h1 : -1 ≤ e) (h2 : e ≤ 800000) : vf_n32 (E8 e) := sorry
/-- a new piece -/
def np (m : Nat → Int → Int) (k n t : Int) : Nat → Int → Int := up2 (up2 (up2 (up2 (up2 (up2 (up2 (up2 m 0 0 (m 0 0 + 1)) 1 (m 0 0) k) 2 (m 0 0) n) 3 (m 0 0) t) 4 (m 0 0) 0) 6 (m 0 0) 0) 8 (m 0 0) (-1)) 10 (m 0 0) (-1)
def new_no (m : Nat → Int → Int) (n e : Int) : Prop := n < 1 ∨ n > 2000 ∨ e < 0 ∨ e > 80000 ∨ m 0 0 = 120
noncomputable def a_new (m : Nat → Int → Int) (n e : Int) : Int := cif (new_no m n e) (-2) (m 0 0)
noncomputable def s_new (m : Nat → Int → Int) (f : Nat → Int → UInt32) (k n e : Int) : zS := cif (new_no m n e) (m, f) (np m k n 0, up2 f 5 (m 0 0) (E8 e))
def free (m : Nat → Int → Int) (p : Int) : Prop := 0 ≤ p ∧ p < m 0 0 ∧ m 4 p = 0
def there (m : Nat → Int → Int) (p : Int) : Prop := 0 ≤ p ∧ p < m 0 0 ∧ m 4 p ≠ 3
def pick_ok (m : Nat → Int → Int) (p : Int) : Prop := free m p ∧ m 15 0 < 9 ∧ ∀ i, 0 ≤ i → i < m 15 0 → m 16 i ≠ p
noncomputable def a_pick (m : Nat → Int → Int) (p : Int) : Int := cif (pick_ok m p) (m 15 0 + 1) (-2)
noncomputable def s_pick (m : Nat → Int → Int) (p : Int) : Nat → Int → Int := cif (pick_ok m p) (up2 (up2 m 16 (m 15 0) p) 15 0 (m 15 0 + 1)) m
def b_and (x z : Int) : Int := if x = 1 ∧ z = 1 then 1 else 0
def b_or (x z : Int) : Int := if x = 1 ∨ z = 1 then 1 else 0
theorem and01 {x z : Int} (hx : 0 ≤ x ∧ x ≤ 1) (hz : 0 ≤ z ∧ z ≤ 1) : Int32.ofInt x &&& Int32.ofInt z = Int32.ofInt (b_and x z) := by
  have h1 : x = 0 ∨ x = 1 := by omega
  have h2 : z = 0 ∨ z = 1 := by omega
  rcases h1 with rfl | rfl <;> rcases h2 with rfl | rfl <;> decide
theorem or01 {x z : Int} (hx : 0 ≤ x ∧ x ≤ 1) (hz : 0 ≤ z ∧ z ≤ 1) : Int32.ofInt x ||| Int32.ofInt z = Int32.ofInt (b_or x z) := by
  have h1 : x = 0 ∨ x = 1 := by omega
  have h2 : z = 0 ∨ z = 1 := by omega
  rcases h1 with rfl | rfl <;> rcases h2 with rfl | rfl <;> decide
/-- may q be a part of a new piece of this kind and twist? -/
def mayin (m : Nat → Int → Int) (k t p : Int) : Prop := m 4 p = 0 ∧ ((k = 1 ∧ (m 1 p = 0 ∨ m 1 p = 4)) ∨ (k = 2 ∧ m 1 p = 1 ∧ m 3 p = 3 - t) ∨ (k ≠ 1 ∧ k ≠ 2 ∧ (m 1 p = 2 ∨ m 1 p = 5) ∧ m 3 p = 3 - t))
/-- piece q is laid into piece p -/
def putin (m : Nat → Int → Int) (p q : Int) : Nat → Int → Int := up2 (up2 (up2 (up2 m 7 (9 * p + m 6 p) q) 6 p (m 6 p + 1)) 4 q 1) 8 q p
def thick (m : Nat → Int → Int) (p : Int) : Prop := m 1 p = 2 ∨ m 1 p = 3 ∨ m 1 p = 5
noncomputable def a_part (m : Nat → Int → Int) (p k : Int) : Int := cif (p < 0 ∨ p ≥ m 0 0 ∨ k < 0 ∨ k ≥ m 6 p) (-2) (m 7 (9 * p + k))
noncomputable def a_lose (m : Nat → Int → Int) (p : Int) : Int := cif (there m p) (cif (0 ≤ m 10 p) 1 0) (-2)
noncomputable def s_lose (m : Nat → Int → Int) (p : Int) : Nat → Int → Int := cif (there m p) (up2 m 10 p (-1)) m
def spot_no (m : Nat → Int → Int) (p fr to e : Int) : Prop := ¬ there m p ∨ fr < 0 ∨ fr > 2000 ∨ to < 0 ∨ to > 2000 ∨ e < -1 ∨ e > 8
noncomputable def a_spot (m : Nat → Int → Int) (p i fr to e : Int) : Int := cif (spot_no m p fr to e) (-2) (cif (m 10 p < 0) (-10) (cif (i < 0 ∨ i ≥ m 10 p) (-11) (m 11 (8 * p + i))))
noncomputable def s_spot (m : Nat → Int → Int) (f : Nat → Int → UInt32) (p i fr to e : Int) : zS := cif (spot_no m p fr to e ∨ m 10 p < 0 ∨ i < 0 ∨ i ≥ m 10 p) (m, f) (up2 (up2 (up2 m 11 (8 * p + i) (cif (0 ≤ e) 1 0)) 12 (8 * p + i) fr) 13 (8 * p + i) to, up2 f 14 (8 * p + i) (E8 e))
noncomputable def a_hang (m : Nat → Int → Int) (r p : Int) : Int := cif (¬ free m p) (-2) (cif (r < 0 ∨ r ≥ 6) (-11) (cif (0 ≤ m 17 r) (-2) (m 2 p)))
noncomputable def s_hang (m : Nat → Int → Int) (r p : Int) : Nat → Int → Int := cif (free m p ∧ 0 ≤ r ∧ r < 6 ∧ m 17 r < 0) (up2 (up2 m 17 r p) 4 p 2) m
def cutfr (m : Nat → Int → Int) (r : Int) : Prop := ∃ o, 0 ≤ o ∧ o < m 18 0 ∧ m 21 o = r
noncomputable def a_off (m : Nat → Int → Int) (r : Int) : Int := cif (r < 0 ∨ r ≥ 6) (-11) (cif (m 17 r < 0) (-10) (cif (cutfr m r) (-2) (m 17 r)))
noncomputable def s_off (m : Nat → Int → Int) (r : Int) : Nat → Int → Int := cif (0 ≤ r ∧ r < 6 ∧ 0 ≤ m 17 r ∧ ¬ cutfr m r) (up2 (up2 m 17 r (-1)) 4 (m 17 r) 0) m
def abv (k : Int) : Int := if k = 1 ∨ k = 4 then 0 else if k = 2 then 1 else if k = 3 ∨ k = 5 then 2 else -1
/-- is kind a one of kind k? -/
def isk (a k : Int) : Prop := a = k ∨ abv a = k ∨ abv (abv a) = k ∨ abv (abv (abv a)) = k
noncomputable def a_take (m : Nat → Int → Int) (r k : Int) : Int := cif (k < 0 ∨ k > 5) (-2) (cif (r < 0 ∨ r ≥ 6) (-11) (cif (m 17 r < 0) (-10) (cif (isk (m 1 (m 17 r)) k) (m 17 r) (-12))))
def ord_no (m : Nat → Int → Int) (n e : Int) : Prop := n < 1 ∨ n > 2000 ∨ e < 0 ∨ e > 800000 ∨ m 18 0 = 6
noncomputable def a_order (m : Nat → Int → Int) (n e : Int) : Int := cif (ord_no m n e) (-2) (m 18 0)
noncomputable def s_order (m : Nat → Int → Int) (f : Nat → Int → UInt32) (n e : Int) : zS := cif (ord_no m n e) (m, f) (up2 (up2 (up2 (up2 m 19 (m 18 0) n) 21 (m 18 0) (-1)) 22 (m 18 0) 0) 18 0 (m 18 0 + 1), up2 f 20 (m 18 0) (E8 e))
def join_no (m : Nat → Int → Int) (o : Int) : Prop := o < 0 ∨ o ≥ m 18 0 ∨ m 21 o < 0
noncomputable def a_join (m : Nat → Int → Int) (o : Int) : Int := cif (join_no m o) (-2) (10000 * m 21 o + m 22 o)
noncomputable def s_join (m : Nat → Int → Int) (o : Int) : Nat → Int → Int := cif (join_no m o) m (up2 m 21 o (-1))
def stage_no (m : Nat → Int → Int) (n : Int) : Prop := n < 0 ∨ n > 8 ∨ m 23 0 = 10
noncomputable def a_stage (m : Nat → Int → Int) (n : Int) : Int := cif (stage_no m n) (-2) (m 23 0 + 1)
noncomputable def s_stage (m : Nat → Int → Int) (n : Int) : Nat → Int → Int := cif (stage_no m n) m (up2 (up2 m 24 (m 23 0) n) 23 0 (m 23 0 + 1))
noncomputable def a_unstage (m : Nat → Int → Int) : Int := cif (m 23 0 = 0) (-2) (m 24 (m 23 0 - 1))
noncomputable def s_unstage (m : Nat → Int → Int) : Nat → Int → Int := cif (m 23 0 = 0) m (up2 m 23 0 (m 23 0 - 1))
/-! WELL-FORMED STATES -/
def WP (m : Nat → Int → Int) (f : Nat → Int → UInt32) (p : Int) : Prop :=
  (0 ≤ m 1 p ∧ m 1 p ≤ 5 ∧ 1 ≤ m 2 p ∧ m 2 p ≤ 2000 ∧ 0 ≤ m 3 p ∧ m 3 p ≤ 2 ∧ 0 ≤ m 4 p ∧ m 4 p ≤ 3 ∧ 0 ≤ m 6 p ∧ m 6 p ≤ 9 ∧ -1 ≤ m 8 p ∧ m 8 p < m 0 0 ∧ -1 ≤ m 10 p ∧ m 10 p ≤ 8) ∧
  (∃ e, 0 ≤ e ∧ e ≤ 80000 ∧ f 5 p = E8 e) ∧
  (∀ k, 0 ≤ k → k < m 6 p → 0 ≤ m 7 (9 * p + k) ∧ m 7 (9 * p + k) < p) ∧
  (∀ k l, 0 ≤ k → k < m 6 p → 0 ≤ l → l < m 6 p → m 7 (9 * p + k) = m 7 (9 * p + l) → k = l) ∧
  (m 4 p ≠ 3 → ∀ k, 0 ≤ k → k < m 6 p → m 8 (m 7 (9 * p + k)) = p ∧ m 4 (m 7 (9 * p + k)) = 1) ∧
  (∀ i, 0 ≤ i → i < m 10 p → 0 ≤ m 11 (8 * p + i) ∧ m 11 (8 * p + i) ≤ 1 ∧ 0 ≤ m 12 (8 * p + i) ∧ m 12 (8 * p + i) ≤ 2000 ∧ 0 ≤ m 13 (8 * p + i) ∧ m 13 (8 * p + i) ≤ 2000 ∧ (m 11 (8 * p + i) = 1 → ∃ e, 0 ≤ e ∧ e ≤ 8 ∧ f 14 (8 * p + i) = E8 e)) ∧
  ((m 1 p = 0 ∨ m 1 p = 4) → m 6 p = 0) ∧
  (m 1 p = 1 → 2 ≤ m 6 p ∧ ∀ k, 0 ≤ k → k < m 6 p → m 1 (m 7 (9 * p + k)) = 0 ∨ m 1 (m 7 (9 * p + k)) = 4) ∧
  (m 1 p = 2 → 3 ≤ m 6 p ∧ ∀ k, 0 ≤ k → k < m 6 p → m 1 (m 7 (9 * p + k)) = 1) ∧
  (m 1 p = 3 → m 6 p = 3 ∧ ∀ k, 0 ≤ k → k < m 6 p → m 1 (m 7 (9 * p + k)) = 2 ∨ m 1 (m 7 (9 * p + k)) = 5) ∧
  (m 1 p = 5 → m 6 p = 2 ∧ (∀ k, 0 ≤ k → k < 2 → thick m (m 7 (9 * p + k))) ∧ 1 ≤ m 9 p ∧ m 9 p ≤ m 2 (m 7 (9 * p)) ∧ m 9 p ≤ m 2 (m 7 (9 * p + 1)) ∧ m 2 p = m 2 (m 7 (9 * p)) + m 2 (m 7 (9 * p + 1)) - m 9 p)
def WF (m : Nat → Int → Int) (f : Nat → Int → UInt32) : Prop :=
  (0 ≤ m 0 0 ∧ m 0 0 ≤ 120) ∧
  (∀ p, 0 ≤ p → p < m 0 0 → WP m f p) ∧
  (0 ≤ m 15 0 ∧ m 15 0 ≤ 9 ∧ ∀ i, 0 ≤ i → i < m 15 0 → 0 ≤ m 16 i ∧ m 16 i < m 0 0) ∧
  (∀ r, 0 ≤ r → r < 6 → -1 ≤ m 17 r ∧ m 17 r < m 0 0 ∧ (0 ≤ m 17 r → m 4 (m 17 r) = 2)) ∧
  (0 ≤ m 18 0 ∧ m 18 0 ≤ 6 ∧ ∀ o, 0 ≤ o → o < m 18 0 → 1 ≤ m 19 o ∧ m 19 o ≤ 2000 ∧ -1 ≤ m 21 o ∧ m 21 o ≤ 5 ∧ (0 ≤ m 21 o → 0 ≤ m 17 (m 21 o) ∧ 0 ≤ m 22 o ∧ m 22 o + m 19 o ≤ m 2 (m 17 (m 21 o))) ∧ ∃ e, 0 ≤ e ∧ e ≤ 800000 ∧ f 20 o = E8 e) ∧
  (0 ≤ m 23 0 ∧ m 23 0 ≤ 10 ∧ ∀ k, 0 ≤ k → k < m 23 0 → 0 ≤ m 24 k ∧ m 24 k ≤ 8)
theorem WF.n {m : Nat → Int → Int} {f : Nat → Int → UInt32} (h : WF m f) : 0 ≤ m 0 0 ∧ m 0 0 ≤ 120 := h.1
theorem WF.b {m : Nat → Int → Int} {f : Nat → Int → UInt32} (h : WF m f) {p : Int} (h1 : 0 ≤ p) (h2 : p < m 0 0) : 0 ≤ m 1 p ∧ m 1 p ≤ 5 ∧ 1 ≤ m 2 p ∧ m 2 p ≤ 2000 ∧ 0 ≤ m 3 p ∧ m 3 p ≤ 2 ∧ 0 ≤ m 4 p ∧ m 4 p ≤ 3 ∧ 0 ≤ m 6 p ∧ m 6 p ≤ 9 ∧ -1 ≤ m 8 p ∧ m 8 p < m 0 0 ∧ -1 ≤ m 10 p ∧ m 10 p ≤ 8 := (h.2.1 p h1 h2).1
theorem WF.h4 {m : Nat → Int → Int} {f : Nat → Int → UInt32} (h : WF m f) : ∀ p, 0 ≤ p → p < m 0 0 → 0 ≤ m 4 p ∧ m 4 p ≤ 3 := fun p h1 h2 => ⟨(h.b h1 h2).2.2.2.2.2.2.1, (h.b h1 h2).2.2.2.2.2.2.2.1⟩

theorem zlc_0 {x z : Int} : zlc x z = 0 ↔ x = z := by unfold zlc; split <;> (try split) <;> omega
theorem zlc_i {x z : Int} : zi (zlc x z) := by unfold zlc zi; split <;> (try split) <;> omega
def prodf (m : Nat → Int → Int) : Nat → Int
  | 0 => 1
  | k + 1 => prodf m k * m 24 (k : Int)
theorem prodf_b {m : Nat → Int → Int} {n : Nat} (h : ∀ k : Int, 0 ≤ k → k < n → 0 ≤ m 24 k ∧ m 24 k ≤ 8) : 0 ≤ prodf m n ∧ prodf m n ≤ 8 ^ n := by
  induction n with
  | zero => exact ⟨show (0 : Int) ≤ 1 by decide, show (1 : Int) ≤ 1 by decide⟩
  | succ n ih =>
    obtain ⟨h1, h2⟩ := ih (fun k a b => h k a (by omega))
    obtain ⟨h3, h4⟩ := h n (by omega) (by omega)
    refine ⟨Int.mul_nonneg h1 h3, ?_⟩
    show prodf m n * m 24 n ≤ 8 ^ (n + 1)
    rw [Int.pow_succ]
    exact Int.mul_le_mul h2 h4 h3 (Int.pow_nonneg (by decide))
theorem prodf_z {m : Nat → Int → Int} {n : Nat} (hn : n ≤ 10) (h : ∀ k : Int, 0 ≤ k → k < n → 0 ≤ m 24 k ∧ m 24 k ≤ 8) : 0 ≤ prodf m n ∧ prodf m n ≤ 1073741824 := by
  obtain ⟨h1, h2⟩ := prodf_b h
  refine ⟨h1, Int.le_trans h2 ?_⟩
  have : ∀ k : Nat, k ≤ 10 → (8 : Int) ^ k ≤ 1073741824 := by decide
  exact this n hn
def low (A B : Nat) (w : Int) : Int := if w = 0 then ((A / Nat.gcd A B : Nat) : Int) else ((B / Nat.gcd A B : Nat) : Int)
/-- the new row of n spots of piece p: k of them made -/
def rowi (m : Nat → Int → Int) (p n i : Int) : Nat → Int → Int := fun k j => if k = 11 ∧ 8 * p ≤ j ∧ j < 8 * p + i then 0 else up2 m 10 p n k j
theorem rowi_0 (m : Nat → Int → Int) (p n : Int) : rowi m p n 0 = up2 m 10 p n := by
  funext k j; unfold rowi; rw [if_neg]; omega
theorem rowi_s (m : Nat → Int → Int) (p n i : Int) (hi : 0 ≤ i) : up2 (rowi m p n i) 11 (8 * p + i) 0 = rowi m p n (i + 1) := by
  funext k j
  by_cases h : k = 11 ∧ j = 8 * p + i
  · obtain ⟨rfl, rfl⟩ := h
    rw [up2_s]; unfold rowi; rw [if_pos]; omega
  · show (if k = 11 ∧ j = 8 * p + i then 0 else rowi m p n i k j) = _
    rw [if_neg h]; unfold rowi
    by_cases h2 : k = 11 ∧ 8 * p ≤ j ∧ j < 8 * p + i
    · rw [if_pos h2, if_pos (by omega)]
    · rw [if_neg h2, if_neg (by omega)]
noncomputable def a_row (m : Nat → Int → Int) (p n : Int) : Int := cif (¬ there m p ∨ n > 8) (-2) (cif (n < 0) (-13) n)
noncomputable def s_row (m : Nat → Int → Int) (p n : Int) : Nat → Int → Int := cif (¬ there m p ∨ n > 8 ∨ n < 0) m (rowi m p n 8)
end
section
set_option maxRecDepth 20000 in
theorem r_isPiece {m : Nat → Int → Int} {f : Nat → Int → UInt32} {x : Nat} {g : Nat → Nat} {t : zT} (hR : RA m f x g t) {p : Int} (hp : zi p) (hn : 0 ≤ m 0 0 ∧ m 0 0 ≤ 120) : zM yX4_isPiece cX4_isPiece 2 (some .boolean) 0 0 0 [vR (some x), vI p] t (fun r t1 => ∃ z, r = some (vI z) ∧ 0 ≤ z ∧ z ≤ 1 ∧ (z = 1 ↔ (0 ≤ p ∧ p < m 0 0)) ∧ RA m f x g t1) := by
  refine zM.of [(0, vR (some x)), (1, vI p)] (by decide +kernel) rfl (Nat.le_of_ble_eq_true rfl) ?_
  obtain ⟨hp1, hp2⟩ := hp
  obtain ⟨hn1, hn2⟩ := hn
  refine z_iload_n 1 dX4_isPiece_0 rfl rfl ?_
  refine z_if_lt 16 4 dX4_isPiece_1 (by decide) rfl ⟨by omega, by omega⟩ (fun h1 => ?_) (fun h1 => ?_)
  · refine z_iconst 17 dX4_isPiece_16 rfl ?_
    refine z_zreturn rfl (by first | exact Or.inl rfl | exact Or.inr rfl | omega) dX4_isPiece_17 (by decide) (by decide) ?_
    refine ⟨_, rfl, by omega, by omega, by omega, hR⟩
  · refine z_iload_n 5 dX4_isPiece_4 rfl rfl ?_
    refine z_aload_n 6 dX4_isPiece_5 rfl rfl ?_
    refine r_getI 9 hR fl_X4_105 (by decide) dX4_isPiece_6 rfl ?_
    refine z_icmp_ge 16 12 dX4_isPiece_9 (by decide) rfl ⟨by omega, by omega⟩ ⟨by omega, by omega⟩ (fun h9 => ?_) (fun h9 => ?_)
    · refine z_iconst 17 dX4_isPiece_16 rfl ?_
      refine z_zreturn rfl (by first | exact Or.inl rfl | exact Or.inr rfl | omega) dX4_isPiece_17 (by decide) (by decide) ?_
      refine ⟨_, rfl, by omega, by omega, by omega, hR⟩
    · refine z_iconst 13 dX4_isPiece_12 rfl ?_
      refine z_goto 17 dX4_isPiece_13 (by decide) ?_
      refine z_zreturn rfl (by first | exact Or.inl rfl | exact Or.inr rfl | omega) dX4_isPiece_17 (by decide) (by decide) ?_
      refine ⟨_, rfl, by omega, by omega, by omega, hR⟩
set_option maxRecDepth 20000 in
theorem r_isThere {m : Nat → Int → Int} {f : Nat → Int → UInt32} {x : Nat} {g : Nat → Nat} {t : zT} (hR : RA m f x g t) {p : Int} (hp : zi p) (hn : 0 ≤ m 0 0 ∧ m 0 0 ≤ 120) (h4 : ∀ p, 0 ≤ p → p < m 0 0 → 0 ≤ m 4 p ∧ m 4 p ≤ 3) : zM yX4_isThere cX4_isThere 2 (some .boolean) 1 0 0 [vR (some x), vI p] t (fun r t1 => ∃ z, r = some (vI z) ∧ 0 ≤ z ∧ z ≤ 1 ∧ (z = 1 ↔ (0 ≤ p ∧ p < m 0 0 ∧ m 4 p ≠ 3)) ∧ RA m f x g t1) := by
  refine zM.of [(0, vR (some x)), (1, vI p)] (by decide +kernel) rfl (Nat.le_of_ble_eq_true rfl) ?_
  obtain ⟨hp1, hp2⟩ := hp
  have hn1 := hn.1
  have hn2 := hn.2
  refine z_aload_n 1 dX4_isThere_0 rfl rfl ?_
  refine z_iload_n 2 dX4_isThere_1 rfl rfl ?_
  refine z_callV 5 [_] la_X4_isPiece ml_X4_109 im_X4_isPiece se_X4_isPiece hR.1.1 hR.1.2.1 (by decide) rfl rfl (r_isPiece hR ⟨hp1, hp2⟩ hn) rfl rfl (by decide) (Nat.le_of_ble_eq_true rfl) (by decide) (by decide) dX4_isThere_2 rfl (fun r t hq => ?_)
  obtain ⟨z, rfl, hz1, hz2, hz3, hR⟩ := hq
  refine z_if_eq 22 8 dX4_isThere_5 (by decide) rfl ⟨by omega, by omega⟩ (fun h5 => ?_) (fun h5 => ?_)
  · refine z_iconst 23 dX4_isThere_22 rfl ?_
    refine z_zreturn rfl (by first | exact Or.inl rfl | exact Or.inr rfl | omega) dX4_isThere_23 (by decide) (by decide) ?_
    refine ⟨_, rfl, by omega, by omega, by omega, hR⟩
  · have h4p := h4 p (by omega) (by omega)
    refine z_aload_n 9 dX4_isThere_8 rfl rfl ?_
    refine r_getP 12 hR fl_X4_19 (by decide) dX4_isThere_9 rfl ?_
    refine z_iload_n 13 dX4_isThere_12 rfl rfl ?_
    refine r_iald 14 4 120 hR rk4 ⟨by omega, by omega⟩ dX4_isThere_13 rfl ?_
    refine z_iconst 15 dX4_isThere_14 rfl ?_
    refine z_icmp_eq 22 18 dX4_isThere_15 (by decide) rfl ⟨by omega, by omega⟩ ⟨by omega, by omega⟩ (fun h15 => ?_) (fun h15 => ?_)
    · refine z_iconst 23 dX4_isThere_22 rfl ?_
      refine z_zreturn rfl (by first | exact Or.inl rfl | exact Or.inr rfl | omega) dX4_isThere_23 (by decide) (by decide) ?_
      refine ⟨_, rfl, by omega, by omega, by omega, hR⟩
    · refine z_iconst 19 dX4_isThere_18 rfl ?_
      refine z_goto 23 dX4_isThere_19 (by decide) ?_
      refine z_zreturn rfl (by first | exact Or.inl rfl | exact Or.inr rfl | omega) dX4_isThere_23 (by decide) (by decide) ?_
      refine ⟨_, rfl, by omega, by omega, by omega, hR⟩
set_option maxRecDepth 20000 in
theorem r_isFree {m : Nat → Int → Int} {f : Nat → Int → UInt32} {x : Nat} {g : Nat → Nat} {t : zT} (hR : RA m f x g t) {p : Int} (hp : zi p) (hn : 0 ≤ m 0 0 ∧ m 0 0 ≤ 120) (h4 : ∀ p, 0 ≤ p → p < m 0 0 → 0 ≤ m 4 p ∧ m 4 p ≤ 3) : zM yX4_isFree cX4_isFree 2 (some .boolean) 1 0 0 [vR (some x), vI p] t (fun r t1 => ∃ z, r = some (vI z) ∧ 0 ≤ z ∧ z ≤ 1 ∧ (z = 1 ↔ (0 ≤ p ∧ p < m 0 0 ∧ m 4 p = 0)) ∧ RA m f x g t1) := by
  refine zM.of [(0, vR (some x)), (1, vI p)] (by decide +kernel) rfl (Nat.le_of_ble_eq_true rfl) ?_
  obtain ⟨hp1, hp2⟩ := hp
  have hn1 := hn.1
  have hn2 := hn.2
  refine z_aload_n 1 dX4_isFree_0 rfl rfl ?_
  refine z_iload_n 2 dX4_isFree_1 rfl rfl ?_
  refine z_callV 5 [_] la_X4_isPiece ml_X4_109 im_X4_isPiece se_X4_isPiece hR.1.1 hR.1.2.1 (by decide) rfl rfl (r_isPiece hR ⟨hp1, hp2⟩ hn) rfl rfl (by decide) (Nat.le_of_ble_eq_true rfl) (by decide) (by decide) dX4_isFree_2 rfl (fun r t hq => ?_)
  obtain ⟨z, rfl, hz1, hz2, hz3, hR⟩ := hq
  refine z_if_eq 21 8 dX4_isFree_5 (by decide) rfl ⟨by omega, by omega⟩ (fun h5 => ?_) (fun h5 => ?_)
  · refine z_iconst 22 dX4_isFree_21 rfl ?_
    refine z_zreturn rfl (by first | exact Or.inl rfl | exact Or.inr rfl | omega) dX4_isFree_22 (by decide) (by decide) ?_
    refine ⟨_, rfl, by omega, by omega, by omega, hR⟩
  · have h4p := h4 p (by omega) (by omega)
    refine z_aload_n 9 dX4_isFree_8 rfl rfl ?_
    refine r_getP 12 hR fl_X4_19 (by decide) dX4_isFree_9 rfl ?_
    refine z_iload_n 13 dX4_isFree_12 rfl rfl ?_
    refine r_iald 14 4 120 hR rk4 ⟨by omega, by omega⟩ dX4_isFree_13 rfl ?_
    refine z_if_ne 21 17 dX4_isFree_14 (by decide) rfl ⟨by omega, by omega⟩ (fun h14 => ?_) (fun h14 => ?_)
    · refine z_iconst 22 dX4_isFree_21 rfl ?_
      refine z_zreturn rfl (by first | exact Or.inl rfl | exact Or.inr rfl | omega) dX4_isFree_22 (by decide) (by decide) ?_
      refine ⟨_, rfl, by omega, by omega, by omega, hR⟩
    · refine z_iconst 18 dX4_isFree_17 rfl ?_
      refine z_goto 22 dX4_isFree_18 (by decide) ?_
      refine z_zreturn rfl (by first | exact Or.inl rfl | exact Or.inr rfl | omega) dX4_isFree_22 (by decide) (by decide) ?_
      refine ⟨_, rfl, by omega, by omega, by omega, hR⟩
set_option maxRecDepth 20000 in
theorem r_newPiece {m : Nat → Int → Int} {f : Nat → Int → UInt32} {x : Nat} {g : Nat → Nat} {t : zT} (hR : RA m f x g t) {k : Int} (hk : zi k) {w : Int} (hw : zi w) {q : Int} (hq : zi q) (hn : 0 ≤ m 0 0 ∧ m 0 0 < 120) : zM yX4_newPiece cX4_newPiece 5 (some .int) 0 0 0 [vR (some x), vI k, vI w, vI q] t (fun r t1 => r = some (vI (m 0 0)) ∧ RA (np m k w q) f x g t1) := by
  refine zM.of [(0, vR (some x)), (1, vI k), (2, vI w), (3, vI q)] (by decide +kernel) rfl (Nat.le_of_ble_eq_true rfl) ?_
  obtain ⟨hn1, hn2⟩ := hn
  refine z_aload_n 1 dX4_newPiece_0 rfl rfl ?_
  refine r_getI 4 hR fl_X4_105 (by decide) dX4_newPiece_1 rfl ?_
  refine z_istore (lv' := [(4, _), (0, _), (1, _), (2, _), (3, _)]) 6 dX4_newPiece_4 rfl rfl rfl ?_
  refine z_aload_n 7 dX4_newPiece_6 rfl rfl ?_
  refine z_dup 8 dX4_newPiece_7 rfl rfl ?_
  refine r_getI 11 hR fl_X4_105 (by decide) dX4_newPiece_8 rfl ?_
  refine z_iconst 12 dX4_newPiece_11 rfl ?_
  refine z_iadd 13 dX4_newPiece_12 rfl ?_
  refine r_putI 16 hR fl_X4_105 (by decide) dX4_newPiece_13 rfl (fun t hR => ?_)
  refine z_aload_n 17 dX4_newPiece_16 rfl rfl ?_
  refine r_getP 20 hR fl_X4_9 (by decide) dX4_newPiece_17 rfl ?_
  refine z_iload 22 dX4_newPiece_20 rfl rfl ?_
  refine z_iload_n 23 dX4_newPiece_22 rfl rfl ?_
  refine r_iast 24 1 120 hR rk1 ⟨by omega, by omega⟩ dX4_newPiece_23 rfl (fun t hR => ?_)
  refine z_aload_n 25 dX4_newPiece_24 rfl rfl ?_
  refine r_getP 28 hR fl_X4_13 (by decide) dX4_newPiece_25 rfl ?_
  refine z_iload 30 dX4_newPiece_28 rfl rfl ?_
  refine z_iload_n 31 dX4_newPiece_30 rfl rfl ?_
  refine r_iast 32 2 120 hR rk2 ⟨by omega, by omega⟩ dX4_newPiece_31 rfl (fun t hR => ?_)
  refine z_aload_n 33 dX4_newPiece_32 rfl rfl ?_
  refine r_getP 36 hR fl_X4_16 (by decide) dX4_newPiece_33 rfl ?_
  refine z_iload 38 dX4_newPiece_36 rfl rfl ?_
  refine z_iload_n 39 dX4_newPiece_38 rfl rfl ?_
  refine r_iast 40 3 120 hR rk3 ⟨by omega, by omega⟩ dX4_newPiece_39 rfl (fun t hR => ?_)
  refine z_aload_n 41 dX4_newPiece_40 rfl rfl ?_
  refine r_getP 44 hR fl_X4_19 (by decide) dX4_newPiece_41 rfl ?_
  refine z_iload 46 dX4_newPiece_44 rfl rfl ?_
  refine z_iconst 47 dX4_newPiece_46 rfl ?_
  refine r_iast 48 4 120 hR rk4 ⟨by omega, by omega⟩ dX4_newPiece_47 rfl (fun t hR => ?_)
  refine z_aload_n 49 dX4_newPiece_48 rfl rfl ?_
  refine r_getP 52 hR fl_X4_26 (by decide) dX4_newPiece_49 rfl ?_
  refine z_iload 54 dX4_newPiece_52 rfl rfl ?_
  refine z_iconst 55 dX4_newPiece_54 rfl ?_
  refine r_iast 56 6 120 hR rk6 ⟨by omega, by omega⟩ dX4_newPiece_55 rfl (fun t hR => ?_)
  refine z_aload_n 57 dX4_newPiece_56 rfl rfl ?_
  refine r_getP 60 hR fl_X4_32 (by decide) dX4_newPiece_57 rfl ?_
  refine z_iload 62 dX4_newPiece_60 rfl rfl ?_
  refine z_iconst 63 dX4_newPiece_62 rfl ?_
  refine r_iast 64 8 120 hR rk8 ⟨by omega, by omega⟩ dX4_newPiece_63 rfl (fun t hR => ?_)
  refine z_aload_n 65 dX4_newPiece_64 rfl rfl ?_
  refine r_getP 68 hR fl_X4_38 (by decide) dX4_newPiece_65 rfl ?_
  refine z_iload 70 dX4_newPiece_68 rfl rfl ?_
  refine z_iconst 71 dX4_newPiece_70 rfl ?_
  refine r_iast 72 10 120 hR rk10 ⟨by omega, by omega⟩ dX4_newPiece_71 rfl (fun t hR => ?_)
  refine z_iload 74 dX4_newPiece_72 rfl rfl ?_
  refine z_ireturn rfl dX4_newPiece_74 (by decide) (by decide) ?_
  exact ⟨rfl, hR⟩
set_option maxRecDepth 20000 in
theorem r_single {m : Nat → Int → Int} {f : Nat → Int → UInt32} {x : Nat} {g : Nat → Nat} {t : zT} (hR : RA m f x g t) {k : Int} (hk : zi k) {w : Int} (hw : zi w) {e : Int} (he : zi e) (hn : 0 ≤ m 0 0 ∧ m 0 0 ≤ 120) : zM yX4_single cX4_single 5 (some .int) 1 0 0 [vR (some x), vI k, vI w, vI e] t (fun r t1 => r = some (vI (a_new m w e)) ∧ RA (s_new m f k w e).1 (s_new m f k w e).2 x g t1) := by
  refine zM.of [(0, vR (some x)), (1, vI k), (2, vI w), (3, vI e)] (by decide +kernel) rfl (Nat.le_of_ble_eq_true rfl) ?_
  obtain ⟨hw1, hw2⟩ := hw
  obtain ⟨he1, he2⟩ := he
  obtain ⟨hn3, hn4⟩ := hn
  refine z_iload_n 1 dX4_single_0 rfl rfl ?_
  refine z_iconst 2 dX4_single_1 rfl ?_
  refine z_icmp_lt 31 5 dX4_single_2 (by decide) rfl ⟨by omega, by omega⟩ ⟨by omega, by omega⟩ (fun h2 => ?_) (fun h2 => ?_)
  · refine z_bipush 33 dX4_single_31 rfl ⟨by decide, by decide⟩ ?_
    refine z_ireturn rfl dX4_single_33 (by decide) (by decide) ?_
    have hc : new_no m w e ∨ ¬ new_no m w e := Classical.em _
    unfold a_new s_new
    rcases hc with hc | hc
    · simp only [if_pos hc]; first | exact ⟨trivial, hR⟩ | exact ⟨rfl, hR⟩ | (exfalso; unfold new_no at hc; omega)
    · simp only [if_neg hc]; first | exact ⟨trivial, hR⟩ | exact ⟨rfl, hR⟩ | (exfalso; unfold new_no at hc; omega)
  · refine z_iload_n 6 dX4_single_5 rfl rfl ?_
    refine z_sipush 9 dX4_single_6 rfl ⟨by decide, by decide⟩ ?_
    refine z_icmp_gt 31 12 dX4_single_9 (by decide) rfl ⟨by omega, by omega⟩ ⟨by omega, by omega⟩ (fun h9 => ?_) (fun h9 => ?_)
    · refine z_bipush 33 dX4_single_31 rfl ⟨by decide, by decide⟩ ?_
      refine z_ireturn rfl dX4_single_33 (by decide) (by decide) ?_
      have hc : new_no m w e ∨ ¬ new_no m w e := Classical.em _
      unfold a_new s_new
      rcases hc with hc | hc
      · simp only [if_pos hc]; first | exact ⟨trivial, hR⟩ | exact ⟨rfl, hR⟩ | (exfalso; unfold new_no at hc; omega)
      · simp only [if_neg hc]; first | exact ⟨trivial, hR⟩ | exact ⟨rfl, hR⟩ | (exfalso; unfold new_no at hc; omega)
    · refine z_iload_n 13 dX4_single_12 rfl rfl ?_
      refine z_if_lt 31 16 dX4_single_13 (by decide) rfl ⟨by omega, by omega⟩ (fun h13 => ?_) (fun h13 => ?_)
      · refine z_bipush 33 dX4_single_31 rfl ⟨by decide, by decide⟩ ?_
        refine z_ireturn rfl dX4_single_33 (by decide) (by decide) ?_
        have hc : new_no m w e ∨ ¬ new_no m w e := Classical.em _
        unfold a_new s_new
        rcases hc with hc | hc
        · simp only [if_pos hc]; first | exact ⟨trivial, hR⟩ | exact ⟨rfl, hR⟩ | (exfalso; unfold new_no at hc; omega)
        · simp only [if_neg hc]; first | exact ⟨trivial, hR⟩ | exact ⟨rfl, hR⟩ | (exfalso; unfold new_no at hc; omega)
      · refine z_iload_n 17 dX4_single_16 rfl rfl ?_
        refine z_ldc 19 co_X4_113 dX4_single_17 rfl ?_
        refine z_icmp_gt 31 22 dX4_single_19 (by decide) rfl ⟨by omega, by omega⟩ ⟨by omega, by omega⟩ (fun h19 => ?_) (fun h19 => ?_)
        · refine z_bipush 33 dX4_single_31 rfl ⟨by decide, by decide⟩ ?_
          refine z_ireturn rfl dX4_single_33 (by decide) (by decide) ?_
          have hc : new_no m w e ∨ ¬ new_no m w e := Classical.em _
          unfold a_new s_new
          rcases hc with hc | hc
          · simp only [if_pos hc]; first | exact ⟨trivial, hR⟩ | exact ⟨rfl, hR⟩ | (exfalso; unfold new_no at hc; omega)
          · simp only [if_neg hc]; first | exact ⟨trivial, hR⟩ | exact ⟨rfl, hR⟩ | (exfalso; unfold new_no at hc; omega)
        · refine z_aload_n 23 dX4_single_22 rfl rfl ?_
          refine r_getI 26 hR fl_X4_105 (by decide) dX4_single_23 rfl ?_
          refine z_bipush 28 dX4_single_26 rfl ⟨by decide, by decide⟩ ?_
          refine z_icmp_ne 34 31 dX4_single_28 (by decide) rfl ⟨by omega, by omega⟩ ⟨by omega, by omega⟩ (fun h28 => ?_) (fun h28 => ?_)
          · refine z_aload_n 35 dX4_single_34 rfl rfl ?_
            refine z_iload_n 36 dX4_single_35 rfl rfl ?_
            refine z_iload_n 37 dX4_single_36 rfl rfl ?_
            refine z_iconst 38 dX4_single_37 rfl ?_
            refine z_callV 41 [_, _, _] la_X4_newPiece ml_X4_114 im_X4_newPiece se_X4_newPiece hR.1.1 hR.1.2.1 (by decide) rfl rfl (r_newPiece hR hk ⟨hw1, hw2⟩ ⟨by omega, by omega⟩ ⟨by omega, by omega⟩) rfl rfl (by decide) (Nat.le_of_ble_eq_true rfl) (by decide) (by decide) dX4_single_38 rfl (fun r t hq => ?_)
            obtain ⟨rfl, hR⟩ := hq
            refine z_istore (lv' := [(4, _), (0, _), (1, _), (2, _), (3, _)]) 43 dX4_single_41 rfl rfl rfl ?_
            refine z_aload_n 44 dX4_single_43 rfl rfl ?_
            refine r_getP 47 hR fl_X4_22 (by decide) dX4_single_44 rfl ?_
            refine z_iload 49 dX4_single_47 rfl rfl ?_
            refine z_iload_n 50 dX4_single_49 rfl rfl ?_
            refine z_i2f 51 dX4_single_50 rfl ?_
            refine z_ldcf 53 co_X4_118 dX4_single_51 rfl ?_
            refine z_fmul 54 dX4_single_53 rfl (E8_num (by omega) (by omega)) ?_
            refine r_fast 55 5 120 hR rk5 ⟨by omega, by omega⟩ dX4_single_54 rfl (fun t hR => ?_)
            refine z_iload 57 dX4_single_55 rfl rfl ?_
            refine z_ireturn rfl dX4_single_57 (by decide) (by decide) ?_
            have hc : new_no m w e ∨ ¬ new_no m w e := Classical.em _
            unfold a_new s_new
            rcases hc with hc | hc
            · simp only [if_pos hc]; first | exact ⟨trivial, hR⟩ | exact ⟨rfl, hR⟩ | (exfalso; unfold new_no at hc; omega)
            · simp only [if_neg hc]; first | exact ⟨trivial, hR⟩ | exact ⟨rfl, hR⟩ | (exfalso; unfold new_no at hc; omega)
          · refine z_bipush 33 dX4_single_31 rfl ⟨by decide, by decide⟩ ?_
            refine z_ireturn rfl dX4_single_33 (by decide) (by decide) ?_
            have hc : new_no m w e ∨ ¬ new_no m w e := Classical.em _
            unfold a_new s_new
            rcases hc with hc | hc
            · simp only [if_pos hc]; first | exact ⟨trivial, hR⟩ | exact ⟨rfl, hR⟩ | (exfalso; unfold new_no at hc; omega)
            · simp only [if_neg hc]; first | exact ⟨trivial, hR⟩ | exact ⟨rfl, hR⟩ | (exfalso; unfold new_no at hc; omega)
set_option maxRecDepth 20000 in
theorem r_yarn {m : Nat → Int → Int} {f : Nat → Int → UInt32} {x : Nat} {g : Nat → Nat} {t : zT} (hR : RA m f x g t) {w : Int} (hw : zi w) {e : Int} (he : zi e) (hW : WF m f) : zM yX4_yarn cX4_yarn 3 (some .int) 2 0 0 [vR (some x), vI w, vI e] t (fun r t1 => r = some (vI (a_new m w e)) ∧ RA (s_new m f 0 w e).1 (s_new m f 0 w e).2 x g t1) := by
  refine zM.of [(0, vR (some x)), (1, vI w), (2, vI e)] (by decide +kernel) rfl (Nat.le_of_ble_eq_true rfl) ?_
  refine z_aload_n 1 dX4_yarn_0 rfl rfl ?_
  refine z_iconst 2 dX4_yarn_1 rfl ?_
  refine z_iload_n 3 dX4_yarn_2 rfl rfl ?_
  refine z_iload_n 4 dX4_yarn_3 rfl rfl ?_
  refine z_callV 7 [_, _, _] la_X4_single ml_X4_119 im_X4_single se_X4_single hR.1.1 hR.1.2.1 (by decide) rfl rfl (r_single hR ⟨by omega, by omega⟩ hw he hW.n) rfl rfl (by decide) (Nat.le_of_ble_eq_true rfl) (by decide) (by decide) dX4_yarn_4 rfl (fun r t hq => ?_)
  obtain ⟨rfl, hR⟩ := hq
  refine z_ireturn rfl dX4_yarn_7 (by decide) (by decide) ?_
  exact ⟨rfl, hR⟩
set_option maxRecDepth 20000 in
theorem r_tape {m : Nat → Int → Int} {f : Nat → Int → UInt32} {x : Nat} {g : Nat → Nat} {t : zT} (hR : RA m f x g t) {w : Int} (hw : zi w) {e : Int} (he : zi e) (hW : WF m f) : zM yX4_tape cX4_tape 3 (some .int) 2 0 0 [vR (some x), vI w, vI e] t (fun r t1 => r = some (vI (a_new m w e)) ∧ RA (s_new m f 4 w e).1 (s_new m f 4 w e).2 x g t1) := by
  refine zM.of [(0, vR (some x)), (1, vI w), (2, vI e)] (by decide +kernel) rfl (Nat.le_of_ble_eq_true rfl) ?_
  refine z_aload_n 1 dX4_tape_0 rfl rfl ?_
  refine z_iconst 2 dX4_tape_1 rfl ?_
  refine z_iload_n 3 dX4_tape_2 rfl rfl ?_
  refine z_iload_n 4 dX4_tape_3 rfl rfl ?_
  refine z_callV 7 [_, _, _] la_X4_single ml_X4_119 im_X4_single se_X4_single hR.1.1 hR.1.2.1 (by decide) rfl rfl (r_single hR ⟨by omega, by omega⟩ hw he hW.n) rfl rfl (by decide) (Nat.le_of_ble_eq_true rfl) (by decide) (by decide) dX4_tape_4 rfl (fun r t hq => ?_)
  obtain ⟨rfl, hR⟩ := hq
  refine z_ireturn rfl dX4_tape_7 (by decide) (by decide) ?_
  exact ⟨rfl, hR⟩
set_option maxRecDepth 20000 in
theorem r_pick {m : Nat → Int → Int} {f : Nat → Int → UInt32} {x : Nat} {g : Nat → Nat} {t : zT} (hR : RA m f x g t) {p : Int} (hp : zi p) (hW : WF m f) : zM yX4_pick cX4_pick 4 (some .int) 2 0 0 [vR (some x), vI p] t (fun r t1 => r = some (vI (a_pick m p)) ∧ RA (s_pick m p) f x g t1) := by
  refine zM.of [(0, vR (some x)), (1, vI p)] (by decide +kernel) rfl (Nat.le_of_ble_eq_true rfl) ?_
  obtain ⟨hp1, hp2⟩ := hp
  have hn1 := hW.n.1
  have hn2 := hW.n.2
  obtain ⟨hk1, hk2, hk3⟩ := hW.2.2.1
  have L25 : ∀ (fuel : Nat) (k good : Int) (t : zT) (hR : RA m f x g t) (hk : 0 ≤ k ∧ k ≤ m 15 0) (hg : 0 ≤ good ∧ good ≤ 1) (hq : good = 1 ↔ (free m p ∧ m 15 0 < 9 ∧ ∀ i, 0 ≤ i → i < k → m 16 i ≠ p)) (hf : m 15 0 - k < (fuel : Int)), zOK yX4_pick cX4_pick 4 (some .int) 2 0 0 (fun r t1 => r = some (vI (a_pick m p)) ∧ RA (s_pick m p) f x g t1) 0 0 25 [(3, vI k), (2, vI good), (0, vR (some x)), (1, vI p)] [] t := by
    intro fuel
    induction fuel with
    | zero => intro k good t hR hk hg hq hf; exfalso; omega
    | succ fuel ih25 =>
      intro k good t hR hk hg hq hf
      obtain ⟨hk4, hk5⟩ := hk
      refine z_iload_n 26 dX4_pick_25 rfl rfl ?_
      refine z_aload_n 27 dX4_pick_26 rfl rfl ?_
      refine r_getI 30 hR fl_X4_125 (by decide) dX4_pick_27 rfl ?_
      refine z_icmp_ge 57 33 dX4_pick_30 (by decide) rfl ⟨by omega, by omega⟩ ⟨by omega, by omega⟩ (fun h30 => ?_) (fun h30 => ?_)
      · refine z_iload_n 58 dX4_pick_57 rfl rfl ?_
        refine z_if_ne 64 61 dX4_pick_58 (by decide) rfl ⟨by omega, by omega⟩ (fun h58 => ?_) (fun h58 => ?_)
        · refine z_aload_n 65 dX4_pick_64 rfl rfl ?_
          refine r_getP 68 hR fl_X4_54 (by decide) dX4_pick_65 rfl ?_
          refine z_aload_n 69 dX4_pick_68 rfl rfl ?_
          refine r_getI 72 hR fl_X4_125 (by decide) dX4_pick_69 rfl ?_
          refine z_iload_n 73 dX4_pick_72 rfl rfl ?_
          refine r_iast 74 16 9 hR rk16 ⟨by omega, by omega⟩ dX4_pick_73 rfl (fun t hR => ?_)
          refine z_aload_n 75 dX4_pick_74 rfl rfl ?_
          refine z_dup 76 dX4_pick_75 rfl rfl ?_
          refine r_getIe 79 hR fl_X4_125 (by decide) (show _ = m 15 0 from rfl) dX4_pick_76 rfl ?_
          refine z_iconst 80 dX4_pick_79 rfl ?_
          refine z_iadd 81 dX4_pick_80 rfl ?_
          refine r_putI 84 hR fl_X4_125 (by decide) dX4_pick_81 rfl (fun t hR => ?_)
          refine z_aload_n 85 dX4_pick_84 rfl rfl ?_
          refine r_getIe 88 hR fl_X4_125 (by decide) (up2_s _ _ _ _) dX4_pick_85 rfl ?_
          refine z_ireturn rfl dX4_pick_88 (by decide) (by decide) ?_
          have hc : pick_ok m p ∨ ¬ pick_ok m p := Classical.em _
          have hkk : k = m 15 0 := by omega
          unfold a_pick s_pick
          rcases hc with hc | hc
          · simp only [if_pos hc]; first | exact ⟨trivial, hR⟩ | exact ⟨rfl, hR⟩ | (exfalso; have := hq.mpr ⟨hc.1, hc.2.1, by rw [hkk]; exact hc.2.2⟩; omega)
          · simp only [if_neg hc]; first | exact ⟨trivial, hR⟩ | exact ⟨rfl, hR⟩ | (exfalso; rw [hkk] at hq; exact hc (hq.mp (by omega)))
        · refine z_bipush 63 dX4_pick_61 rfl ⟨by decide, by decide⟩ ?_
          refine z_ireturn rfl dX4_pick_63 (by decide) (by decide) ?_
          have hc : pick_ok m p ∨ ¬ pick_ok m p := Classical.em _
          have hkk : k = m 15 0 := by omega
          unfold a_pick s_pick
          rcases hc with hc | hc
          · simp only [if_pos hc]; first | exact ⟨trivial, hR⟩ | exact ⟨rfl, hR⟩ | (exfalso; have := hq.mpr ⟨hc.1, hc.2.1, by rw [hkk]; exact hc.2.2⟩; omega)
          · simp only [if_neg hc]; first | exact ⟨trivial, hR⟩ | exact ⟨rfl, hR⟩ | (exfalso; rw [hkk] at hq; exact hc (hq.mp (by omega)))
      · have h16 := hk3 k (by omega) (by omega)
        refine z_iload_n 34 dX4_pick_33 rfl rfl ?_
        refine z_aload_n 35 dX4_pick_34 rfl rfl ?_
        refine r_getP 38 hR fl_X4_54 (by decide) dX4_pick_35 rfl ?_
        refine z_iload_n 39 dX4_pick_38 rfl rfl ?_
        refine r_iald 40 16 9 hR rk16 ⟨by omega, by omega⟩ dX4_pick_39 rfl ?_
        refine z_iload_n 41 dX4_pick_40 rfl rfl ?_
        refine z_icmp_eq 48 44 dX4_pick_41 (by decide) rfl ⟨by omega, by omega⟩ ⟨by omega, by omega⟩ (fun h41 => ?_) (fun h41 => ?_)
        · refine z_iconst 49 dX4_pick_48 rfl ?_
          refine z_iand 50 dX4_pick_49 rfl (and01 (by omega) (by omega)) ?_
          refine z_istore_n (lv' := [(2, _), (3, _), (0, _), (1, _)]) 51 dX4_pick_50 rfl rfl rfl ?_
          refine z_iinc (lv' := [(3, _), (2, _), (0, _), (1, _)]) 54 dX4_pick_51 rfl rfl rfl rfl ?_
          refine z_goto 25 dX4_pick_54 (by decide) ?_
          refine z_sub (lv' := [(3, _), (2, _), (0, _), (1, _)]) ⟨rfl, rfl, rfl, rfl, trivial⟩ ?_
          exact ih25 _ _ _ hR (by omega) (by unfold b_and; split <;> omega) (by
          unfold b_and
          constructor
          · intro hh
            have h1 : good = 1 := by split at hh <;> omega
            obtain ⟨f1, f2, f3⟩ := hq.mp h1
            refine ⟨f1, f2, fun i i1 i2 => ?_⟩
            by_cases hi : i = k
            · subst hi; first | assumption | (exfalso; split at hh <;> omega)
            · exact f3 i i1 (by omega)
          · intro hh
            obtain ⟨f1, f2, f3⟩ := hh
            have h1 : good = 1 := hq.mpr ⟨f1, f2, fun i i1 i2 => f3 i i1 (by omega)⟩
            have h2 := f3 k (by omega) (by omega)
            rw [if_pos]
            first | exact ⟨h1, rfl⟩ | (exfalso; omega)) (by omega)
        · refine z_iconst 45 dX4_pick_44 rfl ?_
          refine z_goto 49 dX4_pick_45 (by decide) ?_
          refine z_iand 50 dX4_pick_49 rfl (and01 (by omega) (by omega)) ?_
          refine z_istore_n (lv' := [(2, _), (3, _), (0, _), (1, _)]) 51 dX4_pick_50 rfl rfl rfl ?_
          refine z_iinc (lv' := [(3, _), (2, _), (0, _), (1, _)]) 54 dX4_pick_51 rfl rfl rfl rfl ?_
          refine z_goto 25 dX4_pick_54 (by decide) ?_
          refine z_sub (lv' := [(3, _), (2, _), (0, _), (1, _)]) ⟨rfl, rfl, rfl, rfl, trivial⟩ ?_
          exact ih25 _ _ _ hR (by omega) (by unfold b_and; split <;> omega) (by
          unfold b_and
          constructor
          · intro hh
            have h1 : good = 1 := by split at hh <;> omega
            obtain ⟨f1, f2, f3⟩ := hq.mp h1
            refine ⟨f1, f2, fun i i1 i2 => ?_⟩
            by_cases hi : i = k
            · subst hi; first | assumption | (exfalso; split at hh <;> omega)
            · exact f3 i i1 (by omega)
          · intro hh
            obtain ⟨f1, f2, f3⟩ := hh
            have h1 : good = 1 := hq.mpr ⟨f1, f2, fun i i1 i2 => f3 i i1 (by omega)⟩
            have h2 := f3 k (by omega) (by omega)
            rw [if_pos]
            first | exact ⟨h1, rfl⟩ | (exfalso; omega)) (by omega)
  have L22 : ∀ (good : Int) (t : zT) (hR : RA m f x g t) (hg : 0 ≤ good ∧ good ≤ 1) (hg2 : good = 1 ↔ (free m p ∧ m 15 0 < 9 ∧ ∀ i, 0 ≤ i → i < 0 → m 16 i ≠ p)), zOK yX4_pick cX4_pick 4 (some .int) 2 0 0 (fun r t1 => r = some (vI (a_pick m p)) ∧ RA (s_pick m p) f x g t1) 0 0 22 [(0, vR (some x)), (1, vI p)] [vI good] t := by
    intro good t hR hg hg2
    refine z_istore_n (lv' := [(2, _), (0, _), (1, _)]) 23 dX4_pick_22 rfl rfl rfl ?_
    refine z_iconst 24 dX4_pick_23 rfl ?_
    refine z_istore_n (lv' := [(3, _), (2, _), (0, _), (1, _)]) 25 dX4_pick_24 rfl rfl rfl ?_
    refine z_sub (lv' := [(3, _), (2, _), (0, _), (1, _)]) ⟨rfl, rfl, rfl, rfl, trivial⟩ ?_
    exact L25 10 _ _ _ hR (by omega) (by omega) (by simpa using hg2) (by omega)
  refine z_aload_n 1 dX4_pick_0 rfl rfl ?_
  refine z_iload_n 2 dX4_pick_1 rfl rfl ?_
  refine z_callV 5 [_] la_X4_isFree ml_X4_122 im_X4_isFree se_X4_isFree hR.1.1 hR.1.2.1 (by decide) rfl rfl (r_isFree hR ⟨hp1, hp2⟩ hW.n hW.h4) rfl rfl (by decide) (Nat.le_of_ble_eq_true rfl) (by decide) (by decide) dX4_pick_2 rfl (fun r t hq => ?_)
  obtain ⟨z, rfl, hz1, hz2, hz3, hR⟩ := hq
  refine z_if_eq 21 8 dX4_pick_5 (by decide) rfl ⟨by omega, by omega⟩ (fun h5 => ?_) (fun h5 => ?_)
  · refine z_iconst 22 dX4_pick_21 rfl ?_
    refine z_sub (lv' := [(0, _), (1, _)]) ⟨rfl, rfl, trivial⟩ ?_
    exact L22 _ _ hR (by omega) (by unfold free; constructor <;> intro hh <;> first | omega | (refine ⟨by omega, by omega, fun i h1 h2 => ?_⟩; omega))
  · refine z_aload_n 9 dX4_pick_8 rfl rfl ?_
    refine r_getI 12 hR fl_X4_125 (by decide) dX4_pick_9 rfl ?_
    refine z_bipush 14 dX4_pick_12 rfl ⟨by decide, by decide⟩ ?_
    refine z_icmp_ge 21 17 dX4_pick_14 (by decide) rfl ⟨by omega, by omega⟩ ⟨by omega, by omega⟩ (fun h14 => ?_) (fun h14 => ?_)
    · refine z_iconst 22 dX4_pick_21 rfl ?_
      refine z_sub (lv' := [(0, _), (1, _)]) ⟨rfl, rfl, trivial⟩ ?_
      exact L22 _ _ hR (by omega) (by unfold free; constructor <;> intro hh <;> first | omega | (refine ⟨by omega, by omega, fun i h1 h2 => ?_⟩; omega))
    · refine z_iconst 18 dX4_pick_17 rfl ?_
      refine z_goto 22 dX4_pick_18 (by decide) ?_
      refine z_sub (lv' := [(0, _), (1, _)]) ⟨rfl, rfl, trivial⟩ ?_
      exact L22 _ _ hR (by omega) (by unfold free; constructor <;> intro hh <;> first | omega | (refine ⟨by omega, by omega, fun i h1 h2 => ?_⟩; omega))
end
section
set_option maxRecDepth 20000 in
theorem r_drop {m : Nat → Int → Int} {f : Nat → Int → UInt32} {x : Nat} {g : Nat → Nat} {t : zT} (hR : RA m f x g t)  : zM yX4_drop cX4_drop 2 (some .int) 0 0 0 [vR (some x)] t (fun r t1 => r = some (vI (m 15 0)) ∧ RA (up2 m 15 0 0) f x g t1) := by
  refine zM.of [(0, vR (some x))] (by decide +kernel) rfl (Nat.le_of_ble_eq_true rfl) ?_
  refine z_aload_n 1 dX4_drop_0 rfl rfl ?_
  refine r_getI 4 hR fl_X4_125 (by decide) dX4_drop_1 rfl ?_
  refine z_istore_n (lv' := [(1, _), (0, _)]) 5 dX4_drop_4 rfl rfl rfl ?_
  refine z_aload_n 6 dX4_drop_5 rfl rfl ?_
  refine z_iconst 7 dX4_drop_6 rfl ?_
  refine r_putI 10 hR fl_X4_125 (by decide) dX4_drop_7 rfl (fun t hR => ?_)
  refine z_iload_n 11 dX4_drop_10 rfl rfl ?_
  refine z_ireturn rfl dX4_drop_11 (by decide) (by decide) ?_
  exact ⟨rfl, hR⟩
set_option maxRecDepth 20000 in
theorem r_mayBeIn {m : Nat → Int → Int} {f : Nat → Int → UInt32} {x : Nat} {g : Nat → Nat} {t : zT} (hR : RA m f x g t) {k : Int} (hk : zi k) {q : Int} (hq : zi q) {p : Int} (hp : zi p) (h0 : 0 ≤ p ∧ p < 120) (hqq : 1 ≤ q ∧ q ≤ 2) (hb : 0 ≤ m 1 p ∧ m 1 p ≤ 5 ∧ 0 ≤ m 3 p ∧ m 3 p ≤ 2 ∧ 0 ≤ m 4 p ∧ m 4 p ≤ 3) : zM yX4_mayBeIn cX4_mayBeIn 6 (some .boolean) 0 0 0 [vR (some x), vI k, vI q, vI p] t (fun r t1 => ∃ z, r = some (vI z) ∧ 0 ≤ z ∧ z ≤ 1 ∧ (z = 1 ↔ mayin m k q p) ∧ RA m f x g t1) := by
  refine zM.of [(0, vR (some x)), (1, vI k), (2, vI q), (3, vI p)] (by decide +kernel) rfl (Nat.le_of_ble_eq_true rfl) ?_
  obtain ⟨hk1, hk2⟩ := hk
  obtain ⟨hq1, hq2⟩ := hq
  obtain ⟨hp1, hp2⟩ := hp
  have L77 : ∀ (z : Int) (t : zT) (hR : RA m f x g t) (hz : 0 ≤ z ∧ z ≤ 1) (hz2 : m 4 p = 0 ∧ k ≠ 1) (hz3 : z = 1 ↔ ((k = 2 ∧ m 1 p = 1) ∨ (k ≠ 2 ∧ (m 1 p = 2 ∨ m 1 p = 5)))), zOK yX4_mayBeIn cX4_mayBeIn 6 (some .boolean) 0 0 0 (fun r t1 => ∃ z, r = some (vI z) ∧ 0 ≤ z ∧ z ≤ 1 ∧ (z = 1 ↔ mayin m k q p) ∧ RA m f x g t1) 0 0 77 [(4, vI (m 1 p)), (0, vR (some x)), (1, vI k), (2, vI q), (3, vI p)] [vI z] t := by
    intro z t hR hz hz2 hz3
    refine z_istore (lv' := [(5, _), (4, _), (0, _), (1, _), (2, _), (3, _)]) 79 dX4_mayBeIn_77 rfl rfl rfl ?_
    refine z_iload 81 dX4_mayBeIn_79 rfl rfl ?_
    refine z_if_eq 100 84 dX4_mayBeIn_81 (by decide) rfl ⟨by omega, by omega⟩ (fun h81 => ?_) (fun h81 => ?_)
    · refine z_iconst 101 dX4_mayBeIn_100 rfl ?_
      refine z_zreturn rfl (by first | exact Or.inl rfl | exact Or.inr rfl | omega) dX4_mayBeIn_101 (by decide) (by decide) ?_
      refine ⟨_, rfl, by omega, by omega, by unfold mayin; omega, hR⟩
    · refine z_aload_n 85 dX4_mayBeIn_84 rfl rfl ?_
      refine r_getP 88 hR fl_X4_16 (by decide) dX4_mayBeIn_85 rfl ?_
      refine z_iload_n 89 dX4_mayBeIn_88 rfl rfl ?_
      refine r_iald 90 3 120 hR rk3 ⟨by omega, by omega⟩ dX4_mayBeIn_89 rfl ?_
      refine z_iconst 91 dX4_mayBeIn_90 rfl ?_
      refine z_iload_n 92 dX4_mayBeIn_91 rfl rfl ?_
      refine z_isub 93 dX4_mayBeIn_92 rfl ?_
      refine z_icmp_ne 100 96 dX4_mayBeIn_93 (by decide) rfl ⟨by omega, by omega⟩ ⟨by omega, by omega⟩ (fun h93 => ?_) (fun h93 => ?_)
      · refine z_iconst 101 dX4_mayBeIn_100 rfl ?_
        refine z_zreturn rfl (by first | exact Or.inl rfl | exact Or.inr rfl | omega) dX4_mayBeIn_101 (by decide) (by decide) ?_
        refine ⟨_, rfl, by omega, by omega, by unfold mayin; omega, hR⟩
      · refine z_iconst 97 dX4_mayBeIn_96 rfl ?_
        refine z_goto 101 dX4_mayBeIn_97 (by decide) ?_
        refine z_zreturn rfl (by first | exact Or.inl rfl | exact Or.inr rfl | omega) dX4_mayBeIn_101 (by decide) (by decide) ?_
        refine ⟨_, rfl, by omega, by omega, by unfold mayin; omega, hR⟩
  refine z_aload_n 1 dX4_mayBeIn_0 rfl rfl ?_
  refine r_getP 4 hR fl_X4_9 (by decide) dX4_mayBeIn_1 rfl ?_
  refine z_iload_n 5 dX4_mayBeIn_4 rfl rfl ?_
  refine r_iald 6 1 120 hR rk1 ⟨by omega, by omega⟩ dX4_mayBeIn_5 rfl ?_
  refine z_istore (lv' := [(4, _), (0, _), (1, _), (2, _), (3, _)]) 8 dX4_mayBeIn_6 rfl rfl rfl ?_
  refine z_aload_n 9 dX4_mayBeIn_8 rfl rfl ?_
  refine r_getP 12 hR fl_X4_19 (by decide) dX4_mayBeIn_9 rfl ?_
  refine z_iload_n 13 dX4_mayBeIn_12 rfl rfl ?_
  refine r_iald 14 4 120 hR rk4 ⟨by omega, by omega⟩ dX4_mayBeIn_13 rfl ?_
  refine z_if_eq 19 17 dX4_mayBeIn_14 (by decide) rfl ⟨by omega, by omega⟩ (fun h14 => ?_) (fun h14 => ?_)
  · refine z_iload_n 20 dX4_mayBeIn_19 rfl rfl ?_
    refine z_iconst 21 dX4_mayBeIn_20 rfl ?_
    refine z_icmp_ne 41 24 dX4_mayBeIn_21 (by decide) rfl ⟨by omega, by omega⟩ ⟨by omega, by omega⟩ (fun h21 => ?_) (fun h21 => ?_)
    · refine z_iload_n 42 dX4_mayBeIn_41 rfl rfl ?_
      refine z_iconst 43 dX4_mayBeIn_42 rfl ?_
      refine z_icmp_ne 60 46 dX4_mayBeIn_43 (by decide) rfl ⟨by omega, by omega⟩ ⟨by omega, by omega⟩ (fun h43 => ?_) (fun h43 => ?_)
      · refine z_iload 62 dX4_mayBeIn_60 rfl rfl ?_
        refine z_iconst 63 dX4_mayBeIn_62 rfl ?_
        refine z_icmp_eq 72 66 dX4_mayBeIn_63 (by decide) rfl ⟨by omega, by omega⟩ ⟨by omega, by omega⟩ (fun h63 => ?_) (fun h63 => ?_)
        · refine z_iconst 73 dX4_mayBeIn_72 rfl ?_
          refine z_goto 77 dX4_mayBeIn_73 (by decide) ?_
          refine z_sub (lv' := [(4, _), (0, _), (1, _), (2, _), (3, _)]) ⟨rfl, rfl, rfl, rfl, rfl, trivial⟩ ?_
          exact L77 _ _ hR (by omega) (by omega) (by omega)
        · refine z_iload 68 dX4_mayBeIn_66 rfl rfl ?_
          refine z_iconst 69 dX4_mayBeIn_68 rfl ?_
          refine z_icmp_ne 76 72 dX4_mayBeIn_69 (by decide) rfl ⟨by omega, by omega⟩ ⟨by omega, by omega⟩ (fun h69 => ?_) (fun h69 => ?_)
          · refine z_iconst 77 dX4_mayBeIn_76 rfl ?_
            refine z_sub (lv' := [(4, _), (0, _), (1, _), (2, _), (3, _)]) ⟨rfl, rfl, rfl, rfl, rfl, trivial⟩ ?_
            exact L77 _ _ hR (by omega) (by omega) (by omega)
          · refine z_iconst 73 dX4_mayBeIn_72 rfl ?_
            refine z_goto 77 dX4_mayBeIn_73 (by decide) ?_
            refine z_sub (lv' := [(4, _), (0, _), (1, _), (2, _), (3, _)]) ⟨rfl, rfl, rfl, rfl, rfl, trivial⟩ ?_
            exact L77 _ _ hR (by omega) (by omega) (by omega)
      · refine z_iload 48 dX4_mayBeIn_46 rfl rfl ?_
        refine z_iconst 49 dX4_mayBeIn_48 rfl ?_
        refine z_icmp_ne 56 52 dX4_mayBeIn_49 (by decide) rfl ⟨by omega, by omega⟩ ⟨by omega, by omega⟩ (fun h49 => ?_) (fun h49 => ?_)
        · refine z_iconst 57 dX4_mayBeIn_56 rfl ?_
          refine z_goto 77 dX4_mayBeIn_57 (by decide) ?_
          refine z_sub (lv' := [(4, _), (0, _), (1, _), (2, _), (3, _)]) ⟨rfl, rfl, rfl, rfl, rfl, trivial⟩ ?_
          exact L77 _ _ hR (by omega) (by omega) (by omega)
        · refine z_iconst 53 dX4_mayBeIn_52 rfl ?_
          refine z_goto 77 dX4_mayBeIn_53 (by decide) ?_
          refine z_sub (lv' := [(4, _), (0, _), (1, _), (2, _), (3, _)]) ⟨rfl, rfl, rfl, rfl, rfl, trivial⟩ ?_
          exact L77 _ _ hR (by omega) (by omega) (by omega)
    · refine z_iload 26 dX4_mayBeIn_24 rfl rfl ?_
      refine z_if_eq 35 29 dX4_mayBeIn_26 (by decide) rfl ⟨by omega, by omega⟩ (fun h26 => ?_) (fun h26 => ?_)
      · refine z_iconst 36 dX4_mayBeIn_35 rfl ?_
        refine z_goto 40 dX4_mayBeIn_36 (by decide) ?_
        refine z_zreturn rfl (by first | exact Or.inl rfl | exact Or.inr rfl | omega) dX4_mayBeIn_40 (by decide) (by decide) ?_
        refine ⟨_, rfl, by omega, by omega, by unfold mayin; omega, hR⟩
      · refine z_iload 31 dX4_mayBeIn_29 rfl rfl ?_
        refine z_iconst 32 dX4_mayBeIn_31 rfl ?_
        refine z_icmp_ne 39 35 dX4_mayBeIn_32 (by decide) rfl ⟨by omega, by omega⟩ ⟨by omega, by omega⟩ (fun h32 => ?_) (fun h32 => ?_)
        · refine z_iconst 40 dX4_mayBeIn_39 rfl ?_
          refine z_zreturn rfl (by first | exact Or.inl rfl | exact Or.inr rfl | omega) dX4_mayBeIn_40 (by decide) (by decide) ?_
          refine ⟨_, rfl, by omega, by omega, by unfold mayin; omega, hR⟩
        · refine z_iconst 36 dX4_mayBeIn_35 rfl ?_
          refine z_goto 40 dX4_mayBeIn_36 (by decide) ?_
          refine z_zreturn rfl (by first | exact Or.inl rfl | exact Or.inr rfl | omega) dX4_mayBeIn_40 (by decide) (by decide) ?_
          refine ⟨_, rfl, by omega, by omega, by unfold mayin; omega, hR⟩
  · refine z_iconst 18 dX4_mayBeIn_17 rfl ?_
    refine z_zreturn rfl (by first | exact Or.inl rfl | exact Or.inr rfl | omega) dX4_mayBeIn_18 (by decide) (by decide) ?_
    refine ⟨_, rfl, by omega, by omega, by unfold mayin; omega, hR⟩
set_option maxRecDepth 20000 in
theorem r_putIn {m : Nat → Int → Int} {f : Nat → Int → UInt32} {x : Nat} {g : Nat → Nat} {t : zT} (hR : RA m f x g t) {p : Int} (hp : zi p) {q : Int} (hq : zi q) (h0 : 0 ≤ p ∧ p < 120) (h1 : 0 ≤ q ∧ q < 120) (hb : 0 ≤ m 6 p ∧ m 6 p < 9) : zM yX4_putIn cX4_putIn 3 none 0 0 0 [vR (some x), vI p, vI q] t (fun r t1 => RA (putin m p q) f x g t1) := by
  refine zM.of [(0, vR (some x)), (1, vI p), (2, vI q)] (by decide +kernel) rfl (Nat.le_of_ble_eq_true rfl) ?_
  obtain ⟨hp1, hp2⟩ := hp
  obtain ⟨hq1, hq2⟩ := hq
  refine z_aload_n 1 dX4_putIn_0 rfl rfl ?_
  refine r_getP 4 hR fl_X4_29 (by decide) dX4_putIn_1 rfl ?_
  refine z_bipush 6 dX4_putIn_4 rfl ⟨by decide, by decide⟩ ?_
  refine z_iload_n 7 dX4_putIn_6 rfl rfl ?_
  refine z_imul 8 dX4_putIn_7 rfl ?_
  refine z_aload_n 9 dX4_putIn_8 rfl rfl ?_
  refine r_getP 12 hR fl_X4_26 (by decide) dX4_putIn_9 rfl ?_
  refine z_iload_n 13 dX4_putIn_12 rfl rfl ?_
  refine r_iald 14 6 120 hR rk6 ⟨by omega, by omega⟩ dX4_putIn_13 rfl ?_
  refine z_iadd 15 dX4_putIn_14 rfl ?_
  refine z_iload_n 16 dX4_putIn_15 rfl rfl ?_
  refine r_iast 17 7 1080 hR rk7 ⟨by omega, by omega⟩ dX4_putIn_16 rfl (fun t hR => ?_)
  refine z_aload_n 18 dX4_putIn_17 rfl rfl ?_
  refine r_getP 21 hR fl_X4_26 (by decide) dX4_putIn_18 rfl ?_
  refine z_iload_n 22 dX4_putIn_21 rfl rfl ?_
  refine z_dup2 23 dX4_putIn_22 rfl rfl rfl ?_
  refine r_ialde 24 6 120 hR rk6 ⟨by omega, by omega⟩ (show _ = m 6 _ from rfl) dX4_putIn_23 rfl ?_
  refine z_iconst 25 dX4_putIn_24 rfl ?_
  refine z_iadd 26 dX4_putIn_25 rfl ?_
  refine r_iast 27 6 120 hR rk6 ⟨by omega, by omega⟩ dX4_putIn_26 rfl (fun t hR => ?_)
  refine z_aload_n 28 dX4_putIn_27 rfl rfl ?_
  refine r_getP 31 hR fl_X4_19 (by decide) dX4_putIn_28 rfl ?_
  refine z_iload_n 32 dX4_putIn_31 rfl rfl ?_
  refine z_iconst 33 dX4_putIn_32 rfl ?_
  refine r_iast 34 4 120 hR rk4 ⟨by omega, by omega⟩ dX4_putIn_33 rfl (fun t hR => ?_)
  refine z_aload_n 35 dX4_putIn_34 rfl rfl ?_
  refine r_getP 38 hR fl_X4_32 (by decide) dX4_putIn_35 rfl ?_
  refine z_iload_n 39 dX4_putIn_38 rfl rfl ?_
  refine z_iload_n 40 dX4_putIn_39 rfl rfl ?_
  refine r_iast 41 8 120 hR rk8 ⟨by omega, by omega⟩ dX4_putIn_40 rfl (fun t hR => ?_)
  refine z_return rfl dX4_putIn_41 (by decide) (by decide) ?_
  exact hR
set_option maxRecDepth 20000 in
theorem r_isThick {m : Nat → Int → Int} {f : Nat → Int → UInt32} {x : Nat} {g : Nat → Nat} {t : zT} (hR : RA m f x g t) {p : Int} (hp : zi p) (h0 : 0 ≤ p ∧ p < 120) (hb : 0 ≤ m 1 p ∧ m 1 p ≤ 5) : zM yX4_isThick cX4_isThick 2 (some .boolean) 0 0 0 [vR (some x), vI p] t (fun r t1 => ∃ z, r = some (vI z) ∧ 0 ≤ z ∧ z ≤ 1 ∧ (z = 1 ↔ thick m p) ∧ RA m f x g t1) := by
  refine zM.of [(0, vR (some x)), (1, vI p)] (by decide +kernel) rfl (Nat.le_of_ble_eq_true rfl) ?_
  obtain ⟨hp1, hp2⟩ := hp
  refine z_aload_n 1 dX4_isThick_0 rfl rfl ?_
  refine r_getP 4 hR fl_X4_9 (by decide) dX4_isThick_1 rfl ?_
  refine z_iload_n 5 dX4_isThick_4 rfl rfl ?_
  refine r_iald 6 1 120 hR rk1 ⟨by omega, by omega⟩ dX4_isThick_5 rfl ?_
  refine z_iconst 7 dX4_isThick_6 rfl ?_
  refine z_icmp_eq 30 10 dX4_isThick_7 (by decide) rfl ⟨by omega, by omega⟩ ⟨by omega, by omega⟩ (fun h7 => ?_) (fun h7 => ?_)
  · refine z_iconst 31 dX4_isThick_30 rfl ?_
    refine z_goto 35 dX4_isThick_31 (by decide) ?_
    refine z_zreturn rfl (by first | exact Or.inl rfl | exact Or.inr rfl | omega) dX4_isThick_35 (by decide) (by decide) ?_
    refine ⟨_, rfl, by omega, by omega, by unfold thick; omega, hR⟩
  · refine z_aload_n 11 dX4_isThick_10 rfl rfl ?_
    refine r_getP 14 hR fl_X4_9 (by decide) dX4_isThick_11 rfl ?_
    refine z_iload_n 15 dX4_isThick_14 rfl rfl ?_
    refine r_iald 16 1 120 hR rk1 ⟨by omega, by omega⟩ dX4_isThick_15 rfl ?_
    refine z_iconst 17 dX4_isThick_16 rfl ?_
    refine z_icmp_eq 30 20 dX4_isThick_17 (by decide) rfl ⟨by omega, by omega⟩ ⟨by omega, by omega⟩ (fun h17 => ?_) (fun h17 => ?_)
    · refine z_iconst 31 dX4_isThick_30 rfl ?_
      refine z_goto 35 dX4_isThick_31 (by decide) ?_
      refine z_zreturn rfl (by first | exact Or.inl rfl | exact Or.inr rfl | omega) dX4_isThick_35 (by decide) (by decide) ?_
      refine ⟨_, rfl, by omega, by omega, by unfold thick; omega, hR⟩
    · refine z_aload_n 21 dX4_isThick_20 rfl rfl ?_
      refine r_getP 24 hR fl_X4_9 (by decide) dX4_isThick_21 rfl ?_
      refine z_iload_n 25 dX4_isThick_24 rfl rfl ?_
      refine r_iald 26 1 120 hR rk1 ⟨by omega, by omega⟩ dX4_isThick_25 rfl ?_
      refine z_iconst 27 dX4_isThick_26 rfl ?_
      refine z_icmp_ne 34 30 dX4_isThick_27 (by decide) rfl ⟨by omega, by omega⟩ ⟨by omega, by omega⟩ (fun h27 => ?_) (fun h27 => ?_)
      · refine z_iconst 35 dX4_isThick_34 rfl ?_
        refine z_zreturn rfl (by first | exact Or.inl rfl | exact Or.inr rfl | omega) dX4_isThick_35 (by decide) (by decide) ?_
        refine ⟨_, rfl, by omega, by omega, by unfold thick; omega, hR⟩
      · refine z_iconst 31 dX4_isThick_30 rfl ?_
        refine z_goto 35 dX4_isThick_31 (by decide) ?_
        refine z_zreturn rfl (by first | exact Or.inl rfl | exact Or.inr rfl | omega) dX4_isThick_35 (by decide) (by decide) ?_
        refine ⟨_, rfl, by omega, by omega, by unfold thick; omega, hR⟩
set_option maxRecDepth 20000 in
theorem r_part {m : Nat → Int → Int} {f : Nat → Int → UInt32} {x : Nat} {g : Nat → Nat} {t : zT} (hR : RA m f x g t) {p : Int} (hp : zi p) {k : Int} (hk : zi k) (hW : WF m f) : zM yX4_part cX4_part 3 (some .int) 1 0 0 [vR (some x), vI p, vI k] t (fun r t1 => r = some (vI (a_part m p k)) ∧ RA m f x g t1) := by
  refine zM.of [(0, vR (some x)), (1, vI p), (2, vI k)] (by decide +kernel) rfl (Nat.le_of_ble_eq_true rfl) ?_
  obtain ⟨hp1, hp2⟩ := hp
  obtain ⟨hk1, hk2⟩ := hk
  have hn1 := hW.n.1
  have hn2 := hW.n.2
  refine z_aload_n 1 dX4_part_0 rfl rfl ?_
  refine z_iload_n 2 dX4_part_1 rfl rfl ?_
  refine z_callV 5 [_] la_X4_isPiece ml_X4_109 im_X4_isPiece se_X4_isPiece hR.1.1 hR.1.2.1 (by decide) rfl rfl (r_isPiece hR ⟨hp1, hp2⟩ hW.n) rfl rfl (by decide) (Nat.le_of_ble_eq_true rfl) (by decide) (by decide) dX4_part_2 rfl (fun r t hq => ?_)
  obtain ⟨z, rfl, hz1, hz2, hz3, hR⟩ := hq
  have hB := fun (h : z = 1) => hW.b (p := p) (by omega) (by omega)
  refine z_if_eq 22 8 dX4_part_5 (by decide) rfl ⟨by omega, by omega⟩ (fun h5 => ?_) (fun h5 => ?_)
  · refine z_bipush 24 dX4_part_22 rfl ⟨by decide, by decide⟩ ?_
    refine z_goto 38 dX4_part_24 (by decide) ?_
    refine z_ireturn rfl dX4_part_38 (by decide) (by decide) ?_
    refine ⟨congrArg (fun z => some (vI z)) ?_, hR⟩
    simp only [a_part, cif]; (repeat' split) <;> first | rfl | omega
  · refine z_iload_n 9 dX4_part_8 rfl rfl ?_
    refine z_if_lt 22 12 dX4_part_9 (by decide) rfl ⟨by omega, by omega⟩ (fun h9 => ?_) (fun h9 => ?_)
    · refine z_bipush 24 dX4_part_22 rfl ⟨by decide, by decide⟩ ?_
      refine z_goto 38 dX4_part_24 (by decide) ?_
      refine z_ireturn rfl dX4_part_38 (by decide) (by decide) ?_
      refine ⟨congrArg (fun z => some (vI z)) ?_, hR⟩
      simp only [a_part, cif]; (repeat' split) <;> first | rfl | omega
    · refine z_iload_n 13 dX4_part_12 rfl rfl ?_
      refine z_aload_n 14 dX4_part_13 rfl rfl ?_
      refine r_getP 17 hR fl_X4_26 (by decide) dX4_part_14 rfl ?_
      refine z_iload_n 18 dX4_part_17 rfl rfl ?_
      refine r_iald 19 6 120 hR rk6 ⟨by omega, by omega⟩ dX4_part_18 rfl ?_
      refine z_icmp_lt 27 22 dX4_part_19 (by decide) rfl ⟨by omega, by omega⟩ ⟨by omega, by omega⟩ (fun h19 => ?_) (fun h19 => ?_)
      · refine z_aload_n 28 dX4_part_27 rfl rfl ?_
        refine r_getP 31 hR fl_X4_29 (by decide) dX4_part_28 rfl ?_
        refine z_bipush 33 dX4_part_31 rfl ⟨by decide, by decide⟩ ?_
        refine z_iload_n 34 dX4_part_33 rfl rfl ?_
        refine z_imul 35 dX4_part_34 rfl ?_
        refine z_iload_n 36 dX4_part_35 rfl rfl ?_
        refine z_iadd 37 dX4_part_36 rfl ?_
        refine r_iald 38 7 1080 hR rk7 ⟨by omega, by omega⟩ dX4_part_37 rfl ?_
        refine z_ireturn rfl dX4_part_38 (by decide) (by decide) ?_
        refine ⟨congrArg (fun z => some (vI z)) ?_, hR⟩
        simp only [a_part, cif]; (repeat' split) <;> first | rfl | omega
      · refine z_bipush 24 dX4_part_22 rfl ⟨by decide, by decide⟩ ?_
        refine z_goto 38 dX4_part_24 (by decide) ?_
        refine z_ireturn rfl dX4_part_38 (by decide) (by decide) ?_
        refine ⟨congrArg (fun z => some (vI z)) ?_, hR⟩
        simp only [a_part, cif]; (repeat' split) <;> first | rfl | omega
set_option maxRecDepth 20000 in
theorem r_lose {m : Nat → Int → Int} {f : Nat → Int → UInt32} {x : Nat} {g : Nat → Nat} {t : zT} (hR : RA m f x g t) {p : Int} (hp : zi p) (hW : WF m f) : zM yX4_lose cX4_lose 3 (some .int) 2 0 0 [vR (some x), vI p] t (fun r t1 => r = some (vI (a_lose m p)) ∧ RA (s_lose m p) f x g t1) := by
  refine zM.of [(0, vR (some x)), (1, vI p)] (by decide +kernel) rfl (Nat.le_of_ble_eq_true rfl) ?_
  obtain ⟨hp1, hp2⟩ := hp
  have hn1 := hW.n.1
  have hn2 := hW.n.2
  refine z_aload_n 1 dX4_lose_0 rfl rfl ?_
  refine z_iload_n 2 dX4_lose_1 rfl rfl ?_
  refine z_callV 5 [_] la_X4_isThere ml_X4_149 im_X4_isThere se_X4_isThere hR.1.1 hR.1.2.1 (by decide) rfl rfl (r_isThere hR ⟨hp1, hp2⟩ hW.n hW.h4) rfl rfl (by decide) (Nat.le_of_ble_eq_true rfl) (by decide) (by decide) dX4_lose_2 rfl (fun r t hq => ?_)
  obtain ⟨z, rfl, hz1, hz2, hz3, hR⟩ := hq
  have hB := fun (h : z = 1) => hW.b (p := p) (by omega) (by omega)
  refine z_if_ne 11 8 dX4_lose_5 (by decide) rfl ⟨by omega, by omega⟩ (fun h5 => ?_) (fun h5 => ?_)
  · refine z_aload_n 12 dX4_lose_11 rfl rfl ?_
    refine r_getP 15 hR fl_X4_38 (by decide) dX4_lose_12 rfl ?_
    refine z_iload_n 16 dX4_lose_15 rfl rfl ?_
    refine r_iald 17 10 120 hR rk10 ⟨by omega, by omega⟩ dX4_lose_16 rfl ?_
    refine z_if_lt 24 20 dX4_lose_17 (by decide) rfl ⟨by omega, by omega⟩ (fun h17 => ?_) (fun h17 => ?_)
    · refine z_iconst 25 dX4_lose_24 rfl ?_
      refine z_istore_n (lv' := [(2, _), (0, _), (1, _)]) 26 dX4_lose_25 rfl rfl rfl ?_
      refine z_aload_n 27 dX4_lose_26 rfl rfl ?_
      refine r_getP 30 hR fl_X4_38 (by decide) dX4_lose_27 rfl ?_
      refine z_iload_n 31 dX4_lose_30 rfl rfl ?_
      refine z_iconst 32 dX4_lose_31 rfl ?_
      refine r_iast 33 10 120 hR rk10 ⟨by omega, by omega⟩ dX4_lose_32 rfl (fun t hR => ?_)
      refine z_iload_n 34 dX4_lose_33 rfl rfl ?_
      refine z_ireturn rfl dX4_lose_34 (by decide) (by decide) ?_
      refine ⟨congrArg (fun z => some (vI z)) ?_, ?_⟩
      · simp only [a_lose, there, cif]; (repeat' split) <;> first | rfl | omega
      · refine RA_if (fun hc => ?_) (fun hc => ?_) <;> (try simp only [there] at hc) <;> first | exact hR | (exfalso; omega)
    · refine z_iconst 21 dX4_lose_20 rfl ?_
      refine z_goto 25 dX4_lose_21 (by decide) ?_
      refine z_istore_n (lv' := [(2, _), (0, _), (1, _)]) 26 dX4_lose_25 rfl rfl rfl ?_
      refine z_aload_n 27 dX4_lose_26 rfl rfl ?_
      refine r_getP 30 hR fl_X4_38 (by decide) dX4_lose_27 rfl ?_
      refine z_iload_n 31 dX4_lose_30 rfl rfl ?_
      refine z_iconst 32 dX4_lose_31 rfl ?_
      refine r_iast 33 10 120 hR rk10 ⟨by omega, by omega⟩ dX4_lose_32 rfl (fun t hR => ?_)
      refine z_iload_n 34 dX4_lose_33 rfl rfl ?_
      refine z_ireturn rfl dX4_lose_34 (by decide) (by decide) ?_
      refine ⟨congrArg (fun z => some (vI z)) ?_, ?_⟩
      · simp only [a_lose, there, cif]; (repeat' split) <;> first | rfl | omega
      · refine RA_if (fun hc => ?_) (fun hc => ?_) <;> (try simp only [there] at hc) <;> first | exact hR | (exfalso; omega)
  · refine z_bipush 10 dX4_lose_8 rfl ⟨by decide, by decide⟩ ?_
    refine z_ireturn rfl dX4_lose_10 (by decide) (by decide) ?_
    refine ⟨congrArg (fun z => some (vI z)) ?_, ?_⟩
    · simp only [a_lose, there, cif]; (repeat' split) <;> first | rfl | omega
    · refine RA_if (fun hc => ?_) (fun hc => ?_) <;> (try simp only [there] at hc) <;> first | exact hR | (exfalso; omega)
set_option maxRecDepth 20000 in
theorem r_isReel {m : Nat → Int → Int} {f : Nat → Int → UInt32} {x : Nat} {g : Nat → Nat} {t : zT} (hR : RA m f x g t) {q : Int} (hq : zi q) : zM yX4_isReel cX4_isReel 2 (some .boolean) 0 0 0 [vR (some x), vI q] t (fun r t1 => ∃ z, r = some (vI z) ∧ 0 ≤ z ∧ z ≤ 1 ∧ (z = 1 ↔ (0 ≤ q ∧ q < 6)) ∧ RA m f x g t1) := by
  refine zM.of [(0, vR (some x)), (1, vI q)] (by decide +kernel) rfl (Nat.le_of_ble_eq_true rfl) ?_
  obtain ⟨hq1, hq2⟩ := hq
  refine z_iload_n 1 dX4_isReel_0 rfl rfl ?_
  refine z_if_lt 14 4 dX4_isReel_1 (by decide) rfl ⟨by omega, by omega⟩ (fun h1 => ?_) (fun h1 => ?_)
  · refine z_iconst 15 dX4_isReel_14 rfl ?_
    refine z_zreturn rfl (by first | exact Or.inl rfl | exact Or.inr rfl | omega) dX4_isReel_15 (by decide) (by decide) ?_
    refine ⟨_, rfl, by omega, by omega, by omega, hR⟩
  · refine z_iload_n 5 dX4_isReel_4 rfl rfl ?_
    refine z_bipush 7 dX4_isReel_5 rfl ⟨by decide, by decide⟩ ?_
    refine z_icmp_ge 14 10 dX4_isReel_7 (by decide) rfl ⟨by omega, by omega⟩ ⟨by omega, by omega⟩ (fun h7 => ?_) (fun h7 => ?_)
    · refine z_iconst 15 dX4_isReel_14 rfl ?_
      refine z_zreturn rfl (by first | exact Or.inl rfl | exact Or.inr rfl | omega) dX4_isReel_15 (by decide) (by decide) ?_
      refine ⟨_, rfl, by omega, by omega, by omega, hR⟩
    · refine z_iconst 11 dX4_isReel_10 rfl ?_
      refine z_goto 15 dX4_isReel_11 (by decide) ?_
      refine z_zreturn rfl (by first | exact Or.inl rfl | exact Or.inr rfl | omega) dX4_isReel_15 (by decide) (by decide) ?_
      refine ⟨_, rfl, by omega, by omega, by omega, hR⟩
set_option maxRecDepth 20000 in
theorem r_isCutFrom {m : Nat → Int → Int} {f : Nat → Int → UInt32} {x : Nat} {g : Nat → Nat} {t : zT} (hR : RA m f x g t) {q : Int} (hq : zi q) (hO : 0 ≤ m 18 0 ∧ m 18 0 ≤ 6) (hO2 : ∀ o, 0 ≤ o → o < m 18 0 → -1 ≤ m 21 o ∧ m 21 o ≤ 5) : zM yX4_isCutFrom cX4_isCutFrom 4 (some .boolean) 0 0 0 [vR (some x), vI q] t (fun r t1 => ∃ z, r = some (vI z) ∧ 0 ≤ z ∧ z ≤ 1 ∧ (z = 1 ↔ cutfr m q) ∧ RA m f x g t1) := by
  refine zM.of [(0, vR (some x)), (1, vI q)] (by decide +kernel) rfl (Nat.le_of_ble_eq_true rfl) ?_
  obtain ⟨hq1, hq2⟩ := hq
  have L4 : ∀ (fuel : Nat) (k v : Int) (t : zT) (hR : RA m f x g t) (hk : 0 ≤ k ∧ k ≤ m 18 0) (hv : 0 ≤ v ∧ v ≤ 1) (hc : v = 1 ↔ ∃ o, 0 ≤ o ∧ o < k ∧ m 21 o = q) (hf : m 18 0 - k < (fuel : Int)), zOK yX4_isCutFrom cX4_isCutFrom 4 (some .boolean) 0 0 0 (fun r t1 => ∃ z, r = some (vI z) ∧ 0 ≤ z ∧ z ≤ 1 ∧ (z = 1 ↔ cutfr m q) ∧ RA m f x g t1) 0 0 4 [(3, vI k), (2, vI v), (0, vR (some x)), (1, vI q)] [] t := by
    intro fuel
    induction fuel with
    | zero => intro k v t hR hk hv hc hf; exfalso; omega
    | succ fuel ih4 =>
      intro k v t hR hk hv hc hf
      have ho := fun (h : k < m 18 0) => hO2 k hk.1 h
      refine z_iload_n 5 dX4_isCutFrom_4 rfl rfl ?_
      refine z_aload_n 6 dX4_isCutFrom_5 rfl rfl ?_
      refine r_getI 9 hR fl_X4_143 (by decide) dX4_isCutFrom_6 rfl ?_
      refine z_icmp_ge 36 12 dX4_isCutFrom_9 (by decide) rfl ⟨by omega, by omega⟩ ⟨by omega, by omega⟩ (fun h9 => ?_) (fun h9 => ?_)
      · refine z_iload_n 37 dX4_isCutFrom_36 rfl rfl ?_
        refine z_zreturn rfl (by first | exact Or.inl rfl | exact Or.inr rfl | omega) dX4_isCutFrom_37 (by decide) (by decide) ?_
        have hkk : k = m 18 0 := by omega
        refine ⟨_, rfl, by omega, by omega, ?_, hR⟩
        unfold cutfr
        rw [← hkk]
        exact hc
      · refine z_iload_n 13 dX4_isCutFrom_12 rfl rfl ?_
        refine z_aload_n 14 dX4_isCutFrom_13 rfl rfl ?_
        refine r_getP 17 hR fl_X4_66 (by decide) dX4_isCutFrom_14 rfl ?_
        refine z_iload_n 18 dX4_isCutFrom_17 rfl rfl ?_
        refine r_iald 19 21 6 hR rk21 ⟨by omega, by omega⟩ dX4_isCutFrom_18 rfl ?_
        refine z_iload_n 20 dX4_isCutFrom_19 rfl rfl ?_
        refine z_icmp_ne 27 23 dX4_isCutFrom_20 (by decide) rfl ⟨by omega, by omega⟩ ⟨by omega, by omega⟩ (fun h20 => ?_) (fun h20 => ?_)
        · refine z_iconst 28 dX4_isCutFrom_27 rfl ?_
          refine z_ior 29 dX4_isCutFrom_28 rfl (or01 (by omega) (by omega)) ?_
          refine z_istore_n (lv' := [(2, _), (3, _), (0, _), (1, _)]) 30 dX4_isCutFrom_29 rfl rfl rfl ?_
          refine z_iinc (lv' := [(3, _), (2, _), (0, _), (1, _)]) 33 dX4_isCutFrom_30 rfl rfl rfl rfl ?_
          refine z_goto 4 dX4_isCutFrom_33 (by decide) ?_
          refine z_sub (lv' := [(3, _), (2, _), (0, _), (1, _)]) ⟨rfl, rfl, rfl, rfl, trivial⟩ ?_
          exact ih4 _ _ _ hR (by omega) (by unfold b_or; split <;> omega) (by
          unfold b_or
          constructor
          · intro hh
            by_cases h1 : v = 1
            · obtain ⟨o, i1, i2, i3⟩ := hc.mp h1
              exact ⟨o, i1, by omega, i3⟩
            · exact ⟨k, by omega, by omega, by first | assumption | omega | (exfalso; split at hh <;> omega)⟩
          · intro hh
            obtain ⟨o, i1, i2, i3⟩ := hh
            rw [if_pos]
            by_cases h1 : o = k
            · subst h1; first | exact Or.inr rfl | (exfalso; omega)
            · exact Or.inl (hc.mpr ⟨o, i1, by omega, i3⟩)) (by omega)
        · refine z_iconst 24 dX4_isCutFrom_23 rfl ?_
          refine z_goto 28 dX4_isCutFrom_24 (by decide) ?_
          refine z_ior 29 dX4_isCutFrom_28 rfl (or01 (by omega) (by omega)) ?_
          refine z_istore_n (lv' := [(2, _), (3, _), (0, _), (1, _)]) 30 dX4_isCutFrom_29 rfl rfl rfl ?_
          refine z_iinc (lv' := [(3, _), (2, _), (0, _), (1, _)]) 33 dX4_isCutFrom_30 rfl rfl rfl rfl ?_
          refine z_goto 4 dX4_isCutFrom_33 (by decide) ?_
          refine z_sub (lv' := [(3, _), (2, _), (0, _), (1, _)]) ⟨rfl, rfl, rfl, rfl, trivial⟩ ?_
          exact ih4 _ _ _ hR (by omega) (by unfold b_or; split <;> omega) (by
          unfold b_or
          constructor
          · intro hh
            by_cases h1 : v = 1
            · obtain ⟨o, i1, i2, i3⟩ := hc.mp h1
              exact ⟨o, i1, by omega, i3⟩
            · exact ⟨k, by omega, by omega, by first | assumption | omega | (exfalso; split at hh <;> omega)⟩
          · intro hh
            obtain ⟨o, i1, i2, i3⟩ := hh
            rw [if_pos]
            by_cases h1 : o = k
            · subst h1; first | exact Or.inr rfl | (exfalso; omega)
            · exact Or.inl (hc.mpr ⟨o, i1, by omega, i3⟩)) (by omega)
  refine z_iconst 1 dX4_isCutFrom_0 rfl ?_
  refine z_istore_n (lv' := [(2, _), (0, _), (1, _)]) 2 dX4_isCutFrom_1 rfl rfl rfl ?_
  refine z_iconst 3 dX4_isCutFrom_2 rfl ?_
  refine z_istore_n (lv' := [(3, _), (2, _), (0, _), (1, _)]) 4 dX4_isCutFrom_3 rfl rfl rfl ?_
  refine z_sub (lv' := [(3, _), (2, _), (0, _), (1, _)]) ⟨rfl, rfl, rfl, rfl, trivial⟩ ?_
  exact L4 7 _ _ _ hR (by omega) (by omega) (by constructor <;> intro hh <;> first | omega | (obtain ⟨o, h1, h2, -⟩ := hh; omega)) (by omega)
set_option maxRecDepth 20000 in
theorem r_hang {m : Nat → Int → Int} {f : Nat → Int → UInt32} {x : Nat} {g : Nat → Nat} {t : zT} (hR : RA m f x g t) {q : Int} (hq : zi q) {p : Int} (hp : zi p) (hW : WF m f) : zM yX4_hang cX4_hang 3 (some .int) 2 0 0 [vR (some x), vI q, vI p] t (fun r t1 => r = some (vI (a_hang m q p)) ∧ RA (s_hang m q p) f x g t1) := by
  refine zM.of [(0, vR (some x)), (1, vI q), (2, vI p)] (by decide +kernel) rfl (Nat.le_of_ble_eq_true rfl) ?_
  obtain ⟨hq1, hq2⟩ := hq
  obtain ⟨hp1, hp2⟩ := hp
  have hn1 := hW.n.1
  have hn2 := hW.n.2
  refine z_aload_n 1 dX4_hang_0 rfl rfl ?_
  refine z_iload_n 2 dX4_hang_1 rfl rfl ?_
  refine z_callV 5 [_] la_X4_isFree ml_X4_122 im_X4_isFree se_X4_isFree hR.1.1 hR.1.2.1 (by decide) rfl rfl (r_isFree hR ⟨hp1, hp2⟩ hW.n hW.h4) rfl rfl (by decide) (Nat.le_of_ble_eq_true rfl) (by decide) (by decide) dX4_hang_2 rfl (fun r t hq => ?_)
  obtain ⟨z, rfl, hz1, hz2, hz3, hR⟩ := hq
  have hB := fun (h : z = 1) => hW.b (p := p) (by omega) (by omega)
  refine z_if_ne 11 8 dX4_hang_5 (by decide) rfl ⟨by omega, by omega⟩ (fun h5 => ?_) (fun h5 => ?_)
  · refine z_aload_n 12 dX4_hang_11 rfl rfl ?_
    refine z_iload_n 13 dX4_hang_12 rfl rfl ?_
    refine z_callV 16 [_] la_X4_isReel ml_X4_204 im_X4_isReel se_X4_isReel hR.1.1 hR.1.2.1 (by decide) rfl rfl (r_isReel hR ⟨by omega, by omega⟩) rfl rfl (by decide) (Nat.le_of_ble_eq_true rfl) (by decide) (by decide) dX4_hang_13 rfl (fun r t hq => ?_)
    obtain ⟨zr, rfl, hz4, hz5, hz6, hR⟩ := hq
    have hRl := fun (h : zr = 1) => hW.2.2.2.1 q (by omega) (by omega)
    refine z_if_ne 22 19 dX4_hang_16 (by decide) rfl ⟨by omega, by omega⟩ (fun h16 => ?_) (fun h16 => ?_)
    · refine z_aload_n 23 dX4_hang_22 rfl rfl ?_
      refine r_getP 26 hR fl_X4_57 (by decide) dX4_hang_23 rfl ?_
      refine z_iload_n 27 dX4_hang_26 rfl rfl ?_
      refine r_iald 28 17 6 hR rk17 ⟨by omega, by omega⟩ dX4_hang_27 rfl ?_
      refine z_if_lt 34 31 dX4_hang_28 (by decide) rfl ⟨by omega, by omega⟩ (fun h28 => ?_) (fun h28 => ?_)
      · refine z_aload_n 35 dX4_hang_34 rfl rfl ?_
        refine r_getP 38 hR fl_X4_57 (by decide) dX4_hang_35 rfl ?_
        refine z_iload_n 39 dX4_hang_38 rfl rfl ?_
        refine z_iload_n 40 dX4_hang_39 rfl rfl ?_
        refine r_iast 41 17 6 hR rk17 ⟨by omega, by omega⟩ dX4_hang_40 rfl (fun t hR => ?_)
        refine z_aload_n 42 dX4_hang_41 rfl rfl ?_
        refine r_getP 45 hR fl_X4_19 (by decide) dX4_hang_42 rfl ?_
        refine z_iload_n 46 dX4_hang_45 rfl rfl ?_
        refine z_iconst 47 dX4_hang_46 rfl ?_
        refine r_iast 48 4 120 hR rk4 ⟨by omega, by omega⟩ dX4_hang_47 rfl (fun t hR => ?_)
        refine z_aload_n 49 dX4_hang_48 rfl rfl ?_
        refine r_getP 52 hR fl_X4_13 (by decide) dX4_hang_49 rfl ?_
        refine z_iload_n 53 dX4_hang_52 rfl rfl ?_
        refine r_ialde 54 2 120 hR rk2 ⟨by omega, by omega⟩ (show _ = m 2 _ from rfl) dX4_hang_53 rfl ?_
        refine z_ireturn rfl dX4_hang_54 (by decide) (by decide) ?_
        refine ⟨congrArg (fun z => some (vI z)) ?_, ?_⟩
        · simp only [a_hang, free, cif]; (repeat' split) <;> first | rfl | omega
        · refine RA_if (fun hc => ?_) (fun hc => ?_) <;> (try simp only [free] at hc) <;> first | exact hR | (exfalso; omega)
      · refine z_bipush 33 dX4_hang_31 rfl ⟨by decide, by decide⟩ ?_
        refine z_ireturn rfl dX4_hang_33 (by decide) (by decide) ?_
        refine ⟨congrArg (fun z => some (vI z)) ?_, ?_⟩
        · simp only [a_hang, free, cif]; (repeat' split) <;> first | rfl | omega
        · refine RA_if (fun hc => ?_) (fun hc => ?_) <;> (try simp only [free] at hc) <;> first | exact hR | (exfalso; omega)
    · refine z_bipush 21 dX4_hang_19 rfl ⟨by decide, by decide⟩ ?_
      refine z_ireturn rfl dX4_hang_21 (by decide) (by decide) ?_
      refine ⟨congrArg (fun z => some (vI z)) ?_, ?_⟩
      · simp only [a_hang, free, cif]; (repeat' split) <;> first | rfl | omega
      · refine RA_if (fun hc => ?_) (fun hc => ?_) <;> (try simp only [free] at hc) <;> first | exact hR | (exfalso; omega)
  · refine z_bipush 10 dX4_hang_8 rfl ⟨by decide, by decide⟩ ?_
    refine z_ireturn rfl dX4_hang_10 (by decide) (by decide) ?_
    refine ⟨congrArg (fun z => some (vI z)) ?_, ?_⟩
    · simp only [a_hang, free, cif]; (repeat' split) <;> first | rfl | omega
    · refine RA_if (fun hc => ?_) (fun hc => ?_) <;> (try simp only [free] at hc) <;> first | exact hR | (exfalso; omega)
set_option maxRecDepth 20000 in
theorem r_off {m : Nat → Int → Int} {f : Nat → Int → UInt32} {x : Nat} {g : Nat → Nat} {t : zT} (hR : RA m f x g t) {q : Int} (hq : zi q) (hW : WF m f) : zM yX4_off cX4_off 3 (some .int) 1 0 0 [vR (some x), vI q] t (fun r t1 => r = some (vI (a_off m q)) ∧ RA (s_off m q) f x g t1) := by
  refine zM.of [(0, vR (some x)), (1, vI q)] (by decide +kernel) rfl (Nat.le_of_ble_eq_true rfl) ?_
  obtain ⟨hq1, hq2⟩ := hq
  have hn1 := hW.n.1
  have hn2 := hW.n.2
  obtain ⟨cc, hcc⟩ : ∃ c, c = cutfr m q := ⟨_, rfl⟩
  refine z_aload_n 1 dX4_off_0 rfl rfl ?_
  refine z_iload_n 2 dX4_off_1 rfl rfl ?_
  refine z_callV 5 [_] la_X4_isReel ml_X4_204 im_X4_isReel se_X4_isReel hR.1.1 hR.1.2.1 (by decide) rfl rfl (r_isReel hR ⟨by omega, by omega⟩) rfl rfl (by decide) (Nat.le_of_ble_eq_true rfl) (by decide) (by decide) dX4_off_2 rfl (fun r t hq => ?_)
  obtain ⟨zr, rfl, hz4, hz5, hz6, hR⟩ := hq
  have hRl := fun (h : zr = 1) => hW.2.2.2.1 q (by omega) (by omega)
  refine z_if_ne 11 8 dX4_off_5 (by decide) rfl ⟨by omega, by omega⟩ (fun h5 => ?_) (fun h5 => ?_)
  · refine z_aload_n 12 dX4_off_11 rfl rfl ?_
    refine r_getP 15 hR fl_X4_57 (by decide) dX4_off_12 rfl ?_
    refine z_iload_n 16 dX4_off_15 rfl rfl ?_
    refine r_iald 17 17 6 hR rk17 ⟨by omega, by omega⟩ dX4_off_16 rfl ?_
    refine z_if_ge 23 20 dX4_off_17 (by decide) rfl ⟨by omega, by omega⟩ (fun h17 => ?_) (fun h17 => ?_)
    · refine z_aload_n 24 dX4_off_23 rfl rfl ?_
      refine z_iload_n 25 dX4_off_24 rfl rfl ?_
      refine z_callV 28 [_] la_X4_isCutFrom ml_X4_207 im_X4_isCutFrom se_X4_isCutFrom hR.1.1 hR.1.2.1 (by decide) rfl rfl (r_isCutFrom hR ⟨by omega, by omega⟩ ⟨hW.2.2.2.2.1.1, hW.2.2.2.2.1.2.1⟩ (fun o a1 a2 => ⟨(hW.2.2.2.2.1.2.2 o a1 a2).2.2.1, (hW.2.2.2.2.1.2.2 o a1 a2).2.2.2.1⟩)) rfl rfl (by decide) (Nat.le_of_ble_eq_true rfl) (by decide) (by decide) dX4_off_25 rfl (fun r t hq => ?_)
      obtain ⟨z, rfl, hy1, hy2, hy3, hR⟩ := hq
      rw [← hcc] at hy3
      refine z_if_eq 34 31 dX4_off_28 (by decide) rfl ⟨by omega, by omega⟩ (fun h28 => ?_) (fun h28 => ?_)
      · refine z_aload_n 35 dX4_off_34 rfl rfl ?_
        refine r_getP 38 hR fl_X4_57 (by decide) dX4_off_35 rfl ?_
        refine z_iload_n 39 dX4_off_38 rfl rfl ?_
        refine r_iald 40 17 6 hR rk17 ⟨by omega, by omega⟩ dX4_off_39 rfl ?_
        refine z_istore_n (lv' := [(2, _), (0, _), (1, _)]) 41 dX4_off_40 rfl rfl rfl ?_
        refine z_aload_n 42 dX4_off_41 rfl rfl ?_
        refine r_getP 45 hR fl_X4_57 (by decide) dX4_off_42 rfl ?_
        refine z_iload_n 46 dX4_off_45 rfl rfl ?_
        refine z_iconst 47 dX4_off_46 rfl ?_
        refine r_iast 48 17 6 hR rk17 ⟨by omega, by omega⟩ dX4_off_47 rfl (fun t hR => ?_)
        refine z_aload_n 49 dX4_off_48 rfl rfl ?_
        refine r_getP 52 hR fl_X4_19 (by decide) dX4_off_49 rfl ?_
        refine z_iload_n 53 dX4_off_52 rfl rfl ?_
        refine z_iconst 54 dX4_off_53 rfl ?_
        refine r_iast 55 4 120 hR rk4 ⟨by omega, by omega⟩ dX4_off_54 rfl (fun t hR => ?_)
        refine z_iload_n 56 dX4_off_55 rfl rfl ?_
        refine z_ireturn rfl dX4_off_56 (by decide) (by decide) ?_
        refine ⟨congrArg (fun z => some (vI z)) ?_, ?_⟩
        · simp only [a_off, cif, ← hcc]; (repeat' split) <;> first | rfl | omega | (exfalso; simp_all; done) | (exfalso; simp_all; omega)
        · refine RA_if (fun hc => ?_) (fun hc => ?_) <;> rw [← hcc] at hc <;> first | exact hR | (exfalso; omega) | (exfalso; simp_all; done) | (exfalso; simp_all; omega)
      · refine z_bipush 33 dX4_off_31 rfl ⟨by decide, by decide⟩ ?_
        refine z_ireturn rfl dX4_off_33 (by decide) (by decide) ?_
        refine ⟨congrArg (fun z => some (vI z)) ?_, ?_⟩
        · simp only [a_off, cif, ← hcc]; (repeat' split) <;> first | rfl | omega | (exfalso; simp_all; done) | (exfalso; simp_all; omega)
        · refine RA_if (fun hc => ?_) (fun hc => ?_) <;> rw [← hcc] at hc <;> first | exact hR | (exfalso; omega) | (exfalso; simp_all; done) | (exfalso; simp_all; omega)
    · refine z_bipush 22 dX4_off_20 rfl ⟨by decide, by decide⟩ ?_
      refine z_ireturn rfl dX4_off_22 (by decide) (by decide) ?_
      refine ⟨congrArg (fun z => some (vI z)) ?_, ?_⟩
      · simp only [a_off, cif, ← hcc]; (repeat' split) <;> first | rfl | omega | (exfalso; simp_all; done) | (exfalso; simp_all; omega)
      · refine RA_if (fun hc => ?_) (fun hc => ?_) <;> rw [← hcc] at hc <;> first | exact hR | (exfalso; omega) | (exfalso; simp_all; done) | (exfalso; simp_all; omega)
  · refine z_bipush 10 dX4_off_8 rfl ⟨by decide, by decide⟩ ?_
    refine z_ireturn rfl dX4_off_10 (by decide) (by decide) ?_
    refine ⟨congrArg (fun z => some (vI z)) ?_, ?_⟩
    · simp only [a_off, cif, ← hcc]; (repeat' split) <;> first | rfl | omega | (exfalso; simp_all; done) | (exfalso; simp_all; omega)
    · refine RA_if (fun hc => ?_) (fun hc => ?_) <;> rw [← hcc] at hc <;> first | exact hR | (exfalso; omega) | (exfalso; simp_all; done) | (exfalso; simp_all; omega)
set_option maxRecDepth 20000 in
theorem r_above {t : zT} {k : Int} (hk : zi k) : zM yX4_above cX4_above 1 (some .int) 0 0 0 [vI k] t (fun r t1 => r = some (vI (abv k)) ∧ t1 = t) := by
  refine zM.of [(0, vI k)] (by decide +kernel) rfl (Nat.le_of_ble_eq_true rfl) ?_
  obtain ⟨hk1, hk2⟩ := hk
  refine z_iload_n 1 dX4_above_0 rfl rfl ?_
  refine z_iconst 2 dX4_above_1 rfl ?_
  refine z_icmp_eq 10 5 dX4_above_2 (by decide) rfl ⟨by omega, by omega⟩ ⟨by omega, by omega⟩ (fun h2 => ?_) (fun h2 => ?_)
  · refine z_iconst 11 dX4_above_10 rfl ?_
    refine z_goto 38 dX4_above_11 (by decide) ?_
    refine z_ireturn rfl dX4_above_38 (by decide) (by decide) ?_
    exact ⟨congrArg (fun z => some (vI z)) (by unfold abv; (repeat' split) <;> omega), rfl⟩
  · refine z_iload_n 6 dX4_above_5 rfl rfl ?_
    refine z_iconst 7 dX4_above_6 rfl ?_
    refine z_icmp_ne 14 10 dX4_above_7 (by decide) rfl ⟨by omega, by omega⟩ ⟨by omega, by omega⟩ (fun h7 => ?_) (fun h7 => ?_)
    · refine z_iload_n 15 dX4_above_14 rfl rfl ?_
      refine z_iconst 16 dX4_above_15 rfl ?_
      refine z_icmp_ne 23 19 dX4_above_16 (by decide) rfl ⟨by omega, by omega⟩ ⟨by omega, by omega⟩ (fun h16 => ?_) (fun h16 => ?_)
      · refine z_iload_n 24 dX4_above_23 rfl rfl ?_
        refine z_iconst 25 dX4_above_24 rfl ?_
        refine z_icmp_eq 33 28 dX4_above_25 (by decide) rfl ⟨by omega, by omega⟩ ⟨by omega, by omega⟩ (fun h25 => ?_) (fun h25 => ?_)
        · refine z_iconst 34 dX4_above_33 rfl ?_
          refine z_goto 38 dX4_above_34 (by decide) ?_
          refine z_ireturn rfl dX4_above_38 (by decide) (by decide) ?_
          exact ⟨congrArg (fun z => some (vI z)) (by unfold abv; (repeat' split) <;> omega), rfl⟩
        · refine z_iload_n 29 dX4_above_28 rfl rfl ?_
          refine z_iconst 30 dX4_above_29 rfl ?_
          refine z_icmp_ne 37 33 dX4_above_30 (by decide) rfl ⟨by omega, by omega⟩ ⟨by omega, by omega⟩ (fun h30 => ?_) (fun h30 => ?_)
          · refine z_iconst 38 dX4_above_37 rfl ?_
            refine z_ireturn rfl dX4_above_38 (by decide) (by decide) ?_
            exact ⟨congrArg (fun z => some (vI z)) (by unfold abv; (repeat' split) <;> omega), rfl⟩
          · refine z_iconst 34 dX4_above_33 rfl ?_
            refine z_goto 38 dX4_above_34 (by decide) ?_
            refine z_ireturn rfl dX4_above_38 (by decide) (by decide) ?_
            exact ⟨congrArg (fun z => some (vI z)) (by unfold abv; (repeat' split) <;> omega), rfl⟩
      · refine z_iconst 20 dX4_above_19 rfl ?_
        refine z_goto 38 dX4_above_20 (by decide) ?_
        refine z_ireturn rfl dX4_above_38 (by decide) (by decide) ?_
        exact ⟨congrArg (fun z => some (vI z)) (by unfold abv; (repeat' split) <;> omega), rfl⟩
    · refine z_iconst 11 dX4_above_10 rfl ?_
      refine z_goto 38 dX4_above_11 (by decide) ?_
      refine z_ireturn rfl dX4_above_38 (by decide) (by decide) ?_
      exact ⟨congrArg (fun z => some (vI z)) (by unfold abv; (repeat' split) <;> omega), rfl⟩
set_option maxRecDepth 20000 in
theorem r_take {m : Nat → Int → Int} {f : Nat → Int → UInt32} {x : Nat} {g : Nat → Nat} {t : zT} (hR : RA m f x g t) {q : Int} (hq : zi q) {k : Int} (hk : zi k) (hW : WF m f) : zM yX4_take cX4_take 4 (some .int) 1 0 0 [vR (some x), vI q, vI k] t (fun r t1 => r = some (vI (a_take m q k)) ∧ RA m f x g t1) := by
  refine zM.of [(0, vR (some x)), (1, vI q), (2, vI k)] (by decide +kernel) rfl (Nat.le_of_ble_eq_true rfl) ?_
  obtain ⟨hq1, hq2⟩ := hq
  obtain ⟨hk1, hk2⟩ := hk
  have hn1 := hW.n.1
  have hn2 := hW.n.2
  have L47 : ∀ (fuel : Nat) (w : Int) (t : zT) (hR : RA m f x g t) (h0 : 0 ≤ k ∧ k ≤ 5 ∧ 0 ≤ q ∧ q < 6 ∧ 0 ≤ m 17 q ∧ m 17 q < m 0 0) (hw : -1 ≤ w ∧ w ≤ 5) (hc : isk w k ↔ isk (m 1 (m 17 q)) k) (hf : (if w = -1 then 0 else if w = 0 then 1 else if w = 1 ∨ w = 4 then 2 else if w = 2 then 3 else 4) < (fuel : Int)), zOK yX4_take cX4_take 4 (some .int) 1 0 0 (fun r t1 => r = some (vI (a_take m q k)) ∧ RA m f x g t1) 0 0 47 [(3, vI w), (0, vR (some x)), (1, vI q), (2, vI k)] [] t := by
    intro fuel
    induction fuel with
    | zero => intro w t hR h0 hw hc hf; exfalso; omega
    | succ fuel ih47 =>
      intro w t hR h0 hw hc hf
      refine z_iload_n 48 dX4_take_47 rfl rfl ?_
      refine z_if_lt 64 51 dX4_take_48 (by decide) rfl ⟨by omega, by omega⟩ (fun h48 => ?_) (fun h48 => ?_)
      · refine z_iload_n 65 dX4_take_64 rfl rfl ?_
        refine z_iload_n 66 dX4_take_65 rfl rfl ?_
        refine z_icmp_ne 78 69 dX4_take_66 (by decide) rfl ⟨by omega, by omega⟩ ⟨by omega, by omega⟩ (fun h66 => ?_) (fun h66 => ?_)
        · refine z_bipush 80 dX4_take_78 rfl ⟨by decide, by decide⟩ ?_
          refine z_ireturn rfl dX4_take_80 (by decide) (by decide) ?_
          have hd : isk (m 1 (m 17 q)) k ↔ w = k := by rw [← hc]; exact ⟨fun h => by unfold isk abv at h; omega, fun h => Or.inl h⟩
          simp only [a_take, cif, hd]
          refine ⟨congrArg (fun z => some (vI z)) ?_, hR⟩
          (repeat' split) <;> first | rfl | omega
        · refine z_aload_n 70 dX4_take_69 rfl rfl ?_
          refine r_getP 73 hR fl_X4_57 (by decide) dX4_take_70 rfl ?_
          refine z_iload_n 74 dX4_take_73 rfl rfl ?_
          refine r_iald 75 17 6 hR rk17 ⟨by omega, by omega⟩ dX4_take_74 rfl ?_
          refine z_goto 80 dX4_take_75 (by decide) ?_
          refine z_ireturn rfl dX4_take_80 (by decide) (by decide) ?_
          have hd : isk (m 1 (m 17 q)) k ↔ w = k := by rw [← hc]; exact ⟨fun h => by unfold isk abv at h; omega, fun h => Or.inl h⟩
          simp only [a_take, cif, hd]
          refine ⟨congrArg (fun z => some (vI z)) ?_, hR⟩
          (repeat' split) <;> first | rfl | omega
      · refine z_iload_n 52 dX4_take_51 rfl rfl ?_
        refine z_iload_n 53 dX4_take_52 rfl rfl ?_
        refine z_icmp_eq 64 56 dX4_take_53 (by decide) rfl ⟨by omega, by omega⟩ ⟨by omega, by omega⟩ (fun h53 => ?_) (fun h53 => ?_)
        · refine z_iload_n 65 dX4_take_64 rfl rfl ?_
          refine z_iload_n 66 dX4_take_65 rfl rfl ?_
          refine z_icmp_ne 78 69 dX4_take_66 (by decide) rfl ⟨by omega, by omega⟩ ⟨by omega, by omega⟩ (fun h66 => ?_) (fun h66 => ?_)
          · refine z_bipush 80 dX4_take_78 rfl ⟨by decide, by decide⟩ ?_
            refine z_ireturn rfl dX4_take_80 (by decide) (by decide) ?_
            have hd : isk (m 1 (m 17 q)) k ↔ w = k := by rw [← hc]; exact ⟨fun h => by unfold isk abv at h; omega, fun h => Or.inl h⟩
            simp only [a_take, cif, hd]
            refine ⟨congrArg (fun z => some (vI z)) ?_, hR⟩
            (repeat' split) <;> first | rfl | omega
          · refine z_aload_n 70 dX4_take_69 rfl rfl ?_
            refine r_getP 73 hR fl_X4_57 (by decide) dX4_take_70 rfl ?_
            refine z_iload_n 74 dX4_take_73 rfl rfl ?_
            refine r_iald 75 17 6 hR rk17 ⟨by omega, by omega⟩ dX4_take_74 rfl ?_
            refine z_goto 80 dX4_take_75 (by decide) ?_
            refine z_ireturn rfl dX4_take_80 (by decide) (by decide) ?_
            have hd : isk (m 1 (m 17 q)) k ↔ w = k := by rw [← hc]; exact ⟨fun h => by unfold isk abv at h; omega, fun h => Or.inl h⟩
            simp only [a_take, cif, hd]
            refine ⟨congrArg (fun z => some (vI z)) ?_, hR⟩
            (repeat' split) <;> first | rfl | omega
        · refine z_iload_n 57 dX4_take_56 rfl rfl ?_
          refine z_callS 60 [_] la_X4_above ml_X4_210 sm_X4_above (r_above ⟨by omega, by omega⟩) rfl rfl (by decide) (Nat.le_of_ble_eq_true rfl) (by decide) (by decide) dX4_take_57 rfl (fun r t1 hq => ?_)
          obtain ⟨rfl, rfl⟩ := hq
          refine z_istore_n (lv' := [(3, _), (0, _), (1, _), (2, _)]) 61 dX4_take_60 rfl rfl rfl ?_
          refine z_goto 47 dX4_take_61 (by decide) ?_
          refine z_sub (lv' := [(3, _), (0, _), (1, _), (2, _)]) ⟨rfl, rfl, rfl, rfl, trivial⟩ ?_
          exact ih47 _ _ hR (by omega) (by unfold abv; omega) (by rw [← hc]; unfold isk abv; omega) (first | omega | (unfold abv; omega))
  refine z_iload_n 1 dX4_take_0 rfl rfl ?_
  refine z_if_lt 9 4 dX4_take_1 (by decide) rfl ⟨by omega, by omega⟩ (fun h1 => ?_) (fun h1 => ?_)
  · refine z_bipush 11 dX4_take_9 rfl ⟨by decide, by decide⟩ ?_
    refine z_ireturn rfl dX4_take_11 (by decide) (by decide) ?_
    simp only [a_take, cif]
    refine ⟨congrArg (fun z => some (vI z)) ?_, hR⟩
    (repeat' split) <;> first | rfl | omega
  · refine z_iload_n 5 dX4_take_4 rfl rfl ?_
    refine z_iconst 6 dX4_take_5 rfl ?_
    refine z_icmp_le 12 9 dX4_take_6 (by decide) rfl ⟨by omega, by omega⟩ ⟨by omega, by omega⟩ (fun h6 => ?_) (fun h6 => ?_)
    · refine z_aload_n 13 dX4_take_12 rfl rfl ?_
      refine z_iload_n 14 dX4_take_13 rfl rfl ?_
      refine z_callV 17 [_] la_X4_isReel ml_X4_204 im_X4_isReel se_X4_isReel hR.1.1 hR.1.2.1 (by decide) rfl rfl (r_isReel hR ⟨by omega, by omega⟩) rfl rfl (by decide) (Nat.le_of_ble_eq_true rfl) (by decide) (by decide) dX4_take_14 rfl (fun r t hq => ?_)
      obtain ⟨zr, rfl, hz4, hz5, hz6, hR⟩ := hq
      have hRl := fun (h : zr = 1) => hW.2.2.2.1 q (by omega) (by omega)
      refine z_if_ne 23 20 dX4_take_17 (by decide) rfl ⟨by omega, by omega⟩ (fun h17 => ?_) (fun h17 => ?_)
      · refine z_aload_n 24 dX4_take_23 rfl rfl ?_
        refine r_getP 27 hR fl_X4_57 (by decide) dX4_take_24 rfl ?_
        refine z_iload_n 28 dX4_take_27 rfl rfl ?_
        refine r_iald 29 17 6 hR rk17 ⟨by omega, by omega⟩ dX4_take_28 rfl ?_
        refine z_if_ge 35 32 dX4_take_29 (by decide) rfl ⟨by omega, by omega⟩ (fun h29 => ?_) (fun h29 => ?_)
        · refine z_aload_n 36 dX4_take_35 rfl rfl ?_
          refine r_getP 39 hR fl_X4_9 (by decide) dX4_take_36 rfl ?_
          refine z_aload_n 40 dX4_take_39 rfl rfl ?_
          refine r_getP 43 hR fl_X4_57 (by decide) dX4_take_40 rfl ?_
          refine z_iload_n 44 dX4_take_43 rfl rfl ?_
          refine r_iald 45 17 6 hR rk17 ⟨by omega, by omega⟩ dX4_take_44 rfl ?_
          refine r_iald 46 1 120 hR rk1 ⟨by omega, by omega⟩ dX4_take_45 rfl ?_
          refine z_istore_n (lv' := [(3, _), (0, _), (1, _), (2, _)]) 47 dX4_take_46 rfl rfl rfl ?_
          refine z_sub (lv' := [(3, _), (0, _), (1, _), (2, _)]) ⟨rfl, rfl, rfl, rfl, trivial⟩ ?_
          exact L47 5 _ _ hR (by omega) (by have hb := hW.b (p := m 17 q) (by omega) (by omega); omega) (Iff.rfl) (first | omega | (unfold abv; omega))
        · refine z_bipush 34 dX4_take_32 rfl ⟨by decide, by decide⟩ ?_
          refine z_ireturn rfl dX4_take_34 (by decide) (by decide) ?_
          simp only [a_take, cif]
          refine ⟨congrArg (fun z => some (vI z)) ?_, hR⟩
          (repeat' split) <;> first | rfl | omega
      · refine z_bipush 22 dX4_take_20 rfl ⟨by decide, by decide⟩ ?_
        refine z_ireturn rfl dX4_take_22 (by decide) (by decide) ?_
        simp only [a_take, cif]
        refine ⟨congrArg (fun z => some (vI z)) ?_, hR⟩
        (repeat' split) <;> first | rfl | omega
    · refine z_bipush 11 dX4_take_9 rfl ⟨by decide, by decide⟩ ?_
      refine z_ireturn rfl dX4_take_11 (by decide) (by decide) ?_
      simp only [a_take, cif]
      refine ⟨congrArg (fun z => some (vI z)) ?_, hR⟩
      (repeat' split) <;> first | rfl | omega
set_option maxRecDepth 20000 in
theorem r_order {m : Nat → Int → Int} {f : Nat → Int → UInt32} {x : Nat} {g : Nat → Nat} {t : zT} (hR : RA m f x g t) {w : Int} (hw : zi w) {e : Int} (he : zi e) (hW : WF m f) : zM yX4_order cX4_order 3 (some .int) 0 0 0 [vR (some x), vI w, vI e] t (fun r t1 => r = some (vI (a_order m w e)) ∧ RA (s_order m f w e).1 (s_order m f w e).2 x g t1) := by
  refine zM.of [(0, vR (some x)), (1, vI w), (2, vI e)] (by decide +kernel) rfl (Nat.le_of_ble_eq_true rfl) ?_
  obtain ⟨hw1, hw2⟩ := hw
  obtain ⟨he1, he2⟩ := he
  obtain ⟨ho1, ho2, -⟩ := hW.2.2.2.2.1
  refine z_iload_n 1 dX4_order_0 rfl rfl ?_
  refine z_iconst 2 dX4_order_1 rfl ?_
  refine z_icmp_lt 31 5 dX4_order_2 (by decide) rfl ⟨by omega, by omega⟩ ⟨by omega, by omega⟩ (fun h2 => ?_) (fun h2 => ?_)
  · refine z_bipush 33 dX4_order_31 rfl ⟨by decide, by decide⟩ ?_
    refine z_ireturn rfl dX4_order_33 (by decide) (by decide) ?_
    refine ⟨congrArg (fun z => some (vI z)) ?_, ?_⟩
    · simp only [a_order, ord_no, cif]; (repeat' split) <;> first | rfl | omega
    · refine RA_if2 (fun hc => ?_) (fun hc => ?_) <;> (try simp only [ord_no] at hc) <;> first | exact hR | (exfalso; omega)
  · refine z_iload_n 6 dX4_order_5 rfl rfl ?_
    refine z_sipush 9 dX4_order_6 rfl ⟨by decide, by decide⟩ ?_
    refine z_icmp_gt 31 12 dX4_order_9 (by decide) rfl ⟨by omega, by omega⟩ ⟨by omega, by omega⟩ (fun h9 => ?_) (fun h9 => ?_)
    · refine z_bipush 33 dX4_order_31 rfl ⟨by decide, by decide⟩ ?_
      refine z_ireturn rfl dX4_order_33 (by decide) (by decide) ?_
      refine ⟨congrArg (fun z => some (vI z)) ?_, ?_⟩
      · simp only [a_order, ord_no, cif]; (repeat' split) <;> first | rfl | omega
      · refine RA_if2 (fun hc => ?_) (fun hc => ?_) <;> (try simp only [ord_no] at hc) <;> first | exact hR | (exfalso; omega)
    · refine z_iload_n 13 dX4_order_12 rfl rfl ?_
      refine z_if_lt 31 16 dX4_order_13 (by decide) rfl ⟨by omega, by omega⟩ (fun h13 => ?_) (fun h13 => ?_)
      · refine z_bipush 33 dX4_order_31 rfl ⟨by decide, by decide⟩ ?_
        refine z_ireturn rfl dX4_order_33 (by decide) (by decide) ?_
        refine ⟨congrArg (fun z => some (vI z)) ?_, ?_⟩
        · simp only [a_order, ord_no, cif]; (repeat' split) <;> first | rfl | omega
        · refine RA_if2 (fun hc => ?_) (fun hc => ?_) <;> (try simp only [ord_no] at hc) <;> first | exact hR | (exfalso; omega)
      · refine z_iload_n 17 dX4_order_16 rfl rfl ?_
        refine z_ldc 19 co_X4_213 dX4_order_17 rfl ?_
        refine z_icmp_gt 31 22 dX4_order_19 (by decide) rfl ⟨by omega, by omega⟩ ⟨by omega, by omega⟩ (fun h19 => ?_) (fun h19 => ?_)
        · refine z_bipush 33 dX4_order_31 rfl ⟨by decide, by decide⟩ ?_
          refine z_ireturn rfl dX4_order_33 (by decide) (by decide) ?_
          refine ⟨congrArg (fun z => some (vI z)) ?_, ?_⟩
          · simp only [a_order, ord_no, cif]; (repeat' split) <;> first | rfl | omega
          · refine RA_if2 (fun hc => ?_) (fun hc => ?_) <;> (try simp only [ord_no] at hc) <;> first | exact hR | (exfalso; omega)
        · refine z_aload_n 23 dX4_order_22 rfl rfl ?_
          refine r_getI 26 hR fl_X4_143 (by decide) dX4_order_23 rfl ?_
          refine z_bipush 28 dX4_order_26 rfl ⟨by decide, by decide⟩ ?_
          refine z_icmp_ne 34 31 dX4_order_28 (by decide) rfl ⟨by omega, by omega⟩ ⟨by omega, by omega⟩ (fun h28 => ?_) (fun h28 => ?_)
          · refine z_aload_n 35 dX4_order_34 rfl rfl ?_
            refine r_getP 38 hR fl_X4_60 (by decide) dX4_order_35 rfl ?_
            refine z_aload_n 39 dX4_order_38 rfl rfl ?_
            refine r_getI 42 hR fl_X4_143 (by decide) dX4_order_39 rfl ?_
            refine z_iload_n 43 dX4_order_42 rfl rfl ?_
            refine r_iast 44 19 6 hR rk19 ⟨by omega, by omega⟩ dX4_order_43 rfl (fun t hR => ?_)
            refine z_aload_n 45 dX4_order_44 rfl rfl ?_
            refine r_getP 48 hR fl_X4_63 (by decide) dX4_order_45 rfl ?_
            refine z_aload_n 49 dX4_order_48 rfl rfl ?_
            refine r_getIe 52 hR fl_X4_143 (by decide) (show _ = m 18 0 from rfl) dX4_order_49 rfl ?_
            refine z_iload_n 53 dX4_order_52 rfl rfl ?_
            refine z_i2f 54 dX4_order_53 rfl ?_
            refine z_ldcf 56 co_X4_118 dX4_order_54 rfl ?_
            refine z_fmul 57 dX4_order_56 rfl (E8_num (by omega) (by omega)) ?_
            refine r_fast 58 20 6 hR rk20 ⟨by omega, by omega⟩ dX4_order_57 rfl (fun t hR => ?_)
            refine z_aload_n 59 dX4_order_58 rfl rfl ?_
            refine r_getP 62 hR fl_X4_66 (by decide) dX4_order_59 rfl ?_
            refine z_aload_n 63 dX4_order_62 rfl rfl ?_
            refine r_getIe 66 hR fl_X4_143 (by decide) (show _ = m 18 0 from rfl) dX4_order_63 rfl ?_
            refine z_iconst 67 dX4_order_66 rfl ?_
            refine r_iast 68 21 6 hR rk21 ⟨by omega, by omega⟩ dX4_order_67 rfl (fun t hR => ?_)
            refine z_aload_n 69 dX4_order_68 rfl rfl ?_
            refine r_getP 72 hR fl_X4_69 (by decide) dX4_order_69 rfl ?_
            refine z_aload_n 73 dX4_order_72 rfl rfl ?_
            refine r_getIe 76 hR fl_X4_143 (by decide) (show _ = m 18 0 from rfl) dX4_order_73 rfl ?_
            refine z_iconst 77 dX4_order_76 rfl ?_
            refine r_iast 78 22 6 hR rk22 ⟨by omega, by omega⟩ dX4_order_77 rfl (fun t hR => ?_)
            refine z_aload_n 79 dX4_order_78 rfl rfl ?_
            refine z_dup 80 dX4_order_79 rfl rfl ?_
            refine r_getIe 83 hR fl_X4_143 (by decide) (show _ = m 18 0 from rfl) dX4_order_80 rfl ?_
            refine z_iconst 84 dX4_order_83 rfl ?_
            refine z_iadd 85 dX4_order_84 rfl ?_
            refine r_putI 88 hR fl_X4_143 (by decide) dX4_order_85 rfl (fun t hR => ?_)
            refine z_aload_n 89 dX4_order_88 rfl rfl ?_
            refine r_getIe 92 hR fl_X4_143 (by decide) (up2_s _ _ _ _) dX4_order_89 rfl ?_
            refine z_iconst 93 dX4_order_92 rfl ?_
            refine z_isub 94 dX4_order_93 rfl ?_
            refine z_ireturn rfl dX4_order_94 (by decide) (by decide) ?_
            refine ⟨congrArg (fun z => some (vI z)) ?_, ?_⟩
            · simp only [a_order, ord_no, cif]; (repeat' split) <;> first | rfl | omega
            · refine RA_if2 (fun hc => ?_) (fun hc => ?_) <;> (try simp only [ord_no] at hc) <;> first | exact hR | (exfalso; omega)
          · refine z_bipush 33 dX4_order_31 rfl ⟨by decide, by decide⟩ ?_
            refine z_ireturn rfl dX4_order_33 (by decide) (by decide) ?_
            refine ⟨congrArg (fun z => some (vI z)) ?_, ?_⟩
            · simp only [a_order, ord_no, cif]; (repeat' split) <;> first | rfl | omega
            · refine RA_if2 (fun hc => ?_) (fun hc => ?_) <;> (try simp only [ord_no] at hc) <;> first | exact hR | (exfalso; omega)
set_option maxRecDepth 20000 in
theorem r_join {m : Nat → Int → Int} {f : Nat → Int → UInt32} {x : Nat} {g : Nat → Nat} {t : zT} (hR : RA m f x g t) {o : Int} (ho : zi o) (hW : WF m f) : zM yX4_join cX4_join 3 (some .int) 0 0 0 [vR (some x), vI o] t (fun r t1 => r = some (vI (a_join m o)) ∧ RA (s_join m o) f x g t1) := by
  refine zM.of [(0, vR (some x)), (1, vI o)] (by decide +kernel) rfl (Nat.le_of_ble_eq_true rfl) ?_
  obtain ⟨ho1, ho2⟩ := ho
  obtain ⟨hm1, hm2, hm3⟩ := hW.2.2.2.2.1
  have hm4 := fun (h : 0 ≤ o ∧ o < m 18 0) => (hm3 o h.1 h.2).1
  have hm5 := fun (h : 0 ≤ o ∧ o < m 18 0) => (hm3 o h.1 h.2).2.2.1
  have hm6 := fun (h : 0 ≤ o ∧ o < m 18 0) => (hm3 o h.1 h.2).2.2.2.1
  have hm7 : 0 ≤ o ∧ o < m 18 0 ∧ 0 ≤ m 21 o → 0 ≤ m 22 o ∧ m 22 o ≤ 2000 := fun h => by obtain ⟨a1, a2, a3, a4, a5, -⟩ := hm3 o h.1 h.2.1; obtain ⟨b1, b2, b3⟩ := a5 h.2.2; obtain ⟨c1, c2, c3⟩ := hW.2.2.2.1 (m 21 o) (by omega) (by omega); have := hW.b b1 c2; omega
  refine z_iload_n 1 dX4_join_0 rfl rfl ?_
  refine z_if_lt 21 4 dX4_join_1 (by decide) rfl ⟨by omega, by omega⟩ (fun h1 => ?_) (fun h1 => ?_)
  · refine z_bipush 23 dX4_join_21 rfl ⟨by decide, by decide⟩ ?_
    refine z_ireturn rfl dX4_join_23 (by decide) (by decide) ?_
    refine ⟨congrArg (fun z => some (vI z)) ?_, ?_⟩
    · simp only [a_join, join_no, cif]; (repeat' split) <;> first | rfl | omega
    · refine RA_if (fun hc => ?_) (fun hc => ?_) <;> (try simp only [join_no] at hc) <;> first | exact hR | (exfalso; omega)
  · refine z_iload_n 5 dX4_join_4 rfl rfl ?_
    refine z_aload_n 6 dX4_join_5 rfl rfl ?_
    refine r_getI 9 hR fl_X4_143 (by decide) dX4_join_6 rfl ?_
    refine z_icmp_ge 21 12 dX4_join_9 (by decide) rfl ⟨by omega, by omega⟩ ⟨by omega, by omega⟩ (fun h9 => ?_) (fun h9 => ?_)
    · refine z_bipush 23 dX4_join_21 rfl ⟨by decide, by decide⟩ ?_
      refine z_ireturn rfl dX4_join_23 (by decide) (by decide) ?_
      refine ⟨congrArg (fun z => some (vI z)) ?_, ?_⟩
      · simp only [a_join, join_no, cif]; (repeat' split) <;> first | rfl | omega
      · refine RA_if (fun hc => ?_) (fun hc => ?_) <;> (try simp only [join_no] at hc) <;> first | exact hR | (exfalso; omega)
    · refine z_aload_n 13 dX4_join_12 rfl rfl ?_
      refine r_getP 16 hR fl_X4_66 (by decide) dX4_join_13 rfl ?_
      refine z_iload_n 17 dX4_join_16 rfl rfl ?_
      refine r_iald 18 21 6 hR rk21 ⟨by omega, by omega⟩ dX4_join_17 rfl ?_
      refine z_if_ge 24 21 dX4_join_18 (by decide) rfl ⟨by omega, by omega⟩ (fun h18 => ?_) (fun h18 => ?_)
      · refine z_sipush 27 dX4_join_24 rfl ⟨by decide, by decide⟩ ?_
        refine z_aload_n 28 dX4_join_27 rfl rfl ?_
        refine r_getP 31 hR fl_X4_66 (by decide) dX4_join_28 rfl ?_
        refine z_iload_n 32 dX4_join_31 rfl rfl ?_
        refine r_iald 33 21 6 hR rk21 ⟨by omega, by omega⟩ dX4_join_32 rfl ?_
        refine z_imul 34 dX4_join_33 rfl ?_
        refine z_aload_n 35 dX4_join_34 rfl rfl ?_
        refine r_getP 38 hR fl_X4_69 (by decide) dX4_join_35 rfl ?_
        refine z_iload_n 39 dX4_join_38 rfl rfl ?_
        refine r_iald 40 22 6 hR rk22 ⟨by omega, by omega⟩ dX4_join_39 rfl ?_
        refine z_iadd 41 dX4_join_40 rfl ?_
        refine z_istore_n (lv' := [(2, _), (0, _), (1, _)]) 42 dX4_join_41 rfl rfl rfl ?_
        refine z_aload_n 43 dX4_join_42 rfl rfl ?_
        refine r_getP 46 hR fl_X4_66 (by decide) dX4_join_43 rfl ?_
        refine z_iload_n 47 dX4_join_46 rfl rfl ?_
        refine z_iconst 48 dX4_join_47 rfl ?_
        refine r_iast 49 21 6 hR rk21 ⟨by omega, by omega⟩ dX4_join_48 rfl (fun t hR => ?_)
        refine z_iload_n 50 dX4_join_49 rfl rfl ?_
        refine z_ireturn rfl dX4_join_50 (by decide) (by decide) ?_
        refine ⟨congrArg (fun z => some (vI z)) ?_, ?_⟩
        · simp only [a_join, join_no, cif]; (repeat' split) <;> first | rfl | omega
        · refine RA_if (fun hc => ?_) (fun hc => ?_) <;> (try simp only [join_no] at hc) <;> first | exact hR | (exfalso; omega)
      · refine z_bipush 23 dX4_join_21 rfl ⟨by decide, by decide⟩ ?_
        refine z_ireturn rfl dX4_join_23 (by decide) (by decide) ?_
        refine ⟨congrArg (fun z => some (vI z)) ?_, ?_⟩
        · simp only [a_join, join_no, cif]; (repeat' split) <;> first | rfl | omega
        · refine RA_if (fun hc => ?_) (fun hc => ?_) <;> (try simp only [join_no] at hc) <;> first | exact hR | (exfalso; omega)
set_option maxRecDepth 20000 in
theorem r_stage {m : Nat → Int → Int} {f : Nat → Int → UInt32} {x : Nat} {g : Nat → Nat} {t : zT} (hR : RA m f x g t) {w : Int} (hw : zi w) (hW : WF m f) : zM yX4_stage cX4_stage 2 (some .int) 0 0 0 [vR (some x), vI w] t (fun r t1 => r = some (vI (a_stage m w)) ∧ RA (s_stage m w) f x g t1) := by
  refine zM.of [(0, vR (some x)), (1, vI w)] (by decide +kernel) rfl (Nat.le_of_ble_eq_true rfl) ?_
  obtain ⟨hw1, hw2⟩ := hw
  obtain ⟨hm1, hm2, hm3⟩ := hW.2.2.2.2.2
  refine z_iload_n 1 dX4_stage_0 rfl rfl ?_
  refine z_if_lt 19 4 dX4_stage_1 (by decide) rfl ⟨by omega, by omega⟩ (fun h1 => ?_) (fun h1 => ?_)
  · refine z_bipush 21 dX4_stage_19 rfl ⟨by decide, by decide⟩ ?_
    refine z_ireturn rfl dX4_stage_21 (by decide) (by decide) ?_
    refine ⟨congrArg (fun z => some (vI z)) ?_, ?_⟩
    · simp only [a_stage, stage_no, cif]; (repeat' split) <;> first | rfl | omega
    · refine RA_if (fun hc => ?_) (fun hc => ?_) <;> (try simp only [stage_no] at hc) <;> first | exact hR | (exfalso; omega)
  · refine z_iload_n 5 dX4_stage_4 rfl rfl ?_
    refine z_bipush 7 dX4_stage_5 rfl ⟨by decide, by decide⟩ ?_
    refine z_icmp_gt 19 10 dX4_stage_7 (by decide) rfl ⟨by omega, by omega⟩ ⟨by omega, by omega⟩ (fun h7 => ?_) (fun h7 => ?_)
    · refine z_bipush 21 dX4_stage_19 rfl ⟨by decide, by decide⟩ ?_
      refine z_ireturn rfl dX4_stage_21 (by decide) (by decide) ?_
      refine ⟨congrArg (fun z => some (vI z)) ?_, ?_⟩
      · simp only [a_stage, stage_no, cif]; (repeat' split) <;> first | rfl | omega
      · refine RA_if (fun hc => ?_) (fun hc => ?_) <;> (try simp only [stage_no] at hc) <;> first | exact hR | (exfalso; omega)
    · refine z_aload_n 11 dX4_stage_10 rfl rfl ?_
      refine r_getI 14 hR fl_X4_146 (by decide) dX4_stage_11 rfl ?_
      refine z_bipush 16 dX4_stage_14 rfl ⟨by decide, by decide⟩ ?_
      refine z_icmp_ne 22 19 dX4_stage_16 (by decide) rfl ⟨by omega, by omega⟩ ⟨by omega, by omega⟩ (fun h16 => ?_) (fun h16 => ?_)
      · refine z_aload_n 23 dX4_stage_22 rfl rfl ?_
        refine r_getP 26 hR fl_X4_72 (by decide) dX4_stage_23 rfl ?_
        refine z_aload_n 27 dX4_stage_26 rfl rfl ?_
        refine r_getI 30 hR fl_X4_146 (by decide) dX4_stage_27 rfl ?_
        refine z_iload_n 31 dX4_stage_30 rfl rfl ?_
        refine r_iast 32 24 10 hR rk24 ⟨by omega, by omega⟩ dX4_stage_31 rfl (fun t hR => ?_)
        refine z_aload_n 33 dX4_stage_32 rfl rfl ?_
        refine z_dup 34 dX4_stage_33 rfl rfl ?_
        refine r_getIe 37 hR fl_X4_146 (by decide) (show _ = m 23 0 from rfl) dX4_stage_34 rfl ?_
        refine z_iconst 38 dX4_stage_37 rfl ?_
        refine z_iadd 39 dX4_stage_38 rfl ?_
        refine r_putI 42 hR fl_X4_146 (by decide) dX4_stage_39 rfl (fun t hR => ?_)
        refine z_aload_n 43 dX4_stage_42 rfl rfl ?_
        refine r_getIe 46 hR fl_X4_146 (by decide) (up2_s _ _ _ _) dX4_stage_43 rfl ?_
        refine z_ireturn rfl dX4_stage_46 (by decide) (by decide) ?_
        refine ⟨congrArg (fun z => some (vI z)) ?_, ?_⟩
        · simp only [a_stage, stage_no, cif]; (repeat' split) <;> first | rfl | omega
        · refine RA_if (fun hc => ?_) (fun hc => ?_) <;> (try simp only [stage_no] at hc) <;> first | exact hR | (exfalso; omega)
      · refine z_bipush 21 dX4_stage_19 rfl ⟨by decide, by decide⟩ ?_
        refine z_ireturn rfl dX4_stage_21 (by decide) (by decide) ?_
        refine ⟨congrArg (fun z => some (vI z)) ?_, ?_⟩
        · simp only [a_stage, stage_no, cif]; (repeat' split) <;> first | rfl | omega
        · refine RA_if (fun hc => ?_) (fun hc => ?_) <;> (try simp only [stage_no] at hc) <;> first | exact hR | (exfalso; omega)
set_option maxRecDepth 20000 in
theorem r_unstage {m : Nat → Int → Int} {f : Nat → Int → UInt32} {x : Nat} {g : Nat → Nat} {t : zT} (hR : RA m f x g t) (hW : WF m f) : zM yX4_unstage cX4_unstage 1 (some .int) 0 0 0 [vR (some x)] t (fun r t1 => r = some (vI (a_unstage m)) ∧ RA (s_unstage m) f x g t1) := by
  refine zM.of [(0, vR (some x))] (by decide +kernel) rfl (Nat.le_of_ble_eq_true rfl) ?_
  obtain ⟨hm1, hm2, hm3⟩ := hW.2.2.2.2.2
  have hm4 := fun (h : 0 < m 23 0) => hm3 (m 23 0 - 1) (by omega) (by omega)
  refine z_aload_n 1 dX4_unstage_0 rfl rfl ?_
  refine r_getI 4 hR fl_X4_146 (by decide) dX4_unstage_1 rfl ?_
  refine z_if_ne 10 7 dX4_unstage_4 (by decide) rfl ⟨by omega, by omega⟩ (fun h4 => ?_) (fun h4 => ?_)
  · refine z_aload_n 11 dX4_unstage_10 rfl rfl ?_
    refine z_dup 12 dX4_unstage_11 rfl rfl ?_
    refine r_getI 15 hR fl_X4_146 (by decide) dX4_unstage_12 rfl ?_
    refine z_iconst 16 dX4_unstage_15 rfl ?_
    refine z_isub 17 dX4_unstage_16 rfl ?_
    refine r_putI 20 hR fl_X4_146 (by decide) dX4_unstage_17 rfl (fun t hR => ?_)
    refine z_aload_n 21 dX4_unstage_20 rfl rfl ?_
    refine r_getP 24 hR fl_X4_72 (by decide) dX4_unstage_21 rfl ?_
    refine z_aload_n 25 dX4_unstage_24 rfl rfl ?_
    refine r_getIe 28 hR fl_X4_146 (by decide) (up2_s _ _ _ _) dX4_unstage_25 rfl ?_
    refine r_ialde 29 24 10 hR rk24 ⟨by omega, by omega⟩ (show _ = m 24 _ from rfl) dX4_unstage_28 rfl ?_
    refine z_ireturn rfl dX4_unstage_29 (by decide) (by decide) ?_
    refine ⟨congrArg (fun z => some (vI z)) ?_, ?_⟩
    · simp only [a_unstage, cif]; (repeat' split) <;> first | rfl | omega
    · refine RA_if (fun hc => ?_) (fun hc => ?_) <;> first | exact hR | (exfalso; omega)
  · refine z_bipush 9 dX4_unstage_7 rfl ⟨by decide, by decide⟩ ?_
    refine z_ireturn rfl dX4_unstage_9 (by decide) (by decide) ?_
    refine ⟨congrArg (fun z => some (vI z)) ?_, ?_⟩
    · simp only [a_unstage, cif]; (repeat' split) <;> first | rfl | omega
    · refine RA_if (fun hc => ?_) (fun hc => ?_) <;> first | exact hR | (exfalso; omega)
set_option maxRecDepth 20000 in
theorem r_product {m : Nat → Int → Int} {f : Nat → Int → UInt32} {x : Nat} {g : Nat → Nat} {t : zT} (hR : RA m f x g t) {n : Int} (hn : 0 ≤ n ∧ n ≤ 10) (hr : ∀ k, 0 ≤ k → k < n → 0 ≤ m 24 k ∧ m 24 k ≤ 8) : zM yX4_product cX4_product 5 (some .long) 0 0 0 [vR (some x), vI n] t (fun r t1 => r = some (vL (prodf m n.toNat)) ∧ RA m f x g t1) := by
  refine zM.of [(0, vR (some x)), (1, vI n)] (by decide +kernel) rfl (Nat.le_of_ble_eq_true rfl) ?_
  have L5 : ∀ (fuel : Nat) (k v : Int) (t : zT) (hR : RA m f x g t) (hk : 0 ≤ k ∧ k ≤ n) (hv : v = prodf m k.toNat) (hf : n - k < (fuel : Int)), zOK yX4_product cX4_product 5 (some .long) 0 0 0 (fun r t1 => r = some (vL (prodf m n.toNat)) ∧ RA m f x g t1) 0 0 5 [(4, vI k), (2, vL v), (0, vR (some x)), (1, vI n)] [] t := by
    intro fuel
    induction fuel with
    | zero => intro k v t hR hk hv hf; exfalso; omega
    | succ fuel ih5 =>
      intro k v t hR hk hv hf
      have hk9 := fun (h : k < n) => hr k hk.1 h
      refine z_iload 7 dX4_product_5 rfl rfl ?_
      refine z_iload_n 8 dX4_product_7 rfl rfl ?_
      refine z_icmp_ge 28 11 dX4_product_8 (by decide) rfl ⟨by omega, by omega⟩ ⟨by omega, by omega⟩ (fun h8 => ?_) (fun h8 => ?_)
      · refine z_lload_n 29 dX4_product_28 rfl rfl ?_
        refine z_lreturn rfl dX4_product_29 (by decide) (by decide) ?_
        have : k = n := by omega
        subst this
        exact ⟨by rw [hv], hR⟩
      · refine z_lload_n 12 dX4_product_11 rfl rfl ?_
        refine z_aload_n 13 dX4_product_12 rfl rfl ?_
        refine r_getP 16 hR fl_X4_72 (by decide) dX4_product_13 rfl ?_
        refine z_iload 18 dX4_product_16 rfl rfl ?_
        refine r_iald 19 24 10 hR rk24 ⟨by omega, by omega⟩ dX4_product_18 rfl ?_
        refine z_i2l 20 dX4_product_19 rfl ⟨by omega, by omega⟩ ?_
        refine z_lmul 21 dX4_product_20 rfl ?_
        refine z_lstore_n (lv' := [(2, _), (4, _), (0, _), (1, _)]) 22 dX4_product_21 rfl rfl rfl ?_
        refine z_iinc (lv' := [(4, _), (2, _), (0, _), (1, _)]) 25 dX4_product_22 rfl rfl rfl rfl ?_
        refine z_goto 5 dX4_product_25 (by decide) ?_
        refine z_sub (lv' := [(4, _), (2, _), (0, _), (1, _)]) ⟨rfl, rfl, rfl, rfl, trivial⟩ ?_
        exact ih5 _ _ _ hR (by omega) (by rw [show (k + 1).toNat = k.toNat + 1 by omega, hv]; show _ = prodf m k.toNat * m 24 (k.toNat : Int); rw [show ((k.toNat : Nat) : Int) = k by omega]) (by omega)
  refine z_lconst (z := 1) 1 dX4_product_0 rfl rfl ?_
  refine z_lstore_n (lv' := [(2, _), (0, _), (1, _)]) 2 dX4_product_1 rfl rfl rfl ?_
  refine z_iconst 3 dX4_product_2 rfl ?_
  refine z_istore (lv' := [(4, _), (2, _), (0, _), (1, _)]) 5 dX4_product_3 rfl rfl rfl ?_
  refine z_sub (lv' := [(4, _), (2, _), (0, _), (1, _)]) ⟨rfl, rfl, rfl, rfl, trivial⟩ ?_
  exact L5 11 _ _ _ hR (by omega) (rfl) (by omega)
set_option maxRecDepth 20000 in
theorem r_lowest {t : zT} {A B : Nat} {w : Int} (hA : A ≤ 1000000) (hB : 0 < B ∧ B ≤ 1073741824) (hw : zi w) : zM yX4_lowest cX4_lowest 11 (some .long) 0 0 0 [vL (A : Int), vL (B : Int), vI w] t (fun r t1 => r = some (vL (low A B w)) ∧ t1 = t) := by
  refine zM.of [(0, vL (A : Int)), (2, vL (B : Int)), (4, vI w)] (by decide +kernel) rfl (Nat.le_of_ble_eq_true rfl) ?_
  obtain ⟨hw1, hw2⟩ := hw
  have L6 : ∀ (fuel : Nat) (X Y : Nat) (t : zT)  (hX : X ≤ 1073741824 ∧ Y ≤ 1073741824) (hg : Nat.gcd X Y = Nat.gcd A B) (hf : (Y : Int) < (fuel : Int)), zOK yX4_lowest cX4_lowest 11 (some .long) 0 0 0 (fun r t1 => r = some (vL (low A B w)) ∧ t1 = t) 0 0 6 [(7, vL (Y : Int)), (5, vL (X : Int)), (0, vL (A : Int)), (2, vL (B : Int)), (4, vI w)] [] t := by
    intro fuel
    induction fuel with
    | zero => intro X Y t  hX hg hf; exfalso; omega
    | succ fuel ih6 =>
      intro X Y t  hX hg hf
      obtain ⟨hX1, hX2⟩ := hX
      refine z_lload 8 dX4_lowest_6 rfl rfl ?_
      refine z_lconst (z := 0) 9 dX4_lowest_8 rfl rfl ?_
      refine z_lcmp 10 dX4_lowest_9 rfl ⟨by omega, by omega⟩ ⟨by omega, by omega⟩ ?_
      refine z_if_eq 31 13 dX4_lowest_10 (by decide) rfl zlc_i (fun h10 => ?_) (fun h10 => ?_)
      · have hY0 : Y = 0 := by have := zlc_0.mp h10; omega
        subst hY0
        rw [Nat.gcd_zero_right] at hg
        have hgp := Nat.gcd_pos_of_pos_right A hB.1
        have hgl := Nat.gcd_le_right A hB.1
        rw [← hg] at hgp hgl
        refine z_iload 33 dX4_lowest_31 rfl rfl ?_
        refine z_if_ne 43 36 dX4_lowest_33 (by decide) rfl ⟨by omega, by omega⟩ (fun h33 => ?_) (fun h33 => ?_)
        · refine z_lload_n 44 dX4_lowest_43 rfl rfl ?_
          refine z_lload 46 dX4_lowest_44 rfl rfl ?_
          refine z_ldiv 47 dX4_lowest_46 rfl ⟨by omega, by omega⟩ ⟨by omega, by omega⟩ (by omega) ?_
          refine z_lreturn rfl dX4_lowest_47 (by decide) (by decide) ?_
          refine ⟨congrArg (fun z => some (vL z)) ?_, rfl⟩
          unfold low
          rw [← hg]
          first | (rw [if_pos (by omega)]; exact (Int.ofNat_tdiv A X).symm) | (rw [if_neg (by omega)]; exact (Int.ofNat_tdiv B X).symm)
        · refine z_lload_n 37 dX4_lowest_36 rfl rfl ?_
          refine z_lload 39 dX4_lowest_37 rfl rfl ?_
          refine z_ldiv 40 dX4_lowest_39 rfl ⟨by omega, by omega⟩ ⟨by omega, by omega⟩ (by omega) ?_
          refine z_goto 47 dX4_lowest_40 (by decide) ?_
          refine z_lreturn rfl dX4_lowest_47 (by decide) (by decide) ?_
          refine ⟨congrArg (fun z => some (vL z)) ?_, rfl⟩
          unfold low
          rw [← hg]
          first | (rw [if_pos (by omega)]; exact (Int.ofNat_tdiv A X).symm) | (rw [if_neg (by omega)]; exact (Int.ofNat_tdiv B X).symm)
      · refine z_lload 15 dX4_lowest_13 rfl rfl ?_
        refine z_lload 17 dX4_lowest_15 rfl rfl ?_
        refine z_lrem 18 dX4_lowest_17 rfl ⟨by omega, by omega⟩ ⟨by omega, by omega⟩ (fun q => h10 (zlc_0.mpr q)) ?_
        refine z_lstore (lv' := [(9, _), (7, _), (5, _), (0, _), (2, _), (4, _)]) 20 dX4_lowest_18 rfl rfl rfl ?_
        rw [show (X : Int).tmod (Y : Int) = ((X % Y : Nat) : Int) from (Int.ofNat_tmod X Y).symm]
        refine z_lload 22 dX4_lowest_20 rfl rfl ?_
        refine z_lstore (lv' := [(5, _), (9, _), (7, _), (0, _), (2, _), (4, _)]) 24 dX4_lowest_22 rfl rfl rfl ?_
        refine z_lload 26 dX4_lowest_24 rfl rfl ?_
        refine z_lstore (lv' := [(7, _), (5, _), (9, _), (0, _), (2, _), (4, _)]) 28 dX4_lowest_26 rfl rfl rfl ?_
        refine z_goto 6 dX4_lowest_28 (by decide) ?_
        have hY : ¬ (Y : Int) = 0 := fun q => h10 (zlc_0.mpr q)
        have hlt := Nat.mod_lt X (y := Y) (by omega)
        refine z_sub (lv' := [(7, _), (5, _), (0, _), (2, _), (4, _)]) ⟨rfl, rfl, rfl, rfl, rfl, trivial⟩ ?_
        exact ih6 _ _ _  (by omega) (by rw [← hg, Nat.gcd_comm X Y, Nat.gcd_rec Y X, Nat.gcd_comm]) (by omega)
  refine z_lload_n 1 dX4_lowest_0 rfl rfl ?_
  refine z_lstore (lv' := [(5, _), (0, _), (2, _), (4, _)]) 3 dX4_lowest_1 rfl rfl rfl ?_
  refine z_lload_n 4 dX4_lowest_3 rfl rfl ?_
  refine z_lstore (lv' := [(7, _), (5, _), (0, _), (2, _), (4, _)]) 6 dX4_lowest_4 rfl rfl rfl ?_
  refine z_sub (lv' := [(7, _), (5, _), (0, _), (2, _), (4, _)]) ⟨rfl, rfl, rfl, rfl, rfl, trivial⟩ ?_
  exact L6 1073741825 _ _ _  (by omega) (rfl) (by omega)
end
section
theorem i_vc : Claimed_1_1 ∧ Claimed_1_2 := sorry
end
