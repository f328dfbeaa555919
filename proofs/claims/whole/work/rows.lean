section
-- ===== PART A: goes FIRST, ahead of the names: the tables' words, and 'selects' of the private methods out of them =====
/-- a private method of a class that the tables say can be made, by its rows of tables_1 -/
def lw_okq (q : MethodName × Nat) : Prop := (q.1.cls ≠ "java/lang/invoke/MethodHandle" ∧ q.1.cls ≠ "java/lang/invoke/VarHandle") ∧ Cond.instantiable q.1.cls q.2 ∈ tables_1 ∧ Cond.privateMethod q.1 ∈ tables_1 ∧ Cond.instanceMethod q.1 ∈ tables_1
theorem lw_p0 : lw_okq (⟨"PostalAuction$Steps", "placeOf", "(I)I"⟩, 3) := ⟨⟨by decide +kernel, by decide +kernel⟩, List.mem_of_getElem? (i := 29) (by decide +kernel), List.mem_of_getElem? (i := 339) (by decide +kernel), List.mem_of_getElem? (i := 340) (by decide +kernel)⟩
theorem lw_p1 : lw_okq (⟨"PostalAuction", "beginAct", "()V"⟩, 5) := ⟨⟨by decide +kernel, by decide +kernel⟩, List.mem_of_getElem? (i := 15) (by decide +kernel), List.mem_of_getElem? (i := 347) (by decide +kernel), List.mem_of_getElem? (i := 348) (by decide +kernel)⟩
theorem lw_p2 : lw_okq (⟨"PostalAuction$History", "dropOldest", "()V"⟩, 2) := ⟨⟨by decide +kernel, by decide +kernel⟩, List.mem_of_getElem? (i := 184) (by decide +kernel), List.mem_of_getElem? (i := 355) (by decide +kernel), List.mem_of_getElem? (i := 356) (by decide +kernel)⟩
theorem lw_p3 : lw_okq (⟨"PostalAuction$Steps", "bandOf", "(I)I"⟩, 3) := ⟨⟨by decide +kernel, by decide +kernel⟩, List.mem_of_getElem? (i := 29) (by decide +kernel), List.mem_of_getElem? (i := 414) (by decide +kernel), List.mem_of_getElem? (i := 415) (by decide +kernel)⟩
theorem lw_p4 : lw_okq (⟨"PostalAuction", "isLot", "(I)Z"⟩, 5) := ⟨⟨by decide +kernel, by decide +kernel⟩, List.mem_of_getElem? (i := 15) (by decide +kernel), List.mem_of_getElem? (i := 442) (by decide +kernel), List.mem_of_getElem? (i := 443) (by decide +kernel)⟩
theorem lw_p5 : lw_okq (⟨"PostalAuction", "isBidder", "(I)Z"⟩, 5) := ⟨⟨by decide +kernel, by decide +kernel⟩, List.mem_of_getElem? (i := 15) (by decide +kernel), List.mem_of_getElem? (i := 465) (by decide +kernel), List.mem_of_getElem? (i := 466) (by decide +kernel)⟩
theorem lw_p6 : lw_okq (⟨"PostalAuction", "isBid", "(I)Z"⟩, 5) := ⟨⟨by decide +kernel, by decide +kernel⟩, List.mem_of_getElem? (i := 15) (by decide +kernel), List.mem_of_getElem? (i := 489) (by decide +kernel), List.mem_of_getElem? (i := 490) (by decide +kernel)⟩
theorem lw_p7 : lw_okq (⟨"PostalAuction$Letter", "startNumber", "()V"⟩, 10) := ⟨⟨by decide +kernel, by decide +kernel⟩, List.mem_of_getElem? (i := 266) (by decide +kernel), List.mem_of_getElem? (i := 513) (by decide +kernel), List.mem_of_getElem? (i := 514) (by decide +kernel)⟩
theorem lw_p8 : lw_okq (⟨"PostalAuction$Letter", "readDigit", "(II)I"⟩, 10) := ⟨⟨by decide +kernel, by decide +kernel⟩, List.mem_of_getElem? (i := 266) (by decide +kernel), List.mem_of_getElem? (i := 517) (by decide +kernel), List.mem_of_getElem? (i := 518) (by decide +kernel)⟩
theorem lw_p9 : lw_okq (⟨"PostalAuction$Letter", "readMark", "(CII)I"⟩, 10) := ⟨⟨by decide +kernel, by decide +kernel⟩, List.mem_of_getElem? (i := 266) (by decide +kernel), List.mem_of_getElem? (i := 521) (by decide +kernel), List.mem_of_getElem? (i := 522) (by decide +kernel)⟩
theorem lw_p10 : lw_okq (⟨"PostalAuction$Letter", "isTooGreat", "(I)Z"⟩, 10) := ⟨⟨by decide +kernel, by decide +kernel⟩, List.mem_of_getElem? (i := 266) (by decide +kernel), List.mem_of_getElem? (i := 525) (by decide +kernel), List.mem_of_getElem? (i := 526) (by decide +kernel)⟩
theorem lw_p11 : lw_okq (⟨"PostalAuction$Letter", "takeNumber", "()V"⟩, 10) := ⟨⟨by decide +kernel, by decide +kernel⟩, List.mem_of_getElem? (i := 266) (by decide +kernel), List.mem_of_getElem? (i := 530) (by decide +kernel), List.mem_of_getElem? (i := 531) (by decide +kernel)⟩
theorem lw_p12 : lw_okq (⟨"PostalAuction$Letter", "readEnd", "(I)I"⟩, 10) := ⟨⟨by decide +kernel, by decide +kernel⟩, List.mem_of_getElem? (i := 266) (by decide +kernel), List.mem_of_getElem? (i := 535) (by decide +kernel), List.mem_of_getElem? (i := 536) (by decide +kernel)⟩
theorem lw_p13 : lw_okq (⟨"PostalAuction$Sale", "judgeBids", "(I)V"⟩, 11) := ⟨⟨by decide +kernel, by decide +kernel⟩, List.mem_of_getElem? (i := 201) (by decide +kernel), List.mem_of_getElem? (i := 574) (by decide +kernel), List.mem_of_getElem? (i := 575) (by decide +kernel)⟩
theorem lw_p14 : lw_okq (⟨"PostalAuction$Sale", "judge", "(II)V"⟩, 11) := ⟨⟨by decide +kernel, by decide +kernel⟩, List.mem_of_getElem? (i := 201) (by decide +kernel), List.mem_of_getElem? (i := 579) (by decide +kernel), List.mem_of_getElem? (i := 580) (by decide +kernel)⟩
theorem lw_p15 : lw_okq (⟨"PostalAuction$Sale", "reasonAgainst", "(II)I"⟩, 11) := ⟨⟨by decide +kernel, by decide +kernel⟩, List.mem_of_getElem? (i := 201) (by decide +kernel), List.mem_of_getElem? (i := 589) (by decide +kernel), List.mem_of_getElem? (i := 590) (by decide +kernel)⟩
def lw_privs_1 : List (MethodName × Nat) := [(⟨"PostalAuction$Steps", "placeOf", "(I)I"⟩, 3), (⟨"PostalAuction", "beginAct", "()V"⟩, 5), (⟨"PostalAuction$History", "dropOldest", "()V"⟩, 2), (⟨"PostalAuction$Steps", "bandOf", "(I)I"⟩, 3), (⟨"PostalAuction", "isLot", "(I)Z"⟩, 5), (⟨"PostalAuction", "isBidder", "(I)Z"⟩, 5), (⟨"PostalAuction", "isBid", "(I)Z"⟩, 5), (⟨"PostalAuction$Letter", "startNumber", "()V"⟩, 10), (⟨"PostalAuction$Letter", "readDigit", "(II)I"⟩, 10), (⟨"PostalAuction$Letter", "readMark", "(CII)I"⟩, 10), (⟨"PostalAuction$Letter", "isTooGreat", "(I)Z"⟩, 10), (⟨"PostalAuction$Letter", "takeNumber", "()V"⟩, 10), (⟨"PostalAuction$Letter", "readEnd", "(I)I"⟩, 10), (⟨"PostalAuction$Sale", "judgeBids", "(I)V"⟩, 11), (⟨"PostalAuction$Sale", "judge", "(II)V"⟩, 11), (⟨"PostalAuction$Sale", "reasonAgainst", "(II)I"⟩, 11)]
theorem lw_r1 : ∀ q ∈ lw_privs_1, lw_okq q := List.forall_mem_cons.mpr ⟨lw_p0, List.forall_mem_cons.mpr ⟨lw_p1, List.forall_mem_cons.mpr ⟨lw_p2, List.forall_mem_cons.mpr ⟨lw_p3, List.forall_mem_cons.mpr ⟨lw_p4, List.forall_mem_cons.mpr ⟨lw_p5, List.forall_mem_cons.mpr ⟨lw_p6, List.forall_mem_cons.mpr ⟨lw_p7, List.forall_mem_cons.mpr ⟨lw_p8, List.forall_mem_cons.mpr ⟨lw_p9, List.forall_mem_cons.mpr ⟨lw_p10, List.forall_mem_cons.mpr ⟨lw_p11, List.forall_mem_cons.mpr ⟨lw_p12, List.forall_mem_cons.mpr ⟨lw_p13, List.forall_mem_cons.mpr ⟨lw_p14, List.forall_mem_cons.mpr ⟨lw_p15, fun _ h => absurd h List.not_mem_nil⟩⟩⟩⟩⟩⟩⟩⟩⟩⟩⟩⟩⟩⟩⟩⟩
theorem lw_p16 : lw_okq (⟨"PostalAuction$Sale", "hasAlternativeBought", "(II)Z"⟩, 11) := ⟨⟨by decide +kernel, by decide +kernel⟩, List.mem_of_getElem? (i := 201) (by decide +kernel), List.mem_of_getElem? (i := 597) (by decide +kernel), List.mem_of_getElem? (i := 598) (by decide +kernel)⟩
theorem lw_p17 : lw_okq (⟨"PostalAuction$Sale", "chooseBetween", "(II)V"⟩, 11) := ⟨⟨by decide +kernel, by decide +kernel⟩, List.mem_of_getElem? (i := 201) (by decide +kernel), List.mem_of_getElem? (i := 601) (by decide +kernel), List.mem_of_getElem? (i := 602) (by decide +kernel)⟩
theorem lw_p18 : lw_okq (⟨"PostalAuction$Sale", "orderBids", "(I)V"⟩, 11) := ⟨⟨by decide +kernel, by decide +kernel⟩, List.mem_of_getElem? (i := 201) (by decide +kernel), List.mem_of_getElem? (i := 605) (by decide +kernel), List.mem_of_getElem? (i := 606) (by decide +kernel)⟩
theorem lw_p19 : lw_okq (⟨"PostalAuction$Sale", "insert", "(II)V"⟩, 11) := ⟨⟨by decide +kernel, by decide +kernel⟩, List.mem_of_getElem? (i := 201) (by decide +kernel), List.mem_of_getElem? (i := 609) (by decide +kernel), List.mem_of_getElem? (i := 610) (by decide +kernel)⟩
theorem lw_p20 : lw_okq (⟨"PostalAuction$Sale", "goesBefore", "(II)Z"⟩, 11) := ⟨⟨by decide +kernel, by decide +kernel⟩, List.mem_of_getElem? (i := 201) (by decide +kernel), List.mem_of_getElem? (i := 613) (by decide +kernel), List.mem_of_getElem? (i := 614) (by decide +kernel)⟩
theorem lw_p21 : lw_okq (⟨"PostalAuction$Sale", "sell", "(I)V"⟩, 11) := ⟨⟨by decide +kernel, by decide +kernel⟩, List.mem_of_getElem? (i := 201) (by decide +kernel), List.mem_of_getElem? (i := 617) (by decide +kernel), List.mem_of_getElem? (i := 618) (by decide +kernel)⟩
theorem lw_p22 : lw_okq (⟨"PostalAuction$Sale", "stateOf", "(II)I"⟩, 11) := ⟨⟨by decide +kernel, by decide +kernel⟩, List.mem_of_getElem? (i := 201) (by decide +kernel), List.mem_of_getElem? (i := 625) (by decide +kernel), List.mem_of_getElem? (i := 626) (by decide +kernel)⟩
theorem lw_p23 : lw_okq (⟨"PostalAuction$Sale", "priceOf", "(I)I"⟩, 11) := ⟨⟨by decide +kernel, by decide +kernel⟩, List.mem_of_getElem? (i := 201) (by decide +kernel), List.mem_of_getElem? (i := 629) (by decide +kernel), List.mem_of_getElem? (i := 630) (by decide +kernel)⟩
theorem lw_p24 : lw_okq (⟨"PostalAuction$Sale", "leastWorth", "(III)I"⟩, 11) := ⟨⟨by decide +kernel, by decide +kernel⟩, List.mem_of_getElem? (i := 201) (by decide +kernel), List.mem_of_getElem? (i := 652) (by decide +kernel), List.mem_of_getElem? (i := 653) (by decide +kernel)⟩
theorem lw_p25 : lw_okq (⟨"PostalAuction$Money", "part", "(II)I"⟩, 2) := ⟨⟨by decide +kernel, by decide +kernel⟩, List.mem_of_getElem? (i := 253) (by decide +kernel), List.mem_of_getElem? (i := 680) (by decide +kernel), List.mem_of_getElem? (i := 681) (by decide +kernel)⟩
theorem lw_p26 : lw_okq (⟨"PostalAuction$Money", "owesFee", "(I)Z"⟩, 2) := ⟨⟨by decide +kernel, by decide +kernel⟩, List.mem_of_getElem? (i := 253) (by decide +kernel), List.mem_of_getElem? (i := 684) (by decide +kernel), List.mem_of_getElem? (i := 685) (by decide +kernel)⟩
theorem lw_p27 : lw_okq (⟨"PostalAuctionModel", "bandAt", "(I)I"⟩, 18) := ⟨⟨by decide +kernel, by decide +kernel⟩, List.mem_of_getElem? (i := 723) (by decide +kernel), List.mem_of_getElem? (i := 798) (by decide +kernel), List.mem_of_getElem? (i := 799) (by decide +kernel)⟩
theorem lw_p28 : lw_okq (⟨"PostalAuctionModel", "record", "()V"⟩, 18) := ⟨⟨by decide +kernel, by decide +kernel⟩, List.mem_of_getElem? (i := 723) (by decide +kernel), List.mem_of_getElem? (i := 802) (by decide +kernel), List.mem_of_getElem? (i := 803) (by decide +kernel)⟩
theorem lw_p29 : lw_okq (⟨"PostalAuctionModel", "floorOf", "(I)I"⟩, 18) := ⟨⟨by decide +kernel, by decide +kernel⟩, List.mem_of_getElem? (i := 723) (by decide +kernel), List.mem_of_getElem? (i := 815) (by decide +kernel), List.mem_of_getElem? (i := 816) (by decide +kernel)⟩
theorem lw_p30 : lw_okq (⟨"PostalAuctionModel", "bandOf", "(I)I"⟩, 18) := ⟨⟨by decide +kernel, by decide +kernel⟩, List.mem_of_getElem? (i := 723) (by decide +kernel), List.mem_of_getElem? (i := 819) (by decide +kernel), List.mem_of_getElem? (i := 820) (by decide +kernel)⟩
theorem lw_p31 : lw_okq (⟨"PostalAuctionModel", "ceilingOf", "(I)I"⟩, 18) := ⟨⟨by decide +kernel, by decide +kernel⟩, List.mem_of_getElem? (i := 723) (by decide +kernel), List.mem_of_getElem? (i := 823) (by decide +kernel), List.mem_of_getElem? (i := 824) (by decide +kernel)⟩
def lw_privs_2 : List (MethodName × Nat) := [(⟨"PostalAuction$Sale", "hasAlternativeBought", "(II)Z"⟩, 11), (⟨"PostalAuction$Sale", "chooseBetween", "(II)V"⟩, 11), (⟨"PostalAuction$Sale", "orderBids", "(I)V"⟩, 11), (⟨"PostalAuction$Sale", "insert", "(II)V"⟩, 11), (⟨"PostalAuction$Sale", "goesBefore", "(II)Z"⟩, 11), (⟨"PostalAuction$Sale", "sell", "(I)V"⟩, 11), (⟨"PostalAuction$Sale", "stateOf", "(II)I"⟩, 11), (⟨"PostalAuction$Sale", "priceOf", "(I)I"⟩, 11), (⟨"PostalAuction$Sale", "leastWorth", "(III)I"⟩, 11), (⟨"PostalAuction$Money", "part", "(II)I"⟩, 2), (⟨"PostalAuction$Money", "owesFee", "(I)Z"⟩, 2), (⟨"PostalAuctionModel", "bandAt", "(I)I"⟩, 18), (⟨"PostalAuctionModel", "record", "()V"⟩, 18), (⟨"PostalAuctionModel", "floorOf", "(I)I"⟩, 18), (⟨"PostalAuctionModel", "bandOf", "(I)I"⟩, 18), (⟨"PostalAuctionModel", "ceilingOf", "(I)I"⟩, 18)]
theorem lw_r2 : ∀ q ∈ lw_privs_2, lw_okq q := List.forall_mem_cons.mpr ⟨lw_p16, List.forall_mem_cons.mpr ⟨lw_p17, List.forall_mem_cons.mpr ⟨lw_p18, List.forall_mem_cons.mpr ⟨lw_p19, List.forall_mem_cons.mpr ⟨lw_p20, List.forall_mem_cons.mpr ⟨lw_p21, List.forall_mem_cons.mpr ⟨lw_p22, List.forall_mem_cons.mpr ⟨lw_p23, List.forall_mem_cons.mpr ⟨lw_p24, List.forall_mem_cons.mpr ⟨lw_p25, List.forall_mem_cons.mpr ⟨lw_p26, List.forall_mem_cons.mpr ⟨lw_p27, List.forall_mem_cons.mpr ⟨lw_p28, List.forall_mem_cons.mpr ⟨lw_p29, List.forall_mem_cons.mpr ⟨lw_p30, List.forall_mem_cons.mpr ⟨lw_p31, fun _ h => absurd h List.not_mem_nil⟩⟩⟩⟩⟩⟩⟩⟩⟩⟩⟩⟩⟩⟩⟩⟩
theorem lw_p32 : lw_okq (⟨"PostalAuctionModel", "nextOf", "(I)I"⟩, 18) := ⟨⟨by decide +kernel, by decide +kernel⟩, List.mem_of_getElem? (i := 723) (by decide +kernel), List.mem_of_getElem? (i := 827) (by decide +kernel), List.mem_of_getElem? (i := 828) (by decide +kernel)⟩
theorem lw_p33 : lw_okq (⟨"PostalAuctionModel", "lots", "()I"⟩, 18) := ⟨⟨by decide +kernel, by decide +kernel⟩, List.mem_of_getElem? (i := 723) (by decide +kernel), List.mem_of_getElem? (i := 835) (by decide +kernel), List.mem_of_getElem? (i := 836) (by decide +kernel)⟩
theorem lw_p34 : lw_okq (⟨"PostalAuctionModel", "noLot", "(I)Z"⟩, 18) := ⟨⟨by decide +kernel, by decide +kernel⟩, List.mem_of_getElem? (i := 723) (by decide +kernel), List.mem_of_getElem? (i := 843) (by decide +kernel), List.mem_of_getElem? (i := 844) (by decide +kernel)⟩
theorem lw_p35 : lw_okq (⟨"PostalAuctionModel", "awayLots", "()I"⟩, 18) := ⟨⟨by decide +kernel, by decide +kernel⟩, List.mem_of_getElem? (i := 723) (by decide +kernel), List.mem_of_getElem? (i := 851) (by decide +kernel), List.mem_of_getElem? (i := 852) (by decide +kernel)⟩
theorem lw_p36 : lw_okq (⟨"PostalAuctionModel", "bidders", "()I"⟩, 18) := ⟨⟨by decide +kernel, by decide +kernel⟩, List.mem_of_getElem? (i := 723) (by decide +kernel), List.mem_of_getElem? (i := 860) (by decide +kernel), List.mem_of_getElem? (i := 861) (by decide +kernel)⟩
theorem lw_p37 : lw_okq (⟨"PostalAuctionModel", "noBidder", "(I)Z"⟩, 18) := ⟨⟨by decide +kernel, by decide +kernel⟩, List.mem_of_getElem? (i := 723) (by decide +kernel), List.mem_of_getElem? (i := 868) (by decide +kernel), List.mem_of_getElem? (i := 869) (by decide +kernel)⟩
theorem lw_p38 : lw_okq (⟨"PostalAuctionModel", "bids", "()I"⟩, 18) := ⟨⟨by decide +kernel, by decide +kernel⟩, List.mem_of_getElem? (i := 723) (by decide +kernel), List.mem_of_getElem? (i := 883) (by decide +kernel), List.mem_of_getElem? (i := 884) (by decide +kernel)⟩
theorem lw_p39 : lw_okq (⟨"PostalAuctionModel", "putBid", "(IIIII)V"⟩, 18) := ⟨⟨by decide +kernel, by decide +kernel⟩, List.mem_of_getElem? (i := 723) (by decide +kernel), List.mem_of_getElem? (i := 887) (by decide +kernel), List.mem_of_getElem? (i := 888) (by decide +kernel)⟩
theorem lw_p40 : lw_okq (⟨"PostalAuctionModel", "noBid", "(I)Z"⟩, 18) := ⟨⟨by decide +kernel, by decide +kernel⟩, List.mem_of_getElem? (i := 723) (by decide +kernel), List.mem_of_getElem? (i := 895) (by decide +kernel), List.mem_of_getElem? (i := 896) (by decide +kernel)⟩
theorem lw_p41 : lw_okq (⟨"PostalAuctionModel", "readLetter", "()V"⟩, 18) := ⟨⟨by decide +kernel, by decide +kernel⟩, List.mem_of_getElem? (i := 723) (by decide +kernel), List.mem_of_getElem? (i := 911) (by decide +kernel), List.mem_of_getElem? (i := 912) (by decide +kernel)⟩
theorem lw_p42 : lw_okq (⟨"PostalAuctionModel", "readAlternative", "(I)V"⟩, 18) := ⟨⟨by decide +kernel, by decide +kernel⟩, List.mem_of_getElem? (i := 723) (by decide +kernel), List.mem_of_getElem? (i := 915) (by decide +kernel), List.mem_of_getElem? (i := 916) (by decide +kernel)⟩
theorem lw_p43 : lw_okq (⟨"PostalAuctionModel", "number", "(IZI)I"⟩, 18) := ⟨⟨by decide +kernel, by decide +kernel⟩, List.mem_of_getElem? (i := 723) (by decide +kernel), List.mem_of_getElem? (i := 919) (by decide +kernel), List.mem_of_getElem? (i := 920) (by decide +kernel)⟩
theorem lw_p44 : lw_okq (⟨"PostalAuctionModel", "isAt", "(CC)Z"⟩, 18) := ⟨⟨by decide +kernel, by decide +kernel⟩, List.mem_of_getElem? (i := 723) (by decide +kernel), List.mem_of_getElem? (i := 923) (by decide +kernel), List.mem_of_getElem? (i := 924) (by decide +kernel)⟩
theorem lw_p45 : lw_okq (⟨"PostalAuctionModel", "sign", "(C)V"⟩, 18) := ⟨⟨by decide +kernel, by decide +kernel⟩, List.mem_of_getElem? (i := 723) (by decide +kernel), List.mem_of_getElem? (i := 927) (by decide +kernel), List.mem_of_getElem? (i := 928) (by decide +kernel)⟩
theorem lw_p46 : lw_okq (⟨"PostalAuctionModel", "hasOthers", "(I)Z"⟩, 18) := ⟨⟨by decide +kernel, by decide +kernel⟩, List.mem_of_getElem? (i := 723) (by decide +kernel), List.mem_of_getElem? (i := 934) (by decide +kernel), List.mem_of_getElem? (i := 935) (by decide +kernel)⟩
theorem lw_p47 : lw_okq (⟨"PostalAuctionModel", "hold", "()V"⟩, 18) := ⟨⟨by decide +kernel, by decide +kernel⟩, List.mem_of_getElem? (i := 723) (by decide +kernel), List.mem_of_getElem? (i := 942) (by decide +kernel), List.mem_of_getElem? (i := 943) (by decide +kernel)⟩
def lw_privs_3 : List (MethodName × Nat) := [(⟨"PostalAuctionModel", "nextOf", "(I)I"⟩, 18), (⟨"PostalAuctionModel", "lots", "()I"⟩, 18), (⟨"PostalAuctionModel", "noLot", "(I)Z"⟩, 18), (⟨"PostalAuctionModel", "awayLots", "()I"⟩, 18), (⟨"PostalAuctionModel", "bidders", "()I"⟩, 18), (⟨"PostalAuctionModel", "noBidder", "(I)Z"⟩, 18), (⟨"PostalAuctionModel", "bids", "()I"⟩, 18), (⟨"PostalAuctionModel", "putBid", "(IIIII)V"⟩, 18), (⟨"PostalAuctionModel", "noBid", "(I)Z"⟩, 18), (⟨"PostalAuctionModel", "readLetter", "()V"⟩, 18), (⟨"PostalAuctionModel", "readAlternative", "(I)V"⟩, 18), (⟨"PostalAuctionModel", "number", "(IZI)I"⟩, 18), (⟨"PostalAuctionModel", "isAt", "(CC)Z"⟩, 18), (⟨"PostalAuctionModel", "sign", "(C)V"⟩, 18), (⟨"PostalAuctionModel", "hasOthers", "(I)Z"⟩, 18), (⟨"PostalAuctionModel", "hold", "()V"⟩, 18)]
theorem lw_r3 : ∀ q ∈ lw_privs_3, lw_okq q := List.forall_mem_cons.mpr ⟨lw_p32, List.forall_mem_cons.mpr ⟨lw_p33, List.forall_mem_cons.mpr ⟨lw_p34, List.forall_mem_cons.mpr ⟨lw_p35, List.forall_mem_cons.mpr ⟨lw_p36, List.forall_mem_cons.mpr ⟨lw_p37, List.forall_mem_cons.mpr ⟨lw_p38, List.forall_mem_cons.mpr ⟨lw_p39, List.forall_mem_cons.mpr ⟨lw_p40, List.forall_mem_cons.mpr ⟨lw_p41, List.forall_mem_cons.mpr ⟨lw_p42, List.forall_mem_cons.mpr ⟨lw_p43, List.forall_mem_cons.mpr ⟨lw_p44, List.forall_mem_cons.mpr ⟨lw_p45, List.forall_mem_cons.mpr ⟨lw_p46, List.forall_mem_cons.mpr ⟨lw_p47, fun _ h => absurd h List.not_mem_nil⟩⟩⟩⟩⟩⟩⟩⟩⟩⟩⟩⟩⟩⟩⟩⟩
theorem lw_p48 : lw_okq (⟨"PostalAuctionModel", "sell", "(I)V"⟩, 18) := ⟨⟨by decide +kernel, by decide +kernel⟩, List.mem_of_getElem? (i := 723) (by decide +kernel), List.mem_of_getElem? (i := 946) (by decide +kernel), List.mem_of_getElem? (i := 947) (by decide +kernel)⟩
theorem lw_p49 : lw_okq (⟨"PostalAuctionModel", "findBest", "(I)V"⟩, 18) := ⟨⟨by decide +kernel, by decide +kernel⟩, List.mem_of_getElem? (i := 723) (by decide +kernel), List.mem_of_getElem? (i := 950) (by decide +kernel), List.mem_of_getElem? (i := 951) (by decide +kernel)⟩
theorem lw_p50 : lw_okq (⟨"PostalAuctionModel", "counts", "(I)Z"⟩, 18) := ⟨⟨by decide +kernel, by decide +kernel⟩, List.mem_of_getElem? (i := 723) (by decide +kernel), List.mem_of_getElem? (i := 954) (by decide +kernel), List.mem_of_getElem? (i := 955) (by decide +kernel)⟩
theorem lw_p51 : lw_okq (⟨"PostalAuctionModel", "isLate", "(I)Z"⟩, 18) := ⟨⟨by decide +kernel, by decide +kernel⟩, List.mem_of_getElem? (i := 723) (by decide +kernel), List.mem_of_getElem? (i := 958) (by decide +kernel), List.mem_of_getElem? (i := 959) (by decide +kernel)⟩
theorem lw_p52 : lw_okq (⟨"PostalAuctionModel", "isServed", "(I)Z"⟩, 18) := ⟨⟨by decide +kernel, by decide +kernel⟩, List.mem_of_getElem? (i := 723) (by decide +kernel), List.mem_of_getElem? (i := 962) (by decide +kernel), List.mem_of_getElem? (i := 963) (by decide +kernel)⟩
theorem lw_p53 : lw_okq (⟨"PostalAuctionModel", "worthOf", "(I)I"⟩, 18) := ⟨⟨by decide +kernel, by decide +kernel⟩, List.mem_of_getElem? (i := 723) (by decide +kernel), List.mem_of_getElem? (i := 966) (by decide +kernel), List.mem_of_getElem? (i := 967) (by decide +kernel)⟩
theorem lw_p54 : lw_okq (⟨"PostalAuctionModel", "rankedAt", "(II)I"⟩, 18) := ⟨⟨by decide +kernel, by decide +kernel⟩, List.mem_of_getElem? (i := 723) (by decide +kernel), List.mem_of_getElem? (i := 973) (by decide +kernel), List.mem_of_getElem? (i := 974) (by decide +kernel)⟩
theorem lw_p55 : lw_okq (⟨"PostalAuctionModel", "placeOf", "(II)I"⟩, 18) := ⟨⟨by decide +kernel, by decide +kernel⟩, List.mem_of_getElem? (i := 723) (by decide +kernel), List.mem_of_getElem? (i := 977) (by decide +kernel), List.mem_of_getElem? (i := 978) (by decide +kernel)⟩
theorem lw_p56 : lw_okq (⟨"PostalAuctionModel", "isAhead", "(II)Z"⟩, 18) := ⟨⟨by decide +kernel, by decide +kernel⟩, List.mem_of_getElem? (i := 723) (by decide +kernel), List.mem_of_getElem? (i := 981) (by decide +kernel), List.mem_of_getElem? (i := 982) (by decide +kernel)⟩
theorem lw_p57 : lw_okq (⟨"PostalAuctionModel", "asking", "(I)I"⟩, 18) := ⟨⟨by decide +kernel, by decide +kernel⟩, List.mem_of_getElem? (i := 723) (by decide +kernel), List.mem_of_getElem? (i := 985) (by decide +kernel), List.mem_of_getElem? (i := 986) (by decide +kernel)⟩
theorem lw_p58 : lw_okq (⟨"PostalAuctionModel", "part", "(II)I"⟩, 18) := ⟨⟨by decide +kernel, by decide +kernel⟩, List.mem_of_getElem? (i := 723) (by decide +kernel), List.mem_of_getElem? (i := 1013) (by decide +kernel), List.mem_of_getElem? (i := 1014) (by decide +kernel)⟩
theorem lw_p59 : lw_okq (⟨"PostalAuctionModel", "isSold", "(I)Z"⟩, 18) := ⟨⟨by decide +kernel, by decide +kernel⟩, List.mem_of_getElem? (i := 723) (by decide +kernel), List.mem_of_getElem? (i := 1026) (by decide +kernel), List.mem_of_getElem? (i := 1027) (by decide +kernel)⟩
theorem lw_p60 : lw_okq (⟨"PostalAuctionModel", "feeFor", "(I)I"⟩, 18) := ⟨⟨by decide +kernel, by decide +kernel⟩, List.mem_of_getElem? (i := 723) (by decide +kernel), List.mem_of_getElem? (i := 1030) (by decide +kernel), List.mem_of_getElem? (i := 1031) (by decide +kernel)⟩
def lw_privs_4 : List (MethodName × Nat) := [(⟨"PostalAuctionModel", "sell", "(I)V"⟩, 18), (⟨"PostalAuctionModel", "findBest", "(I)V"⟩, 18), (⟨"PostalAuctionModel", "counts", "(I)Z"⟩, 18), (⟨"PostalAuctionModel", "isLate", "(I)Z"⟩, 18), (⟨"PostalAuctionModel", "isServed", "(I)Z"⟩, 18), (⟨"PostalAuctionModel", "worthOf", "(I)I"⟩, 18), (⟨"PostalAuctionModel", "rankedAt", "(II)I"⟩, 18), (⟨"PostalAuctionModel", "placeOf", "(II)I"⟩, 18), (⟨"PostalAuctionModel", "isAhead", "(II)Z"⟩, 18), (⟨"PostalAuctionModel", "asking", "(I)I"⟩, 18), (⟨"PostalAuctionModel", "part", "(II)I"⟩, 18), (⟨"PostalAuctionModel", "isSold", "(I)Z"⟩, 18), (⟨"PostalAuctionModel", "feeFor", "(I)I"⟩, 18)]
theorem lw_r4 : ∀ q ∈ lw_privs_4, lw_okq q := List.forall_mem_cons.mpr ⟨lw_p48, List.forall_mem_cons.mpr ⟨lw_p49, List.forall_mem_cons.mpr ⟨lw_p50, List.forall_mem_cons.mpr ⟨lw_p51, List.forall_mem_cons.mpr ⟨lw_p52, List.forall_mem_cons.mpr ⟨lw_p53, List.forall_mem_cons.mpr ⟨lw_p54, List.forall_mem_cons.mpr ⟨lw_p55, List.forall_mem_cons.mpr ⟨lw_p56, List.forall_mem_cons.mpr ⟨lw_p57, List.forall_mem_cons.mpr ⟨lw_p58, List.forall_mem_cons.mpr ⟨lw_p59, List.forall_mem_cons.mpr ⟨lw_p60, fun _ h => absurd h List.not_mem_nil⟩⟩⟩⟩⟩⟩⟩⟩⟩⟩⟩⟩⟩
def lw_privs : List (MethodName × Nat) := lw_privs_1 ++ (lw_privs_2 ++ (lw_privs_3 ++ (lw_privs_4)))
def lw_tbl : List Cond := k2_sels lw_privs ++ tables_1
theorem lw_privs_ok : ∀ q ∈ lw_privs, lw_okq q := by
  show ∀ q ∈ lw_privs_1 ++ (lw_privs_2 ++ (lw_privs_3 ++ (lw_privs_4))), lw_okq q
  exact List.forall_mem_append.mpr ⟨lw_r1, List.forall_mem_append.mpr ⟨lw_r2, List.forall_mem_append.mpr ⟨lw_r3, lw_r4⟩⟩⟩
-- ===== end of PART A; then your names; then what follows =====
end
section
def RX0 : String := "PostalAuction$Bids"
def TX0 : u_T := fun k => match k with
  | 0 => ("PostalAuction$Bids", "bidders", "LPostalAuction$Row;", true)
  | 1 => ("PostalAuction$Bids", "lots", "LPostalAuction$Row;", true)
  | 2 => ("PostalAuction$Bids", "amounts", "LPostalAuction$Row;", true)
  | 3 => ("PostalAuction$Bids", "postmarks", "LPostalAuction$Row;", true)
  | 4 => ("PostalAuction$Bids", "groups", "LPostalAuction$Row;", true)
  | 5 => ("PostalAuction$Bids", "withdrawn", "LPostalAuction$Row;", true)
  | _ => ("PostalAuction$Bids", "size", "I", false)
def tyX0 : Nat → FieldType := fun k => match k with
  | 0 => .object "PostalAuction$Row"
  | 1 => .object "PostalAuction$Row"
  | 2 => .object "PostalAuction$Row"
  | 3 => .object "PostalAuction$Row"
  | 4 => .object "PostalAuction$Row"
  | 5 => .object "PostalAuction$Row"
  | _ => .int
abbrev wsX00 : List Cond := u_ws RX0 TX0 7
theorem nmX0 : ∀ a, a < 7 → ∀ b, b < 7 → a ≠ b → (TX0 a).2.1 ≠ (TX0 b).2.1 := by decide +kernel
theorem tyX0_ok : ∀ k, k < 7 → parseFieldDescriptor (TX0 k).2.2.1 = some (tyX0 k) := by decide +kernel
abbrev cX0_init : ByteArray := prog_2_method_1_code
def yX0_init : MethodName := ⟨RX0, "<init>", "()V"⟩
abbrev cX0_copy : ByteArray := prog_2_method_2_code
def yX0_copy : MethodName := ⟨RX0, "copy", "(LPostalAuction$Bids;)V"⟩
abbrev cX0_add : ByteArray := prog_2_method_3_code
def yX0_add : MethodName := ⟨RX0, "add", "(IIIII)I"⟩
abbrev cX0_freeGroup : ByteArray := prog_2_method_4_code
def yX0_freeGroup : MethodName := ⟨RX0, "freeGroup", "(I)I"⟩
def RX1 : String := "PostalAuction$History"
def TX1 : u_T := fun k => match k with
  | 0 => ("PostalAuction$History", "states", "[LPostalAuction$State;", true)
  | _ => ("PostalAuction$History", "size", "I", false)
def tyX1 : Nat → FieldType := fun k => match k with
  | 0 => .array (.object "PostalAuction$State")
  | _ => .int
abbrev wsX10 : List Cond := u_ws RX1 TX1 2
theorem nmX1 : ∀ a, a < 2 → ∀ b, b < 2 → a ≠ b → (TX1 a).2.1 ≠ (TX1 b).2.1 := by decide +kernel
theorem tyX1_ok : ∀ k, k < 2 → parseFieldDescriptor (TX1 k).2.2.1 = some (tyX1 k) := by decide +kernel
abbrev cX1_init : ByteArray := prog_3_method_1_code
def yX1_init : MethodName := ⟨RX1, "<init>", "()V"⟩
abbrev cX1_keep : ByteArray := prog_3_method_2_code
def yX1_keep : MethodName := ⟨RX1, "keep", "(LPostalAuction$State;)V"⟩
abbrev cX1_restore : ByteArray := prog_3_method_3_code
def yX1_restore : MethodName := ⟨RX1, "restore", "(LPostalAuction$State;)V"⟩
abbrev cX1_dropOldest : ByteArray := prog_3_method_4_code
def yX1_dropOldest : MethodName := ⟨RX1, "dropOldest", "()V"⟩
def RX2 : String := "PostalAuction$Letter"
def TX2 : u_T := fun k => match k with
  | 0 => ("PostalAuction$Letter", "signs", "[C", true)
  | 1 => ("PostalAuction$Letter", "length", "I", false)
  | 2 => ("PostalAuction$Letter", "lots", "LPostalAuction$Row;", true)
  | 3 => ("PostalAuction$Letter", "amounts", "LPostalAuction$Row;", true)
  | 4 => ("PostalAuction$Letter", "wishes", "LPostalAuction$Row;", true)
  | 5 => ("PostalAuction$Letter", "told", "I", false)
  | 6 => ("PostalAuction$Letter", "wish", "I", false)
  | 7 => ("PostalAuction$Letter", "isInAmount", "Z", false)
  | 8 => ("PostalAuction$Letter", "number", "I", false)
  | _ => ("PostalAuction$Letter", "digits", "I", false)
def tyX2 : Nat → FieldType := fun k => match k with
  | 0 => .array .char
  | 1 => .int
  | 2 => .object "PostalAuction$Row"
  | 3 => .object "PostalAuction$Row"
  | 4 => .object "PostalAuction$Row"
  | 5 => .int
  | 6 => .int
  | 7 => .boolean
  | 8 => .int
  | _ => .int
abbrev wsX20 : List Cond := u_ws RX2 TX2 10
theorem nmX2 : ∀ a, a < 10 → ∀ b, b < 10 → a ≠ b → (TX2 a).2.1 ≠ (TX2 b).2.1 := by decide +kernel
theorem tyX2_ok : ∀ k, k < 10 → parseFieldDescriptor (TX2 k).2.2.1 = some (tyX2 k) := by decide +kernel
abbrev cX2_init : ByteArray := prog_4_method_1_code
def yX2_init : MethodName := ⟨RX2, "<init>", "()V"⟩
abbrev cX2_append : ByteArray := prog_4_method_2_code
def yX2_append : MethodName := ⟨RX2, "append", "(C)Z"⟩
abbrev cX2_isInOneWish : ByteArray := prog_4_method_3_code
def yX2_isInOneWish : MethodName := ⟨RX2, "isInOneWish", "(II)Z"⟩
abbrev cX2_read : ByteArray := prog_4_method_4_code
def yX2_read : MethodName := ⟨RX2, "read", "(I)I"⟩
abbrev cX2_startNumber : ByteArray := prog_4_method_5_code
def yX2_startNumber : MethodName := ⟨RX2, "startNumber", "()V"⟩
abbrev cX2_readDigit : ByteArray := prog_4_method_6_code
def yX2_readDigit : MethodName := ⟨RX2, "readDigit", "(II)I"⟩
abbrev cX2_readMark : ByteArray := prog_4_method_7_code
def yX2_readMark : MethodName := ⟨RX2, "readMark", "(CII)I"⟩
abbrev cX2_readEnd : ByteArray := prog_4_method_8_code
def yX2_readEnd : MethodName := ⟨RX2, "readEnd", "(I)I"⟩
abbrev cX2_isTooGreat : ByteArray := prog_4_method_9_code
def yX2_isTooGreat : MethodName := ⟨RX2, "isTooGreat", "(I)Z"⟩
abbrev cX2_takeNumber : ByteArray := prog_4_method_10_code
def yX2_takeNumber : MethodName := ⟨RX2, "takeNumber", "()V"⟩
def RX3 : String := "PostalAuction$Lots"
def TX3 : u_T := fun k => match k with
  | 0 => ("PostalAuction$Lots", "sellers", "LPostalAuction$Row;", true)
  | 1 => ("PostalAuction$Lots", "starts", "LPostalAuction$Row;", true)
  | 2 => ("PostalAuction$Lots", "reserves", "LPostalAuction$Row;", true)
  | 3 => ("PostalAuction$Lots", "withdrawn", "LPostalAuction$Row;", true)
  | _ => ("PostalAuction$Lots", "size", "I", false)
def tyX3 : Nat → FieldType := fun k => match k with
  | 0 => .object "PostalAuction$Row"
  | 1 => .object "PostalAuction$Row"
  | 2 => .object "PostalAuction$Row"
  | 3 => .object "PostalAuction$Row"
  | _ => .int
abbrev wsX30 : List Cond := u_ws RX3 TX3 5
theorem nmX3 : ∀ a, a < 5 → ∀ b, b < 5 → a ≠ b → (TX3 a).2.1 ≠ (TX3 b).2.1 := by decide +kernel
theorem tyX3_ok : ∀ k, k < 5 → parseFieldDescriptor (TX3 k).2.2.1 = some (tyX3 k) := by decide +kernel
abbrev cX3_init : ByteArray := prog_5_method_1_code
def yX3_init : MethodName := ⟨RX3, "<init>", "()V"⟩
abbrev cX3_copy : ByteArray := prog_5_method_2_code
def yX3_copy : MethodName := ⟨RX3, "copy", "(LPostalAuction$Lots;)V"⟩
abbrev cX3_add : ByteArray := prog_5_method_3_code
def yX3_add : MethodName := ⟨RX3, "add", "(III)I"⟩
def RX4 : String := "PostalAuction$Money"
def TX4 : u_T := fun k => match k with
  | 0 => ("PostalAuction$Money", "now", "LPostalAuction$State;", true)
  | _ => ("PostalAuction$Money", "outcome", "LPostalAuction$Sale;", true)
def tyX4 : Nat → FieldType := fun k => match k with
  | 0 => .object "PostalAuction$State"
  | _ => .object "PostalAuction$Sale"
abbrev wsX40 : List Cond := u_ws RX4 TX4 2
theorem nmX4 : ∀ a, a < 2 → ∀ b, b < 2 → a ≠ b → (TX4 a).2.1 ≠ (TX4 b).2.1 := by decide +kernel
theorem tyX4_ok : ∀ k, k < 2 → parseFieldDescriptor (TX4 k).2.2.1 = some (tyX4 k) := by decide +kernel
abbrev cX4_init : ByteArray := prog_6_method_1_code
def yX4_init : MethodName := ⟨RX4, "<init>", "(LPostalAuction$State;LPostalAuction$Sale;)V"⟩
abbrev cX4_paidBy : ByteArray := prog_6_method_2_code
def yX4_paidBy : MethodName := ⟨RX4, "paidBy", "(I)I"⟩
abbrev cX4_total : ByteArray := prog_6_method_3_code
def yX4_total : MethodName := ⟨RX4, "total", "(II)J"⟩
abbrev cX4_payments : ByteArray := prog_6_method_4_code
def yX4_payments : MethodName := ⟨RX4, "payments", "()J"⟩
abbrev cX4_receipts : ByteArray := prog_6_method_5_code
def yX4_receipts : MethodName := ⟨RX4, "receipts", "(I)J"⟩
abbrev cX4_part : ByteArray := prog_6_method_6_code
def yX4_part : MethodName := ⟨RX4, "part", "(II)I"⟩
abbrev cX4_owesFee : ByteArray := prog_6_method_7_code
def yX4_owesFee : MethodName := ⟨RX4, "owesFee", "(I)Z"⟩
def RX5 : String := "PostalAuction$Row"
def TX5 : u_T := fun k => match k with
  | _ => ("PostalAuction$Row", "cells", "[I", true)
def tyX5 : Nat → FieldType := fun k => match k with
  | _ => .array .int
abbrev wsX50 : List Cond := u_ws RX5 TX5 1
theorem nmX5 : ∀ a, a < 1 → ∀ b, b < 1 → a ≠ b → (TX5 a).2.1 ≠ (TX5 b).2.1 := by decide +kernel
theorem tyX5_ok : ∀ k, k < 1 → parseFieldDescriptor (TX5 k).2.2.1 = some (tyX5 k) := by decide +kernel
abbrev cX5_init : ByteArray := prog_7_method_1_code
def yX5_init : MethodName := ⟨RX5, "<init>", "(I)V"⟩
abbrev cX5_get : ByteArray := prog_7_method_2_code
def yX5_get : MethodName := ⟨RX5, "get", "(I)I"⟩
abbrev cX5_put : ByteArray := prog_7_method_3_code
def yX5_put : MethodName := ⟨RX5, "put", "(II)V"⟩
abbrev cX5_copy : ByteArray := prog_7_method_4_code
def yX5_copy : MethodName := ⟨RX5, "copy", "(LPostalAuction$Row;)V"⟩
abbrev cX5_sum : ByteArray := prog_7_method_5_code
def yX5_sum : MethodName := ⟨RX5, "sum", "(I)I"⟩
abbrev cX5_countOf : ByteArray := prog_7_method_6_code
def yX5_countOf : MethodName := ⟨RX5, "countOf", "(II)I"⟩
def RX6 : String := "PostalAuction$Sale"
def TX6 : u_T := fun k => match k with
  | 0 => ("PostalAuction$Sale", "now", "LPostalAuction$State;", true)
  | 1 => ("PostalAuction$Sale", "buyers", "LPostalAuction$Row;", true)
  | 2 => ("PostalAuction$Sale", "prices", "LPostalAuction$Row;", true)
  | 3 => ("PostalAuction$Sale", "states", "LPostalAuction$Row;", true)
  | 4 => ("PostalAuction$Sale", "counts", "LPostalAuction$Row;", true)
  | 5 => ("PostalAuction$Sale", "askingPrices", "LPostalAuction$Row;", true)
  | 6 => ("PostalAuction$Sale", "order", "LPostalAuction$Row;", true)
  | 7 => ("PostalAuction$Sale", "worths", "LPostalAuction$Row;", true)
  | 8 => ("PostalAuction$Sale", "fates", "LPostalAuction$Row;", true)
  | 9 => ("PostalAuction$Sale", "bestBids", "LPostalAuction$Row;", true)
  | _ => ("PostalAuction$Sale", "isHeld", "Z", false)
def tyX6 : Nat → FieldType := fun k => match k with
  | 0 => .object "PostalAuction$State"
  | 1 => .object "PostalAuction$Row"
  | 2 => .object "PostalAuction$Row"
  | 3 => .object "PostalAuction$Row"
  | 4 => .object "PostalAuction$Row"
  | 5 => .object "PostalAuction$Row"
  | 6 => .object "PostalAuction$Row"
  | 7 => .object "PostalAuction$Row"
  | 8 => .object "PostalAuction$Row"
  | 9 => .object "PostalAuction$Row"
  | _ => .boolean
abbrev wsX60 : List Cond := u_ws RX6 TX6 11
theorem nmX6 : ∀ a, a < 11 → ∀ b, b < 11 → a ≠ b → (TX6 a).2.1 ≠ (TX6 b).2.1 := by decide +kernel
theorem tyX6_ok : ∀ k, k < 11 → parseFieldDescriptor (TX6 k).2.2.1 = some (tyX6 k) := by decide +kernel
abbrev cX6_init : ByteArray := prog_8_method_1_code
def yX6_init : MethodName := ⟨RX6, "<init>", "(LPostalAuction$State;)V"⟩
abbrev cX6_hold : ByteArray := prog_8_method_2_code
def yX6_hold : MethodName := ⟨RX6, "hold", "()V"⟩
abbrev cX6_bidAt : ByteArray := prog_8_method_3_code
def yX6_bidAt : MethodName := ⟨RX6, "bidAt", "(II)I"⟩
abbrev cX6_leftBefore : ByteArray := prog_8_method_4_code
def yX6_leftBefore : MethodName := ⟨RX6, "leftBefore", "(II)I"⟩
abbrev cX6_soldLots : ByteArray := prog_8_method_5_code
def yX6_soldLots : MethodName := ⟨RX6, "soldLots", "(I)I"⟩
abbrev cX6_judgeBids : ByteArray := prog_8_method_6_code
def yX6_judgeBids : MethodName := ⟨RX6, "judgeBids", "(I)V"⟩
abbrev cX6_judge : ByteArray := prog_8_method_7_code
def yX6_judge : MethodName := ⟨RX6, "judge", "(II)V"⟩
abbrev cX6_reasonAgainst : ByteArray := prog_8_method_8_code
def yX6_reasonAgainst : MethodName := ⟨RX6, "reasonAgainst", "(II)I"⟩
abbrev cX6_hasAlternativeBought : ByteArray := prog_8_method_9_code
def yX6_hasAlternativeBought : MethodName := ⟨RX6, "hasAlternativeBought", "(II)Z"⟩
abbrev cX6_chooseBetween : ByteArray := prog_8_method_10_code
def yX6_chooseBetween : MethodName := ⟨RX6, "chooseBetween", "(II)V"⟩
abbrev cX6_orderBids : ByteArray := prog_8_method_11_code
def yX6_orderBids : MethodName := ⟨RX6, "orderBids", "(I)V"⟩
abbrev cX6_insert : ByteArray := prog_8_method_12_code
def yX6_insert : MethodName := ⟨RX6, "insert", "(II)V"⟩
abbrev cX6_goesBefore : ByteArray := prog_8_method_13_code
def yX6_goesBefore : MethodName := ⟨RX6, "goesBefore", "(II)Z"⟩
abbrev cX6_sell : ByteArray := prog_8_method_14_code
def yX6_sell : MethodName := ⟨RX6, "sell", "(I)V"⟩
abbrev cX6_stateOf : ByteArray := prog_8_method_15_code
def yX6_stateOf : MethodName := ⟨RX6, "stateOf", "(II)I"⟩
abbrev cX6_priceOf : ByteArray := prog_8_method_16_code
def yX6_priceOf : MethodName := ⟨RX6, "priceOf", "(I)I"⟩
abbrev cX6_leastAmount : ByteArray := prog_8_method_17_code
def yX6_leastAmount : MethodName := ⟨RX6, "leastAmount", "(III)I"⟩
abbrev cX6_leastWorth : ByteArray := prog_8_method_18_code
def yX6_leastWorth : MethodName := ⟨RX6, "leastWorth", "(III)I"⟩
def RX7 : String := "PostalAuction$State"
def TX7 : u_T := fun k => match k with
  | 0 => ("PostalAuction$State", "steps", "LPostalAuction$Steps;", true)
  | 1 => ("PostalAuction$State", "lots", "LPostalAuction$Lots;", true)
  | 2 => ("PostalAuction$State", "limits", "LPostalAuction$Row;", true)
  | 3 => ("PostalAuction$State", "bidders", "I", false)
  | 4 => ("PostalAuction$State", "bids", "LPostalAuction$Bids;", true)
  | _ => ("PostalAuction$State", "settings", "LPostalAuction$Row;", true)
def tyX7 : Nat → FieldType := fun k => match k with
  | 0 => .object "PostalAuction$Steps"
  | 1 => .object "PostalAuction$Lots"
  | 2 => .object "PostalAuction$Row"
  | 3 => .int
  | 4 => .object "PostalAuction$Bids"
  | _ => .object "PostalAuction$Row"
abbrev wsX70 : List Cond := u_ws RX7 TX7 6
theorem nmX7 : ∀ a, a < 6 → ∀ b, b < 6 → a ≠ b → (TX7 a).2.1 ≠ (TX7 b).2.1 := by decide +kernel
theorem tyX7_ok : ∀ k, k < 6 → parseFieldDescriptor (TX7 k).2.2.1 = some (tyX7 k) := by decide +kernel
abbrev cX7_init : ByteArray := prog_9_method_1_code
def yX7_init : MethodName := ⟨RX7, "<init>", "()V"⟩
abbrev cX7_copy : ByteArray := prog_9_method_2_code
def yX7_copy : MethodName := ⟨RX7, "copy", "(LPostalAuction$State;)V"⟩
abbrev cX7_askingPrice : ByteArray := prog_9_method_3_code
def yX7_askingPrice : MethodName := ⟨RX7, "askingPrice", "(I)I"⟩
abbrev cX7_isLate : ByteArray := prog_9_method_4_code
def yX7_isLate : MethodName := ⟨RX7, "isLate", "(I)Z"⟩
abbrev cX7_lateBids : ByteArray := prog_9_method_5_code
def yX7_lateBids : MethodName := ⟨RX7, "lateBids", "()I"⟩
def RX8 : String := "PostalAuction$Steps"
def TX8 : u_T := fun k => match k with
  | 0 => ("PostalAuction$Steps", "beginnings", "LPostalAuction$Row;", true)
  | 1 => ("PostalAuction$Steps", "widths", "LPostalAuction$Row;", true)
  | _ => ("PostalAuction$Steps", "size", "I", false)
def tyX8 : Nat → FieldType := fun k => match k with
  | 0 => .object "PostalAuction$Row"
  | 1 => .object "PostalAuction$Row"
  | _ => .int
abbrev wsX80 : List Cond := u_ws RX8 TX8 3
theorem nmX8 : ∀ a, a < 3 → ∀ b, b < 3 → a ≠ b → (TX8 a).2.1 ≠ (TX8 b).2.1 := by decide +kernel
theorem tyX8_ok : ∀ k, k < 3 → parseFieldDescriptor (TX8 k).2.2.1 = some (tyX8 k) := by decide +kernel
abbrev cX8_init : ByteArray := prog_10_method_1_code
def yX8_init : MethodName := ⟨RX8, "<init>", "()V"⟩
abbrev cX8_copy : ByteArray := prog_10_method_2_code
def yX8_copy : MethodName := ⟨RX8, "copy", "(LPostalAuction$Steps;)V"⟩
abbrev cX8_hasBand : ByteArray := prog_10_method_3_code
def yX8_hasBand : MethodName := ⟨RX8, "hasBand", "(I)Z"⟩
abbrev cX8_hasRoomFor : ByteArray := prog_10_method_4_code
def yX8_hasRoomFor : MethodName := ⟨RX8, "hasRoomFor", "(I)Z"⟩
abbrev cX8_putBand : ByteArray := prog_10_method_5_code
def yX8_putBand : MethodName := ⟨RX8, "putBand", "(II)V"⟩
abbrev cX8_dropBand : ByteArray := prog_10_method_6_code
def yX8_dropBand : MethodName := ⟨RX8, "dropBand", "(I)V"⟩
abbrev cX8_placeOf : ByteArray := prog_10_method_7_code
def yX8_placeOf : MethodName := ⟨RX8, "placeOf", "(I)I"⟩
abbrev cX8_bandOf : ByteArray := prog_10_method_8_code
def yX8_bandOf : MethodName := ⟨RX8, "bandOf", "(I)I"⟩
abbrev cX8_floor : ByteArray := prog_10_method_9_code
def yX8_floor : MethodName := ⟨RX8, "floor", "(I)I"⟩
abbrev cX8_ceiling : ByteArray := prog_10_method_10_code
def yX8_ceiling : MethodName := ⟨RX8, "ceiling", "(I)I"⟩
abbrev cX8_next : ByteArray := prog_10_method_11_code
def yX8_next : MethodName := ⟨RX8, "next", "(I)I"⟩
def RX9 : String := "PostalAuction"
def TX9 : u_T := fun k => match k with
  | 0 => ("PostalAuction", "now", "LPostalAuction$State;", true)
  | 1 => ("PostalAuction", "history", "LPostalAuction$History;", true)
  | 2 => ("PostalAuction", "outcome", "LPostalAuction$Sale;", true)
  | 3 => ("PostalAuction", "money", "LPostalAuction$Money;", true)
  | _ => ("PostalAuction", "text", "LPostalAuction$Letter;", true)
def tyX9 : Nat → FieldType := fun k => match k with
  | 0 => .object "PostalAuction$State"
  | 1 => .object "PostalAuction$History"
  | 2 => .object "PostalAuction$Sale"
  | 3 => .object "PostalAuction$Money"
  | _ => .object "PostalAuction$Letter"
abbrev wsX90 : List Cond := u_ws RX9 TX9 5
theorem nmX9 : ∀ a, a < 5 → ∀ b, b < 5 → a ≠ b → (TX9 a).2.1 ≠ (TX9 b).2.1 := by decide +kernel
theorem tyX9_ok : ∀ k, k < 5 → parseFieldDescriptor (TX9 k).2.2.1 = some (tyX9 k) := by decide +kernel
abbrev cX9_init : ByteArray := prog_1_method_1_code
def yX9_init : MethodName := ⟨RX9, "<init>", "()V"⟩
abbrev cX9_setBand : ByteArray := prog_1_method_2_code
def yX9_setBand : MethodName := ⟨RX9, "setBand", "(II)I"⟩
abbrev cX9_removeBand : ByteArray := prog_1_method_3_code
def yX9_removeBand : MethodName := ⟨RX9, "removeBand", "(I)I"⟩
abbrev cX9_valid : ByteArray := prog_1_method_4_code
def yX9_valid : MethodName := ⟨RX9, "valid", "(II)I"⟩
abbrev cX9_addLot : ByteArray := prog_1_method_5_code
def yX9_addLot : MethodName := ⟨RX9, "addLot", "(III)I"⟩
abbrev cX9_setReserve : ByteArray := prog_1_method_6_code
def yX9_setReserve : MethodName := ⟨RX9, "setReserve", "(II)I"⟩
abbrev cX9_withdrawLot : ByteArray := prog_1_method_7_code
def yX9_withdrawLot : MethodName := ⟨RX9, "withdrawLot", "(IZ)I"⟩
abbrev cX9_addBidder : ByteArray := prog_1_method_8_code
def yX9_addBidder : MethodName := ⟨RX9, "addBidder", "(I)I"⟩
abbrev cX9_setLimit : ByteArray := prog_1_method_9_code
def yX9_setLimit : MethodName := ⟨RX9, "setLimit", "(II)I"⟩
abbrev cX9_set : ByteArray := prog_1_method_10_code
def yX9_set : MethodName := ⟨RX9, "set", "(II)I"⟩
abbrev cX9_bid : ByteArray := prog_1_method_11_code
def yX9_bid : MethodName := ⟨RX9, "bid", "(IIIII)I"⟩
abbrev cX9_withdrawBid : ByteArray := prog_1_method_12_code
def yX9_withdrawBid : MethodName := ⟨RX9, "withdrawBid", "(I)I"⟩
abbrev cX9_type : ByteArray := prog_1_method_13_code
def yX9_type : MethodName := ⟨RX9, "type", "(C)I"⟩
abbrev cX9_clearText : ByteArray := prog_1_method_14_code
def yX9_clearText : MethodName := ⟨RX9, "clearText", "()I"⟩
abbrev cX9_letter : ByteArray := prog_1_method_15_code
def yX9_letter : MethodName := ⟨RX9, "letter", "(II)I"⟩
abbrev cX9_undo : ByteArray := prog_1_method_16_code
def yX9_undo : MethodName := ⟨RX9, "undo", "()I"⟩
abbrev cX9_sale : ByteArray := prog_1_method_17_code
def yX9_sale : MethodName := ⟨RX9, "sale", "(II)I"⟩
abbrev cX9_ranked : ByteArray := prog_1_method_18_code
def yX9_ranked : MethodName := ⟨RX9, "ranked", "(II)I"⟩
abbrev cX9_fate : ByteArray := prog_1_method_19_code
def yX9_fate : MethodName := ⟨RX9, "fate", "(I)I"⟩
abbrev cX9_needed : ByteArray := prog_1_method_20_code
def yX9_needed : MethodName := ⟨RX9, "needed", "(III)I"⟩
abbrev cX9_lot : ByteArray := prog_1_method_21_code
def yX9_lot : MethodName := ⟨RX9, "lot", "(II)I"⟩
abbrev cX9_bidOf : ByteArray := prog_1_method_22_code
def yX9_bidOf : MethodName := ⟨RX9, "bidOf", "(II)I"⟩
abbrev cX9_bidder : ByteArray := prog_1_method_23_code
def yX9_bidder : MethodName := ⟨RX9, "bidder", "(II)I"⟩
abbrev cX9_seller : ByteArray := prog_1_method_24_code
def yX9_seller : MethodName := ⟨RX9, "seller", "(II)J"⟩
abbrev cX9_account : ByteArray := prog_1_method_25_code
def yX9_account : MethodName := ⟨RX9, "account", "(I)J"⟩
abbrev cX9_count : ByteArray := prog_1_method_26_code
def yX9_count : MethodName := ⟨RX9, "count", "(I)I"⟩
abbrev cX9_isOutside : ByteArray := prog_1_method_27_code
def yX9_isOutside : MethodName := ⟨RX9, "isOutside", "(III)Z"⟩
abbrev cX9_mostOfSetting : ByteArray := prog_1_method_28_code
def yX9_mostOfSetting : MethodName := ⟨RX9, "mostOfSetting", "(I)I"⟩
abbrev cX9_isLot : ByteArray := prog_1_method_29_code
def yX9_isLot : MethodName := ⟨RX9, "isLot", "(I)Z"⟩
abbrev cX9_isBidder : ByteArray := prog_1_method_30_code
def yX9_isBidder : MethodName := ⟨RX9, "isBidder", "(I)Z"⟩
abbrev cX9_isBid : ByteArray := prog_1_method_31_code
def yX9_isBid : MethodName := ⟨RX9, "isBid", "(I)Z"⟩
abbrev cX9_beginAct : ByteArray := prog_1_method_32_code
def yX9_beginAct : MethodName := ⟨RX9, "beginAct", "()V"⟩
def RX10 : String := "PostalAuctionModel"
def TX10 : u_T := fun k => match k with
  | 0 => ("PostalAuctionModel", "row", "[I", true)
  | 1 => ("PostalAuctionModel", "history", "[I", true)
  | 2 => ("PostalAuctionModel", "kept", "I", false)
  | 3 => ("PostalAuctionModel", "typed", "I", false)
  | 4 => ("PostalAuctionModel", "text", "[C", true)
  | 5 => ("PostalAuctionModel", "place", "I", false)
  | 6 => ("PostalAuctionModel", "isGood", "Z", false)
  | 7 => ("PostalAuctionModel", "read", "I", false)
  | 8 => ("PostalAuctionModel", "readLot", "[I", true)
  | 9 => ("PostalAuctionModel", "readAmount", "[I", true)
  | 10 => ("PostalAuctionModel", "readWish", "[I", true)
  | 11 => ("PostalAuctionModel", "leftAt", "[I", true)
  | 12 => ("PostalAuctionModel", "bestOf", "[I", true)
  | 13 => ("PostalAuctionModel", "firstOf", "[I", true)
  | 14 => ("PostalAuctionModel", "secondOf", "[I", true)
  | 15 => ("PostalAuctionModel", "manyOf", "[I", true)
  | 16 => ("PostalAuctionModel", "buyerOf", "[I", true)
  | _ => ("PostalAuctionModel", "priceOf", "[I", true)
def tyX10 : Nat → FieldType := fun k => match k with
  | 0 => .array .int
  | 1 => .array .int
  | 2 => .int
  | 3 => .int
  | 4 => .array .char
  | 5 => .int
  | 6 => .boolean
  | 7 => .int
  | 8 => .array .int
  | 9 => .array .int
  | 10 => .array .int
  | 11 => .array .int
  | 12 => .array .int
  | 13 => .array .int
  | 14 => .array .int
  | 15 => .array .int
  | 16 => .array .int
  | _ => .array .int
abbrev wsX100 : List Cond := u_ws RX10 TX10 18
theorem nmX10 : ∀ a, a < 18 → ∀ b, b < 18 → a ≠ b → (TX10 a).2.1 ≠ (TX10 b).2.1 := by decide +kernel
theorem tyX10_ok : ∀ k, k < 18 → parseFieldDescriptor (TX10 k).2.2.1 = some (tyX10 k) := by decide +kernel
abbrev cX10_init : ByteArray := prog_12_method_1_code
def yX10_init : MethodName := ⟨RX10, "<init>", "()V"⟩
abbrev cX10_in : ByteArray := prog_12_method_2_code
def yX10_in : MethodName := ⟨RX10, "in", "(III)Z"⟩
abbrev cX10_lost : ByteArray := prog_12_method_3_code
def yX10_lost : MethodName := ⟨RX10, "lost", "()J"⟩
abbrev cX10_greater : ByteArray := prog_12_method_4_code
def yX10_greater : MethodName := ⟨RX10, "greater", "(II)I"⟩
abbrev cX10_lesser : ByteArray := prog_12_method_5_code
def yX10_lesser : MethodName := ⟨RX10, "lesser", "(II)I"⟩
abbrev cX10_lots : ByteArray := prog_12_method_6_code
def yX10_lots : MethodName := ⟨RX10, "lots", "()I"⟩
abbrev cX10_bidders : ByteArray := prog_12_method_7_code
def yX10_bidders : MethodName := ⟨RX10, "bidders", "()I"⟩
abbrev cX10_bids : ByteArray := prog_12_method_8_code
def yX10_bids : MethodName := ⟨RX10, "bids", "()I"⟩
abbrev cX10_noLot : ByteArray := prog_12_method_9_code
def yX10_noLot : MethodName := ⟨RX10, "noLot", "(I)Z"⟩
abbrev cX10_noBidder : ByteArray := prog_12_method_10_code
def yX10_noBidder : MethodName := ⟨RX10, "noBidder", "(I)Z"⟩
abbrev cX10_noBid : ByteArray := prog_12_method_11_code
def yX10_noBid : MethodName := ⟨RX10, "noBid", "(I)Z"⟩
abbrev cX10_record : ByteArray := prog_12_method_12_code
def yX10_record : MethodName := ⟨RX10, "record", "()V"⟩
abbrev cX10_undo : ByteArray := prog_12_method_13_code
def yX10_undo : MethodName := ⟨RX10, "undo", "()I"⟩
abbrev cX10_bandAt : ByteArray := prog_12_method_14_code
def yX10_bandAt : MethodName := ⟨RX10, "bandAt", "(I)I"⟩
abbrev cX10_setBand : ByteArray := prog_12_method_15_code
def yX10_setBand : MethodName := ⟨RX10, "setBand", "(II)I"⟩
abbrev cX10_removeBand : ByteArray := prog_12_method_16_code
def yX10_removeBand : MethodName := ⟨RX10, "removeBand", "(I)I"⟩
abbrev cX10_bandOf : ByteArray := prog_12_method_17_code
def yX10_bandOf : MethodName := ⟨RX10, "bandOf", "(I)I"⟩
abbrev cX10_floorOf : ByteArray := prog_12_method_18_code
def yX10_floorOf : MethodName := ⟨RX10, "floorOf", "(I)I"⟩
abbrev cX10_nextOf : ByteArray := prog_12_method_19_code
def yX10_nextOf : MethodName := ⟨RX10, "nextOf", "(I)I"⟩
abbrev cX10_ceilingOf : ByteArray := prog_12_method_20_code
def yX10_ceilingOf : MethodName := ⟨RX10, "ceilingOf", "(I)I"⟩
abbrev cX10_valid : ByteArray := prog_12_method_21_code
def yX10_valid : MethodName := ⟨RX10, "valid", "(II)I"⟩
abbrev cX10_addLot : ByteArray := prog_12_method_22_code
def yX10_addLot : MethodName := ⟨RX10, "addLot", "(III)I"⟩
abbrev cX10_setReserve : ByteArray := prog_12_method_23_code
def yX10_setReserve : MethodName := ⟨RX10, "setReserve", "(II)I"⟩
abbrev cX10_awayLots : ByteArray := prog_12_method_24_code
def yX10_awayLots : MethodName := ⟨RX10, "awayLots", "()I"⟩
abbrev cX10_withdrawLot : ByteArray := prog_12_method_25_code
def yX10_withdrawLot : MethodName := ⟨RX10, "withdrawLot", "(IZ)I"⟩
abbrev cX10_addBidder : ByteArray := prog_12_method_26_code
def yX10_addBidder : MethodName := ⟨RX10, "addBidder", "(I)I"⟩
abbrev cX10_setLimit : ByteArray := prog_12_method_27_code
def yX10_setLimit : MethodName := ⟨RX10, "setLimit", "(II)I"⟩
abbrev cX10_set : ByteArray := prog_12_method_28_code
def yX10_set : MethodName := ⟨RX10, "set", "(II)I"⟩
abbrev cX10_putBid : ByteArray := prog_12_method_29_code
def yX10_putBid : MethodName := ⟨RX10, "putBid", "(IIIII)V"⟩
abbrev cX10_isMark : ByteArray := prog_12_method_30_code
def yX10_isMark : MethodName := ⟨RX10, "isMark", "(I)Z"⟩
abbrev cX10_bid : ByteArray := prog_12_method_31_code
def yX10_bid : MethodName := ⟨RX10, "bid", "(IIIII)I"⟩
abbrev cX10_withdrawBid : ByteArray := prog_12_method_32_code
def yX10_withdrawBid : MethodName := ⟨RX10, "withdrawBid", "(I)I"⟩
abbrev cX10_type : ByteArray := prog_12_method_33_code
def yX10_type : MethodName := ⟨RX10, "type", "(C)I"⟩
abbrev cX10_clearText : ByteArray := prog_12_method_34_code
def yX10_clearText : MethodName := ⟨RX10, "clearText", "()I"⟩
abbrev cX10_isAt : ByteArray := prog_12_method_35_code
def yX10_isAt : MethodName := ⟨RX10, "isAt", "(CC)Z"⟩
abbrev cX10_number : ByteArray := prog_12_method_36_code
def yX10_number : MethodName := ⟨RX10, "number", "(IZI)I"⟩
abbrev cX10_sign : ByteArray := prog_12_method_37_code
def yX10_sign : MethodName := ⟨RX10, "sign", "(C)V"⟩
abbrev cX10_readAlternative : ByteArray := prog_12_method_38_code
def yX10_readAlternative : MethodName := ⟨RX10, "readAlternative", "(I)V"⟩
abbrev cX10_readLetter : ByteArray := prog_12_method_39_code
def yX10_readLetter : MethodName := ⟨RX10, "readLetter", "()V"⟩
abbrev cX10_hasOthers : ByteArray := prog_12_method_40_code
def yX10_hasOthers : MethodName := ⟨RX10, "hasOthers", "(I)Z"⟩
abbrev cX10_letter : ByteArray := prog_12_method_41_code
def yX10_letter : MethodName := ⟨RX10, "letter", "(II)I"⟩
abbrev cX10_worthOf : ByteArray := prog_12_method_42_code
def yX10_worthOf : MethodName := ⟨RX10, "worthOf", "(I)I"⟩
abbrev cX10_isLate : ByteArray := prog_12_method_43_code
def yX10_isLate : MethodName := ⟨RX10, "isLate", "(I)Z"⟩
abbrev cX10_isServed : ByteArray := prog_12_method_44_code
def yX10_isServed : MethodName := ⟨RX10, "isServed", "(I)Z"⟩
abbrev cX10_counts : ByteArray := prog_12_method_45_code
def yX10_counts : MethodName := ⟨RX10, "counts", "(I)Z"⟩
abbrev cX10_isAhead : ByteArray := prog_12_method_46_code
def yX10_isAhead : MethodName := ⟨RX10, "isAhead", "(II)Z"⟩
abbrev cX10_asking : ByteArray := prog_12_method_47_code
def yX10_asking : MethodName := ⟨RX10, "asking", "(I)I"⟩
abbrev cX10_findBest : ByteArray := prog_12_method_48_code
def yX10_findBest : MethodName := ⟨RX10, "findBest", "(I)V"⟩
abbrev cX10_placeOf : ByteArray := prog_12_method_49_code
def yX10_placeOf : MethodName := ⟨RX10, "placeOf", "(II)I"⟩
abbrev cX10_rankedAt : ByteArray := prog_12_method_50_code
def yX10_rankedAt : MethodName := ⟨RX10, "rankedAt", "(II)I"⟩
abbrev cX10_sell : ByteArray := prog_12_method_51_code
def yX10_sell : MethodName := ⟨RX10, "sell", "(I)V"⟩
abbrev cX10_hold : ByteArray := prog_12_method_52_code
def yX10_hold : MethodName := ⟨RX10, "hold", "()V"⟩
abbrev cX10_sale : ByteArray := prog_12_method_53_code
def yX10_sale : MethodName := ⟨RX10, "sale", "(II)I"⟩
abbrev cX10_ranked : ByteArray := prog_12_method_54_code
def yX10_ranked : MethodName := ⟨RX10, "ranked", "(II)I"⟩
abbrev cX10_fate : ByteArray := prog_12_method_55_code
def yX10_fate : MethodName := ⟨RX10, "fate", "(I)I"⟩
abbrev cX10_needed : ByteArray := prog_12_method_56_code
def yX10_needed : MethodName := ⟨RX10, "needed", "(III)I"⟩
abbrev cX10_lot : ByteArray := prog_12_method_57_code
def yX10_lot : MethodName := ⟨RX10, "lot", "(II)I"⟩
abbrev cX10_bidOf : ByteArray := prog_12_method_58_code
def yX10_bidOf : MethodName := ⟨RX10, "bidOf", "(II)I"⟩
abbrev cX10_part : ByteArray := prog_12_method_59_code
def yX10_part : MethodName := ⟨RX10, "part", "(II)I"⟩
abbrev cX10_bidder : ByteArray := prog_12_method_60_code
def yX10_bidder : MethodName := ⟨RX10, "bidder", "(II)I"⟩
abbrev cX10_isSold : ByteArray := prog_12_method_61_code
def yX10_isSold : MethodName := ⟨RX10, "isSold", "(I)Z"⟩
abbrev cX10_feeFor : ByteArray := prog_12_method_62_code
def yX10_feeFor : MethodName := ⟨RX10, "feeFor", "(I)I"⟩
abbrev cX10_seller : ByteArray := prog_12_method_63_code
def yX10_seller : MethodName := ⟨RX10, "seller", "(II)J"⟩
abbrev cX10_account : ByteArray := prog_12_method_64_code
def yX10_account : MethodName := ⟨RX10, "account", "(I)J"⟩
abbrev cX10_count : ByteArray := prog_12_method_65_code
def yX10_count : MethodName := ⟨RX10, "count", "(I)I"⟩
def RL : String := "PostalAuctionLaw"
abbrev cL_law : ByteArray := code
end
section
abbrev am_E : Type := Nat × Instr × Nat × Nat × Nat × Nat × Int32 × Int64 × List (Int32 × Nat)
abbrev am_e0 (pc : Nat) (i : Instr) (n : Nat) : am_E := (pc, i, n, 0, 0, 0, 0, 0, [])
abbrev am_e3 (pc : Nat) (i : Instr) (n a b c : Nat) : am_E := (pc, i, n, a, b, c, 0, 0, [])
abbrev am_ec (pc : Nat) (i : Instr) (n p : Nat) (c : Int32) : am_E := (pc, i, n, 0, 0, p, c, 0, [])
abbrev am_ei (pc : Nat) (i : Instr) (n a : Nat) (c : Int32) : am_E := (pc, i, n, a, 0, 0, c, 0, [])
abbrev am_el (pc : Nat) (i : Instr) (n p : Nat) (c : Int64) : am_E := (pc, i, n, 0, 0, p, 0, c, [])
abbrev am_es (pc : Nat) (i : Instr) (n d : Nat) (t : List (Int32 × Nat)) : am_E := (pc, i, n, d, 0, 0, 0, 0, t)
abbrev m_Mod_init : Nat := 0
abbrev m_Mod_in : Nat := 1
abbrev m_Mod_lost : Nat := 2
abbrev m_Mod_greater : Nat := 3
abbrev m_Mod_lesser : Nat := 4
abbrev m_Mod_lots : Nat := 5
abbrev m_Mod_bidders : Nat := 6
abbrev m_Mod_bids : Nat := 7
abbrev m_Mod_noLot : Nat := 8
abbrev m_Mod_noBidder : Nat := 9
abbrev m_Mod_noBid : Nat := 10
abbrev m_Mod_record : Nat := 11
abbrev m_Mod_undo : Nat := 12
abbrev m_Mod_bandAt : Nat := 13
abbrev m_Mod_setBand : Nat := 14
abbrev m_Mod_removeBand : Nat := 15
abbrev m_Mod_bandOf : Nat := 16
abbrev m_Mod_floorOf : Nat := 17
abbrev m_Mod_nextOf : Nat := 18
abbrev m_Mod_ceilingOf : Nat := 19
abbrev m_Mod_valid : Nat := 20
abbrev m_Mod_addLot : Nat := 21
abbrev m_Mod_setReserve : Nat := 22
abbrev m_Mod_awayLots : Nat := 23
abbrev m_Mod_withdrawLot : Nat := 24
abbrev m_Mod_addBidder : Nat := 25
abbrev m_Mod_setLimit : Nat := 26
abbrev m_Mod_set : Nat := 27
abbrev m_Mod_putBid : Nat := 28
abbrev m_Mod_isMark : Nat := 29
abbrev m_Mod_bid : Nat := 30
abbrev m_Mod_withdrawBid : Nat := 31
abbrev m_Mod_type : Nat := 32
abbrev m_Mod_clearText : Nat := 33
abbrev m_Mod_isAt : Nat := 34
abbrev m_Mod_number : Nat := 35
abbrev m_Mod_sign : Nat := 36
abbrev m_Mod_readAlternative : Nat := 37
abbrev m_Mod_readLetter : Nat := 38
abbrev m_Mod_hasOthers : Nat := 39
abbrev m_Mod_letter : Nat := 40
abbrev m_Mod_worthOf : Nat := 41
abbrev m_Mod_isLate : Nat := 42
abbrev m_Mod_isServed : Nat := 43
abbrev m_Mod_counts : Nat := 44
abbrev m_Mod_isAhead : Nat := 45
abbrev m_Mod_asking : Nat := 46
abbrev m_Mod_findBest : Nat := 47
abbrev m_Mod_placeOf : Nat := 48
abbrev m_Mod_rankedAt : Nat := 49
abbrev m_Mod_sell : Nat := 50
abbrev m_Mod_hold : Nat := 51
abbrev m_Mod_sale : Nat := 52
abbrev m_Mod_ranked : Nat := 53
abbrev m_Mod_fate : Nat := 54
abbrev m_Mod_needed : Nat := 55
abbrev m_Mod_lot : Nat := 56
abbrev m_Mod_bidOf : Nat := 57
abbrev m_Mod_part : Nat := 58
abbrev m_Mod_bidder : Nat := 59
abbrev m_Mod_isSold : Nat := 60
abbrev m_Mod_feeFor : Nat := 61
abbrev m_Mod_seller : Nat := 62
abbrev m_Mod_account : Nat := 63
abbrev m_Mod_count : Nat := 64
abbrev m_Bids_init : Nat := 65
abbrev m_Bids_copy : Nat := 66
abbrev m_Bids_add : Nat := 67
abbrev m_Bids_freeGroup : Nat := 68
abbrev m_History_init : Nat := 69
abbrev m_History_keep : Nat := 70
abbrev m_History_restore : Nat := 71
abbrev m_History_dropOldest : Nat := 72
abbrev m_Letter_init : Nat := 73
abbrev m_Letter_append : Nat := 74
abbrev m_Letter_isInOneWish : Nat := 75
abbrev m_Letter_read : Nat := 76
abbrev m_Letter_startNumber : Nat := 77
abbrev m_Letter_readDigit : Nat := 78
abbrev m_Letter_readMark : Nat := 79
abbrev m_Letter_readEnd : Nat := 80
abbrev m_Letter_isTooGreat : Nat := 81
abbrev m_Letter_takeNumber : Nat := 82
abbrev m_Lots_init : Nat := 83
abbrev m_Lots_copy : Nat := 84
abbrev m_Lots_add : Nat := 85
abbrev m_Money_init : Nat := 86
abbrev m_Money_paidBy : Nat := 87
abbrev m_Money_total : Nat := 88
abbrev m_Money_payments : Nat := 89
abbrev m_Money_receipts : Nat := 90
abbrev m_Money_part : Nat := 91
abbrev m_Money_owesFee : Nat := 92
abbrev m_Row_init : Nat := 93
abbrev m_Row_get : Nat := 94
abbrev m_Row_put : Nat := 95
abbrev m_Row_copy : Nat := 96
abbrev m_Row_sum : Nat := 97
abbrev m_Row_countOf : Nat := 98
abbrev m_Sale_init : Nat := 99
abbrev m_Sale_hold : Nat := 100
abbrev m_Sale_bidAt : Nat := 101
abbrev m_Sale_leftBefore : Nat := 102
abbrev m_Sale_soldLots : Nat := 103
abbrev m_Sale_judgeBids : Nat := 104
abbrev m_Sale_judge : Nat := 105
abbrev m_Sale_reasonAgainst : Nat := 106
abbrev m_Sale_hasAlternativeBought : Nat := 107
abbrev m_Sale_chooseBetween : Nat := 108
abbrev m_Sale_orderBids : Nat := 109
abbrev m_Sale_insert : Nat := 110
abbrev m_Sale_goesBefore : Nat := 111
abbrev m_Sale_sell : Nat := 112
abbrev m_Sale_stateOf : Nat := 113
abbrev m_Sale_priceOf : Nat := 114
abbrev m_Sale_leastAmount : Nat := 115
abbrev m_Sale_leastWorth : Nat := 116
abbrev m_State_init : Nat := 117
abbrev m_State_copy : Nat := 118
abbrev m_State_askingPrice : Nat := 119
abbrev m_State_isLate : Nat := 120
abbrev m_State_lateBids : Nat := 121
abbrev m_Steps_init : Nat := 122
abbrev m_Steps_copy : Nat := 123
abbrev m_Steps_hasBand : Nat := 124
abbrev m_Steps_hasRoomFor : Nat := 125
abbrev m_Steps_putBand : Nat := 126
abbrev m_Steps_dropBand : Nat := 127
abbrev m_Steps_placeOf : Nat := 128
abbrev m_Steps_bandOf : Nat := 129
abbrev m_Steps_floor : Nat := 130
abbrev m_Steps_ceiling : Nat := 131
abbrev m_Steps_next : Nat := 132
abbrev m_Pa_init : Nat := 133
abbrev m_Pa_setBand : Nat := 134
abbrev m_Pa_removeBand : Nat := 135
abbrev m_Pa_valid : Nat := 136
abbrev m_Pa_addLot : Nat := 137
abbrev m_Pa_setReserve : Nat := 138
abbrev m_Pa_withdrawLot : Nat := 139
abbrev m_Pa_addBidder : Nat := 140
abbrev m_Pa_setLimit : Nat := 141
abbrev m_Pa_set : Nat := 142
abbrev m_Pa_bid : Nat := 143
abbrev m_Pa_withdrawBid : Nat := 144
abbrev m_Pa_type : Nat := 145
abbrev m_Pa_clearText : Nat := 146
abbrev m_Pa_letter : Nat := 147
abbrev m_Pa_undo : Nat := 148
abbrev m_Pa_sale : Nat := 149
abbrev m_Pa_ranked : Nat := 150
abbrev m_Pa_fate : Nat := 151
abbrev m_Pa_needed : Nat := 152
abbrev m_Pa_lot : Nat := 153
abbrev m_Pa_bidOf : Nat := 154
abbrev m_Pa_bidder : Nat := 155
abbrev m_Pa_seller : Nat := 156
abbrev m_Pa_account : Nat := 157
abbrev m_Pa_count : Nat := 158
abbrev m_Pa_isOutside : Nat := 159
abbrev m_Pa_mostOfSetting : Nat := 160
abbrev m_Pa_isLot : Nat := 161
abbrev m_Pa_isBidder : Nat := 162
abbrev m_Pa_isBid : Nat := 163
abbrev m_Pa_beginAct : Nat := 164
abbrev m_law : Nat := 165
set_option maxRecDepth 100000 in
def km_Mod_init : List am_E := [am_e0 0 (.aload_n 0) 1, am_e3 1 (.invokespecial 1) 3 1003 1 788, am_e0 4 (.aload_n 0) 1, am_ec 5 (.sipush 472) 3 0 472, am_e0 8 (.newarray .int) 2, am_e3 10 (.putfield 7) 3 10 0 790, am_e0 13 (.aload_n 0) 1, am_ec 14 (.sipush 1888) 3 0 1888, am_e0 17 (.newarray .int) 2, am_e3 19 (.putfield 13) 3 10 1 791, am_e0 22 (.aload_n 0) 1, am_ec 23 (.bipush 80) 2 0 80, am_e3 25 (.newarray .char) 2 1 0 0, am_e3 27 (.putfield 16) 3 10 4 794, am_e0 30 (.aload_n 0) 1, am_ec 31 (.bipush 40) 2 0 40, am_e0 33 (.newarray .int) 2, am_e3 35 (.putfield 20) 3 10 8 798, am_e0 38 (.aload_n 0) 1, am_ec 39 (.bipush 40) 2 0 40, am_e0 41 (.newarray .int) 2, am_e3 43 (.putfield 23) 3 10 9 799, am_e0 46 (.aload_n 0) 1, am_ec 47 (.bipush 40) 2 0 40, am_e0 49 (.newarray .int) 2, am_e3 51 (.putfield 26) 3 10 10 800, am_e0 54 (.aload_n 0) 1, am_ec 55 (.sipush 168) 3 0 168, am_e0 58 (.newarray .int) 2, am_e3 60 (.putfield 29) 3 10 11 801, am_e0 63 (.aload_n 0) 1, am_ec 64 (.sipush 160) 3 0 160, am_e0 67 (.newarray .int) 2, am_e3 69 (.putfield 32) 3 10 12 802, am_e0 72 (.aload_n 0) 1, am_ec 73 (.bipush 20) 2 0 20, am_e0 75 (.newarray .int) 2, am_e3 77 (.putfield 35) 3 10 13 803, am_e0 80 (.aload_n 0) 1, am_ec 81 (.bipush 20) 2 0 20, am_e0 83 (.newarray .int) 2, am_e3 85 (.putfield 38) 3 10 14 804, am_e0 88 (.aload_n 0) 1, am_ec 89 (.bipush 20) 2 0 20, am_e0 91 (.newarray .int) 2, am_e3 93 (.putfield 41) 3 10 15 805, am_e0 96 (.aload_n 0) 1, am_ec 97 (.bipush 20) 2 0 20, am_e0 99 (.newarray .int) 2, am_e3 101 (.putfield 44) 3 10 16 806, am_e0 104 (.aload_n 0) 1, am_ec 105 (.bipush 20) 2 0 20, am_e0 107 (.newarray .int) 2, am_e3 109 (.putfield 47) 3 10 17 807, am_e0 112 (.aload_n 0) 1, am_e3 113 (.getfield 7) 3 10 0 790, am_ec 116 (.iconst 0) 1 0 0, am_ec 117 (.iconst 1) 1 0 1, am_e0 118 (.iastore) 1, am_e0 119 (.aload_n 0) 1, am_e3 120 (.getfield 7) 3 10 0 790, am_ec 123 (.bipush 9) 2 0 9, am_ec 125 (.iconst 5) 1 0 5, am_e0 126 (.iastore) 1, am_e0 127 (.aload_n 0) 1, am_e3 128 (.getfield 7) 3 10 0 790, am_ec 131 (.sipush 468) 3 0 468, am_ec 134 (.ldc 50) 2 789 50000, am_e0 136 (.iastore) 1, am_e0 137 (.aload_n 0) 1, am_e3 138 (.getfield 7) 3 10 0 790, am_ec 141 (.sipush 469) 3 0 469, am_ec 144 (.sipush 150) 3 0 150, am_e0 147 (.iastore) 1, am_e0 148 (.aload_n 0) 1, am_e3 149 (.getfield 7) 3 10 0 790, am_ec 152 (.sipush 470) 3 0 470, am_ec 155 (.bipush 100) 2 0 100, am_e0 157 (.iastore) 1, am_e0 158 (.aload_n 0) 1, am_e3 159 (.getfield 7) 3 10 0 790, am_ec 162 (.sipush 471) 3 0 471, am_ec 165 (.iconst 2) 1 0 2, am_e0 166 (.iastore) 1, am_e0 167 (.return_) 1]
set_option maxRecDepth 100000 in
def km_Mod_in : List am_E := [am_e0 0 (.iload_n 0) 1, am_e3 1 (.iload_n 1) 1 1 0 0, am_e3 2 (.if_icmp .lt 12) 3 14 0 0, am_e0 5 (.iload_n 0) 1, am_e3 6 (.iload_n 2) 1 2 0 0, am_e3 7 (.if_icmp .gt 7) 3 14 0 0, am_ec 10 (.iconst 1) 1 0 1, am_e3 11 (.goto 4) 3 15 0 0, am_ec 14 (.iconst 0) 1 0 0, am_e0 15 (.ireturn) 1]
set_option maxRecDepth 100000 in
def km_Mod_lost : List am_E := [am_el 0 (.ldc2_w 51) 3 1085 (-9223372036854775808), am_e0 3 (.lreturn) 1]
set_option maxRecDepth 100000 in
def km_Mod_greater : List am_E := [am_e0 0 (.iload_n 0) 1, am_e3 1 (.iload_n 1) 1 1 0 0, am_e3 2 (.if_icmp .le 7) 3 9 0 0, am_e0 5 (.iload_n 0) 1, am_e3 6 (.goto 4) 3 10 0 0, am_e3 9 (.iload_n 1) 1 1 0 0, am_e0 10 (.ireturn) 1]
set_option maxRecDepth 100000 in
def km_Mod_lesser : List am_E := [am_e0 0 (.iload_n 0) 1, am_e3 1 (.iload_n 1) 1 1 0 0, am_e3 2 (.if_icmp .ge 7) 3 9 0 0, am_e0 5 (.iload_n 0) 1, am_e3 6 (.goto 4) 3 10 0 0, am_e3 9 (.iload_n 1) 1 1 0 0, am_e0 10 (.ireturn) 1]
set_option maxRecDepth 100000 in
def km_Mod_lots : List am_E := [am_e0 0 (.aload_n 0) 1, am_e3 1 (.getfield 7) 3 10 0 790, am_ec 4 (.bipush 17) 2 0 17, am_e0 6 (.iaload) 1, am_e0 7 (.ireturn) 1]
set_option maxRecDepth 100000 in
def km_Mod_bidders : List am_E := [am_e0 0 (.aload_n 0) 1, am_e3 1 (.getfield 7) 3 10 0 790, am_ec 4 (.bipush 98) 2 0 98, am_e0 6 (.iaload) 1, am_e0 7 (.ireturn) 1]
set_option maxRecDepth 100000 in
def km_Mod_bids : List am_E := [am_e0 0 (.aload_n 0) 1, am_e3 1 (.getfield 7) 3 10 0 790, am_ec 4 (.bipush 107) 2 0 107, am_e0 6 (.iaload) 1, am_e0 7 (.ireturn) 1]
set_option maxRecDepth 100000 in
def km_Mod_noLot : List am_E := [am_e3 0 (.iload_n 1) 1 1 0 0, am_ec 1 (.iconst 0) 1 0 0, am_e0 2 (.aload_n 0) 1, am_e3 3 (.invokevirtual 53) 3 5 1 895, am_ec 6 (.iconst 1) 1 0 1, am_e0 7 (.isub) 1, am_e3 8 (.invokestatic 57) 3 1 3 854, am_e3 11 (.ifCond .ne 7) 3 18 0 0, am_ec 14 (.iconst 1) 1 0 1, am_e3 15 (.goto 4) 3 19 0 0, am_ec 18 (.iconst 0) 1 0 0, am_e0 19 (.ireturn) 1]
set_option maxRecDepth 100000 in
def km_Mod_noBidder : List am_E := [am_e3 0 (.iload_n 1) 1 1 0 0, am_ec 1 (.iconst 0) 1 0 0, am_e0 2 (.aload_n 0) 1, am_e3 3 (.invokevirtual 61) 3 6 1 920, am_ec 6 (.iconst 1) 1 0 1, am_e0 7 (.isub) 1, am_e3 8 (.invokestatic 57) 3 1 3 854, am_e3 11 (.ifCond .ne 7) 3 18 0 0, am_ec 14 (.iconst 1) 1 0 1, am_e3 15 (.goto 4) 3 19 0 0, am_ec 18 (.iconst 0) 1 0 0, am_e0 19 (.ireturn) 1]
set_option maxRecDepth 100000 in
def km_Mod_noBid : List am_E := [am_e3 0 (.iload_n 1) 1 1 0 0, am_ec 1 (.iconst 0) 1 0 0, am_e0 2 (.aload_n 0) 1, am_e3 3 (.invokevirtual 64) 3 7 1 943, am_ec 6 (.iconst 1) 1 0 1, am_e0 7 (.isub) 1, am_e3 8 (.invokestatic 57) 3 1 3 854, am_e3 11 (.ifCond .ne 7) 3 18 0 0, am_ec 14 (.iconst 1) 1 0 1, am_e3 15 (.goto 4) 3 19 0 0, am_ec 18 (.iconst 0) 1 0 0, am_e0 19 (.ireturn) 1]
set_option maxRecDepth 100000 in
def km_Mod_record : List am_E := [am_e0 0 (.aload_n 0) 1, am_e3 1 (.getfield 67) 3 10 2 792, am_ec 4 (.iconst 4) 1 0 4, am_e3 5 (.if_icmp .ne 49) 3 54 0 0, am_e0 8 (.aload_n 0) 1, am_e0 9 (.dup) 1, am_e3 10 (.getfield 67) 3 10 2 792, am_ec 13 (.iconst 1) 1 0 1, am_e0 14 (.isub) 1, am_e3 15 (.putfield 67) 3 10 2 792, am_ec 18 (.iconst 0) 1 0 0, am_e3 19 (.istore_n 1) 1 1 0 0, am_e3 20 (.iload_n 1) 1 1 0 0, am_ec 21 (.sipush 472) 3 0 472, am_e0 24 (.aload_n 0) 1, am_e3 25 (.getfield 67) 3 10 2 792, am_e0 28 (.imul) 1, am_e3 29 (.if_icmp .ge 25) 3 54 0 0, am_e0 32 (.aload_n 0) 1, am_e3 33 (.getfield 13) 3 10 1 791, am_e3 36 (.iload_n 1) 1 1 0 0, am_e0 37 (.aload_n 0) 1, am_e3 38 (.getfield 13) 3 10 1 791, am_e3 41 (.iload_n 1) 1 1 0 0, am_ec 42 (.sipush 472) 3 0 472, am_e0 45 (.iadd) 1, am_e0 46 (.iaload) 1, am_e0 47 (.iastore) 1, am_ei 48 (.iinc 1 1) 3 1 1, am_e3 51 (.goto (-31)) 3 20 0 0, am_ec 54 (.iconst 0) 1 0 0, am_e3 55 (.istore_n 1) 1 1 0 0, am_e3 56 (.iload_n 1) 1 1 0 0, am_ec 57 (.sipush 472) 3 0 472, am_e3 60 (.if_icmp .ge 30) 3 90 0 0, am_e0 63 (.aload_n 0) 1, am_e3 64 (.getfield 13) 3 10 1 791, am_ec 67 (.sipush 472) 3 0 472, am_e0 70 (.aload_n 0) 1, am_e3 71 (.getfield 67) 3 10 2 792, am_e0 74 (.imul) 1, am_e3 75 (.iload_n 1) 1 1 0 0, am_e0 76 (.iadd) 1, am_e0 77 (.aload_n 0) 1, am_e3 78 (.getfield 7) 3 10 0 790, am_e3 81 (.iload_n 1) 1 1 0 0, am_e0 82 (.iaload) 1, am_e0 83 (.iastore) 1, am_ei 84 (.iinc 1 1) 3 1 1, am_e3 87 (.goto (-31)) 3 56 0 0, am_e0 90 (.aload_n 0) 1, am_e0 91 (.dup) 1, am_e3 92 (.getfield 67) 3 10 2 792, am_ec 95 (.iconst 1) 1 0 1, am_e0 96 (.iadd) 1, am_e3 97 (.putfield 67) 3 10 2 792, am_e0 100 (.return_) 1]
set_option maxRecDepth 100000 in
def km_Mod_undo : List am_E := [am_e0 0 (.aload_n 0) 1, am_e3 1 (.getfield 67) 3 10 2 792, am_e3 4 (.ifCond .ne 6) 3 10 0 0, am_ec 7 (.bipush (-5)) 2 0 (-5), am_e0 9 (.ireturn) 1, am_e0 10 (.aload_n 0) 1, am_e0 11 (.dup) 1, am_e3 12 (.getfield 67) 3 10 2 792, am_ec 15 (.iconst 1) 1 0 1, am_e0 16 (.isub) 1, am_e3 17 (.putfield 67) 3 10 2 792, am_ec 20 (.iconst 0) 1 0 0, am_e3 21 (.istore_n 1) 1 1 0 0, am_e3 22 (.iload_n 1) 1 1 0 0, am_ec 23 (.sipush 472) 3 0 472, am_e3 26 (.if_icmp .ge 30) 3 56 0 0, am_e0 29 (.aload_n 0) 1, am_e3 30 (.getfield 7) 3 10 0 790, am_e3 33 (.iload_n 1) 1 1 0 0, am_e0 34 (.aload_n 0) 1, am_e3 35 (.getfield 13) 3 10 1 791, am_ec 38 (.sipush 472) 3 0 472, am_e0 41 (.aload_n 0) 1, am_e3 42 (.getfield 67) 3 10 2 792, am_e0 45 (.imul) 1, am_e3 46 (.iload_n 1) 1 1 0 0, am_e0 47 (.iadd) 1, am_e0 48 (.iaload) 1, am_e0 49 (.iastore) 1, am_ei 50 (.iinc 1 1) 3 1 1, am_e3 53 (.goto (-31)) 3 22 0 0, am_e0 56 (.aload_n 0) 1, am_e3 57 (.getfield 67) 3 10 2 792, am_e0 60 (.ireturn) 1]
set_option maxRecDepth 100000 in
def km_Mod_bandAt : List am_E := [am_ec 0 (.iconst 0) 1 0 0, am_e3 1 (.istore_n 2) 1 2 0 0, am_e3 2 (.iload_n 2) 1 2 0 0, am_e0 3 (.aload_n 0) 1, am_e3 4 (.getfield 7) 3 10 0 790, am_ec 7 (.iconst 0) 1 0 0, am_e0 8 (.iaload) 1, am_e3 9 (.if_icmp .ge 23) 3 32 0 0, am_e0 12 (.aload_n 0) 1, am_e3 13 (.getfield 7) 3 10 0 790, am_ec 16 (.iconst 1) 1 0 1, am_e3 17 (.iload_n 2) 1 2 0 0, am_e0 18 (.iadd) 1, am_e0 19 (.iaload) 1, am_e3 20 (.iload_n 1) 1 1 0 0, am_e3 21 (.if_icmp .ne 5) 3 26 0 0, am_e3 24 (.iload_n 2) 1 2 0 0, am_e0 25 (.ireturn) 1, am_ei 26 (.iinc 2 1) 3 2 1, am_e3 29 (.goto (-27)) 3 2 0 0, am_ec 32 (.bipush (-5)) 2 0 (-5), am_e0 34 (.ireturn) 1]
set_option maxRecDepth 100000 in
def km_Mod_setBand : List am_E := [am_e3 0 (.iload_n 1) 1 1 0 0, am_ec 1 (.iconst 0) 1 0 0, am_ec 2 (.ldc 71) 2 853 1000000, am_e3 4 (.invokestatic 57) 3 1 3 854, am_e3 7 (.ifCond .eq 13) 3 20 0 0, am_e3 10 (.iload_n 2) 1 2 0 0, am_ec 11 (.iconst 1) 1 0 1, am_ec 12 (.ldc 72) 2 857 100000, am_e3 14 (.invokestatic 57) 3 1 3 854, am_e3 17 (.ifCond .ne 6) 3 23 0 0, am_ec 20 (.bipush (-2)) 2 0 (-2), am_e0 22 (.ireturn) 1, am_e0 23 (.aload_n 0) 1, am_e3 24 (.iload_n 1) 1 1 0 0, am_e3 25 (.invokevirtual 73) 3 13 2 858, am_e3 28 (.istore_n 3) 1 3 0 0, am_e3 29 (.iload_n 3) 1 3 0 0, am_e3 30 (.ifCond .ge 17) 3 47 0 0, am_e0 33 (.aload_n 0) 1, am_e3 34 (.getfield 7) 3 10 0 790, am_ec 37 (.iconst 0) 1 0 0, am_e0 38 (.iaload) 1, am_ec 39 (.bipush 8) 2 0 8, am_e3 41 (.if_icmp .ne 6) 3 47 0 0, am_ec 44 (.bipush (-3)) 2 0 (-3), am_e0 46 (.ireturn) 1, am_e0 47 (.aload_n 0) 1, am_e3 48 (.invokevirtual 77) 3 11 1 862, am_e3 51 (.iload_n 3) 1 3 0 0, am_e3 52 (.ifCond .ge 87) 3 139 0 0, am_e0 55 (.aload_n 0) 1, am_e3 56 (.getfield 7) 3 10 0 790, am_ec 59 (.iconst 0) 1 0 0, am_e0 60 (.iaload) 1, am_e3 61 (.istore_n 3) 1 3 0 0, am_e0 62 (.aload_n 0) 1, am_e3 63 (.getfield 7) 3 10 0 790, am_ec 66 (.iconst 1) 1 0 1, am_e3 67 (.iload_n 3) 1 3 0 0, am_e0 68 (.iadd) 1, am_ec 69 (.iconst 1) 1 0 1, am_e0 70 (.isub) 1, am_e0 71 (.iaload) 1, am_e3 72 (.iload_n 1) 1 1 0 0, am_e3 73 (.if_icmp .le 47) 3 120 0 0, am_e0 76 (.aload_n 0) 1, am_e3 77 (.getfield 7) 3 10 0 790, am_ec 80 (.iconst 1) 1 0 1, am_e3 81 (.iload_n 3) 1 3 0 0, am_e0 82 (.iadd) 1, am_e0 83 (.aload_n 0) 1, am_e3 84 (.getfield 7) 3 10 0 790, am_ec 87 (.iconst 1) 1 0 1, am_e3 88 (.iload_n 3) 1 3 0 0, am_e0 89 (.iadd) 1, am_ec 90 (.iconst 1) 1 0 1, am_e0 91 (.isub) 1, am_e0 92 (.iaload) 1, am_e0 93 (.iastore) 1, am_e0 94 (.aload_n 0) 1, am_e3 95 (.getfield 7) 3 10 0 790, am_ec 98 (.bipush 9) 2 0 9, am_e3 100 (.iload_n 3) 1 3 0 0, am_e0 101 (.iadd) 1, am_e0 102 (.aload_n 0) 1, am_e3 103 (.getfield 7) 3 10 0 790, am_ec 106 (.bipush 9) 2 0 9, am_e3 108 (.iload_n 3) 1 3 0 0, am_e0 109 (.iadd) 1, am_ec 110 (.iconst 1) 1 0 1, am_e0 111 (.isub) 1, am_e0 112 (.iaload) 1, am_e0 113 (.iastore) 1, am_ei 114 (.iinc 3 (-1)) 3 3 (-1), am_e3 117 (.goto (-55)) 3 62 0 0, am_e0 120 (.aload_n 0) 1, am_e3 121 (.getfield 7) 3 10 0 790, am_ec 124 (.iconst 1) 1 0 1, am_e3 125 (.iload_n 3) 1 3 0 0, am_e0 126 (.iadd) 1, am_e3 127 (.iload_n 1) 1 1 0 0, am_e0 128 (.iastore) 1, am_e0 129 (.aload_n 0) 1, am_e3 130 (.getfield 7) 3 10 0 790, am_ec 133 (.iconst 0) 1 0 0, am_e0 134 (.dup2) 1, am_e0 135 (.iaload) 1, am_ec 136 (.iconst 1) 1 0 1, am_e0 137 (.iadd) 1, am_e0 138 (.iastore) 1, am_e0 139 (.aload_n 0) 1, am_e3 140 (.getfield 7) 3 10 0 790, am_ec 143 (.bipush 9) 2 0 9, am_e3 145 (.iload_n 3) 1 3 0 0, am_e0 146 (.iadd) 1, am_e3 147 (.iload_n 2) 1 2 0 0, am_e0 148 (.iastore) 1, am_e0 149 (.aload_n 0) 1, am_e3 150 (.getfield 7) 3 10 0 790, am_ec 153 (.iconst 0) 1 0 0, am_e0 154 (.iaload) 1, am_e0 155 (.ireturn) 1]
set_option maxRecDepth 100000 in
def km_Mod_removeBand : List am_E := [am_e0 0 (.aload_n 0) 1, am_e3 1 (.iload_n 1) 1 1 0 0, am_e3 2 (.invokevirtual 73) 3 13 2 858, am_e3 5 (.istore_n 2) 1 2 0 0, am_e3 6 (.iload_n 2) 1 2 0 0, am_ec 7 (.iconst 1) 1 0 1, am_e3 8 (.if_icmp .ge 6) 3 14 0 0, am_ec 11 (.bipush (-4)) 2 0 (-4), am_e0 13 (.ireturn) 1, am_e0 14 (.aload_n 0) 1, am_e3 15 (.invokevirtual 77) 3 11 1 862, am_e0 18 (.aload_n 0) 1, am_e3 19 (.getfield 7) 3 10 0 790, am_ec 22 (.iconst 0) 1 0 0, am_e0 23 (.dup2) 1, am_e0 24 (.iaload) 1, am_ec 25 (.iconst 1) 1 0 1, am_e0 26 (.isub) 1, am_e0 27 (.iastore) 1, am_e3 28 (.iload_n 2) 1 2 0 0, am_e3 29 (.istore_n 3) 1 3 0 0, am_e3 30 (.iload_n 3) 1 3 0 0, am_e0 31 (.aload_n 0) 1, am_e3 32 (.getfield 7) 3 10 0 790, am_ec 35 (.iconst 0) 1 0 0, am_e0 36 (.iaload) 1, am_e3 37 (.if_icmp .ge 47) 3 84 0 0, am_e0 40 (.aload_n 0) 1, am_e3 41 (.getfield 7) 3 10 0 790, am_ec 44 (.iconst 1) 1 0 1, am_e3 45 (.iload_n 3) 1 3 0 0, am_e0 46 (.iadd) 1, am_e0 47 (.aload_n 0) 1, am_e3 48 (.getfield 7) 3 10 0 790, am_ec 51 (.iconst 1) 1 0 1, am_e3 52 (.iload_n 3) 1 3 0 0, am_e0 53 (.iadd) 1, am_ec 54 (.iconst 1) 1 0 1, am_e0 55 (.iadd) 1, am_e0 56 (.iaload) 1, am_e0 57 (.iastore) 1, am_e0 58 (.aload_n 0) 1, am_e3 59 (.getfield 7) 3 10 0 790, am_ec 62 (.bipush 9) 2 0 9, am_e3 64 (.iload_n 3) 1 3 0 0, am_e0 65 (.iadd) 1, am_e0 66 (.aload_n 0) 1, am_e3 67 (.getfield 7) 3 10 0 790, am_ec 70 (.bipush 9) 2 0 9, am_e3 72 (.iload_n 3) 1 3 0 0, am_e0 73 (.iadd) 1, am_ec 74 (.iconst 1) 1 0 1, am_e0 75 (.iadd) 1, am_e0 76 (.iaload) 1, am_e0 77 (.iastore) 1, am_ei 78 (.iinc 3 1) 3 3 1, am_e3 81 (.goto (-51)) 3 30 0 0, am_e0 84 (.aload_n 0) 1, am_e3 85 (.getfield 7) 3 10 0 790, am_ec 88 (.iconst 0) 1 0 0, am_e0 89 (.iaload) 1, am_e0 90 (.ireturn) 1]
set_option maxRecDepth 100000 in
def km_Mod_bandOf : List am_E := [am_ec 0 (.iconst 0) 1 0 0, am_e3 1 (.istore_n 2) 1 2 0 0, am_e3 2 (.iload_n 2) 1 2 0 0, am_ec 3 (.iconst 1) 1 0 1, am_e0 4 (.iadd) 1, am_e0 5 (.aload_n 0) 1, am_e3 6 (.getfield 7) 3 10 0 790, am_ec 9 (.iconst 0) 1 0 0, am_e0 10 (.iaload) 1, am_e3 11 (.if_icmp .ge 23) 3 34 0 0, am_e0 14 (.aload_n 0) 1, am_e3 15 (.getfield 7) 3 10 0 790, am_ec 18 (.iconst 1) 1 0 1, am_e3 19 (.iload_n 2) 1 2 0 0, am_e0 20 (.iadd) 1, am_ec 21 (.iconst 1) 1 0 1, am_e0 22 (.iadd) 1, am_e0 23 (.iaload) 1, am_e3 24 (.iload_n 1) 1 1 0 0, am_e3 25 (.if_icmp .gt 9) 3 34 0 0, am_ei 28 (.iinc 2 1) 3 2 1, am_e3 31 (.goto (-29)) 3 2 0 0, am_e3 34 (.iload_n 2) 1 2 0 0, am_e0 35 (.ireturn) 1]
set_option maxRecDepth 100000 in
def km_Mod_floorOf : List am_E := [am_e0 0 (.aload_n 0) 1, am_e3 1 (.iload_n 1) 1 1 0 0, am_e3 2 (.invokevirtual 80) 3 16 2 879, am_e3 5 (.istore_n 2) 1 2 0 0, am_e3 6 (.iload_n 1) 1 1 0 0, am_e3 7 (.iload_n 1) 1 1 0 0, am_e0 8 (.aload_n 0) 1, am_e3 9 (.getfield 7) 3 10 0 790, am_ec 12 (.iconst 1) 1 0 1, am_e3 13 (.iload_n 2) 1 2 0 0, am_e0 14 (.iadd) 1, am_e0 15 (.iaload) 1, am_e0 16 (.isub) 1, am_e0 17 (.aload_n 0) 1, am_e3 18 (.getfield 7) 3 10 0 790, am_ec 21 (.bipush 9) 2 0 9, am_e3 23 (.iload_n 2) 1 2 0 0, am_e0 24 (.iadd) 1, am_e0 25 (.iaload) 1, am_e0 26 (.irem) 1, am_e0 27 (.isub) 1, am_e0 28 (.ireturn) 1]
set_option maxRecDepth 100000 in
def km_Mod_nextOf : List am_E := [am_e0 0 (.aload_n 0) 1, am_e3 1 (.iload_n 1) 1 1 0 0, am_e3 2 (.invokevirtual 80) 3 16 2 879, am_e3 5 (.istore_n 2) 1 2 0 0, am_e0 6 (.aload_n 0) 1, am_e3 7 (.iload_n 1) 1 1 0 0, am_e3 8 (.invokevirtual 83) 3 17 2 875, am_e0 11 (.aload_n 0) 1, am_e3 12 (.getfield 7) 3 10 0 790, am_ec 15 (.bipush 9) 2 0 9, am_e3 17 (.iload_n 2) 1 2 0 0, am_e0 18 (.iadd) 1, am_e0 19 (.iaload) 1, am_e0 20 (.iadd) 1, am_e3 21 (.istore_n 3) 1 3 0 0, am_e3 22 (.iload_n 2) 1 2 0 0, am_ec 23 (.iconst 1) 1 0 1, am_e0 24 (.iadd) 1, am_e0 25 (.aload_n 0) 1, am_e3 26 (.getfield 7) 3 10 0 790, am_ec 29 (.iconst 0) 1 0 0, am_e0 30 (.iaload) 1, am_e3 31 (.if_icmp .ge 30) 3 61 0 0, am_e0 34 (.aload_n 0) 1, am_e3 35 (.getfield 7) 3 10 0 790, am_ec 38 (.iconst 1) 1 0 1, am_e3 39 (.iload_n 2) 1 2 0 0, am_e0 40 (.iadd) 1, am_ec 41 (.iconst 1) 1 0 1, am_e0 42 (.iadd) 1, am_e0 43 (.iaload) 1, am_e3 44 (.iload_n 3) 1 3 0 0, am_e3 45 (.if_icmp .ge 16) 3 61 0 0, am_e0 48 (.aload_n 0) 1, am_e3 49 (.getfield 7) 3 10 0 790, am_ec 52 (.iconst 1) 1 0 1, am_e3 53 (.iload_n 2) 1 2 0 0, am_e0 54 (.iadd) 1, am_ec 55 (.iconst 1) 1 0 1, am_e0 56 (.iadd) 1, am_e0 57 (.iaload) 1, am_e3 58 (.goto 4) 3 62 0 0, am_e3 61 (.iload_n 3) 1 3 0 0, am_e0 62 (.ireturn) 1]
set_option maxRecDepth 100000 in
def km_Mod_ceilingOf : List am_E := [am_e0 0 (.aload_n 0) 1, am_e3 1 (.iload_n 1) 1 1 0 0, am_e3 2 (.invokevirtual 83) 3 17 2 875, am_e3 5 (.iload_n 1) 1 1 0 0, am_e3 6 (.if_icmp .ne 7) 3 13 0 0, am_e3 9 (.iload_n 1) 1 1 0 0, am_e3 10 (.goto 8) 3 18 0 0, am_e0 13 (.aload_n 0) 1, am_e3 14 (.iload_n 1) 1 1 0 0, am_e3 15 (.invokevirtual 86) 3 18 2 887, am_e0 18 (.ireturn) 1]
set_option maxRecDepth 100000 in
def km_Mod_valid : List am_E := [am_e3 0 (.iload_n 1) 1 1 0 0, am_ec 1 (.iconst 0) 1 0 0, am_ec 2 (.ldc 89) 2 874 2000000, am_e3 4 (.invokestatic 57) 3 1 3 854, am_e3 7 (.ifCond .eq 12) 3 19 0 0, am_e3 10 (.iload_n 2) 1 2 0 0, am_ec 11 (.iconst 0) 1 0 0, am_ec 12 (.iconst 2) 1 0 2, am_e3 13 (.invokestatic 57) 3 1 3 854, am_e3 16 (.ifCond .ne 6) 3 22 0 0, am_ec 19 (.bipush (-2)) 2 0 (-2), am_e0 21 (.ireturn) 1, am_e3 22 (.iload_n 2) 1 2 0 0, am_e3 23 (.ifCond .ne 11) 3 34 0 0, am_e0 26 (.aload_n 0) 1, am_e3 27 (.iload_n 1) 1 1 0 0, am_e3 28 (.invokevirtual 83) 3 17 2 875, am_e3 31 (.goto 21) 3 52 0 0, am_e3 34 (.iload_n 2) 1 2 0 0, am_ec 35 (.iconst 1) 1 0 1, am_e3 36 (.if_icmp .ne 11) 3 47 0 0, am_e0 39 (.aload_n 0) 1, am_e3 40 (.iload_n 1) 1 1 0 0, am_e3 41 (.invokevirtual 90) 3 19 2 883, am_e3 44 (.goto 8) 3 52 0 0, am_e0 47 (.aload_n 0) 1, am_e3 48 (.iload_n 1) 1 1 0 0, am_e3 49 (.invokevirtual 86) 3 18 2 887, am_e0 52 (.ireturn) 1]
set_option maxRecDepth 100000 in
def km_Mod_addLot : List am_E := [am_e3 0 (.iload_n 1) 1 1 0 0, am_ec 1 (.iconst 0) 1 0 0, am_ec 2 (.iconst 4) 1 0 4, am_e3 3 (.invokestatic 57) 3 1 3 854, am_e3 6 (.ifCond .ne 5) 3 11 0 0, am_ec 9 (.iconst (-1)) 1 0 (-1), am_e0 10 (.ireturn) 1, am_e3 11 (.iload_n 2) 1 2 0 0, am_ec 12 (.iconst 0) 1 0 0, am_ec 13 (.ldc 71) 2 853 1000000, am_e3 15 (.invokestatic 57) 3 1 3 854, am_e3 18 (.ifCond .eq 13) 3 31 0 0, am_e3 21 (.iload_n 3) 1 3 0 0, am_ec 22 (.iconst 0) 1 0 0, am_ec 23 (.ldc 71) 2 853 1000000, am_e3 25 (.invokestatic 57) 3 1 3 854, am_e3 28 (.ifCond .ne 6) 3 34 0 0, am_ec 31 (.bipush (-2)) 2 0 (-2), am_e0 33 (.ireturn) 1, am_e0 34 (.aload_n 0) 1, am_e3 35 (.invokevirtual 53) 3 5 1 895, am_ec 38 (.bipush 20) 2 0 20, am_e3 40 (.if_icmp .ne 6) 3 46 0 0, am_ec 43 (.bipush (-3)) 2 0 (-3), am_e0 45 (.ireturn) 1, am_e0 46 (.aload_n 0) 1, am_e3 47 (.invokevirtual 77) 3 11 1 862, am_e0 50 (.aload_n 0) 1, am_e3 51 (.invokevirtual 53) 3 5 1 895, am_e3 54 (.istore 4) 2 4 0 0, am_e0 56 (.aload_n 0) 1, am_e3 57 (.getfield 7) 3 10 0 790, am_ec 60 (.bipush 18) 2 0 18, am_e3 62 (.iload 4) 2 4 0 0, am_e0 64 (.iadd) 1, am_e3 65 (.iload_n 1) 1 1 0 0, am_e0 66 (.iastore) 1, am_e0 67 (.aload_n 0) 1, am_e3 68 (.getfield 7) 3 10 0 790, am_ec 71 (.bipush 38) 2 0 38, am_e3 73 (.iload 4) 2 4 0 0, am_e0 75 (.iadd) 1, am_e3 76 (.iload_n 2) 1 2 0 0, am_e0 77 (.iastore) 1, am_e0 78 (.aload_n 0) 1, am_e3 79 (.getfield 7) 3 10 0 790, am_ec 82 (.bipush 58) 2 0 58, am_e3 84 (.iload 4) 2 4 0 0, am_e0 86 (.iadd) 1, am_e3 87 (.iload_n 3) 1 3 0 0, am_e0 88 (.iastore) 1, am_e0 89 (.aload_n 0) 1, am_e3 90 (.getfield 7) 3 10 0 790, am_ec 93 (.bipush 78) 2 0 78, am_e3 95 (.iload 4) 2 4 0 0, am_e0 97 (.iadd) 1, am_ec 98 (.iconst 0) 1 0 0, am_e0 99 (.iastore) 1, am_e0 100 (.aload_n 0) 1, am_e3 101 (.getfield 7) 3 10 0 790, am_ec 104 (.bipush 17) 2 0 17, am_e0 106 (.dup2) 1, am_e0 107 (.iaload) 1, am_ec 108 (.iconst 1) 1 0 1, am_e0 109 (.iadd) 1, am_e0 110 (.iastore) 1, am_e3 111 (.iload 4) 2 4 0 0, am_e0 113 (.ireturn) 1]
set_option maxRecDepth 100000 in
def km_Mod_setReserve : List am_E := [am_e0 0 (.aload_n 0) 1, am_e3 1 (.iload_n 1) 1 1 0 0, am_e3 2 (.invokevirtual 93) 3 8 2 903, am_e3 5 (.ifCond .eq 5) 3 10 0 0, am_ec 8 (.iconst (-1)) 1 0 (-1), am_e0 9 (.ireturn) 1, am_e3 10 (.iload_n 2) 1 2 0 0, am_ec 11 (.iconst 0) 1 0 0, am_ec 12 (.ldc 71) 2 853 1000000, am_e3 14 (.invokestatic 57) 3 1 3 854, am_e3 17 (.ifCond .ne 6) 3 23 0 0, am_ec 20 (.bipush (-2)) 2 0 (-2), am_e0 22 (.ireturn) 1, am_e0 23 (.aload_n 0) 1, am_e3 24 (.invokevirtual 77) 3 11 1 862, am_e0 27 (.aload_n 0) 1, am_e3 28 (.getfield 7) 3 10 0 790, am_ec 31 (.bipush 58) 2 0 58, am_e3 33 (.iload_n 1) 1 1 0 0, am_e0 34 (.iadd) 1, am_e0 35 (.iaload) 1, am_e3 36 (.istore_n 3) 1 3 0 0, am_e0 37 (.aload_n 0) 1, am_e3 38 (.getfield 7) 3 10 0 790, am_ec 41 (.bipush 58) 2 0 58, am_e3 43 (.iload_n 1) 1 1 0 0, am_e0 44 (.iadd) 1, am_e3 45 (.iload_n 2) 1 2 0 0, am_e0 46 (.iastore) 1, am_e3 47 (.iload_n 3) 1 3 0 0, am_e0 48 (.ireturn) 1]
set_option maxRecDepth 100000 in
def km_Mod_awayLots : List am_E := [am_ec 0 (.iconst 0) 1 0 0, am_e3 1 (.istore_n 1) 1 1 0 0, am_ec 2 (.iconst 0) 1 0 0, am_e3 3 (.istore_n 2) 1 2 0 0, am_e3 4 (.iload_n 2) 1 2 0 0, am_e0 5 (.aload_n 0) 1, am_e3 6 (.invokevirtual 53) 3 5 1 895, am_e3 9 (.if_icmp .ge 21) 3 30 0 0, am_e3 12 (.iload_n 1) 1 1 0 0, am_e0 13 (.aload_n 0) 1, am_e3 14 (.getfield 7) 3 10 0 790, am_ec 17 (.bipush 78) 2 0 78, am_e3 19 (.iload_n 2) 1 2 0 0, am_e0 20 (.iadd) 1, am_e0 21 (.iaload) 1, am_e0 22 (.iadd) 1, am_e3 23 (.istore_n 1) 1 1 0 0, am_ei 24 (.iinc 2 1) 3 2 1, am_e3 27 (.goto (-23)) 3 4 0 0, am_e3 30 (.iload_n 1) 1 1 0 0, am_e0 31 (.ireturn) 1]
set_option maxRecDepth 100000 in
def km_Mod_withdrawLot : List am_E := [am_e0 0 (.aload_n 0) 1, am_e3 1 (.iload_n 1) 1 1 0 0, am_e3 2 (.invokevirtual 93) 3 8 2 903, am_e3 5 (.ifCond .eq 5) 3 10 0 0, am_ec 8 (.iconst (-1)) 1 0 (-1), am_e0 9 (.ireturn) 1, am_e3 10 (.iload_n 2) 1 2 0 0, am_e3 11 (.ifCond .eq 7) 3 18 0 0, am_ec 14 (.iconst 1) 1 0 1, am_e3 15 (.goto 4) 3 19 0 0, am_ec 18 (.iconst 0) 1 0 0, am_e3 19 (.istore_n 3) 1 3 0 0, am_e0 20 (.aload_n 0) 1, am_e3 21 (.getfield 7) 3 10 0 790, am_ec 24 (.bipush 78) 2 0 78, am_e3 26 (.iload_n 1) 1 1 0 0, am_e0 27 (.iadd) 1, am_e0 28 (.iaload) 1, am_e3 29 (.iload_n 3) 1 3 0 0, am_e3 30 (.if_icmp .ne 6) 3 36 0 0, am_ec 33 (.bipush (-4)) 2 0 (-4), am_e0 35 (.ireturn) 1, am_e0 36 (.aload_n 0) 1, am_e3 37 (.invokevirtual 77) 3 11 1 862, am_e0 40 (.aload_n 0) 1, am_e3 41 (.getfield 7) 3 10 0 790, am_ec 44 (.bipush 78) 2 0 78, am_e3 46 (.iload_n 1) 1 1 0 0, am_e0 47 (.iadd) 1, am_e3 48 (.iload_n 3) 1 3 0 0, am_e0 49 (.iastore) 1, am_e0 50 (.aload_n 0) 1, am_e3 51 (.invokevirtual 97) 3 23 1 911, am_e0 54 (.ireturn) 1]
set_option maxRecDepth 100000 in
def km_Mod_addBidder : List am_E := [am_e3 0 (.iload_n 1) 1 1 0 0, am_ec 1 (.iconst 0) 1 0 0, am_ec 2 (.ldc 100) 2 919 10000000, am_e3 4 (.invokestatic 57) 3 1 3 854, am_e3 7 (.ifCond .ne 6) 3 13 0 0, am_ec 10 (.bipush (-2)) 2 0 (-2), am_e0 12 (.ireturn) 1, am_e0 13 (.aload_n 0) 1, am_e3 14 (.invokevirtual 61) 3 6 1 920, am_ec 17 (.bipush 8) 2 0 8, am_e3 19 (.if_icmp .ne 6) 3 25 0 0, am_ec 22 (.bipush (-3)) 2 0 (-3), am_e0 24 (.ireturn) 1, am_e0 25 (.aload_n 0) 1, am_e3 26 (.invokevirtual 77) 3 11 1 862, am_e0 29 (.aload_n 0) 1, am_e3 30 (.getfield 7) 3 10 0 790, am_ec 33 (.bipush 99) 2 0 99, am_e0 35 (.aload_n 0) 1, am_e3 36 (.invokevirtual 61) 3 6 1 920, am_e0 39 (.iadd) 1, am_e3 40 (.iload_n 1) 1 1 0 0, am_e0 41 (.iastore) 1, am_e0 42 (.aload_n 0) 1, am_e3 43 (.getfield 7) 3 10 0 790, am_ec 46 (.bipush 98) 2 0 98, am_e0 48 (.dup2) 1, am_e0 49 (.iaload) 1, am_ec 50 (.iconst 1) 1 0 1, am_e0 51 (.iadd) 1, am_e0 52 (.iastore) 1, am_e0 53 (.aload_n 0) 1, am_e3 54 (.invokevirtual 61) 3 6 1 920, am_ec 57 (.iconst 1) 1 0 1, am_e0 58 (.isub) 1, am_e0 59 (.ireturn) 1]
set_option maxRecDepth 100000 in
def km_Mod_setLimit : List am_E := [am_e0 0 (.aload_n 0) 1, am_e3 1 (.iload_n 1) 1 1 0 0, am_e3 2 (.invokevirtual 101) 3 9 2 928, am_e3 5 (.ifCond .eq 5) 3 10 0 0, am_ec 8 (.iconst (-1)) 1 0 (-1), am_e0 9 (.ireturn) 1, am_e3 10 (.iload_n 2) 1 2 0 0, am_ec 11 (.iconst 0) 1 0 0, am_ec 12 (.ldc 100) 2 919 10000000, am_e3 14 (.invokestatic 57) 3 1 3 854, am_e3 17 (.ifCond .ne 6) 3 23 0 0, am_ec 20 (.bipush (-2)) 2 0 (-2), am_e0 22 (.ireturn) 1, am_e0 23 (.aload_n 0) 1, am_e3 24 (.invokevirtual 77) 3 11 1 862, am_e0 27 (.aload_n 0) 1, am_e3 28 (.getfield 7) 3 10 0 790, am_ec 31 (.bipush 99) 2 0 99, am_e3 33 (.iload_n 1) 1 1 0 0, am_e0 34 (.iadd) 1, am_e0 35 (.iaload) 1, am_e3 36 (.istore_n 3) 1 3 0 0, am_e0 37 (.aload_n 0) 1, am_e3 38 (.getfield 7) 3 10 0 790, am_ec 41 (.bipush 99) 2 0 99, am_e3 43 (.iload_n 1) 1 1 0 0, am_e0 44 (.iadd) 1, am_e3 45 (.iload_n 2) 1 2 0 0, am_e0 46 (.iastore) 1, am_e3 47 (.iload_n 3) 1 3 0 0, am_e0 48 (.ireturn) 1]
set_option maxRecDepth 100000 in
def km_Mod_set : List am_E := [am_e3 0 (.iload_n 1) 1 1 0 0, am_ec 1 (.iconst 0) 1 0 0, am_ec 2 (.iconst 3) 1 0 3, am_e3 3 (.invokestatic 57) 3 1 3 854, am_e3 6 (.ifCond .ne 5) 3 11 0 0, am_ec 9 (.iconst (-1)) 1 0 (-1), am_e0 10 (.ireturn) 1, am_e3 11 (.iload_n 2) 1 2 0 0, am_ec 12 (.iconst 0) 1 0 0, am_e3 13 (.iload_n 1) 1 1 0 0, am_e3 14 (.ifCond .ne 8) 3 22 0 0, am_ec 17 (.ldc 72) 2 857 100000, am_e3 19 (.goto 17) 3 36 0 0, am_e3 22 (.iload_n 1) 1 1 0 0, am_ec 23 (.iconst 3) 1 0 3, am_e3 24 (.if_icmp .ne 9) 3 33 0 0, am_ec 27 (.sipush 1000) 3 0 1000, am_e3 30 (.goto 6) 3 36 0 0, am_ec 33 (.sipush 500) 3 0 500, am_e3 36 (.invokestatic 57) 3 1 3 854, am_e3 39 (.ifCond .ne 6) 3 45 0 0, am_ec 42 (.bipush (-2)) 2 0 (-2), am_e0 44 (.ireturn) 1, am_e0 45 (.aload_n 0) 1, am_e3 46 (.invokevirtual 77) 3 11 1 862, am_e0 49 (.aload_n 0) 1, am_e3 50 (.getfield 7) 3 10 0 790, am_ec 53 (.sipush 468) 3 0 468, am_e3 56 (.iload_n 1) 1 1 0 0, am_e0 57 (.iadd) 1, am_e0 58 (.iaload) 1, am_e3 59 (.istore_n 3) 1 3 0 0, am_e0 60 (.aload_n 0) 1, am_e3 61 (.getfield 7) 3 10 0 790, am_ec 64 (.sipush 468) 3 0 468, am_e3 67 (.iload_n 1) 1 1 0 0, am_e0 68 (.iadd) 1, am_e3 69 (.iload_n 2) 1 2 0 0, am_e0 70 (.iastore) 1, am_e3 71 (.iload_n 3) 1 3 0 0, am_e0 72 (.ireturn) 1]
set_option maxRecDepth 100000 in
def km_Mod_putBid : List am_E := [am_e0 0 (.aload_n 0) 1, am_e3 1 (.invokevirtual 64) 3 7 1 943, am_e3 4 (.istore 6) 2 6 0 0, am_e0 6 (.aload_n 0) 1, am_e3 7 (.getfield 7) 3 10 0 790, am_ec 10 (.bipush 108) 2 0 108, am_e3 12 (.iload 6) 2 6 0 0, am_e0 14 (.iadd) 1, am_e3 15 (.iload_n 2) 1 2 0 0, am_e0 16 (.iastore) 1, am_e0 17 (.aload_n 0) 1, am_e3 18 (.getfield 7) 3 10 0 790, am_ec 21 (.sipush 168) 3 0 168, am_e3 24 (.iload 6) 2 6 0 0, am_e0 26 (.iadd) 1, am_e3 27 (.iload_n 1) 1 1 0 0, am_e0 28 (.iastore) 1, am_e0 29 (.aload_n 0) 1, am_e3 30 (.getfield 7) 3 10 0 790, am_ec 33 (.sipush 228) 3 0 228, am_e3 36 (.iload 6) 2 6 0 0, am_e0 38 (.iadd) 1, am_e3 39 (.iload_n 3) 1 3 0 0, am_e0 40 (.iastore) 1, am_e0 41 (.aload_n 0) 1, am_e3 42 (.getfield 7) 3 10 0 790, am_ec 45 (.sipush 288) 3 0 288, am_e3 48 (.iload 6) 2 6 0 0, am_e0 50 (.iadd) 1, am_e3 51 (.iload 4) 2 4 0 0, am_e0 53 (.iastore) 1, am_e0 54 (.aload_n 0) 1, am_e3 55 (.getfield 7) 3 10 0 790, am_ec 58 (.sipush 348) 3 0 348, am_e3 61 (.iload 6) 2 6 0 0, am_e0 63 (.iadd) 1, am_e3 64 (.iload 5) 2 5 0 0, am_e0 66 (.iastore) 1, am_e0 67 (.aload_n 0) 1, am_e3 68 (.getfield 7) 3 10 0 790, am_ec 71 (.sipush 408) 3 0 408, am_e3 74 (.iload 6) 2 6 0 0, am_e0 76 (.iadd) 1, am_ec 77 (.iconst 0) 1 0 0, am_e0 78 (.iastore) 1, am_e0 79 (.aload_n 0) 1, am_e3 80 (.getfield 7) 3 10 0 790, am_ec 83 (.bipush 107) 2 0 107, am_e0 85 (.dup2) 1, am_e0 86 (.iaload) 1, am_ec 87 (.iconst 1) 1 0 1, am_e0 88 (.iadd) 1, am_e0 89 (.iastore) 1, am_e0 90 (.return_) 1]
set_option maxRecDepth 100000 in
def km_Mod_isMark : List am_E := [am_e0 0 (.iload_n 0) 1, am_ec 1 (.iconst 0) 1 0 0, am_ec 2 (.ldc 72) 2 857 100000, am_e3 4 (.invokestatic 57) 3 1 3 854, am_e0 7 (.ireturn) 1]
set_option maxRecDepth 100000 in
def km_Mod_bid : List am_E := [am_e0 0 (.aload_n 0) 1, am_e3 1 (.iload_n 1) 1 1 0 0, am_e3 2 (.invokevirtual 101) 3 9 2 928, am_e3 5 (.ifCond .ne 11) 3 16 0 0, am_e0 8 (.aload_n 0) 1, am_e3 9 (.iload_n 2) 1 2 0 0, am_e3 10 (.invokevirtual 93) 3 8 2 903, am_e3 13 (.ifCond .eq 5) 3 18 0 0, am_ec 16 (.iconst (-1)) 1 0 (-1), am_e0 17 (.ireturn) 1, am_e3 18 (.iload_n 3) 1 3 0 0, am_ec 19 (.iconst 1) 1 0 1, am_ec 20 (.ldc 71) 2 853 1000000, am_e3 22 (.invokestatic 57) 3 1 3 854, am_e3 25 (.ifCond .eq 22) 3 47 0 0, am_e3 28 (.iload 4) 2 4 0 0, am_e3 30 (.invokestatic 104) 3 29 1 940, am_e3 33 (.ifCond .eq 14) 3 47 0 0, am_e3 36 (.iload 5) 2 5 0 0, am_ec 38 (.iconst 0) 1 0 0, am_ec 39 (.ldc 71) 2 853 1000000, am_e3 41 (.invokestatic 57) 3 1 3 854, am_e3 44 (.ifCond .ne 6) 3 50 0 0, am_ec 47 (.bipush (-2)) 2 0 (-2), am_e0 49 (.ireturn) 1, am_e0 50 (.aload_n 0) 1, am_e3 51 (.invokevirtual 64) 3 7 1 943, am_ec 54 (.bipush 60) 2 0 60, am_e3 56 (.if_icmp .ne 6) 3 62 0 0, am_ec 59 (.bipush (-3)) 2 0 (-3), am_e0 61 (.ireturn) 1, am_e0 62 (.aload_n 0) 1, am_e3 63 (.invokevirtual 77) 3 11 1 862, am_e0 66 (.aload_n 0) 1, am_e3 67 (.iload_n 1) 1 1 0 0, am_e3 68 (.iload_n 2) 1 2 0 0, am_e3 69 (.iload_n 3) 1 3 0 0, am_e3 70 (.iload 4) 2 4 0 0, am_e3 72 (.iload 5) 2 5 0 0, am_e3 74 (.invokevirtual 107) 3 28 6 947, am_e0 77 (.aload_n 0) 1, am_e3 78 (.invokevirtual 64) 3 7 1 943, am_ec 81 (.iconst 1) 1 0 1, am_e0 82 (.isub) 1, am_e0 83 (.ireturn) 1]
set_option maxRecDepth 100000 in
def km_Mod_withdrawBid : List am_E := [am_e0 0 (.aload_n 0) 1, am_e3 1 (.iload_n 1) 1 1 0 0, am_e3 2 (.invokevirtual 111) 3 10 2 955, am_e3 5 (.ifCond .eq 5) 3 10 0 0, am_ec 8 (.iconst (-1)) 1 0 (-1), am_e0 9 (.ireturn) 1, am_e0 10 (.aload_n 0) 1, am_e3 11 (.getfield 7) 3 10 0 790, am_ec 14 (.sipush 408) 3 0 408, am_e3 17 (.iload_n 1) 1 1 0 0, am_e0 18 (.iadd) 1, am_e0 19 (.iaload) 1, am_ec 20 (.iconst 1) 1 0 1, am_e3 21 (.if_icmp .ne 6) 3 27 0 0, am_ec 24 (.bipush (-4)) 2 0 (-4), am_e0 26 (.ireturn) 1, am_e0 27 (.aload_n 0) 1, am_e3 28 (.invokevirtual 77) 3 11 1 862, am_e0 31 (.aload_n 0) 1, am_e3 32 (.getfield 7) 3 10 0 790, am_ec 35 (.sipush 408) 3 0 408, am_e3 38 (.iload_n 1) 1 1 0 0, am_e0 39 (.iadd) 1, am_ec 40 (.iconst 1) 1 0 1, am_e0 41 (.iastore) 1, am_e0 42 (.aload_n 0) 1, am_e3 43 (.getfield 7) 3 10 0 790, am_ec 46 (.bipush 108) 2 0 108, am_e3 48 (.iload_n 1) 1 1 0 0, am_e0 49 (.iadd) 1, am_e0 50 (.iaload) 1, am_e0 51 (.ireturn) 1]
set_option maxRecDepth 100000 in
def km_Mod_type : List am_E := [am_e0 0 (.aload_n 0) 1, am_e3 1 (.getfield 114) 3 10 3 793, am_ec 4 (.bipush 80) 2 0 80, am_e3 6 (.if_icmp .ne 6) 3 12 0 0, am_ec 9 (.bipush (-3)) 2 0 (-3), am_e0 11 (.ireturn) 1, am_e0 12 (.aload_n 0) 1, am_e3 13 (.getfield 16) 3 10 4 794, am_e0 16 (.aload_n 0) 1, am_e3 17 (.getfield 114) 3 10 3 793, am_e3 20 (.iload_n 1) 1 1 0 0, am_e0 21 (.castore) 1, am_e0 22 (.aload_n 0) 1, am_e0 23 (.dup) 1, am_e3 24 (.getfield 114) 3 10 3 793, am_ec 27 (.iconst 1) 1 0 1, am_e0 28 (.iadd) 1, am_e3 29 (.putfield 114) 3 10 3 793, am_e0 32 (.aload_n 0) 1, am_e3 33 (.getfield 114) 3 10 3 793, am_e0 36 (.ireturn) 1]
set_option maxRecDepth 100000 in
def km_Mod_clearText : List am_E := [am_e0 0 (.aload_n 0) 1, am_e3 1 (.getfield 114) 3 10 3 793, am_e3 4 (.istore_n 1) 1 1 0 0, am_e0 5 (.aload_n 0) 1, am_ec 6 (.iconst 0) 1 0 0, am_e3 7 (.putfield 114) 3 10 3 793, am_e3 10 (.iload_n 1) 1 1 0 0, am_e0 11 (.ireturn) 1]
set_option maxRecDepth 100000 in
def km_Mod_isAt : List am_E := [am_e0 0 (.aload_n 0) 1, am_e3 1 (.getfield 117) 3 10 5 795, am_e0 4 (.aload_n 0) 1, am_e3 5 (.getfield 114) 3 10 3 793, am_e3 8 (.if_icmp .ge 33) 3 41 0 0, am_e0 11 (.aload_n 0) 1, am_e3 12 (.getfield 16) 3 10 4 794, am_e0 15 (.aload_n 0) 1, am_e3 16 (.getfield 117) 3 10 5 795, am_e0 19 (.caload) 1, am_e3 20 (.iload_n 1) 1 1 0 0, am_e3 21 (.if_icmp .lt 20) 3 41 0 0, am_e0 24 (.aload_n 0) 1, am_e3 25 (.getfield 16) 3 10 4 794, am_e0 28 (.aload_n 0) 1, am_e3 29 (.getfield 117) 3 10 5 795, am_e0 32 (.caload) 1, am_e3 33 (.iload_n 2) 1 2 0 0, am_e3 34 (.if_icmp .gt 7) 3 41 0 0, am_ec 37 (.iconst 1) 1 0 1, am_e3 38 (.goto 4) 3 42 0 0, am_ec 41 (.iconst 0) 1 0 0, am_e0 42 (.ireturn) 1]
set_option maxRecDepth 100000 in
def km_Mod_number : List am_E := [am_e0 0 (.aload_n 0) 1, am_e3 1 (.getfield 117) 3 10 5 795, am_e3 4 (.istore 4) 2 4 0 0, am_ec 6 (.iconst 0) 1 0 0, am_e3 7 (.istore 5) 2 5 0 0, am_e0 9 (.aload_n 0) 1, am_e3 10 (.getfield 120) 3 10 6 796, am_e3 13 (.ifCond .eq 31) 3 44 0 0, am_e3 16 (.iload_n 2) 1 2 0 0, am_e3 17 (.ifCond .eq 27) 3 44 0 0, am_e0 20 (.aload_n 0) 1, am_ec 21 (.bipush 48) 2 0 48, am_ec 23 (.bipush 48) 2 0 48, am_e3 25 (.invokevirtual 124) 3 34 3 983, am_e3 28 (.ifCond .eq 16) 3 44 0 0, am_e0 31 (.aload_n 0) 1, am_e0 32 (.dup) 1, am_e3 33 (.getfield 117) 3 10 5 795, am_ec 36 (.iconst 1) 1 0 1, am_e0 37 (.iadd) 1, am_e3 38 (.putfield 117) 3 10 5 795, am_e3 41 (.goto 79) 3 120 0 0, am_e0 44 (.aload_n 0) 1, am_e3 45 (.getfield 120) 3 10 6 796, am_e3 48 (.ifCond .eq 72) 3 120 0 0, am_e0 51 (.aload_n 0) 1, am_e3 52 (.getfield 117) 3 10 5 795, am_e3 55 (.iload 4) 2 4 0 0, am_e3 57 (.iload_n 1) 1 1 0 0, am_e0 58 (.iadd) 1, am_e3 59 (.if_icmp .ge 61) 3 120 0 0, am_e0 62 (.aload_n 0) 1, am_e0 63 (.aload_n 0) 1, am_e3 64 (.getfield 117) 3 10 5 795, am_e3 67 (.iload 4) 2 4 0 0, am_e3 69 (.if_icmp .ne 8) 3 77 0 0, am_ec 72 (.bipush 49) 2 0 49, am_e3 74 (.goto 5) 3 79 0 0, am_ec 77 (.bipush 48) 2 0 48, am_ec 79 (.bipush 57) 2 0 57, am_e3 81 (.invokevirtual 124) 3 34 3 983, am_e3 84 (.ifCond .eq 36) 3 120 0 0, am_ec 87 (.bipush 10) 2 0 10, am_e3 89 (.iload 5) 2 5 0 0, am_e0 91 (.imul) 1, am_e0 92 (.aload_n 0) 1, am_e3 93 (.getfield 16) 3 10 4 794, am_e0 96 (.aload_n 0) 1, am_e3 97 (.getfield 117) 3 10 5 795, am_e0 100 (.caload) 1, am_e0 101 (.iadd) 1, am_ec 102 (.bipush 48) 2 0 48, am_e0 104 (.isub) 1, am_e3 105 (.istore 5) 2 5 0 0, am_e0 107 (.aload_n 0) 1, am_e0 108 (.dup) 1, am_e3 109 (.getfield 117) 3 10 5 795, am_ec 112 (.iconst 1) 1 0 1, am_e0 113 (.iadd) 1, am_e3 114 (.putfield 117) 3 10 5 795, am_e3 117 (.goto (-73)) 3 44 0 0, am_e0 120 (.aload_n 0) 1, am_e0 121 (.aload_n 0) 1, am_e3 122 (.getfield 120) 3 10 6 796, am_e3 125 (.ifCond .eq 27) 3 152 0 0, am_e0 128 (.aload_n 0) 1, am_e3 129 (.getfield 117) 3 10 5 795, am_e3 132 (.iload 4) 2 4 0 0, am_e3 134 (.if_icmp .le 18) 3 152 0 0, am_e0 137 (.aload_n 0) 1, am_ec 138 (.bipush 48) 2 0 48, am_ec 140 (.bipush 57) 2 0 57, am_e3 142 (.invokevirtual 124) 3 34 3 983, am_e3 145 (.ifCond .ne 7) 3 152 0 0, am_ec 148 (.iconst 1) 1 0 1, am_e3 149 (.goto 4) 3 153 0 0, am_ec 152 (.iconst 0) 1 0 0, am_e3 153 (.putfield 120) 3 10 6 796, am_e0 156 (.aload_n 0) 1, am_e3 157 (.getfield 120) 3 10 6 796, am_e3 160 (.ifCond .eq 20) 3 180 0 0, am_e3 163 (.iload 5) 2 5 0 0, am_e3 165 (.iload_n 3) 1 3 0 0, am_e3 166 (.if_icmp .le 14) 3 180 0 0, am_e0 169 (.aload_n 0) 1, am_ec 170 (.iconst 0) 1 0 0, am_e3 171 (.putfield 120) 3 10 6 796, am_e0 174 (.aload_n 0) 1, am_e3 175 (.iload 4) 2 4 0 0, am_e3 177 (.putfield 117) 3 10 5 795, am_e3 180 (.iload 5) 2 5 0 0, am_e0 182 (.ireturn) 1]
set_option maxRecDepth 100000 in
def km_Mod_sign : List am_E := [am_e0 0 (.aload_n 0) 1, am_e3 1 (.getfield 120) 3 10 6 796, am_e3 4 (.ifCond .eq 25) 3 29 0 0, am_e0 7 (.aload_n 0) 1, am_e3 8 (.iload_n 1) 1 1 0 0, am_e3 9 (.iload_n 1) 1 1 0 0, am_e3 10 (.invokevirtual 124) 3 34 3 983, am_e3 13 (.ifCond .eq 16) 3 29 0 0, am_e0 16 (.aload_n 0) 1, am_e0 17 (.dup) 1, am_e3 18 (.getfield 117) 3 10 5 795, am_ec 21 (.iconst 1) 1 0 1, am_e0 22 (.iadd) 1, am_e3 23 (.putfield 117) 3 10 5 795, am_e3 26 (.goto 8) 3 34 0 0, am_e0 29 (.aload_n 0) 1, am_ec 30 (.iconst 0) 1 0 0, am_e3 31 (.putfield 120) 3 10 6 796, am_e0 34 (.return_) 1]
set_option maxRecDepth 100000 in
def km_Mod_readAlternative : List am_E := [am_e0 0 (.aload_n 0) 1, am_ec 1 (.iconst 2) 1 0 2, am_ec 2 (.iconst 1) 1 0 1, am_e0 3 (.aload_n 0) 1, am_e3 4 (.invokevirtual 53) 3 5 1 895, am_ec 7 (.iconst 1) 1 0 1, am_e0 8 (.isub) 1, am_e3 9 (.invokevirtual 128) 3 35 4 979, am_e3 12 (.istore_n 2) 1 2 0 0, am_e0 13 (.aload_n 0) 1, am_ec 14 (.bipush 61) 2 0 61, am_e3 16 (.invokevirtual 132) 3 36 2 987, am_e0 19 (.aload_n 0) 1, am_ec 20 (.bipush 7) 2 0 7, am_ec 22 (.iconst 0) 1 0 0, am_ec 23 (.ldc 71) 2 853 1000000, am_e3 25 (.invokevirtual 128) 3 35 4 979, am_e3 28 (.istore_n 3) 1 3 0 0, am_e0 29 (.aload_n 0) 1, am_e3 30 (.getfield 120) 3 10 6 796, am_e3 33 (.ifCond .eq 43) 3 76 0 0, am_e0 36 (.aload_n 0) 1, am_e3 37 (.getfield 20) 3 10 8 798, am_e0 40 (.aload_n 0) 1, am_e3 41 (.getfield 136) 3 10 7 797, am_e3 44 (.iload_n 2) 1 2 0 0, am_e0 45 (.iastore) 1, am_e0 46 (.aload_n 0) 1, am_e3 47 (.getfield 23) 3 10 9 799, am_e0 50 (.aload_n 0) 1, am_e3 51 (.getfield 136) 3 10 7 797, am_e3 54 (.iload_n 3) 1 3 0 0, am_e0 55 (.iastore) 1, am_e0 56 (.aload_n 0) 1, am_e3 57 (.getfield 26) 3 10 10 800, am_e0 60 (.aload_n 0) 1, am_e3 61 (.getfield 136) 3 10 7 797, am_e3 64 (.iload_n 1) 1 1 0 0, am_e0 65 (.iastore) 1, am_e0 66 (.aload_n 0) 1, am_e0 67 (.dup) 1, am_e3 68 (.getfield 136) 3 10 7 797, am_ec 71 (.iconst 1) 1 0 1, am_e0 72 (.iadd) 1, am_e3 73 (.putfield 136) 3 10 7 797, am_e0 76 (.return_) 1]
set_option maxRecDepth 100000 in
def km_Mod_readLetter : List am_E := [am_e0 0 (.aload_n 0) 1, am_ec 1 (.iconst 0) 1 0 0, am_e3 2 (.putfield 117) 3 10 5 795, am_e0 5 (.aload_n 0) 1, am_ec 6 (.iconst 1) 1 0 1, am_e3 7 (.putfield 120) 3 10 6 796, am_e0 10 (.aload_n 0) 1, am_ec 11 (.iconst 0) 1 0 0, am_e3 12 (.putfield 136) 3 10 7 797, am_ec 15 (.iconst 0) 1 0 0, am_e3 16 (.istore_n 1) 1 1 0 0, am_e0 17 (.aload_n 0) 1, am_e3 18 (.iload_n 1) 1 1 0 0, am_e3 19 (.invokevirtual 139) 3 37 2 975, am_e0 22 (.aload_n 0) 1, am_e3 23 (.getfield 120) 3 10 6 796, am_e3 26 (.ifCond .eq 62) 3 88 0 0, am_e0 29 (.aload_n 0) 1, am_ec 30 (.bipush 47) 2 0 47, am_ec 32 (.bipush 47) 2 0 47, am_e3 34 (.invokevirtual 124) 3 34 3 983, am_e3 37 (.ifCond .ne 14) 3 51 0 0, am_e0 40 (.aload_n 0) 1, am_ec 41 (.bipush 44) 2 0 44, am_ec 43 (.bipush 44) 2 0 44, am_e3 45 (.invokevirtual 124) 3 34 3 983, am_e3 48 (.ifCond .eq 40) 3 88 0 0, am_e3 51 (.iload_n 1) 1 1 0 0, am_e0 52 (.aload_n 0) 1, am_ec 53 (.bipush 44) 2 0 44, am_ec 55 (.bipush 44) 2 0 44, am_e3 57 (.invokevirtual 124) 3 34 3 983, am_e3 60 (.ifCond .eq 7) 3 67 0 0, am_ec 63 (.iconst 1) 1 0 1, am_e3 64 (.goto 4) 3 68 0 0, am_ec 67 (.iconst 0) 1 0 0, am_e0 68 (.iadd) 1, am_e3 69 (.istore_n 1) 1 1 0 0, am_e0 70 (.aload_n 0) 1, am_e0 71 (.dup) 1, am_e3 72 (.getfield 117) 3 10 5 795, am_ec 75 (.iconst 1) 1 0 1, am_e0 76 (.iadd) 1, am_e3 77 (.putfield 117) 3 10 5 795, am_e0 80 (.aload_n 0) 1, am_e3 81 (.iload_n 1) 1 1 0 0, am_e3 82 (.invokevirtual 139) 3 37 2 975, am_e3 85 (.goto (-63)) 3 22 0 0, am_e0 88 (.aload_n 0) 1, am_e0 89 (.aload_n 0) 1, am_e3 90 (.getfield 120) 3 10 6 796, am_e3 93 (.ifCond .eq 18) 3 111 0 0, am_e0 96 (.aload_n 0) 1, am_e3 97 (.getfield 117) 3 10 5 795, am_e0 100 (.aload_n 0) 1, am_e3 101 (.getfield 114) 3 10 3 793, am_e3 104 (.if_icmp .ne 7) 3 111 0 0, am_ec 107 (.iconst 1) 1 0 1, am_e3 108 (.goto 4) 3 112 0 0, am_ec 111 (.iconst 0) 1 0 0, am_e3 112 (.putfield 120) 3 10 6 796, am_e0 115 (.return_) 1]
set_option maxRecDepth 100000 in
def km_Mod_hasOthers : List am_E := [am_ec 0 (.iconst 0) 1 0 0, am_e3 1 (.istore_n 2) 1 2 0 0, am_ec 2 (.iconst 0) 1 0 0, am_e3 3 (.istore_n 3) 1 3 0 0, am_e3 4 (.iload_n 3) 1 3 0 0, am_e0 5 (.aload_n 0) 1, am_e3 6 (.getfield 136) 3 10 7 797, am_e3 9 (.if_icmp .ge 39) 3 48 0 0, am_e3 12 (.iload_n 2) 1 2 0 0, am_e3 13 (.ifCond .ne 23) 3 36 0 0, am_e3 16 (.iload_n 3) 1 3 0 0, am_e3 17 (.iload_n 1) 1 1 0 0, am_e3 18 (.if_icmp .eq 22) 3 40 0 0, am_e0 21 (.aload_n 0) 1, am_e3 22 (.getfield 26) 3 10 10 800, am_e3 25 (.iload_n 3) 1 3 0 0, am_e0 26 (.iaload) 1, am_e0 27 (.aload_n 0) 1, am_e3 28 (.getfield 26) 3 10 10 800, am_e3 31 (.iload_n 1) 1 1 0 0, am_e0 32 (.iaload) 1, am_e3 33 (.if_icmp .ne 7) 3 40 0 0, am_ec 36 (.iconst 1) 1 0 1, am_e3 37 (.goto 4) 3 41 0 0, am_ec 40 (.iconst 0) 1 0 0, am_e3 41 (.istore_n 2) 1 2 0 0, am_ei 42 (.iinc 3 1) 3 3 1, am_e3 45 (.goto (-41)) 3 4 0 0, am_e3 48 (.iload_n 2) 1 2 0 0, am_e0 49 (.ireturn) 1]
set_option maxRecDepth 100000 in
def km_Mod_letter : List am_E := [am_e0 0 (.aload_n 0) 1, am_e3 1 (.iload_n 1) 1 1 0 0, am_e3 2 (.invokevirtual 101) 3 9 2 928, am_e3 5 (.ifCond .eq 5) 3 10 0 0, am_ec 8 (.iconst (-1)) 1 0 (-1), am_e0 9 (.ireturn) 1, am_e3 10 (.iload_n 2) 1 2 0 0, am_e3 11 (.invokestatic 104) 3 29 1 940, am_e3 14 (.ifCond .ne 6) 3 20 0 0, am_ec 17 (.bipush (-2)) 2 0 (-2), am_e0 19 (.ireturn) 1, am_e0 20 (.aload_n 0) 1, am_e3 21 (.invokevirtual 143) 3 38 1 971, am_e0 24 (.aload_n 0) 1, am_e3 25 (.getfield 120) 3 10 6 796, am_e3 28 (.ifCond .ne 11) 3 39 0 0, am_ec 31 (.bipush (-100)) 2 0 (-100), am_e0 33 (.aload_n 0) 1, am_e3 34 (.getfield 117) 3 10 5 795, am_e0 37 (.isub) 1, am_e0 38 (.ireturn) 1, am_e0 39 (.aload_n 0) 1, am_e3 40 (.invokevirtual 64) 3 7 1 943, am_e0 43 (.aload_n 0) 1, am_e3 44 (.getfield 136) 3 10 7 797, am_e0 47 (.iadd) 1, am_ec 48 (.bipush 60) 2 0 60, am_e3 50 (.if_icmp .le 6) 3 56 0 0, am_ec 53 (.bipush (-3)) 2 0 (-3), am_e0 55 (.ireturn) 1, am_e0 56 (.aload_n 0) 1, am_e3 57 (.invokevirtual 77) 3 11 1 862, am_ec 60 (.iconst 0) 1 0 0, am_e3 61 (.istore_n 3) 1 3 0 0, am_ec 62 (.iconst 0) 1 0 0, am_e3 63 (.istore 4) 2 4 0 0, am_e3 65 (.iload 4) 2 4 0 0, am_e0 67 (.aload_n 0) 1, am_e3 68 (.invokevirtual 64) 3 7 1 943, am_e3 71 (.if_icmp .ge 44) 3 115 0 0, am_e0 74 (.aload_n 0) 1, am_e3 75 (.getfield 7) 3 10 0 790, am_ec 78 (.sipush 168) 3 0 168, am_e3 81 (.iload 4) 2 4 0 0, am_e0 83 (.iadd) 1, am_e0 84 (.iaload) 1, am_e3 85 (.iload_n 1) 1 1 0 0, am_e3 86 (.if_icmp .ne 21) 3 107 0 0, am_e3 89 (.iload_n 3) 1 3 0 0, am_e0 90 (.aload_n 0) 1, am_e3 91 (.getfield 7) 3 10 0 790, am_ec 94 (.sipush 348) 3 0 348, am_e3 97 (.iload 4) 2 4 0 0, am_e0 99 (.iadd) 1, am_e0 100 (.iaload) 1, am_e3 101 (.invokestatic 146) 3 3 2 991, am_e3 104 (.goto 4) 3 108 0 0, am_e3 107 (.iload_n 3) 1 3 0 0, am_e3 108 (.istore_n 3) 1 3 0 0, am_ei 109 (.iinc 4 1) 3 4 1, am_e3 112 (.goto (-47)) 3 65 0 0, am_ec 115 (.iconst 0) 1 0 0, am_e3 116 (.istore 4) 2 4 0 0, am_e3 118 (.iload 4) 2 4 0 0, am_e0 120 (.aload_n 0) 1, am_e3 121 (.getfield 136) 3 10 7 797, am_e3 124 (.if_icmp .ge 96) 3 220 0 0, am_e0 127 (.aload_n 0) 1, am_e3 128 (.iload 4) 2 4 0 0, am_e3 130 (.invokevirtual 150) 3 39 2 994, am_e3 133 (.ifCond .eq 31) 3 164 0 0, am_e3 136 (.iload 4) 2 4 0 0, am_e3 138 (.ifCond .eq 22) 3 160 0 0, am_e0 141 (.aload_n 0) 1, am_e3 142 (.getfield 26) 3 10 10 800, am_e3 145 (.iload 4) 2 4 0 0, am_ec 147 (.iconst 1) 1 0 1, am_e0 148 (.isub) 1, am_e0 149 (.iaload) 1, am_e0 150 (.aload_n 0) 1, am_e3 151 (.getfield 26) 3 10 10 800, am_e3 154 (.iload 4) 2 4 0 0, am_e0 156 (.iaload) 1, am_e3 157 (.if_icmp .eq 7) 3 164 0 0, am_ec 160 (.iconst 1) 1 0 1, am_e3 161 (.goto 4) 3 165 0 0, am_ec 164 (.iconst 0) 1 0 0, am_e3 165 (.istore 5) 2 5 0 0, am_e3 167 (.iload_n 3) 1 3 0 0, am_e3 168 (.iload 5) 2 5 0 0, am_e3 170 (.ifCond .eq 7) 3 177 0 0, am_ec 173 (.iconst 1) 1 0 1, am_e3 174 (.goto 4) 3 178 0 0, am_ec 177 (.iconst 0) 1 0 0, am_e0 178 (.iadd) 1, am_e3 179 (.istore_n 3) 1 3 0 0, am_e0 180 (.aload_n 0) 1, am_e3 181 (.iload_n 1) 1 1 0 0, am_e0 182 (.aload_n 0) 1, am_e3 183 (.getfield 20) 3 10 8 798, am_e3 186 (.iload 4) 2 4 0 0, am_e0 188 (.iaload) 1, am_e0 189 (.aload_n 0) 1, am_e3 190 (.getfield 23) 3 10 9 799, am_e3 193 (.iload 4) 2 4 0 0, am_e0 195 (.iaload) 1, am_e3 196 (.iload_n 2) 1 2 0 0, am_e0 197 (.aload_n 0) 1, am_e3 198 (.iload 4) 2 4 0 0, am_e3 200 (.invokevirtual 150) 3 39 2 994, am_e3 203 (.ifCond .eq 7) 3 210 0 0, am_e3 206 (.iload_n 3) 1 3 0 0, am_e3 207 (.goto 4) 3 211 0 0, am_ec 210 (.iconst 0) 1 0 0, am_e3 211 (.invokevirtual 107) 3 28 6 947, am_ei 214 (.iinc 4 1) 3 4 1, am_e3 217 (.goto (-99)) 3 118 0 0, am_e0 220 (.aload_n 0) 1, am_e3 221 (.getfield 136) 3 10 7 797, am_e0 224 (.ireturn) 1]
set_option maxRecDepth 100000 in
def km_Mod_worthOf : List am_E := [am_e0 0 (.aload_n 0) 1, am_e3 1 (.getfield 7) 3 10 0 790, am_ec 4 (.bipush 108) 2 0 108, am_e3 6 (.iload_n 1) 1 1 0 0, am_e0 7 (.iadd) 1, am_e0 8 (.iaload) 1, am_e3 9 (.istore_n 2) 1 2 0 0, am_e0 10 (.aload_n 0) 1, am_e0 11 (.aload_n 0) 1, am_e3 12 (.getfield 7) 3 10 0 790, am_ec 15 (.sipush 228) 3 0 228, am_e3 18 (.iload_n 1) 1 1 0 0, am_e0 19 (.iadd) 1, am_e0 20 (.iaload) 1, am_e0 21 (.aload_n 0) 1, am_e3 22 (.getfield 29) 3 10 11 801, am_ec 25 (.bipush 8) 2 0 8, am_e3 27 (.iload_n 2) 1 2 0 0, am_e0 28 (.imul) 1, am_e0 29 (.aload_n 0) 1, am_e3 30 (.getfield 7) 3 10 0 790, am_ec 33 (.sipush 168) 3 0 168, am_e3 36 (.iload_n 1) 1 1 0 0, am_e0 37 (.iadd) 1, am_e0 38 (.iaload) 1, am_e0 39 (.iadd) 1, am_e0 40 (.iaload) 1, am_e3 41 (.invokestatic 153) 3 4 2 1030, am_e3 44 (.invokevirtual 83) 3 17 2 875, am_e0 47 (.ireturn) 1]
set_option maxRecDepth 100000 in
def km_Mod_isLate : List am_E := [am_e0 0 (.aload_n 0) 1, am_e3 1 (.getfield 7) 3 10 0 790, am_ec 4 (.sipush 288) 3 0 288, am_e3 7 (.iload_n 1) 1 1 0 0, am_e0 8 (.iadd) 1, am_e0 9 (.iaload) 1, am_e0 10 (.aload_n 0) 1, am_e3 11 (.getfield 7) 3 10 0 790, am_ec 14 (.sipush 468) 3 0 468, am_e0 17 (.iaload) 1, am_e3 18 (.if_icmp .le 7) 3 25 0 0, am_ec 21 (.iconst 1) 1 0 1, am_e3 22 (.goto 4) 3 26 0 0, am_ec 25 (.iconst 0) 1 0 0, am_e0 26 (.ireturn) 1]
set_option maxRecDepth 100000 in
def km_Mod_isServed : List am_E := [am_ec 0 (.iconst 0) 1 0 0, am_e3 1 (.istore_n 2) 1 2 0 0, am_ec 2 (.iconst 0) 1 0 0, am_e3 3 (.istore_n 3) 1 3 0 0, am_e3 4 (.iload_n 3) 1 3 0 0, am_e0 5 (.aload_n 0) 1, am_e3 6 (.getfield 7) 3 10 0 790, am_ec 9 (.bipush 108) 2 0 108, am_e3 11 (.iload_n 1) 1 1 0 0, am_e0 12 (.iadd) 1, am_e0 13 (.iaload) 1, am_e3 14 (.if_icmp .ge 91) 3 105 0 0, am_e0 17 (.aload_n 0) 1, am_e3 18 (.getfield 7) 3 10 0 790, am_ec 21 (.sipush 348) 3 0 348, am_e3 24 (.iload_n 1) 1 1 0 0, am_e0 25 (.iadd) 1, am_e0 26 (.iaload) 1, am_e3 27 (.ifCond .le 78) 3 105 0 0, am_e0 30 (.aload_n 0) 1, am_e3 31 (.getfield 44) 3 10 16 806, am_e3 34 (.iload_n 3) 1 3 0 0, am_e0 35 (.iaload) 1, am_e0 36 (.aload_n 0) 1, am_e3 37 (.getfield 7) 3 10 0 790, am_ec 40 (.sipush 168) 3 0 168, am_e3 43 (.iload_n 1) 1 1 0 0, am_e0 44 (.iadd) 1, am_e0 45 (.iaload) 1, am_e3 46 (.if_icmp .ne 7) 3 53 0 0, am_ec 49 (.iconst 1) 1 0 1, am_e3 50 (.goto 4) 3 54 0 0, am_ec 53 (.iconst 0) 1 0 0, am_e3 54 (.istore 4) 2 4 0 0, am_e3 56 (.iload_n 2) 1 2 0 0, am_e3 57 (.ifCond .ne 36) 3 93 0 0, am_e3 60 (.iload 4) 2 4 0 0, am_e3 62 (.ifCond .eq 35) 3 97 0 0, am_e0 65 (.aload_n 0) 1, am_e3 66 (.getfield 7) 3 10 0 790, am_ec 69 (.sipush 348) 3 0 348, am_e0 72 (.aload_n 0) 1, am_e3 73 (.getfield 35) 3 10 13 803, am_e3 76 (.iload_n 3) 1 3 0 0, am_e0 77 (.iaload) 1, am_e0 78 (.iadd) 1, am_e0 79 (.iaload) 1, am_e0 80 (.aload_n 0) 1, am_e3 81 (.getfield 7) 3 10 0 790, am_ec 84 (.sipush 348) 3 0 348, am_e3 87 (.iload_n 1) 1 1 0 0, am_e0 88 (.iadd) 1, am_e0 89 (.iaload) 1, am_e3 90 (.if_icmp .ne 7) 3 97 0 0, am_ec 93 (.iconst 1) 1 0 1, am_e3 94 (.goto 4) 3 98 0 0, am_ec 97 (.iconst 0) 1 0 0, am_e3 98 (.istore_n 2) 1 2 0 0, am_ei 99 (.iinc 3 1) 3 3 1, am_e3 102 (.goto (-98)) 3 4 0 0, am_e3 105 (.iload_n 2) 1 2 0 0, am_e0 106 (.ireturn) 1]
set_option maxRecDepth 100000 in
def km_Mod_counts : List am_E := [am_e0 0 (.aload_n 0) 1, am_e3 1 (.getfield 7) 3 10 0 790, am_ec 4 (.sipush 408) 3 0 408, am_e3 7 (.iload_n 1) 1 1 0 0, am_e0 8 (.iadd) 1, am_e0 9 (.iaload) 1, am_e3 10 (.ifCond .ne 52) 3 62 0 0, am_e0 13 (.aload_n 0) 1, am_e3 14 (.iload_n 1) 1 1 0 0, am_e3 15 (.invokevirtual 156) 3 42 2 1018, am_e3 18 (.ifCond .ne 44) 3 62 0 0, am_e0 21 (.aload_n 0) 1, am_e3 22 (.iload_n 1) 1 1 0 0, am_e3 23 (.invokevirtual 159) 3 43 2 1022, am_e3 26 (.ifCond .ne 36) 3 62 0 0, am_e0 29 (.aload_n 0) 1, am_e3 30 (.iload_n 1) 1 1 0 0, am_e3 31 (.invokevirtual 162) 3 41 2 1026, am_e0 34 (.aload_n 0) 1, am_e0 35 (.aload_n 0) 1, am_e3 36 (.getfield 7) 3 10 0 790, am_ec 39 (.bipush 38) 2 0 38, am_e0 41 (.aload_n 0) 1, am_e3 42 (.getfield 7) 3 10 0 790, am_ec 45 (.bipush 108) 2 0 108, am_e3 47 (.iload_n 1) 1 1 0 0, am_e0 48 (.iadd) 1, am_e0 49 (.iaload) 1, am_e0 50 (.iadd) 1, am_e0 51 (.iaload) 1, am_e3 52 (.invokevirtual 90) 3 19 2 883, am_e3 55 (.if_icmp .lt 7) 3 62 0 0, am_ec 58 (.iconst 1) 1 0 1, am_e3 59 (.goto 4) 3 63 0 0, am_ec 62 (.iconst 0) 1 0 0, am_e0 63 (.ireturn) 1]
set_option maxRecDepth 100000 in
def km_Mod_isAhead : List am_E := [am_e0 0 (.aload_n 0) 1, am_e3 1 (.iload_n 1) 1 1 0 0, am_e3 2 (.invokevirtual 162) 3 41 2 1026, am_e0 5 (.aload_n 0) 1, am_e3 6 (.iload_n 2) 1 2 0 0, am_e3 7 (.invokevirtual 162) 3 41 2 1026, am_e3 10 (.if_icmp .eq 22) 3 32 0 0, am_e0 13 (.aload_n 0) 1, am_e3 14 (.iload_n 1) 1 1 0 0, am_e3 15 (.invokevirtual 162) 3 41 2 1026, am_e0 18 (.aload_n 0) 1, am_e3 19 (.iload_n 2) 1 2 0 0, am_e3 20 (.invokevirtual 162) 3 41 2 1026, am_e3 23 (.if_icmp .le 7) 3 30 0 0, am_ec 26 (.iconst 1) 1 0 1, am_e3 27 (.goto 4) 3 31 0 0, am_ec 30 (.iconst 0) 1 0 0, am_e0 31 (.ireturn) 1, am_e0 32 (.aload_n 0) 1, am_e3 33 (.getfield 7) 3 10 0 790, am_ec 36 (.sipush 288) 3 0 288, am_e3 39 (.iload_n 1) 1 1 0 0, am_e0 40 (.iadd) 1, am_e0 41 (.iaload) 1, am_e0 42 (.aload_n 0) 1, am_e3 43 (.getfield 7) 3 10 0 790, am_ec 46 (.sipush 288) 3 0 288, am_e3 49 (.iload_n 2) 1 2 0 0, am_e0 50 (.iadd) 1, am_e0 51 (.iaload) 1, am_e3 52 (.if_icmp .eq 34) 3 86 0 0, am_e0 55 (.aload_n 0) 1, am_e3 56 (.getfield 7) 3 10 0 790, am_ec 59 (.sipush 288) 3 0 288, am_e3 62 (.iload_n 1) 1 1 0 0, am_e0 63 (.iadd) 1, am_e0 64 (.iaload) 1, am_e0 65 (.aload_n 0) 1, am_e3 66 (.getfield 7) 3 10 0 790, am_ec 69 (.sipush 288) 3 0 288, am_e3 72 (.iload_n 2) 1 2 0 0, am_e0 73 (.iadd) 1, am_e0 74 (.iaload) 1, am_e3 75 (.if_icmp .ge 7) 3 82 0 0, am_ec 78 (.iconst 1) 1 0 1, am_e3 79 (.goto 17) 3 96 0 0, am_ec 82 (.iconst 0) 1 0 0, am_e3 83 (.goto 13) 3 96 0 0, am_e3 86 (.iload_n 1) 1 1 0 0, am_e3 87 (.iload_n 2) 1 2 0 0, am_e3 88 (.if_icmp .ge 7) 3 95 0 0, am_ec 91 (.iconst 1) 1 0 1, am_e3 92 (.goto 4) 3 96 0 0, am_ec 95 (.iconst 0) 1 0 0, am_e0 96 (.ireturn) 1]
set_option maxRecDepth 100000 in
def km_Mod_asking : List am_E := [am_e0 0 (.aload_n 0) 1, am_e0 1 (.aload_n 0) 1, am_e3 2 (.getfield 7) 3 10 0 790, am_ec 5 (.bipush 38) 2 0 38, am_e3 7 (.iload_n 1) 1 1 0 0, am_e0 8 (.iadd) 1, am_e0 9 (.iaload) 1, am_e0 10 (.aload_n 0) 1, am_e3 11 (.getfield 7) 3 10 0 790, am_ec 14 (.bipush 58) 2 0 58, am_e3 16 (.iload_n 1) 1 1 0 0, am_e0 17 (.iadd) 1, am_e0 18 (.iaload) 1, am_e3 19 (.invokestatic 146) 3 3 2 991, am_e3 22 (.invokevirtual 90) 3 19 2 883, am_e0 25 (.ireturn) 1]
set_option maxRecDepth 100000 in
def km_Mod_findBest : List am_E := [am_ec 0 (.iconst 0) 1 0 0, am_e3 1 (.istore_n 2) 1 2 0 0, am_e3 2 (.iload_n 2) 1 2 0 0, am_ec 3 (.bipush 8) 2 0 8, am_e3 5 (.if_icmp .ge 22) 3 27 0 0, am_e0 8 (.aload_n 0) 1, am_e3 9 (.getfield 32) 3 10 12 802, am_ec 12 (.bipush 8) 2 0 8, am_e3 14 (.iload_n 1) 1 1 0 0, am_e0 15 (.imul) 1, am_e3 16 (.iload_n 2) 1 2 0 0, am_e0 17 (.iadd) 1, am_ec 18 (.bipush (-5)) 2 0 (-5), am_e0 20 (.iastore) 1, am_ei 21 (.iinc 2 1) 3 2 1, am_e3 24 (.goto (-22)) 3 2 0 0, am_ec 27 (.iconst 0) 1 0 0, am_e3 28 (.istore_n 2) 1 2 0 0, am_e3 29 (.iload_n 2) 1 2 0 0, am_e0 30 (.aload_n 0) 1, am_e3 31 (.invokevirtual 64) 3 7 1 943, am_e3 34 (.if_icmp .ge 101) 3 135 0 0, am_e0 37 (.aload_n 0) 1, am_e3 38 (.getfield 7) 3 10 0 790, am_ec 41 (.bipush 78) 2 0 78, am_e3 43 (.iload_n 1) 1 1 0 0, am_e0 44 (.iadd) 1, am_e0 45 (.iaload) 1, am_e3 46 (.ifCond .ne 89) 3 135 0 0, am_e0 49 (.aload_n 0) 1, am_e3 50 (.getfield 7) 3 10 0 790, am_ec 53 (.bipush 108) 2 0 108, am_e3 55 (.iload_n 2) 1 2 0 0, am_e0 56 (.iadd) 1, am_e0 57 (.iaload) 1, am_e3 58 (.iload_n 1) 1 1 0 0, am_e3 59 (.if_icmp .ne 70) 3 129 0 0, am_e0 62 (.aload_n 0) 1, am_e3 63 (.iload_n 2) 1 2 0 0, am_e3 64 (.invokevirtual 165) 3 44 2 1014, am_e3 67 (.ifCond .eq 62) 3 129 0 0, am_ec 70 (.bipush 8) 2 0 8, am_e3 72 (.iload_n 1) 1 1 0 0, am_e0 73 (.imul) 1, am_e0 74 (.aload_n 0) 1, am_e3 75 (.getfield 7) 3 10 0 790, am_ec 78 (.sipush 168) 3 0 168, am_e3 81 (.iload_n 2) 1 2 0 0, am_e0 82 (.iadd) 1, am_e0 83 (.iaload) 1, am_e0 84 (.iadd) 1, am_e3 85 (.istore_n 3) 1 3 0 0, am_e0 86 (.aload_n 0) 1, am_e3 87 (.getfield 32) 3 10 12 802, am_e3 90 (.iload_n 3) 1 3 0 0, am_e0 91 (.aload_n 0) 1, am_e3 92 (.getfield 32) 3 10 12 802, am_e3 95 (.iload_n 3) 1 3 0 0, am_e0 96 (.iaload) 1, am_e3 97 (.ifCond .lt 21) 3 118 0 0, am_e0 100 (.aload_n 0) 1, am_e3 101 (.iload_n 2) 1 2 0 0, am_e3 102 (.invokevirtual 162) 3 41 2 1026, am_e0 105 (.aload_n 0) 1, am_e0 106 (.aload_n 0) 1, am_e3 107 (.getfield 32) 3 10 12 802, am_e3 110 (.iload_n 3) 1 3 0 0, am_e0 111 (.iaload) 1, am_e3 112 (.invokevirtual 162) 3 41 2 1026, am_e3 115 (.if_icmp .le 7) 3 122 0 0, am_e3 118 (.iload_n 2) 1 2 0 0, am_e3 119 (.goto 9) 3 128 0 0, am_e0 122 (.aload_n 0) 1, am_e3 123 (.getfield 32) 3 10 12 802, am_e3 126 (.iload_n 3) 1 3 0 0, am_e0 127 (.iaload) 1, am_e0 128 (.iastore) 1, am_ei 129 (.iinc 2 1) 3 2 1, am_e3 132 (.goto (-103)) 3 29 0 0, am_e0 135 (.return_) 1]
set_option maxRecDepth 100000 in
def km_Mod_placeOf : List am_E := [am_ec 0 (.iconst 0) 1 0 0, am_e3 1 (.istore_n 3) 1 3 0 0, am_ec 2 (.iconst 0) 1 0 0, am_e3 3 (.istore 4) 2 4 0 0, am_e3 5 (.iload 4) 2 4 0 0, am_ec 7 (.bipush 8) 2 0 8, am_e3 9 (.if_icmp .ge 52) 3 61 0 0, am_e0 12 (.aload_n 0) 1, am_e3 13 (.getfield 32) 3 10 12 802, am_ec 16 (.bipush 8) 2 0 8, am_e3 18 (.iload_n 1) 1 1 0 0, am_e0 19 (.imul) 1, am_e3 20 (.iload 4) 2 4 0 0, am_e0 22 (.iadd) 1, am_e0 23 (.iaload) 1, am_e3 24 (.istore 5) 2 5 0 0, am_e3 26 (.iload_n 3) 1 3 0 0, am_e3 27 (.iload 5) 2 5 0 0, am_e3 29 (.ifCond .lt 23) 3 52 0 0, am_e3 32 (.iload 5) 2 5 0 0, am_e3 34 (.iload_n 2) 1 2 0 0, am_e3 35 (.if_icmp .eq 17) 3 52 0 0, am_e0 38 (.aload_n 0) 1, am_e3 39 (.iload 5) 2 5 0 0, am_e3 41 (.iload_n 2) 1 2 0 0, am_e3 42 (.invokevirtual 168) 3 45 3 1041, am_e3 45 (.ifCond .eq 7) 3 52 0 0, am_ec 48 (.iconst 1) 1 0 1, am_e3 49 (.goto 4) 3 53 0 0, am_ec 52 (.iconst 0) 1 0 0, am_e0 53 (.iadd) 1, am_e3 54 (.istore_n 3) 1 3 0 0, am_ei 55 (.iinc 4 1) 3 4 1, am_e3 58 (.goto (-53)) 3 5 0 0, am_e3 61 (.iload_n 3) 1 3 0 0, am_e0 62 (.ireturn) 1]
set_option maxRecDepth 100000 in
def km_Mod_rankedAt : List am_E := [am_ec 0 (.iconst 0) 1 0 0, am_e3 1 (.istore_n 3) 1 3 0 0, am_e3 2 (.iload_n 3) 1 3 0 0, am_ec 3 (.bipush 8) 2 0 8, am_e3 5 (.if_icmp .ge 41) 3 46 0 0, am_e0 8 (.aload_n 0) 1, am_e3 9 (.getfield 32) 3 10 12 802, am_ec 12 (.bipush 8) 2 0 8, am_e3 14 (.iload_n 1) 1 1 0 0, am_e0 15 (.imul) 1, am_e3 16 (.iload_n 3) 1 3 0 0, am_e0 17 (.iadd) 1, am_e0 18 (.iaload) 1, am_e3 19 (.istore 4) 2 4 0 0, am_e3 21 (.iload 4) 2 4 0 0, am_e3 23 (.ifCond .lt 17) 3 40 0 0, am_e0 26 (.aload_n 0) 1, am_e3 27 (.iload_n 1) 1 1 0 0, am_e3 28 (.iload 4) 2 4 0 0, am_e3 30 (.invokevirtual 172) 3 48 3 1037, am_e3 33 (.iload_n 2) 1 2 0 0, am_e3 34 (.if_icmp .ne 6) 3 40 0 0, am_e3 37 (.iload 4) 2 4 0 0, am_e0 39 (.ireturn) 1, am_ei 40 (.iinc 3 1) 3 3 1, am_e3 43 (.goto (-41)) 3 2 0 0, am_ec 46 (.bipush (-5)) 2 0 (-5), am_e0 48 (.ireturn) 1]
set_option maxRecDepth 100000 in
def km_Mod_sell : List am_E := [am_e0 0 (.aload_n 0) 1, am_e3 1 (.iload_n 1) 1 1 0 0, am_e3 2 (.invokevirtual 175) 3 47 2 1010, am_e0 5 (.aload_n 0) 1, am_e3 6 (.getfield 41) 3 10 15 805, am_e3 9 (.iload_n 1) 1 1 0 0, am_ec 10 (.iconst 0) 1 0 0, am_e0 11 (.iastore) 1, am_ec 12 (.iconst 0) 1 0 0, am_e3 13 (.istore_n 2) 1 2 0 0, am_e3 14 (.iload_n 2) 1 2 0 0, am_ec 15 (.bipush 8) 2 0 8, am_e3 17 (.if_icmp .ge 37) 3 54 0 0, am_e0 20 (.aload_n 0) 1, am_e3 21 (.getfield 41) 3 10 15 805, am_e3 24 (.iload_n 1) 1 1 0 0, am_e0 25 (.dup2) 1, am_e0 26 (.iaload) 1, am_e0 27 (.aload_n 0) 1, am_e3 28 (.getfield 32) 3 10 12 802, am_ec 31 (.bipush 8) 2 0 8, am_e3 33 (.iload_n 1) 1 1 0 0, am_e0 34 (.imul) 1, am_e3 35 (.iload_n 2) 1 2 0 0, am_e0 36 (.iadd) 1, am_e0 37 (.iaload) 1, am_e3 38 (.ifCond .lt 7) 3 45 0 0, am_ec 41 (.iconst 1) 1 0 1, am_e3 42 (.goto 4) 3 46 0 0, am_ec 45 (.iconst 0) 1 0 0, am_e0 46 (.iadd) 1, am_e0 47 (.iastore) 1, am_ei 48 (.iinc 2 1) 3 2 1, am_e3 51 (.goto (-37)) 3 14 0 0, am_e0 54 (.aload_n 0) 1, am_e3 55 (.getfield 35) 3 10 13 803, am_e3 58 (.iload_n 1) 1 1 0 0, am_e0 59 (.aload_n 0) 1, am_e3 60 (.iload_n 1) 1 1 0 0, am_ec 61 (.iconst 0) 1 0 0, am_e3 62 (.invokevirtual 178) 3 49 3 1033, am_e0 65 (.iastore) 1, am_e0 66 (.aload_n 0) 1, am_e3 67 (.getfield 38) 3 10 14 804, am_e3 70 (.iload_n 1) 1 1 0 0, am_e0 71 (.aload_n 0) 1, am_e3 72 (.iload_n 1) 1 1 0 0, am_ec 73 (.iconst 1) 1 0 1, am_e3 74 (.invokevirtual 178) 3 49 3 1033, am_e0 77 (.iastore) 1, am_e0 78 (.aload_n 0) 1, am_e3 79 (.getfield 44) 3 10 16 806, am_e3 82 (.iload_n 1) 1 1 0 0, am_ec 83 (.bipush (-5)) 2 0 (-5), am_e0 85 (.iastore) 1, am_e0 86 (.aload_n 0) 1, am_e3 87 (.getfield 47) 3 10 17 807, am_e3 90 (.iload_n 1) 1 1 0 0, am_ec 91 (.iconst 0) 1 0 0, am_e0 92 (.iastore) 1, am_e0 93 (.aload_n 0) 1, am_e3 94 (.getfield 35) 3 10 13 803, am_e3 97 (.iload_n 1) 1 1 0 0, am_e0 98 (.iaload) 1, am_e3 99 (.ifCond .lt 106) 3 205 0 0, am_e0 102 (.aload_n 0) 1, am_e0 103 (.aload_n 0) 1, am_e3 104 (.getfield 35) 3 10 13 803, am_e3 107 (.iload_n 1) 1 1 0 0, am_e0 108 (.iaload) 1, am_e3 109 (.invokevirtual 162) 3 41 2 1026, am_e0 112 (.aload_n 0) 1, am_e3 113 (.getfield 7) 3 10 0 790, am_ec 116 (.bipush 58) 2 0 58, am_e3 118 (.iload_n 1) 1 1 0 0, am_e0 119 (.iadd) 1, am_e0 120 (.iaload) 1, am_e3 121 (.if_icmp .lt 84) 3 205 0 0, am_e0 124 (.aload_n 0) 1, am_e3 125 (.getfield 44) 3 10 16 806, am_e3 128 (.iload_n 1) 1 1 0 0, am_e0 129 (.aload_n 0) 1, am_e3 130 (.getfield 7) 3 10 0 790, am_ec 133 (.sipush 168) 3 0 168, am_e0 136 (.aload_n 0) 1, am_e3 137 (.getfield 35) 3 10 13 803, am_e3 140 (.iload_n 1) 1 1 0 0, am_e0 141 (.iaload) 1, am_e0 142 (.iadd) 1, am_e0 143 (.iaload) 1, am_e0 144 (.iastore) 1, am_e0 145 (.aload_n 0) 1, am_e3 146 (.getfield 38) 3 10 14 804, am_e3 149 (.iload_n 1) 1 1 0 0, am_e0 150 (.iaload) 1, am_e3 151 (.ifCond .ge 11) 3 162 0 0, am_e0 154 (.aload_n 0) 1, am_e3 155 (.iload_n 1) 1 1 0 0, am_e3 156 (.invokevirtual 181) 3 46 2 1045, am_e3 159 (.goto 25) 3 184 0 0, am_e0 162 (.aload_n 0) 1, am_e3 163 (.iload_n 1) 1 1 0 0, am_e3 164 (.invokevirtual 181) 3 46 2 1045, am_e0 167 (.aload_n 0) 1, am_e0 168 (.aload_n 0) 1, am_e0 169 (.aload_n 0) 1, am_e3 170 (.getfield 38) 3 10 14 804, am_e3 173 (.iload_n 1) 1 1 0 0, am_e0 174 (.iaload) 1, am_e3 175 (.invokevirtual 162) 3 41 2 1026, am_e3 178 (.invokevirtual 86) 3 18 2 887, am_e3 181 (.invokestatic 146) 3 3 2 991, am_e3 184 (.istore_n 2) 1 2 0 0, am_e0 185 (.aload_n 0) 1, am_e3 186 (.getfield 47) 3 10 17 807, am_e3 189 (.iload_n 1) 1 1 0 0, am_e3 190 (.iload_n 2) 1 2 0 0, am_e0 191 (.aload_n 0) 1, am_e0 192 (.aload_n 0) 1, am_e3 193 (.getfield 35) 3 10 13 803, am_e3 196 (.iload_n 1) 1 1 0 0, am_e0 197 (.iaload) 1, am_e3 198 (.invokevirtual 162) 3 41 2 1026, am_e3 201 (.invokestatic 153) 3 4 2 1030, am_e0 204 (.iastore) 1, am_e0 205 (.return_) 1]
set_option maxRecDepth 100000 in
def km_Mod_hold : List am_E := [am_ec 0 (.iconst 0) 1 0 0, am_e3 1 (.istore_n 1) 1 1 0 0, am_e3 2 (.iload_n 1) 1 1 0 0, am_e0 3 (.aload_n 0) 1, am_e3 4 (.invokevirtual 61) 3 6 1 920, am_e3 7 (.if_icmp .ge 24) 3 31 0 0, am_e0 10 (.aload_n 0) 1, am_e3 11 (.getfield 29) 3 10 11 801, am_e3 14 (.iload_n 1) 1 1 0 0, am_e0 15 (.aload_n 0) 1, am_e3 16 (.getfield 7) 3 10 0 790, am_ec 19 (.bipush 99) 2 0 99, am_e3 21 (.iload_n 1) 1 1 0 0, am_e0 22 (.iadd) 1, am_e0 23 (.iaload) 1, am_e0 24 (.iastore) 1, am_ei 25 (.iinc 1 1) 3 1 1, am_e3 28 (.goto (-26)) 3 2 0 0, am_ec 31 (.iconst 0) 1 0 0, am_e3 32 (.istore_n 1) 1 1 0 0, am_e3 33 (.iload_n 1) 1 1 0 0, am_e0 34 (.aload_n 0) 1, am_e3 35 (.invokevirtual 53) 3 5 1 895, am_e3 38 (.if_icmp .ge 75) 3 113 0 0, am_e0 41 (.aload_n 0) 1, am_e3 42 (.iload_n 1) 1 1 0 0, am_e3 43 (.invokevirtual 184) 3 50 2 1006, am_ec 46 (.iconst 0) 1 0 0, am_e3 47 (.istore_n 2) 1 2 0 0, am_e3 48 (.iload_n 2) 1 2 0 0, am_e0 49 (.aload_n 0) 1, am_e3 50 (.invokevirtual 61) 3 6 1 920, am_e3 53 (.if_icmp .ge 54) 3 107 0 0, am_e0 56 (.aload_n 0) 1, am_e3 57 (.getfield 29) 3 10 11 801, am_ec 60 (.bipush 8) 2 0 8, am_e3 62 (.iload_n 1) 1 1 0 0, am_ec 63 (.iconst 1) 1 0 1, am_e0 64 (.iadd) 1, am_e0 65 (.imul) 1, am_e3 66 (.iload_n 2) 1 2 0 0, am_e0 67 (.iadd) 1, am_e0 68 (.aload_n 0) 1, am_e3 69 (.getfield 29) 3 10 11 801, am_ec 72 (.bipush 8) 2 0 8, am_e3 74 (.iload_n 1) 1 1 0 0, am_e0 75 (.imul) 1, am_e3 76 (.iload_n 2) 1 2 0 0, am_e0 77 (.iadd) 1, am_e0 78 (.iaload) 1, am_e0 79 (.aload_n 0) 1, am_e3 80 (.getfield 44) 3 10 16 806, am_e3 83 (.iload_n 1) 1 1 0 0, am_e0 84 (.iaload) 1, am_e3 85 (.iload_n 2) 1 2 0 0, am_e3 86 (.if_icmp .ne 12) 3 98 0 0, am_e0 89 (.aload_n 0) 1, am_e3 90 (.getfield 47) 3 10 17 807, am_e3 93 (.iload_n 1) 1 1 0 0, am_e0 94 (.iaload) 1, am_e3 95 (.goto 4) 3 99 0 0, am_ec 98 (.iconst 0) 1 0 0, am_e0 99 (.isub) 1, am_e0 100 (.iastore) 1, am_ei 101 (.iinc 2 1) 3 2 1, am_e3 104 (.goto (-56)) 3 48 0 0, am_ei 107 (.iinc 1 1) 3 1 1, am_e3 110 (.goto (-77)) 3 33 0 0, am_e0 113 (.return_) 1]
set_option maxRecDepth 100000 in
def km_Mod_sale : List am_E := [am_e0 0 (.aload_n 0) 1, am_e3 1 (.iload_n 1) 1 1 0 0, am_e3 2 (.invokevirtual 93) 3 8 2 903, am_e3 5 (.ifCond .eq 5) 3 10 0 0, am_ec 8 (.iconst (-1)) 1 0 (-1), am_e0 9 (.ireturn) 1, am_e0 10 (.aload_n 0) 1, am_e3 11 (.invokevirtual 187) 3 51 1 1002, am_e3 14 (.iload_n 2) 1 2 0 0, am_es 15 (.tableswitch 117 0 5 #[37, 44, 51, 96, 103, 110]) 37 132 [(0, 52), (1, 59), (2, 66), (3, 111), (4, 118), (5, 125)], am_e0 52 (.aload_n 0) 1, am_e3 53 (.getfield 44) 3 10 16 806, am_e3 56 (.iload_n 1) 1 1 0 0, am_e0 57 (.iaload) 1, am_e0 58 (.ireturn) 1, am_e0 59 (.aload_n 0) 1, am_e3 60 (.getfield 47) 3 10 17 807, am_e3 63 (.iload_n 1) 1 1 0 0, am_e0 64 (.iaload) 1, am_e0 65 (.ireturn) 1, am_e0 66 (.aload_n 0) 1, am_e3 67 (.getfield 7) 3 10 0 790, am_ec 70 (.bipush 78) 2 0 78, am_e3 72 (.iload_n 1) 1 1 0 0, am_e0 73 (.iadd) 1, am_e0 74 (.iaload) 1, am_ec 75 (.iconst 1) 1 0 1, am_e3 76 (.if_icmp .ne 7) 3 83 0 0, am_ec 79 (.iconst 3) 1 0 3, am_e3 80 (.goto 30) 3 110 0 0, am_e0 83 (.aload_n 0) 1, am_e3 84 (.getfield 44) 3 10 16 806, am_e3 87 (.iload_n 1) 1 1 0 0, am_e0 88 (.iaload) 1, am_e3 89 (.ifCond .lt 7) 3 96 0 0, am_ec 92 (.iconst 0) 1 0 0, am_e3 93 (.goto 17) 3 110 0 0, am_e0 96 (.aload_n 0) 1, am_e3 97 (.getfield 41) 3 10 15 805, am_e3 100 (.iload_n 1) 1 1 0 0, am_e0 101 (.iaload) 1, am_e3 102 (.ifCond .ne 7) 3 109 0 0, am_ec 105 (.iconst 1) 1 0 1, am_e3 106 (.goto 4) 3 110 0 0, am_ec 109 (.iconst 2) 1 0 2, am_e0 110 (.ireturn) 1, am_e0 111 (.aload_n 0) 1, am_e3 112 (.getfield 41) 3 10 15 805, am_e3 115 (.iload_n 1) 1 1 0 0, am_e0 116 (.iaload) 1, am_e0 117 (.ireturn) 1, am_e0 118 (.aload_n 0) 1, am_e3 119 (.getfield 35) 3 10 13 803, am_e3 122 (.iload_n 1) 1 1 0 0, am_e0 123 (.iaload) 1, am_e0 124 (.ireturn) 1, am_e0 125 (.aload_n 0) 1, am_e3 126 (.getfield 38) 3 10 14 804, am_e3 129 (.iload_n 1) 1 1 0 0, am_e0 130 (.iaload) 1, am_e0 131 (.ireturn) 1, am_ec 132 (.bipush (-2)) 2 0 (-2), am_e0 134 (.ireturn) 1]
set_option maxRecDepth 100000 in
def km_Mod_ranked : List am_E := [am_e0 0 (.aload_n 0) 1, am_e3 1 (.iload_n 1) 1 1 0 0, am_e3 2 (.invokevirtual 93) 3 8 2 903, am_e3 5 (.ifCond .eq 5) 3 10 0 0, am_ec 8 (.iconst (-1)) 1 0 (-1), am_e0 9 (.ireturn) 1, am_e3 10 (.iload_n 2) 1 2 0 0, am_e3 11 (.ifCond .ge 6) 3 17 0 0, am_ec 14 (.bipush (-2)) 2 0 (-2), am_e0 16 (.ireturn) 1, am_e0 17 (.aload_n 0) 1, am_e3 18 (.invokevirtual 187) 3 51 1 1002, am_e0 21 (.aload_n 0) 1, am_e3 22 (.iload_n 1) 1 1 0 0, am_e3 23 (.iload_n 2) 1 2 0 0, am_e3 24 (.invokevirtual 178) 3 49 3 1033, am_e0 27 (.ireturn) 1]
set_option maxRecDepth 100000 in
def km_Mod_fate : List am_E := [am_e0 0 (.aload_n 0) 1, am_e3 1 (.iload_n 1) 1 1 0 0, am_e3 2 (.invokevirtual 111) 3 10 2 955, am_e3 5 (.ifCond .eq 5) 3 10 0 0, am_ec 8 (.iconst (-1)) 1 0 (-1), am_e0 9 (.ireturn) 1, am_e0 10 (.aload_n 0) 1, am_e3 11 (.invokevirtual 187) 3 51 1 1002, am_e0 14 (.aload_n 0) 1, am_e3 15 (.getfield 7) 3 10 0 790, am_ec 18 (.bipush 108) 2 0 108, am_e3 20 (.iload_n 1) 1 1 0 0, am_e0 21 (.iadd) 1, am_e0 22 (.iaload) 1, am_e3 23 (.istore_n 2) 1 2 0 0, am_e0 24 (.aload_n 0) 1, am_e3 25 (.getfield 7) 3 10 0 790, am_ec 28 (.sipush 408) 3 0 408, am_e3 31 (.iload_n 1) 1 1 0 0, am_e0 32 (.iadd) 1, am_e0 33 (.iaload) 1, am_ec 34 (.iconst 1) 1 0 1, am_e3 35 (.if_icmp .ne 5) 3 40 0 0, am_ec 38 (.iconst 1) 1 0 1, am_e0 39 (.ireturn) 1, am_e0 40 (.aload_n 0) 1, am_e3 41 (.iload_n 1) 1 1 0 0, am_e3 42 (.invokevirtual 156) 3 42 2 1018, am_e3 45 (.ifCond .eq 5) 3 50 0 0, am_ec 48 (.iconst 2) 1 0 2, am_e0 49 (.ireturn) 1, am_e0 50 (.aload_n 0) 1, am_e3 51 (.getfield 7) 3 10 0 790, am_ec 54 (.bipush 78) 2 0 78, am_e3 56 (.iload_n 2) 1 2 0 0, am_e0 57 (.iadd) 1, am_e0 58 (.iaload) 1, am_ec 59 (.iconst 1) 1 0 1, am_e3 60 (.if_icmp .ne 5) 3 65 0 0, am_ec 63 (.iconst 3) 1 0 3, am_e0 64 (.ireturn) 1, am_e0 65 (.aload_n 0) 1, am_e3 66 (.iload_n 1) 1 1 0 0, am_e3 67 (.invokevirtual 159) 3 43 2 1022, am_e3 70 (.ifCond .eq 5) 3 75 0 0, am_ec 73 (.iconst 4) 1 0 4, am_e0 74 (.ireturn) 1, am_e0 75 (.aload_n 0) 1, am_e3 76 (.iload_n 1) 1 1 0 0, am_e3 77 (.invokevirtual 165) 3 44 2 1014, am_e3 80 (.ifCond .ne 5) 3 85 0 0, am_ec 83 (.iconst 5) 1 0 5, am_e0 84 (.ireturn) 1, am_e0 85 (.aload_n 0) 1, am_e3 86 (.getfield 32) 3 10 12 802, am_ec 89 (.bipush 8) 2 0 8, am_e3 91 (.iload_n 2) 1 2 0 0, am_e0 92 (.imul) 1, am_e0 93 (.aload_n 0) 1, am_e3 94 (.getfield 7) 3 10 0 790, am_ec 97 (.sipush 168) 3 0 168, am_e3 100 (.iload_n 1) 1 1 0 0, am_e0 101 (.iadd) 1, am_e0 102 (.iaload) 1, am_e0 103 (.iadd) 1, am_e0 104 (.iaload) 1, am_e3 105 (.iload_n 1) 1 1 0 0, am_e3 106 (.if_icmp .eq 6) 3 112 0 0, am_ec 109 (.bipush 6) 2 0 6, am_e0 111 (.ireturn) 1, am_e0 112 (.aload_n 0) 1, am_e3 113 (.getfield 35) 3 10 13 803, am_e3 116 (.iload_n 2) 1 2 0 0, am_e0 117 (.iaload) 1, am_e3 118 (.iload_n 1) 1 1 0 0, am_e3 119 (.if_icmp .eq 8) 3 127 0 0, am_ec 122 (.bipush 7) 2 0 7, am_e3 124 (.goto 18) 3 142 0 0, am_e0 127 (.aload_n 0) 1, am_e3 128 (.getfield 44) 3 10 16 806, am_e3 131 (.iload_n 2) 1 2 0 0, am_e0 132 (.iaload) 1, am_e3 133 (.ifCond .ge 8) 3 141 0 0, am_ec 136 (.bipush 8) 2 0 8, am_e3 138 (.goto 4) 3 142 0 0, am_ec 141 (.iconst 0) 1 0 0, am_e0 142 (.ireturn) 1]
set_option maxRecDepth 100000 in
def km_Mod_needed : List am_E := [am_e0 0 (.aload_n 0) 1, am_e3 1 (.iload_n 1) 1 1 0 0, am_e3 2 (.invokevirtual 101) 3 9 2 928, am_e3 5 (.ifCond .ne 11) 3 16 0 0, am_e0 8 (.aload_n 0) 1, am_e3 9 (.iload_n 2) 1 2 0 0, am_e3 10 (.invokevirtual 93) 3 8 2 903, am_e3 13 (.ifCond .eq 5) 3 18 0 0, am_ec 16 (.iconst (-1)) 1 0 (-1), am_e0 17 (.ireturn) 1, am_e3 18 (.iload_n 3) 1 3 0 0, am_e3 19 (.invokestatic 104) 3 29 1 940, am_e3 22 (.ifCond .ne 6) 3 28 0 0, am_ec 25 (.bipush (-2)) 2 0 (-2), am_e0 27 (.ireturn) 1, am_e0 28 (.aload_n 0) 1, am_e3 29 (.getfield 7) 3 10 0 790, am_ec 32 (.bipush 78) 2 0 78, am_e3 34 (.iload_n 2) 1 2 0 0, am_e0 35 (.iadd) 1, am_e0 36 (.iaload) 1, am_ec 37 (.iconst 1) 1 0 1, am_e3 38 (.if_icmp .eq 24) 3 62 0 0, am_e0 41 (.aload_n 0) 1, am_e3 42 (.invokevirtual 64) 3 7 1 943, am_ec 45 (.bipush 60) 2 0 60, am_e3 47 (.if_icmp .eq 15) 3 62 0 0, am_e3 50 (.iload_n 3) 1 3 0 0, am_e0 51 (.aload_n 0) 1, am_e3 52 (.getfield 7) 3 10 0 790, am_ec 55 (.sipush 468) 3 0 468, am_e0 58 (.iaload) 1, am_e3 59 (.if_icmp .le 6) 3 65 0 0, am_ec 62 (.bipush (-5)) 2 0 (-5), am_e0 64 (.ireturn) 1, am_e0 65 (.aload_n 0) 1, am_e3 66 (.invokevirtual 187) 3 51 1 1002, am_e0 69 (.aload_n 0) 1, am_e3 70 (.iload_n 2) 1 2 0 0, am_e3 71 (.invokevirtual 181) 3 46 2 1045, am_e3 74 (.istore 4) 2 4 0 0, am_ec 76 (.iconst 0) 1 0 0, am_e3 77 (.istore 5) 2 5 0 0, am_e3 79 (.iload 5) 2 5 0 0, am_e0 81 (.aload_n 0) 1, am_e3 82 (.invokevirtual 61) 3 6 1 920, am_e3 85 (.if_icmp .ge 87) 3 172 0 0, am_e0 88 (.aload_n 0) 1, am_e3 89 (.getfield 32) 3 10 12 802, am_ec 92 (.bipush 8) 2 0 8, am_e3 94 (.iload_n 2) 1 2 0 0, am_e0 95 (.imul) 1, am_e3 96 (.iload 5) 2 5 0 0, am_e0 98 (.iadd) 1, am_e0 99 (.iaload) 1, am_e3 100 (.istore 6) 2 6 0 0, am_e3 102 (.iload 6) 2 6 0 0, am_e3 104 (.ifCond .lt 62) 3 166 0 0, am_e3 107 (.iload 5) 2 5 0 0, am_e3 109 (.iload_n 1) 1 1 0 0, am_e3 110 (.if_icmp .eq 22) 3 132 0 0, am_e3 113 (.iload_n 3) 1 3 0 0, am_e0 114 (.aload_n 0) 1, am_e3 115 (.getfield 7) 3 10 0 790, am_ec 118 (.sipush 288) 3 0 288, am_e3 121 (.iload 6) 2 6 0 0, am_e0 123 (.iadd) 1, am_e0 124 (.iaload) 1, am_e3 125 (.if_icmp .ge 7) 3 132 0 0, am_ec 128 (.iconst 1) 1 0 1, am_e3 129 (.goto 4) 3 133 0 0, am_ec 132 (.iconst 0) 1 0 0, am_e3 133 (.istore 7) 2 7 0 0, am_e3 135 (.iload 4) 2 4 0 0, am_e3 137 (.iload 7) 2 7 0 0, am_e3 139 (.ifCond .eq 12) 3 151 0 0, am_e0 142 (.aload_n 0) 1, am_e3 143 (.iload 6) 2 6 0 0, am_e3 145 (.invokevirtual 162) 3 41 2 1026, am_e3 148 (.goto 13) 3 161 0 0, am_e0 151 (.aload_n 0) 1, am_e0 152 (.aload_n 0) 1, am_e3 153 (.iload 6) 2 6 0 0, am_e3 155 (.invokevirtual 162) 3 41 2 1026, am_e3 158 (.invokevirtual 86) 3 18 2 887, am_e3 161 (.invokestatic 146) 3 3 2 991, am_e3 164 (.istore 4) 2 4 0 0, am_ei 166 (.iinc 5 1) 3 5 1, am_e3 169 (.goto (-90)) 3 79 0 0, am_e3 172 (.iload 4) 2 4 0 0, am_e3 174 (.ifCond .ne 11) 3 185 0 0, am_e0 177 (.aload_n 0) 1, am_ec 178 (.iconst 0) 1 0 0, am_e3 179 (.invokevirtual 86) 3 18 2 887, am_e3 182 (.goto 5) 3 187 0 0, am_e3 185 (.iload 4) 2 4 0 0, am_e3 187 (.istore 5) 2 5 0 0, am_e3 189 (.iload 4) 2 4 0 0, am_e0 191 (.aload_n 0) 1, am_e0 192 (.aload_n 0) 1, am_e3 193 (.getfield 29) 3 10 11 801, am_ec 196 (.bipush 8) 2 0 8, am_e3 198 (.iload_n 2) 1 2 0 0, am_e0 199 (.imul) 1, am_e3 200 (.iload_n 1) 1 1 0 0, am_e0 201 (.iadd) 1, am_e0 202 (.iaload) 1, am_e3 203 (.invokevirtual 83) 3 17 2 875, am_e3 206 (.if_icmp .gt 10) 3 216 0 0, am_e3 209 (.iload 5) 2 5 0 0, am_ec 211 (.ldc 71) 2 853 1000000, am_e3 213 (.if_icmp .le 8) 3 221 0 0, am_ec 216 (.bipush (-5)) 2 0 (-5), am_e3 218 (.goto 5) 3 223 0 0, am_e3 221 (.iload 5) 2 5 0 0, am_e0 223 (.ireturn) 1]
set_option maxRecDepth 100000 in
def km_Mod_lot : List am_E := [am_e0 0 (.aload_n 0) 1, am_e3 1 (.iload_n 1) 1 1 0 0, am_e3 2 (.invokevirtual 93) 3 8 2 903, am_e3 5 (.ifCond .eq 5) 3 10 0 0, am_ec 8 (.iconst (-1)) 1 0 (-1), am_e0 9 (.ireturn) 1, am_ec 10 (.iconst 0) 1 0 0, am_e3 11 (.istore_n 3) 1 3 0 0, am_ec 12 (.iconst 0) 1 0 0, am_e3 13 (.istore 4) 2 4 0 0, am_e3 15 (.iload 4) 2 4 0 0, am_e0 17 (.aload_n 0) 1, am_e3 18 (.invokevirtual 64) 3 7 1 943, am_e3 21 (.if_icmp .ge 31) 3 52 0 0, am_e3 24 (.iload_n 3) 1 3 0 0, am_e0 25 (.aload_n 0) 1, am_e3 26 (.getfield 7) 3 10 0 790, am_ec 29 (.bipush 108) 2 0 108, am_e3 31 (.iload 4) 2 4 0 0, am_e0 33 (.iadd) 1, am_e0 34 (.iaload) 1, am_e3 35 (.iload_n 1) 1 1 0 0, am_e3 36 (.if_icmp .ne 7) 3 43 0 0, am_ec 39 (.iconst 1) 1 0 1, am_e3 40 (.goto 4) 3 44 0 0, am_ec 43 (.iconst 0) 1 0 0, am_e0 44 (.iadd) 1, am_e3 45 (.istore_n 3) 1 3 0 0, am_ei 46 (.iinc 4 1) 3 4 1, am_e3 49 (.goto (-34)) 3 15 0 0, am_e3 52 (.iload_n 2) 1 2 0 0, am_es 53 (.tableswitch 87 0 5 #[39, 49, 59, 69, 79, 85]) 39 140 [(0, 92), (1, 102), (2, 112), (3, 122), (4, 132), (5, 138)], am_e0 92 (.aload_n 0) 1, am_e3 93 (.getfield 7) 3 10 0 790, am_ec 96 (.bipush 18) 2 0 18, am_e3 98 (.iload_n 1) 1 1 0 0, am_e0 99 (.iadd) 1, am_e0 100 (.iaload) 1, am_e0 101 (.ireturn) 1, am_e0 102 (.aload_n 0) 1, am_e3 103 (.getfield 7) 3 10 0 790, am_ec 106 (.bipush 38) 2 0 38, am_e3 108 (.iload_n 1) 1 1 0 0, am_e0 109 (.iadd) 1, am_e0 110 (.iaload) 1, am_e0 111 (.ireturn) 1, am_e0 112 (.aload_n 0) 1, am_e3 113 (.getfield 7) 3 10 0 790, am_ec 116 (.bipush 58) 2 0 58, am_e3 118 (.iload_n 1) 1 1 0 0, am_e0 119 (.iadd) 1, am_e0 120 (.iaload) 1, am_e0 121 (.ireturn) 1, am_e0 122 (.aload_n 0) 1, am_e3 123 (.getfield 7) 3 10 0 790, am_ec 126 (.bipush 78) 2 0 78, am_e3 128 (.iload_n 1) 1 1 0 0, am_e0 129 (.iadd) 1, am_e0 130 (.iaload) 1, am_e0 131 (.ireturn) 1, am_e0 132 (.aload_n 0) 1, am_e3 133 (.iload_n 1) 1 1 0 0, am_e3 134 (.invokevirtual 181) 3 46 2 1045, am_e0 137 (.ireturn) 1, am_e3 138 (.iload_n 3) 1 3 0 0, am_e0 139 (.ireturn) 1, am_ec 140 (.bipush (-2)) 2 0 (-2), am_e0 142 (.ireturn) 1]
set_option maxRecDepth 100000 in
def km_Mod_bidOf : List am_E := [am_e0 0 (.aload_n 0) 1, am_e3 1 (.iload_n 1) 1 1 0 0, am_e3 2 (.invokevirtual 111) 3 10 2 955, am_e3 5 (.ifCond .eq 5) 3 10 0 0, am_ec 8 (.iconst (-1)) 1 0 (-1), am_e0 9 (.ireturn) 1, am_e3 10 (.iload_n 2) 1 2 0 0, am_es 11 (.tableswitch 116 0 6 #[41, 51, 62, 73, 84, 95, 106]) 41 127 [(0, 52), (1, 62), (2, 73), (3, 84), (4, 95), (5, 106), (6, 117)], am_e0 52 (.aload_n 0) 1, am_e3 53 (.getfield 7) 3 10 0 790, am_ec 56 (.bipush 108) 2 0 108, am_e3 58 (.iload_n 1) 1 1 0 0, am_e0 59 (.iadd) 1, am_e0 60 (.iaload) 1, am_e0 61 (.ireturn) 1, am_e0 62 (.aload_n 0) 1, am_e3 63 (.getfield 7) 3 10 0 790, am_ec 66 (.sipush 168) 3 0 168, am_e3 69 (.iload_n 1) 1 1 0 0, am_e0 70 (.iadd) 1, am_e0 71 (.iaload) 1, am_e0 72 (.ireturn) 1, am_e0 73 (.aload_n 0) 1, am_e3 74 (.getfield 7) 3 10 0 790, am_ec 77 (.sipush 228) 3 0 228, am_e3 80 (.iload_n 1) 1 1 0 0, am_e0 81 (.iadd) 1, am_e0 82 (.iaload) 1, am_e0 83 (.ireturn) 1, am_e0 84 (.aload_n 0) 1, am_e3 85 (.getfield 7) 3 10 0 790, am_ec 88 (.sipush 288) 3 0 288, am_e3 91 (.iload_n 1) 1 1 0 0, am_e0 92 (.iadd) 1, am_e0 93 (.iaload) 1, am_e0 94 (.ireturn) 1, am_e0 95 (.aload_n 0) 1, am_e3 96 (.getfield 7) 3 10 0 790, am_ec 99 (.sipush 348) 3 0 348, am_e3 102 (.iload_n 1) 1 1 0 0, am_e0 103 (.iadd) 1, am_e0 104 (.iaload) 1, am_e0 105 (.ireturn) 1, am_e0 106 (.aload_n 0) 1, am_e3 107 (.getfield 7) 3 10 0 790, am_ec 110 (.sipush 408) 3 0 408, am_e3 113 (.iload_n 1) 1 1 0 0, am_e0 114 (.iadd) 1, am_e0 115 (.iaload) 1, am_e0 116 (.ireturn) 1, am_e0 117 (.aload_n 0) 1, am_e3 118 (.invokevirtual 187) 3 51 1 1002, am_e0 121 (.aload_n 0) 1, am_e3 122 (.iload_n 1) 1 1 0 0, am_e3 123 (.invokevirtual 162) 3 41 2 1026, am_e0 126 (.ireturn) 1, am_ec 127 (.bipush (-2)) 2 0 (-2), am_e0 129 (.ireturn) 1]
set_option maxRecDepth 100000 in
def km_Mod_part : List am_E := [am_e0 0 (.aload_n 0) 1, am_e3 1 (.getfield 47) 3 10 17 807, am_e3 4 (.iload_n 1) 1 1 0 0, am_e0 5 (.iaload) 1, am_e0 6 (.i2l) 1, am_e0 7 (.aload_n 0) 1, am_e3 8 (.getfield 7) 3 10 0 790, am_ec 11 (.sipush 468) 3 0 468, am_e3 14 (.iload_n 2) 1 2 0 0, am_e0 15 (.iadd) 1, am_e0 16 (.iaload) 1, am_e0 17 (.i2l) 1, am_e0 18 (.lmul) 1, am_el 19 (.ldc2_w 190) 3 1077 1000, am_e0 22 (.ldiv) 1, am_e0 23 (.l2i) 1, am_e0 24 (.ireturn) 1]
set_option maxRecDepth 100000 in
def km_Mod_bidder : List am_E := [am_e0 0 (.aload_n 0) 1, am_e3 1 (.iload_n 1) 1 1 0 0, am_e3 2 (.invokevirtual 101) 3 9 2 928, am_e3 5 (.ifCond .eq 5) 3 10 0 0, am_ec 8 (.iconst (-1)) 1 0 (-1), am_e0 9 (.ireturn) 1, am_e0 10 (.aload_n 0) 1, am_e3 11 (.invokevirtual 187) 3 51 1 1002, am_ec 14 (.iconst 0) 1 0 0, am_e3 15 (.istore_n 3) 1 3 0 0, am_ec 16 (.iconst 0) 1 0 0, am_e3 17 (.istore 4) 2 4 0 0, am_ec 19 (.iconst 0) 1 0 0, am_e3 20 (.istore 5) 2 5 0 0, am_e3 22 (.iload 5) 2 5 0 0, am_e0 24 (.aload_n 0) 1, am_e3 25 (.invokevirtual 53) 3 5 1 895, am_e3 28 (.if_icmp .ge 63) 3 91 0 0, am_e3 31 (.iload_n 3) 1 3 0 0, am_e0 32 (.aload_n 0) 1, am_e3 33 (.getfield 44) 3 10 16 806, am_e3 36 (.iload 5) 2 5 0 0, am_e0 38 (.iaload) 1, am_e3 39 (.iload_n 1) 1 1 0 0, am_e3 40 (.if_icmp .ne 7) 3 47 0 0, am_ec 43 (.iconst 1) 1 0 1, am_e3 44 (.goto 4) 3 48 0 0, am_ec 47 (.iconst 0) 1 0 0, am_e0 48 (.iadd) 1, am_e3 49 (.istore_n 3) 1 3 0 0, am_e3 50 (.iload 4) 2 4 0 0, am_e0 52 (.aload_n 0) 1, am_e3 53 (.getfield 44) 3 10 16 806, am_e3 56 (.iload 5) 2 5 0 0, am_e0 58 (.iaload) 1, am_e3 59 (.iload_n 1) 1 1 0 0, am_e3 60 (.if_icmp .ne 21) 3 81 0 0, am_e0 63 (.aload_n 0) 1, am_e3 64 (.getfield 47) 3 10 17 807, am_e3 67 (.iload 5) 2 5 0 0, am_e0 69 (.iaload) 1, am_e0 70 (.aload_n 0) 1, am_e3 71 (.iload 5) 2 5 0 0, am_ec 73 (.iconst 1) 1 0 1, am_e3 74 (.invokevirtual 192) 3 58 3 1073, am_e0 77 (.iadd) 1, am_e3 78 (.goto 4) 3 82 0 0, am_ec 81 (.iconst 0) 1 0 0, am_e0 82 (.iadd) 1, am_e3 83 (.istore 4) 2 4 0 0, am_ei 85 (.iinc 5 1) 3 5 1, am_e3 88 (.goto (-66)) 3 22 0 0, am_e3 91 (.iload_n 2) 1 2 0 0, am_es 92 (.tableswitch 62 0 3 #[32, 42, 57, 59]) 32 154 [(0, 124), (1, 134), (2, 149), (3, 151)], am_e0 124 (.aload_n 0) 1, am_e3 125 (.getfield 7) 3 10 0 790, am_ec 128 (.bipush 99) 2 0 99, am_e3 130 (.iload_n 1) 1 1 0 0, am_e0 131 (.iadd) 1, am_e0 132 (.iaload) 1, am_e0 133 (.ireturn) 1, am_e0 134 (.aload_n 0) 1, am_e3 135 (.getfield 29) 3 10 11 801, am_ec 138 (.bipush 8) 2 0 8, am_e0 140 (.aload_n 0) 1, am_e3 141 (.invokevirtual 53) 3 5 1 895, am_e0 144 (.imul) 1, am_e3 145 (.iload_n 1) 1 1 0 0, am_e0 146 (.iadd) 1, am_e0 147 (.iaload) 1, am_e0 148 (.ireturn) 1, am_e3 149 (.iload_n 3) 1 3 0 0, am_e0 150 (.ireturn) 1, am_e3 151 (.iload 4) 2 4 0 0, am_e0 153 (.ireturn) 1, am_ec 154 (.bipush (-2)) 2 0 (-2), am_e0 156 (.ireturn) 1]
set_option maxRecDepth 100000 in
def km_Mod_isSold : List am_E := [am_e0 0 (.aload_n 0) 1, am_e3 1 (.getfield 44) 3 10 16 806, am_e3 4 (.iload_n 1) 1 1 0 0, am_e0 5 (.iaload) 1, am_e3 6 (.ifCond .lt 7) 3 13 0 0, am_ec 9 (.iconst 1) 1 0 1, am_e3 10 (.goto 4) 3 14 0 0, am_ec 13 (.iconst 0) 1 0 0, am_e0 14 (.ireturn) 1]
set_option maxRecDepth 100000 in
def km_Mod_feeFor : List am_E := [am_e0 0 (.aload_n 0) 1, am_e3 1 (.iload_n 1) 1 1 0 0, am_e3 2 (.invokevirtual 195) 3 60 2 1086, am_e3 5 (.ifCond .ne 16) 3 21 0 0, am_e0 8 (.aload_n 0) 1, am_e3 9 (.getfield 7) 3 10 0 790, am_ec 12 (.bipush 78) 2 0 78, am_e3 14 (.iload_n 1) 1 1 0 0, am_e0 15 (.iadd) 1, am_e0 16 (.iaload) 1, am_ec 17 (.iconst 1) 1 0 1, am_e3 18 (.if_icmp .ne 7) 3 25 0 0, am_ec 21 (.iconst 0) 1 0 0, am_e3 22 (.goto 11) 3 33 0 0, am_e0 25 (.aload_n 0) 1, am_e3 26 (.getfield 7) 3 10 0 790, am_ec 29 (.sipush 471) 3 0 471, am_e0 32 (.iaload) 1, am_e0 33 (.ireturn) 1]
set_option maxRecDepth 100000 in
def km_Mod_seller : List am_E := [am_e3 0 (.iload_n 1) 1 1 0 0, am_ec 1 (.iconst 0) 1 0 0, am_ec 2 (.iconst 4) 1 0 4, am_e3 3 (.invokestatic 57) 3 1 3 854, am_e3 6 (.ifCond .eq 12) 3 18 0 0, am_e3 9 (.iload_n 2) 1 2 0 0, am_ec 10 (.iconst 0) 1 0 0, am_ec 11 (.iconst 3) 1 0 3, am_e3 12 (.invokestatic 57) 3 1 3 854, am_e3 15 (.ifCond .ne 7) 3 22 0 0, am_e3 18 (.invokestatic 198) 3 2 0 1082, am_e0 21 (.lreturn) 1, am_e0 22 (.aload_n 0) 1, am_e3 23 (.invokevirtual 187) 3 51 1 1002, am_el 26 (.lconst 0) 1 0 0, am_e3 27 (.lstore_n 3) 1 3 0 0, am_ec 28 (.iconst 0) 1 0 0, am_e3 29 (.istore 5) 2 5 0 0, am_e3 31 (.iload 5) 2 5 0 0, am_e0 33 (.aload_n 0) 1, am_e3 34 (.invokevirtual 53) 3 5 1 895, am_e3 37 (.if_icmp .ge 96) 3 133 0 0, am_e0 40 (.aload_n 0) 1, am_e3 41 (.getfield 7) 3 10 0 790, am_ec 44 (.bipush 18) 2 0 18, am_e3 46 (.iload 5) 2 5 0 0, am_e0 48 (.iadd) 1, am_e0 49 (.iaload) 1, am_e3 50 (.iload_n 1) 1 1 0 0, am_e3 51 (.if_icmp .ne 76) 3 127 0 0, am_e3 54 (.lload_n 3) 1 3 0 0, am_e3 55 (.iload_n 2) 1 2 0 0, am_e3 56 (.ifCond .ne 7) 3 63 0 0, am_el 59 (.lconst 1) 1 0 1, am_e3 60 (.goto 65) 3 125 0 0, am_e3 63 (.iload_n 2) 1 2 0 0, am_ec 64 (.iconst 1) 1 0 1, am_e3 65 (.if_icmp .ne 21) 3 86 0 0, am_e0 68 (.aload_n 0) 1, am_e3 69 (.iload 5) 2 5 0 0, am_e3 71 (.invokevirtual 195) 3 60 2 1086, am_e3 74 (.ifCond .eq 7) 3 81 0 0, am_ec 77 (.iconst 1) 1 0 1, am_e3 78 (.goto 4) 3 82 0 0, am_ec 81 (.iconst 0) 1 0 0, am_e0 82 (.i2l) 1, am_e3 83 (.goto 42) 3 125 0 0, am_e3 86 (.iload_n 2) 1 2 0 0, am_ec 87 (.iconst 2) 1 0 2, am_e3 88 (.if_icmp .ne 14) 3 102 0 0, am_e0 91 (.aload_n 0) 1, am_e3 92 (.getfield 47) 3 10 17 807, am_e3 95 (.iload 5) 2 5 0 0, am_e0 97 (.iaload) 1, am_e0 98 (.i2l) 1, am_e3 99 (.goto 26) 3 125 0 0, am_e0 102 (.aload_n 0) 1, am_e3 103 (.getfield 47) 3 10 17 807, am_e3 106 (.iload 5) 2 5 0 0, am_e0 108 (.iaload) 1, am_e0 109 (.aload_n 0) 1, am_e3 110 (.iload 5) 2 5 0 0, am_ec 112 (.iconst 2) 1 0 2, am_e3 113 (.invokevirtual 192) 3 58 3 1073, am_e0 116 (.isub) 1, am_e0 117 (.aload_n 0) 1, am_e3 118 (.iload 5) 2 5 0 0, am_e3 120 (.invokevirtual 202) 3 61 2 1090, am_e0 123 (.isub) 1, am_e0 124 (.i2l) 1, am_e0 125 (.ladd) 1, am_e3 126 (.lstore_n 3) 1 3 0 0, am_ei 127 (.iinc 5 1) 3 5 1, am_e3 130 (.goto (-99)) 3 31 0 0, am_e3 133 (.lload_n 3) 1 3 0 0, am_e0 134 (.lreturn) 1]
set_option maxRecDepth 100000 in
def km_Mod_account : List am_E := [am_e3 0 (.iload_n 1) 1 1 0 0, am_ec 1 (.iconst 0) 1 0 0, am_ec 2 (.bipush 6) 2 0 6, am_e3 4 (.invokestatic 57) 3 1 3 854, am_e3 7 (.ifCond .ne 7) 3 14 0 0, am_e3 10 (.invokestatic 198) 3 2 0 1082, am_e0 13 (.lreturn) 1, am_e0 14 (.aload_n 0) 1, am_e3 15 (.invokevirtual 187) 3 51 1 1002, am_el 18 (.lconst 0) 1 0 0, am_e3 19 (.lstore_n 2) 1 2 0 0, am_el 20 (.lconst 0) 1 0 0, am_e3 21 (.lstore 4) 2 4 0 0, am_el 23 (.lconst 0) 1 0 0, am_e3 24 (.lstore 6) 2 6 0 0, am_el 26 (.lconst 0) 1 0 0, am_e3 27 (.lstore 8) 2 8 0 0, am_ec 29 (.iconst 0) 1 0 0, am_e3 30 (.istore 10) 2 10 0 0, am_e3 32 (.iload 10) 2 10 0 0, am_e0 34 (.aload_n 0) 1, am_e3 35 (.invokevirtual 53) 3 5 1 895, am_e3 38 (.if_icmp .ge 58) 3 96 0 0, am_e3 41 (.lload_n 2) 1 2 0 0, am_e0 42 (.aload_n 0) 1, am_e3 43 (.getfield 47) 3 10 17 807, am_e3 46 (.iload 10) 2 10 0 0, am_e0 48 (.iaload) 1, am_e0 49 (.i2l) 1, am_e0 50 (.ladd) 1, am_e3 51 (.lstore_n 2) 1 2 0 0, am_e3 52 (.lload 4) 2 4 0 0, am_e0 54 (.aload_n 0) 1, am_e3 55 (.iload 10) 2 10 0 0, am_ec 57 (.iconst 1) 1 0 1, am_e3 58 (.invokevirtual 192) 3 58 3 1073, am_e0 61 (.i2l) 1, am_e0 62 (.ladd) 1, am_e3 63 (.lstore 4) 2 4 0 0, am_e3 65 (.lload 6) 2 6 0 0, am_e0 67 (.aload_n 0) 1, am_e3 68 (.iload 10) 2 10 0 0, am_ec 70 (.iconst 2) 1 0 2, am_e3 71 (.invokevirtual 192) 3 58 3 1073, am_e0 74 (.i2l) 1, am_e0 75 (.ladd) 1, am_e3 76 (.lstore 6) 2 6 0 0, am_e3 78 (.lload 8) 2 8 0 0, am_e0 80 (.aload_n 0) 1, am_e3 81 (.iload 10) 2 10 0 0, am_e3 83 (.invokevirtual 202) 3 61 2 1090, am_e0 86 (.i2l) 1, am_e0 87 (.ladd) 1, am_e3 88 (.lstore 8) 2 8 0 0, am_ei 90 (.iinc 10 1) 3 10 1, am_e3 93 (.goto (-61)) 3 32 0 0, am_e3 96 (.lload_n 2) 1 2 0 0, am_e3 97 (.lload 6) 2 6 0 0, am_e0 99 (.lsub) 1, am_e3 100 (.lload 8) 2 8 0 0, am_e0 102 (.lsub) 1, am_e3 103 (.lstore 10) 2 10 0 0, am_e3 105 (.iload_n 1) 1 1 0 0, am_es 106 (.tableswitch 57 0 5 #[38, 40, 43, 46, 49, 54]) 38 163 [(0, 144), (1, 146), (2, 149), (3, 152), (4, 155), (5, 160)], am_e3 144 (.lload_n 2) 1 2 0 0, am_e0 145 (.lreturn) 1, am_e3 146 (.lload 4) 2 4 0 0, am_e0 148 (.lreturn) 1, am_e3 149 (.lload 6) 2 6 0 0, am_e0 151 (.lreturn) 1, am_e3 152 (.lload 8) 2 8 0 0, am_e0 154 (.lreturn) 1, am_e3 155 (.lload_n 2) 1 2 0 0, am_e3 156 (.lload 4) 2 4 0 0, am_e0 158 (.ladd) 1, am_e0 159 (.lreturn) 1, am_e3 160 (.lload 10) 2 10 0 0, am_e0 162 (.lreturn) 1, am_e3 163 (.lload_n 2) 1 2 0 0, am_e3 164 (.lload 4) 2 4 0 0, am_e0 166 (.ladd) 1, am_e3 167 (.lload 10) 2 10 0 0, am_e0 169 (.lsub) 1, am_e0 170 (.lreturn) 1]
set_option maxRecDepth 100000 in
def km_Mod_count : List am_E := [am_e3 0 (.iload_n 1) 1 1 0 0, am_ec 1 (.iconst 0) 1 0 0, am_ec 2 (.bipush 13) 2 0 13, am_e3 4 (.invokestatic 57) 3 1 3 854, am_e3 7 (.ifCond .ne 6) 3 13 0 0, am_ec 10 (.bipush (-2)) 2 0 (-2), am_e0 12 (.ireturn) 1, am_e0 13 (.aload_n 0) 1, am_e3 14 (.invokevirtual 187) 3 51 1 1002, am_ec 17 (.iconst 0) 1 0 0, am_e3 18 (.istore_n 2) 1 2 0 0, am_ec 19 (.iconst 0) 1 0 0, am_e3 20 (.istore_n 3) 1 3 0 0, am_e3 21 (.iload_n 3) 1 3 0 0, am_e0 22 (.aload_n 0) 1, am_e3 23 (.invokevirtual 53) 3 5 1 895, am_e3 26 (.if_icmp .ge 25) 3 51 0 0, am_e3 29 (.iload_n 2) 1 2 0 0, am_e0 30 (.aload_n 0) 1, am_e3 31 (.iload_n 3) 1 3 0 0, am_e3 32 (.invokevirtual 195) 3 60 2 1086, am_e3 35 (.ifCond .eq 7) 3 42 0 0, am_ec 38 (.iconst 1) 1 0 1, am_e3 39 (.goto 4) 3 43 0 0, am_ec 42 (.iconst 0) 1 0 0, am_e0 43 (.iadd) 1, am_e3 44 (.istore_n 2) 1 2 0 0, am_ei 45 (.iinc 3 1) 3 3 1, am_e3 48 (.goto (-27)) 3 21 0 0, am_ec 51 (.iconst 0) 1 0 0, am_e3 52 (.istore_n 3) 1 3 0 0, am_ec 53 (.iconst 0) 1 0 0, am_e3 54 (.istore 4) 2 4 0 0, am_ec 56 (.iconst 0) 1 0 0, am_e3 57 (.istore 5) 2 5 0 0, am_e3 59 (.iload 5) 2 5 0 0, am_e0 61 (.aload_n 0) 1, am_e3 62 (.invokevirtual 64) 3 7 1 943, am_e3 65 (.if_icmp .ge 42) 3 107 0 0, am_e3 68 (.iload_n 3) 1 3 0 0, am_e0 69 (.aload_n 0) 1, am_e3 70 (.iload 5) 2 5 0 0, am_e3 72 (.invokevirtual 156) 3 42 2 1018, am_e3 75 (.ifCond .eq 7) 3 82 0 0, am_ec 78 (.iconst 1) 1 0 1, am_e3 79 (.goto 4) 3 83 0 0, am_ec 82 (.iconst 0) 1 0 0, am_e0 83 (.iadd) 1, am_e3 84 (.istore_n 3) 1 3 0 0, am_e3 85 (.iload 4) 2 4 0 0, am_e0 87 (.aload_n 0) 1, am_e3 88 (.getfield 7) 3 10 0 790, am_ec 91 (.sipush 408) 3 0 408, am_e3 94 (.iload 5) 2 5 0 0, am_e0 96 (.iadd) 1, am_e0 97 (.iaload) 1, am_e0 98 (.iadd) 1, am_e3 99 (.istore 4) 2 4 0 0, am_ei 101 (.iinc 5 1) 3 5 1, am_e3 104 (.goto (-45)) 3 59 0 0, am_e3 107 (.iload_n 1) 1 1 0 0, am_es 108 (.tableswitch 116 0 13 #[72, 77, 82, 87, 89, 94, 96, 99, 116, 116, 116, 116, 106, 111]) 72 224 [(0, 180), (1, 185), (2, 190), (3, 195), (4, 197), (5, 202), (6, 204), (7, 207), (8, 224), (9, 224), (10, 224), (11, 224), (12, 214), (13, 219)], am_e0 180 (.aload_n 0) 1, am_e3 181 (.invokevirtual 53) 3 5 1 895, am_e0 184 (.ireturn) 1, am_e0 185 (.aload_n 0) 1, am_e3 186 (.invokevirtual 61) 3 6 1 920, am_e0 189 (.ireturn) 1, am_e0 190 (.aload_n 0) 1, am_e3 191 (.invokevirtual 64) 3 7 1 943, am_e0 194 (.ireturn) 1, am_e3 195 (.iload_n 2) 1 2 0 0, am_e0 196 (.ireturn) 1, am_e0 197 (.aload_n 0) 1, am_e3 198 (.invokevirtual 97) 3 23 1 911, am_e0 201 (.ireturn) 1, am_e3 202 (.iload_n 3) 1 3 0 0, am_e0 203 (.ireturn) 1, am_e3 204 (.iload 4) 2 4 0 0, am_e0 206 (.ireturn) 1, am_e0 207 (.aload_n 0) 1, am_e3 208 (.getfield 7) 3 10 0 790, am_ec 211 (.iconst 0) 1 0 0, am_e0 212 (.iaload) 1, am_e0 213 (.ireturn) 1, am_e0 214 (.aload_n 0) 1, am_e3 215 (.getfield 67) 3 10 2 792, am_e0 218 (.ireturn) 1, am_e0 219 (.aload_n 0) 1, am_e3 220 (.getfield 114) 3 10 3 793, am_e0 223 (.ireturn) 1, am_e0 224 (.aload_n 0) 1, am_e3 225 (.getfield 7) 3 10 0 790, am_ec 228 (.sipush 468) 3 0 468, am_e3 231 (.iload_n 1) 1 1 0 0, am_e0 232 (.iadd) 1, am_ec 233 (.bipush 8) 2 0 8, am_e0 235 (.isub) 1, am_e0 236 (.iaload) 1, am_e0 237 (.ireturn) 1]
set_option maxRecDepth 100000 in
def km_Bids_init : List am_E := [am_e0 0 (.aload_n 0) 1, am_e3 1 (.invokespecial 3) 3 1003 1 169, am_e0 4 (.aload_n 0) 1, am_e3 5 (.new 9) 3 5 0 170, am_e0 8 (.dup) 1, am_ec 9 (.bipush 60) 2 0 60, am_e3 11 (.invokespecial 11) 3 93 2 171, am_e3 14 (.putfield 14) 3 0 0 172, am_e0 17 (.aload_n 0) 1, am_e3 18 (.new 9) 3 5 0 170, am_e0 21 (.dup) 1, am_ec 22 (.bipush 60) 2 0 60, am_e3 24 (.invokespecial 11) 3 93 2 171, am_e3 27 (.putfield 20) 3 0 1 175, am_e0 30 (.aload_n 0) 1, am_e3 31 (.new 9) 3 5 0 170, am_e0 34 (.dup) 1, am_ec 35 (.bipush 60) 2 0 60, am_e3 37 (.invokespecial 11) 3 93 2 171, am_e3 40 (.putfield 23) 3 0 2 178, am_e0 43 (.aload_n 0) 1, am_e3 44 (.new 9) 3 5 0 170, am_e0 47 (.dup) 1, am_ec 48 (.bipush 60) 2 0 60, am_e3 50 (.invokespecial 11) 3 93 2 171, am_e3 53 (.putfield 26) 3 0 3 181, am_e0 56 (.aload_n 0) 1, am_e3 57 (.new 9) 3 5 0 170, am_e0 60 (.dup) 1, am_ec 61 (.bipush 60) 2 0 60, am_e3 63 (.invokespecial 11) 3 93 2 171, am_e3 66 (.putfield 29) 3 0 4 185, am_e0 69 (.aload_n 0) 1, am_e3 70 (.new 9) 3 5 0 170, am_e0 73 (.dup) 1, am_ec 74 (.bipush 60) 2 0 60, am_e3 76 (.invokespecial 11) 3 93 2 171, am_e3 79 (.putfield 32) 3 0 5 188, am_e0 82 (.return_) 1]
set_option maxRecDepth 100000 in
def km_Bids_copy : List am_E := [am_e0 0 (.aload_n 0) 1, am_e3 1 (.getfield 14) 3 0 0 172, am_e3 4 (.aload_n 1) 1 1 0 0, am_e3 5 (.getfield 14) 3 0 0 172, am_e3 8 (.invokevirtual 35) 3 96 2 447, am_e0 11 (.aload_n 0) 1, am_e3 12 (.getfield 20) 3 0 1 175, am_e3 15 (.aload_n 1) 1 1 0 0, am_e3 16 (.getfield 20) 3 0 1 175, am_e3 19 (.invokevirtual 35) 3 96 2 447, am_e0 22 (.aload_n 0) 1, am_e3 23 (.getfield 23) 3 0 2 178, am_e3 26 (.aload_n 1) 1 1 0 0, am_e3 27 (.getfield 23) 3 0 2 178, am_e3 30 (.invokevirtual 35) 3 96 2 447, am_e0 33 (.aload_n 0) 1, am_e3 34 (.getfield 26) 3 0 3 181, am_e3 37 (.aload_n 1) 1 1 0 0, am_e3 38 (.getfield 26) 3 0 3 181, am_e3 41 (.invokevirtual 35) 3 96 2 447, am_e0 44 (.aload_n 0) 1, am_e3 45 (.getfield 29) 3 0 4 185, am_e3 48 (.aload_n 1) 1 1 0 0, am_e3 49 (.getfield 29) 3 0 4 185, am_e3 52 (.invokevirtual 35) 3 96 2 447, am_e0 55 (.aload_n 0) 1, am_e3 56 (.getfield 32) 3 0 5 188, am_e3 59 (.aload_n 1) 1 1 0 0, am_e3 60 (.getfield 32) 3 0 5 188, am_e3 63 (.invokevirtual 35) 3 96 2 447, am_e0 66 (.aload_n 0) 1, am_e3 67 (.aload_n 1) 1 1 0 0, am_e3 68 (.getfield 39) 3 0 6 191, am_e3 71 (.putfield 39) 3 0 6 191, am_e0 74 (.return_) 1]
set_option maxRecDepth 100000 in
def km_Bids_add : List am_E := [am_e0 0 (.aload_n 0) 1, am_e3 1 (.getfield 14) 3 0 0 172, am_e0 4 (.aload_n 0) 1, am_e3 5 (.getfield 39) 3 0 6 191, am_e3 8 (.iload_n 1) 1 1 0 0, am_e3 9 (.invokevirtual 43) 3 95 3 544, am_e0 12 (.aload_n 0) 1, am_e3 13 (.getfield 20) 3 0 1 175, am_e0 16 (.aload_n 0) 1, am_e3 17 (.getfield 39) 3 0 6 191, am_e3 20 (.iload_n 2) 1 2 0 0, am_e3 21 (.invokevirtual 43) 3 95 3 544, am_e0 24 (.aload_n 0) 1, am_e3 25 (.getfield 23) 3 0 2 178, am_e0 28 (.aload_n 0) 1, am_e3 29 (.getfield 39) 3 0 6 191, am_e3 32 (.iload_n 3) 1 3 0 0, am_e3 33 (.invokevirtual 43) 3 95 3 544, am_e0 36 (.aload_n 0) 1, am_e3 37 (.getfield 26) 3 0 3 181, am_e0 40 (.aload_n 0) 1, am_e3 41 (.getfield 39) 3 0 6 191, am_e3 44 (.iload 4) 2 4 0 0, am_e3 46 (.invokevirtual 43) 3 95 3 544, am_e0 49 (.aload_n 0) 1, am_e3 50 (.getfield 29) 3 0 4 185, am_e0 53 (.aload_n 0) 1, am_e3 54 (.getfield 39) 3 0 6 191, am_e3 57 (.iload 5) 2 5 0 0, am_e3 59 (.invokevirtual 43) 3 95 3 544, am_e0 62 (.aload_n 0) 1, am_e3 63 (.getfield 32) 3 0 5 188, am_e0 66 (.aload_n 0) 1, am_e3 67 (.getfield 39) 3 0 6 191, am_ec 70 (.iconst 0) 1 0 0, am_e3 71 (.invokevirtual 43) 3 95 3 544, am_e0 74 (.aload_n 0) 1, am_e0 75 (.dup) 1, am_e3 76 (.getfield 39) 3 0 6 191, am_ec 79 (.iconst 1) 1 0 1, am_e0 80 (.iadd) 1, am_e3 81 (.putfield 39) 3 0 6 191, am_e0 84 (.aload_n 0) 1, am_e3 85 (.getfield 39) 3 0 6 191, am_ec 88 (.iconst 1) 1 0 1, am_e0 89 (.isub) 1, am_e0 90 (.ireturn) 1]
set_option maxRecDepth 100000 in
def km_Bids_freeGroup : List am_E := [am_ec 0 (.iconst 0) 1 0 0, am_e3 1 (.istore_n 2) 1 2 0 0, am_ec 2 (.iconst 0) 1 0 0, am_e3 3 (.istore_n 3) 1 3 0 0, am_e3 4 (.iload_n 3) 1 3 0 0, am_e0 5 (.aload_n 0) 1, am_e3 6 (.getfield 39) 3 0 6 191, am_e3 9 (.if_icmp .ge 34) 3 43 0 0, am_e0 12 (.aload_n 0) 1, am_e3 13 (.getfield 14) 3 0 0 172, am_e3 16 (.iload_n 3) 1 3 0 0, am_e3 17 (.invokevirtual 47) 3 94 2 608, am_e3 20 (.iload_n 1) 1 1 0 0, am_e3 21 (.if_icmp .ne 16) 3 37 0 0, am_e3 24 (.iload_n 2) 1 2 0 0, am_e0 25 (.aload_n 0) 1, am_e3 26 (.getfield 29) 3 0 4 185, am_e3 29 (.iload_n 3) 1 3 0 0, am_e3 30 (.invokevirtual 47) 3 94 2 608, am_e3 33 (.invokestatic 51) 3 1000 2 609, am_e3 36 (.istore_n 2) 1 2 0 0, am_ei 37 (.iinc 3 1) 3 3 1, am_e3 40 (.goto (-36)) 3 4 0 0, am_e3 43 (.iload_n 2) 1 2 0 0, am_ec 44 (.iconst 1) 1 0 1, am_e0 45 (.iadd) 1, am_e0 46 (.ireturn) 1]
set_option maxRecDepth 100000 in
def km_History_init : List am_E := [am_e0 0 (.aload_n 0) 1, am_e3 1 (.invokespecial 3) 3 1003 1 249, am_e0 4 (.aload_n 0) 1, am_ec 5 (.iconst 4) 1 0 4, am_e3 6 (.anewarray 9) 3 7 0 250, am_e3 9 (.putfield 11) 3 1 0 253, am_ec 12 (.iconst 0) 1 0 0, am_e3 13 (.istore_n 1) 1 1 0 0, am_e3 14 (.iload_n 1) 1 1 0 0, am_e0 15 (.aload_n 0) 1, am_e3 16 (.getfield 11) 3 1 0 253, am_e0 19 (.arraylength) 1, am_e3 20 (.if_icmp .ge 22) 3 42 0 0, am_e0 23 (.aload_n 0) 1, am_e3 24 (.getfield 11) 3 1 0 253, am_e3 27 (.iload_n 1) 1 1 0 0, am_e3 28 (.new 9) 3 7 0 250, am_e0 31 (.dup) 1, am_e3 32 (.invokespecial 17) 3 117 1 252, am_e0 35 (.aastore) 1, am_ei 36 (.iinc 1 1) 3 1 1, am_e3 39 (.goto (-25)) 3 14 0 0, am_e0 42 (.return_) 1]
set_option maxRecDepth 100000 in
def km_History_keep : List am_E := [am_e0 0 (.aload_n 0) 1, am_e3 1 (.getfield 18) 3 1 1 254, am_e0 4 (.aload_n 0) 1, am_e3 5 (.getfield 11) 3 1 0 253, am_e0 8 (.arraylength) 1, am_e3 9 (.if_icmp .lt 7) 3 16 0 0, am_e0 12 (.aload_n 0) 1, am_e3 13 (.invokevirtual 22) 3 72 1 415, am_e0 16 (.aload_n 0) 1, am_e3 17 (.getfield 18) 3 1 1 254, am_e3 20 (.ifCond .lt 27) 3 47 0 0, am_e0 23 (.aload_n 0) 1, am_e3 24 (.getfield 18) 3 1 1 254, am_e0 27 (.aload_n 0) 1, am_e3 28 (.getfield 11) 3 1 0 253, am_e0 31 (.arraylength) 1, am_e3 32 (.if_icmp .ge 15) 3 47 0 0, am_e0 35 (.aload_n 0) 1, am_e3 36 (.getfield 11) 3 1 0 253, am_e0 39 (.aload_n 0) 1, am_e3 40 (.getfield 18) 3 1 1 254, am_e0 43 (.aaload) 1, am_e3 44 (.goto 4) 3 48 0 0, am_e0 47 (.aconst_null) 1, am_e3 48 (.astore_n 2) 1 2 0 0, am_e3 49 (.aload_n 2) 1 2 0 0, am_e3 50 (.ifnull 18) 3 68 0 0, am_e3 53 (.aload_n 2) 1 2 0 0, am_e3 54 (.aload_n 1) 1 1 0 0, am_e3 55 (.invokevirtual 25) 3 118 2 419, am_e0 58 (.aload_n 0) 1, am_e0 59 (.dup) 1, am_e3 60 (.getfield 18) 3 1 1 254, am_ec 63 (.iconst 1) 1 0 1, am_e0 64 (.iadd) 1, am_e3 65 (.putfield 18) 3 1 1 254, am_e0 68 (.return_) 1]
set_option maxRecDepth 100000 in
def km_History_restore : List am_E := [am_e0 0 (.aload_n 0) 1, am_e3 1 (.getfield 18) 3 1 1 254, am_e3 4 (.ifCond .le 29) 3 33 0 0, am_e0 7 (.aload_n 0) 1, am_e3 8 (.getfield 18) 3 1 1 254, am_e0 11 (.aload_n 0) 1, am_e3 12 (.getfield 11) 3 1 0 253, am_e0 15 (.arraylength) 1, am_e3 16 (.if_icmp .gt 17) 3 33 0 0, am_e0 19 (.aload_n 0) 1, am_e3 20 (.getfield 11) 3 1 0 253, am_e0 23 (.aload_n 0) 1, am_e3 24 (.getfield 18) 3 1 1 254, am_ec 27 (.iconst 1) 1 0 1, am_e0 28 (.isub) 1, am_e0 29 (.aaload) 1, am_e3 30 (.goto 4) 3 34 0 0, am_e0 33 (.aconst_null) 1, am_e3 34 (.astore_n 2) 1 2 0 0, am_e3 35 (.aload_n 2) 1 2 0 0, am_e3 36 (.ifnull 18) 3 54 0 0, am_e3 39 (.aload_n 1) 1 1 0 0, am_e3 40 (.aload_n 2) 1 2 0 0, am_e3 41 (.invokevirtual 25) 3 118 2 419, am_e0 44 (.aload_n 0) 1, am_e0 45 (.dup) 1, am_e3 46 (.getfield 18) 3 1 1 254, am_ec 49 (.iconst 1) 1 0 1, am_e0 50 (.isub) 1, am_e3 51 (.putfield 18) 3 1 1 254, am_e0 54 (.return_) 1]
set_option maxRecDepth 100000 in
def km_History_dropOldest : List am_E := [am_e0 0 (.aload_n 0) 1, am_e3 1 (.getfield 11) 3 1 0 253, am_e0 4 (.arraylength) 1, am_e3 5 (.ifCond .ne 4) 3 9 0 0, am_e0 8 (.return_) 1, am_e0 9 (.aload_n 0) 1, am_e3 10 (.getfield 11) 3 1 0 253, am_ec 13 (.iconst 0) 1 0 0, am_e0 14 (.aaload) 1, am_e3 15 (.astore_n 1) 1 1 0 0, am_ec 16 (.iconst 1) 1 0 1, am_e3 17 (.istore_n 2) 1 2 0 0, am_e3 18 (.iload_n 2) 1 2 0 0, am_e0 19 (.aload_n 0) 1, am_e3 20 (.getfield 11) 3 1 0 253, am_e0 23 (.arraylength) 1, am_e3 24 (.if_icmp .ge 23) 3 47 0 0, am_e0 27 (.aload_n 0) 1, am_e3 28 (.getfield 11) 3 1 0 253, am_e3 31 (.iload_n 2) 1 2 0 0, am_ec 32 (.iconst 1) 1 0 1, am_e0 33 (.isub) 1, am_e0 34 (.aload_n 0) 1, am_e3 35 (.getfield 11) 3 1 0 253, am_e3 38 (.iload_n 2) 1 2 0 0, am_e0 39 (.aaload) 1, am_e0 40 (.aastore) 1, am_ei 41 (.iinc 2 1) 3 2 1, am_e3 44 (.goto (-26)) 3 18 0 0, am_e0 47 (.aload_n 0) 1, am_e3 48 (.getfield 11) 3 1 0 253, am_e0 51 (.aload_n 0) 1, am_e3 52 (.getfield 11) 3 1 0 253, am_e0 55 (.arraylength) 1, am_ec 56 (.iconst 1) 1 0 1, am_e0 57 (.isub) 1, am_e3 58 (.aload_n 1) 1 1 0 0, am_e0 59 (.aastore) 1, am_e0 60 (.aload_n 0) 1, am_e0 61 (.aload_n 0) 1, am_e3 62 (.getfield 11) 3 1 0 253, am_e0 65 (.arraylength) 1, am_ec 66 (.iconst 1) 1 0 1, am_e0 67 (.isub) 1, am_e3 68 (.putfield 18) 3 1 1 254, am_e0 71 (.return_) 1]
set_option maxRecDepth 100000 in
def km_Letter_init : List am_E := [am_e0 0 (.aload_n 0) 1, am_e3 1 (.invokespecial 3) 3 1003 1 331, am_e0 4 (.aload_n 0) 1, am_ec 5 (.bipush 80) 2 0 80, am_e3 7 (.newarray .char) 2 1 0 0, am_e3 9 (.putfield 9) 3 2 0 334, am_e0 12 (.aload_n 0) 1, am_e3 13 (.new 15) 3 5 0 332, am_e0 16 (.dup) 1, am_ec 17 (.bipush 20) 2 0 20, am_e3 19 (.invokespecial 17) 3 93 2 333, am_e3 22 (.putfield 20) 3 2 2 337, am_e0 25 (.aload_n 0) 1, am_e3 26 (.new 15) 3 5 0 332, am_e0 29 (.dup) 1, am_ec 30 (.bipush 20) 2 0 20, am_e3 32 (.invokespecial 17) 3 93 2 333, am_e3 35 (.putfield 24) 3 2 3 339, am_e0 38 (.aload_n 0) 1, am_e3 39 (.new 15) 3 5 0 332, am_e0 42 (.dup) 1, am_ec 43 (.bipush 20) 2 0 20, am_e3 45 (.invokespecial 17) 3 93 2 333, am_e3 48 (.putfield 27) 3 2 4 341, am_e0 51 (.return_) 1]
set_option maxRecDepth 100000 in
def km_Letter_append : List am_E := [am_e0 0 (.aload_n 0) 1, am_e3 1 (.getfield 30) 3 2 1 335, am_e3 4 (.ifCond .lt 15) 3 19 0 0, am_e0 7 (.aload_n 0) 1, am_e3 8 (.getfield 30) 3 2 1 335, am_e0 11 (.aload_n 0) 1, am_e3 12 (.getfield 9) 3 2 0 334, am_e0 15 (.arraylength) 1, am_e3 16 (.if_icmp .lt 5) 3 21 0 0, am_ec 19 (.iconst 0) 1 0 0, am_e0 20 (.ireturn) 1, am_e0 21 (.aload_n 0) 1, am_e3 22 (.getfield 9) 3 2 0 334, am_e0 25 (.aload_n 0) 1, am_e3 26 (.getfield 30) 3 2 1 335, am_e3 29 (.iload_n 1) 1 1 0 0, am_e0 30 (.castore) 1, am_e0 31 (.aload_n 0) 1, am_e0 32 (.dup) 1, am_e3 33 (.getfield 30) 3 2 1 335, am_ec 36 (.iconst 1) 1 0 1, am_e0 37 (.iadd) 1, am_e3 38 (.putfield 30) 3 2 1 335, am_ec 41 (.iconst 1) 1 0 1, am_e0 42 (.ireturn) 1]
set_option maxRecDepth 100000 in
def km_Letter_isInOneWish : List am_E := [am_e3 0 (.iload_n 1) 1 1 0 0, am_e3 1 (.ifCond .lt 34) 3 35 0 0, am_e3 4 (.iload_n 2) 1 2 0 0, am_e0 5 (.aload_n 0) 1, am_e3 6 (.getfield 34) 3 2 5 342, am_e3 9 (.if_icmp .ge 26) 3 35 0 0, am_e0 12 (.aload_n 0) 1, am_e3 13 (.getfield 27) 3 2 4 341, am_e3 16 (.iload_n 1) 1 1 0 0, am_e3 17 (.invokevirtual 37) 3 94 2 603, am_e0 20 (.aload_n 0) 1, am_e3 21 (.getfield 27) 3 2 4 341, am_e3 24 (.iload_n 2) 1 2 0 0, am_e3 25 (.invokevirtual 37) 3 94 2 603, am_e3 28 (.if_icmp .ne 7) 3 35 0 0, am_ec 31 (.iconst 1) 1 0 1, am_e3 32 (.goto 4) 3 36 0 0, am_ec 35 (.iconst 0) 1 0 0, am_e0 36 (.ireturn) 1]
set_option maxRecDepth 100000 in
def km_Letter_read : List am_E := [am_e0 0 (.aload_n 0) 1, am_ec 1 (.iconst 0) 1 0 0, am_e3 2 (.putfield 34) 3 2 5 342, am_e0 5 (.aload_n 0) 1, am_ec 6 (.iconst 0) 1 0 0, am_e3 7 (.putfield 41) 3 2 6 344, am_e0 10 (.aload_n 0) 1, am_ec 11 (.iconst 0) 1 0 0, am_e3 12 (.putfield 44) 3 2 7 345, am_e0 15 (.aload_n 0) 1, am_e3 16 (.invokevirtual 48) 3 77 1 573, am_ec 19 (.iconst 0) 1 0 0, am_e3 20 (.istore_n 2) 1 2 0 0, am_e3 21 (.iload_n 2) 1 2 0 0, am_e0 22 (.aload_n 0) 1, am_e3 23 (.getfield 30) 3 2 1 335, am_e3 26 (.if_icmp .ge 79) 3 105 0 0, am_e3 29 (.iload_n 2) 1 2 0 0, am_e0 30 (.aload_n 0) 1, am_e3 31 (.getfield 9) 3 2 0 334, am_e0 34 (.arraylength) 1, am_e3 35 (.if_icmp .ge 70) 3 105 0 0, am_e0 38 (.aload_n 0) 1, am_e3 39 (.getfield 9) 3 2 0 334, am_e3 42 (.iload_n 2) 1 2 0 0, am_e0 43 (.caload) 1, am_e3 44 (.istore_n 3) 1 3 0 0, am_e3 45 (.iload_n 3) 1 3 0 0, am_ec 46 (.bipush 48) 2 0 48, am_e3 48 (.if_icmp .lt 13) 3 61 0 0, am_e3 51 (.iload_n 3) 1 3 0 0, am_ec 52 (.bipush 57) 2 0 57, am_e3 54 (.if_icmp .gt 7) 3 61 0 0, am_ec 57 (.iconst 1) 1 0 1, am_e3 58 (.goto 4) 3 62 0 0, am_ec 61 (.iconst 0) 1 0 0, am_e3 62 (.istore 4) 2 4 0 0, am_e3 64 (.iload 4) 2 4 0 0, am_e3 66 (.ifCond .eq 15) 3 81 0 0, am_e0 69 (.aload_n 0) 1, am_e3 70 (.iload_n 3) 1 3 0 0, am_ec 71 (.bipush 48) 2 0 48, am_e0 73 (.isub) 1, am_e3 74 (.iload_n 2) 1 2 0 0, am_e3 75 (.invokevirtual 51) 3 78 3 577, am_e3 78 (.goto 10) 3 88 0 0, am_e0 81 (.aload_n 0) 1, am_e3 82 (.iload_n 3) 1 3 0 0, am_e3 83 (.iload_n 2) 1 2 0 0, am_e3 84 (.iload_n 1) 1 1 0 0, am_e3 85 (.invokevirtual 55) 3 79 4 581, am_e3 88 (.istore 5) 2 5 0 0, am_e3 90 (.iload 5) 2 5 0 0, am_ec 92 (.iconst (-1)) 1 0 (-1), am_e3 93 (.if_icmp .eq 6) 3 99 0 0, am_e3 96 (.iload 5) 2 5 0 0, am_e0 98 (.ireturn) 1, am_ei 99 (.iinc 2 1) 3 2 1, am_e3 102 (.goto (-81)) 3 21 0 0, am_e0 105 (.aload_n 0) 1, am_e3 106 (.iload_n 1) 1 1 0 0, am_e3 107 (.invokevirtual 59) 3 80 2 595, am_e0 110 (.ireturn) 1]
set_option maxRecDepth 100000 in
def km_Letter_startNumber : List am_E := [am_e0 0 (.aload_n 0) 1, am_ec 1 (.iconst 0) 1 0 0, am_e3 2 (.putfield 62) 3 2 8 346, am_e0 5 (.aload_n 0) 1, am_ec 6 (.iconst 0) 1 0 0, am_e3 7 (.putfield 65) 3 2 9 347, am_e0 10 (.return_) 1]
set_option maxRecDepth 100000 in
def km_Letter_readDigit : List am_E := [am_e0 0 (.aload_n 0) 1, am_e3 1 (.getfield 44) 3 2 7 345, am_e3 4 (.ifCond .eq 22) 3 26 0 0, am_e0 7 (.aload_n 0) 1, am_e3 8 (.getfield 65) 3 2 9 347, am_e3 11 (.ifCond .ne 11) 3 22 0 0, am_e3 14 (.iload_n 1) 1 1 0 0, am_e3 15 (.ifCond .ne 7) 3 22 0 0, am_ec 18 (.iconst 1) 1 0 1, am_e3 19 (.goto 27) 3 46 0 0, am_ec 22 (.iconst 0) 1 0 0, am_e3 23 (.goto 23) 3 46 0 0, am_e0 26 (.aload_n 0) 1, am_e3 27 (.getfield 65) 3 2 9 347, am_ec 30 (.iconst 1) 1 0 1, am_e3 31 (.if_icmp .ne 14) 3 45 0 0, am_e0 34 (.aload_n 0) 1, am_e3 35 (.getfield 62) 3 2 8 346, am_e3 38 (.ifCond .ne 7) 3 45 0 0, am_ec 41 (.iconst 1) 1 0 1, am_e3 42 (.goto 4) 3 46 0 0, am_ec 45 (.iconst 0) 1 0 0, am_e3 46 (.istore_n 3) 1 3 0 0, am_e3 47 (.iload_n 3) 1 3 0 0, am_e3 48 (.ifCond .ne 23) 3 71 0 0, am_e0 51 (.aload_n 0) 1, am_e3 52 (.getfield 65) 3 2 9 347, am_e0 55 (.aload_n 0) 1, am_e3 56 (.getfield 44) 3 2 7 345, am_e3 59 (.ifCond .eq 8) 3 67 0 0, am_ec 62 (.bipush 7) 2 0 7, am_e3 64 (.goto 4) 3 68 0 0, am_ec 67 (.iconst 2) 1 0 2, am_e3 68 (.if_icmp .lt 5) 3 73 0 0, am_e3 71 (.iload_n 2) 1 2 0 0, am_e0 72 (.ireturn) 1, am_e0 73 (.aload_n 0) 1, am_e0 74 (.aload_n 0) 1, am_e3 75 (.getfield 62) 3 2 8 346, am_ec 78 (.bipush 10) 2 0 10, am_e0 80 (.imul) 1, am_e3 81 (.iload_n 1) 1 1 0 0, am_e0 82 (.iadd) 1, am_e3 83 (.putfield 62) 3 2 8 346, am_e0 86 (.aload_n 0) 1, am_e0 87 (.dup) 1, am_e3 88 (.getfield 65) 3 2 9 347, am_ec 91 (.iconst 1) 1 0 1, am_e0 92 (.iadd) 1, am_e3 93 (.putfield 65) 3 2 9 347, am_ec 96 (.iconst (-1)) 1 0 (-1), am_e0 97 (.ireturn) 1]
set_option maxRecDepth 100000 in
def km_Letter_readMark : List am_E := [am_e0 0 (.aload_n 0) 1, am_e3 1 (.getfield 65) 3 2 9 347, am_e3 4 (.ifCond .ne 5) 3 9 0 0, am_e3 7 (.iload_n 2) 1 2 0 0, am_e0 8 (.ireturn) 1, am_e0 9 (.aload_n 0) 1, am_e3 10 (.iload_n 3) 1 3 0 0, am_e3 11 (.invokevirtual 68) 3 81 2 585, am_e3 14 (.ifCond .eq 10) 3 24 0 0, am_e3 17 (.iload_n 2) 1 2 0 0, am_e0 18 (.aload_n 0) 1, am_e3 19 (.getfield 65) 3 2 9 347, am_e0 22 (.isub) 1, am_e0 23 (.ireturn) 1, am_e0 24 (.aload_n 0) 1, am_e3 25 (.getfield 44) 3 2 7 345, am_e3 28 (.ifCond .eq 23) 3 51 0 0, am_e3 31 (.iload_n 1) 1 1 0 0, am_ec 32 (.bipush 44) 2 0 44, am_e3 34 (.if_icmp .eq 9) 3 43 0 0, am_e3 37 (.iload_n 1) 1 1 0 0, am_ec 38 (.bipush 47) 2 0 47, am_e3 40 (.if_icmp .ne 7) 3 47 0 0, am_ec 43 (.iconst 1) 1 0 1, am_e3 44 (.goto 18) 3 62 0 0, am_ec 47 (.iconst 0) 1 0 0, am_e3 48 (.goto 14) 3 62 0 0, am_e3 51 (.iload_n 1) 1 1 0 0, am_ec 52 (.bipush 61) 2 0 61, am_e3 54 (.if_icmp .ne 7) 3 61 0 0, am_ec 57 (.iconst 1) 1 0 1, am_e3 58 (.goto 4) 3 62 0 0, am_ec 61 (.iconst 0) 1 0 0, am_e3 62 (.istore 4) 2 4 0 0, am_e3 64 (.iload 4) 2 4 0 0, am_e3 66 (.ifCond .ne 5) 3 71 0 0, am_e3 69 (.iload_n 2) 1 2 0 0, am_e0 70 (.ireturn) 1, am_e0 71 (.aload_n 0) 1, am_e3 72 (.invokevirtual 72) 3 82 1 590, am_e3 75 (.iload_n 1) 1 1 0 0, am_ec 76 (.bipush 44) 2 0 44, am_e3 78 (.if_icmp .ne 13) 3 91 0 0, am_e0 81 (.aload_n 0) 1, am_e0 82 (.dup) 1, am_e3 83 (.getfield 41) 3 2 6 344, am_ec 86 (.iconst 1) 1 0 1, am_e0 87 (.iadd) 1, am_e3 88 (.putfield 41) 3 2 6 344, am_ec 91 (.iconst (-1)) 1 0 (-1), am_e0 92 (.ireturn) 1]
set_option maxRecDepth 100000 in
def km_Letter_readEnd : List am_E := [am_e0 0 (.aload_n 0) 1, am_e3 1 (.getfield 65) 3 2 9 347, am_e3 4 (.ifCond .le 21) 3 25 0 0, am_e0 7 (.aload_n 0) 1, am_e3 8 (.iload_n 1) 1 1 0 0, am_e3 9 (.invokevirtual 68) 3 81 2 585, am_e3 12 (.ifCond .eq 13) 3 25 0 0, am_e0 15 (.aload_n 0) 1, am_e3 16 (.getfield 30) 3 2 1 335, am_e0 19 (.aload_n 0) 1, am_e3 20 (.getfield 65) 3 2 9 347, am_e0 23 (.isub) 1, am_e0 24 (.ireturn) 1, am_e0 25 (.aload_n 0) 1, am_e3 26 (.getfield 44) 3 2 7 345, am_e3 29 (.ifCond .eq 10) 3 39 0 0, am_e0 32 (.aload_n 0) 1, am_e3 33 (.getfield 65) 3 2 9 347, am_e3 36 (.ifCond .ne 8) 3 44 0 0, am_e0 39 (.aload_n 0) 1, am_e3 40 (.getfield 30) 3 2 1 335, am_e0 43 (.ireturn) 1, am_e0 44 (.aload_n 0) 1, am_e3 45 (.invokevirtual 72) 3 82 1 590, am_ec 48 (.iconst (-1)) 1 0 (-1), am_e0 49 (.ireturn) 1]
set_option maxRecDepth 100000 in
def km_Letter_isTooGreat : List am_E := [am_e0 0 (.aload_n 0) 1, am_e3 1 (.getfield 44) 3 2 7 345, am_e3 4 (.ifCond .eq 20) 3 24 0 0, am_e0 7 (.aload_n 0) 1, am_e3 8 (.getfield 62) 3 2 8 346, am_ec 11 (.ldc 75) 2 589 1000000, am_e3 13 (.if_icmp .le 7) 3 20 0 0, am_ec 16 (.iconst 1) 1 0 1, am_e3 17 (.goto 20) 3 37 0 0, am_ec 20 (.iconst 0) 1 0 0, am_e3 21 (.goto 16) 3 37 0 0, am_e0 24 (.aload_n 0) 1, am_e3 25 (.getfield 62) 3 2 8 346, am_e3 28 (.iload_n 1) 1 1 0 0, am_e3 29 (.if_icmp .lt 7) 3 36 0 0, am_ec 32 (.iconst 1) 1 0 1, am_e3 33 (.goto 4) 3 37 0 0, am_ec 36 (.iconst 0) 1 0 0, am_e0 37 (.ireturn) 1]
set_option maxRecDepth 100000 in
def km_Letter_takeNumber : List am_E := [am_e0 0 (.aload_n 0) 1, am_e3 1 (.getfield 44) 3 2 7 345, am_e3 4 (.ifCond .eq 46) 3 50 0 0, am_e0 7 (.aload_n 0) 1, am_e3 8 (.getfield 24) 3 2 3 339, am_e0 11 (.aload_n 0) 1, am_e3 12 (.getfield 34) 3 2 5 342, am_e0 15 (.aload_n 0) 1, am_e3 16 (.getfield 62) 3 2 8 346, am_e3 19 (.invokevirtual 76) 3 95 3 594, am_e0 22 (.aload_n 0) 1, am_e3 23 (.getfield 27) 3 2 4 341, am_e0 26 (.aload_n 0) 1, am_e3 27 (.getfield 34) 3 2 5 342, am_e0 30 (.aload_n 0) 1, am_e3 31 (.getfield 41) 3 2 6 344, am_e3 34 (.invokevirtual 76) 3 95 3 594, am_e0 37 (.aload_n 0) 1, am_e0 38 (.dup) 1, am_e3 39 (.getfield 34) 3 2 5 342, am_ec 42 (.iconst 1) 1 0 1, am_e0 43 (.iadd) 1, am_e3 44 (.putfield 34) 3 2 5 342, am_e3 47 (.goto 18) 3 65 0 0, am_e0 50 (.aload_n 0) 1, am_e3 51 (.getfield 20) 3 2 2 337, am_e0 54 (.aload_n 0) 1, am_e3 55 (.getfield 34) 3 2 5 342, am_e0 58 (.aload_n 0) 1, am_e3 59 (.getfield 62) 3 2 8 346, am_e3 62 (.invokevirtual 76) 3 95 3 594, am_e0 65 (.aload_n 0) 1, am_e0 66 (.aload_n 0) 1, am_e3 67 (.getfield 44) 3 2 7 345, am_e3 70 (.ifCond .ne 7) 3 77 0 0, am_ec 73 (.iconst 1) 1 0 1, am_e3 74 (.goto 4) 3 78 0 0, am_ec 77 (.iconst 0) 1 0 0, am_e3 78 (.putfield 44) 3 2 7 345, am_e0 81 (.aload_n 0) 1, am_e3 82 (.invokevirtual 48) 3 77 1 573, am_e0 85 (.return_) 1]
set_option maxRecDepth 100000 in
def km_Lots_init : List am_E := [am_e0 0 (.aload_n 0) 1, am_e3 1 (.invokespecial 3) 3 1003 1 129, am_e0 4 (.aload_n 0) 1, am_e3 5 (.new 9) 3 5 0 130, am_e0 8 (.dup) 1, am_ec 9 (.bipush 20) 2 0 20, am_e3 11 (.invokespecial 11) 3 93 2 131, am_e3 14 (.putfield 14) 3 3 0 132, am_e0 17 (.aload_n 0) 1, am_e3 18 (.new 9) 3 5 0 130, am_e0 21 (.dup) 1, am_ec 22 (.bipush 20) 2 0 20, am_e3 24 (.invokespecial 11) 3 93 2 131, am_e3 27 (.putfield 20) 3 3 1 136, am_e0 30 (.aload_n 0) 1, am_e3 31 (.new 9) 3 5 0 130, am_e0 34 (.dup) 1, am_ec 35 (.bipush 20) 2 0 20, am_e3 37 (.invokespecial 11) 3 93 2 131, am_e3 40 (.putfield 23) 3 3 2 140, am_e0 43 (.aload_n 0) 1, am_e3 44 (.new 9) 3 5 0 130, am_e0 47 (.dup) 1, am_ec 48 (.bipush 20) 2 0 20, am_e3 50 (.invokespecial 11) 3 93 2 131, am_e3 53 (.putfield 26) 3 3 3 144, am_e0 56 (.return_) 1]
set_option maxRecDepth 100000 in
def km_Lots_copy : List am_E := [am_e0 0 (.aload_n 0) 1, am_e3 1 (.getfield 14) 3 3 0 132, am_e3 4 (.aload_n 1) 1 1 0 0, am_e3 5 (.getfield 14) 3 3 0 132, am_e3 8 (.invokevirtual 29) 3 96 2 441, am_e0 11 (.aload_n 0) 1, am_e3 12 (.getfield 20) 3 3 1 136, am_e3 15 (.aload_n 1) 1 1 0 0, am_e3 16 (.getfield 20) 3 3 1 136, am_e3 19 (.invokevirtual 29) 3 96 2 441, am_e0 22 (.aload_n 0) 1, am_e3 23 (.getfield 23) 3 3 2 140, am_e3 26 (.aload_n 1) 1 1 0 0, am_e3 27 (.getfield 23) 3 3 2 140, am_e3 30 (.invokevirtual 29) 3 96 2 441, am_e0 33 (.aload_n 0) 1, am_e3 34 (.getfield 26) 3 3 3 144, am_e3 37 (.aload_n 1) 1 1 0 0, am_e3 38 (.getfield 26) 3 3 3 144, am_e3 41 (.invokevirtual 29) 3 96 2 441, am_e0 44 (.aload_n 0) 1, am_e3 45 (.aload_n 1) 1 1 0 0, am_e3 46 (.getfield 33) 3 3 4 149, am_e3 49 (.putfield 33) 3 3 4 149, am_e0 52 (.return_) 1]
set_option maxRecDepth 100000 in
def km_Lots_add : List am_E := [am_e0 0 (.aload_n 0) 1, am_e3 1 (.getfield 14) 3 3 0 132, am_e0 4 (.aload_n 0) 1, am_e3 5 (.getfield 33) 3 3 4 149, am_e3 8 (.iload_n 1) 1 1 0 0, am_e3 9 (.invokevirtual 37) 3 95 3 497, am_e0 12 (.aload_n 0) 1, am_e3 13 (.getfield 20) 3 3 1 136, am_e0 16 (.aload_n 0) 1, am_e3 17 (.getfield 33) 3 3 4 149, am_e3 20 (.iload_n 2) 1 2 0 0, am_e3 21 (.invokevirtual 37) 3 95 3 497, am_e0 24 (.aload_n 0) 1, am_e3 25 (.getfield 23) 3 3 2 140, am_e0 28 (.aload_n 0) 1, am_e3 29 (.getfield 33) 3 3 4 149, am_e3 32 (.iload_n 3) 1 3 0 0, am_e3 33 (.invokevirtual 37) 3 95 3 497, am_e0 36 (.aload_n 0) 1, am_e3 37 (.getfield 26) 3 3 3 144, am_e0 40 (.aload_n 0) 1, am_e3 41 (.getfield 33) 3 3 4 149, am_ec 44 (.iconst 0) 1 0 0, am_e3 45 (.invokevirtual 37) 3 95 3 497, am_e0 48 (.aload_n 0) 1, am_e0 49 (.dup) 1, am_e3 50 (.getfield 33) 3 3 4 149, am_ec 53 (.iconst 1) 1 0 1, am_e0 54 (.iadd) 1, am_e3 55 (.putfield 33) 3 3 4 149, am_e0 58 (.aload_n 0) 1, am_e3 59 (.getfield 33) 3 3 4 149, am_ec 62 (.iconst 1) 1 0 1, am_e0 63 (.isub) 1, am_e0 64 (.ireturn) 1]
set_option maxRecDepth 100000 in
def km_Money_init : List am_E := [am_e0 0 (.aload_n 0) 1, am_e3 1 (.invokespecial 3) 3 1003 1 318, am_e0 4 (.aload_n 0) 1, am_e3 5 (.aload_n 1) 1 1 0 0, am_e3 6 (.putfield 9) 3 4 0 319, am_e0 9 (.aload_n 0) 1, am_e3 10 (.aload_n 2) 1 2 0 0, am_e3 11 (.putfield 15) 3 4 1 320, am_e0 14 (.return_) 1]
set_option maxRecDepth 100000 in
def km_Money_paidBy : List am_E := [am_ec 0 (.iconst 0) 1 0 0, am_e3 1 (.istore_n 2) 1 2 0 0, am_ec 2 (.iconst 0) 1 0 0, am_e3 3 (.istore_n 3) 1 3 0 0, am_e3 4 (.iload_n 3) 1 3 0 0, am_e0 5 (.aload_n 0) 1, am_e3 6 (.getfield 9) 3 4 0 319, am_e3 9 (.getfield 19) 3 7 1 216, am_e3 12 (.getfield 25) 3 3 4 147, am_e3 15 (.if_icmp .ge 40) 3 55 0 0, am_e0 18 (.aload_n 0) 1, am_e3 19 (.getfield 15) 3 4 1 320, am_e3 22 (.getfield 31) 3 6 1 271, am_e3 25 (.iload_n 3) 1 3 0 0, am_e3 26 (.invokevirtual 37) 3 94 2 739, am_e3 29 (.iload_n 1) 1 1 0 0, am_e3 30 (.if_icmp .ne 19) 3 49 0 0, am_e3 33 (.iload_n 2) 1 2 0 0, am_e0 34 (.aload_n 0) 1, am_ec 35 (.iconst 0) 1 0 0, am_e3 36 (.iload_n 3) 1 3 0 0, am_e3 37 (.invokevirtual 43) 3 91 3 740, am_e0 40 (.aload_n 0) 1, am_ec 41 (.iconst 1) 1 0 1, am_e3 42 (.iload_n 3) 1 3 0 0, am_e3 43 (.invokevirtual 43) 3 91 3 740, am_e0 46 (.iadd) 1, am_e0 47 (.iadd) 1, am_e3 48 (.istore_n 2) 1 2 0 0, am_ei 49 (.iinc 3 1) 3 3 1, am_e3 52 (.goto (-48)) 3 4 0 0, am_e3 55 (.iload_n 2) 1 2 0 0, am_e0 56 (.ireturn) 1]
set_option maxRecDepth 100000 in
def km_Money_total : List am_E := [am_el 0 (.lconst 0) 1 0 0, am_e3 1 (.lstore_n 3) 1 3 0 0, am_ec 2 (.iconst 0) 1 0 0, am_e3 3 (.istore 5) 2 5 0 0, am_e3 5 (.iload 5) 2 5 0 0, am_e0 7 (.aload_n 0) 1, am_e3 8 (.getfield 9) 3 4 0 319, am_e3 11 (.getfield 19) 3 7 1 216, am_e3 14 (.getfield 25) 3 3 4 147, am_e3 17 (.if_icmp .ge 44) 3 61 0 0, am_e3 20 (.iload_n 2) 1 2 0 0, am_ec 21 (.iconst (-1)) 1 0 (-1), am_e3 22 (.if_icmp .eq 22) 3 44 0 0, am_e3 25 (.iload_n 2) 1 2 0 0, am_e0 26 (.aload_n 0) 1, am_e3 27 (.getfield 9) 3 4 0 319, am_e3 30 (.getfield 19) 3 7 1 216, am_e3 33 (.getfield 47) 3 3 0 133, am_e3 36 (.iload 5) 2 5 0 0, am_e3 38 (.invokevirtual 37) 3 94 2 739, am_e3 41 (.if_icmp .ne 14) 3 55 0 0, am_e3 44 (.lload_n 3) 1 3 0 0, am_e0 45 (.aload_n 0) 1, am_e3 46 (.iload_n 1) 1 1 0 0, am_e3 47 (.iload 5) 2 5 0 0, am_e3 49 (.invokevirtual 43) 3 91 3 740, am_e0 52 (.i2l) 1, am_e0 53 (.ladd) 1, am_e3 54 (.lstore_n 3) 1 3 0 0, am_ei 55 (.iinc 5 1) 3 5 1, am_e3 58 (.goto (-53)) 3 5 0 0, am_e3 61 (.lload_n 3) 1 3 0 0, am_e0 62 (.lreturn) 1]
set_option maxRecDepth 100000 in
def km_Money_payments : List am_E := [am_e0 0 (.aload_n 0) 1, am_ec 1 (.iconst 0) 1 0 0, am_ec 2 (.iconst (-1)) 1 0 (-1), am_e3 3 (.invokevirtual 50) 3 88 3 765, am_e0 6 (.aload_n 0) 1, am_ec 7 (.iconst 1) 1 0 1, am_ec 8 (.iconst (-1)) 1 0 (-1), am_e3 9 (.invokevirtual 50) 3 88 3 765, am_e0 12 (.ladd) 1, am_e0 13 (.lreturn) 1]
set_option maxRecDepth 100000 in
def km_Money_receipts : List am_E := [am_e0 0 (.aload_n 0) 1, am_ec 1 (.iconst 0) 1 0 0, am_e3 2 (.iload_n 1) 1 1 0 0, am_e3 3 (.invokevirtual 50) 3 88 3 765, am_e0 6 (.aload_n 0) 1, am_ec 7 (.iconst 2) 1 0 2, am_e3 8 (.iload_n 1) 1 1 0 0, am_e3 9 (.invokevirtual 50) 3 88 3 765, am_e0 12 (.lsub) 1, am_e0 13 (.aload_n 0) 1, am_ec 14 (.iconst 3) 1 0 3, am_e3 15 (.iload_n 1) 1 1 0 0, am_e3 16 (.invokevirtual 50) 3 88 3 765, am_e0 19 (.lsub) 1, am_e0 20 (.lreturn) 1]
set_option maxRecDepth 100000 in
def km_Money_part : List am_E := [am_e0 0 (.aload_n 0) 1, am_e3 1 (.getfield 15) 3 4 1 320, am_e3 4 (.getfield 54) 3 6 2 274, am_e3 7 (.iload_n 2) 1 2 0 0, am_e3 8 (.invokevirtual 37) 3 94 2 739, am_e3 11 (.istore_n 3) 1 3 0 0, am_e3 12 (.iload_n 1) 1 1 0 0, am_es 13 (.tableswitch 65 0 2 #[27, 29, 47]) 27 78 [(0, 40), (1, 42), (2, 60)], am_e3 40 (.iload_n 3) 1 3 0 0, am_e0 41 (.ireturn) 1, am_e3 42 (.iload_n 3) 1 3 0 0, am_e0 43 (.aload_n 0) 1, am_e3 44 (.getfield 9) 3 4 0 319, am_e3 47 (.getfield 57) 3 7 5 229, am_ec 50 (.iconst 1) 1 0 1, am_e3 51 (.invokevirtual 37) 3 94 2 739, am_e0 54 (.imul) 1, am_ec 55 (.sipush 1000) 3 0 1000, am_e0 58 (.idiv) 1, am_e0 59 (.ireturn) 1, am_e3 60 (.iload_n 3) 1 3 0 0, am_e0 61 (.aload_n 0) 1, am_e3 62 (.getfield 9) 3 4 0 319, am_e3 65 (.getfield 57) 3 7 5 229, am_ec 68 (.iconst 2) 1 0 2, am_e3 69 (.invokevirtual 37) 3 94 2 739, am_e0 72 (.imul) 1, am_ec 73 (.sipush 1000) 3 0 1000, am_e0 76 (.idiv) 1, am_e0 77 (.ireturn) 1, am_e0 78 (.aload_n 0) 1, am_e3 79 (.iload_n 2) 1 2 0 0, am_e3 80 (.invokevirtual 60) 3 92 2 744, am_e3 83 (.ifCond .eq 17) 3 100 0 0, am_e0 86 (.aload_n 0) 1, am_e3 87 (.getfield 9) 3 4 0 319, am_e3 90 (.getfield 57) 3 7 5 229, am_ec 93 (.iconst 3) 1 0 3, am_e3 94 (.invokevirtual 37) 3 94 2 739, am_e3 97 (.goto 4) 3 101 0 0, am_ec 100 (.iconst 0) 1 0 0, am_e0 101 (.ireturn) 1]
set_option maxRecDepth 100000 in
def km_Money_owesFee : List am_E := [am_e0 0 (.aload_n 0) 1, am_e3 1 (.getfield 15) 3 4 1 320, am_e3 4 (.getfield 64) 3 6 3 277, am_e3 7 (.iload_n 1) 1 1 0 0, am_e3 8 (.invokevirtual 37) 3 94 2 739, am_e3 11 (.istore_n 2) 1 2 0 0, am_e3 12 (.iload_n 2) 1 2 0 0, am_ec 13 (.iconst 1) 1 0 1, am_e3 14 (.if_icmp .eq 8) 3 22 0 0, am_e3 17 (.iload_n 2) 1 2 0 0, am_ec 18 (.iconst 2) 1 0 2, am_e3 19 (.if_icmp .ne 7) 3 26 0 0, am_ec 22 (.iconst 1) 1 0 1, am_e3 23 (.goto 4) 3 27 0 0, am_ec 26 (.iconst 0) 1 0 0, am_e0 27 (.ireturn) 1]
set_option maxRecDepth 100000 in
def km_Row_init : List am_E := [am_e0 0 (.aload_n 0) 1, am_e3 1 (.invokespecial 1) 3 1003 1 100, am_e0 4 (.aload_n 0) 1, am_e3 5 (.iload_n 1) 1 1 0 0, am_ec 6 (.iconst 0) 1 0 0, am_e3 7 (.invokestatic 7) 3 1000 2 101, am_e0 10 (.newarray .int) 2, am_e3 12 (.putfield 13) 3 5 0 104, am_e0 15 (.return_) 1]
set_option maxRecDepth 100000 in
def km_Row_get : List am_E := [am_e3 0 (.iload_n 1) 1 1 0 0, am_e3 1 (.ifCond .lt 21) 3 22 0 0, am_e3 4 (.iload_n 1) 1 1 0 0, am_e0 5 (.aload_n 0) 1, am_e3 6 (.getfield 13) 3 5 0 104, am_e0 9 (.arraylength) 1, am_e3 10 (.if_icmp .ge 12) 3 22 0 0, am_e0 13 (.aload_n 0) 1, am_e3 14 (.getfield 13) 3 5 0 104, am_e3 17 (.iload_n 1) 1 1 0 0, am_e0 18 (.iaload) 1, am_e3 19 (.goto 4) 3 23 0 0, am_ec 22 (.iconst 0) 1 0 0, am_e0 23 (.ireturn) 1]
set_option maxRecDepth 100000 in
def km_Row_put : List am_E := [am_e3 0 (.iload_n 1) 1 1 0 0, am_e3 1 (.ifCond .lt 19) 3 20 0 0, am_e3 4 (.iload_n 1) 1 1 0 0, am_e0 5 (.aload_n 0) 1, am_e3 6 (.getfield 13) 3 5 0 104, am_e0 9 (.arraylength) 1, am_e3 10 (.if_icmp .ge 10) 3 20 0 0, am_e0 13 (.aload_n 0) 1, am_e3 14 (.getfield 13) 3 5 0 104, am_e3 17 (.iload_n 1) 1 1 0 0, am_e3 18 (.iload_n 2) 1 2 0 0, am_e0 19 (.iastore) 1, am_e0 20 (.return_) 1]
set_option maxRecDepth 100000 in
def km_Row_copy : List am_E := [am_e3 0 (.aload_n 1) 1 1 0 0, am_e3 1 (.getfield 13) 3 5 0 104, am_ec 4 (.iconst 0) 1 0 0, am_e0 5 (.aload_n 0) 1, am_e3 6 (.getfield 13) 3 5 0 104, am_ec 9 (.iconst 0) 1 0 0, am_e3 10 (.aload_n 1) 1 1 0 0, am_e3 11 (.getfield 13) 3 5 0 104, am_e0 14 (.arraylength) 1, am_e0 15 (.aload_n 0) 1, am_e3 16 (.getfield 13) 3 5 0 104, am_e0 19 (.arraylength) 1, am_e3 20 (.invokestatic 19) 3 1001 2 431, am_e3 23 (.invokestatic 22) 3 1002 5 434, am_e0 26 (.return_) 1]
set_option maxRecDepth 100000 in
def km_Row_sum : List am_E := [am_ec 0 (.iconst 0) 1 0 0, am_e3 1 (.istore_n 2) 1 2 0 0, am_ec 2 (.iconst 0) 1 0 0, am_e3 3 (.istore_n 3) 1 3 0 0, am_e3 4 (.iload_n 3) 1 3 0 0, am_e3 5 (.iload_n 1) 1 1 0 0, am_e3 6 (.if_icmp .ge 27) 3 33 0 0, am_e3 9 (.iload_n 3) 1 3 0 0, am_e0 10 (.aload_n 0) 1, am_e3 11 (.getfield 13) 3 5 0 104, am_e0 14 (.arraylength) 1, am_e3 15 (.if_icmp .ge 18) 3 33 0 0, am_e3 18 (.iload_n 2) 1 2 0 0, am_e0 19 (.aload_n 0) 1, am_e3 20 (.getfield 13) 3 5 0 104, am_e3 23 (.iload_n 3) 1 3 0 0, am_e0 24 (.iaload) 1, am_e0 25 (.iadd) 1, am_e3 26 (.istore_n 2) 1 2 0 0, am_ei 27 (.iinc 3 1) 3 3 1, am_e3 30 (.goto (-26)) 3 4 0 0, am_e3 33 (.iload_n 2) 1 2 0 0, am_e0 34 (.ireturn) 1]
set_option maxRecDepth 100000 in
def km_Row_countOf : List am_E := [am_ec 0 (.iconst 0) 1 0 0, am_e3 1 (.istore_n 3) 1 3 0 0, am_ec 2 (.iconst 0) 1 0 0, am_e3 3 (.istore 4) 2 4 0 0, am_e3 5 (.iload 4) 2 4 0 0, am_e3 7 (.iload_n 2) 1 2 0 0, am_e3 8 (.if_icmp .ge 33) 3 41 0 0, am_e3 11 (.iload 4) 2 4 0 0, am_e0 13 (.aload_n 0) 1, am_e3 14 (.getfield 13) 3 5 0 104, am_e0 17 (.arraylength) 1, am_e3 18 (.if_icmp .ge 23) 3 41 0 0, am_e0 21 (.aload_n 0) 1, am_e3 22 (.getfield 13) 3 5 0 104, am_e3 25 (.iload 4) 2 4 0 0, am_e0 27 (.iaload) 1, am_e3 28 (.iload_n 1) 1 1 0 0, am_e3 29 (.if_icmp .ne 6) 3 35 0 0, am_ei 32 (.iinc 3 1) 3 3 1, am_ei 35 (.iinc 4 1) 3 4 1, am_e3 38 (.goto (-33)) 3 5 0 0, am_e3 41 (.iload_n 3) 1 3 0 0, am_e0 42 (.ireturn) 1]
set_option maxRecDepth 100000 in
def km_Sale_init : List am_E := [am_e0 0 (.aload_n 0) 1, am_e3 1 (.invokespecial 3) 3 1003 1 266, am_e0 4 (.aload_n 0) 1, am_e3 5 (.new 9) 3 5 0 267, am_e0 8 (.dup) 1, am_ec 9 (.bipush 20) 2 0 20, am_e3 11 (.invokespecial 11) 3 93 2 268, am_e3 14 (.putfield 14) 3 6 1 270, am_e0 17 (.aload_n 0) 1, am_e3 18 (.new 9) 3 5 0 267, am_e0 21 (.dup) 1, am_ec 22 (.bipush 20) 2 0 20, am_e3 24 (.invokespecial 11) 3 93 2 268, am_e3 27 (.putfield 20) 3 6 2 273, am_e0 30 (.aload_n 0) 1, am_e3 31 (.new 9) 3 5 0 267, am_e0 34 (.dup) 1, am_ec 35 (.bipush 20) 2 0 20, am_e3 37 (.invokespecial 11) 3 93 2 268, am_e3 40 (.putfield 23) 3 6 3 276, am_e0 43 (.aload_n 0) 1, am_e3 44 (.new 9) 3 5 0 267, am_e0 47 (.dup) 1, am_ec 48 (.bipush 20) 2 0 20, am_e3 50 (.invokespecial 11) 3 93 2 268, am_e3 53 (.putfield 26) 3 6 4 279, am_e0 56 (.aload_n 0) 1, am_e3 57 (.new 9) 3 5 0 267, am_e0 60 (.dup) 1, am_ec 61 (.bipush 20) 2 0 20, am_e3 63 (.invokespecial 11) 3 93 2 268, am_e3 66 (.putfield 29) 3 6 5 281, am_e0 69 (.aload_n 0) 1, am_e3 70 (.new 9) 3 5 0 267, am_e0 73 (.dup) 1, am_ec 74 (.sipush 160) 3 0 160, am_e3 77 (.invokespecial 11) 3 93 2 268, am_e3 80 (.putfield 32) 3 6 6 282, am_e0 83 (.aload_n 0) 1, am_e3 84 (.new 9) 3 5 0 267, am_e0 87 (.dup) 1, am_ec 88 (.bipush 60) 2 0 60, am_e3 90 (.invokespecial 11) 3 93 2 268, am_e3 93 (.putfield 35) 3 6 7 283, am_e0 96 (.aload_n 0) 1, am_e3 97 (.new 9) 3 5 0 267, am_e0 100 (.dup) 1, am_ec 101 (.bipush 60) 2 0 60, am_e3 103 (.invokespecial 11) 3 93 2 268, am_e3 106 (.putfield 38) 3 6 8 285, am_e0 109 (.aload_n 0) 1, am_e3 110 (.new 9) 3 5 0 267, am_e0 113 (.dup) 1, am_ec 114 (.bipush 8) 2 0 8, am_e3 116 (.invokespecial 11) 3 93 2 268, am_e3 119 (.putfield 41) 3 6 9 287, am_e0 122 (.aload_n 0) 1, am_e3 123 (.aload_n 1) 1 1 0 0, am_e3 124 (.putfield 44) 3 6 0 269, am_e0 127 (.return_) 1]
set_option maxRecDepth 100000 in
def km_Sale_hold : List am_E := [am_e0 0 (.aload_n 0) 1, am_e3 1 (.getfield 48) 3 6 10 288, am_e3 4 (.ifCond .eq 4) 3 8 0 0, am_e0 7 (.return_) 1, am_ec 8 (.iconst 0) 1 0 0, am_e3 9 (.istore_n 1) 1 1 0 0, am_e3 10 (.iload_n 1) 1 1 0 0, am_e0 11 (.aload_n 0) 1, am_e3 12 (.getfield 44) 3 6 0 269, am_e3 15 (.getfield 52) 3 7 1 217, am_e3 18 (.getfield 58) 3 3 4 148, am_e3 21 (.if_icmp .ge 40) 3 61 0 0, am_e0 24 (.aload_n 0) 1, am_e3 25 (.getfield 29) 3 6 5 281, am_e3 28 (.iload_n 1) 1 1 0 0, am_e0 29 (.aload_n 0) 1, am_e3 30 (.getfield 44) 3 6 0 269, am_e3 33 (.iload_n 1) 1 1 0 0, am_e3 34 (.invokevirtual 64) 3 119 2 626, am_e3 37 (.invokevirtual 68) 3 95 3 633, am_e0 40 (.aload_n 0) 1, am_e3 41 (.iload_n 1) 1 1 0 0, am_e3 42 (.invokevirtual 72) 3 104 2 634, am_e0 45 (.aload_n 0) 1, am_e3 46 (.iload_n 1) 1 1 0 0, am_e3 47 (.invokevirtual 75) 3 109 2 665, am_e0 50 (.aload_n 0) 1, am_e3 51 (.iload_n 1) 1 1 0 0, am_e3 52 (.invokevirtual 78) 3 112 2 677, am_ei 55 (.iinc 1 1) 3 1 1, am_e3 58 (.goto (-48)) 3 10 0 0, am_e0 61 (.aload_n 0) 1, am_ec 62 (.iconst 1) 1 0 1, am_e3 63 (.putfield 48) 3 6 10 288, am_e0 66 (.return_) 1]
set_option maxRecDepth 100000 in
def km_Sale_bidAt : List am_E := [am_e3 0 (.iload_n 2) 1 2 0 0, am_e3 1 (.ifCond .lt 31) 3 32 0 0, am_e3 4 (.iload_n 2) 1 2 0 0, am_e0 5 (.aload_n 0) 1, am_e3 6 (.getfield 26) 3 6 4 279, am_e3 9 (.iload_n 1) 1 1 0 0, am_e3 10 (.invokevirtual 81) 3 94 2 638, am_e3 13 (.if_icmp .ge 19) 3 32 0 0, am_e0 16 (.aload_n 0) 1, am_e3 17 (.getfield 32) 3 6 6 282, am_e3 20 (.iload_n 1) 1 1 0 0, am_ec 21 (.bipush 8) 2 0 8, am_e0 23 (.imul) 1, am_e3 24 (.iload_n 2) 1 2 0 0, am_e0 25 (.iadd) 1, am_e3 26 (.invokevirtual 81) 3 94 2 638, am_e3 29 (.goto 5) 3 34 0 0, am_ec 32 (.bipush (-5)) 2 0 (-5), am_e0 34 (.ireturn) 1]
set_option maxRecDepth 100000 in
def km_Sale_leftBefore : List am_E := [am_e0 0 (.aload_n 0) 1, am_e3 1 (.getfield 44) 3 6 0 269, am_e3 4 (.getfield 84) 3 7 2 220, am_e3 7 (.iload_n 2) 1 2 0 0, am_e3 8 (.invokevirtual 81) 3 94 2 638, am_e3 11 (.istore_n 3) 1 3 0 0, am_ec 12 (.iconst 0) 1 0 0, am_e3 13 (.istore 4) 2 4 0 0, am_e3 15 (.iload 4) 2 4 0 0, am_e3 17 (.iload_n 1) 1 1 0 0, am_e3 18 (.if_icmp .ge 34) 3 52 0 0, am_e0 21 (.aload_n 0) 1, am_e3 22 (.getfield 14) 3 6 1 270, am_e3 25 (.iload 4) 2 4 0 0, am_e3 27 (.invokevirtual 81) 3 94 2 638, am_e3 30 (.iload_n 2) 1 2 0 0, am_e3 31 (.if_icmp .ne 15) 3 46 0 0, am_e3 34 (.iload_n 3) 1 3 0 0, am_e0 35 (.aload_n 0) 1, am_e3 36 (.getfield 20) 3 6 2 273, am_e3 39 (.iload 4) 2 4 0 0, am_e3 41 (.invokevirtual 81) 3 94 2 638, am_e0 44 (.isub) 1, am_e3 45 (.istore_n 3) 1 3 0 0, am_ei 46 (.iinc 4 1) 3 4 1, am_e3 49 (.goto (-34)) 3 15 0 0, am_e3 52 (.iload_n 3) 1 3 0 0, am_e0 53 (.ireturn) 1]
set_option maxRecDepth 100000 in
def km_Sale_soldLots : List am_E := [am_ec 0 (.iconst 0) 1 0 0, am_e3 1 (.istore_n 2) 1 2 0 0, am_ec 2 (.iconst 0) 1 0 0, am_e3 3 (.istore_n 3) 1 3 0 0, am_e3 4 (.iload_n 3) 1 3 0 0, am_e0 5 (.aload_n 0) 1, am_e3 6 (.getfield 44) 3 6 0 269, am_e3 9 (.getfield 52) 3 7 1 217, am_e3 12 (.getfield 58) 3 3 4 148, am_e3 15 (.if_icmp .ge 58) 3 73 0 0, am_e3 18 (.iload_n 1) 1 1 0 0, am_ec 19 (.iconst (-1)) 1 0 (-1), am_e3 20 (.if_icmp .eq 21) 3 41 0 0, am_e3 23 (.iload_n 1) 1 1 0 0, am_e0 24 (.aload_n 0) 1, am_e3 25 (.getfield 44) 3 6 0 269, am_e3 28 (.getfield 52) 3 7 1 217, am_e3 31 (.getfield 87) 3 3 0 134, am_e3 34 (.iload_n 3) 1 3 0 0, am_e3 35 (.invokevirtual 81) 3 94 2 638, am_e3 38 (.if_icmp .ne 7) 3 45 0 0, am_ec 41 (.iconst 1) 1 0 1, am_e3 42 (.goto 4) 3 46 0 0, am_ec 45 (.iconst 0) 1 0 0, am_e3 46 (.istore 4) 2 4 0 0, am_e3 48 (.iload 4) 2 4 0 0, am_e3 50 (.ifCond .eq 17) 3 67 0 0, am_e0 53 (.aload_n 0) 1, am_e3 54 (.getfield 23) 3 6 3 276, am_e3 57 (.iload_n 3) 1 3 0 0, am_e3 58 (.invokevirtual 81) 3 94 2 638, am_e3 61 (.ifCond .ne 6) 3 67 0 0, am_ei 64 (.iinc 2 1) 3 2 1, am_ei 67 (.iinc 3 1) 3 3 1, am_e3 70 (.goto (-66)) 3 4 0 0, am_e3 73 (.iload_n 2) 1 2 0 0, am_e0 74 (.ireturn) 1]
set_option maxRecDepth 100000 in
def km_Sale_judgeBids : List am_E := [am_ec 0 (.iconst 0) 1 0 0, am_e3 1 (.istore_n 2) 1 2 0 0, am_e3 2 (.iload_n 2) 1 2 0 0, am_e0 3 (.aload_n 0) 1, am_e3 4 (.getfield 44) 3 6 0 269, am_e3 7 (.getfield 90) 3 7 3 223, am_e3 10 (.if_icmp .ge 19) 3 29 0 0, am_e0 13 (.aload_n 0) 1, am_e3 14 (.getfield 41) 3 6 9 287, am_e3 17 (.iload_n 2) 1 2 0 0, am_ec 18 (.bipush (-5)) 2 0 (-5), am_e3 20 (.invokevirtual 68) 3 95 3 633, am_ei 23 (.iinc 2 1) 3 2 1, am_e3 26 (.goto (-24)) 3 2 0 0, am_ec 29 (.iconst 0) 1 0 0, am_e3 30 (.istore_n 2) 1 2 0 0, am_e3 31 (.iload_n 2) 1 2 0 0, am_e0 32 (.aload_n 0) 1, am_e3 33 (.getfield 44) 3 6 0 269, am_e3 36 (.getfield 93) 3 7 4 226, am_e3 39 (.getfield 97) 3 0 6 193, am_e3 42 (.if_icmp .ge 33) 3 75 0 0, am_e0 45 (.aload_n 0) 1, am_e3 46 (.getfield 44) 3 6 0 269, am_e3 49 (.getfield 93) 3 7 4 226, am_e3 52 (.getfield 100) 3 0 1 176, am_e3 55 (.iload_n 2) 1 2 0 0, am_e3 56 (.invokevirtual 81) 3 94 2 638, am_e3 59 (.iload_n 1) 1 1 0 0, am_e3 60 (.if_icmp .ne 9) 3 69 0 0, am_e0 63 (.aload_n 0) 1, am_e3 64 (.iload_n 2) 1 2 0 0, am_e3 65 (.iload_n 1) 1 1 0 0, am_e3 66 (.invokevirtual 102) 3 105 3 639, am_ei 69 (.iinc 2 1) 3 2 1, am_e3 72 (.goto (-41)) 3 31 0 0, am_e0 75 (.return_) 1]
set_option maxRecDepth 100000 in
def km_Sale_judge : List am_E := [am_e0 0 (.aload_n 0) 1, am_e3 1 (.getfield 44) 3 6 0 269, am_e3 4 (.getfield 93) 3 7 4 226, am_e3 7 (.getfield 105) 3 0 0 173, am_e3 10 (.iload_n 1) 1 1 0 0, am_e3 11 (.invokevirtual 81) 3 94 2 638, am_e3 14 (.istore_n 3) 1 3 0 0, am_e0 15 (.aload_n 0) 1, am_e3 16 (.iload_n 2) 1 2 0 0, am_e3 17 (.iload_n 3) 1 3 0 0, am_e3 18 (.invokevirtual 107) 3 102 3 643, am_e3 21 (.istore 4) 2 4 0 0, am_e0 23 (.aload_n 0) 1, am_e3 24 (.getfield 35) 3 6 7 283, am_e3 27 (.iload_n 1) 1 1 0 0, am_e0 28 (.aload_n 0) 1, am_e3 29 (.getfield 44) 3 6 0 269, am_e3 32 (.getfield 111) 3 7 0 214, am_e0 35 (.aload_n 0) 1, am_e3 36 (.getfield 44) 3 6 0 269, am_e3 39 (.getfield 93) 3 7 4 226, am_e3 42 (.getfield 115) 3 0 2 179, am_e3 45 (.iload_n 1) 1 1 0 0, am_e3 46 (.invokevirtual 81) 3 94 2 638, am_e3 49 (.iload 4) 2 4 0 0, am_e3 51 (.invokestatic 118) 3 1001 2 647, am_e3 54 (.invokevirtual 123) 3 130 2 648, am_e3 57 (.invokevirtual 68) 3 95 3 633, am_e0 60 (.aload_n 0) 1, am_e3 61 (.iload_n 1) 1 1 0 0, am_e3 62 (.iload_n 2) 1 2 0 0, am_e3 63 (.invokevirtual 128) 3 106 3 649, am_e3 66 (.istore 5) 2 5 0 0, am_e0 68 (.aload_n 0) 1, am_e3 69 (.getfield 38) 3 6 8 285, am_e3 72 (.iload_n 1) 1 1 0 0, am_e3 73 (.iload 5) 2 5 0 0, am_e3 75 (.invokevirtual 68) 3 95 3 633, am_e3 78 (.iload 5) 2 5 0 0, am_e3 80 (.ifCond .ne 16) 3 96 0 0, am_e0 83 (.aload_n 0) 1, am_e0 84 (.aload_n 0) 1, am_e3 85 (.getfield 41) 3 6 9 287, am_e3 88 (.iload_n 3) 1 3 0 0, am_e3 89 (.invokevirtual 81) 3 94 2 638, am_e3 92 (.iload_n 1) 1 1 0 0, am_e3 93 (.invokevirtual 131) 3 108 3 661, am_e0 96 (.return_) 1]
set_option maxRecDepth 100000 in
def km_Sale_reasonAgainst : List am_E := [am_e0 0 (.aload_n 0) 1, am_e3 1 (.getfield 44) 3 6 0 269, am_e3 4 (.getfield 93) 3 7 4 226, am_e3 7 (.getfield 134) 3 0 5 189, am_e3 10 (.iload_n 1) 1 1 0 0, am_e3 11 (.invokevirtual 81) 3 94 2 638, am_ec 14 (.iconst 1) 1 0 1, am_e3 15 (.if_icmp .ne 5) 3 20 0 0, am_ec 18 (.iconst 1) 1 0 1, am_e0 19 (.ireturn) 1, am_e0 20 (.aload_n 0) 1, am_e3 21 (.getfield 44) 3 6 0 269, am_e3 24 (.iload_n 1) 1 1 0 0, am_e3 25 (.invokevirtual 137) 3 120 2 653, am_e3 28 (.ifCond .eq 5) 3 33 0 0, am_ec 31 (.iconst 2) 1 0 2, am_e0 32 (.ireturn) 1, am_e0 33 (.aload_n 0) 1, am_e3 34 (.getfield 44) 3 6 0 269, am_e3 37 (.getfield 52) 3 7 1 217, am_e3 40 (.getfield 141) 3 3 3 146, am_e3 43 (.iload_n 2) 1 2 0 0, am_e3 44 (.invokevirtual 81) 3 94 2 638, am_ec 47 (.iconst 1) 1 0 1, am_e3 48 (.if_icmp .ne 5) 3 53 0 0, am_ec 51 (.iconst 3) 1 0 3, am_e0 52 (.ireturn) 1, am_e0 53 (.aload_n 0) 1, am_e3 54 (.iload_n 1) 1 1 0 0, am_e3 55 (.iload_n 2) 1 2 0 0, am_e3 56 (.invokevirtual 142) 3 107 3 657, am_e3 59 (.ifCond .eq 5) 3 64 0 0, am_ec 62 (.iconst 4) 1 0 4, am_e0 63 (.ireturn) 1, am_e0 64 (.aload_n 0) 1, am_e3 65 (.getfield 35) 3 6 7 283, am_e3 68 (.iload_n 1) 1 1 0 0, am_e3 69 (.invokevirtual 81) 3 94 2 638, am_e0 72 (.aload_n 0) 1, am_e3 73 (.getfield 44) 3 6 0 269, am_e3 76 (.getfield 52) 3 7 1 217, am_e3 79 (.getfield 146) 3 3 1 138, am_e3 82 (.iload_n 2) 1 2 0 0, am_e3 83 (.invokevirtual 81) 3 94 2 638, am_e3 86 (.if_icmp .ge 7) 3 93 0 0, am_ec 89 (.iconst 5) 1 0 5, am_e3 90 (.goto 4) 3 94 0 0, am_ec 93 (.iconst 0) 1 0 0, am_e0 94 (.ireturn) 1]
set_option maxRecDepth 100000 in
def km_Sale_hasAlternativeBought : List am_E := [am_e0 0 (.aload_n 0) 1, am_e3 1 (.getfield 44) 3 6 0 269, am_e3 4 (.getfield 93) 3 7 4 226, am_e3 7 (.getfield 149) 3 0 4 186, am_e3 10 (.iload_n 1) 1 1 0 0, am_e3 11 (.invokevirtual 81) 3 94 2 638, am_e3 14 (.istore_n 3) 1 3 0 0, am_e0 15 (.aload_n 0) 1, am_e3 16 (.getfield 44) 3 6 0 269, am_e3 19 (.getfield 93) 3 7 4 226, am_e3 22 (.getfield 105) 3 0 0 173, am_e3 25 (.iload_n 1) 1 1 0 0, am_e3 26 (.invokevirtual 81) 3 94 2 638, am_e3 29 (.istore 4) 2 4 0 0, am_e3 31 (.iload_n 3) 1 3 0 0, am_e3 32 (.ifCond .ne 5) 3 37 0 0, am_ec 35 (.iconst 0) 1 0 0, am_e0 36 (.ireturn) 1, am_ec 37 (.iconst 0) 1 0 0, am_e3 38 (.istore 5) 2 5 0 0, am_e3 40 (.iload 5) 2 5 0 0, am_e3 42 (.iload_n 2) 1 2 0 0, am_e3 43 (.if_icmp .ge 58) 3 101 0 0, am_e0 46 (.aload_n 0) 1, am_e3 47 (.getfield 32) 3 6 6 282, am_e3 50 (.iload 5) 2 5 0 0, am_ec 52 (.bipush 8) 2 0 8, am_e0 54 (.imul) 1, am_e3 55 (.invokevirtual 81) 3 94 2 638, am_e3 58 (.istore 6) 2 6 0 0, am_e0 60 (.aload_n 0) 1, am_e3 61 (.getfield 14) 3 6 1 270, am_e3 64 (.iload 5) 2 5 0 0, am_e3 66 (.invokevirtual 81) 3 94 2 638, am_e3 69 (.iload 4) 2 4 0 0, am_e3 71 (.if_icmp .ne 24) 3 95 0 0, am_e0 74 (.aload_n 0) 1, am_e3 75 (.getfield 44) 3 6 0 269, am_e3 78 (.getfield 93) 3 7 4 226, am_e3 81 (.getfield 149) 3 0 4 186, am_e3 84 (.iload 6) 2 6 0 0, am_e3 86 (.invokevirtual 81) 3 94 2 638, am_e3 89 (.iload_n 3) 1 3 0 0, am_e3 90 (.if_icmp .ne 5) 3 95 0 0, am_ec 93 (.iconst 1) 1 0 1, am_e0 94 (.ireturn) 1, am_ei 95 (.iinc 5 1) 3 5 1, am_e3 98 (.goto (-58)) 3 40 0 0, am_ec 101 (.iconst 0) 1 0 0, am_e0 102 (.ireturn) 1]
set_option maxRecDepth 100000 in
def km_Sale_chooseBetween : List am_E := [am_e3 0 (.iload_n 1) 1 1 0 0, am_ec 1 (.bipush (-5)) 2 0 (-5), am_e3 3 (.if_icmp .eq 33) 3 36 0 0, am_e0 6 (.aload_n 0) 1, am_e3 7 (.getfield 35) 3 6 7 283, am_e3 10 (.iload_n 1) 1 1 0 0, am_e3 11 (.invokevirtual 81) 3 94 2 638, am_e0 14 (.aload_n 0) 1, am_e3 15 (.getfield 35) 3 6 7 283, am_e3 18 (.iload_n 2) 1 2 0 0, am_e3 19 (.invokevirtual 81) 3 94 2 638, am_e3 22 (.if_icmp .lt 14) 3 36 0 0, am_e0 25 (.aload_n 0) 1, am_e3 26 (.getfield 38) 3 6 8 285, am_e3 29 (.iload_n 2) 1 2 0 0, am_ec 30 (.bipush 6) 2 0 6, am_e3 32 (.invokevirtual 68) 3 95 3 633, am_e0 35 (.return_) 1, am_e3 36 (.iload_n 1) 1 1 0 0, am_ec 37 (.bipush (-5)) 2 0 (-5), am_e3 39 (.if_icmp .eq 13) 3 52 0 0, am_e0 42 (.aload_n 0) 1, am_e3 43 (.getfield 38) 3 6 8 285, am_e3 46 (.iload_n 1) 1 1 0 0, am_ec 47 (.bipush 6) 2 0 6, am_e3 49 (.invokevirtual 68) 3 95 3 633, am_e0 52 (.aload_n 0) 1, am_e3 53 (.getfield 41) 3 6 9 287, am_e0 56 (.aload_n 0) 1, am_e3 57 (.getfield 44) 3 6 0 269, am_e3 60 (.getfield 93) 3 7 4 226, am_e3 63 (.getfield 105) 3 0 0 173, am_e3 66 (.iload_n 2) 1 2 0 0, am_e3 67 (.invokevirtual 81) 3 94 2 638, am_e3 70 (.iload_n 2) 1 2 0 0, am_e3 71 (.invokevirtual 68) 3 95 3 633, am_e0 74 (.return_) 1]
set_option maxRecDepth 100000 in
def km_Sale_orderBids : List am_E := [am_e0 0 (.aload_n 0) 1, am_e3 1 (.getfield 26) 3 6 4 279, am_e3 4 (.iload_n 1) 1 1 0 0, am_ec 5 (.iconst 0) 1 0 0, am_e3 6 (.invokevirtual 68) 3 95 3 633, am_ec 9 (.iconst 0) 1 0 0, am_e3 10 (.istore_n 2) 1 2 0 0, am_e3 11 (.iload_n 2) 1 2 0 0, am_e0 12 (.aload_n 0) 1, am_e3 13 (.getfield 44) 3 6 0 269, am_e3 16 (.getfield 90) 3 7 3 223, am_e3 19 (.if_icmp .ge 30) 3 49 0 0, am_e0 22 (.aload_n 0) 1, am_e3 23 (.getfield 41) 3 6 9 287, am_e3 26 (.iload_n 2) 1 2 0 0, am_e3 27 (.invokevirtual 81) 3 94 2 638, am_e3 30 (.istore_n 3) 1 3 0 0, am_e3 31 (.iload_n 3) 1 3 0 0, am_ec 32 (.bipush (-5)) 2 0 (-5), am_e3 34 (.if_icmp .eq 9) 3 43 0 0, am_e0 37 (.aload_n 0) 1, am_e3 38 (.iload_n 1) 1 1 0 0, am_e3 39 (.iload_n 3) 1 3 0 0, am_e3 40 (.invokevirtual 152) 3 110 3 669, am_ei 43 (.iinc 2 1) 3 2 1, am_e3 46 (.goto (-35)) 3 11 0 0, am_e0 49 (.return_) 1]
set_option maxRecDepth 100000 in
def km_Sale_insert : List am_E := [am_e0 0 (.aload_n 0) 1, am_e3 1 (.getfield 26) 3 6 4 279, am_e3 4 (.iload_n 1) 1 1 0 0, am_e3 5 (.invokevirtual 81) 3 94 2 638, am_e3 8 (.istore_n 3) 1 3 0 0, am_e3 9 (.iload_n 1) 1 1 0 0, am_ec 10 (.bipush 8) 2 0 8, am_e0 12 (.imul) 1, am_e3 13 (.istore 4) 2 4 0 0, am_e3 15 (.iload_n 3) 1 3 0 0, am_e3 16 (.ifCond .le 54) 3 70 0 0, am_e0 19 (.aload_n 0) 1, am_e3 20 (.iload_n 2) 1 2 0 0, am_e0 21 (.aload_n 0) 1, am_e3 22 (.getfield 32) 3 6 6 282, am_e3 25 (.iload 4) 2 4 0 0, am_e3 27 (.iload_n 3) 1 3 0 0, am_e0 28 (.iadd) 1, am_ec 29 (.iconst 1) 1 0 1, am_e0 30 (.isub) 1, am_e3 31 (.invokevirtual 81) 3 94 2 638, am_e3 34 (.invokevirtual 155) 3 111 3 673, am_e3 37 (.ifCond .eq 33) 3 70 0 0, am_e0 40 (.aload_n 0) 1, am_e3 41 (.getfield 32) 3 6 6 282, am_e3 44 (.iload 4) 2 4 0 0, am_e3 46 (.iload_n 3) 1 3 0 0, am_e0 47 (.iadd) 1, am_e0 48 (.aload_n 0) 1, am_e3 49 (.getfield 32) 3 6 6 282, am_e3 52 (.iload 4) 2 4 0 0, am_e3 54 (.iload_n 3) 1 3 0 0, am_e0 55 (.iadd) 1, am_ec 56 (.iconst 1) 1 0 1, am_e0 57 (.isub) 1, am_e3 58 (.invokevirtual 81) 3 94 2 638, am_e3 61 (.invokevirtual 68) 3 95 3 633, am_ei 64 (.iinc 3 (-1)) 3 3 (-1), am_e3 67 (.goto (-52)) 3 15 0 0, am_e0 70 (.aload_n 0) 1, am_e3 71 (.getfield 32) 3 6 6 282, am_e3 74 (.iload 4) 2 4 0 0, am_e3 76 (.iload_n 3) 1 3 0 0, am_e0 77 (.iadd) 1, am_e3 78 (.iload_n 2) 1 2 0 0, am_e3 79 (.invokevirtual 68) 3 95 3 633, am_e0 82 (.aload_n 0) 1, am_e3 83 (.getfield 26) 3 6 4 279, am_e3 86 (.iload_n 1) 1 1 0 0, am_e0 87 (.aload_n 0) 1, am_e3 88 (.getfield 26) 3 6 4 279, am_e3 91 (.iload_n 1) 1 1 0 0, am_e3 92 (.invokevirtual 81) 3 94 2 638, am_ec 95 (.iconst 1) 1 0 1, am_e0 96 (.iadd) 1, am_e3 97 (.invokevirtual 68) 3 95 3 633, am_e0 100 (.return_) 1]
set_option maxRecDepth 100000 in
def km_Sale_goesBefore : List am_E := [am_e0 0 (.aload_n 0) 1, am_e3 1 (.getfield 35) 3 6 7 283, am_e3 4 (.iload_n 1) 1 1 0 0, am_e3 5 (.invokevirtual 81) 3 94 2 638, am_e3 8 (.istore_n 3) 1 3 0 0, am_e0 9 (.aload_n 0) 1, am_e3 10 (.getfield 35) 3 6 7 283, am_e3 13 (.iload_n 2) 1 2 0 0, am_e3 14 (.invokevirtual 81) 3 94 2 638, am_e3 17 (.istore 4) 2 4 0 0, am_e3 19 (.iload_n 3) 1 3 0 0, am_e3 20 (.iload 4) 2 4 0 0, am_e3 22 (.if_icmp .eq 15) 3 37 0 0, am_e3 25 (.iload_n 3) 1 3 0 0, am_e3 26 (.iload 4) 2 4 0 0, am_e3 28 (.if_icmp .le 7) 3 35 0 0, am_ec 31 (.iconst 1) 1 0 1, am_e3 32 (.goto 4) 3 36 0 0, am_ec 35 (.iconst 0) 1 0 0, am_e0 36 (.ireturn) 1, am_e0 37 (.aload_n 0) 1, am_e3 38 (.getfield 44) 3 6 0 269, am_e3 41 (.getfield 93) 3 7 4 226, am_e3 44 (.getfield 158) 3 0 3 183, am_e3 47 (.iload_n 1) 1 1 0 0, am_e3 48 (.invokevirtual 81) 3 94 2 638, am_e3 51 (.istore 5) 2 5 0 0, am_e0 53 (.aload_n 0) 1, am_e3 54 (.getfield 44) 3 6 0 269, am_e3 57 (.getfield 93) 3 7 4 226, am_e3 60 (.getfield 158) 3 0 3 183, am_e3 63 (.iload_n 2) 1 2 0 0, am_e3 64 (.invokevirtual 81) 3 94 2 638, am_e3 67 (.istore 6) 2 6 0 0, am_e3 69 (.iload 5) 2 5 0 0, am_e3 71 (.iload 6) 2 6 0 0, am_e3 73 (.if_icmp .eq 18) 3 91 0 0, am_e3 76 (.iload 5) 2 5 0 0, am_e3 78 (.iload 6) 2 6 0 0, am_e3 80 (.if_icmp .ge 7) 3 87 0 0, am_ec 83 (.iconst 1) 1 0 1, am_e3 84 (.goto 17) 3 101 0 0, am_ec 87 (.iconst 0) 1 0 0, am_e3 88 (.goto 13) 3 101 0 0, am_e3 91 (.iload_n 1) 1 1 0 0, am_e3 92 (.iload_n 2) 1 2 0 0, am_e3 93 (.if_icmp .ge 7) 3 100 0 0, am_ec 96 (.iconst 1) 1 0 1, am_e3 97 (.goto 4) 3 101 0 0, am_ec 100 (.iconst 0) 1 0 0, am_e0 101 (.ireturn) 1]
set_option maxRecDepth 100000 in
def km_Sale_sell : List am_E := [am_e0 0 (.aload_n 0) 1, am_e3 1 (.iload_n 1) 1 1 0 0, am_ec 2 (.iconst 0) 1 0 0, am_e3 3 (.invokevirtual 161) 3 101 3 681, am_e3 6 (.istore_n 2) 1 2 0 0, am_e0 7 (.aload_n 0) 1, am_e3 8 (.iload_n 1) 1 1 0 0, am_e3 9 (.iload_n 2) 1 2 0 0, am_e3 10 (.invokevirtual 164) 3 113 3 685, am_e3 13 (.istore_n 3) 1 3 0 0, am_e0 14 (.aload_n 0) 1, am_e3 15 (.getfield 23) 3 6 3 276, am_e3 18 (.iload_n 1) 1 1 0 0, am_e3 19 (.iload_n 3) 1 3 0 0, am_e3 20 (.invokevirtual 68) 3 95 3 633, am_e0 23 (.aload_n 0) 1, am_e3 24 (.getfield 14) 3 6 1 270, am_e3 27 (.iload_n 1) 1 1 0 0, am_e3 28 (.iload_n 3) 1 3 0 0, am_e3 29 (.ifCond .ne 20) 3 49 0 0, am_e0 32 (.aload_n 0) 1, am_e3 33 (.getfield 44) 3 6 0 269, am_e3 36 (.getfield 93) 3 7 4 226, am_e3 39 (.getfield 105) 3 0 0 173, am_e3 42 (.iload_n 2) 1 2 0 0, am_e3 43 (.invokevirtual 81) 3 94 2 638, am_e3 46 (.goto 5) 3 51 0 0, am_ec 49 (.bipush (-5)) 2 0 (-5), am_e3 51 (.invokevirtual 68) 3 95 3 633, am_e0 54 (.aload_n 0) 1, am_e3 55 (.getfield 20) 3 6 2 273, am_e3 58 (.iload_n 1) 1 1 0 0, am_e3 59 (.iload_n 3) 1 3 0 0, am_e3 60 (.ifCond .ne 11) 3 71 0 0, am_e0 63 (.aload_n 0) 1, am_e3 64 (.iload_n 1) 1 1 0 0, am_e3 65 (.invokevirtual 167) 3 114 2 689, am_e3 68 (.goto 4) 3 72 0 0, am_ec 71 (.iconst 0) 1 0 0, am_e3 72 (.invokevirtual 68) 3 95 3 633, am_e3 75 (.iload_n 3) 1 3 0 0, am_ec 76 (.iconst 2) 1 0 2, am_e3 77 (.if_icmp .ne 13) 3 90 0 0, am_e0 80 (.aload_n 0) 1, am_e3 81 (.getfield 38) 3 6 8 285, am_e3 84 (.iload_n 2) 1 2 0 0, am_ec 85 (.bipush 8) 2 0 8, am_e3 87 (.invokevirtual 68) 3 95 3 633, am_ec 90 (.iconst 1) 1 0 1, am_e3 91 (.istore 4) 2 4 0 0, am_e3 93 (.iload 4) 2 4 0 0, am_e0 95 (.aload_n 0) 1, am_e3 96 (.getfield 26) 3 6 4 279, am_e3 99 (.iload_n 1) 1 1 0 0, am_e3 100 (.invokevirtual 81) 3 94 2 638, am_e3 103 (.if_icmp .ge 25) 3 128 0 0, am_e0 106 (.aload_n 0) 1, am_e3 107 (.getfield 38) 3 6 8 285, am_e0 110 (.aload_n 0) 1, am_e3 111 (.iload_n 1) 1 1 0 0, am_e3 112 (.iload 4) 2 4 0 0, am_e3 114 (.invokevirtual 161) 3 101 3 681, am_ec 117 (.bipush 7) 2 0 7, am_e3 119 (.invokevirtual 68) 3 95 3 633, am_ei 122 (.iinc 4 1) 3 4 1, am_e3 125 (.goto (-32)) 3 93 0 0, am_e0 128 (.return_) 1]
set_option maxRecDepth 100000 in
def km_Sale_stateOf : List am_E := [am_e0 0 (.aload_n 0) 1, am_e3 1 (.getfield 44) 3 6 0 269, am_e3 4 (.getfield 52) 3 7 1 217, am_e3 7 (.getfield 141) 3 3 3 146, am_e3 10 (.iload_n 1) 1 1 0 0, am_e3 11 (.invokevirtual 81) 3 94 2 638, am_ec 14 (.iconst 1) 1 0 1, am_e3 15 (.if_icmp .ne 5) 3 20 0 0, am_ec 18 (.iconst 3) 1 0 3, am_e0 19 (.ireturn) 1, am_e3 20 (.iload_n 2) 1 2 0 0, am_ec 21 (.bipush (-5)) 2 0 (-5), am_e3 23 (.if_icmp .ne 5) 3 28 0 0, am_ec 26 (.iconst 1) 1 0 1, am_e0 27 (.ireturn) 1, am_e0 28 (.aload_n 0) 1, am_e3 29 (.getfield 35) 3 6 7 283, am_e3 32 (.iload_n 2) 1 2 0 0, am_e3 33 (.invokevirtual 81) 3 94 2 638, am_e0 36 (.aload_n 0) 1, am_e3 37 (.getfield 44) 3 6 0 269, am_e3 40 (.getfield 52) 3 7 1 217, am_e3 43 (.getfield 170) 3 3 2 143, am_e3 46 (.iload_n 1) 1 1 0 0, am_e3 47 (.invokevirtual 81) 3 94 2 638, am_e3 50 (.if_icmp .ge 7) 3 57 0 0, am_ec 53 (.iconst 2) 1 0 2, am_e3 54 (.goto 4) 3 58 0 0, am_ec 57 (.iconst 0) 1 0 0, am_e0 58 (.ireturn) 1]
set_option maxRecDepth 100000 in
def km_Sale_priceOf : List am_E := [am_e0 0 (.aload_n 0) 1, am_e3 1 (.getfield 29) 3 6 5 281, am_e3 4 (.iload_n 1) 1 1 0 0, am_e3 5 (.invokevirtual 81) 3 94 2 638, am_e3 8 (.istore_n 2) 1 2 0 0, am_e0 9 (.aload_n 0) 1, am_e3 10 (.iload_n 1) 1 1 0 0, am_ec 11 (.iconst 1) 1 0 1, am_e3 12 (.invokevirtual 161) 3 101 3 681, am_e3 15 (.istore_n 3) 1 3 0 0, am_e3 16 (.iload_n 3) 1 3 0 0, am_ec 17 (.bipush (-5)) 2 0 (-5), am_e3 19 (.if_icmp .eq 26) 3 45 0 0, am_e3 22 (.iload_n 2) 1 2 0 0, am_e0 23 (.aload_n 0) 1, am_e3 24 (.getfield 44) 3 6 0 269, am_e3 27 (.getfield 111) 3 7 0 214, am_e0 30 (.aload_n 0) 1, am_e3 31 (.getfield 35) 3 6 7 283, am_e3 34 (.iload_n 3) 1 3 0 0, am_e3 35 (.invokevirtual 81) 3 94 2 638, am_e3 38 (.invokevirtual 173) 3 132 2 693, am_e3 41 (.invokestatic 176) 3 1000 2 694, am_e3 44 (.istore_n 2) 1 2 0 0, am_e3 45 (.iload_n 2) 1 2 0 0, am_e0 46 (.aload_n 0) 1, am_e3 47 (.getfield 35) 3 6 7 283, am_e0 50 (.aload_n 0) 1, am_e3 51 (.iload_n 1) 1 1 0 0, am_ec 52 (.iconst 0) 1 0 0, am_e3 53 (.invokevirtual 161) 3 101 3 681, am_e3 56 (.invokevirtual 81) 3 94 2 638, am_e3 59 (.invokestatic 118) 3 1001 2 647, am_e0 62 (.ireturn) 1]
set_option maxRecDepth 100000 in
def km_Sale_leastAmount : List am_E := [am_e0 0 (.aload_n 0) 1, am_e3 1 (.iload_n 1) 1 1 0 0, am_e3 2 (.iload_n 2) 1 2 0 0, am_e3 3 (.iload_n 3) 1 3 0 0, am_e3 4 (.invokevirtual 179) 3 116 4 712, am_e3 7 (.istore 4) 2 4 0 0, am_e3 9 (.iload 4) 2 4 0 0, am_e3 11 (.ifCond .le 8) 3 19 0 0, am_e3 14 (.iload 4) 2 4 0 0, am_e3 16 (.goto 14) 3 30 0 0, am_e0 19 (.aload_n 0) 1, am_e3 20 (.getfield 44) 3 6 0 269, am_e3 23 (.getfield 111) 3 7 0 214, am_ec 26 (.iconst 0) 1 0 0, am_e3 27 (.invokevirtual 173) 3 132 2 693, am_e3 30 (.istore 5) 2 5 0 0, am_e3 32 (.iload 5) 2 5 0 0, am_ec 34 (.ldc 183) 2 716 1000000, am_e3 36 (.if_icmp .gt 19) 3 55 0 0, am_e3 39 (.iload 4) 2 4 0 0, am_e0 41 (.aload_n 0) 1, am_e3 42 (.iload_n 2) 1 2 0 0, am_e3 43 (.iload_n 1) 1 1 0 0, am_e3 44 (.invokevirtual 107) 3 102 3 643, am_e3 47 (.if_icmp .gt 8) 3 55 0 0, am_e3 50 (.iload 5) 2 5 0 0, am_e3 52 (.goto 5) 3 57 0 0, am_ec 55 (.bipush (-5)) 2 0 (-5), am_e0 57 (.ireturn) 1]
set_option maxRecDepth 100000 in
def km_Sale_leastWorth : List am_E := [am_e0 0 (.aload_n 0) 1, am_e3 1 (.getfield 29) 3 6 5 281, am_e3 4 (.iload_n 2) 1 2 0 0, am_e3 5 (.invokevirtual 81) 3 94 2 638, am_e3 8 (.istore 4) 2 4 0 0, am_ec 10 (.iconst 0) 1 0 0, am_e3 11 (.istore 5) 2 5 0 0, am_e3 13 (.iload 5) 2 5 0 0, am_e0 15 (.aload_n 0) 1, am_e3 16 (.getfield 26) 3 6 4 279, am_e3 19 (.iload_n 2) 1 2 0 0, am_e3 20 (.invokevirtual 81) 3 94 2 638, am_e3 23 (.if_icmp .ge 103) 3 126 0 0, am_e0 26 (.aload_n 0) 1, am_e3 27 (.iload_n 2) 1 2 0 0, am_e3 28 (.iload 5) 2 5 0 0, am_e3 30 (.invokevirtual 161) 3 101 3 681, am_e3 33 (.istore 6) 2 6 0 0, am_e0 35 (.aload_n 0) 1, am_e3 36 (.getfield 35) 3 6 7 283, am_e3 39 (.iload 6) 2 6 0 0, am_e3 41 (.invokevirtual 81) 3 94 2 638, am_e3 44 (.istore 7) 2 7 0 0, am_e0 46 (.aload_n 0) 1, am_e3 47 (.getfield 44) 3 6 0 269, am_e3 50 (.getfield 93) 3 7 4 226, am_e3 53 (.getfield 105) 3 0 0 173, am_e3 56 (.iload 6) 2 6 0 0, am_e3 58 (.invokevirtual 81) 3 94 2 638, am_e3 61 (.iload_n 1) 1 1 0 0, am_e3 62 (.if_icmp .eq 26) 3 88 0 0, am_e3 65 (.iload_n 3) 1 3 0 0, am_e0 66 (.aload_n 0) 1, am_e3 67 (.getfield 44) 3 6 0 269, am_e3 70 (.getfield 93) 3 7 4 226, am_e3 73 (.getfield 158) 3 0 3 183, am_e3 76 (.iload 6) 2 6 0 0, am_e3 78 (.invokevirtual 81) 3 94 2 638, am_e3 81 (.if_icmp .ge 7) 3 88 0 0, am_ec 84 (.iconst 1) 1 0 1, am_e3 85 (.goto 4) 3 89 0 0, am_ec 88 (.iconst 0) 1 0 0, am_e3 89 (.istore 8) 2 8 0 0, am_e3 91 (.iload 4) 2 4 0 0, am_e3 93 (.iload 8) 2 8 0 0, am_e3 95 (.ifCond .eq 8) 3 103 0 0, am_e3 98 (.iload 7) 2 7 0 0, am_e3 100 (.goto 15) 3 115 0 0, am_e0 103 (.aload_n 0) 1, am_e3 104 (.getfield 44) 3 6 0 269, am_e3 107 (.getfield 111) 3 7 0 214, am_e3 110 (.iload 7) 2 7 0 0, am_e3 112 (.invokevirtual 173) 3 132 2 693, am_e3 115 (.invokestatic 176) 3 1000 2 694, am_e3 118 (.istore 4) 2 4 0 0, am_ei 120 (.iinc 5 1) 3 5 1, am_e3 123 (.goto (-110)) 3 13 0 0, am_e3 126 (.iload 4) 2 4 0 0, am_e0 128 (.ireturn) 1]
set_option maxRecDepth 100000 in
def km_State_init : List am_E := [am_e0 0 (.aload_n 0) 1, am_e3 1 (.invokespecial 3) 3 1003 1 88, am_e0 4 (.aload_n 0) 1, am_e3 5 (.new 9) 3 8 0 89, am_e0 8 (.dup) 1, am_e3 9 (.invokespecial 11) 3 122 1 91, am_e3 12 (.putfield 12) 3 7 0 212, am_e0 15 (.aload_n 0) 1, am_e3 16 (.new 18) 3 3 0 124, am_e0 19 (.dup) 1, am_e3 20 (.invokespecial 20) 3 83 1 126, am_e3 23 (.putfield 21) 3 7 1 215, am_e0 26 (.aload_n 0) 1, am_e3 27 (.new 25) 3 5 0 162, am_e0 30 (.dup) 1, am_ec 31 (.bipush 8) 2 0 8, am_e3 33 (.invokespecial 27) 3 93 2 163, am_e3 36 (.putfield 30) 3 7 2 219, am_e0 39 (.aload_n 0) 1, am_e3 40 (.new 34) 3 0 0 164, am_e0 43 (.dup) 1, am_e3 44 (.invokespecial 36) 3 65 1 166, am_e3 47 (.putfield 37) 3 7 4 225, am_e0 50 (.aload_n 0) 1, am_e3 51 (.new 25) 3 5 0 162, am_e0 54 (.dup) 1, am_ec 55 (.iconst 4) 1 0 4, am_e3 56 (.invokespecial 27) 3 93 2 163, am_e3 59 (.putfield 41) 3 7 5 228, am_e0 62 (.aload_n 0) 1, am_e3 63 (.getfield 41) 3 7 5 228, am_ec 66 (.iconst 0) 1 0 0, am_ec 67 (.ldc 44) 2 210 50000, am_e3 69 (.invokevirtual 45) 3 95 3 211, am_e0 72 (.aload_n 0) 1, am_e3 73 (.getfield 41) 3 7 5 228, am_ec 76 (.iconst 1) 1 0 1, am_ec 77 (.sipush 150) 3 0 150, am_e3 80 (.invokevirtual 45) 3 95 3 211, am_e0 83 (.aload_n 0) 1, am_e3 84 (.getfield 41) 3 7 5 228, am_ec 87 (.iconst 2) 1 0 2, am_ec 88 (.bipush 100) 2 0 100, am_e3 90 (.invokevirtual 45) 3 95 3 211, am_e0 93 (.aload_n 0) 1, am_e3 94 (.getfield 41) 3 7 5 228, am_ec 97 (.iconst 3) 1 0 3, am_ec 98 (.iconst 2) 1 0 2, am_e3 99 (.invokevirtual 45) 3 95 3 211, am_e0 102 (.return_) 1]
set_option maxRecDepth 100000 in
def km_State_copy : List am_E := [am_e0 0 (.aload_n 0) 1, am_e3 1 (.getfield 12) 3 7 0 212, am_e3 4 (.aload_n 1) 1 1 0 0, am_e3 5 (.getfield 12) 3 7 0 212, am_e3 8 (.invokevirtual 49) 3 123 2 423, am_e0 11 (.aload_n 0) 1, am_e3 12 (.getfield 21) 3 7 1 215, am_e3 15 (.aload_n 1) 1 1 0 0, am_e3 16 (.getfield 21) 3 7 1 215, am_e3 19 (.invokevirtual 53) 3 84 2 437, am_e0 22 (.aload_n 0) 1, am_e3 23 (.getfield 30) 3 7 2 219, am_e3 26 (.aload_n 1) 1 1 0 0, am_e3 27 (.getfield 30) 3 7 2 219, am_e3 30 (.invokevirtual 56) 3 96 2 442, am_e0 33 (.aload_n 0) 1, am_e3 34 (.aload_n 1) 1 1 0 0, am_e3 35 (.getfield 59) 3 7 3 222, am_e3 38 (.putfield 59) 3 7 3 222, am_e0 41 (.aload_n 0) 1, am_e3 42 (.getfield 37) 3 7 4 225, am_e3 45 (.aload_n 1) 1 1 0 0, am_e3 46 (.getfield 37) 3 7 4 225, am_e3 49 (.invokevirtual 63) 3 66 2 443, am_e0 52 (.aload_n 0) 1, am_e3 53 (.getfield 41) 3 7 5 228, am_e3 56 (.aload_n 1) 1 1 0 0, am_e3 57 (.getfield 41) 3 7 5 228, am_e3 60 (.invokevirtual 56) 3 96 2 442, am_e0 63 (.return_) 1]
set_option maxRecDepth 100000 in
def km_State_askingPrice : List am_E := [am_e0 0 (.aload_n 0) 1, am_e3 1 (.getfield 12) 3 7 0 212, am_e0 4 (.aload_n 0) 1, am_e3 5 (.getfield 21) 3 7 1 215, am_e3 8 (.getfield 66) 3 3 1 137, am_e3 11 (.iload_n 1) 1 1 0 0, am_e3 12 (.invokevirtual 69) 3 94 2 630, am_e0 15 (.aload_n 0) 1, am_e3 16 (.getfield 21) 3 7 1 215, am_e3 19 (.getfield 73) 3 3 2 141, am_e3 22 (.iload_n 1) 1 1 0 0, am_e3 23 (.invokevirtual 69) 3 94 2 630, am_e3 26 (.invokestatic 76) 3 1000 2 631, am_e3 29 (.invokevirtual 82) 3 131 2 632, am_e0 32 (.ireturn) 1]
set_option maxRecDepth 100000 in
def km_State_isLate : List am_E := [am_e0 0 (.aload_n 0) 1, am_e3 1 (.getfield 37) 3 7 4 225, am_e3 4 (.getfield 85) 3 0 3 182, am_e3 7 (.iload_n 1) 1 1 0 0, am_e3 8 (.invokevirtual 69) 3 94 2 630, am_e0 11 (.aload_n 0) 1, am_e3 12 (.getfield 41) 3 7 5 228, am_ec 15 (.iconst 0) 1 0 0, am_e3 16 (.invokevirtual 69) 3 94 2 630, am_e3 19 (.if_icmp .le 7) 3 26 0 0, am_ec 22 (.iconst 1) 1 0 1, am_e3 23 (.goto 4) 3 27 0 0, am_ec 26 (.iconst 0) 1 0 0, am_e0 27 (.ireturn) 1]
set_option maxRecDepth 100000 in
def km_State_lateBids : List am_E := [am_ec 0 (.iconst 0) 1 0 0, am_e3 1 (.istore_n 1) 1 1 0 0, am_ec 2 (.iconst 0) 1 0 0, am_e3 3 (.istore_n 2) 1 2 0 0, am_e3 4 (.iload_n 2) 1 2 0 0, am_e0 5 (.aload_n 0) 1, am_e3 6 (.getfield 37) 3 7 4 225, am_e3 9 (.getfield 88) 3 0 6 192, am_e3 12 (.if_icmp .ge 20) 3 32 0 0, am_e0 15 (.aload_n 0) 1, am_e3 16 (.iload_n 2) 1 2 0 0, am_e3 17 (.invokevirtual 91) 3 120 2 782, am_e3 20 (.ifCond .eq 6) 3 26 0 0, am_ei 23 (.iinc 1 1) 3 1 1, am_ei 26 (.iinc 2 1) 3 2 1, am_e3 29 (.goto (-25)) 3 4 0 0, am_e3 32 (.iload_n 1) 1 1 0 0, am_e0 33 (.ireturn) 1]
set_option maxRecDepth 100000 in
def km_Steps_init : List am_E := [am_e0 0 (.aload_n 0) 1, am_e3 1 (.invokespecial 3) 3 1003 1 94, am_e0 4 (.aload_n 0) 1, am_e3 5 (.new 9) 3 5 0 95, am_e0 8 (.dup) 1, am_ec 9 (.bipush 8) 2 0 8, am_e3 11 (.invokespecial 11) 3 93 2 97, am_e3 14 (.putfield 14) 3 8 0 113, am_e0 17 (.aload_n 0) 1, am_e3 18 (.new 9) 3 5 0 95, am_e0 21 (.dup) 1, am_ec 22 (.bipush 8) 2 0 8, am_e3 24 (.invokespecial 11) 3 93 2 97, am_e3 27 (.putfield 20) 3 8 1 114, am_e0 30 (.aload_n 0) 1, am_ec 31 (.iconst 1) 1 0 1, am_e3 32 (.putfield 23) 3 8 2 115, am_e0 35 (.aload_n 0) 1, am_e3 36 (.getfield 20) 3 8 1 114, am_ec 39 (.iconst 0) 1 0 0, am_ec 40 (.iconst 5) 1 0 5, am_e3 41 (.invokevirtual 27) 3 95 3 109, am_e0 44 (.return_) 1]
set_option maxRecDepth 100000 in
def km_Steps_copy : List am_E := [am_e0 0 (.aload_n 0) 1, am_e3 1 (.getfield 14) 3 8 0 113, am_e3 4 (.aload_n 1) 1 1 0 0, am_e3 5 (.getfield 14) 3 8 0 113, am_e3 8 (.invokevirtual 31) 3 96 2 427, am_e0 11 (.aload_n 0) 1, am_e3 12 (.getfield 20) 3 8 1 114, am_e3 15 (.aload_n 1) 1 1 0 0, am_e3 16 (.getfield 20) 3 8 1 114, am_e3 19 (.invokevirtual 31) 3 96 2 427, am_e0 22 (.aload_n 0) 1, am_e3 23 (.aload_n 1) 1 1 0 0, am_e3 24 (.getfield 23) 3 8 2 115, am_e3 27 (.putfield 23) 3 8 2 115, am_e0 30 (.return_) 1]
set_option maxRecDepth 100000 in
def km_Steps_hasBand : List am_E := [am_e0 0 (.aload_n 0) 1, am_e3 1 (.iload_n 1) 1 1 0 0, am_e3 2 (.invokevirtual 35) 3 128 2 399, am_e0 5 (.aload_n 0) 1, am_e3 6 (.getfield 23) 3 8 2 115, am_e3 9 (.if_icmp .ge 7) 3 16 0 0, am_ec 12 (.iconst 1) 1 0 1, am_e3 13 (.goto 4) 3 17 0 0, am_ec 16 (.iconst 0) 1 0 0, am_e0 17 (.ireturn) 1]
set_option maxRecDepth 100000 in
def km_Steps_hasRoomFor : List am_E := [am_e0 0 (.aload_n 0) 1, am_e3 1 (.iload_n 1) 1 1 0 0, am_e3 2 (.invokevirtual 35) 3 128 2 399, am_ec 5 (.bipush 8) 2 0 8, am_e3 7 (.if_icmp .ge 7) 3 14 0 0, am_ec 10 (.iconst 1) 1 0 1, am_e3 11 (.goto 4) 3 15 0 0, am_ec 14 (.iconst 0) 1 0 0, am_e0 15 (.ireturn) 1]
set_option maxRecDepth 100000 in
def km_Steps_putBand : List am_E := [am_e0 0 (.aload_n 0) 1, am_e3 1 (.iload_n 1) 1 1 0 0, am_e3 2 (.invokevirtual 35) 3 128 2 399, am_e3 5 (.istore_n 3) 1 3 0 0, am_e0 6 (.aload_n 0) 1, am_e3 7 (.getfield 14) 3 8 0 113, am_e3 10 (.iload_n 3) 1 3 0 0, am_e3 11 (.iload_n 1) 1 1 0 0, am_e3 12 (.invokevirtual 27) 3 95 3 109, am_e0 15 (.aload_n 0) 1, am_e3 16 (.getfield 20) 3 8 1 114, am_e3 19 (.iload_n 3) 1 3 0 0, am_e3 20 (.iload_n 2) 1 2 0 0, am_e3 21 (.invokevirtual 27) 3 95 3 109, am_e0 24 (.aload_n 0) 1, am_e0 25 (.aload_n 0) 1, am_e3 26 (.getfield 23) 3 8 2 115, am_e3 29 (.iload_n 3) 1 3 0 0, am_ec 30 (.iconst 1) 1 0 1, am_e0 31 (.iadd) 1, am_e3 32 (.invokestatic 39) 3 1000 2 452, am_e3 35 (.putfield 23) 3 8 2 115, am_e0 38 (.return_) 1]
set_option maxRecDepth 100000 in
def km_Steps_dropBand : List am_E := [am_e0 0 (.aload_n 0) 1, am_e3 1 (.iload_n 1) 1 1 0 0, am_e3 2 (.invokevirtual 35) 3 128 2 399, am_e3 5 (.istore_n 2) 1 2 0 0, am_e0 6 (.aload_n 0) 1, am_e3 7 (.getfield 14) 3 8 0 113, am_e3 10 (.iload_n 2) 1 2 0 0, am_e0 11 (.aload_n 0) 1, am_e3 12 (.getfield 14) 3 8 0 113, am_e0 15 (.aload_n 0) 1, am_e3 16 (.getfield 23) 3 8 2 115, am_ec 19 (.iconst 1) 1 0 1, am_e0 20 (.isub) 1, am_e3 21 (.invokevirtual 45) 3 94 2 403, am_e3 24 (.invokevirtual 27) 3 95 3 109, am_e0 27 (.aload_n 0) 1, am_e3 28 (.getfield 20) 3 8 1 114, am_e3 31 (.iload_n 2) 1 2 0 0, am_e0 32 (.aload_n 0) 1, am_e3 33 (.getfield 20) 3 8 1 114, am_e0 36 (.aload_n 0) 1, am_e3 37 (.getfield 23) 3 8 2 115, am_ec 40 (.iconst 1) 1 0 1, am_e0 41 (.isub) 1, am_e3 42 (.invokevirtual 45) 3 94 2 403, am_e3 45 (.invokevirtual 27) 3 95 3 109, am_e0 48 (.aload_n 0) 1, am_e0 49 (.dup) 1, am_e3 50 (.getfield 23) 3 8 2 115, am_ec 53 (.iconst 1) 1 0 1, am_e0 54 (.isub) 1, am_e3 55 (.putfield 23) 3 8 2 115, am_e0 58 (.return_) 1]
set_option maxRecDepth 100000 in
def km_Steps_placeOf : List am_E := [am_ec 0 (.iconst 0) 1 0 0, am_e3 1 (.istore_n 2) 1 2 0 0, am_e3 2 (.iload_n 2) 1 2 0 0, am_e0 3 (.aload_n 0) 1, am_e3 4 (.getfield 23) 3 8 2 115, am_e3 7 (.if_icmp .ge 23) 3 30 0 0, am_e0 10 (.aload_n 0) 1, am_e3 11 (.getfield 14) 3 8 0 113, am_e3 14 (.iload_n 2) 1 2 0 0, am_e3 15 (.invokevirtual 45) 3 94 2 403, am_e3 18 (.iload_n 1) 1 1 0 0, am_e3 19 (.if_icmp .ne 5) 3 24 0 0, am_e3 22 (.iload_n 2) 1 2 0 0, am_e0 23 (.ireturn) 1, am_ei 24 (.iinc 2 1) 3 2 1, am_e3 27 (.goto (-25)) 3 2 0 0, am_e0 30 (.aload_n 0) 1, am_e3 31 (.getfield 23) 3 8 2 115, am_e0 34 (.ireturn) 1]
set_option maxRecDepth 100000 in
def km_Steps_bandOf : List am_E := [am_ec 0 (.iconst 0) 1 0 0, am_e3 1 (.istore_n 2) 1 2 0 0, am_ec 2 (.iconst 1) 1 0 1, am_e3 3 (.istore_n 3) 1 3 0 0, am_e3 4 (.iload_n 3) 1 3 0 0, am_e0 5 (.aload_n 0) 1, am_e3 6 (.getfield 23) 3 8 2 115, am_e3 9 (.if_icmp .ge 40) 3 49 0 0, am_e0 12 (.aload_n 0) 1, am_e3 13 (.getfield 14) 3 8 0 113, am_e3 16 (.iload_n 3) 1 3 0 0, am_e3 17 (.invokevirtual 45) 3 94 2 403, am_e3 20 (.istore 4) 2 4 0 0, am_e3 22 (.iload 4) 2 4 0 0, am_e3 24 (.iload_n 1) 1 1 0 0, am_e3 25 (.if_icmp .gt 18) 3 43 0 0, am_e3 28 (.iload 4) 2 4 0 0, am_e0 30 (.aload_n 0) 1, am_e3 31 (.getfield 14) 3 8 0 113, am_e3 34 (.iload_n 2) 1 2 0 0, am_e3 35 (.invokevirtual 45) 3 94 2 403, am_e3 38 (.if_icmp .le 5) 3 43 0 0, am_e3 41 (.iload_n 3) 1 3 0 0, am_e3 42 (.istore_n 2) 1 2 0 0, am_ei 43 (.iinc 3 1) 3 3 1, am_e3 46 (.goto (-42)) 3 4 0 0, am_e3 49 (.iload_n 2) 1 2 0 0, am_e0 50 (.ireturn) 1]
set_option maxRecDepth 100000 in
def km_Steps_floor : List am_E := [am_e0 0 (.aload_n 0) 1, am_e3 1 (.iload_n 1) 1 1 0 0, am_e3 2 (.invokevirtual 48) 3 129 2 474, am_e3 5 (.istore_n 2) 1 2 0 0, am_e0 6 (.aload_n 0) 1, am_e3 7 (.getfield 14) 3 8 0 113, am_e3 10 (.iload_n 2) 1 2 0 0, am_e3 11 (.invokevirtual 45) 3 94 2 403, am_e3 14 (.istore_n 3) 1 3 0 0, am_e0 15 (.aload_n 0) 1, am_e3 16 (.getfield 20) 3 8 1 114, am_e3 19 (.iload_n 2) 1 2 0 0, am_e3 20 (.invokevirtual 45) 3 94 2 403, am_e3 23 (.istore 4) 2 4 0 0, am_e3 25 (.iload 4) 2 4 0 0, am_e3 27 (.ifCond .le 17) 3 44 0 0, am_e3 30 (.iload_n 3) 1 3 0 0, am_e3 31 (.iload_n 1) 1 1 0 0, am_e3 32 (.iload_n 3) 1 3 0 0, am_e0 33 (.isub) 1, am_e3 34 (.iload 4) 2 4 0 0, am_e0 36 (.idiv) 1, am_e3 37 (.iload 4) 2 4 0 0, am_e0 39 (.imul) 1, am_e0 40 (.iadd) 1, am_e3 41 (.goto 4) 3 45 0 0, am_e3 44 (.iload_n 3) 1 3 0 0, am_e0 45 (.ireturn) 1]
set_option maxRecDepth 100000 in
def km_Steps_ceiling : List am_E := [am_e0 0 (.aload_n 0) 1, am_e3 1 (.iload_n 1) 1 1 0 0, am_e3 2 (.invokevirtual 51) 3 130 2 482, am_e3 5 (.iload_n 1) 1 1 0 0, am_e3 6 (.if_icmp .ne 7) 3 13 0 0, am_e3 9 (.iload_n 1) 1 1 0 0, am_e3 10 (.goto 8) 3 18 0 0, am_e0 13 (.aload_n 0) 1, am_e3 14 (.iload_n 1) 1 1 0 0, am_e3 15 (.invokevirtual 54) 3 132 2 483, am_e0 18 (.ireturn) 1]
set_option maxRecDepth 100000 in
def km_Steps_next : List am_E := [am_e0 0 (.aload_n 0) 1, am_e3 1 (.iload_n 1) 1 1 0 0, am_e3 2 (.invokevirtual 48) 3 129 2 474, am_e3 5 (.istore_n 2) 1 2 0 0, am_e0 6 (.aload_n 0) 1, am_e3 7 (.getfield 14) 3 8 0 113, am_e3 10 (.iload_n 2) 1 2 0 0, am_e3 11 (.invokevirtual 45) 3 94 2 403, am_e3 14 (.istore_n 3) 1 3 0 0, am_e0 15 (.aload_n 0) 1, am_e3 16 (.getfield 20) 3 8 1 114, am_e3 19 (.iload_n 2) 1 2 0 0, am_e3 20 (.invokevirtual 45) 3 94 2 403, am_e3 23 (.istore 4) 2 4 0 0, am_e3 25 (.iload 4) 2 4 0 0, am_e3 27 (.ifCond .le 19) 3 46 0 0, am_e3 30 (.iload_n 3) 1 3 0 0, am_e3 31 (.iload_n 1) 1 1 0 0, am_e3 32 (.iload_n 3) 1 3 0 0, am_e0 33 (.isub) 1, am_e3 34 (.iload 4) 2 4 0 0, am_e0 36 (.idiv) 1, am_ec 37 (.iconst 1) 1 0 1, am_e0 38 (.iadd) 1, am_e3 39 (.iload 4) 2 4 0 0, am_e0 41 (.imul) 1, am_e0 42 (.iadd) 1, am_e3 43 (.goto 5) 3 48 0 0, am_ec 46 (.ldc 57) 2 487 2000000, am_e3 48 (.istore 5) 2 5 0 0, am_ec 50 (.iconst 0) 1 0 0, am_e3 51 (.istore 6) 2 6 0 0, am_e3 53 (.iload 6) 2 6 0 0, am_e0 55 (.aload_n 0) 1, am_e3 56 (.getfield 23) 3 8 2 115, am_e3 59 (.if_icmp .ge 37) 3 96 0 0, am_e0 62 (.aload_n 0) 1, am_e3 63 (.getfield 14) 3 8 0 113, am_e3 66 (.iload 6) 2 6 0 0, am_e3 68 (.invokevirtual 45) 3 94 2 403, am_e3 71 (.istore 7) 2 7 0 0, am_e3 73 (.iload 7) 2 7 0 0, am_e3 75 (.iload_n 1) 1 1 0 0, am_e3 76 (.if_icmp .le 14) 3 90 0 0, am_e3 79 (.iload 7) 2 7 0 0, am_e3 81 (.iload 5) 2 5 0 0, am_e3 83 (.if_icmp .ge 7) 3 90 0 0, am_e3 86 (.iload 7) 2 7 0 0, am_e3 88 (.istore 5) 2 5 0 0, am_ei 90 (.iinc 6 1) 3 6 1, am_e3 93 (.goto (-40)) 3 53 0 0, am_e3 96 (.iload 5) 2 5 0 0, am_e0 98 (.ireturn) 1]
set_option maxRecDepth 100000 in
def km_Pa_init : List am_E := [am_e0 0 (.aload_n 0) 1, am_e3 1 (.invokespecial 3) 3 1003 1 80, am_e0 4 (.aload_n 0) 1, am_e3 5 (.new 9) 3 7 0 83, am_e0 8 (.dup) 1, am_e3 9 (.invokespecial 11) 3 117 1 85, am_e3 12 (.putfield 12) 3 9 0 370, am_e0 15 (.aload_n 0) 1, am_e3 16 (.new 18) 3 1 0 244, am_e0 19 (.dup) 1, am_e3 20 (.invokespecial 20) 3 69 1 246, am_e3 23 (.putfield 21) 3 9 1 371, am_e0 26 (.aload_n 0) 1, am_e3 27 (.new 25) 3 6 0 261, am_e0 30 (.dup) 1, am_e0 31 (.aload_n 0) 1, am_e3 32 (.getfield 12) 3 9 0 370, am_e3 35 (.invokespecial 27) 3 99 2 263, am_e3 38 (.putfield 30) 3 9 2 372, am_e0 41 (.aload_n 0) 1, am_e3 42 (.new 34) 3 4 0 313, am_e0 45 (.dup) 1, am_e0 46 (.aload_n 0) 1, am_e3 47 (.getfield 12) 3 9 0 370, am_e0 50 (.aload_n 0) 1, am_e3 51 (.getfield 30) 3 9 2 372, am_e3 54 (.invokespecial 36) 3 86 3 315, am_e3 57 (.putfield 39) 3 9 3 373, am_e0 60 (.aload_n 0) 1, am_e3 61 (.new 43) 3 2 0 326, am_e0 64 (.dup) 1, am_e3 65 (.invokespecial 45) 3 73 1 328, am_e3 68 (.putfield 46) 3 9 4 374, am_e0 71 (.return_) 1]
set_option maxRecDepth 100000 in
def km_Pa_setBand : List am_E := [am_e3 0 (.iload_n 1) 1 1 0 0, am_ec 1 (.iconst 0) 1 0 0, am_ec 2 (.ldc 50) 2 390 1000000, am_e3 4 (.invokestatic 51) 3 159 3 391, am_e3 7 (.ifCond .ne 13) 3 20 0 0, am_e3 10 (.iload_n 2) 1 2 0 0, am_ec 11 (.iconst 1) 1 0 1, am_ec 12 (.ldc 55) 2 394 100000, am_e3 14 (.invokestatic 51) 3 159 3 391, am_e3 17 (.ifCond .eq 6) 3 23 0 0, am_ec 20 (.bipush (-2)) 2 0 (-2), am_e0 22 (.ireturn) 1, am_e0 23 (.aload_n 0) 1, am_e3 24 (.getfield 12) 3 9 0 370, am_e3 27 (.getfield 56) 3 7 0 213, am_e3 30 (.iload_n 1) 1 1 0 0, am_e3 31 (.invokevirtual 60) 3 125 2 395, am_e3 34 (.ifCond .ne 6) 3 40 0 0, am_ec 37 (.bipush (-3)) 2 0 (-3), am_e0 39 (.ireturn) 1, am_e0 40 (.aload_n 0) 1, am_e3 41 (.invokevirtual 66) 3 164 1 407, am_e0 44 (.aload_n 0) 1, am_e3 45 (.getfield 12) 3 9 0 370, am_e3 48 (.getfield 56) 3 7 0 213, am_e3 51 (.iload_n 1) 1 1 0 0, am_e3 52 (.iload_n 2) 1 2 0 0, am_e3 53 (.invokevirtual 69) 3 126 3 448, am_e0 56 (.aload_n 0) 1, am_e3 57 (.getfield 12) 3 9 0 370, am_e3 60 (.getfield 56) 3 7 0 213, am_e3 63 (.getfield 73) 3 8 2 116, am_e0 66 (.ireturn) 1]
set_option maxRecDepth 100000 in
def km_Pa_removeBand : List am_E := [am_e3 0 (.iload_n 1) 1 1 0 0, am_e3 1 (.ifCond .eq 17) 3 18 0 0, am_e0 4 (.aload_n 0) 1, am_e3 5 (.getfield 12) 3 9 0 370, am_e3 8 (.getfield 56) 3 7 0 213, am_e3 11 (.iload_n 1) 1 1 0 0, am_e3 12 (.invokevirtual 77) 3 124 2 457, am_e3 15 (.ifCond .ne 6) 3 21 0 0, am_ec 18 (.bipush (-4)) 2 0 (-4), am_e0 20 (.ireturn) 1, am_e0 21 (.aload_n 0) 1, am_e3 22 (.invokevirtual 66) 3 164 1 407, am_e0 25 (.aload_n 0) 1, am_e3 26 (.getfield 12) 3 9 0 370, am_e3 29 (.getfield 56) 3 7 0 213, am_e3 32 (.iload_n 1) 1 1 0 0, am_e3 33 (.invokevirtual 80) 3 127 2 461, am_e0 36 (.aload_n 0) 1, am_e3 37 (.getfield 12) 3 9 0 370, am_e3 40 (.getfield 56) 3 7 0 213, am_e3 43 (.getfield 73) 3 8 2 116, am_e0 46 (.ireturn) 1]
set_option maxRecDepth 100000 in
def km_Pa_valid : List am_E := [am_e3 0 (.iload_n 1) 1 1 0 0, am_ec 1 (.iconst 0) 1 0 0, am_ec 2 (.ldc 84) 2 469 2000000, am_e3 4 (.invokestatic 51) 3 159 3 391, am_e3 7 (.ifCond .eq 6) 3 13 0 0, am_ec 10 (.bipush (-2)) 2 0 (-2), am_e0 12 (.ireturn) 1, am_e3 13 (.iload_n 2) 1 2 0 0, am_es 14 (.tableswitch 62 0 2 #[26, 38, 50]) 26 76 [(0, 40), (1, 52), (2, 64)], am_e0 40 (.aload_n 0) 1, am_e3 41 (.getfield 12) 3 9 0 370, am_e3 44 (.getfield 56) 3 7 0 213, am_e3 47 (.iload_n 1) 1 1 0 0, am_e3 48 (.invokevirtual 85) 3 130 2 470, am_e0 51 (.ireturn) 1, am_e0 52 (.aload_n 0) 1, am_e3 53 (.getfield 12) 3 9 0 370, am_e3 56 (.getfield 56) 3 7 0 213, am_e3 59 (.iload_n 1) 1 1 0 0, am_e3 60 (.invokevirtual 89) 3 131 2 478, am_e0 63 (.ireturn) 1, am_e0 64 (.aload_n 0) 1, am_e3 65 (.getfield 12) 3 9 0 370, am_e3 68 (.getfield 56) 3 7 0 213, am_e3 71 (.iload_n 1) 1 1 0 0, am_e3 72 (.invokevirtual 92) 3 132 2 488, am_e0 75 (.ireturn) 1, am_ec 76 (.bipush (-2)) 2 0 (-2), am_e0 78 (.ireturn) 1]
set_option maxRecDepth 100000 in
def km_Pa_addLot : List am_E := [am_e3 0 (.iload_n 1) 1 1 0 0, am_ec 1 (.iconst 0) 1 0 0, am_ec 2 (.iconst 4) 1 0 4, am_e3 3 (.invokestatic 51) 3 159 3 391, am_e3 6 (.ifCond .eq 5) 3 11 0 0, am_ec 9 (.iconst (-1)) 1 0 (-1), am_e0 10 (.ireturn) 1, am_e3 11 (.iload_n 2) 1 2 0 0, am_ec 12 (.iconst 0) 1 0 0, am_ec 13 (.ldc 50) 2 390 1000000, am_e3 15 (.invokestatic 51) 3 159 3 391, am_e3 18 (.ifCond .ne 13) 3 31 0 0, am_e3 21 (.iload_n 3) 1 3 0 0, am_ec 22 (.iconst 0) 1 0 0, am_ec 23 (.ldc 50) 2 390 1000000, am_e3 25 (.invokestatic 51) 3 159 3 391, am_e3 28 (.ifCond .eq 6) 3 34 0 0, am_ec 31 (.bipush (-2)) 2 0 (-2), am_e0 33 (.ireturn) 1, am_e0 34 (.aload_n 0) 1, am_e3 35 (.getfield 12) 3 9 0 370, am_e3 38 (.getfield 95) 3 7 1 218, am_e3 41 (.getfield 99) 3 3 4 150, am_ec 44 (.bipush 20) 2 0 20, am_e3 46 (.if_icmp .lt 6) 3 52 0 0, am_ec 49 (.bipush (-3)) 2 0 (-3), am_e0 51 (.ireturn) 1, am_e0 52 (.aload_n 0) 1, am_e3 53 (.invokevirtual 66) 3 164 1 407, am_e0 56 (.aload_n 0) 1, am_e3 57 (.getfield 12) 3 9 0 370, am_e3 60 (.getfield 95) 3 7 1 218, am_e3 63 (.iload_n 1) 1 1 0 0, am_e3 64 (.iload_n 2) 1 2 0 0, am_e3 65 (.iload_n 3) 1 3 0 0, am_e3 66 (.invokevirtual 102) 3 85 4 493, am_e0 69 (.ireturn) 1]
set_option maxRecDepth 100000 in
def km_Pa_setReserve : List am_E := [am_e0 0 (.aload_n 0) 1, am_e3 1 (.iload_n 1) 1 1 0 0, am_e3 2 (.invokevirtual 106) 3 161 2 502, am_e3 5 (.ifCond .ne 5) 3 10 0 0, am_ec 8 (.iconst (-1)) 1 0 (-1), am_e0 9 (.ireturn) 1, am_e3 10 (.iload_n 2) 1 2 0 0, am_ec 11 (.iconst 0) 1 0 0, am_ec 12 (.ldc 50) 2 390 1000000, am_e3 14 (.invokestatic 51) 3 159 3 391, am_e3 17 (.ifCond .eq 6) 3 23 0 0, am_ec 20 (.bipush (-2)) 2 0 (-2), am_e0 22 (.ireturn) 1, am_e0 23 (.aload_n 0) 1, am_e3 24 (.invokevirtual 66) 3 164 1 407, am_e0 27 (.aload_n 0) 1, am_e3 28 (.getfield 12) 3 9 0 370, am_e3 31 (.getfield 95) 3 7 1 218, am_e3 34 (.getfield 109) 3 3 2 142, am_e3 37 (.iload_n 1) 1 1 0 0, am_e3 38 (.invokevirtual 113) 3 94 2 506, am_e3 41 (.istore_n 3) 1 3 0 0, am_e0 42 (.aload_n 0) 1, am_e3 43 (.getfield 12) 3 9 0 370, am_e3 46 (.getfield 95) 3 7 1 218, am_e3 49 (.getfield 109) 3 3 2 142, am_e3 52 (.iload_n 1) 1 1 0 0, am_e3 53 (.iload_n 2) 1 2 0 0, am_e3 54 (.invokevirtual 118) 3 95 3 507, am_e3 57 (.iload_n 3) 1 3 0 0, am_e0 58 (.ireturn) 1]
set_option maxRecDepth 100000 in
def km_Pa_withdrawLot : List am_E := [am_e0 0 (.aload_n 0) 1, am_e3 1 (.iload_n 1) 1 1 0 0, am_e3 2 (.invokevirtual 106) 3 161 2 502, am_e3 5 (.ifCond .ne 5) 3 10 0 0, am_ec 8 (.iconst (-1)) 1 0 (-1), am_e0 9 (.ireturn) 1, am_e3 10 (.iload_n 2) 1 2 0 0, am_e3 11 (.ifCond .eq 7) 3 18 0 0, am_ec 14 (.iconst 1) 1 0 1, am_e3 15 (.goto 4) 3 19 0 0, am_ec 18 (.iconst 0) 1 0 0, am_e3 19 (.istore_n 3) 1 3 0 0, am_e0 20 (.aload_n 0) 1, am_e3 21 (.getfield 12) 3 9 0 370, am_e3 24 (.getfield 95) 3 7 1 218, am_e3 27 (.getfield 121) 3 3 3 145, am_e3 30 (.iload_n 1) 1 1 0 0, am_e3 31 (.invokevirtual 113) 3 94 2 506, am_e3 34 (.iload_n 3) 1 3 0 0, am_e3 35 (.if_icmp .ne 6) 3 41 0 0, am_ec 38 (.bipush (-4)) 2 0 (-4), am_e0 40 (.ireturn) 1, am_e0 41 (.aload_n 0) 1, am_e3 42 (.invokevirtual 66) 3 164 1 407, am_e0 45 (.aload_n 0) 1, am_e3 46 (.getfield 12) 3 9 0 370, am_e3 49 (.getfield 95) 3 7 1 218, am_e3 52 (.getfield 121) 3 3 3 145, am_e3 55 (.iload_n 1) 1 1 0 0, am_e3 56 (.iload_n 3) 1 3 0 0, am_e3 57 (.invokevirtual 118) 3 95 3 507, am_e0 60 (.aload_n 0) 1, am_e3 61 (.getfield 12) 3 9 0 370, am_e3 64 (.getfield 95) 3 7 1 218, am_e3 67 (.getfield 121) 3 3 3 145, am_e0 70 (.aload_n 0) 1, am_e3 71 (.getfield 12) 3 9 0 370, am_e3 74 (.getfield 95) 3 7 1 218, am_e3 77 (.getfield 99) 3 3 4 150, am_e3 80 (.invokevirtual 124) 3 97 2 512, am_e0 83 (.ireturn) 1]
set_option maxRecDepth 100000 in
def km_Pa_addBidder : List am_E := [am_e3 0 (.iload_n 1) 1 1 0 0, am_ec 1 (.iconst 0) 1 0 0, am_ec 2 (.ldc 127) 2 520 10000000, am_e3 4 (.invokestatic 51) 3 159 3 391, am_e3 7 (.ifCond .eq 6) 3 13 0 0, am_ec 10 (.bipush (-2)) 2 0 (-2), am_e0 12 (.ireturn) 1, am_e0 13 (.aload_n 0) 1, am_e3 14 (.getfield 12) 3 9 0 370, am_e3 17 (.getfield 128) 3 7 3 224, am_ec 20 (.bipush 8) 2 0 8, am_e3 22 (.if_icmp .lt 6) 3 28 0 0, am_ec 25 (.bipush (-3)) 2 0 (-3), am_e0 27 (.ireturn) 1, am_e0 28 (.aload_n 0) 1, am_e3 29 (.invokevirtual 66) 3 164 1 407, am_e0 32 (.aload_n 0) 1, am_e3 33 (.getfield 12) 3 9 0 370, am_e3 36 (.getfield 131) 3 7 2 221, am_e0 39 (.aload_n 0) 1, am_e3 40 (.getfield 12) 3 9 0 370, am_e3 43 (.getfield 128) 3 7 3 224, am_e3 46 (.iload_n 1) 1 1 0 0, am_e3 47 (.invokevirtual 118) 3 95 3 507, am_e0 50 (.aload_n 0) 1, am_e3 51 (.getfield 12) 3 9 0 370, am_e0 54 (.dup) 1, am_e3 55 (.getfield 128) 3 7 3 224, am_ec 58 (.iconst 1) 1 0 1, am_e0 59 (.iadd) 1, am_e3 60 (.putfield 128) 3 7 3 224, am_e0 63 (.aload_n 0) 1, am_e3 64 (.getfield 12) 3 9 0 370, am_e3 67 (.getfield 128) 3 7 3 224, am_ec 70 (.iconst 1) 1 0 1, am_e0 71 (.isub) 1, am_e0 72 (.ireturn) 1]
set_option maxRecDepth 100000 in
def km_Pa_setLimit : List am_E := [am_e0 0 (.aload_n 0) 1, am_e3 1 (.iload_n 1) 1 1 0 0, am_e3 2 (.invokevirtual 134) 3 162 2 525, am_e3 5 (.ifCond .ne 5) 3 10 0 0, am_ec 8 (.iconst (-1)) 1 0 (-1), am_e0 9 (.ireturn) 1, am_e3 10 (.iload_n 2) 1 2 0 0, am_ec 11 (.iconst 0) 1 0 0, am_ec 12 (.ldc 127) 2 520 10000000, am_e3 14 (.invokestatic 51) 3 159 3 391, am_e3 17 (.ifCond .eq 6) 3 23 0 0, am_ec 20 (.bipush (-2)) 2 0 (-2), am_e0 22 (.ireturn) 1, am_e0 23 (.aload_n 0) 1, am_e3 24 (.invokevirtual 66) 3 164 1 407, am_e0 27 (.aload_n 0) 1, am_e3 28 (.getfield 12) 3 9 0 370, am_e3 31 (.getfield 131) 3 7 2 221, am_e3 34 (.iload_n 1) 1 1 0 0, am_e3 35 (.invokevirtual 113) 3 94 2 506, am_e3 38 (.istore_n 3) 1 3 0 0, am_e0 39 (.aload_n 0) 1, am_e3 40 (.getfield 12) 3 9 0 370, am_e3 43 (.getfield 131) 3 7 2 221, am_e3 46 (.iload_n 1) 1 1 0 0, am_e3 47 (.iload_n 2) 1 2 0 0, am_e3 48 (.invokevirtual 118) 3 95 3 507, am_e3 51 (.iload_n 3) 1 3 0 0, am_e0 52 (.ireturn) 1]
set_option maxRecDepth 100000 in
def km_Pa_set : List am_E := [am_e3 0 (.iload_n 1) 1 1 0 0, am_ec 1 (.iconst 0) 1 0 0, am_ec 2 (.iconst 3) 1 0 3, am_e3 3 (.invokestatic 51) 3 159 3 391, am_e3 6 (.ifCond .eq 5) 3 11 0 0, am_ec 9 (.iconst (-1)) 1 0 (-1), am_e0 10 (.ireturn) 1, am_e3 11 (.iload_n 2) 1 2 0 0, am_ec 12 (.iconst 0) 1 0 0, am_e3 13 (.iload_n 1) 1 1 0 0, am_e3 14 (.invokestatic 137) 3 160 1 533, am_e3 17 (.invokestatic 51) 3 159 3 391, am_e3 20 (.ifCond .eq 6) 3 26 0 0, am_ec 23 (.bipush (-2)) 2 0 (-2), am_e0 25 (.ireturn) 1, am_e0 26 (.aload_n 0) 1, am_e3 27 (.invokevirtual 66) 3 164 1 407, am_e0 30 (.aload_n 0) 1, am_e3 31 (.getfield 12) 3 9 0 370, am_e3 34 (.getfield 140) 3 7 5 230, am_e3 37 (.iload_n 1) 1 1 0 0, am_e3 38 (.invokevirtual 113) 3 94 2 506, am_e3 41 (.istore_n 3) 1 3 0 0, am_e0 42 (.aload_n 0) 1, am_e3 43 (.getfield 12) 3 9 0 370, am_e3 46 (.getfield 140) 3 7 5 230, am_e3 49 (.iload_n 1) 1 1 0 0, am_e3 50 (.iload_n 2) 1 2 0 0, am_e3 51 (.invokevirtual 118) 3 95 3 507, am_e3 54 (.iload_n 3) 1 3 0 0, am_e0 55 (.ireturn) 1]
set_option maxRecDepth 100000 in
def km_Pa_bid : List am_E := [am_e0 0 (.aload_n 0) 1, am_e3 1 (.iload_n 1) 1 1 0 0, am_e3 2 (.invokevirtual 134) 3 162 2 525, am_e3 5 (.ifCond .eq 11) 3 16 0 0, am_e0 8 (.aload_n 0) 1, am_e3 9 (.iload_n 2) 1 2 0 0, am_e3 10 (.invokevirtual 106) 3 161 2 502, am_e3 13 (.ifCond .ne 5) 3 18 0 0, am_ec 16 (.iconst (-1)) 1 0 (-1), am_e0 17 (.ireturn) 1, am_e3 18 (.iload_n 3) 1 3 0 0, am_ec 19 (.iconst 1) 1 0 1, am_ec 20 (.ldc 50) 2 390 1000000, am_e3 22 (.invokestatic 51) 3 159 3 391, am_e3 25 (.ifCond .ne 25) 3 50 0 0, am_e3 28 (.iload 4) 2 4 0 0, am_ec 30 (.iconst 0) 1 0 0, am_ec 31 (.ldc 55) 2 394 100000, am_e3 33 (.invokestatic 51) 3 159 3 391, am_e3 36 (.ifCond .ne 14) 3 50 0 0, am_e3 39 (.iload 5) 2 5 0 0, am_ec 41 (.iconst 0) 1 0 0, am_ec 42 (.ldc 50) 2 390 1000000, am_e3 44 (.invokestatic 51) 3 159 3 391, am_e3 47 (.ifCond .eq 6) 3 53 0 0, am_ec 50 (.bipush (-2)) 2 0 (-2), am_e0 52 (.ireturn) 1, am_e0 53 (.aload_n 0) 1, am_e3 54 (.getfield 12) 3 9 0 370, am_e3 57 (.getfield 143) 3 7 4 227, am_e3 60 (.getfield 147) 3 0 6 194, am_ec 63 (.bipush 60) 2 0 60, am_e3 65 (.if_icmp .lt 6) 3 71 0 0, am_ec 68 (.bipush (-3)) 2 0 (-3), am_e0 70 (.ireturn) 1, am_e0 71 (.aload_n 0) 1, am_e3 72 (.invokevirtual 66) 3 164 1 407, am_e0 75 (.aload_n 0) 1, am_e3 76 (.getfield 12) 3 9 0 370, am_e3 79 (.getfield 143) 3 7 4 227, am_e3 82 (.iload_n 1) 1 1 0 0, am_e3 83 (.iload_n 2) 1 2 0 0, am_e3 84 (.iload_n 3) 1 3 0 0, am_e3 85 (.iload 4) 2 4 0 0, am_e3 87 (.iload 5) 2 5 0 0, am_e3 89 (.invokevirtual 150) 3 67 6 540, am_e0 92 (.ireturn) 1]
set_option maxRecDepth 100000 in
def km_Pa_withdrawBid : List am_E := [am_e0 0 (.aload_n 0) 1, am_e3 1 (.iload_n 1) 1 1 0 0, am_e3 2 (.invokevirtual 153) 3 163 2 549, am_e3 5 (.ifCond .ne 5) 3 10 0 0, am_ec 8 (.iconst (-1)) 1 0 (-1), am_e0 9 (.ireturn) 1, am_e0 10 (.aload_n 0) 1, am_e3 11 (.getfield 12) 3 9 0 370, am_e3 14 (.getfield 143) 3 7 4 227, am_e3 17 (.getfield 156) 3 0 5 190, am_e3 20 (.iload_n 1) 1 1 0 0, am_e3 21 (.invokevirtual 113) 3 94 2 506, am_ec 24 (.iconst 1) 1 0 1, am_e3 25 (.if_icmp .ne 6) 3 31 0 0, am_ec 28 (.bipush (-4)) 2 0 (-4), am_e0 30 (.ireturn) 1, am_e0 31 (.aload_n 0) 1, am_e3 32 (.invokevirtual 66) 3 164 1 407, am_e0 35 (.aload_n 0) 1, am_e3 36 (.getfield 12) 3 9 0 370, am_e3 39 (.getfield 143) 3 7 4 227, am_e3 42 (.getfield 156) 3 0 5 190, am_e3 45 (.iload_n 1) 1 1 0 0, am_ec 46 (.iconst 1) 1 0 1, am_e3 47 (.invokevirtual 118) 3 95 3 507, am_e0 50 (.aload_n 0) 1, am_e3 51 (.getfield 12) 3 9 0 370, am_e3 54 (.getfield 143) 3 7 4 227, am_e3 57 (.getfield 157) 3 0 1 177, am_e3 60 (.iload_n 1) 1 1 0 0, am_e3 61 (.invokevirtual 113) 3 94 2 506, am_e0 64 (.ireturn) 1]
set_option maxRecDepth 100000 in
def km_Pa_type : List am_E := [am_e0 0 (.aload_n 0) 1, am_e3 1 (.getfield 46) 3 9 4 374, am_e3 4 (.iload_n 1) 1 1 0 0, am_e3 5 (.invokevirtual 159) 3 74 2 557, am_e3 8 (.ifCond .eq 13) 3 21 0 0, am_e0 11 (.aload_n 0) 1, am_e3 12 (.getfield 46) 3 9 4 374, am_e3 15 (.getfield 163) 3 2 1 336, am_e3 18 (.goto 5) 3 23 0 0, am_ec 21 (.bipush (-3)) 2 0 (-3), am_e0 23 (.ireturn) 1]
set_option maxRecDepth 100000 in
def km_Pa_clearText : List am_E := [am_e0 0 (.aload_n 0) 1, am_e3 1 (.getfield 46) 3 9 4 374, am_e3 4 (.getfield 163) 3 2 1 336, am_e3 7 (.istore_n 1) 1 1 0 0, am_e0 8 (.aload_n 0) 1, am_e3 9 (.getfield 46) 3 9 4 374, am_ec 12 (.iconst 0) 1 0 0, am_e3 13 (.putfield 163) 3 2 1 336, am_e3 16 (.iload_n 1) 1 1 0 0, am_e0 17 (.ireturn) 1]
set_option maxRecDepth 100000 in
def km_Pa_letter : List am_E := [am_e0 0 (.aload_n 0) 1, am_e3 1 (.iload_n 1) 1 1 0 0, am_e3 2 (.invokevirtual 134) 3 162 2 525, am_e3 5 (.ifCond .ne 5) 3 10 0 0, am_ec 8 (.iconst (-1)) 1 0 (-1), am_e0 9 (.ireturn) 1, am_e3 10 (.iload_n 2) 1 2 0 0, am_ec 11 (.iconst 0) 1 0 0, am_ec 12 (.ldc 55) 2 394 100000, am_e3 14 (.invokestatic 51) 3 159 3 391, am_e3 17 (.ifCond .eq 6) 3 23 0 0, am_ec 20 (.bipush (-2)) 2 0 (-2), am_e0 22 (.ireturn) 1, am_e0 23 (.aload_n 0) 1, am_e3 24 (.getfield 46) 3 9 4 374, am_e0 27 (.aload_n 0) 1, am_e3 28 (.getfield 12) 3 9 0 370, am_e3 31 (.getfield 95) 3 7 1 218, am_e3 34 (.getfield 99) 3 3 4 150, am_e3 37 (.invokevirtual 166) 3 76 2 569, am_e3 40 (.istore_n 3) 1 3 0 0, am_e3 41 (.iload_n 3) 1 3 0 0, am_ec 42 (.iconst (-1)) 1 0 (-1), am_e3 43 (.if_icmp .eq 8) 3 51 0 0, am_ec 46 (.bipush (-100)) 2 0 (-100), am_e3 48 (.iload_n 3) 1 3 0 0, am_e0 49 (.isub) 1, am_e0 50 (.ireturn) 1, am_e0 51 (.aload_n 0) 1, am_e3 52 (.getfield 12) 3 9 0 370, am_e3 55 (.getfield 143) 3 7 4 227, am_e3 58 (.getfield 147) 3 0 6 194, am_e0 61 (.aload_n 0) 1, am_e3 62 (.getfield 46) 3 9 4 374, am_e3 65 (.getfield 169) 3 2 5 343, am_e0 68 (.iadd) 1, am_ec 69 (.bipush 60) 2 0 60, am_e3 71 (.if_icmp .le 6) 3 77 0 0, am_ec 74 (.bipush (-3)) 2 0 (-3), am_e0 76 (.ireturn) 1, am_e0 77 (.aload_n 0) 1, am_e3 78 (.invokevirtual 66) 3 164 1 407, am_ec 81 (.iconst 0) 1 0 0, am_e3 82 (.istore 4) 2 4 0 0, am_ec 84 (.iconst 0) 1 0 0, am_e3 85 (.istore 5) 2 5 0 0, am_e3 87 (.iload 5) 2 5 0 0, am_e0 89 (.aload_n 0) 1, am_e3 90 (.getfield 46) 3 9 4 374, am_e3 93 (.getfield 169) 3 2 5 343, am_e3 96 (.if_icmp .ge 97) 3 193 0 0, am_e0 99 (.aload_n 0) 1, am_e3 100 (.getfield 46) 3 9 4 374, am_e3 103 (.iload 5) 2 5 0 0, am_ec 105 (.iconst 1) 1 0 1, am_e0 106 (.isub) 1, am_e3 107 (.iload 5) 2 5 0 0, am_e3 109 (.invokevirtual 172) 3 75 3 599, am_e3 112 (.ifCond .ne 36) 3 148 0 0, am_e0 115 (.aload_n 0) 1, am_e3 116 (.getfield 46) 3 9 4 374, am_e3 119 (.iload 5) 2 5 0 0, am_e3 121 (.iload 5) 2 5 0 0, am_ec 123 (.iconst 1) 1 0 1, am_e0 124 (.iadd) 1, am_e3 125 (.invokevirtual 172) 3 75 3 599, am_e3 128 (.ifCond .eq 17) 3 145 0 0, am_e0 131 (.aload_n 0) 1, am_e3 132 (.getfield 12) 3 9 0 370, am_e3 135 (.getfield 143) 3 7 4 227, am_e3 138 (.iload_n 1) 1 1 0 0, am_e3 139 (.invokevirtual 176) 3 68 2 604, am_e3 142 (.goto 4) 3 146 0 0, am_ec 145 (.iconst 0) 1 0 0, am_e3 146 (.istore 4) 2 4 0 0, am_e0 148 (.aload_n 0) 1, am_e3 149 (.getfield 12) 3 9 0 370, am_e3 152 (.getfield 143) 3 7 4 227, am_e3 155 (.iload_n 1) 1 1 0 0, am_e0 156 (.aload_n 0) 1, am_e3 157 (.getfield 46) 3 9 4 374, am_e3 160 (.getfield 179) 3 2 2 338, am_e3 163 (.iload 5) 2 5 0 0, am_e3 165 (.invokevirtual 113) 3 94 2 506, am_e0 168 (.aload_n 0) 1, am_e3 169 (.getfield 46) 3 9 4 374, am_e3 172 (.getfield 180) 3 2 3 340, am_e3 175 (.iload 5) 2 5 0 0, am_e3 177 (.invokevirtual 113) 3 94 2 506, am_e3 180 (.iload_n 2) 1 2 0 0, am_e3 181 (.iload 4) 2 4 0 0, am_e3 183 (.invokevirtual 150) 3 67 6 540, am_e0 186 (.pop) 1, am_ei 187 (.iinc 5 1) 3 5 1, am_e3 190 (.goto (-103)) 3 87 0 0, am_e0 193 (.aload_n 0) 1, am_e3 194 (.getfield 46) 3 9 4 374, am_e3 197 (.getfield 169) 3 2 5 343, am_e0 200 (.ireturn) 1]
set_option maxRecDepth 100000 in
def km_Pa_undo : List am_E := [am_e0 0 (.aload_n 0) 1, am_e3 1 (.getfield 21) 3 9 1 371, am_e3 4 (.getfield 183) 3 1 1 255, am_e3 7 (.ifCond .gt 6) 3 13 0 0, am_ec 10 (.bipush (-5)) 2 0 (-5), am_e0 12 (.ireturn) 1, am_e0 13 (.aload_n 0) 1, am_e3 14 (.getfield 21) 3 9 1 371, am_e0 17 (.aload_n 0) 1, am_e3 18 (.getfield 12) 3 9 0 370, am_e3 21 (.invokevirtual 184) 3 71 2 614, am_e0 24 (.aload_n 0) 1, am_e3 25 (.getfield 30) 3 9 2 372, am_ec 28 (.iconst 0) 1 0 0, am_e3 29 (.putfield 187) 3 6 10 289, am_e0 32 (.aload_n 0) 1, am_e3 33 (.getfield 21) 3 9 1 371, am_e3 36 (.getfield 183) 3 1 1 255, am_e0 39 (.ireturn) 1]
set_option maxRecDepth 100000 in
def km_Pa_sale : List am_E := [am_e0 0 (.aload_n 0) 1, am_e3 1 (.iload_n 1) 1 1 0 0, am_e3 2 (.invokevirtual 106) 3 161 2 502, am_e3 5 (.ifCond .ne 5) 3 10 0 0, am_ec 8 (.iconst (-1)) 1 0 (-1), am_e0 9 (.ireturn) 1, am_e0 10 (.aload_n 0) 1, am_e3 11 (.getfield 30) 3 9 2 372, am_e3 14 (.invokevirtual 191) 3 100 1 622, am_e3 17 (.iload_n 2) 1 2 0 0, am_es 18 (.tableswitch 106 0 5 #[38, 50, 62, 74, 86, 96]) 38 124 [(0, 56), (1, 68), (2, 80), (3, 92), (4, 104), (5, 114)], am_e0 56 (.aload_n 0) 1, am_e3 57 (.getfield 30) 3 9 2 372, am_e3 60 (.getfield 194) 3 6 1 272, am_e3 63 (.iload_n 1) 1 1 0 0, am_e3 64 (.invokevirtual 113) 3 94 2 506, am_e0 67 (.ireturn) 1, am_e0 68 (.aload_n 0) 1, am_e3 69 (.getfield 30) 3 9 2 372, am_e3 72 (.getfield 197) 3 6 2 275, am_e3 75 (.iload_n 1) 1 1 0 0, am_e3 76 (.invokevirtual 113) 3 94 2 506, am_e0 79 (.ireturn) 1, am_e0 80 (.aload_n 0) 1, am_e3 81 (.getfield 30) 3 9 2 372, am_e3 84 (.getfield 200) 3 6 3 278, am_e3 87 (.iload_n 1) 1 1 0 0, am_e3 88 (.invokevirtual 113) 3 94 2 506, am_e0 91 (.ireturn) 1, am_e0 92 (.aload_n 0) 1, am_e3 93 (.getfield 30) 3 9 2 372, am_e3 96 (.getfield 203) 3 6 4 280, am_e3 99 (.iload_n 1) 1 1 0 0, am_e3 100 (.invokevirtual 113) 3 94 2 506, am_e0 103 (.ireturn) 1, am_e0 104 (.aload_n 0) 1, am_e3 105 (.getfield 30) 3 9 2 372, am_e3 108 (.iload_n 1) 1 1 0 0, am_ec 109 (.iconst 0) 1 0 0, am_e3 110 (.invokevirtual 206) 3 101 3 695, am_e0 113 (.ireturn) 1, am_e0 114 (.aload_n 0) 1, am_e3 115 (.getfield 30) 3 9 2 372, am_e3 118 (.iload_n 1) 1 1 0 0, am_ec 119 (.iconst 1) 1 0 1, am_e3 120 (.invokevirtual 206) 3 101 3 695, am_e0 123 (.ireturn) 1, am_ec 124 (.bipush (-2)) 2 0 (-2), am_e0 126 (.ireturn) 1]
set_option maxRecDepth 100000 in
def km_Pa_ranked : List am_E := [am_e0 0 (.aload_n 0) 1, am_e3 1 (.iload_n 1) 1 1 0 0, am_e3 2 (.invokevirtual 106) 3 161 2 502, am_e3 5 (.ifCond .ne 5) 3 10 0 0, am_ec 8 (.iconst (-1)) 1 0 (-1), am_e0 9 (.ireturn) 1, am_e3 10 (.iload_n 2) 1 2 0 0, am_e3 11 (.ifCond .ge 6) 3 17 0 0, am_ec 14 (.bipush (-2)) 2 0 (-2), am_e0 16 (.ireturn) 1, am_e0 17 (.aload_n 0) 1, am_e3 18 (.getfield 30) 3 9 2 372, am_e3 21 (.invokevirtual 191) 3 100 1 622, am_e0 24 (.aload_n 0) 1, am_e3 25 (.getfield 30) 3 9 2 372, am_e3 28 (.iload_n 1) 1 1 0 0, am_e3 29 (.iload_n 2) 1 2 0 0, am_e3 30 (.invokevirtual 206) 3 101 3 695, am_e0 33 (.ireturn) 1]
set_option maxRecDepth 100000 in
def km_Pa_fate : List am_E := [am_e0 0 (.aload_n 0) 1, am_e3 1 (.iload_n 1) 1 1 0 0, am_e3 2 (.invokevirtual 153) 3 163 2 549, am_e3 5 (.ifCond .ne 5) 3 10 0 0, am_ec 8 (.iconst (-1)) 1 0 (-1), am_e0 9 (.ireturn) 1, am_e0 10 (.aload_n 0) 1, am_e3 11 (.getfield 30) 3 9 2 372, am_e3 14 (.invokevirtual 191) 3 100 1 622, am_e0 17 (.aload_n 0) 1, am_e3 18 (.getfield 30) 3 9 2 372, am_e3 21 (.getfield 210) 3 6 8 286, am_e3 24 (.iload_n 1) 1 1 0 0, am_e3 25 (.invokevirtual 113) 3 94 2 506, am_e0 28 (.ireturn) 1]
set_option maxRecDepth 100000 in
def km_Pa_needed : List am_E := [am_e0 0 (.aload_n 0) 1, am_e3 1 (.iload_n 1) 1 1 0 0, am_e3 2 (.invokevirtual 134) 3 162 2 525, am_e3 5 (.ifCond .eq 11) 3 16 0 0, am_e0 8 (.aload_n 0) 1, am_e3 9 (.iload_n 2) 1 2 0 0, am_e3 10 (.invokevirtual 106) 3 161 2 502, am_e3 13 (.ifCond .ne 5) 3 18 0 0, am_ec 16 (.iconst (-1)) 1 0 (-1), am_e0 17 (.ireturn) 1, am_e3 18 (.iload_n 3) 1 3 0 0, am_ec 19 (.iconst 0) 1 0 0, am_ec 20 (.ldc 55) 2 394 100000, am_e3 22 (.invokestatic 51) 3 159 3 391, am_e3 25 (.ifCond .eq 6) 3 31 0 0, am_ec 28 (.bipush (-2)) 2 0 (-2), am_e0 30 (.ireturn) 1, am_e0 31 (.aload_n 0) 1, am_e3 32 (.getfield 12) 3 9 0 370, am_e3 35 (.getfield 143) 3 7 4 227, am_e3 38 (.getfield 147) 3 0 6 194, am_ec 41 (.bipush 60) 2 0 60, am_e3 43 (.if_icmp .ge 36) 3 79 0 0, am_e0 46 (.aload_n 0) 1, am_e3 47 (.getfield 12) 3 9 0 370, am_e3 50 (.getfield 95) 3 7 1 218, am_e3 53 (.getfield 121) 3 3 3 145, am_e3 56 (.iload_n 2) 1 2 0 0, am_e3 57 (.invokevirtual 113) 3 94 2 506, am_ec 60 (.iconst 1) 1 0 1, am_e3 61 (.if_icmp .eq 18) 3 79 0 0, am_e3 64 (.iload_n 3) 1 3 0 0, am_e0 65 (.aload_n 0) 1, am_e3 66 (.getfield 12) 3 9 0 370, am_e3 69 (.getfield 140) 3 7 5 230, am_ec 72 (.iconst 0) 1 0 0, am_e3 73 (.invokevirtual 113) 3 94 2 506, am_e3 76 (.if_icmp .le 6) 3 82 0 0, am_ec 79 (.bipush (-5)) 2 0 (-5), am_e0 81 (.ireturn) 1, am_e0 82 (.aload_n 0) 1, am_e3 83 (.getfield 30) 3 9 2 372, am_e3 86 (.invokevirtual 191) 3 100 1 622, am_e0 89 (.aload_n 0) 1, am_e3 90 (.getfield 30) 3 9 2 372, am_e3 93 (.iload_n 1) 1 1 0 0, am_e3 94 (.iload_n 2) 1 2 0 0, am_e3 95 (.iload_n 3) 1 3 0 0, am_e3 96 (.invokevirtual 213) 3 115 4 708, am_e0 99 (.ireturn) 1]
set_option maxRecDepth 100000 in
def km_Pa_lot : List am_E := [am_e0 0 (.aload_n 0) 1, am_e3 1 (.iload_n 1) 1 1 0 0, am_e3 2 (.invokevirtual 106) 3 161 2 502, am_e3 5 (.ifCond .ne 5) 3 10 0 0, am_ec 8 (.iconst (-1)) 1 0 (-1), am_e0 9 (.ireturn) 1, am_e3 10 (.iload_n 2) 1 2 0 0, am_es 11 (.tableswitch 131 0 5 #[37, 52, 67, 82, 97, 106]) 37 142 [(0, 48), (1, 63), (2, 78), (3, 93), (4, 108), (5, 117)], am_e0 48 (.aload_n 0) 1, am_e3 49 (.getfield 12) 3 9 0 370, am_e3 52 (.getfield 95) 3 7 1 218, am_e3 55 (.getfield 216) 3 3 0 135, am_e3 58 (.iload_n 1) 1 1 0 0, am_e3 59 (.invokevirtual 113) 3 94 2 506, am_e0 62 (.ireturn) 1, am_e0 63 (.aload_n 0) 1, am_e3 64 (.getfield 12) 3 9 0 370, am_e3 67 (.getfield 95) 3 7 1 218, am_e3 70 (.getfield 219) 3 3 1 139, am_e3 73 (.iload_n 1) 1 1 0 0, am_e3 74 (.invokevirtual 113) 3 94 2 506, am_e0 77 (.ireturn) 1, am_e0 78 (.aload_n 0) 1, am_e3 79 (.getfield 12) 3 9 0 370, am_e3 82 (.getfield 95) 3 7 1 218, am_e3 85 (.getfield 109) 3 3 2 142, am_e3 88 (.iload_n 1) 1 1 0 0, am_e3 89 (.invokevirtual 113) 3 94 2 506, am_e0 92 (.ireturn) 1, am_e0 93 (.aload_n 0) 1, am_e3 94 (.getfield 12) 3 9 0 370, am_e3 97 (.getfield 95) 3 7 1 218, am_e3 100 (.getfield 121) 3 3 3 145, am_e3 103 (.iload_n 1) 1 1 0 0, am_e3 104 (.invokevirtual 113) 3 94 2 506, am_e0 107 (.ireturn) 1, am_e0 108 (.aload_n 0) 1, am_e3 109 (.getfield 12) 3 9 0 370, am_e3 112 (.iload_n 1) 1 1 0 0, am_e3 113 (.invokevirtual 222) 3 119 2 721, am_e0 116 (.ireturn) 1, am_e0 117 (.aload_n 0) 1, am_e3 118 (.getfield 12) 3 9 0 370, am_e3 121 (.getfield 143) 3 7 4 227, am_e3 124 (.getfield 157) 3 0 1 177, am_e3 127 (.iload_n 1) 1 1 0 0, am_e0 128 (.aload_n 0) 1, am_e3 129 (.getfield 12) 3 9 0 370, am_e3 132 (.getfield 143) 3 7 4 227, am_e3 135 (.getfield 147) 3 0 6 194, am_e3 138 (.invokevirtual 225) 3 98 3 722, am_e0 141 (.ireturn) 1, am_ec 142 (.bipush (-2)) 2 0 (-2), am_e0 144 (.ireturn) 1]
set_option maxRecDepth 100000 in
def km_Pa_bidOf : List am_E := [am_e0 0 (.aload_n 0) 1, am_e3 1 (.iload_n 1) 1 1 0 0, am_e3 2 (.invokevirtual 153) 3 163 2 549, am_e3 5 (.ifCond .ne 5) 3 10 0 0, am_ec 8 (.iconst (-1)) 1 0 (-1), am_e0 9 (.ireturn) 1, am_e0 10 (.aload_n 0) 1, am_e3 11 (.getfield 30) 3 9 2 372, am_e3 14 (.invokevirtual 191) 3 100 1 622, am_e3 17 (.iload_n 2) 1 2 0 0, am_es 18 (.tableswitch 144 0 6 #[42, 57, 72, 87, 102, 117, 132]) 42 162 [(0, 60), (1, 75), (2, 90), (3, 105), (4, 120), (5, 135), (6, 150)], am_e0 60 (.aload_n 0) 1, am_e3 61 (.getfield 12) 3 9 0 370, am_e3 64 (.getfield 143) 3 7 4 227, am_e3 67 (.getfield 157) 3 0 1 177, am_e3 70 (.iload_n 1) 1 1 0 0, am_e3 71 (.invokevirtual 113) 3 94 2 506, am_e0 74 (.ireturn) 1, am_e0 75 (.aload_n 0) 1, am_e3 76 (.getfield 12) 3 9 0 370, am_e3 79 (.getfield 143) 3 7 4 227, am_e3 82 (.getfield 228) 3 0 0 174, am_e3 85 (.iload_n 1) 1 1 0 0, am_e3 86 (.invokevirtual 113) 3 94 2 506, am_e0 89 (.ireturn) 1, am_e0 90 (.aload_n 0) 1, am_e3 91 (.getfield 12) 3 9 0 370, am_e3 94 (.getfield 143) 3 7 4 227, am_e3 97 (.getfield 230) 3 0 2 180, am_e3 100 (.iload_n 1) 1 1 0 0, am_e3 101 (.invokevirtual 113) 3 94 2 506, am_e0 104 (.ireturn) 1, am_e0 105 (.aload_n 0) 1, am_e3 106 (.getfield 12) 3 9 0 370, am_e3 109 (.getfield 143) 3 7 4 227, am_e3 112 (.getfield 231) 3 0 3 184, am_e3 115 (.iload_n 1) 1 1 0 0, am_e3 116 (.invokevirtual 113) 3 94 2 506, am_e0 119 (.ireturn) 1, am_e0 120 (.aload_n 0) 1, am_e3 121 (.getfield 12) 3 9 0 370, am_e3 124 (.getfield 143) 3 7 4 227, am_e3 127 (.getfield 234) 3 0 4 187, am_e3 130 (.iload_n 1) 1 1 0 0, am_e3 131 (.invokevirtual 113) 3 94 2 506, am_e0 134 (.ireturn) 1, am_e0 135 (.aload_n 0) 1, am_e3 136 (.getfield 12) 3 9 0 370, am_e3 139 (.getfield 143) 3 7 4 227, am_e3 142 (.getfield 156) 3 0 5 190, am_e3 145 (.iload_n 1) 1 1 0 0, am_e3 146 (.invokevirtual 113) 3 94 2 506, am_e0 149 (.ireturn) 1, am_e0 150 (.aload_n 0) 1, am_e3 151 (.getfield 30) 3 9 2 372, am_e3 154 (.getfield 237) 3 6 7 284, am_e3 157 (.iload_n 1) 1 1 0 0, am_e3 158 (.invokevirtual 113) 3 94 2 506, am_e0 161 (.ireturn) 1, am_ec 162 (.bipush (-2)) 2 0 (-2), am_e0 164 (.ireturn) 1]
set_option maxRecDepth 100000 in
def km_Pa_bidder : List am_E := [am_e0 0 (.aload_n 0) 1, am_e3 1 (.iload_n 1) 1 1 0 0, am_e3 2 (.invokevirtual 134) 3 162 2 525, am_e3 5 (.ifCond .ne 5) 3 10 0 0, am_ec 8 (.iconst (-1)) 1 0 (-1), am_e0 9 (.ireturn) 1, am_e0 10 (.aload_n 0) 1, am_e3 11 (.getfield 30) 3 9 2 372, am_e3 14 (.invokevirtual 191) 3 100 1 622, am_e3 17 (.iload_n 2) 1 2 0 0, am_es 18 (.tableswitch 92 0 3 #[30, 42, 61, 83]) 30 110 [(0, 48), (1, 60), (2, 79), (3, 101)], am_e0 48 (.aload_n 0) 1, am_e3 49 (.getfield 12) 3 9 0 370, am_e3 52 (.getfield 131) 3 7 2 221, am_e3 55 (.iload_n 1) 1 1 0 0, am_e3 56 (.invokevirtual 113) 3 94 2 506, am_e0 59 (.ireturn) 1, am_e0 60 (.aload_n 0) 1, am_e3 61 (.getfield 30) 3 9 2 372, am_e0 64 (.aload_n 0) 1, am_e3 65 (.getfield 12) 3 9 0 370, am_e3 68 (.getfield 95) 3 7 1 218, am_e3 71 (.getfield 99) 3 3 4 150, am_e3 74 (.iload_n 1) 1 1 0 0, am_e3 75 (.invokevirtual 240) 3 102 3 734, am_e0 78 (.ireturn) 1, am_e0 79 (.aload_n 0) 1, am_e3 80 (.getfield 30) 3 9 2 372, am_e3 83 (.getfield 194) 3 6 1 272, am_e3 86 (.iload_n 1) 1 1 0 0, am_e0 87 (.aload_n 0) 1, am_e3 88 (.getfield 12) 3 9 0 370, am_e3 91 (.getfield 95) 3 7 1 218, am_e3 94 (.getfield 99) 3 3 4 150, am_e3 97 (.invokevirtual 225) 3 98 3 722, am_e0 100 (.ireturn) 1, am_e0 101 (.aload_n 0) 1, am_e3 102 (.getfield 39) 3 9 3 373, am_e3 105 (.iload_n 1) 1 1 0 0, am_e3 106 (.invokevirtual 243) 3 87 2 735, am_e0 109 (.ireturn) 1, am_ec 110 (.bipush (-2)) 2 0 (-2), am_e0 112 (.ireturn) 1]
set_option maxRecDepth 100000 in
def km_Pa_seller : List am_E := [am_e3 0 (.iload_n 1) 1 1 0 0, am_ec 1 (.iconst 0) 1 0 0, am_ec 2 (.iconst 4) 1 0 4, am_e3 3 (.invokestatic 51) 3 159 3 391, am_e3 6 (.ifCond .eq 7) 3 13 0 0, am_el 9 (.ldc2_w 246) 3 752 (-9223372036854775808), am_e0 12 (.lreturn) 1, am_e0 13 (.aload_n 0) 1, am_e3 14 (.getfield 30) 3 9 2 372, am_e3 17 (.invokevirtual 191) 3 100 1 622, am_e3 20 (.iload_n 2) 1 2 0 0, am_es 21 (.tableswitch 86 0 3 #[31, 57, 67, 77]) 31 107 [(0, 52), (1, 78), (2, 88), (3, 98)], am_e0 52 (.aload_n 0) 1, am_e3 53 (.getfield 12) 3 9 0 370, am_e3 56 (.getfield 95) 3 7 1 218, am_e3 59 (.getfield 216) 3 3 0 135, am_e3 62 (.iload_n 1) 1 1 0 0, am_e0 63 (.aload_n 0) 1, am_e3 64 (.getfield 12) 3 9 0 370, am_e3 67 (.getfield 95) 3 7 1 218, am_e3 70 (.getfield 99) 3 3 4 150, am_e3 73 (.invokevirtual 225) 3 98 3 722, am_e0 76 (.i2l) 1, am_e0 77 (.lreturn) 1, am_e0 78 (.aload_n 0) 1, am_e3 79 (.getfield 30) 3 9 2 372, am_e3 82 (.iload_n 1) 1 1 0 0, am_e3 83 (.invokevirtual 248) 3 103 2 753, am_e0 86 (.i2l) 1, am_e0 87 (.lreturn) 1, am_e0 88 (.aload_n 0) 1, am_e3 89 (.getfield 39) 3 9 3 373, am_ec 92 (.iconst 0) 1 0 0, am_e3 93 (.iload_n 1) 1 1 0 0, am_e3 94 (.invokevirtual 251) 3 88 3 757, am_e0 97 (.lreturn) 1, am_e0 98 (.aload_n 0) 1, am_e3 99 (.getfield 39) 3 9 3 373, am_e3 102 (.iload_n 1) 1 1 0 0, am_e3 103 (.invokevirtual 255) 3 90 2 761, am_e0 106 (.lreturn) 1, am_el 107 (.ldc2_w 246) 3 752 (-9223372036854775808), am_e0 110 (.lreturn) 1]
set_option maxRecDepth 100000 in
def km_Pa_account : List am_E := [am_e0 0 (.aload_n 0) 1, am_e3 1 (.getfield 30) 3 9 2 372, am_e3 4 (.invokevirtual 191) 3 100 1 622, am_e3 7 (.iload_n 1) 1 1 0 0, am_es 8 (.tableswitch 118 0 6 #[44, 54, 64, 74, 84, 92, 101]) 44 126 [(0, 52), (1, 62), (2, 72), (3, 82), (4, 92), (5, 100), (6, 109)], am_e0 52 (.aload_n 0) 1, am_e3 53 (.getfield 39) 3 9 3 373, am_ec 56 (.iconst 0) 1 0 0, am_ec 57 (.iconst (-1)) 1 0 (-1), am_e3 58 (.invokevirtual 251) 3 88 3 757, am_e0 61 (.lreturn) 1, am_e0 62 (.aload_n 0) 1, am_e3 63 (.getfield 39) 3 9 3 373, am_ec 66 (.iconst 1) 1 0 1, am_ec 67 (.iconst (-1)) 1 0 (-1), am_e3 68 (.invokevirtual 251) 3 88 3 757, am_e0 71 (.lreturn) 1, am_e0 72 (.aload_n 0) 1, am_e3 73 (.getfield 39) 3 9 3 373, am_ec 76 (.iconst 2) 1 0 2, am_ec 77 (.iconst (-1)) 1 0 (-1), am_e3 78 (.invokevirtual 251) 3 88 3 757, am_e0 81 (.lreturn) 1, am_e0 82 (.aload_n 0) 1, am_e3 83 (.getfield 39) 3 9 3 373, am_ec 86 (.iconst 3) 1 0 3, am_ec 87 (.iconst (-1)) 1 0 (-1), am_e3 88 (.invokevirtual 251) 3 88 3 757, am_e0 91 (.lreturn) 1, am_e0 92 (.aload_n 0) 1, am_e3 93 (.getfield 39) 3 9 3 373, am_e3 96 (.invokevirtual 259) 3 89 1 770, am_e0 99 (.lreturn) 1, am_e0 100 (.aload_n 0) 1, am_e3 101 (.getfield 39) 3 9 3 373, am_ec 104 (.iconst (-1)) 1 0 (-1), am_e3 105 (.invokevirtual 255) 3 90 2 761, am_e0 108 (.lreturn) 1, am_e0 109 (.aload_n 0) 1, am_e3 110 (.getfield 39) 3 9 3 373, am_e3 113 (.invokevirtual 259) 3 89 1 770, am_e0 116 (.aload_n 0) 1, am_e3 117 (.getfield 39) 3 9 3 373, am_ec 120 (.iconst (-1)) 1 0 (-1), am_e3 121 (.invokevirtual 255) 3 90 2 761, am_e0 124 (.lsub) 1, am_e0 125 (.lreturn) 1, am_el 126 (.ldc2_w 246) 3 752 (-9223372036854775808), am_e0 129 (.lreturn) 1]
set_option maxRecDepth 100000 in
def km_Pa_count : List am_E := [am_e3 0 (.iload_n 1) 1 1 0 0, am_es 1 (.tableswitch 248 0 13 #[71, 82, 90, 101, 117, 141, 149, 173, 184, 196, 208, 220, 232, 240]) 71 249 [(0, 72), (1, 83), (2, 91), (3, 102), (4, 118), (5, 142), (6, 150), (7, 174), (8, 185), (9, 197), (10, 209), (11, 221), (12, 233), (13, 241)], am_e0 72 (.aload_n 0) 1, am_e3 73 (.getfield 12) 3 9 0 370, am_e3 76 (.getfield 95) 3 7 1 218, am_e3 79 (.getfield 99) 3 3 4 150, am_e0 82 (.ireturn) 1, am_e0 83 (.aload_n 0) 1, am_e3 84 (.getfield 12) 3 9 0 370, am_e3 87 (.getfield 128) 3 7 3 224, am_e0 90 (.ireturn) 1, am_e0 91 (.aload_n 0) 1, am_e3 92 (.getfield 12) 3 9 0 370, am_e3 95 (.getfield 143) 3 7 4 227, am_e3 98 (.getfield 147) 3 0 6 194, am_e0 101 (.ireturn) 1, am_e0 102 (.aload_n 0) 1, am_e3 103 (.getfield 30) 3 9 2 372, am_e3 106 (.invokevirtual 191) 3 100 1 622, am_e0 109 (.aload_n 0) 1, am_e3 110 (.getfield 30) 3 9 2 372, am_ec 113 (.iconst (-1)) 1 0 (-1), am_e3 114 (.invokevirtual 248) 3 103 2 753, am_e0 117 (.ireturn) 1, am_e0 118 (.aload_n 0) 1, am_e3 119 (.getfield 12) 3 9 0 370, am_e3 122 (.getfield 95) 3 7 1 218, am_e3 125 (.getfield 121) 3 3 3 145, am_e0 128 (.aload_n 0) 1, am_e3 129 (.getfield 12) 3 9 0 370, am_e3 132 (.getfield 95) 3 7 1 218, am_e3 135 (.getfield 99) 3 3 4 150, am_e3 138 (.invokevirtual 124) 3 97 2 512, am_e0 141 (.ireturn) 1, am_e0 142 (.aload_n 0) 1, am_e3 143 (.getfield 12) 3 9 0 370, am_e3 146 (.invokevirtual 263) 3 121 1 778, am_e0 149 (.ireturn) 1, am_e0 150 (.aload_n 0) 1, am_e3 151 (.getfield 12) 3 9 0 370, am_e3 154 (.getfield 143) 3 7 4 227, am_e3 157 (.getfield 156) 3 0 5 190, am_e0 160 (.aload_n 0) 1, am_e3 161 (.getfield 12) 3 9 0 370, am_e3 164 (.getfield 143) 3 7 4 227, am_e3 167 (.getfield 147) 3 0 6 194, am_e3 170 (.invokevirtual 124) 3 97 2 512, am_e0 173 (.ireturn) 1, am_e0 174 (.aload_n 0) 1, am_e3 175 (.getfield 12) 3 9 0 370, am_e3 178 (.getfield 56) 3 7 0 213, am_e3 181 (.getfield 73) 3 8 2 116, am_e0 184 (.ireturn) 1, am_e0 185 (.aload_n 0) 1, am_e3 186 (.getfield 12) 3 9 0 370, am_e3 189 (.getfield 140) 3 7 5 230, am_ec 192 (.iconst 0) 1 0 0, am_e3 193 (.invokevirtual 113) 3 94 2 506, am_e0 196 (.ireturn) 1, am_e0 197 (.aload_n 0) 1, am_e3 198 (.getfield 12) 3 9 0 370, am_e3 201 (.getfield 140) 3 7 5 230, am_ec 204 (.iconst 1) 1 0 1, am_e3 205 (.invokevirtual 113) 3 94 2 506, am_e0 208 (.ireturn) 1, am_e0 209 (.aload_n 0) 1, am_e3 210 (.getfield 12) 3 9 0 370, am_e3 213 (.getfield 140) 3 7 5 230, am_ec 216 (.iconst 2) 1 0 2, am_e3 217 (.invokevirtual 113) 3 94 2 506, am_e0 220 (.ireturn) 1, am_e0 221 (.aload_n 0) 1, am_e3 222 (.getfield 12) 3 9 0 370, am_e3 225 (.getfield 140) 3 7 5 230, am_ec 228 (.iconst 3) 1 0 3, am_e3 229 (.invokevirtual 113) 3 94 2 506, am_e0 232 (.ireturn) 1, am_e0 233 (.aload_n 0) 1, am_e3 234 (.getfield 21) 3 9 1 371, am_e3 237 (.getfield 183) 3 1 1 255, am_e0 240 (.ireturn) 1, am_e0 241 (.aload_n 0) 1, am_e3 242 (.getfield 46) 3 9 4 374, am_e3 245 (.getfield 163) 3 2 1 336, am_e0 248 (.ireturn) 1, am_ec 249 (.bipush (-2)) 2 0 (-2), am_e0 251 (.ireturn) 1]
set_option maxRecDepth 100000 in
def km_Pa_isOutside : List am_E := [am_e0 0 (.iload_n 0) 1, am_e3 1 (.iload_n 1) 1 1 0 0, am_e3 2 (.if_icmp .lt 8) 3 10 0 0, am_e0 5 (.iload_n 0) 1, am_e3 6 (.iload_n 2) 1 2 0 0, am_e3 7 (.if_icmp .le 7) 3 14 0 0, am_ec 10 (.iconst 1) 1 0 1, am_e3 11 (.goto 4) 3 15 0 0, am_ec 14 (.iconst 0) 1 0 0, am_e0 15 (.ireturn) 1]
set_option maxRecDepth 100000 in
def km_Pa_mostOfSetting : List am_E := [am_e0 0 (.iload_n 0) 1, am_es 1 (.lookupswitch 34 #[(0, 27), (3, 30)]) 27 35 [(0, 28), (3, 31)], am_ec 28 (.ldc 55) 2 394 100000, am_e0 30 (.ireturn) 1, am_ec 31 (.sipush 1000) 3 0 1000, am_e0 34 (.ireturn) 1, am_ec 35 (.sipush 500) 3 0 500, am_e0 38 (.ireturn) 1]
set_option maxRecDepth 100000 in
def km_Pa_isLot : List am_E := [am_e3 0 (.iload_n 1) 1 1 0 0, am_e3 1 (.ifCond .lt 21) 3 22 0 0, am_e3 4 (.iload_n 1) 1 1 0 0, am_e0 5 (.aload_n 0) 1, am_e3 6 (.getfield 12) 3 9 0 370, am_e3 9 (.getfield 95) 3 7 1 218, am_e3 12 (.getfield 99) 3 3 4 150, am_e3 15 (.if_icmp .ge 7) 3 22 0 0, am_ec 18 (.iconst 1) 1 0 1, am_e3 19 (.goto 4) 3 23 0 0, am_ec 22 (.iconst 0) 1 0 0, am_e0 23 (.ireturn) 1]
set_option maxRecDepth 100000 in
def km_Pa_isBidder : List am_E := [am_e3 0 (.iload_n 1) 1 1 0 0, am_e3 1 (.ifCond .lt 18) 3 19 0 0, am_e3 4 (.iload_n 1) 1 1 0 0, am_e0 5 (.aload_n 0) 1, am_e3 6 (.getfield 12) 3 9 0 370, am_e3 9 (.getfield 128) 3 7 3 224, am_e3 12 (.if_icmp .ge 7) 3 19 0 0, am_ec 15 (.iconst 1) 1 0 1, am_e3 16 (.goto 4) 3 20 0 0, am_ec 19 (.iconst 0) 1 0 0, am_e0 20 (.ireturn) 1]
set_option maxRecDepth 100000 in
def km_Pa_isBid : List am_E := [am_e3 0 (.iload_n 1) 1 1 0 0, am_e3 1 (.ifCond .lt 21) 3 22 0 0, am_e3 4 (.iload_n 1) 1 1 0 0, am_e0 5 (.aload_n 0) 1, am_e3 6 (.getfield 12) 3 9 0 370, am_e3 9 (.getfield 143) 3 7 4 227, am_e3 12 (.getfield 147) 3 0 6 194, am_e3 15 (.if_icmp .ge 7) 3 22 0 0, am_ec 18 (.iconst 1) 1 0 1, am_e3 19 (.goto 4) 3 23 0 0, am_ec 22 (.iconst 0) 1 0 0, am_e0 23 (.ireturn) 1]
set_option maxRecDepth 100000 in
def km_Pa_beginAct : List am_E := [am_e0 0 (.aload_n 0) 1, am_e3 1 (.getfield 21) 3 9 1 371, am_e0 4 (.aload_n 0) 1, am_e3 5 (.getfield 12) 3 9 0 370, am_e3 8 (.invokevirtual 267) 3 70 2 411, am_e0 11 (.aload_n 0) 1, am_e3 12 (.getfield 30) 3 9 2 372, am_ec 15 (.iconst 0) 1 0 0, am_e3 16 (.putfield 187) 3 6 10 289, am_e0 19 (.return_) 1]
set_option maxRecDepth 100000 in
def km_law : List am_E := [am_e3 0 (.new 7) 3 9 0 75, am_e0 3 (.dup) 1, am_e3 4 (.invokespecial 9) 3 133 1 77, am_e3 7 (.astore_n 1) 1 1 0 0, am_e3 8 (.new 10) 3 10 0 783, am_e0 11 (.dup) 1, am_e3 12 (.invokespecial 12) 3 0 1 785, am_e3 15 (.astore_n 2) 1 2 0 0, am_ec 16 (.iconst 0) 1 0 0, am_e3 17 (.istore_n 3) 1 3 0 0, am_e3 18 (.iload_n 3) 1 3 0 0, am_e0 19 (.aload_n 0) 1, am_e0 20 (.arraylength) 1, am_ec 21 (.bipush 6) 2 0 6, am_e0 23 (.isub) 1, am_e3 24 (.if_icmp .gt 915) 3 939 0 0, am_e0 27 (.aload_n 0) 1, am_e3 28 (.iload_n 3) 1 3 0 0, am_e0 29 (.iaload) 1, am_ec 30 (.bipush 31) 2 0 31, am_e0 32 (.iand) 1, am_es 33 (.tableswitch 900 0 24 #[115, 148, 171, 204, 247, 280, 329, 352, 385, 418, 481, 504, 529, 542, 575, 588, 621, 654, 677, 720, 753, 786, 819, 853, 877]) 115 933 [(0, 148), (1, 181), (2, 204), (3, 237), (4, 280), (5, 313), (6, 362), (7, 385), (8, 418), (9, 451), (10, 514), (11, 537), (12, 562), (13, 575), (14, 608), (15, 621), (16, 654), (17, 687), (18, 710), (19, 753), (20, 786), (21, 819), (22, 852), (23, 886), (24, 910)], am_e3 148 (.aload_n 1) 1 1 0 0, am_e0 149 (.aload_n 0) 1, am_e3 150 (.iload_n 3) 1 3 0 0, am_ec 151 (.iconst 1) 1 0 1, am_e0 152 (.iadd) 1, am_e0 153 (.iaload) 1, am_e0 154 (.aload_n 0) 1, am_e3 155 (.iload_n 3) 1 3 0 0, am_ec 156 (.iconst 2) 1 0 2, am_e0 157 (.iadd) 1, am_e0 158 (.iaload) 1, am_e3 159 (.invokevirtual 13) 3 134 3 386, am_e3 162 (.aload_n 2) 1 2 0 0, am_e0 163 (.aload_n 0) 1, am_e3 164 (.iload_n 3) 1 3 0 0, am_ec 165 (.iconst 1) 1 0 1, am_e0 166 (.iadd) 1, am_e0 167 (.iaload) 1, am_e0 168 (.aload_n 0) 1, am_e3 169 (.iload_n 3) 1 3 0 0, am_ec 170 (.iconst 2) 1 0 2, am_e0 171 (.iadd) 1, am_e0 172 (.iaload) 1, am_e3 173 (.invokevirtual 17) 3 14 3 849, am_e3 176 (.if_icmp .eq 757) 3 933 0 0, am_ec 179 (.iconst 0) 1 0 0, am_e0 180 (.ireturn) 1, am_e3 181 (.aload_n 1) 1 1 0 0, am_e0 182 (.aload_n 0) 1, am_e3 183 (.iload_n 3) 1 3 0 0, am_ec 184 (.iconst 1) 1 0 1, am_e0 185 (.iadd) 1, am_e0 186 (.iaload) 1, am_e3 187 (.invokevirtual 18) 3 135 2 453, am_e3 190 (.aload_n 2) 1 2 0 0, am_e0 191 (.aload_n 0) 1, am_e3 192 (.iload_n 3) 1 3 0 0, am_ec 193 (.iconst 1) 1 0 1, am_e0 194 (.iadd) 1, am_e0 195 (.iaload) 1, am_e3 196 (.invokevirtual 22) 3 15 2 866, am_e3 199 (.if_icmp .eq 734) 3 933 0 0, am_ec 202 (.iconst 0) 1 0 0, am_e0 203 (.ireturn) 1, am_e3 204 (.aload_n 1) 1 1 0 0, am_e0 205 (.aload_n 0) 1, am_e3 206 (.iload_n 3) 1 3 0 0, am_ec 207 (.iconst 1) 1 0 1, am_e0 208 (.iadd) 1, am_e0 209 (.iaload) 1, am_e0 210 (.aload_n 0) 1, am_e3 211 (.iload_n 3) 1 3 0 0, am_ec 212 (.iconst 2) 1 0 2, am_e0 213 (.iadd) 1, am_e0 214 (.iaload) 1, am_e3 215 (.invokevirtual 23) 3 136 3 465, am_e3 218 (.aload_n 2) 1 2 0 0, am_e0 219 (.aload_n 0) 1, am_e3 220 (.iload_n 3) 1 3 0 0, am_ec 221 (.iconst 1) 1 0 1, am_e0 222 (.iadd) 1, am_e0 223 (.iaload) 1, am_e0 224 (.aload_n 0) 1, am_e3 225 (.iload_n 3) 1 3 0 0, am_ec 226 (.iconst 2) 1 0 2, am_e0 227 (.iadd) 1, am_e0 228 (.iaload) 1, am_e3 229 (.invokevirtual 26) 3 20 3 870, am_e3 232 (.if_icmp .eq 701) 3 933 0 0, am_ec 235 (.iconst 0) 1 0 0, am_e0 236 (.ireturn) 1, am_e3 237 (.aload_n 1) 1 1 0 0, am_e0 238 (.aload_n 0) 1, am_e3 239 (.iload_n 3) 1 3 0 0, am_ec 240 (.iconst 1) 1 0 1, am_e0 241 (.iadd) 1, am_e0 242 (.iaload) 1, am_e0 243 (.aload_n 0) 1, am_e3 244 (.iload_n 3) 1 3 0 0, am_ec 245 (.iconst 2) 1 0 2, am_e0 246 (.iadd) 1, am_e0 247 (.iaload) 1, am_e0 248 (.aload_n 0) 1, am_e3 249 (.iload_n 3) 1 3 0 0, am_ec 250 (.iconst 3) 1 0 3, am_e0 251 (.iadd) 1, am_e0 252 (.iaload) 1, am_e3 253 (.invokevirtual 27) 3 137 4 489, am_e3 256 (.aload_n 2) 1 2 0 0, am_e0 257 (.aload_n 0) 1, am_e3 258 (.iload_n 3) 1 3 0 0, am_ec 259 (.iconst 1) 1 0 1, am_e0 260 (.iadd) 1, am_e0 261 (.iaload) 1, am_e0 262 (.aload_n 0) 1, am_e3 263 (.iload_n 3) 1 3 0 0, am_ec 264 (.iconst 2) 1 0 2, am_e0 265 (.iadd) 1, am_e0 266 (.iaload) 1, am_e0 267 (.aload_n 0) 1, am_e3 268 (.iload_n 3) 1 3 0 0, am_ec 269 (.iconst 3) 1 0 3, am_e0 270 (.iadd) 1, am_e0 271 (.iaload) 1, am_e3 272 (.invokevirtual 31) 3 21 4 891, am_e3 275 (.if_icmp .eq 658) 3 933 0 0, am_ec 278 (.iconst 0) 1 0 0, am_e0 279 (.ireturn) 1, am_e3 280 (.aload_n 1) 1 1 0 0, am_e0 281 (.aload_n 0) 1, am_e3 282 (.iload_n 3) 1 3 0 0, am_ec 283 (.iconst 1) 1 0 1, am_e0 284 (.iadd) 1, am_e0 285 (.iaload) 1, am_e0 286 (.aload_n 0) 1, am_e3 287 (.iload_n 3) 1 3 0 0, am_ec 288 (.iconst 2) 1 0 2, am_e0 289 (.iadd) 1, am_e0 290 (.iaload) 1, am_e3 291 (.invokevirtual 32) 3 138 3 498, am_e3 294 (.aload_n 2) 1 2 0 0, am_e0 295 (.aload_n 0) 1, am_e3 296 (.iload_n 3) 1 3 0 0, am_ec 297 (.iconst 1) 1 0 1, am_e0 298 (.iadd) 1, am_e0 299 (.iaload) 1, am_e0 300 (.aload_n 0) 1, am_e3 301 (.iload_n 3) 1 3 0 0, am_ec 302 (.iconst 2) 1 0 2, am_e0 303 (.iadd) 1, am_e0 304 (.iaload) 1, am_e3 305 (.invokevirtual 35) 3 22 3 899, am_e3 308 (.if_icmp .eq 625) 3 933 0 0, am_ec 311 (.iconst 0) 1 0 0, am_e0 312 (.ireturn) 1, am_e3 313 (.aload_n 1) 1 1 0 0, am_e0 314 (.aload_n 0) 1, am_e3 315 (.iload_n 3) 1 3 0 0, am_ec 316 (.iconst 1) 1 0 1, am_e0 317 (.iadd) 1, am_e0 318 (.iaload) 1, am_e0 319 (.aload_n 0) 1, am_e3 320 (.iload_n 3) 1 3 0 0, am_ec 321 (.iconst 2) 1 0 2, am_e0 322 (.iadd) 1, am_e0 323 (.iaload) 1, am_e3 324 (.ifCond .eq 7) 3 331 0 0, am_ec 327 (.iconst 1) 1 0 1, am_e3 328 (.goto 4) 3 332 0 0, am_ec 331 (.iconst 0) 1 0 0, am_e3 332 (.invokevirtual 36) 3 139 3 508, am_e3 335 (.aload_n 2) 1 2 0 0, am_e0 336 (.aload_n 0) 1, am_e3 337 (.iload_n 3) 1 3 0 0, am_ec 338 (.iconst 1) 1 0 1, am_e0 339 (.iadd) 1, am_e0 340 (.iaload) 1, am_e0 341 (.aload_n 0) 1, am_e3 342 (.iload_n 3) 1 3 0 0, am_ec 343 (.iconst 2) 1 0 2, am_e0 344 (.iadd) 1, am_e0 345 (.iaload) 1, am_e3 346 (.ifCond .eq 7) 3 353 0 0, am_ec 349 (.iconst 1) 1 0 1, am_e3 350 (.goto 4) 3 354 0 0, am_ec 353 (.iconst 0) 1 0 0, am_e3 354 (.invokevirtual 40) 3 24 3 907, am_e3 357 (.if_icmp .eq 576) 3 933 0 0, am_ec 360 (.iconst 0) 1 0 0, am_e0 361 (.ireturn) 1, am_e3 362 (.aload_n 1) 1 1 0 0, am_e0 363 (.aload_n 0) 1, am_e3 364 (.iload_n 3) 1 3 0 0, am_ec 365 (.iconst 1) 1 0 1, am_e0 366 (.iadd) 1, am_e0 367 (.iaload) 1, am_e3 368 (.invokevirtual 41) 3 140 2 516, am_e3 371 (.aload_n 2) 1 2 0 0, am_e0 372 (.aload_n 0) 1, am_e3 373 (.iload_n 3) 1 3 0 0, am_ec 374 (.iconst 1) 1 0 1, am_e0 375 (.iadd) 1, am_e0 376 (.iaload) 1, am_e3 377 (.invokevirtual 44) 3 25 2 915, am_e3 380 (.if_icmp .eq 553) 3 933 0 0, am_ec 383 (.iconst 0) 1 0 0, am_e0 384 (.ireturn) 1, am_e3 385 (.aload_n 1) 1 1 0 0, am_e0 386 (.aload_n 0) 1, am_e3 387 (.iload_n 3) 1 3 0 0, am_ec 388 (.iconst 1) 1 0 1, am_e0 389 (.iadd) 1, am_e0 390 (.iaload) 1, am_e0 391 (.aload_n 0) 1, am_e3 392 (.iload_n 3) 1 3 0 0, am_ec 393 (.iconst 2) 1 0 2, am_e0 394 (.iadd) 1, am_e0 395 (.iaload) 1, am_e3 396 (.invokevirtual 45) 3 141 3 521, am_e3 399 (.aload_n 2) 1 2 0 0, am_e0 400 (.aload_n 0) 1, am_e3 401 (.iload_n 3) 1 3 0 0, am_ec 402 (.iconst 1) 1 0 1, am_e0 403 (.iadd) 1, am_e0 404 (.iaload) 1, am_e0 405 (.aload_n 0) 1, am_e3 406 (.iload_n 3) 1 3 0 0, am_ec 407 (.iconst 2) 1 0 2, am_e0 408 (.iadd) 1, am_e0 409 (.iaload) 1, am_e3 410 (.invokevirtual 48) 3 26 3 924, am_e3 413 (.if_icmp .eq 520) 3 933 0 0, am_ec 416 (.iconst 0) 1 0 0, am_e0 417 (.ireturn) 1, am_e3 418 (.aload_n 1) 1 1 0 0, am_e0 419 (.aload_n 0) 1, am_e3 420 (.iload_n 3) 1 3 0 0, am_ec 421 (.iconst 1) 1 0 1, am_e0 422 (.iadd) 1, am_e0 423 (.iaload) 1, am_e0 424 (.aload_n 0) 1, am_e3 425 (.iload_n 3) 1 3 0 0, am_ec 426 (.iconst 2) 1 0 2, am_e0 427 (.iadd) 1, am_e0 428 (.iaload) 1, am_e3 429 (.invokevirtual 49) 3 142 3 529, am_e3 432 (.aload_n 2) 1 2 0 0, am_e0 433 (.aload_n 0) 1, am_e3 434 (.iload_n 3) 1 3 0 0, am_ec 435 (.iconst 1) 1 0 1, am_e0 436 (.iadd) 1, am_e0 437 (.iaload) 1, am_e0 438 (.aload_n 0) 1, am_e3 439 (.iload_n 3) 1 3 0 0, am_ec 440 (.iconst 2) 1 0 2, am_e0 441 (.iadd) 1, am_e0 442 (.iaload) 1, am_e3 443 (.invokevirtual 52) 3 27 3 932, am_e3 446 (.if_icmp .eq 487) 3 933 0 0, am_ec 449 (.iconst 0) 1 0 0, am_e0 450 (.ireturn) 1, am_e3 451 (.aload_n 1) 1 1 0 0, am_e0 452 (.aload_n 0) 1, am_e3 453 (.iload_n 3) 1 3 0 0, am_ec 454 (.iconst 1) 1 0 1, am_e0 455 (.iadd) 1, am_e0 456 (.iaload) 1, am_e0 457 (.aload_n 0) 1, am_e3 458 (.iload_n 3) 1 3 0 0, am_ec 459 (.iconst 2) 1 0 2, am_e0 460 (.iadd) 1, am_e0 461 (.iaload) 1, am_e0 462 (.aload_n 0) 1, am_e3 463 (.iload_n 3) 1 3 0 0, am_ec 464 (.iconst 3) 1 0 3, am_e0 465 (.iadd) 1, am_e0 466 (.iaload) 1, am_e0 467 (.aload_n 0) 1, am_e3 468 (.iload_n 3) 1 3 0 0, am_ec 469 (.iconst 4) 1 0 4, am_e0 470 (.iadd) 1, am_e0 471 (.iaload) 1, am_e0 472 (.aload_n 0) 1, am_e3 473 (.iload_n 3) 1 3 0 0, am_ec 474 (.iconst 5) 1 0 5, am_e0 475 (.iadd) 1, am_e0 476 (.iaload) 1, am_e3 477 (.invokevirtual 53) 3 143 6 536, am_e3 480 (.aload_n 2) 1 2 0 0, am_e0 481 (.aload_n 0) 1, am_e3 482 (.iload_n 3) 1 3 0 0, am_ec 483 (.iconst 1) 1 0 1, am_e0 484 (.iadd) 1, am_e0 485 (.iaload) 1, am_e0 486 (.aload_n 0) 1, am_e3 487 (.iload_n 3) 1 3 0 0, am_ec 488 (.iconst 2) 1 0 2, am_e0 489 (.iadd) 1, am_e0 490 (.iaload) 1, am_e0 491 (.aload_n 0) 1, am_e3 492 (.iload_n 3) 1 3 0 0, am_ec 493 (.iconst 3) 1 0 3, am_e0 494 (.iadd) 1, am_e0 495 (.iaload) 1, am_e0 496 (.aload_n 0) 1, am_e3 497 (.iload_n 3) 1 3 0 0, am_ec 498 (.iconst 4) 1 0 4, am_e0 499 (.iadd) 1, am_e0 500 (.iaload) 1, am_e0 501 (.aload_n 0) 1, am_e3 502 (.iload_n 3) 1 3 0 0, am_ec 503 (.iconst 5) 1 0 5, am_e0 504 (.iadd) 1, am_e0 505 (.iaload) 1, am_e3 506 (.invokevirtual 57) 3 30 6 936, am_e3 509 (.if_icmp .eq 424) 3 933 0 0, am_ec 512 (.iconst 0) 1 0 0, am_e0 513 (.ireturn) 1, am_e3 514 (.aload_n 1) 1 1 0 0, am_e0 515 (.aload_n 0) 1, am_e3 516 (.iload_n 3) 1 3 0 0, am_ec 517 (.iconst 1) 1 0 1, am_e0 518 (.iadd) 1, am_e0 519 (.iaload) 1, am_e3 520 (.invokevirtual 58) 3 144 2 545, am_e3 523 (.aload_n 2) 1 2 0 0, am_e0 524 (.aload_n 0) 1, am_e3 525 (.iload_n 3) 1 3 0 0, am_ec 526 (.iconst 1) 1 0 1, am_e0 527 (.iadd) 1, am_e0 528 (.iaload) 1, am_e3 529 (.invokevirtual 61) 3 31 2 951, am_e3 532 (.if_icmp .eq 401) 3 933 0 0, am_ec 535 (.iconst 0) 1 0 0, am_e0 536 (.ireturn) 1, am_e3 537 (.aload_n 1) 1 1 0 0, am_e0 538 (.aload_n 0) 1, am_e3 539 (.iload_n 3) 1 3 0 0, am_ec 540 (.iconst 1) 1 0 1, am_e0 541 (.iadd) 1, am_e0 542 (.iaload) 1, am_e0 543 (.i2c) 1, am_e3 544 (.invokevirtual 62) 3 145 2 553, am_e3 547 (.aload_n 2) 1 2 0 0, am_e0 548 (.aload_n 0) 1, am_e3 549 (.iload_n 3) 1 3 0 0, am_ec 550 (.iconst 1) 1 0 1, am_e0 551 (.iadd) 1, am_e0 552 (.iaload) 1, am_e0 553 (.i2c) 1, am_e3 554 (.invokevirtual 66) 3 32 2 959, am_e3 557 (.if_icmp .eq 376) 3 933 0 0, am_ec 560 (.iconst 0) 1 0 0, am_e0 561 (.ireturn) 1, am_e3 562 (.aload_n 1) 1 1 0 0, am_e3 563 (.invokevirtual 67) 3 146 1 561, am_e3 566 (.aload_n 2) 1 2 0 0, am_e3 567 (.invokevirtual 71) 3 33 1 963, am_e3 570 (.if_icmp .eq 363) 3 933 0 0, am_ec 573 (.iconst 0) 1 0 0, am_e0 574 (.ireturn) 1, am_e3 575 (.aload_n 1) 1 1 0 0, am_e0 576 (.aload_n 0) 1, am_e3 577 (.iload_n 3) 1 3 0 0, am_ec 578 (.iconst 1) 1 0 1, am_e0 579 (.iadd) 1, am_e0 580 (.iaload) 1, am_e0 581 (.aload_n 0) 1, am_e3 582 (.iload_n 3) 1 3 0 0, am_ec 583 (.iconst 2) 1 0 2, am_e0 584 (.iadd) 1, am_e0 585 (.iaload) 1, am_e3 586 (.invokevirtual 72) 3 147 3 565, am_e3 589 (.aload_n 2) 1 2 0 0, am_e0 590 (.aload_n 0) 1, am_e3 591 (.iload_n 3) 1 3 0 0, am_ec 592 (.iconst 1) 1 0 1, am_e0 593 (.iadd) 1, am_e0 594 (.iaload) 1, am_e0 595 (.aload_n 0) 1, am_e3 596 (.iload_n 3) 1 3 0 0, am_ec 597 (.iconst 2) 1 0 2, am_e0 598 (.iadd) 1, am_e0 599 (.iaload) 1, am_e3 600 (.invokevirtual 75) 3 40 3 967, am_e3 603 (.if_icmp .eq 330) 3 933 0 0, am_ec 606 (.iconst 0) 1 0 0, am_e0 607 (.ireturn) 1, am_e3 608 (.aload_n 1) 1 1 0 0, am_e3 609 (.invokevirtual 76) 3 148 1 610, am_e3 612 (.aload_n 2) 1 2 0 0, am_e3 613 (.invokevirtual 79) 3 12 1 845, am_e3 616 (.if_icmp .eq 317) 3 933 0 0, am_ec 619 (.iconst 0) 1 0 0, am_e0 620 (.ireturn) 1, am_e3 621 (.aload_n 1) 1 1 0 0, am_e0 622 (.aload_n 0) 1, am_e3 623 (.iload_n 3) 1 3 0 0, am_ec 624 (.iconst 1) 1 0 1, am_e0 625 (.iadd) 1, am_e0 626 (.iaload) 1, am_e0 627 (.aload_n 0) 1, am_e3 628 (.iload_n 3) 1 3 0 0, am_ec 629 (.iconst 2) 1 0 2, am_e0 630 (.iadd) 1, am_e0 631 (.iaload) 1, am_e3 632 (.invokevirtual 80) 3 149 3 618, am_e3 635 (.aload_n 2) 1 2 0 0, am_e0 636 (.aload_n 0) 1, am_e3 637 (.iload_n 3) 1 3 0 0, am_ec 638 (.iconst 1) 1 0 1, am_e0 639 (.iadd) 1, am_e0 640 (.iaload) 1, am_e0 641 (.aload_n 0) 1, am_e3 642 (.iload_n 3) 1 3 0 0, am_ec 643 (.iconst 2) 1 0 2, am_e0 644 (.iadd) 1, am_e0 645 (.iaload) 1, am_e3 646 (.invokevirtual 83) 3 52 3 998, am_e3 649 (.if_icmp .eq 284) 3 933 0 0, am_ec 652 (.iconst 0) 1 0 0, am_e0 653 (.ireturn) 1, am_e3 654 (.aload_n 1) 1 1 0 0, am_e0 655 (.aload_n 0) 1, am_e3 656 (.iload_n 3) 1 3 0 0, am_ec 657 (.iconst 1) 1 0 1, am_e0 658 (.iadd) 1, am_e0 659 (.iaload) 1, am_e0 660 (.aload_n 0) 1, am_e3 661 (.iload_n 3) 1 3 0 0, am_ec 662 (.iconst 2) 1 0 2, am_e0 663 (.iadd) 1, am_e0 664 (.iaload) 1, am_e3 665 (.invokevirtual 84) 3 150 3 696, am_e3 668 (.aload_n 2) 1 2 0 0, am_e0 669 (.aload_n 0) 1, am_e3 670 (.iload_n 3) 1 3 0 0, am_ec 671 (.iconst 1) 1 0 1, am_e0 672 (.iadd) 1, am_e0 673 (.iaload) 1, am_e0 674 (.aload_n 0) 1, am_e3 675 (.iload_n 3) 1 3 0 0, am_ec 676 (.iconst 2) 1 0 2, am_e0 677 (.iadd) 1, am_e0 678 (.iaload) 1, am_e3 679 (.invokevirtual 87) 3 53 3 1049, am_e3 682 (.if_icmp .eq 251) 3 933 0 0, am_ec 685 (.iconst 0) 1 0 0, am_e0 686 (.ireturn) 1, am_e3 687 (.aload_n 1) 1 1 0 0, am_e0 688 (.aload_n 0) 1, am_e3 689 (.iload_n 3) 1 3 0 0, am_ec 690 (.iconst 1) 1 0 1, am_e0 691 (.iadd) 1, am_e0 692 (.iaload) 1, am_e3 693 (.invokevirtual 88) 3 151 2 700, am_e3 696 (.aload_n 2) 1 2 0 0, am_e0 697 (.aload_n 0) 1, am_e3 698 (.iload_n 3) 1 3 0 0, am_ec 699 (.iconst 1) 1 0 1, am_e0 700 (.iadd) 1, am_e0 701 (.iaload) 1, am_e3 702 (.invokevirtual 91) 3 54 2 1053, am_e3 705 (.if_icmp .eq 228) 3 933 0 0, am_ec 708 (.iconst 0) 1 0 0, am_e0 709 (.ireturn) 1, am_e3 710 (.aload_n 1) 1 1 0 0, am_e0 711 (.aload_n 0) 1, am_e3 712 (.iload_n 3) 1 3 0 0, am_ec 713 (.iconst 1) 1 0 1, am_e0 714 (.iadd) 1, am_e0 715 (.iaload) 1, am_e0 716 (.aload_n 0) 1, am_e3 717 (.iload_n 3) 1 3 0 0, am_ec 718 (.iconst 2) 1 0 2, am_e0 719 (.iadd) 1, am_e0 720 (.iaload) 1, am_e0 721 (.aload_n 0) 1, am_e3 722 (.iload_n 3) 1 3 0 0, am_ec 723 (.iconst 3) 1 0 3, am_e0 724 (.iadd) 1, am_e0 725 (.iaload) 1, am_e3 726 (.invokevirtual 92) 3 152 4 704, am_e3 729 (.aload_n 2) 1 2 0 0, am_e0 730 (.aload_n 0) 1, am_e3 731 (.iload_n 3) 1 3 0 0, am_ec 732 (.iconst 1) 1 0 1, am_e0 733 (.iadd) 1, am_e0 734 (.iaload) 1, am_e0 735 (.aload_n 0) 1, am_e3 736 (.iload_n 3) 1 3 0 0, am_ec 737 (.iconst 2) 1 0 2, am_e0 738 (.iadd) 1, am_e0 739 (.iaload) 1, am_e0 740 (.aload_n 0) 1, am_e3 741 (.iload_n 3) 1 3 0 0, am_ec 742 (.iconst 3) 1 0 3, am_e0 743 (.iadd) 1, am_e0 744 (.iaload) 1, am_e3 745 (.invokevirtual 95) 3 55 4 1057, am_e3 748 (.if_icmp .eq 185) 3 933 0 0, am_ec 751 (.iconst 0) 1 0 0, am_e0 752 (.ireturn) 1, am_e3 753 (.aload_n 1) 1 1 0 0, am_e0 754 (.aload_n 0) 1, am_e3 755 (.iload_n 3) 1 3 0 0, am_ec 756 (.iconst 1) 1 0 1, am_e0 757 (.iadd) 1, am_e0 758 (.iaload) 1, am_e0 759 (.aload_n 0) 1, am_e3 760 (.iload_n 3) 1 3 0 0, am_ec 761 (.iconst 2) 1 0 2, am_e0 762 (.iadd) 1, am_e0 763 (.iaload) 1, am_e3 764 (.invokevirtual 96) 3 153 3 717, am_e3 767 (.aload_n 2) 1 2 0 0, am_e0 768 (.aload_n 0) 1, am_e3 769 (.iload_n 3) 1 3 0 0, am_ec 770 (.iconst 1) 1 0 1, am_e0 771 (.iadd) 1, am_e0 772 (.iaload) 1, am_e0 773 (.aload_n 0) 1, am_e3 774 (.iload_n 3) 1 3 0 0, am_ec 775 (.iconst 2) 1 0 2, am_e0 776 (.iadd) 1, am_e0 777 (.iaload) 1, am_e3 778 (.invokevirtual 99) 3 56 3 1061, am_e3 781 (.if_icmp .eq 152) 3 933 0 0, am_ec 784 (.iconst 0) 1 0 0, am_e0 785 (.ireturn) 1, am_e3 786 (.aload_n 1) 1 1 0 0, am_e0 787 (.aload_n 0) 1, am_e3 788 (.iload_n 3) 1 3 0 0, am_ec 789 (.iconst 1) 1 0 1, am_e0 790 (.iadd) 1, am_e0 791 (.iaload) 1, am_e0 792 (.aload_n 0) 1, am_e3 793 (.iload_n 3) 1 3 0 0, am_ec 794 (.iconst 2) 1 0 2, am_e0 795 (.iadd) 1, am_e0 796 (.iaload) 1, am_e3 797 (.invokevirtual 100) 3 154 3 726, am_e3 800 (.aload_n 2) 1 2 0 0, am_e0 801 (.aload_n 0) 1, am_e3 802 (.iload_n 3) 1 3 0 0, am_ec 803 (.iconst 1) 1 0 1, am_e0 804 (.iadd) 1, am_e0 805 (.iaload) 1, am_e0 806 (.aload_n 0) 1, am_e3 807 (.iload_n 3) 1 3 0 0, am_ec 808 (.iconst 2) 1 0 2, am_e0 809 (.iadd) 1, am_e0 810 (.iaload) 1, am_e3 811 (.invokevirtual 103) 3 57 3 1065, am_e3 814 (.if_icmp .eq 119) 3 933 0 0, am_ec 817 (.iconst 0) 1 0 0, am_e0 818 (.ireturn) 1, am_e3 819 (.aload_n 1) 1 1 0 0, am_e0 820 (.aload_n 0) 1, am_e3 821 (.iload_n 3) 1 3 0 0, am_ec 822 (.iconst 1) 1 0 1, am_e0 823 (.iadd) 1, am_e0 824 (.iaload) 1, am_e0 825 (.aload_n 0) 1, am_e3 826 (.iload_n 3) 1 3 0 0, am_ec 827 (.iconst 2) 1 0 2, am_e0 828 (.iadd) 1, am_e0 829 (.iaload) 1, am_e3 830 (.invokevirtual 104) 3 155 3 730, am_e3 833 (.aload_n 2) 1 2 0 0, am_e0 834 (.aload_n 0) 1, am_e3 835 (.iload_n 3) 1 3 0 0, am_ec 836 (.iconst 1) 1 0 1, am_e0 837 (.iadd) 1, am_e0 838 (.iaload) 1, am_e0 839 (.aload_n 0) 1, am_e3 840 (.iload_n 3) 1 3 0 0, am_ec 841 (.iconst 2) 1 0 2, am_e0 842 (.iadd) 1, am_e0 843 (.iaload) 1, am_e3 844 (.invokevirtual 107) 3 59 3 1069, am_e3 847 (.if_icmp .eq 86) 3 933 0 0, am_ec 850 (.iconst 0) 1 0 0, am_e0 851 (.ireturn) 1, am_e3 852 (.aload_n 1) 1 1 0 0, am_e0 853 (.aload_n 0) 1, am_e3 854 (.iload_n 3) 1 3 0 0, am_ec 855 (.iconst 1) 1 0 1, am_e0 856 (.iadd) 1, am_e0 857 (.iaload) 1, am_e0 858 (.aload_n 0) 1, am_e3 859 (.iload_n 3) 1 3 0 0, am_ec 860 (.iconst 2) 1 0 2, am_e0 861 (.iadd) 1, am_e0 862 (.iaload) 1, am_e3 863 (.invokevirtual 108) 3 156 3 748, am_e3 866 (.aload_n 2) 1 2 0 0, am_e0 867 (.aload_n 0) 1, am_e3 868 (.iload_n 3) 1 3 0 0, am_ec 869 (.iconst 1) 1 0 1, am_e0 870 (.iadd) 1, am_e0 871 (.iaload) 1, am_e0 872 (.aload_n 0) 1, am_e3 873 (.iload_n 3) 1 3 0 0, am_ec 874 (.iconst 2) 1 0 2, am_e0 875 (.iadd) 1, am_e0 876 (.iaload) 1, am_e3 877 (.invokevirtual 112) 3 62 3 1078, am_e0 880 (.lcmp) 1, am_e3 881 (.ifCond .eq 52) 3 933 0 0, am_ec 884 (.iconst 0) 1 0 0, am_e0 885 (.ireturn) 1, am_e3 886 (.aload_n 1) 1 1 0 0, am_e0 887 (.aload_n 0) 1, am_e3 888 (.iload_n 3) 1 3 0 0, am_ec 889 (.iconst 1) 1 0 1, am_e0 890 (.iadd) 1, am_e0 891 (.iaload) 1, am_e3 892 (.invokevirtual 113) 3 157 2 766, am_e3 895 (.aload_n 2) 1 2 0 0, am_e0 896 (.aload_n 0) 1, am_e3 897 (.iload_n 3) 1 3 0 0, am_ec 898 (.iconst 1) 1 0 1, am_e0 899 (.iadd) 1, am_e0 900 (.iaload) 1, am_e3 901 (.invokevirtual 117) 3 63 2 1094, am_e0 904 (.lcmp) 1, am_e3 905 (.ifCond .eq 28) 3 933 0 0, am_ec 908 (.iconst 0) 1 0 0, am_e0 909 (.ireturn) 1, am_e3 910 (.aload_n 1) 1 1 0 0, am_e0 911 (.aload_n 0) 1, am_e3 912 (.iload_n 3) 1 3 0 0, am_ec 913 (.iconst 1) 1 0 1, am_e0 914 (.iadd) 1, am_e0 915 (.iaload) 1, am_e3 916 (.invokevirtual 118) 3 158 2 774, am_e3 919 (.aload_n 2) 1 2 0 0, am_e0 920 (.aload_n 0) 1, am_e3 921 (.iload_n 3) 1 3 0 0, am_ec 922 (.iconst 1) 1 0 1, am_e0 923 (.iadd) 1, am_e0 924 (.iaload) 1, am_e3 925 (.invokevirtual 121) 3 64 2 1098, am_e3 928 (.if_icmp .eq 5) 3 933 0 0, am_ec 931 (.iconst 0) 1 0 0, am_e0 932 (.ireturn) 1, am_ei 933 (.iinc 3 6) 3 3 6, am_e3 936 (.goto (-918)) 3 18 0 0, am_ec 939 (.iconst 1) 1 0 1, am_e0 940 (.ireturn) 1]
def am_code (i : Nat) : List am_E := bif Nat.blt i 83 then (bif Nat.blt i 41 then (bif Nat.blt i 20 then (bif Nat.blt i 10 then (bif Nat.blt i 5 then (bif Nat.blt i 2 then (bif Nat.blt i 1 then (km_Mod_init) else (km_Mod_in)) else (bif Nat.blt i 3 then (km_Mod_lost) else (bif Nat.blt i 4 then (km_Mod_greater) else (km_Mod_lesser)))) else (bif Nat.blt i 7 then (bif Nat.blt i 6 then (km_Mod_lots) else (km_Mod_bidders)) else (bif Nat.blt i 8 then (km_Mod_bids) else (bif Nat.blt i 9 then (km_Mod_noLot) else (km_Mod_noBidder))))) else (bif Nat.blt i 15 then (bif Nat.blt i 12 then (bif Nat.blt i 11 then (km_Mod_noBid) else (km_Mod_record)) else (bif Nat.blt i 13 then (km_Mod_undo) else (bif Nat.blt i 14 then (km_Mod_bandAt) else (km_Mod_setBand)))) else (bif Nat.blt i 17 then (bif Nat.blt i 16 then (km_Mod_removeBand) else (km_Mod_bandOf)) else (bif Nat.blt i 18 then (km_Mod_floorOf) else (bif Nat.blt i 19 then (km_Mod_nextOf) else (km_Mod_ceilingOf)))))) else (bif Nat.blt i 30 then (bif Nat.blt i 25 then (bif Nat.blt i 22 then (bif Nat.blt i 21 then (km_Mod_valid) else (km_Mod_addLot)) else (bif Nat.blt i 23 then (km_Mod_setReserve) else (bif Nat.blt i 24 then (km_Mod_awayLots) else (km_Mod_withdrawLot)))) else (bif Nat.blt i 27 then (bif Nat.blt i 26 then (km_Mod_addBidder) else (km_Mod_setLimit)) else (bif Nat.blt i 28 then (km_Mod_set) else (bif Nat.blt i 29 then (km_Mod_putBid) else (km_Mod_isMark))))) else (bif Nat.blt i 35 then (bif Nat.blt i 32 then (bif Nat.blt i 31 then (km_Mod_bid) else (km_Mod_withdrawBid)) else (bif Nat.blt i 33 then (km_Mod_type) else (bif Nat.blt i 34 then (km_Mod_clearText) else (km_Mod_isAt)))) else (bif Nat.blt i 38 then (bif Nat.blt i 36 then (km_Mod_number) else (bif Nat.blt i 37 then (km_Mod_sign) else (km_Mod_readAlternative))) else (bif Nat.blt i 39 then (km_Mod_readLetter) else (bif Nat.blt i 40 then (km_Mod_hasOthers) else (km_Mod_letter))))))) else (bif Nat.blt i 62 then (bif Nat.blt i 51 then (bif Nat.blt i 46 then (bif Nat.blt i 43 then (bif Nat.blt i 42 then (km_Mod_worthOf) else (km_Mod_isLate)) else (bif Nat.blt i 44 then (km_Mod_isServed) else (bif Nat.blt i 45 then (km_Mod_counts) else (km_Mod_isAhead)))) else (bif Nat.blt i 48 then (bif Nat.blt i 47 then (km_Mod_asking) else (km_Mod_findBest)) else (bif Nat.blt i 49 then (km_Mod_placeOf) else (bif Nat.blt i 50 then (km_Mod_rankedAt) else (km_Mod_sell))))) else (bif Nat.blt i 56 then (bif Nat.blt i 53 then (bif Nat.blt i 52 then (km_Mod_hold) else (km_Mod_sale)) else (bif Nat.blt i 54 then (km_Mod_ranked) else (bif Nat.blt i 55 then (km_Mod_fate) else (km_Mod_needed)))) else (bif Nat.blt i 59 then (bif Nat.blt i 57 then (km_Mod_lot) else (bif Nat.blt i 58 then (km_Mod_bidOf) else (km_Mod_part))) else (bif Nat.blt i 60 then (km_Mod_bidder) else (bif Nat.blt i 61 then (km_Mod_isSold) else (km_Mod_feeFor)))))) else (bif Nat.blt i 72 then (bif Nat.blt i 67 then (bif Nat.blt i 64 then (bif Nat.blt i 63 then (km_Mod_seller) else (km_Mod_account)) else (bif Nat.blt i 65 then (km_Mod_count) else (bif Nat.blt i 66 then (km_Bids_init) else (km_Bids_copy)))) else (bif Nat.blt i 69 then (bif Nat.blt i 68 then (km_Bids_add) else (km_Bids_freeGroup)) else (bif Nat.blt i 70 then (km_History_init) else (bif Nat.blt i 71 then (km_History_keep) else (km_History_restore))))) else (bif Nat.blt i 77 then (bif Nat.blt i 74 then (bif Nat.blt i 73 then (km_History_dropOldest) else (km_Letter_init)) else (bif Nat.blt i 75 then (km_Letter_append) else (bif Nat.blt i 76 then (km_Letter_isInOneWish) else (km_Letter_read)))) else (bif Nat.blt i 80 then (bif Nat.blt i 78 then (km_Letter_startNumber) else (bif Nat.blt i 79 then (km_Letter_readDigit) else (km_Letter_readMark))) else (bif Nat.blt i 81 then (km_Letter_readEnd) else (bif Nat.blt i 82 then (km_Letter_isTooGreat) else (km_Letter_takeNumber)))))))) else (bif Nat.blt i 124 then (bif Nat.blt i 103 then (bif Nat.blt i 93 then (bif Nat.blt i 88 then (bif Nat.blt i 85 then (bif Nat.blt i 84 then (km_Lots_init) else (km_Lots_copy)) else (bif Nat.blt i 86 then (km_Lots_add) else (bif Nat.blt i 87 then (km_Money_init) else (km_Money_paidBy)))) else (bif Nat.blt i 90 then (bif Nat.blt i 89 then (km_Money_total) else (km_Money_payments)) else (bif Nat.blt i 91 then (km_Money_receipts) else (bif Nat.blt i 92 then (km_Money_part) else (km_Money_owesFee))))) else (bif Nat.blt i 98 then (bif Nat.blt i 95 then (bif Nat.blt i 94 then (km_Row_init) else (km_Row_get)) else (bif Nat.blt i 96 then (km_Row_put) else (bif Nat.blt i 97 then (km_Row_copy) else (km_Row_sum)))) else (bif Nat.blt i 100 then (bif Nat.blt i 99 then (km_Row_countOf) else (km_Sale_init)) else (bif Nat.blt i 101 then (km_Sale_hold) else (bif Nat.blt i 102 then (km_Sale_bidAt) else (km_Sale_leftBefore)))))) else (bif Nat.blt i 113 then (bif Nat.blt i 108 then (bif Nat.blt i 105 then (bif Nat.blt i 104 then (km_Sale_soldLots) else (km_Sale_judgeBids)) else (bif Nat.blt i 106 then (km_Sale_judge) else (bif Nat.blt i 107 then (km_Sale_reasonAgainst) else (km_Sale_hasAlternativeBought)))) else (bif Nat.blt i 110 then (bif Nat.blt i 109 then (km_Sale_chooseBetween) else (km_Sale_orderBids)) else (bif Nat.blt i 111 then (km_Sale_insert) else (bif Nat.blt i 112 then (km_Sale_goesBefore) else (km_Sale_sell))))) else (bif Nat.blt i 118 then (bif Nat.blt i 115 then (bif Nat.blt i 114 then (km_Sale_stateOf) else (km_Sale_priceOf)) else (bif Nat.blt i 116 then (km_Sale_leastAmount) else (bif Nat.blt i 117 then (km_Sale_leastWorth) else (km_State_init)))) else (bif Nat.blt i 121 then (bif Nat.blt i 119 then (km_State_copy) else (bif Nat.blt i 120 then (km_State_askingPrice) else (km_State_isLate))) else (bif Nat.blt i 122 then (km_State_lateBids) else (bif Nat.blt i 123 then (km_Steps_init) else (km_Steps_copy))))))) else (bif Nat.blt i 145 then (bif Nat.blt i 134 then (bif Nat.blt i 129 then (bif Nat.blt i 126 then (bif Nat.blt i 125 then (km_Steps_hasBand) else (km_Steps_hasRoomFor)) else (bif Nat.blt i 127 then (km_Steps_putBand) else (bif Nat.blt i 128 then (km_Steps_dropBand) else (km_Steps_placeOf)))) else (bif Nat.blt i 131 then (bif Nat.blt i 130 then (km_Steps_bandOf) else (km_Steps_floor)) else (bif Nat.blt i 132 then (km_Steps_ceiling) else (bif Nat.blt i 133 then (km_Steps_next) else (km_Pa_init))))) else (bif Nat.blt i 139 then (bif Nat.blt i 136 then (bif Nat.blt i 135 then (km_Pa_setBand) else (km_Pa_removeBand)) else (bif Nat.blt i 137 then (km_Pa_valid) else (bif Nat.blt i 138 then (km_Pa_addLot) else (km_Pa_setReserve)))) else (bif Nat.blt i 142 then (bif Nat.blt i 140 then (km_Pa_withdrawLot) else (bif Nat.blt i 141 then (km_Pa_addBidder) else (km_Pa_setLimit))) else (bif Nat.blt i 143 then (km_Pa_set) else (bif Nat.blt i 144 then (km_Pa_bid) else (km_Pa_withdrawBid)))))) else (bif Nat.blt i 155 then (bif Nat.blt i 150 then (bif Nat.blt i 147 then (bif Nat.blt i 146 then (km_Pa_type) else (km_Pa_clearText)) else (bif Nat.blt i 148 then (km_Pa_letter) else (bif Nat.blt i 149 then (km_Pa_undo) else (km_Pa_sale)))) else (bif Nat.blt i 152 then (bif Nat.blt i 151 then (km_Pa_ranked) else (km_Pa_fate)) else (bif Nat.blt i 153 then (km_Pa_needed) else (bif Nat.blt i 154 then (km_Pa_lot) else (km_Pa_bidOf))))) else (bif Nat.blt i 160 then (bif Nat.blt i 157 then (bif Nat.blt i 156 then (km_Pa_bidder) else (km_Pa_seller)) else (bif Nat.blt i 158 then (km_Pa_account) else (bif Nat.blt i 159 then (km_Pa_count) else (km_Pa_isOutside)))) else (bif Nat.blt i 163 then (bif Nat.blt i 161 then (km_Pa_mostOfSetting) else (bif Nat.blt i 162 then (km_Pa_isLot) else (km_Pa_isBidder))) else (bif Nat.blt i 164 then (km_Pa_isBid) else (bif Nat.blt i 165 then (km_Pa_beginAct) else (km_law))))))))
/-- a method: its class, its name, its bytes, its locals, what it answers, its arguments, its rank, its kind (0 virtual, 1 static, 2 constructor) -/
abbrev am_M : Type := String × MethodName × ByteArray × Nat × Option FieldType × Nat × Nat × Nat
def qm_Mod_init : am_M := (RX10, yX10_init, cX10_init, 1, none, 1, 1, 2)
def qm_Mod_in : am_M := (RX10, yX10_in, cX10_in, 3, some .boolean, 3, 0, 1)
def qm_Mod_lost : am_M := (RX10, yX10_lost, cX10_lost, 0, some .long, 0, 0, 1)
def qm_Mod_greater : am_M := (RX10, yX10_greater, cX10_greater, 2, some .int, 2, 0, 1)
def qm_Mod_lesser : am_M := (RX10, yX10_lesser, cX10_lesser, 2, some .int, 2, 0, 1)
def qm_Mod_lots : am_M := (RX10, yX10_lots, cX10_lots, 1, some .int, 1, 0, 0)
def qm_Mod_bidders : am_M := (RX10, yX10_bidders, cX10_bidders, 1, some .int, 1, 0, 0)
def qm_Mod_bids : am_M := (RX10, yX10_bids, cX10_bids, 1, some .int, 1, 0, 0)
def qm_Mod_noLot : am_M := (RX10, yX10_noLot, cX10_noLot, 2, some .boolean, 2, 1, 0)
def qm_Mod_noBidder : am_M := (RX10, yX10_noBidder, cX10_noBidder, 2, some .boolean, 2, 1, 0)
def qm_Mod_noBid : am_M := (RX10, yX10_noBid, cX10_noBid, 2, some .boolean, 2, 1, 0)
def qm_Mod_record : am_M := (RX10, yX10_record, cX10_record, 2, none, 1, 0, 0)
def qm_Mod_undo : am_M := (RX10, yX10_undo, cX10_undo, 2, some .int, 1, 0, 0)
def qm_Mod_bandAt : am_M := (RX10, yX10_bandAt, cX10_bandAt, 3, some .int, 2, 0, 0)
def qm_Mod_setBand : am_M := (RX10, yX10_setBand, cX10_setBand, 4, some .int, 3, 1, 0)
def qm_Mod_removeBand : am_M := (RX10, yX10_removeBand, cX10_removeBand, 4, some .int, 2, 1, 0)
def qm_Mod_bandOf : am_M := (RX10, yX10_bandOf, cX10_bandOf, 3, some .int, 2, 0, 0)
def qm_Mod_floorOf : am_M := (RX10, yX10_floorOf, cX10_floorOf, 3, some .int, 2, 1, 0)
def qm_Mod_nextOf : am_M := (RX10, yX10_nextOf, cX10_nextOf, 4, some .int, 2, 2, 0)
def qm_Mod_ceilingOf : am_M := (RX10, yX10_ceilingOf, cX10_ceilingOf, 2, some .int, 2, 3, 0)
def qm_Mod_valid : am_M := (RX10, yX10_valid, cX10_valid, 3, some .int, 3, 4, 0)
def qm_Mod_addLot : am_M := (RX10, yX10_addLot, cX10_addLot, 5, some .int, 4, 1, 0)
def qm_Mod_setReserve : am_M := (RX10, yX10_setReserve, cX10_setReserve, 4, some .int, 3, 2, 0)
def qm_Mod_awayLots : am_M := (RX10, yX10_awayLots, cX10_awayLots, 3, some .int, 1, 1, 0)
def qm_Mod_withdrawLot : am_M := (RX10, yX10_withdrawLot, cX10_withdrawLot, 4, some .int, 3, 2, 0)
def qm_Mod_addBidder : am_M := (RX10, yX10_addBidder, cX10_addBidder, 2, some .int, 2, 1, 0)
def qm_Mod_setLimit : am_M := (RX10, yX10_setLimit, cX10_setLimit, 4, some .int, 3, 2, 0)
def qm_Mod_set : am_M := (RX10, yX10_set, cX10_set, 4, some .int, 3, 1, 0)
def qm_Mod_putBid : am_M := (RX10, yX10_putBid, cX10_putBid, 7, none, 6, 1, 0)
def qm_Mod_isMark : am_M := (RX10, yX10_isMark, cX10_isMark, 1, some .boolean, 1, 1, 1)
def qm_Mod_bid : am_M := (RX10, yX10_bid, cX10_bid, 6, some .int, 6, 2, 0)
def qm_Mod_withdrawBid : am_M := (RX10, yX10_withdrawBid, cX10_withdrawBid, 2, some .int, 2, 2, 0)
def qm_Mod_type : am_M := (RX10, yX10_type, cX10_type, 2, some .int, 2, 0, 0)
def qm_Mod_clearText : am_M := (RX10, yX10_clearText, cX10_clearText, 2, some .int, 1, 0, 0)
def qm_Mod_isAt : am_M := (RX10, yX10_isAt, cX10_isAt, 3, some .boolean, 3, 0, 0)
def qm_Mod_number : am_M := (RX10, yX10_number, cX10_number, 6, some .int, 4, 1, 0)
def qm_Mod_sign : am_M := (RX10, yX10_sign, cX10_sign, 2, none, 2, 1, 0)
def qm_Mod_readAlternative : am_M := (RX10, yX10_readAlternative, cX10_readAlternative, 4, none, 2, 2, 0)
def qm_Mod_readLetter : am_M := (RX10, yX10_readLetter, cX10_readLetter, 2, none, 1, 3, 0)
def qm_Mod_hasOthers : am_M := (RX10, yX10_hasOthers, cX10_hasOthers, 4, some .boolean, 2, 0, 0)
def qm_Mod_letter : am_M := (RX10, yX10_letter, cX10_letter, 6, some .int, 3, 4, 0)
def qm_Mod_worthOf : am_M := (RX10, yX10_worthOf, cX10_worthOf, 3, some .int, 2, 2, 0)
def qm_Mod_isLate : am_M := (RX10, yX10_isLate, cX10_isLate, 2, some .boolean, 2, 0, 0)
def qm_Mod_isServed : am_M := (RX10, yX10_isServed, cX10_isServed, 5, some .boolean, 2, 0, 0)
def qm_Mod_counts : am_M := (RX10, yX10_counts, cX10_counts, 2, some .boolean, 2, 4, 0)
def qm_Mod_isAhead : am_M := (RX10, yX10_isAhead, cX10_isAhead, 3, some .boolean, 3, 3, 0)
def qm_Mod_asking : am_M := (RX10, yX10_asking, cX10_asking, 2, some .int, 2, 4, 0)
def qm_Mod_findBest : am_M := (RX10, yX10_findBest, cX10_findBest, 4, none, 2, 5, 0)
def qm_Mod_placeOf : am_M := (RX10, yX10_placeOf, cX10_placeOf, 6, some .int, 3, 4, 0)
def qm_Mod_rankedAt : am_M := (RX10, yX10_rankedAt, cX10_rankedAt, 5, some .int, 3, 5, 0)
def qm_Mod_sell : am_M := (RX10, yX10_sell, cX10_sell, 3, none, 2, 6, 0)
def qm_Mod_hold : am_M := (RX10, yX10_hold, cX10_hold, 3, none, 1, 7, 0)
def qm_Mod_sale : am_M := (RX10, yX10_sale, cX10_sale, 3, some .int, 3, 8, 0)
def qm_Mod_ranked : am_M := (RX10, yX10_ranked, cX10_ranked, 3, some .int, 3, 8, 0)
def qm_Mod_fate : am_M := (RX10, yX10_fate, cX10_fate, 3, some .int, 2, 8, 0)
def qm_Mod_needed : am_M := (RX10, yX10_needed, cX10_needed, 8, some .int, 4, 8, 0)
def qm_Mod_lot : am_M := (RX10, yX10_lot, cX10_lot, 5, some .int, 3, 5, 0)
def qm_Mod_bidOf : am_M := (RX10, yX10_bidOf, cX10_bidOf, 3, some .int, 3, 8, 0)
def qm_Mod_part : am_M := (RX10, yX10_part, cX10_part, 3, some .int, 3, 0, 0)
def qm_Mod_bidder : am_M := (RX10, yX10_bidder, cX10_bidder, 6, some .int, 3, 8, 0)
def qm_Mod_isSold : am_M := (RX10, yX10_isSold, cX10_isSold, 2, some .boolean, 2, 0, 0)
def qm_Mod_feeFor : am_M := (RX10, yX10_feeFor, cX10_feeFor, 2, some .int, 2, 1, 0)
def qm_Mod_seller : am_M := (RX10, yX10_seller, cX10_seller, 6, some .long, 3, 8, 0)
def qm_Mod_account : am_M := (RX10, yX10_account, cX10_account, 12, some .long, 2, 8, 0)
def qm_Mod_count : am_M := (RX10, yX10_count, cX10_count, 6, some .int, 2, 8, 0)
def qm_Bids_init : am_M := (RX0, yX0_init, cX0_init, 1, none, 1, 2, 2)
def qm_Bids_copy : am_M := (RX0, yX0_copy, cX0_copy, 2, none, 2, 2, 0)
def qm_Bids_add : am_M := (RX0, yX0_add, cX0_add, 6, some .int, 6, 1, 0)
def qm_Bids_freeGroup : am_M := (RX0, yX0_freeGroup, cX0_freeGroup, 4, some .int, 2, 1, 0)
def qm_History_init : am_M := (RX1, yX1_init, cX1_init, 2, none, 1, 4, 2)
def qm_History_keep : am_M := (RX1, yX1_keep, cX1_keep, 3, none, 2, 4, 0)
def qm_History_restore : am_M := (RX1, yX1_restore, cX1_restore, 3, none, 2, 4, 0)
def qm_History_dropOldest : am_M := (RX1, yX1_dropOldest, cX1_dropOldest, 3, none, 1, 0, 0)
def qm_Letter_init : am_M := (RX2, yX2_init, cX2_init, 1, none, 1, 2, 2)
def qm_Letter_append : am_M := (RX2, yX2_append, cX2_append, 2, some .boolean, 2, 0, 0)
def qm_Letter_isInOneWish : am_M := (RX2, yX2_isInOneWish, cX2_isInOneWish, 3, some .boolean, 3, 1, 0)
def qm_Letter_read : am_M := (RX2, yX2_read, cX2_read, 6, some .int, 2, 3, 0)
def qm_Letter_startNumber : am_M := (RX2, yX2_startNumber, cX2_startNumber, 1, none, 1, 0, 0)
def qm_Letter_readDigit : am_M := (RX2, yX2_readDigit, cX2_readDigit, 4, some .int, 3, 0, 0)
def qm_Letter_readMark : am_M := (RX2, yX2_readMark, cX2_readMark, 5, some .int, 4, 2, 0)
def qm_Letter_readEnd : am_M := (RX2, yX2_readEnd, cX2_readEnd, 2, some .int, 2, 2, 0)
def qm_Letter_isTooGreat : am_M := (RX2, yX2_isTooGreat, cX2_isTooGreat, 2, some .boolean, 2, 0, 0)
def qm_Letter_takeNumber : am_M := (RX2, yX2_takeNumber, cX2_takeNumber, 1, none, 1, 1, 0)
def qm_Lots_init : am_M := (RX3, yX3_init, cX3_init, 1, none, 1, 2, 2)
def qm_Lots_copy : am_M := (RX3, yX3_copy, cX3_copy, 2, none, 2, 2, 0)
def qm_Lots_add : am_M := (RX3, yX3_add, cX3_add, 4, some .int, 4, 1, 0)
def qm_Money_init : am_M := (RX4, yX4_init, cX4_init, 3, none, 3, 1, 2)
def qm_Money_paidBy : am_M := (RX4, yX4_paidBy, cX4_paidBy, 4, some .int, 2, 3, 0)
def qm_Money_total : am_M := (RX4, yX4_total, cX4_total, 6, some .long, 3, 3, 0)
def qm_Money_payments : am_M := (RX4, yX4_payments, cX4_payments, 1, some .long, 1, 4, 0)
def qm_Money_receipts : am_M := (RX4, yX4_receipts, cX4_receipts, 2, some .long, 2, 4, 0)
def qm_Money_part : am_M := (RX4, yX4_part, cX4_part, 4, some .int, 3, 2, 0)
def qm_Money_owesFee : am_M := (RX4, yX4_owesFee, cX4_owesFee, 3, some .boolean, 2, 1, 0)
def qm_Row_init : am_M := (RX5, yX5_init, cX5_init, 2, none, 2, 1, 2)
def qm_Row_get : am_M := (RX5, yX5_get, cX5_get, 2, some .int, 2, 0, 0)
def qm_Row_put : am_M := (RX5, yX5_put, cX5_put, 3, none, 3, 0, 0)
def qm_Row_copy : am_M := (RX5, yX5_copy, cX5_copy, 2, none, 2, 1, 0)
def qm_Row_sum : am_M := (RX5, yX5_sum, cX5_sum, 4, some .int, 2, 0, 0)
def qm_Row_countOf : am_M := (RX5, yX5_countOf, cX5_countOf, 5, some .int, 3, 0, 0)
def qm_Sale_init : am_M := (RX6, yX6_init, cX6_init, 2, none, 2, 2, 2)
def qm_Sale_hold : am_M := (RX6, yX6_hold, cX6_hold, 2, none, 1, 5, 0)
def qm_Sale_bidAt : am_M := (RX6, yX6_bidAt, cX6_bidAt, 3, some .int, 3, 1, 0)
def qm_Sale_leftBefore : am_M := (RX6, yX6_leftBefore, cX6_leftBefore, 5, some .int, 3, 1, 0)
def qm_Sale_soldLots : am_M := (RX6, yX6_soldLots, cX6_soldLots, 5, some .int, 2, 1, 0)
def qm_Sale_judgeBids : am_M := (RX6, yX6_judgeBids, cX6_judgeBids, 3, none, 2, 4, 0)
def qm_Sale_judge : am_M := (RX6, yX6_judge, cX6_judge, 6, none, 3, 3, 0)
def qm_Sale_reasonAgainst : am_M := (RX6, yX6_reasonAgainst, cX6_reasonAgainst, 3, some .int, 3, 2, 0)
def qm_Sale_hasAlternativeBought : am_M := (RX6, yX6_hasAlternativeBought, cX6_hasAlternativeBought, 7, some .boolean, 3, 1, 0)
def qm_Sale_chooseBetween : am_M := (RX6, yX6_chooseBetween, cX6_chooseBetween, 3, none, 3, 1, 0)
def qm_Sale_orderBids : am_M := (RX6, yX6_orderBids, cX6_orderBids, 4, none, 2, 3, 0)
def qm_Sale_insert : am_M := (RX6, yX6_insert, cX6_insert, 5, none, 3, 2, 0)
def qm_Sale_goesBefore : am_M := (RX6, yX6_goesBefore, cX6_goesBefore, 7, some .boolean, 3, 1, 0)
def qm_Sale_sell : am_M := (RX6, yX6_sell, cX6_sell, 5, none, 2, 4, 0)
def qm_Sale_stateOf : am_M := (RX6, yX6_stateOf, cX6_stateOf, 3, some .int, 3, 1, 0)
def qm_Sale_priceOf : am_M := (RX6, yX6_priceOf, cX6_priceOf, 4, some .int, 2, 3, 0)
def qm_Sale_leastAmount : am_M := (RX6, yX6_leastAmount, cX6_leastAmount, 6, some .int, 4, 4, 0)
def qm_Sale_leastWorth : am_M := (RX6, yX6_leastWorth, cX6_leastWorth, 9, some .int, 4, 3, 0)
def qm_State_init : am_M := (RX7, yX7_init, cX7_init, 1, none, 1, 3, 2)
def qm_State_copy : am_M := (RX7, yX7_copy, cX7_copy, 2, none, 2, 3, 0)
def qm_State_askingPrice : am_M := (RX7, yX7_askingPrice, cX7_askingPrice, 2, some .int, 2, 4, 0)
def qm_State_isLate : am_M := (RX7, yX7_isLate, cX7_isLate, 2, some .boolean, 2, 1, 0)
def qm_State_lateBids : am_M := (RX7, yX7_lateBids, cX7_lateBids, 3, some .int, 1, 2, 0)
def qm_Steps_init : am_M := (RX8, yX8_init, cX8_init, 1, none, 1, 2, 2)
def qm_Steps_copy : am_M := (RX8, yX8_copy, cX8_copy, 2, none, 2, 2, 0)
def qm_Steps_hasBand : am_M := (RX8, yX8_hasBand, cX8_hasBand, 2, some .boolean, 2, 2, 0)
def qm_Steps_hasRoomFor : am_M := (RX8, yX8_hasRoomFor, cX8_hasRoomFor, 2, some .boolean, 2, 2, 0)
def qm_Steps_putBand : am_M := (RX8, yX8_putBand, cX8_putBand, 4, none, 3, 2, 0)
def qm_Steps_dropBand : am_M := (RX8, yX8_dropBand, cX8_dropBand, 3, none, 2, 2, 0)
def qm_Steps_placeOf : am_M := (RX8, yX8_placeOf, cX8_placeOf, 3, some .int, 2, 1, 0)
def qm_Steps_bandOf : am_M := (RX8, yX8_bandOf, cX8_bandOf, 5, some .int, 2, 1, 0)
def qm_Steps_floor : am_M := (RX8, yX8_floor, cX8_floor, 5, some .int, 2, 2, 0)
def qm_Steps_ceiling : am_M := (RX8, yX8_ceiling, cX8_ceiling, 2, some .int, 2, 3, 0)
def qm_Steps_next : am_M := (RX8, yX8_next, cX8_next, 8, some .int, 2, 2, 0)
def qm_Pa_init : am_M := (RX9, yX9_init, cX9_init, 1, none, 1, 5, 2)
def qm_Pa_setBand : am_M := (RX9, yX9_setBand, cX9_setBand, 3, some .int, 3, 6, 0)
def qm_Pa_removeBand : am_M := (RX9, yX9_removeBand, cX9_removeBand, 2, some .int, 2, 6, 0)
def qm_Pa_valid : am_M := (RX9, yX9_valid, cX9_valid, 3, some .int, 3, 4, 0)
def qm_Pa_addLot : am_M := (RX9, yX9_addLot, cX9_addLot, 4, some .int, 4, 6, 0)
def qm_Pa_setReserve : am_M := (RX9, yX9_setReserve, cX9_setReserve, 4, some .int, 3, 6, 0)
def qm_Pa_withdrawLot : am_M := (RX9, yX9_withdrawLot, cX9_withdrawLot, 4, some .int, 3, 6, 0)
def qm_Pa_addBidder : am_M := (RX9, yX9_addBidder, cX9_addBidder, 2, some .int, 2, 6, 0)
def qm_Pa_setLimit : am_M := (RX9, yX9_setLimit, cX9_setLimit, 4, some .int, 3, 6, 0)
def qm_Pa_set : am_M := (RX9, yX9_set, cX9_set, 4, some .int, 3, 6, 0)
def qm_Pa_bid : am_M := (RX9, yX9_bid, cX9_bid, 6, some .int, 6, 6, 0)
def qm_Pa_withdrawBid : am_M := (RX9, yX9_withdrawBid, cX9_withdrawBid, 2, some .int, 2, 6, 0)
def qm_Pa_type : am_M := (RX9, yX9_type, cX9_type, 2, some .int, 2, 1, 0)
def qm_Pa_clearText : am_M := (RX9, yX9_clearText, cX9_clearText, 2, some .int, 1, 0, 0)
def qm_Pa_letter : am_M := (RX9, yX9_letter, cX9_letter, 6, some .int, 3, 6, 0)
def qm_Pa_undo : am_M := (RX9, yX9_undo, cX9_undo, 1, some .int, 1, 5, 0)
def qm_Pa_sale : am_M := (RX9, yX9_sale, cX9_sale, 3, some .int, 3, 6, 0)
def qm_Pa_ranked : am_M := (RX9, yX9_ranked, cX9_ranked, 3, some .int, 3, 6, 0)
def qm_Pa_fate : am_M := (RX9, yX9_fate, cX9_fate, 2, some .int, 2, 6, 0)
def qm_Pa_needed : am_M := (RX9, yX9_needed, cX9_needed, 4, some .int, 4, 6, 0)
def qm_Pa_lot : am_M := (RX9, yX9_lot, cX9_lot, 3, some .int, 3, 5, 0)
def qm_Pa_bidOf : am_M := (RX9, yX9_bidOf, cX9_bidOf, 3, some .int, 3, 6, 0)
def qm_Pa_bidder : am_M := (RX9, yX9_bidder, cX9_bidder, 3, some .int, 3, 6, 0)
def qm_Pa_seller : am_M := (RX9, yX9_seller, cX9_seller, 3, some .long, 3, 6, 0)
def qm_Pa_account : am_M := (RX9, yX9_account, cX9_account, 2, some .long, 2, 6, 0)
def qm_Pa_count : am_M := (RX9, yX9_count, cX9_count, 2, some .int, 2, 6, 0)
def qm_Pa_isOutside : am_M := (RX9, yX9_isOutside, cX9_isOutside, 3, some .boolean, 3, 0, 1)
def qm_Pa_mostOfSetting : am_M := (RX9, yX9_mostOfSetting, cX9_mostOfSetting, 1, some .int, 1, 0, 1)
def qm_Pa_isLot : am_M := (RX9, yX9_isLot, cX9_isLot, 2, some .boolean, 2, 0, 0)
def qm_Pa_isBidder : am_M := (RX9, yX9_isBidder, cX9_isBidder, 2, some .boolean, 2, 0, 0)
def qm_Pa_isBid : am_M := (RX9, yX9_isBid, cX9_isBid, 2, some .boolean, 2, 0, 0)
def qm_Pa_beginAct : am_M := (RX9, yX9_beginAct, cX9_beginAct, 1, none, 1, 5, 0)
def qm_law : am_M := (RL, x, code, 4, some .boolean, 1, 9, 1)
def am_N : Nat := 166
def am_meth (i : Nat) : am_M := bif Nat.blt i 83 then (bif Nat.blt i 41 then (bif Nat.blt i 20 then (bif Nat.blt i 10 then (bif Nat.blt i 5 then (bif Nat.blt i 2 then (bif Nat.blt i 1 then (qm_Mod_init) else (qm_Mod_in)) else (bif Nat.blt i 3 then (qm_Mod_lost) else (bif Nat.blt i 4 then (qm_Mod_greater) else (qm_Mod_lesser)))) else (bif Nat.blt i 7 then (bif Nat.blt i 6 then (qm_Mod_lots) else (qm_Mod_bidders)) else (bif Nat.blt i 8 then (qm_Mod_bids) else (bif Nat.blt i 9 then (qm_Mod_noLot) else (qm_Mod_noBidder))))) else (bif Nat.blt i 15 then (bif Nat.blt i 12 then (bif Nat.blt i 11 then (qm_Mod_noBid) else (qm_Mod_record)) else (bif Nat.blt i 13 then (qm_Mod_undo) else (bif Nat.blt i 14 then (qm_Mod_bandAt) else (qm_Mod_setBand)))) else (bif Nat.blt i 17 then (bif Nat.blt i 16 then (qm_Mod_removeBand) else (qm_Mod_bandOf)) else (bif Nat.blt i 18 then (qm_Mod_floorOf) else (bif Nat.blt i 19 then (qm_Mod_nextOf) else (qm_Mod_ceilingOf)))))) else (bif Nat.blt i 30 then (bif Nat.blt i 25 then (bif Nat.blt i 22 then (bif Nat.blt i 21 then (qm_Mod_valid) else (qm_Mod_addLot)) else (bif Nat.blt i 23 then (qm_Mod_setReserve) else (bif Nat.blt i 24 then (qm_Mod_awayLots) else (qm_Mod_withdrawLot)))) else (bif Nat.blt i 27 then (bif Nat.blt i 26 then (qm_Mod_addBidder) else (qm_Mod_setLimit)) else (bif Nat.blt i 28 then (qm_Mod_set) else (bif Nat.blt i 29 then (qm_Mod_putBid) else (qm_Mod_isMark))))) else (bif Nat.blt i 35 then (bif Nat.blt i 32 then (bif Nat.blt i 31 then (qm_Mod_bid) else (qm_Mod_withdrawBid)) else (bif Nat.blt i 33 then (qm_Mod_type) else (bif Nat.blt i 34 then (qm_Mod_clearText) else (qm_Mod_isAt)))) else (bif Nat.blt i 38 then (bif Nat.blt i 36 then (qm_Mod_number) else (bif Nat.blt i 37 then (qm_Mod_sign) else (qm_Mod_readAlternative))) else (bif Nat.blt i 39 then (qm_Mod_readLetter) else (bif Nat.blt i 40 then (qm_Mod_hasOthers) else (qm_Mod_letter))))))) else (bif Nat.blt i 62 then (bif Nat.blt i 51 then (bif Nat.blt i 46 then (bif Nat.blt i 43 then (bif Nat.blt i 42 then (qm_Mod_worthOf) else (qm_Mod_isLate)) else (bif Nat.blt i 44 then (qm_Mod_isServed) else (bif Nat.blt i 45 then (qm_Mod_counts) else (qm_Mod_isAhead)))) else (bif Nat.blt i 48 then (bif Nat.blt i 47 then (qm_Mod_asking) else (qm_Mod_findBest)) else (bif Nat.blt i 49 then (qm_Mod_placeOf) else (bif Nat.blt i 50 then (qm_Mod_rankedAt) else (qm_Mod_sell))))) else (bif Nat.blt i 56 then (bif Nat.blt i 53 then (bif Nat.blt i 52 then (qm_Mod_hold) else (qm_Mod_sale)) else (bif Nat.blt i 54 then (qm_Mod_ranked) else (bif Nat.blt i 55 then (qm_Mod_fate) else (qm_Mod_needed)))) else (bif Nat.blt i 59 then (bif Nat.blt i 57 then (qm_Mod_lot) else (bif Nat.blt i 58 then (qm_Mod_bidOf) else (qm_Mod_part))) else (bif Nat.blt i 60 then (qm_Mod_bidder) else (bif Nat.blt i 61 then (qm_Mod_isSold) else (qm_Mod_feeFor)))))) else (bif Nat.blt i 72 then (bif Nat.blt i 67 then (bif Nat.blt i 64 then (bif Nat.blt i 63 then (qm_Mod_seller) else (qm_Mod_account)) else (bif Nat.blt i 65 then (qm_Mod_count) else (bif Nat.blt i 66 then (qm_Bids_init) else (qm_Bids_copy)))) else (bif Nat.blt i 69 then (bif Nat.blt i 68 then (qm_Bids_add) else (qm_Bids_freeGroup)) else (bif Nat.blt i 70 then (qm_History_init) else (bif Nat.blt i 71 then (qm_History_keep) else (qm_History_restore))))) else (bif Nat.blt i 77 then (bif Nat.blt i 74 then (bif Nat.blt i 73 then (qm_History_dropOldest) else (qm_Letter_init)) else (bif Nat.blt i 75 then (qm_Letter_append) else (bif Nat.blt i 76 then (qm_Letter_isInOneWish) else (qm_Letter_read)))) else (bif Nat.blt i 80 then (bif Nat.blt i 78 then (qm_Letter_startNumber) else (bif Nat.blt i 79 then (qm_Letter_readDigit) else (qm_Letter_readMark))) else (bif Nat.blt i 81 then (qm_Letter_readEnd) else (bif Nat.blt i 82 then (qm_Letter_isTooGreat) else (qm_Letter_takeNumber)))))))) else (bif Nat.blt i 124 then (bif Nat.blt i 103 then (bif Nat.blt i 93 then (bif Nat.blt i 88 then (bif Nat.blt i 85 then (bif Nat.blt i 84 then (qm_Lots_init) else (qm_Lots_copy)) else (bif Nat.blt i 86 then (qm_Lots_add) else (bif Nat.blt i 87 then (qm_Money_init) else (qm_Money_paidBy)))) else (bif Nat.blt i 90 then (bif Nat.blt i 89 then (qm_Money_total) else (qm_Money_payments)) else (bif Nat.blt i 91 then (qm_Money_receipts) else (bif Nat.blt i 92 then (qm_Money_part) else (qm_Money_owesFee))))) else (bif Nat.blt i 98 then (bif Nat.blt i 95 then (bif Nat.blt i 94 then (qm_Row_init) else (qm_Row_get)) else (bif Nat.blt i 96 then (qm_Row_put) else (bif Nat.blt i 97 then (qm_Row_copy) else (qm_Row_sum)))) else (bif Nat.blt i 100 then (bif Nat.blt i 99 then (qm_Row_countOf) else (qm_Sale_init)) else (bif Nat.blt i 101 then (qm_Sale_hold) else (bif Nat.blt i 102 then (qm_Sale_bidAt) else (qm_Sale_leftBefore)))))) else (bif Nat.blt i 113 then (bif Nat.blt i 108 then (bif Nat.blt i 105 then (bif Nat.blt i 104 then (qm_Sale_soldLots) else (qm_Sale_judgeBids)) else (bif Nat.blt i 106 then (qm_Sale_judge) else (bif Nat.blt i 107 then (qm_Sale_reasonAgainst) else (qm_Sale_hasAlternativeBought)))) else (bif Nat.blt i 110 then (bif Nat.blt i 109 then (qm_Sale_chooseBetween) else (qm_Sale_orderBids)) else (bif Nat.blt i 111 then (qm_Sale_insert) else (bif Nat.blt i 112 then (qm_Sale_goesBefore) else (qm_Sale_sell))))) else (bif Nat.blt i 118 then (bif Nat.blt i 115 then (bif Nat.blt i 114 then (qm_Sale_stateOf) else (qm_Sale_priceOf)) else (bif Nat.blt i 116 then (qm_Sale_leastAmount) else (bif Nat.blt i 117 then (qm_Sale_leastWorth) else (qm_State_init)))) else (bif Nat.blt i 121 then (bif Nat.blt i 119 then (qm_State_copy) else (bif Nat.blt i 120 then (qm_State_askingPrice) else (qm_State_isLate))) else (bif Nat.blt i 122 then (qm_State_lateBids) else (bif Nat.blt i 123 then (qm_Steps_init) else (qm_Steps_copy))))))) else (bif Nat.blt i 145 then (bif Nat.blt i 134 then (bif Nat.blt i 129 then (bif Nat.blt i 126 then (bif Nat.blt i 125 then (qm_Steps_hasBand) else (qm_Steps_hasRoomFor)) else (bif Nat.blt i 127 then (qm_Steps_putBand) else (bif Nat.blt i 128 then (qm_Steps_dropBand) else (qm_Steps_placeOf)))) else (bif Nat.blt i 131 then (bif Nat.blt i 130 then (qm_Steps_bandOf) else (qm_Steps_floor)) else (bif Nat.blt i 132 then (qm_Steps_ceiling) else (bif Nat.blt i 133 then (qm_Steps_next) else (qm_Pa_init))))) else (bif Nat.blt i 139 then (bif Nat.blt i 136 then (bif Nat.blt i 135 then (qm_Pa_setBand) else (qm_Pa_removeBand)) else (bif Nat.blt i 137 then (qm_Pa_valid) else (bif Nat.blt i 138 then (qm_Pa_addLot) else (qm_Pa_setReserve)))) else (bif Nat.blt i 142 then (bif Nat.blt i 140 then (qm_Pa_withdrawLot) else (bif Nat.blt i 141 then (qm_Pa_addBidder) else (qm_Pa_setLimit))) else (bif Nat.blt i 143 then (qm_Pa_set) else (bif Nat.blt i 144 then (qm_Pa_bid) else (qm_Pa_withdrawBid)))))) else (bif Nat.blt i 155 then (bif Nat.blt i 150 then (bif Nat.blt i 147 then (bif Nat.blt i 146 then (qm_Pa_type) else (qm_Pa_clearText)) else (bif Nat.blt i 148 then (qm_Pa_letter) else (bif Nat.blt i 149 then (qm_Pa_undo) else (qm_Pa_sale)))) else (bif Nat.blt i 152 then (bif Nat.blt i 151 then (qm_Pa_ranked) else (qm_Pa_fate)) else (bif Nat.blt i 153 then (qm_Pa_needed) else (bif Nat.blt i 154 then (qm_Pa_lot) else (qm_Pa_bidOf))))) else (bif Nat.blt i 160 then (bif Nat.blt i 157 then (bif Nat.blt i 156 then (qm_Pa_bidder) else (qm_Pa_seller)) else (bif Nat.blt i 158 then (qm_Pa_account) else (bif Nat.blt i 159 then (qm_Pa_count) else (qm_Pa_isOutside)))) else (bif Nat.blt i 163 then (bif Nat.blt i 161 then (qm_Pa_mostOfSetting) else (bif Nat.blt i 162 then (qm_Pa_isLot) else (qm_Pa_isBidder))) else (bif Nat.blt i 164 then (qm_Pa_isBid) else (bif Nat.blt i 165 then (qm_Pa_beginAct) else (qm_law))))))))
def am_maxl (i : Nat) : Nat := bif Nat.blt i 83 then (bif Nat.blt i 41 then (bif Nat.blt i 20 then (bif Nat.blt i 10 then (bif Nat.blt i 5 then (bif Nat.blt i 2 then (bif Nat.blt i 1 then (1) else (3)) else (bif Nat.blt i 3 then (0) else (bif Nat.blt i 4 then (2) else (2)))) else (bif Nat.blt i 7 then (bif Nat.blt i 6 then (1) else (1)) else (bif Nat.blt i 8 then (1) else (bif Nat.blt i 9 then (2) else (2))))) else (bif Nat.blt i 15 then (bif Nat.blt i 12 then (bif Nat.blt i 11 then (2) else (2)) else (bif Nat.blt i 13 then (2) else (bif Nat.blt i 14 then (3) else (4)))) else (bif Nat.blt i 17 then (bif Nat.blt i 16 then (4) else (3)) else (bif Nat.blt i 18 then (3) else (bif Nat.blt i 19 then (4) else (2)))))) else (bif Nat.blt i 30 then (bif Nat.blt i 25 then (bif Nat.blt i 22 then (bif Nat.blt i 21 then (3) else (5)) else (bif Nat.blt i 23 then (4) else (bif Nat.blt i 24 then (3) else (4)))) else (bif Nat.blt i 27 then (bif Nat.blt i 26 then (2) else (4)) else (bif Nat.blt i 28 then (4) else (bif Nat.blt i 29 then (7) else (1))))) else (bif Nat.blt i 35 then (bif Nat.blt i 32 then (bif Nat.blt i 31 then (6) else (2)) else (bif Nat.blt i 33 then (2) else (bif Nat.blt i 34 then (2) else (3)))) else (bif Nat.blt i 38 then (bif Nat.blt i 36 then (6) else (bif Nat.blt i 37 then (2) else (4))) else (bif Nat.blt i 39 then (2) else (bif Nat.blt i 40 then (4) else (6))))))) else (bif Nat.blt i 62 then (bif Nat.blt i 51 then (bif Nat.blt i 46 then (bif Nat.blt i 43 then (bif Nat.blt i 42 then (3) else (2)) else (bif Nat.blt i 44 then (5) else (bif Nat.blt i 45 then (2) else (3)))) else (bif Nat.blt i 48 then (bif Nat.blt i 47 then (2) else (4)) else (bif Nat.blt i 49 then (6) else (bif Nat.blt i 50 then (5) else (3))))) else (bif Nat.blt i 56 then (bif Nat.blt i 53 then (bif Nat.blt i 52 then (3) else (3)) else (bif Nat.blt i 54 then (3) else (bif Nat.blt i 55 then (3) else (8)))) else (bif Nat.blt i 59 then (bif Nat.blt i 57 then (5) else (bif Nat.blt i 58 then (3) else (3))) else (bif Nat.blt i 60 then (6) else (bif Nat.blt i 61 then (2) else (2)))))) else (bif Nat.blt i 72 then (bif Nat.blt i 67 then (bif Nat.blt i 64 then (bif Nat.blt i 63 then (6) else (12)) else (bif Nat.blt i 65 then (6) else (bif Nat.blt i 66 then (1) else (2)))) else (bif Nat.blt i 69 then (bif Nat.blt i 68 then (6) else (4)) else (bif Nat.blt i 70 then (2) else (bif Nat.blt i 71 then (3) else (3))))) else (bif Nat.blt i 77 then (bif Nat.blt i 74 then (bif Nat.blt i 73 then (3) else (1)) else (bif Nat.blt i 75 then (2) else (bif Nat.blt i 76 then (3) else (6)))) else (bif Nat.blt i 80 then (bif Nat.blt i 78 then (1) else (bif Nat.blt i 79 then (4) else (5))) else (bif Nat.blt i 81 then (2) else (bif Nat.blt i 82 then (2) else (1)))))))) else (bif Nat.blt i 124 then (bif Nat.blt i 103 then (bif Nat.blt i 93 then (bif Nat.blt i 88 then (bif Nat.blt i 85 then (bif Nat.blt i 84 then (1) else (2)) else (bif Nat.blt i 86 then (4) else (bif Nat.blt i 87 then (3) else (4)))) else (bif Nat.blt i 90 then (bif Nat.blt i 89 then (6) else (1)) else (bif Nat.blt i 91 then (2) else (bif Nat.blt i 92 then (4) else (3))))) else (bif Nat.blt i 98 then (bif Nat.blt i 95 then (bif Nat.blt i 94 then (2) else (2)) else (bif Nat.blt i 96 then (3) else (bif Nat.blt i 97 then (2) else (4)))) else (bif Nat.blt i 100 then (bif Nat.blt i 99 then (5) else (2)) else (bif Nat.blt i 101 then (2) else (bif Nat.blt i 102 then (3) else (5)))))) else (bif Nat.blt i 113 then (bif Nat.blt i 108 then (bif Nat.blt i 105 then (bif Nat.blt i 104 then (5) else (3)) else (bif Nat.blt i 106 then (6) else (bif Nat.blt i 107 then (3) else (7)))) else (bif Nat.blt i 110 then (bif Nat.blt i 109 then (3) else (4)) else (bif Nat.blt i 111 then (5) else (bif Nat.blt i 112 then (7) else (5))))) else (bif Nat.blt i 118 then (bif Nat.blt i 115 then (bif Nat.blt i 114 then (3) else (4)) else (bif Nat.blt i 116 then (6) else (bif Nat.blt i 117 then (9) else (1)))) else (bif Nat.blt i 121 then (bif Nat.blt i 119 then (2) else (bif Nat.blt i 120 then (2) else (2))) else (bif Nat.blt i 122 then (3) else (bif Nat.blt i 123 then (1) else (2))))))) else (bif Nat.blt i 145 then (bif Nat.blt i 134 then (bif Nat.blt i 129 then (bif Nat.blt i 126 then (bif Nat.blt i 125 then (2) else (2)) else (bif Nat.blt i 127 then (4) else (bif Nat.blt i 128 then (3) else (3)))) else (bif Nat.blt i 131 then (bif Nat.blt i 130 then (5) else (5)) else (bif Nat.blt i 132 then (2) else (bif Nat.blt i 133 then (8) else (1))))) else (bif Nat.blt i 139 then (bif Nat.blt i 136 then (bif Nat.blt i 135 then (3) else (2)) else (bif Nat.blt i 137 then (3) else (bif Nat.blt i 138 then (4) else (4)))) else (bif Nat.blt i 142 then (bif Nat.blt i 140 then (4) else (bif Nat.blt i 141 then (2) else (4))) else (bif Nat.blt i 143 then (4) else (bif Nat.blt i 144 then (6) else (2)))))) else (bif Nat.blt i 155 then (bif Nat.blt i 150 then (bif Nat.blt i 147 then (bif Nat.blt i 146 then (2) else (2)) else (bif Nat.blt i 148 then (6) else (bif Nat.blt i 149 then (1) else (3)))) else (bif Nat.blt i 152 then (bif Nat.blt i 151 then (3) else (2)) else (bif Nat.blt i 153 then (4) else (bif Nat.blt i 154 then (3) else (3))))) else (bif Nat.blt i 160 then (bif Nat.blt i 157 then (bif Nat.blt i 156 then (3) else (3)) else (bif Nat.blt i 158 then (2) else (bif Nat.blt i 159 then (2) else (3)))) else (bif Nat.blt i 163 then (bif Nat.blt i 161 then (1) else (bif Nat.blt i 162 then (2) else (2))) else (bif Nat.blt i 164 then (2) else (bif Nat.blt i 165 then (1) else (4))))))))
def am_ret (i : Nat) : Option FieldType := bif Nat.blt i 83 then (bif Nat.blt i 41 then (bif Nat.blt i 20 then (bif Nat.blt i 10 then (bif Nat.blt i 5 then (bif Nat.blt i 2 then (bif Nat.blt i 1 then (none) else (some .boolean)) else (bif Nat.blt i 3 then (some .long) else (bif Nat.blt i 4 then (some .int) else (some .int)))) else (bif Nat.blt i 7 then (bif Nat.blt i 6 then (some .int) else (some .int)) else (bif Nat.blt i 8 then (some .int) else (bif Nat.blt i 9 then (some .boolean) else (some .boolean))))) else (bif Nat.blt i 15 then (bif Nat.blt i 12 then (bif Nat.blt i 11 then (some .boolean) else (none)) else (bif Nat.blt i 13 then (some .int) else (bif Nat.blt i 14 then (some .int) else (some .int)))) else (bif Nat.blt i 17 then (bif Nat.blt i 16 then (some .int) else (some .int)) else (bif Nat.blt i 18 then (some .int) else (bif Nat.blt i 19 then (some .int) else (some .int)))))) else (bif Nat.blt i 30 then (bif Nat.blt i 25 then (bif Nat.blt i 22 then (bif Nat.blt i 21 then (some .int) else (some .int)) else (bif Nat.blt i 23 then (some .int) else (bif Nat.blt i 24 then (some .int) else (some .int)))) else (bif Nat.blt i 27 then (bif Nat.blt i 26 then (some .int) else (some .int)) else (bif Nat.blt i 28 then (some .int) else (bif Nat.blt i 29 then (none) else (some .boolean))))) else (bif Nat.blt i 35 then (bif Nat.blt i 32 then (bif Nat.blt i 31 then (some .int) else (some .int)) else (bif Nat.blt i 33 then (some .int) else (bif Nat.blt i 34 then (some .int) else (some .boolean)))) else (bif Nat.blt i 38 then (bif Nat.blt i 36 then (some .int) else (bif Nat.blt i 37 then (none) else (none))) else (bif Nat.blt i 39 then (none) else (bif Nat.blt i 40 then (some .boolean) else (some .int))))))) else (bif Nat.blt i 62 then (bif Nat.blt i 51 then (bif Nat.blt i 46 then (bif Nat.blt i 43 then (bif Nat.blt i 42 then (some .int) else (some .boolean)) else (bif Nat.blt i 44 then (some .boolean) else (bif Nat.blt i 45 then (some .boolean) else (some .boolean)))) else (bif Nat.blt i 48 then (bif Nat.blt i 47 then (some .int) else (none)) else (bif Nat.blt i 49 then (some .int) else (bif Nat.blt i 50 then (some .int) else (none))))) else (bif Nat.blt i 56 then (bif Nat.blt i 53 then (bif Nat.blt i 52 then (none) else (some .int)) else (bif Nat.blt i 54 then (some .int) else (bif Nat.blt i 55 then (some .int) else (some .int)))) else (bif Nat.blt i 59 then (bif Nat.blt i 57 then (some .int) else (bif Nat.blt i 58 then (some .int) else (some .int))) else (bif Nat.blt i 60 then (some .int) else (bif Nat.blt i 61 then (some .boolean) else (some .int)))))) else (bif Nat.blt i 72 then (bif Nat.blt i 67 then (bif Nat.blt i 64 then (bif Nat.blt i 63 then (some .long) else (some .long)) else (bif Nat.blt i 65 then (some .int) else (bif Nat.blt i 66 then (none) else (none)))) else (bif Nat.blt i 69 then (bif Nat.blt i 68 then (some .int) else (some .int)) else (bif Nat.blt i 70 then (none) else (bif Nat.blt i 71 then (none) else (none))))) else (bif Nat.blt i 77 then (bif Nat.blt i 74 then (bif Nat.blt i 73 then (none) else (none)) else (bif Nat.blt i 75 then (some .boolean) else (bif Nat.blt i 76 then (some .boolean) else (some .int)))) else (bif Nat.blt i 80 then (bif Nat.blt i 78 then (none) else (bif Nat.blt i 79 then (some .int) else (some .int))) else (bif Nat.blt i 81 then (some .int) else (bif Nat.blt i 82 then (some .boolean) else (none)))))))) else (bif Nat.blt i 124 then (bif Nat.blt i 103 then (bif Nat.blt i 93 then (bif Nat.blt i 88 then (bif Nat.blt i 85 then (bif Nat.blt i 84 then (none) else (none)) else (bif Nat.blt i 86 then (some .int) else (bif Nat.blt i 87 then (none) else (some .int)))) else (bif Nat.blt i 90 then (bif Nat.blt i 89 then (some .long) else (some .long)) else (bif Nat.blt i 91 then (some .long) else (bif Nat.blt i 92 then (some .int) else (some .boolean))))) else (bif Nat.blt i 98 then (bif Nat.blt i 95 then (bif Nat.blt i 94 then (none) else (some .int)) else (bif Nat.blt i 96 then (none) else (bif Nat.blt i 97 then (none) else (some .int)))) else (bif Nat.blt i 100 then (bif Nat.blt i 99 then (some .int) else (none)) else (bif Nat.blt i 101 then (none) else (bif Nat.blt i 102 then (some .int) else (some .int)))))) else (bif Nat.blt i 113 then (bif Nat.blt i 108 then (bif Nat.blt i 105 then (bif Nat.blt i 104 then (some .int) else (none)) else (bif Nat.blt i 106 then (none) else (bif Nat.blt i 107 then (some .int) else (some .boolean)))) else (bif Nat.blt i 110 then (bif Nat.blt i 109 then (none) else (none)) else (bif Nat.blt i 111 then (none) else (bif Nat.blt i 112 then (some .boolean) else (none))))) else (bif Nat.blt i 118 then (bif Nat.blt i 115 then (bif Nat.blt i 114 then (some .int) else (some .int)) else (bif Nat.blt i 116 then (some .int) else (bif Nat.blt i 117 then (some .int) else (none)))) else (bif Nat.blt i 121 then (bif Nat.blt i 119 then (none) else (bif Nat.blt i 120 then (some .int) else (some .boolean))) else (bif Nat.blt i 122 then (some .int) else (bif Nat.blt i 123 then (none) else (none))))))) else (bif Nat.blt i 145 then (bif Nat.blt i 134 then (bif Nat.blt i 129 then (bif Nat.blt i 126 then (bif Nat.blt i 125 then (some .boolean) else (some .boolean)) else (bif Nat.blt i 127 then (none) else (bif Nat.blt i 128 then (none) else (some .int)))) else (bif Nat.blt i 131 then (bif Nat.blt i 130 then (some .int) else (some .int)) else (bif Nat.blt i 132 then (some .int) else (bif Nat.blt i 133 then (some .int) else (none))))) else (bif Nat.blt i 139 then (bif Nat.blt i 136 then (bif Nat.blt i 135 then (some .int) else (some .int)) else (bif Nat.blt i 137 then (some .int) else (bif Nat.blt i 138 then (some .int) else (some .int)))) else (bif Nat.blt i 142 then (bif Nat.blt i 140 then (some .int) else (bif Nat.blt i 141 then (some .int) else (some .int))) else (bif Nat.blt i 143 then (some .int) else (bif Nat.blt i 144 then (some .int) else (some .int)))))) else (bif Nat.blt i 155 then (bif Nat.blt i 150 then (bif Nat.blt i 147 then (bif Nat.blt i 146 then (some .int) else (some .int)) else (bif Nat.blt i 148 then (some .int) else (bif Nat.blt i 149 then (some .int) else (some .int)))) else (bif Nat.blt i 152 then (bif Nat.blt i 151 then (some .int) else (some .int)) else (bif Nat.blt i 153 then (some .int) else (bif Nat.blt i 154 then (some .int) else (some .int))))) else (bif Nat.blt i 160 then (bif Nat.blt i 157 then (bif Nat.blt i 156 then (some .int) else (some .long)) else (bif Nat.blt i 158 then (some .long) else (bif Nat.blt i 159 then (some .int) else (some .boolean)))) else (bif Nat.blt i 163 then (bif Nat.blt i 161 then (some .int) else (bif Nat.blt i 162 then (some .boolean) else (some .boolean))) else (bif Nat.blt i 164 then (some .boolean) else (bif Nat.blt i 165 then (none) else (some .boolean))))))))
/-- the class of which a receiver has to be, for a method that is called on an object -/
def am_rk (i : Nat) : Option Nat := bif Nat.blt i 83 then (bif Nat.blt i 41 then (bif Nat.blt i 20 then (bif Nat.blt i 10 then (bif Nat.blt i 5 then (bif Nat.blt i 2 then (bif Nat.blt i 1 then (some 10) else (none)) else (bif Nat.blt i 3 then (none) else (bif Nat.blt i 4 then (none) else (none)))) else (bif Nat.blt i 7 then (bif Nat.blt i 6 then (some 10) else (some 10)) else (bif Nat.blt i 8 then (some 10) else (bif Nat.blt i 9 then (some 10) else (some 10))))) else (bif Nat.blt i 15 then (bif Nat.blt i 12 then (bif Nat.blt i 11 then (some 10) else (some 10)) else (bif Nat.blt i 13 then (some 10) else (bif Nat.blt i 14 then (some 10) else (some 10)))) else (bif Nat.blt i 17 then (bif Nat.blt i 16 then (some 10) else (some 10)) else (bif Nat.blt i 18 then (some 10) else (bif Nat.blt i 19 then (some 10) else (some 10)))))) else (bif Nat.blt i 30 then (bif Nat.blt i 25 then (bif Nat.blt i 22 then (bif Nat.blt i 21 then (some 10) else (some 10)) else (bif Nat.blt i 23 then (some 10) else (bif Nat.blt i 24 then (some 10) else (some 10)))) else (bif Nat.blt i 27 then (bif Nat.blt i 26 then (some 10) else (some 10)) else (bif Nat.blt i 28 then (some 10) else (bif Nat.blt i 29 then (some 10) else (none))))) else (bif Nat.blt i 35 then (bif Nat.blt i 32 then (bif Nat.blt i 31 then (some 10) else (some 10)) else (bif Nat.blt i 33 then (some 10) else (bif Nat.blt i 34 then (some 10) else (some 10)))) else (bif Nat.blt i 38 then (bif Nat.blt i 36 then (some 10) else (bif Nat.blt i 37 then (some 10) else (some 10))) else (bif Nat.blt i 39 then (some 10) else (bif Nat.blt i 40 then (some 10) else (some 10))))))) else (bif Nat.blt i 62 then (bif Nat.blt i 51 then (bif Nat.blt i 46 then (bif Nat.blt i 43 then (bif Nat.blt i 42 then (some 10) else (some 10)) else (bif Nat.blt i 44 then (some 10) else (bif Nat.blt i 45 then (some 10) else (some 10)))) else (bif Nat.blt i 48 then (bif Nat.blt i 47 then (some 10) else (some 10)) else (bif Nat.blt i 49 then (some 10) else (bif Nat.blt i 50 then (some 10) else (some 10))))) else (bif Nat.blt i 56 then (bif Nat.blt i 53 then (bif Nat.blt i 52 then (some 10) else (some 10)) else (bif Nat.blt i 54 then (some 10) else (bif Nat.blt i 55 then (some 10) else (some 10)))) else (bif Nat.blt i 59 then (bif Nat.blt i 57 then (some 10) else (bif Nat.blt i 58 then (some 10) else (some 10))) else (bif Nat.blt i 60 then (some 10) else (bif Nat.blt i 61 then (some 10) else (some 10)))))) else (bif Nat.blt i 72 then (bif Nat.blt i 67 then (bif Nat.blt i 64 then (bif Nat.blt i 63 then (some 10) else (some 10)) else (bif Nat.blt i 65 then (some 10) else (bif Nat.blt i 66 then (some 0) else (some 0)))) else (bif Nat.blt i 69 then (bif Nat.blt i 68 then (some 0) else (some 0)) else (bif Nat.blt i 70 then (some 1) else (bif Nat.blt i 71 then (some 1) else (some 1))))) else (bif Nat.blt i 77 then (bif Nat.blt i 74 then (bif Nat.blt i 73 then (some 1) else (some 2)) else (bif Nat.blt i 75 then (some 2) else (bif Nat.blt i 76 then (some 2) else (some 2)))) else (bif Nat.blt i 80 then (bif Nat.blt i 78 then (some 2) else (bif Nat.blt i 79 then (some 2) else (some 2))) else (bif Nat.blt i 81 then (some 2) else (bif Nat.blt i 82 then (some 2) else (some 2)))))))) else (bif Nat.blt i 124 then (bif Nat.blt i 103 then (bif Nat.blt i 93 then (bif Nat.blt i 88 then (bif Nat.blt i 85 then (bif Nat.blt i 84 then (some 3) else (some 3)) else (bif Nat.blt i 86 then (some 3) else (bif Nat.blt i 87 then (some 4) else (some 4)))) else (bif Nat.blt i 90 then (bif Nat.blt i 89 then (some 4) else (some 4)) else (bif Nat.blt i 91 then (some 4) else (bif Nat.blt i 92 then (some 4) else (some 4))))) else (bif Nat.blt i 98 then (bif Nat.blt i 95 then (bif Nat.blt i 94 then (some 5) else (some 5)) else (bif Nat.blt i 96 then (some 5) else (bif Nat.blt i 97 then (some 5) else (some 5)))) else (bif Nat.blt i 100 then (bif Nat.blt i 99 then (some 5) else (some 6)) else (bif Nat.blt i 101 then (some 6) else (bif Nat.blt i 102 then (some 6) else (some 6)))))) else (bif Nat.blt i 113 then (bif Nat.blt i 108 then (bif Nat.blt i 105 then (bif Nat.blt i 104 then (some 6) else (some 6)) else (bif Nat.blt i 106 then (some 6) else (bif Nat.blt i 107 then (some 6) else (some 6)))) else (bif Nat.blt i 110 then (bif Nat.blt i 109 then (some 6) else (some 6)) else (bif Nat.blt i 111 then (some 6) else (bif Nat.blt i 112 then (some 6) else (some 6))))) else (bif Nat.blt i 118 then (bif Nat.blt i 115 then (bif Nat.blt i 114 then (some 6) else (some 6)) else (bif Nat.blt i 116 then (some 6) else (bif Nat.blt i 117 then (some 6) else (some 7)))) else (bif Nat.blt i 121 then (bif Nat.blt i 119 then (some 7) else (bif Nat.blt i 120 then (some 7) else (some 7))) else (bif Nat.blt i 122 then (some 7) else (bif Nat.blt i 123 then (some 8) else (some 8))))))) else (bif Nat.blt i 145 then (bif Nat.blt i 134 then (bif Nat.blt i 129 then (bif Nat.blt i 126 then (bif Nat.blt i 125 then (some 8) else (some 8)) else (bif Nat.blt i 127 then (some 8) else (bif Nat.blt i 128 then (some 8) else (some 8)))) else (bif Nat.blt i 131 then (bif Nat.blt i 130 then (some 8) else (some 8)) else (bif Nat.blt i 132 then (some 8) else (bif Nat.blt i 133 then (some 8) else (some 9))))) else (bif Nat.blt i 139 then (bif Nat.blt i 136 then (bif Nat.blt i 135 then (some 9) else (some 9)) else (bif Nat.blt i 137 then (some 9) else (bif Nat.blt i 138 then (some 9) else (some 9)))) else (bif Nat.blt i 142 then (bif Nat.blt i 140 then (some 9) else (bif Nat.blt i 141 then (some 9) else (some 9))) else (bif Nat.blt i 143 then (some 9) else (bif Nat.blt i 144 then (some 9) else (some 9)))))) else (bif Nat.blt i 155 then (bif Nat.blt i 150 then (bif Nat.blt i 147 then (bif Nat.blt i 146 then (some 9) else (some 9)) else (bif Nat.blt i 148 then (some 9) else (bif Nat.blt i 149 then (some 9) else (some 9)))) else (bif Nat.blt i 152 then (bif Nat.blt i 151 then (some 9) else (some 9)) else (bif Nat.blt i 153 then (some 9) else (bif Nat.blt i 154 then (some 9) else (some 9))))) else (bif Nat.blt i 160 then (bif Nat.blt i 157 then (bif Nat.blt i 156 then (some 9) else (some 9)) else (bif Nat.blt i 158 then (some 9) else (bif Nat.blt i 159 then (some 9) else (none)))) else (bif Nat.blt i 163 then (bif Nat.blt i 161 then (none) else (bif Nat.blt i 162 then (some 9) else (some 9))) else (bif Nat.blt i 164 then (some 9) else (bif Nat.blt i 165 then (some 9) else (none))))))))
/-- where the words of a method stand: its code, its class as initialised, instance or static, selects -/
def am_mp (i : Nat) : Nat × Nat × Nat × Nat := bif Nat.blt i 83 then (bif Nat.blt i 41 then (bif Nat.blt i 20 then (bif Nat.blt i 10 then (bif Nat.blt i 5 then (bif Nat.blt i 2 then (bif Nat.blt i 1 then ((787, 73, 786, 0)) else ((856, 73, 855, 0))) else (bif Nat.blt i 3 then ((1084, 73, 1083, 0)) else (bif Nat.blt i 4 then ((993, 73, 992, 0)) else ((1032, 73, 1031, 0))))) else (bif Nat.blt i 7 then (bif Nat.blt i 6 then ((898, 73, 897, 33)) else ((923, 73, 922, 36))) else (bif Nat.blt i 8 then ((946, 73, 945, 38)) else (bif Nat.blt i 9 then ((906, 73, 905, 34)) else ((931, 73, 930, 37)))))) else (bif Nat.blt i 15 then (bif Nat.blt i 12 then (bif Nat.blt i 11 then ((958, 73, 957, 40)) else ((865, 73, 864, 28))) else (bif Nat.blt i 13 then ((848, 73, 846, 847)) else (bif Nat.blt i 14 then ((861, 73, 860, 27)) else ((852, 73, 850, 851))))) else (bif Nat.blt i 17 then (bif Nat.blt i 16 then ((869, 73, 867, 868)) else ((882, 73, 881, 30))) else (bif Nat.blt i 18 then ((878, 73, 877, 29)) else (bif Nat.blt i 19 then ((890, 73, 889, 32)) else ((886, 73, 885, 31))))))) else (bif Nat.blt i 30 then (bif Nat.blt i 25 then (bif Nat.blt i 22 then (bif Nat.blt i 21 then ((873, 73, 871, 872)) else ((894, 73, 892, 893))) else (bif Nat.blt i 23 then ((902, 73, 900, 901)) else (bif Nat.blt i 24 then ((914, 73, 913, 35)) else ((910, 73, 908, 909))))) else (bif Nat.blt i 27 then (bif Nat.blt i 26 then ((918, 73, 916, 917)) else ((927, 73, 925, 926))) else (bif Nat.blt i 28 then ((935, 73, 933, 934)) else (bif Nat.blt i 29 then ((950, 73, 949, 39)) else ((942, 73, 941, 0)))))) else (bif Nat.blt i 35 then (bif Nat.blt i 32 then (bif Nat.blt i 31 then ((939, 73, 937, 938)) else ((954, 73, 952, 953))) else (bif Nat.blt i 33 then ((962, 73, 960, 961)) else (bif Nat.blt i 34 then ((966, 73, 964, 965)) else ((986, 73, 985, 44))))) else (bif Nat.blt i 38 then (bif Nat.blt i 36 then ((982, 73, 981, 43)) else (bif Nat.blt i 37 then ((990, 73, 989, 45)) else ((978, 73, 977, 42)))) else (bif Nat.blt i 39 then ((974, 73, 973, 41)) else (bif Nat.blt i 40 then ((997, 73, 996, 46)) else ((970, 73, 968, 969)))))))) else (bif Nat.blt i 62 then (bif Nat.blt i 51 then (bif Nat.blt i 46 then (bif Nat.blt i 43 then (bif Nat.blt i 42 then ((1029, 73, 1028, 53)) else ((1021, 73, 1020, 51))) else (bif Nat.blt i 44 then ((1025, 73, 1024, 52)) else (bif Nat.blt i 45 then ((1017, 73, 1016, 50)) else ((1044, 73, 1043, 56))))) else (bif Nat.blt i 48 then (bif Nat.blt i 47 then ((1048, 73, 1047, 57)) else ((1013, 73, 1012, 49))) else (bif Nat.blt i 49 then ((1040, 73, 1039, 55)) else (bif Nat.blt i 50 then ((1036, 73, 1035, 54)) else ((1009, 73, 1008, 48)))))) else (bif Nat.blt i 56 then (bif Nat.blt i 53 then (bif Nat.blt i 52 then ((1005, 73, 1004, 47)) else ((1001, 73, 999, 1000))) else (bif Nat.blt i 54 then ((1052, 73, 1050, 1051)) else (bif Nat.blt i 55 then ((1056, 73, 1054, 1055)) else ((1060, 73, 1058, 1059))))) else (bif Nat.blt i 59 then (bif Nat.blt i 57 then ((1064, 73, 1062, 1063)) else (bif Nat.blt i 58 then ((1068, 73, 1066, 1067)) else ((1076, 73, 1075, 58)))) else (bif Nat.blt i 60 then ((1072, 73, 1070, 1071)) else (bif Nat.blt i 61 then ((1089, 73, 1088, 59)) else ((1093, 73, 1092, 60))))))) else (bif Nat.blt i 72 then (bif Nat.blt i 67 then (bif Nat.blt i 64 then (bif Nat.blt i 63 then ((1081, 73, 1079, 1080)) else ((1097, 73, 1095, 1096))) else (bif Nat.blt i 65 then ((1101, 73, 1099, 1100)) else (bif Nat.blt i 66 then ((168, 68, 167, 0)) else ((446, 68, 444, 445))))) else (bif Nat.blt i 69 then (bif Nat.blt i 68 then ((543, 68, 541, 542)) else ((607, 68, 605, 606))) else (bif Nat.blt i 70 then ((248, 69, 247, 0)) else (bif Nat.blt i 71 then ((414, 69, 412, 413)) else ((617, 69, 615, 616)))))) else (bif Nat.blt i 77 then (bif Nat.blt i 74 then (bif Nat.blt i 73 then ((418, 69, 417, 2)) else ((330, 72, 329, 0))) else (bif Nat.blt i 75 then ((560, 72, 558, 559)) else (bif Nat.blt i 76 then ((602, 72, 600, 601)) else ((572, 72, 570, 571))))) else (bif Nat.blt i 80 then (bif Nat.blt i 78 then ((576, 72, 575, 7)) else (bif Nat.blt i 79 then ((580, 72, 579, 8)) else ((584, 72, 583, 9)))) else (bif Nat.blt i 81 then ((598, 72, 597, 12)) else (bif Nat.blt i 82 then ((588, 72, 587, 10)) else ((593, 72, 592, 11))))))))) else (bif Nat.blt i 124 then (bif Nat.blt i 103 then (bif Nat.blt i 93 then (bif Nat.blt i 88 then (bif Nat.blt i 85 then (bif Nat.blt i 84 then ((128, 67, 127, 0)) else ((440, 67, 438, 439))) else (bif Nat.blt i 86 then ((496, 67, 494, 495)) else (bif Nat.blt i 87 then ((317, 71, 316, 0)) else ((738, 71, 736, 737))))) else (bif Nat.blt i 90 then (bif Nat.blt i 89 then ((760, 71, 758, 759)) else ((773, 71, 771, 772))) else (bif Nat.blt i 91 then ((764, 71, 762, 763)) else (bif Nat.blt i 92 then ((743, 71, 742, 25)) else ((747, 71, 746, 26)))))) else (bif Nat.blt i 98 then (bif Nat.blt i 95 then (bif Nat.blt i 94 then ((99, 65, 98, 0)) else ((406, 65, 404, 405))) else (bif Nat.blt i 96 then ((112, 65, 110, 111)) else (bif Nat.blt i 97 then ((430, 65, 428, 429)) else ((515, 65, 513, 514))))) else (bif Nat.blt i 100 then (bif Nat.blt i 99 then ((725, 65, 723, 724)) else ((265, 70, 264, 0))) else (bif Nat.blt i 101 then ((625, 70, 623, 624)) else (bif Nat.blt i 102 then ((684, 70, 682, 683)) else ((646, 70, 644, 645))))))) else (bif Nat.blt i 113 then (bif Nat.blt i 108 then (bif Nat.blt i 105 then (bif Nat.blt i 104 then ((756, 70, 754, 755)) else ((637, 70, 636, 13))) else (bif Nat.blt i 106 then ((642, 70, 641, 14)) else (bif Nat.blt i 107 then ((652, 70, 651, 15)) else ((660, 70, 659, 16))))) else (bif Nat.blt i 110 then (bif Nat.blt i 109 then ((664, 70, 663, 17)) else ((668, 70, 667, 18))) else (bif Nat.blt i 111 then ((672, 70, 671, 19)) else (bif Nat.blt i 112 then ((676, 70, 675, 20)) else ((680, 70, 679, 21)))))) else (bif Nat.blt i 118 then (bif Nat.blt i 115 then (bif Nat.blt i 114 then ((688, 70, 687, 22)) else ((692, 70, 691, 23))) else (bif Nat.blt i 116 then ((711, 70, 709, 710)) else (bif Nat.blt i 117 then ((715, 70, 714, 24)) else ((87, 63, 86, 0))))) else (bif Nat.blt i 121 then (bif Nat.blt i 119 then ((422, 63, 420, 421)) else (bif Nat.blt i 120 then ((629, 63, 627, 628)) else ((656, 63, 654, 655)))) else (bif Nat.blt i 122 then ((781, 63, 779, 780)) else (bif Nat.blt i 123 then ((93, 64, 92, 0)) else ((426, 64, 424, 425)))))))) else (bif Nat.blt i 145 then (bif Nat.blt i 134 then (bif Nat.blt i 129 then (bif Nat.blt i 126 then (bif Nat.blt i 125 then ((460, 64, 458, 459)) else ((398, 64, 396, 397))) else (bif Nat.blt i 127 then ((451, 64, 449, 450)) else (bif Nat.blt i 128 then ((464, 64, 462, 463)) else ((402, 64, 401, 0))))) else (bif Nat.blt i 131 then (bif Nat.blt i 130 then ((477, 64, 476, 3)) else ((473, 64, 471, 472))) else (bif Nat.blt i 132 then ((481, 64, 479, 480)) else (bif Nat.blt i 133 then ((486, 64, 484, 485)) else ((79, 62, 78, 0)))))) else (bif Nat.blt i 139 then (bif Nat.blt i 136 then (bif Nat.blt i 135 then ((389, 62, 387, 388)) else ((456, 62, 454, 455))) else (bif Nat.blt i 137 then ((468, 62, 466, 467)) else (bif Nat.blt i 138 then ((492, 62, 490, 491)) else ((501, 62, 499, 500))))) else (bif Nat.blt i 142 then (bif Nat.blt i 140 then ((511, 62, 509, 510)) else (bif Nat.blt i 141 then ((519, 62, 517, 518)) else ((524, 62, 522, 523)))) else (bif Nat.blt i 143 then ((532, 62, 530, 531)) else (bif Nat.blt i 144 then ((539, 62, 537, 538)) else ((548, 62, 546, 547))))))) else (bif Nat.blt i 155 then (bif Nat.blt i 150 then (bif Nat.blt i 147 then (bif Nat.blt i 146 then ((556, 62, 554, 555)) else ((564, 62, 562, 563))) else (bif Nat.blt i 148 then ((568, 62, 566, 567)) else (bif Nat.blt i 149 then ((613, 62, 611, 612)) else ((621, 62, 619, 620))))) else (bif Nat.blt i 152 then (bif Nat.blt i 151 then ((699, 62, 697, 698)) else ((703, 62, 701, 702))) else (bif Nat.blt i 153 then ((707, 62, 705, 706)) else (bif Nat.blt i 154 then ((720, 62, 718, 719)) else ((729, 62, 727, 728)))))) else (bif Nat.blt i 160 then (bif Nat.blt i 157 then (bif Nat.blt i 156 then ((733, 62, 731, 732)) else ((751, 62, 749, 750))) else (bif Nat.blt i 158 then ((769, 62, 767, 768)) else (bif Nat.blt i 159 then ((777, 62, 775, 776)) else ((393, 62, 392, 0))))) else (bif Nat.blt i 163 then (bif Nat.blt i 161 then ((535, 62, 534, 0)) else (bif Nat.blt i 162 then ((505, 62, 504, 4)) else ((528, 62, 527, 5)))) else (bif Nat.blt i 164 then ((552, 62, 551, 6)) else (bif Nat.blt i 165 then ((410, 62, 409, 1)) else ((0, 0, 0, 0)))))))))
/-- places of the words of Math.max, Math.min, System.arraycopy, Object(), of the kinds of arrays -/
def am_pm : List Nat := [102, 66, 103, 432, 433, 436, 435, 74, 81, 82]
def am_pa : List Nat := [108, 369]
/-- the class of which there are arrays, and the place of its word -/
def am_qc : Nat := 7
def am_qp : Nat := 251
/-- of a class: the places of its words instantiable and initialized, and of its fields -/
def am_cp1 (c : Nat) : Nat × Nat × List Nat := bif Nat.beq c 0 then (165, 68, [195, 197, 199, 201, 203, 205, 207]) else (bif Nat.beq c 1 then (245, 69, [256, 258]) else (bif Nat.beq c 2 then (327, 72, [348, 350, 352, 354, 356, 358, 360, 362, 364, 366]) else (bif Nat.beq c 3 then (125, 67, [151, 153, 155, 157, 159]) else (bif Nat.beq c 4 then (314, 71, [321, 323]) else (bif Nat.beq c 5 then (96, 65, [105]) else (bif Nat.beq c 6 then (262, 70, [290, 292, 294, 296, 298, 300, 302, 304, 306, 308, 310]) else (bif Nat.beq c 7 then (84, 63, [231, 233, 235, 237, 239, 241]) else (bif Nat.beq c 8 then (90, 64, [117, 119, 121]) else (bif Nat.beq c 9 then (76, 62, [375, 377, 379, 381, 383]) else ((784, 73, [808, 810, 812, 814, 816, 818, 820, 822, 824, 826, 828, 830, 832, 834, 836, 838, 840, 842])))))))))))
/-- the classes whose objects the heap holds -/
def am_cls : List vw_C := [(RX0, TX0, 7), (RX1, TX1, 2), (RX2, TX2, 10), (RX3, TX3, 5), (RX4, TX4, 2), (RX5, TX5, 1), (RX6, TX6, 11), (RX7, TX7, 6), (RX8, TX8, 3), (RX9, TX9, 5), (RX10, TX10, 18)]
def am_ty (c : Nat) : Nat → FieldType := bif Nat.beq c 0 then tyX0 else (bif Nat.beq c 1 then tyX1 else (bif Nat.beq c 2 then tyX2 else (bif Nat.beq c 3 then tyX3 else (bif Nat.beq c 4 then tyX4 else (bif Nat.beq c 5 then tyX5 else (bif Nat.beq c 6 then tyX6 else (bif Nat.beq c 7 then tyX7 else (bif Nat.beq c 8 then tyX8 else (bif Nat.beq c 9 then tyX9 else (tyX10))))))))))
def fX0 : List Value := [.null, .null, .null, .null, .null, .null, .int 0]
def fX1 : List Value := [.null, .int 0]
def fX2 : List Value := [.null, .int 0, .null, .null, .null, .int 0, .int 0, .int 0, .int 0, .int 0]
def fX3 : List Value := [.null, .null, .null, .null, .int 0]
def fX4 : List Value := [.null, .null]
def fX5 : List Value := [.null]
def fX6 : List Value := [.null, .null, .null, .null, .null, .null, .null, .null, .null, .null, .int 0]
def fX7 : List Value := [.null, .null, .null, .int 0, .null, .null]
def fX8 : List Value := [.null, .null, .int 0]
def fX9 : List Value := [.null, .null, .null, .null, .null]
def fX10 : List Value := [.null, .null, .int 0, .int 0, .null, .int 0, .int 0, .int 0, .null, .null, .null, .null, .null, .null, .null, .null, .null, .null]
/-- a new object of a class -/
def am_new (c : Nat) : List Value := bif Nat.beq c 0 then fX0 else (bif Nat.beq c 1 then fX1 else (bif Nat.beq c 2 then fX2 else (bif Nat.beq c 3 then fX3 else (bif Nat.beq c 4 then fX4 else (bif Nat.beq c 5 then fX5 else (bif Nat.beq c 6 then fX6 else (bif Nat.beq c 7 then fX7 else (bif Nat.beq c 8 then fX8 else (bif Nat.beq c 9 then fX9 else (fX10))))))))))
def am_host : String := "PostalAuction"
end
section
/-! THE ABSTRACT MACHINE: a heap is a list of cells, a reference is a place in it (place 0: the law's script). A cell: an array of ints (kind 0), of chars (kind 1), the script (kind 7), or values: an object of a class (its number below 100) or an array of references (100 and the class's number). -/
abbrev am_C : Type := (Nat × List Int32) ⊕ (Nat × List Value)
abbrev am_H : Type := List am_C
abbrev am_R : Type := Option Value × am_H
abbrev am_S : Type := Nat × List Value × List Value × am_H
/-- what an instruction does: answers; goes on; branches; switches; reads an int; reads a reference; writes; calls (for an int, a long, nothing) -/
abbrev am_A : Type := am_R ⊕ am_S ⊕ (Bool × am_S × am_S) ⊕ (Int32 × List (Int32 × Nat) × Nat × List Value × List Value × am_H) ⊕ (Option Int32 × (Int32 → am_S)) ⊕ (Option Nat × (Nat → am_S)) ⊕ (Option am_H × (am_H → am_S)) ⊕ (Nat × List Value × am_H × (Int32 → am_H → am_S)) ⊕ (Nat × List Value × am_H × (Int64 → am_H → am_S)) ⊕ (Nat × List Value × am_H × (am_H → am_S)) ⊕ (Option Int32 × am_H)
abbrev am_Ret (r : am_R) : Option am_A := some (.inl r)
abbrev am_Go (s : am_S) : Option am_A := some (.inr (.inl s))
abbrev am_Br (b : Bool) (s t : am_S) : Option am_A := some (.inr (.inr (.inl (b, s, t))))
abbrev am_Sw (x : Int32) (t : List (Int32 × Nat)) (d : Nat) (L S : List Value) (h : am_H) : Option am_A := some (.inr (.inr (.inr (.inl (x, t, d, L, S, h)))))
abbrev am_Ri (o : Option Int32) (f : Int32 → am_S) : Option am_A := some (.inr (.inr (.inr (.inr (.inl (o, f))))))
abbrev am_Rr (o : Option Nat) (f : Nat → am_S) : Option am_A := some (.inr (.inr (.inr (.inr (.inr (.inl (o, f)))))))
abbrev am_Wr (o : Option am_H) (f : am_H → am_S) : Option am_A := some (.inr (.inr (.inr (.inr (.inr (.inr (.inl (o, f))))))))
abbrev am_Ci (j : Nat) (As : List Value) (h : am_H) (f : Int32 → am_H → am_S) : Option am_A := some (.inr (.inr (.inr (.inr (.inr (.inr (.inr (.inl (j, As, h, f)))))))))
abbrev am_Cl (j : Nat) (As : List Value) (h : am_H) (f : Int64 → am_H → am_S) : Option am_A := some (.inr (.inr (.inr (.inr (.inr (.inr (.inr (.inr (.inl (j, As, h, f))))))))))
abbrev am_Cv (j : Nat) (As : List Value) (h : am_H) (f : am_H → am_S) : Option am_A := some (.inr (.inr (.inr (.inr (.inr (.inr (.inr (.inr (.inr (.inl (j, As, h, f)))))))))))
/-- answers an int, if there is one -/
abbrev am_Rb (o : Option Int32) (h : am_H) : Option am_A := some (.inr (.inr (.inr (.inr (.inr (.inr (.inr (.inr (.inr (.inr (o, h)))))))))))
-- what a call gave
def am_bi (o : Option am_R) (f : Int32 → am_H → Option am_R) : Option am_R := match o with
  | some (some (.int x), h) => f x h
  | _ => none
def am_bl (o : Option am_R) (f : Int64 → am_H → Option am_R) : Option am_R := match o with
  | some (some (.long x), h) => f x h
  | _ => none
def am_bv (o : Option am_R) (f : am_H → Option am_R) : Option am_R := match o with
  | some (none, h) => f h
  | _ => none
def am_sw (x : Int32) (t : List (Int32 × Nat)) (d : Nat) (K : Nat → Option am_R) : Option am_R := match t with
  | [] => K d
  | q :: r => bif decide (x = q.1) then K q.2 else am_sw x r d K
-- the heap
def am_gi (h : am_H) (a c k : Nat) : Option Int32 := match h[a]? with
  | some (.inr (c', fs)) => bif Nat.beq c' c then (match fs[k]? with
    | some (.int x) => some x
    | _ => none) else none
  | _ => none
def am_gr (h : am_H) (a c k : Nat) : Option Nat := match h[a]? with
  | some (.inr (c', fs)) => bif Nat.beq c' c then (match fs[k]? with
    | some (.ref x) => some x
    | _ => none) else none
  | _ => none
def am_pf (h : am_H) (a c k : Nat) (v : Value) : Option am_H := match h[a]? with
  | some (.inr (c', fs)) => bif Nat.beq c' c && Nat.blt k fs.length then some (h.set a (.inr (c', fs.set k v))) else none
  | _ => none
def am_len (h : am_H) (a : Nat) : Option Int32 := match h[a]? with
  | some (.inl (t, l)) => bif Nat.ble t 1 || (Nat.beq t 7 && Nat.beq a 0) then some (Int32.ofNat l.length) else none
  | some (.inr (c, vs)) => bif Nat.beq c (am_qc + 100) then some (Int32.ofNat vs.length) else none
  | none => none
def am_in (i : Int32) (n : Nat) : Bool := !(decide (i < 0)) && Nat.blt i.toNatClampNeg n
/-- reads an array of kind t -/
def am_al (h : am_H) (t a : Nat) (i : Int32) : Option Int32 := match h[a]? with
  | some (.inl (t', l)) => bif (Nat.beq t' t || (Nat.beq t' 7 && (Nat.beq a 0 && Nat.beq t 0))) && am_in i l.length then l[i.toNatClampNeg]? else none
  | _ => none
/-- writes an array of kind t -/
def am_as (h : am_H) (t a : Nat) (i v : Int32) : Option am_H := match h[a]? with
  | some (.inl (t', l)) => bif Nat.beq t' t && am_in i l.length then some (h.set a (.inl (t', l.set i.toNatClampNeg v))) else none
  | _ => none
def am_ql (h : am_H) (a : Nat) (i : Int32) : Option Nat := match h[a]? with
  | some (.inr (c, vs)) => bif Nat.beq c (am_qc + 100) && am_in i vs.length then (match vs[i.toNatClampNeg]? with
    | some (.ref x) => some x
    | _ => none) else none
  | _ => none
def am_qs (h : am_H) (a : Nat) (i : Int32) (v : Nat) : Option am_H := match h[a]? with
  | some (.inr (c, vs)) => bif Nat.beq c (am_qc + 100) && am_in i vs.length then (match h[v]? with
    | some (.inr (c', _)) => bif Nat.beq (c' + 100) c then some (h.set a (.inr (c, vs.set i.toNatClampNeg (.ref v)))) else none
    | _ => none) else none
  | _ => none
def am_na (h : am_H) (t : Nat) (n : Int32) : Option am_H := bif decide (n < 0) || Nat.blt 1000000 n.toNatClampNeg then none else some (h ++ [.inl (t, List.replicate n.toNatClampNeg 0)])
def am_nq (h : am_H) (c : Nat) (n : Int32) : Option am_H := bif decide (n < 0) || Nat.blt 1000000 n.toNatClampNeg then none else some (h ++ [.inr (c + 100, List.replicate n.toNatClampNeg .null)])
/-- System.arraycopy of ints -/
def am_cpl (f g : List Int32) (sp dp n : Nat) : List Int32 := (List.range g.length).map (fun k => if dp ≤ k ∧ k < dp + n then f.getD (sp + (k - dp)) 0 else g.getD k 0)
def am_cp (h : am_H) (a : Nat) (sp : Int32) (b : Nat) (dp n : Int32) : Option am_H := match h[a]? with
  | some (.inl (0, f)) => (match h[b]? with
    | some (.inl (0, g)) => bif !(decide (sp < 0)) && (!(decide (dp < 0)) && (!(decide (n < 0)) && (Nat.ble (sp.toNatClampNeg + n.toNatClampNeg) f.length && Nat.ble (dp.toNatClampNeg + n.toNatClampNeg) g.length))) then some (h.set b (.inl (0, am_cpl f g sp.toNatClampNeg dp.toNatClampNeg n.toNatClampNeg))) else none
    | _ => none)
  | _ => none
-- numbers
def am_dv (x y : Int32) : Option Int32 := bif decide (y = 0) then none else some (x / y)
def am_rm (x y : Int32) : Option Int32 := bif decide (y = 0) then none else some (x - x / y * y)
def am_bz (x : Int32) : Option Int32 := bif decide (x = 0) || decide (x = 1) then some x else none
def am_cm (c : ClassFile.Cond) (x y : Int32) : Bool := match c with
  | .eq => decide (x = y)
  | .ne => decide (¬ x = y)
  | .lt => decide (x < y)
  | .ge => decide (y ≤ x)
  | .gt => decide (y < x)
  | .le => decide (x ≤ y)
abbrev am_max (x y : Int32) : Int32 := if x < y then y else x
abbrev am_min (x y : Int32) : Int32 := if y < x then y else x
-- locals: a place that holds nothing that may be read is .float 0
def am_st1 (L : List Value) (i : Nat) (v : Value) : List Value := L.set i v
def am_st2 (L : List Value) (i : Nat) (v : Value) : List Value := (L.set i v).set (i + 1) (.float 0)
def am_l0 (j : Nat) (As : List Value) : List Value := As ++ List.replicate (am_maxl j - As.length) (.float 0)
def am_cat (S : List Value) : Nat := (S.map fun v => v.category).sum
def am_find (l : List am_E) (pc : Nat) : Option am_E := match l with
  | [] => none
  | e :: r => bif Nat.beq e.1 pc then some e else am_find r pc
/-- a call of method j with the top n of the stack; j from 1000: Math.max, Math.min, System.arraycopy, Object() -/
def am_inv (j n pc : Nat) (L S : List Value) (h : am_H) : Option am_A :=
  bif Nat.blt 8 (am_cat (S.drop n)) || (Nat.blt S.length n || !(Nat.beq (am_cat (S.take n)) n)) then none else
  bif Nat.blt j 1000 then (match am_ret j with
    | some .long => am_Cl j (S.take n).reverse h (fun x h => (pc, L, .long x :: S.drop n, h))
    | some _ => am_Ci j (S.take n).reverse h (fun x h => (pc, L, .int x :: S.drop n, h))
    | none => am_Cv j (S.take n).reverse h (fun h => (pc, L, S.drop n, h))) else
  (match j, S with
    | 1000, .int y :: .int x :: r => am_Go (pc, L, .int (am_max x y) :: r, h)
    | 1001, .int y :: .int x :: r => am_Go (pc, L, .int (am_min x y) :: r, h)
    | 1002, .int n :: .int dp :: .ref b :: .int sp :: .ref a :: r => am_Wr (am_cp h a sp b dp n) (fun h => (pc, L, r, h))
    | 1003, .ref _ :: r => am_Go (pc, L, r, h)
    | _, _ => none)
/-- one instruction of method i -/
def am_step (i : Nat) (e : am_E) (L S : List Value) (h : am_H) : Option am_A := match e with
  | (pc, ins, len, a1, a2, _, ci, cl, sw) => match ins with
    | .iconst _ | .bipush _ | .sipush _ | .ldc _ => am_Go (pc + len, L, .int ci :: S, h)
    | .lconst _ | .ldc2_w _ => am_Go (pc + len, L, .long cl :: S, h)
    | .aconst_null => am_Go (pc + 1, L, .null :: S, h)
    | .iload_n _ | .iload _ => (match L[a1]? with
      | some (.int x) => am_Go (pc + len, L, .int x :: S, h)
      | _ => none)
    | .lload_n _ | .lload _ => (match L[a1]? with
      | some (.long x) => am_Go (pc + len, L, .long x :: S, h)
      | _ => none)
    | .aload_n _ | .aload _ => (match L[a1]? with
      | some (.ref x) => am_Go (pc + len, L, .ref x :: S, h)
      | some .null => am_Go (pc + len, L, .null :: S, h)
      | _ => none)
    | .istore_n _ | .istore _ => (match S with
      | .int x :: r => am_Go (pc + len, am_st1 L a1 (.int x), r, h)
      | _ => none)
    | .lstore_n _ | .lstore _ => (match S with
      | .long x :: r => am_Go (pc + len, am_st2 L a1 (.long x), r, h)
      | _ => none)
    | .astore_n _ | .astore _ => (match S with
      | .ref x :: r => am_Go (pc + len, am_st1 L a1 (.ref x), r, h)
      | .null :: r => am_Go (pc + len, am_st1 L a1 .null, r, h)
      | _ => none)
    | .iinc _ _ => (match L[a1]? with
      | some (.int x) => am_Go (pc + 3, am_st1 L a1 (.int (x + ci)), S, h)
      | _ => none)
    | .iadd => (match S with
      | .int y :: .int x :: r => am_Go (pc + 1, L, .int (x + y) :: r, h)
      | _ => none)
    | .isub => (match S with
      | .int y :: .int x :: r => am_Go (pc + 1, L, .int (x - y) :: r, h)
      | _ => none)
    | .imul => (match S with
      | .int y :: .int x :: r => am_Go (pc + 1, L, .int (x * y) :: r, h)
      | _ => none)
    | .iand => (match S with
      | .int y :: .int x :: r => am_Go (pc + 1, L, .int (x &&& y) :: r, h)
      | _ => none)
    | .idiv => (match S with
      | .int y :: .int x :: r => am_Ri (am_dv x y) (fun z => (pc + 1, L, .int z :: r, h))
      | _ => none)
    | .irem => (match S with
      | .int y :: .int x :: r => am_Ri (am_rm x y) (fun z => (pc + 1, L, .int z :: r, h))
      | _ => none)
    | .ladd => (match S with
      | .long y :: .long x :: r => am_Go (pc + 1, L, .long (x + y) :: r, h)
      | _ => none)
    | .lsub => (match S with
      | .long y :: .long x :: r => am_Go (pc + 1, L, .long (x - y) :: r, h)
      | _ => none)
    | .lmul => (match S with
      | .long y :: .long x :: r => am_Go (pc + 1, L, .long (x * y) :: r, h)
      | _ => none)
    | .ldiv => (match S with
      | .long y :: .long x :: r => bif decide (y = 0) then none else am_Go (pc + 1, L, .long (x / y) :: r, h)
      | _ => none)
    | .lcmp => (match S with
      | .long y :: .long x :: r => am_Go (pc + 1, L, .int (lg_cmp x y) :: r, h)
      | _ => none)
    | .i2l => (match S with
      | .int x :: r => am_Go (pc + 1, L, .long x.toInt64 :: r, h)
      | _ => none)
    | .l2i => (match S with
      | .long x :: r => am_Go (pc + 1, L, .int x.toInt32 :: r, h)
      | _ => none)
    | .i2c => (match S with
      | .int x :: r => am_Go (pc + 1, L, .int (x.toUInt32 % 65536).toInt32 :: r, h)
      | _ => none)
    | .dup => (match S with
      | .ref x :: r => am_Go (pc + 1, L, .ref x :: .ref x :: r, h)
      | .int x :: r => am_Go (pc + 1, L, .int x :: .int x :: r, h)
      | _ => none)
    | .dup2 => (match S with
      | .int y :: .ref x :: r => am_Go (pc + 1, L, .int y :: .ref x :: .int y :: .ref x :: r, h)
      | _ => none)
    | .pop => (match S with
      | .int _ :: r => am_Go (pc + 1, L, r, h)
      | _ => none)
    | .if_icmp c _ => (match S with
      | .int y :: .int x :: r => am_Br (am_cm c x y) (a1, L, r, h) (pc + 3, L, r, h)
      | _ => none)
    | .ifCond c _ => (match S with
      | .int x :: r => am_Br (am_cm c x 0) (a1, L, r, h) (pc + 3, L, r, h)
      | _ => none)
    | .ifnull _ => (match S with
      | .ref _ :: r => am_Go (pc + 3, L, r, h)
      | .null :: r => am_Go (a1, L, r, h)
      | _ => none)
    | .goto _ => am_Go (a1, L, S, h)
    | .tableswitch _ _ _ _ | .lookupswitch _ _ => (match S with
      | .int x :: r => am_Sw x sw a1 L r h
      | _ => none)
    | .getfield _ => (match S with
      | .ref a :: r => (match am_ty a1 a2 with
        | .object _ | .array _ => am_Rr (am_gr h a a1 a2) (fun x => (pc + 3, L, .ref x :: r, h))
        | _ => am_Ri (am_gi h a a1 a2) (fun x => (pc + 3, L, .int x :: r, h)))
      | _ => none)
    | .putfield _ => (match S with
      | .int x :: .ref a :: r => (match am_ty a1 a2 with
        | .int => am_Wr (am_pf h a a1 a2 (.int x)) (fun h => (pc + 3, L, r, h))
        | .boolean => am_Wr (bif decide (x = 0) || decide (x = 1) then am_pf h a a1 a2 (.int x) else none) (fun h => (pc + 3, L, r, h))
        | _ => none)
      | .ref x :: .ref a :: r => (match am_ty a1 a2 with
        | .object _ | .array _ => am_Wr (am_pf h a a1 a2 (.ref x)) (fun h => (pc + 3, L, r, h))
        | _ => none)
      | _ => none)
    | .arraylength => (match S with
      | .ref a :: r => am_Ri (am_len h a) (fun x => (pc + 1, L, .int x :: r, h))
      | _ => none)
    | .iaload => (match S with
      | .int i :: .ref a :: r => am_Ri (am_al h 0 a i) (fun x => (pc + 1, L, .int x :: r, h))
      | _ => none)
    | .caload => (match S with
      | .int i :: .ref a :: r => am_Ri (am_al h 1 a i) (fun x => (pc + 1, L, .int x :: r, h))
      | _ => none)
    | .aaload => (match S with
      | .int i :: .ref a :: r => am_Rr (am_ql h a i) (fun x => (pc + 1, L, .ref x :: r, h))
      | _ => none)
    | .iastore => (match S with
      | .int v :: .int i :: .ref a :: r => am_Wr (am_as h 0 a i v) (fun h => (pc + 1, L, r, h))
      | _ => none)
    | .castore => (match S with
      | .int v :: .int i :: .ref a :: r => am_Wr (am_as h 1 a i (vp_nar .char v)) (fun h => (pc + 1, L, r, h))
      | _ => none)
    | .aastore => (match S with
      | .ref v :: .int i :: .ref a :: r => am_Wr (am_qs h a i v) (fun h => (pc + 1, L, r, h))
      | _ => none)
    | .new _ => am_Go (pc + 3, L, .ref h.length :: S, h ++ [.inr (a1, am_new a1)])
    | .newarray _ => (match S with
      | .int n :: r => am_Wr (am_na h a1 n) (fun h' => (pc + 2, L, .ref h.length :: r, h'))
      | _ => none)
    | .anewarray _ => (match S with
      | .int n :: r => am_Wr (am_nq h a1 n) (fun h' => (pc + 3, L, .ref h.length :: r, h'))
      | _ => none)
    | .invokevirtual _ | .invokespecial _ | .invokestatic _ => am_inv a1 a2 (pc + 3) L S h
    | .ireturn => (match S with
      | [.int x] => (match am_ret i with
        | some .boolean => am_Rb (am_bz x) h
        | some .int => am_Ret (some (.int x), h)
        | _ => none)
      | _ => none)
    | .lreturn => (match S with
      | [.long x] => (match am_ret i with
        | some .long => am_Ret (some (.long x), h)
        | _ => none)
      | _ => none)
    | .return_ => (match S with
      | [] => (match am_ret i with
        | none => am_Ret (none, h)
        | _ => none)
      | _ => none)
    | _ => none
end
section
/-- what an instruction gives, with E for calls and K for what goes on -/
def am_do (E : Nat → List Value → am_H → Option am_R) (K : am_S → Option am_R) (a : Option am_A) : Option am_R := match a with
  | none => none
  | some (.inl r) => some r
  | some (.inr (.inl s)) => K s
  | some (.inr (.inr (.inl (b, s, t)))) => bif b then K s else K t
  | some (.inr (.inr (.inr (.inl (x, t, d, L, S, h))))) => am_sw x t d (fun pc => K (pc, L, S, h))
  | some (.inr (.inr (.inr (.inr (.inl (o, f)))))) => Option.bind o (fun x => K (f x))
  | some (.inr (.inr (.inr (.inr (.inr (.inl (o, f))))))) => Option.bind o (fun x => K (f x))
  | some (.inr (.inr (.inr (.inr (.inr (.inr (.inl (o, f)))))))) => Option.bind o (fun x => K (f x))
  | some (.inr (.inr (.inr (.inr (.inr (.inr (.inr (.inl (j, As, h, f))))))))) => am_bi (E j As h) (fun x h => K (f x h))
  | some (.inr (.inr (.inr (.inr (.inr (.inr (.inr (.inr (.inl (j, As, h, f)))))))))) => am_bl (E j As h) (fun x h => K (f x h))
  | some (.inr (.inr (.inr (.inr (.inr (.inr (.inr (.inr (.inr (.inl (j, As, h, f))))))))))) => am_bv (E j As h) (fun h => K (f h))
  | some (.inr (.inr (.inr (.inr (.inr (.inr (.inr (.inr (.inr (.inr (o, h))))))))))) => Option.bind o (fun x => some (some (.int x), h))
def am_act (i : Nat) (s : am_S) : Option am_A := match s with
  | (pc, L, S, h) => match am_find (am_code i) pc with
    | some e => am_step i e L S h
    | none => none
/-- the receiver is an object of the method's class -/
def am_rc (j : Nat) (As : List Value) (h : am_H) : Bool := match am_rk j with
  | none => true
  | some c => (match As with
    | .ref a :: _ => (match h[a]? with
      | some (.inr (c', _)) => Nat.beq c' c
      | _ => false)
    | _ => false)
def am_run : Nat → Nat → am_S → Option am_R
  | 0, _, _ => none
  | n + 1, i, s => am_do (fun j As h => bif am_rc j As h then am_run n j (0, am_l0 j As, [], h) else none) (am_run n i) (am_act i s)
/-- one computation is below another -/
def am_le (a b : Option am_R) : Prop := ∀ r, a = some r → b = some r
theorem am_sw_le {x : Int32} {t : List (Int32 × Nat)} {d : Nat} {K K' : Nat → Option am_R} (h : ∀ p, am_le (K p) (K' p)) : am_le (am_sw x t d K) (am_sw x t d K') := by
  induction t with
  | nil => exact h d
  | cons q r ih =>
    unfold am_sw
    cases decide (x = q.1)
    · exact ih
    · exact h q.2
theorem am_do_le {E E' : Nat → List Value → am_H → Option am_R} {K K' : am_S → Option am_R} (hE : ∀ j As h, am_le (E j As h) (E' j As h)) (hK : ∀ s, am_le (K s) (K' s)) (a : Option am_A) : am_le (am_do E K a) (am_do E' K' a) := by
  intro z hz
  match a, hz with
  | some (.inl r), hz => exact hz
  | some (.inr (.inl s)), hz => exact hK s z hz
  | some (.inr (.inr (.inl (b, s, t)))), hz =>
    cases b
    · exact hK t z hz
    · exact hK s z hz
  | some (.inr (.inr (.inr (.inl (x, t, d, L, S, h))))), hz => exact am_sw_le (fun p => hK _) z hz
  | some (.inr (.inr (.inr (.inr (.inl (o, f)))))), hz =>
    cases o with
    | none => exact hz
    | some x => exact hK _ z hz
  | some (.inr (.inr (.inr (.inr (.inr (.inl (o, f))))))), hz =>
    cases o with
    | none => exact hz
    | some x => exact hK _ z hz
  | some (.inr (.inr (.inr (.inr (.inr (.inr (.inl (o, f)))))))), hz =>
    cases o with
    | none => exact hz
    | some x => exact hK _ z hz
  | some (.inr (.inr (.inr (.inr (.inr (.inr (.inr (.inl (j, As, h, f))))))))), hz =>
    have e := hE j As h
    simp only [am_do] at hz ⊢
    generalize E j As h = a at hz e
    cases a with
    | none => cases hz
    | some r => rw [e r rfl]; match r, hz with
      | (some (.int x), h1), hz => exact hK _ z hz
  | some (.inr (.inr (.inr (.inr (.inr (.inr (.inr (.inr (.inl (j, As, h, f)))))))))), hz =>
    have e := hE j As h
    simp only [am_do] at hz ⊢
    generalize E j As h = a at hz e
    cases a with
    | none => cases hz
    | some r => rw [e r rfl]; match r, hz with
      | (some (.long x), h1), hz => exact hK _ z hz
  | some (.inr (.inr (.inr (.inr (.inr (.inr (.inr (.inr (.inr (.inl (j, As, h, f))))))))))), hz =>
    have e := hE j As h
    simp only [am_do] at hz ⊢
    generalize E j As h = a at hz e
    cases a with
    | none => cases hz
    | some r => rw [e r rfl]; match r, hz with
      | (none, h1), hz => exact hK _ z hz
  | some (.inr (.inr (.inr (.inr (.inr (.inr (.inr (.inr (.inr (.inr (o, h))))))))))), hz => exact hz
theorem am_run_succ (n : Nat) : ∀ (i : Nat) (s : am_S), am_le (am_run n i s) (am_run (n + 1) i s) := by
  induction n with
  | zero => intro i s r h; cases h
  | succ n ih =>
    intro i s
    refine am_do_le (fun j As h => ?_) (fun s => ih i s) _
    cases am_rc j As h
    · exact fun r h => h
    · exact ih j _
theorem am_run_le {n m : Nat} (h : n ≤ m) (i : Nat) (s : am_S) : am_le (am_run n i s) (am_run m i s) := by
  induction h with
  | refl => exact fun r h => h
  | step _ ih => exact fun r h => am_run_succ _ i s r (ih r h)
/-- what method i gives from a state, if it comes to an end -/
noncomputable def am_ev (i : Nat) (s : am_S) : Option am_R := @dite _ (∃ r n, am_run n i s = some r) (Classical.propDecidable _) (fun h => some h.choose) (fun _ => none)
theorem am_ev_iff {i : Nat} {s : am_S} {r : am_R} : am_ev i s = some r ↔ ∃ n, am_run n i s = some r := by
  unfold am_ev
  constructor
  · intro h
    split at h
    · rename_i g
      cases h
      exact g.choose_spec
    · cases h
  · intro h
    have g : ∃ r n, am_run n i s = some r := ⟨r, h⟩
    rw [dif_pos g]
    obtain ⟨n, hn⟩ := h
    obtain ⟨m, hm⟩ := g.choose_spec
    have h1 := am_run_le (Nat.le_max_left n m) i s _ hn
    have h2 := am_run_le (Nat.le_max_right n m) i s _ hm
    rw [h1] at h2
    exact h2.symm
theorem am_ev_none {i : Nat} {s : am_S} : am_ev i s = none ↔ ∀ n, am_run n i s = none := by
  constructor
  · intro h n
    cases g : am_run n i s with
    | none => rfl
    | some r => rw [am_ev_iff.mpr ⟨n, g⟩] at h; cases h
  · intro h
    cases g : am_ev i s with
    | none => rfl
    | some r => obtain ⟨n, hn⟩ := am_ev_iff.mp g; rw [h n] at hn; cases hn
/-- a call -/
noncomputable def am_cl (j : Nat) (As : List Value) (h : am_H) : Option am_R := bif am_rc j As h then am_ev j (0, am_l0 j As, [], h) else none
theorem am_cl_iff {j : Nat} {As : List Value} {h : am_H} {r : am_R} : am_cl j As h = some r ↔ ∃ n, (bif am_rc j As h then am_run n j (0, am_l0 j As, [], h) else none) = some r := by
  unfold am_cl
  cases am_rc j As h
  · constructor
    · intro h
      cases h
    · intro h
      obtain ⟨_, h⟩ := h
      cases h
  · exact am_ev_iff
theorem am_cl_le {n m : Nat} (hnm : n ≤ m) {j : Nat} {As : List Value} {h : am_H} {r : am_R} (hn : (bif am_rc j As h then am_run n j (0, am_l0 j As, [], h) else none) = some r) : (bif am_rc j As h then am_run m j (0, am_l0 j As, [], h) else none) = some r := by
  cases e : am_rc j As h <;> rw [e] at hn
  · cases hn
  · exact am_run_le hnm _ _ _ hn
theorem am_sw_fin {x : Int32} {t : List (Int32 × Nat)} {d : Nat} {K : Nat → Option am_R} {K' : Nat → Nat → Option am_R} {r : am_R} (h : ∀ p, K p = some r → ∃ n, K' n p = some r) (hz : am_sw x t d K = some r) : ∃ n, am_sw x t d (K' n) = some r := by
  induction t with
  | nil => exact h d hz
  | cons q rest ih =>
    unfold am_sw at hz ⊢
    cases g : decide (x = q.1) <;> rw [g] at hz
    · exact ih hz
    · exact h q.2 hz
theorem am_do_fin {i : Nat} (a : Option am_A) {z : am_R} (hz : am_do am_cl (am_ev i) a = some z) : ∃ n, am_do (fun j As h => bif am_rc j As h then am_run n j (0, am_l0 j As, [], h) else none) (am_run n i) a = some z := by
  match a, hz with
  | some (.inl r), hz => exact ⟨0, hz⟩
  | some (.inr (.inl s)), hz => exact am_ev_iff.mp hz
  | some (.inr (.inr (.inl (b, s, t)))), hz =>
    cases b
    · exact am_ev_iff.mp hz
    · exact am_ev_iff.mp hz
  | some (.inr (.inr (.inr (.inl (x, t, d, L, S, h))))), hz =>
    exact am_sw_fin (K' := fun n pc => am_run n i (pc, L, S, h)) (fun p hp => am_ev_iff.mp hp) hz
  | some (.inr (.inr (.inr (.inr (.inl (o, f)))))), hz =>
    cases o with
    | none => cases hz
    | some x => exact am_ev_iff.mp hz
  | some (.inr (.inr (.inr (.inr (.inr (.inl (o, f))))))), hz =>
    cases o with
    | none => cases hz
    | some x => exact am_ev_iff.mp hz
  | some (.inr (.inr (.inr (.inr (.inr (.inr (.inl (o, f)))))))), hz =>
    cases o with
    | none => cases hz
    | some x => exact am_ev_iff.mp hz
  | some (.inr (.inr (.inr (.inr (.inr (.inr (.inr (.inl (j, As, h, f))))))))), hz =>
    cases e : am_cl j As h with
    | none => simp only [am_do, e, am_bi] at hz; cases hz
    | some r => match r, e with
      | (some (.int x), h1), e =>
        simp only [am_do, e, am_bi] at hz
        obtain ⟨n, hn⟩ := am_cl_iff.mp e
        obtain ⟨m, hm⟩ := am_ev_iff.mp hz
        refine ⟨max n m, ?_⟩
        simp only [am_do]
        rw [am_cl_le (Nat.le_max_left n m) hn]
        exact am_run_le (Nat.le_max_right n m) _ _ _ hm
      | (some (.long _), _), e | (some (.float _), _), e | (some (.double _), _), e | (some .null, _), e | (some (.ref _), _), e | (some (.retAddr _), _), e | (none, _), e => simp only [am_do, e, am_bi] at hz; cases hz
  | some (.inr (.inr (.inr (.inr (.inr (.inr (.inr (.inr (.inl (j, As, h, f)))))))))), hz =>
    cases e : am_cl j As h with
    | none => simp only [am_do, e, am_bl] at hz; cases hz
    | some r => match r, e with
      | (some (.long x), h1), e =>
        simp only [am_do, e, am_bl] at hz
        obtain ⟨n, hn⟩ := am_cl_iff.mp e
        obtain ⟨m, hm⟩ := am_ev_iff.mp hz
        refine ⟨max n m, ?_⟩
        simp only [am_do]
        rw [am_cl_le (Nat.le_max_left n m) hn]
        exact am_run_le (Nat.le_max_right n m) _ _ _ hm
      | (some (.int _), _), e | (some (.float _), _), e | (some (.double _), _), e | (some .null, _), e | (some (.ref _), _), e | (some (.retAddr _), _), e | (none, _), e => simp only [am_do, e, am_bl] at hz; cases hz
  | some (.inr (.inr (.inr (.inr (.inr (.inr (.inr (.inr (.inr (.inl (j, As, h, f))))))))))), hz =>
    cases e : am_cl j As h with
    | none => simp only [am_do, e, am_bv] at hz; cases hz
    | some r => match r, e with
      | (none, h1), e =>
        simp only [am_do, e, am_bv] at hz
        obtain ⟨n, hn⟩ := am_cl_iff.mp e
        obtain ⟨m, hm⟩ := am_ev_iff.mp hz
        refine ⟨max n m, ?_⟩
        simp only [am_do]
        rw [am_cl_le (Nat.le_max_left n m) hn]
        exact am_run_le (Nat.le_max_right n m) _ _ _ hm
      | (some x, _), e => simp only [am_do, e, am_bv] at hz; cases hz
  | some (.inr (.inr (.inr (.inr (.inr (.inr (.inr (.inr (.inr (.inr (o, h))))))))))), hz => exact ⟨0, hz⟩
theorem am_ev_eq (i : Nat) (s : am_S) : am_ev i s = am_do am_cl (am_ev i) (am_act i s) := by
  cases e : am_do am_cl (am_ev i) (am_act i s) with
  | some z =>
    obtain ⟨n, hn⟩ := am_do_fin _ e
    exact am_ev_iff.mpr ⟨n + 1, hn⟩
  | none =>
    refine am_ev_none.mpr fun n => ?_
    cases g : am_run n i s with
    | none => rfl
    | some r =>
      cases n with
      | zero => cases g
      | succ n =>
        have := am_do_le (E' := am_cl) (K' := am_ev i) (fun j As h r hr => am_cl_iff.mpr ⟨n, hr⟩) (fun s r hr => am_ev_iff.mpr ⟨n, hr⟩) _ r g
        rw [e] at this
        cases this
def am_elem (l : List Nat) (k : Nat) : Bool := match l with
  | [] => false
  | x :: r => bif Nat.beq x k then true else am_elem r k
/-- n instructions at most, not beyond the places of 'stop' -/
noncomputable def am_go (stop : List Nat) : Nat → Nat → am_S → Option am_R
  | 0, i, s => am_ev i s
  | n + 1, i, s => am_do am_cl (fun s' => bif am_elem stop s'.1 then am_ev i s' else am_go stop n i s') (am_act i s)
theorem am_go_eq (stop : List Nat) (n : Nat) : ∀ (i : Nat) (s : am_S), am_go stop n i s = am_ev i s := by
  induction n with
  | zero => intro i s; rfl
  | succ n ih =>
    intro i s
    show am_do am_cl (fun s' => bif am_elem stop s'.1 then am_ev i s' else am_go stop n i s') (am_act i s) = _
    rw [am_ev_eq i s]
    congr 1
    funext s'
    rw [ih]
    cases am_elem stop s'.1 <;> rfl
theorem am_blk (stop : List Nat) (n : Nat) {i : Nat} {s : am_S} {t : Option am_R} (h : am_go stop n i s = t) : am_ev i s = t := (am_go_eq stop n i s).symm.trans h
end
section
/-! WHAT IS CHECKED OF THE TABLES, by decide -/
def am_okw (w : Cond) : Bool := match w with
  | .fieldLinkNest .. => true
  | .methodLinkNest .. => true
  | .arrayOver (.object _) => true
  | w => goodWord w
def am_has (p : Nat) (w : Cond) : Bool := decide (lw_tbl[p]? = some w) && am_okw w
def am_cl1 (c : Nat) : vw_C := am_cls.getD c ("", fun _ => ("", "", "", false), 0)
def am_fl (own : String) (idx c k p : Nat) : Bool :=
  Nat.blt c am_cls.length && Nat.blt k (am_cl1 c).2.2 && (am_has p (.fieldLink own idx (am_cl1 c).1 ((am_cl1 c).2.1 k).2.1 ((am_cl1 c).2.1 k).2.2.1) || am_has p (.fieldLinkNest own idx (am_cl1 c).1 ((am_cl1 c).2.1 k).2.1 ((am_cl1 c).2.1 k).2.2.1 am_host))
def am_fw (i : Nat) (own : String) (idx c k p : Nat) : Bool :=
  Nat.blt c am_cls.length && Nat.blt k (am_cl1 c).2.2 && (bif ((am_cl1 c).2.1 k).2.2.2 then am_has p (.fieldLink own idx (am_cl1 c).1 ((am_cl1 c).2.1 k).2.1 ((am_cl1 c).2.1 k).2.2.1) && decide ((am_meth i).2.1.name = "<init>") && decide ((am_cl1 c).1 = own) else (am_has p (.fieldLink own idx (am_cl1 c).1 ((am_cl1 c).2.1 k).2.1 ((am_cl1 c).2.1 k).2.2.1) || am_has p (.fieldLinkNest own idx (am_cl1 c).1 ((am_cl1 c).2.1 k).2.1 ((am_cl1 c).2.1 k).2.2.1 am_host)))
abbrev am_own (i : Nat) : String := (am_meth i).1
abbrev am_nm (i : Nat) : MethodName := (am_meth i).2.1
abbrev am_by (i : Nat) : ByteArray := (am_meth i).2.2.1
abbrev am_ml (i : Nat) : Nat := (am_meth i).2.2.2.1
abbrev am_rt (i : Nat) : Option FieldType := (am_meth i).2.2.2.2.1
abbrev am_na_ (i : Nat) : Nat := (am_meth i).2.2.2.2.2.1
abbrev am_rank (i : Nat) : Nat := (am_meth i).2.2.2.2.2.2.1
abbrev am_kd (i : Nat) : Nat := (am_meth i).2.2.2.2.2.2.2
def am_cj (i j n : Nat) : Bool := Nat.blt j am_N && Nat.blt j 1000 && Nat.beq n (am_na_ j) && Nat.blt (am_rank j) (am_rank i) && decide (j ≠ m_law)
/-- the places of the locals where method i keeps longs -/
def am_lp (i j : Nat) : Bool := (am_code i).any (fun e => match e.2.1 with
  | .lstore_n _ | .lstore _ => Nat.beq e.2.2.2.1 j
  | _ => false)
def am_lq (i a : Nat) : Bool := Nat.beq a 0 || !(am_lp i (a - 1))
def am_ck (i : Nat) (e : am_E) : Bool := match e with
  | (pc, ins, len, a1, a2, a3, ci, cl, sw) => decide (decode (am_by i) pc = .ok (ins, len)) && (match ins with
    | .iconst n => Nat.beq len 1 && decide (Int32.ofInt n = ci)
    | .bipush n => Nat.beq len 2 && decide ((Int8.ofInt n).toInt32 = ci)
    | .sipush n => Nat.beq len 3 && decide ((Int16.ofInt n).toInt32 = ci)
    | .ldc k => Nat.beq len 2 && am_has a3 (.constant (am_own i) k ci)
    | .lconst n => Nat.beq len 1 && decide (Int64.ofNat (n : Nat) = cl)
    | .ldc2_w k => Nat.beq len 3 && am_has a3 (.constantLong (am_own i) k cl)
    | .aconst_null => Nat.beq len 1
    | .iload_n k | .lload_n k | .aload_n k => Nat.beq len 1 && Nat.beq k.val a1
    | .iload k | .lload k | .aload k => Nat.beq len 2 && Nat.beq k a1
    | .istore_n k | .astore_n k => Nat.beq len 1 && Nat.beq k.val a1 && Nat.blt a1 (am_ml i) && am_lq i a1
    | .istore k | .astore k => Nat.beq len 2 && Nat.beq k a1 && Nat.blt a1 (am_ml i) && am_lq i a1
    | .lstore_n k => Nat.beq len 1 && Nat.beq k.val a1 && Nat.blt (a1 + 1) (am_ml i) && am_lq i a1 && am_lp i a1
    | .lstore k => Nat.beq len 2 && Nat.beq k a1 && Nat.blt (a1 + 1) (am_ml i) && am_lq i a1 && am_lp i a1
    | .iinc k n => Nat.beq len 3 && Nat.beq k a1 && decide (Int32.ofInt n = ci) && Nat.blt a1 (am_ml i) && am_lq i a1
    | .iadd | .isub | .imul | .iand | .idiv | .irem | .ladd | .lsub | .lmul | .ldiv | .lcmp | .i2l | .l2i | .i2c | .dup | .dup2 | .pop | .iaload | .caload | .aaload | .iastore | .castore | .aastore | .arraylength | .ireturn | .lreturn | .return_ => Nat.beq len 1
    | .if_icmp _ off | .ifCond _ off | .ifnull off | .goto off => Nat.beq len 3 && decide ((pc : Int) + off = (a1 : Int))
    | .tableswitch d lo hi offs => decide ((pc : Int) + d = (a1 : Int)) && decide (hi + 1 = lo + sw.length) && Nat.beq sw.length offs.size && (List.range sw.length).all (fun k => match sw[k]?, offs[k]? with
      | some q, some o => decide (q.1.toInt = lo + k) && decide ((pc : Int) + o = (q.2 : Int))
      | _, _ => false)
    | .lookupswitch d ps => decide ((pc : Int) + d = (a1 : Int)) && (ps.toList.zip (ps.toList.drop 1)).all (fun (a, next) => decide (a.1 < next.1)) && Nat.beq sw.length ps.toList.length && (sw.zip ps.toList).all (fun q => decide (q.1.1.toInt = q.2.1) && decide ((pc : Int) + q.2.2 = (q.1.2 : Int)))
    | .getfield k => Nat.beq len 3 && am_fl (am_own i) k a1 a2 a3
    | .putfield k => Nat.beq len 3 && am_fw i (am_own i) k a1 a2 a3
    | .new k => Nat.beq len 3 && Nat.blt a1 am_cls.length && am_has a3 (.classLink (am_own i) k (am_cl1 a1).1)
    | .newarray t => Nat.beq len 2 && ((decide (t = .int) && Nat.beq a1 0) || (decide (t = .char) && Nat.beq a1 1))
    | .anewarray k => Nat.beq len 3 && Nat.beq a1 am_qc && am_has a3 (.classLink (am_own i) k (am_cl1 a1).1)
    | .invokevirtual k => Nat.beq len 3 && am_cj i a1 a2 && Nat.beq (am_kd a1) 0 && am_has a3 (.methodLink (am_own i) k (am_nm a1))
    | .invokespecial k => Nat.beq len 3 && (bif Nat.beq a1 1003 then Nat.beq a2 1 && Nat.blt 0 (am_rank i) && am_has a3 (.methodLink (am_own i) k objectInit) else am_cj i a1 a2 && Nat.beq (am_kd a1) 2 && (am_has a3 (.methodLink (am_own i) k (am_nm a1)) || am_has a3 (.methodLinkNest (am_own i) k (am_nm a1) am_host)))
    | .invokestatic k => Nat.beq len 3 && (bif Nat.beq a1 1000 then Nat.beq a2 2 && Nat.blt 0 (am_rank i) && am_has a3 (.methodLink (am_own i) k Lib.Math.max.name) else bif Nat.beq a1 1001 then Nat.beq a2 2 && Nat.blt 0 (am_rank i) && am_has a3 (.methodLink (am_own i) k Lib.Math.min.name) else bif Nat.beq a1 1002 then Nat.beq a2 5 && Nat.blt 0 (am_rank i) && am_has a3 (.methodLink (am_own i) k arraycopyName) else am_cj i a1 a2 && Nat.beq (am_kd a1) 1 && am_has a3 (.methodLink (am_own i) k (am_nm a1)))
    | _ => false)
def am_mck (j : Nat) : Bool :=
  am_has (am_mp j).1 (.code (am_nm j) (am_by j) (am_ml j) (am_rt j)) && am_has (am_mp j).2.1 (.initialized (am_nm j).cls)
  && (bif Nat.beq (am_kd j) 1 then am_has (am_mp j).2.2.1 (.static (am_nm j)) else am_has (am_mp j).2.2.1 (.instanceMethod (am_nm j)))
  && (bif Nat.beq (am_kd j) 0 then am_has (am_mp j).2.2.2 (.selects (am_nm j).cls (am_nm j) (am_nm j)) else true)
  && (bif Nat.beq (am_kd j) 1 then true else (match am_rk j with
    | some c => Nat.blt c am_cls.length && decide ((am_cl1 c).1 = (am_nm j).cls) && Nat.blt 0 (am_na_ j)
    | none => false))
  && (bif Nat.beq (am_kd j) 2 then decide ((am_nm j).name = "<init>") && decide (am_rt j = none) else true)
  && plainName (am_nm j).cls && decide ((am_nm j).cls ≠ "java/lang/invoke/MethodHandle") && decide ((am_nm j).cls ≠ "java/lang/invoke/VarHandle")
  && decide ((parseMethodDescriptor (am_nm j).desc).map (fun d => d.parameters.length) = some (am_na_ j - (bif Nat.beq (am_kd j) 1 then 0 else 1)))
  && Nat.ble (am_ml j) 19 && Nat.ble (am_na_ j) (am_ml j) && Nat.beq (am_maxl j) (am_ml j) && decide (am_ret j = am_rt j) && decide (am_own j = (am_nm j).cls)
  && (match am_rt j with
    | none | some .int | some .boolean | some .long => true
    | _ => false)
def am_cck (c : Nat) : Bool :=
  am_has (am_cp1 c).1 (.instantiable (am_cl1 c).1 (am_cl1 c).2.2) && am_has (am_cp1 c).2.1 (.initialized (am_cl1 c).1)
  && (List.range (am_cl1 c).2.2).all (fun k => am_has ((am_cp1 c).2.2.getD k 0) (u_lay (am_cl1 c).1 (am_cl1 c).2.1 k) && decide (parseFieldDescriptor ((am_cl1 c).2.1 k).2.2.1 = some (am_ty c k)) && decide (((am_cl1 c).2.1 k).1 = (am_cl1 c).1)
    && (List.range (am_cl1 c).2.2).all (fun k' => Nat.beq k k' || decide (((am_cl1 c).2.1 k).2.1 ≠ ((am_cl1 c).2.1 k').2.1))
    && decide ((am_new c)[k]? = some (defaultValue (am_ty c k))))
  && Nat.beq (am_new c).length (am_cl1 c).2.2

/-- the words of what the library does itself, and of the kinds of arrays -/
def am_nck : Bool := am_has (am_pm.getD 0 0) (.static Lib.Math.max.name) && am_has (am_pm.getD 1 0) (.initialized "java/lang/Math") && am_has (am_pm.getD 2 0) (.code Lib.Math.max.name Lib.Math.max.code 2 (some .int))
  && am_has (am_pm.getD 3 0) (.static Lib.Math.min.name) && am_has (am_pm.getD 4 0) (.code Lib.Math.min.name Lib.Math.min.code 2 (some .int))
  && am_has (am_pm.getD 5 0) (.native arraycopyName) && am_has (am_pm.getD 6 0) (.static arraycopyName) && am_has (am_pm.getD 7 0) (.initialized "java/lang/System")
  && am_has (am_pm.getD 8 0) (.instanceMethod objectInit) && am_has (am_pm.getD 9 0) (.code objectInit ⟨#[0xb1]⟩ 1 none)
  && am_has (am_pa.getD 0 0) (.arrayClass .int) && am_has (am_pa.getD 1 0) (.arrayClass .char) && am_has am_qp (.arrayOver (.object (am_cl1 am_qc).1)) && Nat.blt am_qc am_cls.length
/-- the tables are in order -/
def am_tab : Prop := (∀ i, i < am_N → ∀ e, e ∈ am_code i → am_ck i e = true) ∧ (∀ j, j < am_N → j ≠ m_law → am_mck j = true) ∧ (∀ c, c < am_cls.length → am_cck c = true) ∧ am_nck = true ∧ (∀ i, i < am_N → am_ret i = am_rt i)
end
section
/-! HOW THE ABSTRACT HEAP LIES IN THE MACHINE'S: place 0 is the script's address b, place k + 1 the address base + k -/
theorem am_okw_keep {w : Cond} (h : am_okw w = true) {s U : State} (hW : s.WarmedH U.vm) (hs : w.before #[] s = true) : w.before #[] U = true := by
  cases w with
  | fieldLinkNest a i b n d o => exact va_Nw.warmF hW hs
  | methodLinkNest a i x o => exact va_Nw.warmM hW hs
  | arrayOver ty =>
    cases ty with
    | object C => exact va_AO.moved hW.alike hs
    | _ => simp [am_okw, goodWord, Cond.onTables] at h
  | _ => exact word_at hW (good_of_word h) hs
theorem am_okw_at {w : Cond} (h : am_okw w = true) {s U : State} (hv : s.vm = U.vm) {args args' : Array Value} (hs : w.before args s = true) : w.before args' U = true := by
  cases w with
  | fieldLinkNest a i b n d o => exact va_tabs rfl hv hs
  | methodLinkNest a i x o => exact va_tabs rfl hv hs
  | arrayOver ty =>
    cases ty with
    | object C => 
      have hs : va_AO C s := hs
      exact va_AO.moved (by rw [hv]; exact Vm.Alike.refl _) hs
    | _ => simp [am_okw, goodWord, Cond.onTables] at h
  | arrayClass ty =>
    have e : (Cond.arrayClass ty).before args s = (Cond.arrayClass ty).before args' U := by
      simp only [Cond.before, Cond.holds, Cond.value, hv]
    rw [← e]; exact hs
  | _ => first | exact va_tabs rfl hv hs | exact absurd (show false = true from h) (by decide)
/-- the tables' words hold -/
def am_T (U : State) : Prop := ∀ w ∈ lw_tbl, am_okw w = true → w.before #[] U = true
theorem am_T.warm {s U : State} (hW : s.WarmedH U.vm) (h : am_T s) : am_T U := fun w hw ho => am_okw_keep ho hW (h w hw ho)
theorem am_T.same {s U : State} (hv : s.vm = U.vm) (h : am_T s) : am_T U := fun w hw ho => am_okw_at ho hv (h w hw ho)
theorem am_has_at {p : Nat} {w : Cond} (h : am_has p w = true) {s : State} (hT : am_T s) (args : Array Value) : w.before args s = true := by
  have h2 := Bool.and_eq_true_iff.mp h
  exact am_okw_at h2.2 rfl (hT w (List.mem_of_getElem? (of_decide_eq_true h2.1)) h2.2)
theorem am_has_good {p : Nat} {w : Cond} (h : am_has p w = true) : am_okw w = true := (Bool.and_eq_true_iff.mp h).2
def am_ad (b base : Nat) (k : Nat) : Nat := match k with
  | 0 => b
  | j + 1 => base + j
def am_cv (ρ : Nat → Nat) (v : Value) : Value := match v with
  | .ref k => .ref (ρ k)
  | v => v
def am_or (ρ : Nat → Nat) (v : Value) : Option Nat := match v with
  | .ref k => some (ρ k)
  | _ => none
def am_cc (ky : Nat → ClassId) (ρ : Nat → Nat) (c : am_C) : va_E := match c with
  | .inl (t, l) => .inl (ky t, l.length, .inl (fun j => l.getD j 0))
  | .inr (c, vs) => bif Nat.ble 100 c then .inl (ky c, vs.length, .inr (.inr (.inr (.inr (fun j => am_or ρ (vs.getD j .null)))))) else .inr (c, vs.map (am_cv ρ))
def am_ws (ky : Nat → ClassId) (b base : Nat) (h : am_H) : va_W := (h.drop 1).mapIdx (fun k c => (base + k, am_cc ky (am_ad b base) c))
theorem am_ws_get {ky : Nat → ClassId} {b base : Nat} {h : am_H} (k : Nat) : (am_ws ky b base h)[k]? = (h[k + 1]?).map (fun c => (base + k, am_cc ky (am_ad b base) c)) := by
  unfold am_ws
  rw [List.getElem?_mapIdx, List.getElem?_drop, Nat.add_comm 1 k]
theorem am_ws_set {ky : Nat → ClassId} {b base : Nat} {h : am_H} (k : Nat) (c : am_C) : (am_ws ky b base h).set k (base + k, am_cc ky (am_ad b base) c) = am_ws ky b base (h.set (k + 1) c) := by
  apply List.ext_getElem?
  intro j
  rw [am_ws_get, List.getElem?_set, List.getElem?_set]
  by_cases hj : k = j
  · subst hj
    have e : (am_ws ky b base h).length = h.length - 1 := by simp [am_ws]
    rw [if_pos rfl, if_pos rfl, e]
    by_cases hl : k + 1 < h.length
    · rw [if_pos (by omega), if_pos hl]; rfl
    · rw [if_neg (by omega), if_neg hl]; rfl
  · rw [if_neg hj, if_neg (by omega), am_ws_get]
theorem am_ws_app {ky : Nat → ClassId} {b base : Nat} {h : am_H} (h0 : 0 < h.length) (c : am_C) : am_ws ky b base h ++ [(base + (h.length - 1), am_cc ky (am_ad b base) c)] = am_ws ky b base (h ++ [c]) := by
  apply List.ext_getElem?
  intro j
  have e : (am_ws ky b base h).length = h.length - 1 := by simp [am_ws]
  rw [am_ws_get, List.getElem?_append, List.getElem?_append, e]
  by_cases hl : j < h.length - 1
  · rw [if_pos hl, if_pos (by omega), am_ws_get]
  · rw [if_neg hl, if_neg (by omega)]
    rcases Nat.eq_or_lt_of_le (Nat.le_of_not_lt hl) with q | q
    · rw [← q, Nat.sub_self, show h.length - 1 + 1 - h.length = 0 by omega]; rfl
    · have h1 : ([(base + (h.length - 1), am_cc ky (am_ad b base) c)] : va_W)[j - (h.length - 1)]? = none := List.getElem?_eq_none (by simp; omega)
      have h2 : ([c] : List am_C)[j + 1 - h.length]? = none := List.getElem?_eq_none (by simp; omega)
      rw [h1, h2]; rfl
theorem am_ws_D {ky : Nat → ClassId} {b base : Nat} (h : am_H) : va_D (fun q : Nat => base ≤ q) (am_ws ky b base h) := by
  have key : ∀ (k : Nat) (q : Nat × va_E), (am_ws ky b base h)[k]? = some q → q.1 = base + k := by
    intro k q hq
    rw [am_ws_get] at hq
    cases e : h[k + 1]? with
    | none => rw [e] at hq; cases hq
    | some c => rw [e] at hq; cases hq; rfl
  refine ⟨fun i j p q hi hj hpq => ?_, fun k q hk => ?_⟩
  · have h1 := key i p hi; have h2 := key j q hj; omega
  · have h1 := key k q hk
    show base ≤ q.1
    omega
/-- the kinds of arrays -/
def am_tys (ky : Nat → ClassId) : List (ClassId × FieldType) := [(ky 0, .int), (ky 1, .char), (ky (am_qc + 100), .object (am_cl1 am_qc).1)]
/-- the abstract heap h lies in H -/
def am_hp (D : va_G) (ky : Nat → ClassId) (b base : Nat) (xs : List Int32) (h : am_H) (H : Heap) : Prop :=
  va_P D am_cls (am_ws ky b base h) H ∧ H.size + 1 = base + h.length ∧ h[0]? = some (.inl (7, xs))
/-- what holds of a state at a method's start -/
def am_ok (D : va_G) (ky : Nat → ClassId) (b base : Nat) (xs : List Int32) (U : State) : Prop :=
  am_T U ∧ va_K D am_cls (am_tys ky) U ∧ va_X b xs.length (fun j => xs.getD j 0) U U.heap ∧ b < base ∧ base ≤ U.heap.size
theorem am_ok.calling {D : va_G} {ky : Nat → ClassId} {b base : Nat} {xs : List Int32} {U : State} (h : am_ok D ky b base xs U) (g : JFrame) (mk : MethodId) (a : Array Value) : am_ok D ky b base xs (U.calling g mk a) :=
  ⟨am_T.same (s := U) (U := U.calling g mk a) rfl h.1, va_K.moved (u := U) (U := U.calling g mk a) (Vm.Alike.refl U.vm) h.2.1, va_X.moved (u := U) (U := U.calling g mk a) (Vm.Alike.refl U.vm) h.2.2.1, h.2.2.2⟩
/-- in a state of the same method: another heap, in which nothing below base is changed -/
theorem am_ok.moved {D : va_G} {ky : Nat → ClassId} {b base : Nat} {xs : List Int32} {s U : State} (h : am_ok D ky b base xs s) (hW : s.WarmedH U.vm) {H : Heap} {locs : List Loc} (hS : va_S (fun q : Nat => base ≤ q) s.heap H locs) (hU : U.heap = H) : am_ok D ky b base xs U := by
  obtain ⟨h1, h2, h3, h4, h5⟩ := h
  refine ⟨h1.warm hW, va_K.moved hW.alike h2, ?_, h4, by rw [hU]; exact Nat.le_trans h5 hS.1⟩
  refine va_X.kept (va_X.moved hW.alike h3) ?_
  rw [hU]
  exact hS.2.1 b (Nat.lt_of_lt_of_le h4 h5) (Nat.not_le.mpr h4)
/-- locals -/
def am_nf (v : Value) : Bool := match v with
  | .float _ => false
  | .double _ => false
  | .retAddr _ => false
  | _ => true
def am_ls (ρ : Nat → Nat) (k : Nat) (L : List Value) : List (Nat × Value) := match L with
  | [] => []
  | v :: r => bif am_nf v then (k, am_cv ρ v) :: am_ls ρ (k + 1) r else am_ls ρ (k + 1) r
theorem am_ls_mem {ρ : Nat → Nat} {L : List Value} {k : Nat} {q : Nat × Value} : q ∈ am_ls ρ k L ↔ ∃ j v, L[j]? = some v ∧ am_nf v = true ∧ q = (k + j, am_cv ρ v) := by
  induction L generalizing k with
  | nil => simp [am_ls]
  | cons v r ih =>
    constructor
    · intro h
      unfold am_ls at h
      cases e : am_nf v <;> rw [e] at h
      · obtain ⟨j, w, h1, h2, h3⟩ := ih.mp h
        exact ⟨j + 1, w, by simpa using h1, h2, by rw [h3]; congr 1; omega⟩
      · rcases List.mem_cons.mp h with h | h
        · exact ⟨0, v, rfl, e, h⟩
        · obtain ⟨j, w, h1, h2, h3⟩ := ih.mp h
          exact ⟨j + 1, w, by simpa using h1, h2, by rw [h3]; congr 1; omega⟩
    · rintro ⟨j, w, h1, h2, h3⟩
      unfold am_ls
      cases j with
      | zero =>
        have h1 : v = w := by simpa using h1
        subst h1
        rw [h2]
        exact List.mem_cons.mpr (Or.inl h3)
      | succ j =>
        have : q ∈ am_ls ρ (k + 1) r := ih.mpr ⟨j, w, by simpa using h1, h2, by rw [h3]; congr 1; omega⟩
        cases am_nf v
        · exact this
        · exact List.mem_cons.mpr (Or.inr this)
theorem am_ls_at {ρ : Nat → Nat} {L : List Value} {ls : Array Slot} {n : Nat} (h : lv_has ls n (am_ls ρ 0 L)) {i : Nat} {v : Value} (hi : L[i]? = some v) (hv : am_nf v = true) : ls[i]? = some (.val (am_cv ρ v)) := h.2.2 (i, am_cv ρ v) (am_ls_mem.mpr ⟨i, v, hi, hv, by simp⟩)
theorem am_ls_sub {ρ : Nat → Nat} {L : List Value} {ls : Array Slot} {n : Nat} {l : List (Nat × Value)} (h : lv_has ls n l) (hl : ∀ j v, L[j]? = some v → am_nf v = true → (j, am_cv ρ v) ∈ l) : lv_has ls n (am_ls ρ 0 L) := by
  refine ⟨h.1, h.2.1, fun q hq => ?_⟩
  obtain ⟨j, v, h1, h2, h3⟩ := am_ls_mem.mp hq
  rw [h3, Nat.zero_add]
  exact h.2.2 _ (hl j v h1 h2)
theorem am_cv_cat {ρ : Nat → Nat} (v : Value) : (am_cv ρ v).category = v.category := by cases v <;> rfl
theorem am_ls_old {ρ : Nat → Nat} {L : List Value} {i j : Nat} {u : Value} (hl : ∀ j x, i = j + 1 → L[j]? ≠ some (.long x)) (hj : L[j]? = some u) (hu : am_nf u = true) : ¬ (j + 1 = i ∧ u.category = 2) := by
  rintro ⟨q1, q2⟩
  cases u with
  | long x => exact hl j x q1.symm hj
  | double x => cases hu
  | _ => cases q2
theorem am_ls_st1 {ρ : Nat → Nat} {L : List Value} {ls : Array Slot} {n i : Nat} {v w : Value} (hl : ∀ j x, i = j + 1 → L[j]? ≠ some (.long x)) (hw : am_cv ρ v = w) (h : lv_has ls n ((i, w) :: (am_ls ρ 0 L).filter (fun q => !(q.1 == i) && !(q.1 + 1 == i && q.2.category == 2)))) : lv_has ls n (am_ls ρ 0 (am_st1 L i v)) := by
  refine am_ls_sub h fun j u hj hu => ?_
  unfold am_st1 at hj
  rw [List.getElem?_set] at hj
  by_cases q : i = j
  · rw [if_pos q] at hj
    split at hj
    · cases hj; subst q; rw [hw]; exact List.mem_cons_self
    · cases hj
  · rw [if_neg q] at hj
    have h2 := am_ls_old (ρ := ρ) hl hj hu
    refine List.mem_cons.mpr (Or.inr (List.mem_filter.mpr ⟨am_ls_mem.mpr ⟨j, u, hj, hu, by simp⟩, ?_⟩))
    simp only [am_cv_cat]
    simp only [Bool.and_eq_true, Bool.not_eq_true', beq_eq_false_iff_ne, ne_eq, Bool.and_eq_false_imp, beq_iff_eq]
    exact ⟨fun z => q z.symm, fun z1 z2 => h2 ⟨z1, z2⟩⟩
theorem am_ls_st2 {ρ : Nat → Nat} {L : List Value} {ls : Array Slot} {n i : Nat} {v w : Value} (hl : ∀ j x, i = j + 1 → L[j]? ≠ some (.long x)) (hw : am_cv ρ v = w) (h : lv_has ls n ((i, w) :: (am_ls ρ 0 L).filter (fun q => !(q.1 == i) && (!(q.1 == i + 1) && !(q.1 + 1 == i && q.2.category == 2))))) : lv_has ls n (am_ls ρ 0 (am_st2 L i v)) := by
  refine am_ls_sub h fun j u hj hu => ?_
  unfold am_st2 at hj
  rw [List.getElem?_set] at hj
  by_cases q : i + 1 = j
  · rw [if_pos q] at hj
    split at hj
    · cases hj; cases hu
    · cases hj
  · rw [if_neg q, List.getElem?_set] at hj
    by_cases q2 : i = j
    · rw [if_pos q2] at hj
      split at hj
      · cases hj; subst q2; rw [hw]; exact List.mem_cons_self
      · cases hj
    · rw [if_neg q2] at hj
      have h2 := am_ls_old (ρ := ρ) hl hj hu
      refine List.mem_cons.mpr (Or.inr (List.mem_filter.mpr ⟨am_ls_mem.mpr ⟨j, u, hj, hu, by simp⟩, ?_⟩))
      simp only [am_cv_cat]
      simp only [Bool.and_eq_true, Bool.not_eq_true', beq_eq_false_iff_ne, ne_eq, Bool.and_eq_false_imp, beq_iff_eq]
      exact ⟨fun z => q2 z.symm, fun z => q z.symm, fun z1 z2 => h2 ⟨z1, z2⟩⟩
/-- longs lie in their places alone -/
def am_lg (i : Nat) (L : List Value) : Prop := ∀ (j : Nat) x, L[j]? = some (.long x) → am_lp i j = true
theorem am_lg_no {i a : Nat} {L : List Value} (h : am_lg i L) (hq : am_lq i a = true) : ∀ j x, a = j + 1 → L[j]? ≠ some (.long x) := by
  intro j x e hj
  subst e
  have h1 := h j x hj
  rcases Bool.or_eq_true_iff.mp hq with q | q
  · cases q
  · rw [show j + 1 - 1 = j by omega, h1] at q; cases q
theorem am_lg_st1 {i a : Nat} {L : List Value} {v : Value} (h : am_lg i L) (hv : ∀ x, v ≠ .long x) : am_lg i (am_st1 L a v) := by
  intro j x hj
  unfold am_st1 at hj
  rw [List.getElem?_set] at hj
  split at hj
  · split at hj
    · cases hj; exact absurd rfl (hv x)
    · cases hj
  · exact h j x hj
theorem am_lg_st2 {i a : Nat} {L : List Value} {v : Value} (h : am_lg i L) (ha : am_lp i a = true) : am_lg i (am_st2 L a v) := by
  intro j x hj
  unfold am_st2 at hj
  rw [List.getElem?_set] at hj
  split at hj
  · split at hj
    · cases hj
    · cases hj
  · rw [List.getElem?_set] at hj
    split at hj
    · rename_i q; rw [← q]; exact ha
    · exact h j x hj
end
section
/-! the abstract heap only grows -/
def am_sz (c : am_C) : Nat := match c with
  | .inl (_, l) => l.length
  | .inr (_, vs) => vs.length
def am_sl (h : am_H) : Nat := (h.map am_sz).sum
def am_gr_ (h h' : am_H) : Prop := h.length ≤ h'.length ∧ am_sl h ≤ am_sl h'
theorem am_gr_.rfl {h : am_H} : am_gr_ h h := ⟨Nat.le_refl _, Nat.le_refl _⟩
theorem am_gr_.trans {a b c : am_H} (h1 : am_gr_ a b) (h2 : am_gr_ b c) : am_gr_ a c := ⟨Nat.le_trans h1.1 h2.1, Nat.le_trans h1.2 h2.2⟩
theorem am_sl_set {h : am_H} {a : Nat} {c c' : am_C} (hc : h[a]? = some c) (hz : am_sz c' = am_sz c) : am_sl (h.set a c') = am_sl h := by
  induction h generalizing a with
  | nil => simp at hc
  | cons x r ih =>
    cases a with
    | zero =>
      have e : x = c := by simpa using hc
      subst e
      simp [am_sl, hz]
    | succ a =>
      have e := ih (a := a) (by simpa using hc)
      simp only [am_sl, List.set_cons_succ, List.map_cons, List.sum_cons] at e ⊢
      rw [e]
theorem am_sl_app (h : am_H) (c : am_C) : am_sl (h ++ [c]) = am_sl h + am_sz c := by simp [am_sl]
theorem am_set_eq {h : am_H} {a : Nat} {c c' : am_C} (hc : h[a]? = some c) (hz : am_sz c' = am_sz c) : (h.set a c').length = h.length ∧ am_sl (h.set a c') = am_sl h := ⟨by simp, am_sl_set hc hz⟩
theorem am_pf_spec {h h' : am_H} {a c k : Nat} {v : Value} (hh : am_pf h a c k v = some h') : ∃ fs, h[a]? = some (.inr (c, fs)) ∧ k < fs.length ∧ h' = h.set a (.inr (c, fs.set k v)) := by
  unfold am_pf at hh
  split at hh
  · rename_i c' fs e
    cases q : (Nat.beq c' c && Nat.blt k fs.length) <;> rw [q] at hh
    · cases hh
    · obtain ⟨q1, q2⟩ := Bool.and_eq_true_iff.mp q
      have q1 := Nat.eq_of_beq_eq_true q1
      subst q1
      cases hh
      exact ⟨fs, e, Nat.le_of_ble_eq_true q2, rfl⟩
  · cases hh
theorem am_as_spec {h h' : am_H} {t a : Nat} {i v : Int32} (hh : am_as h t a i v = some h') : ∃ l, h[a]? = some (.inl (t, l)) ∧ am_in i l.length = true ∧ h' = h.set a (.inl (t, l.set i.toNatClampNeg v)) := by
  unfold am_as at hh
  split at hh
  · rename_i t' l e
    cases q : (Nat.beq t' t && am_in i l.length) <;> rw [q] at hh
    · cases hh
    · obtain ⟨q1, q2⟩ := Bool.and_eq_true_iff.mp q
      have q1 := Nat.eq_of_beq_eq_true q1
      subst q1
      cases hh
      exact ⟨l, e, q2, rfl⟩
  · cases hh
theorem am_qs_spec {h h' : am_H} {a v : Nat} {i : Int32} (hh : am_qs h a i v = some h') : ∃ vs fs, h[a]? = some (.inr (am_qc + 100, vs)) ∧ am_in i vs.length = true ∧ h[v]? = some (.inr (am_qc, fs)) ∧ h' = h.set a (.inr (am_qc + 100, vs.set i.toNatClampNeg (.ref v))) := by
  unfold am_qs at hh
  split at hh
  · rename_i c vs e
    cases q : (Nat.beq c (am_qc + 100) && am_in i vs.length) <;> rw [q] at hh
    · cases hh
    · obtain ⟨q1, q2⟩ := Bool.and_eq_true_iff.mp q
      have hh : (match h[v]? with
        | some (.inr (c', _)) => bif Nat.beq (c' + 100) c then some (h.set a (.inr (c, vs.set i.toNatClampNeg (.ref v)))) else none
        | _ => none) = some h' := hh
      split at hh
      · rename_i c' fs e2
        cases q3 : Nat.beq (c' + 100) c <;> rw [q3] at hh
        · cases hh
        · have q3 := Nat.eq_of_beq_eq_true q3
          have q1 := Nat.eq_of_beq_eq_true q1
          have q4 : c' = am_qc := by omega
          subst q1
          subst q4
          cases hh
          exact ⟨vs, fs, e, q2, e2, rfl⟩
      · cases hh
  · cases hh
theorem am_na_spec {h h' : am_H} {t : Nat} {n : Int32} (hh : am_na h t n = some h') : ¬ n < 0 ∧ n.toNatClampNeg ≤ 1000000 ∧ h' = h ++ [.inl (t, List.replicate n.toNatClampNeg 0)] := by
  unfold am_na at hh
  cases q : (decide (n < 0) || Nat.blt 1000000 n.toNatClampNeg) <;> rw [q] at hh
  · obtain ⟨q1, q2⟩ := Bool.or_eq_false_iff.mp q
    cases hh
    refine ⟨of_decide_eq_false q1, ?_, rfl⟩
    have : ¬ 1000000 < n.toNatClampNeg := fun z => by
      have := Nat.ble_eq_true_of_le (show 1000000 + 1 ≤ n.toNatClampNeg from z)
      rw [show Nat.blt 1000000 n.toNatClampNeg = Nat.ble (1000000 + 1) n.toNatClampNeg from rfl, this] at q2
      cases q2
    omega
  · cases hh
theorem am_nq_spec {h h' : am_H} {c : Nat} {n : Int32} (hh : am_nq h c n = some h') : ¬ n < 0 ∧ n.toNatClampNeg ≤ 1000000 ∧ h' = h ++ [.inr (c + 100, List.replicate n.toNatClampNeg .null)] := by
  unfold am_nq at hh
  cases q : (decide (n < 0) || Nat.blt 1000000 n.toNatClampNeg) <;> rw [q] at hh
  · obtain ⟨q1, q2⟩ := Bool.or_eq_false_iff.mp q
    cases hh
    refine ⟨of_decide_eq_false q1, ?_, rfl⟩
    have : ¬ 1000000 < n.toNatClampNeg := fun z => by
      have := Nat.ble_eq_true_of_le (show 1000000 + 1 ≤ n.toNatClampNeg from z)
      rw [show Nat.blt 1000000 n.toNatClampNeg = Nat.ble (1000000 + 1) n.toNatClampNeg from rfl, this] at q2
      cases q2
    omega
  · cases hh
theorem am_cp_spec {h h' : am_H} {a b : Nat} {sp dp n : Int32} (hh : am_cp h a sp b dp n = some h') : ∃ f g, h[a]? = some (.inl (0, f)) ∧ h[b]? = some (.inl (0, g)) ∧ ¬ sp < 0 ∧ ¬ dp < 0 ∧ ¬ n < 0 ∧ sp.toNatClampNeg + n.toNatClampNeg ≤ f.length ∧ dp.toNatClampNeg + n.toNatClampNeg ≤ g.length ∧ h' = h.set b (.inl (0, am_cpl f g sp.toNatClampNeg dp.toNatClampNeg n.toNatClampNeg)) := by
  unfold am_cp at hh
  split at hh
  · rename_i f e1
    split at hh
    · rename_i g e2
      cases q : (!(decide (sp < 0)) && (!(decide (dp < 0)) && (!(decide (n < 0)) && (Nat.ble (sp.toNatClampNeg + n.toNatClampNeg) f.length && Nat.ble (dp.toNatClampNeg + n.toNatClampNeg) g.length)))) <;> rw [q] at hh
      · cases hh
      · simp only [Bool.and_eq_true, Bool.not_eq_true', decide_eq_false_iff_not] at q
        obtain ⟨q1, q2, q3, q4, q5⟩ := q
        cases hh
        exact ⟨f, g, e1, e2, q1, q2, q3, Nat.le_of_ble_eq_true q4, Nat.le_of_ble_eq_true q5, rfl⟩
    · cases hh
  · cases hh
theorem am_gr_pf {h h' : am_H} {a c k : Nat} {v : Value} (hh : am_pf h a c k v = some h') : am_gr_ h h' := by
  obtain ⟨fs, h1, -, rfl⟩ := am_pf_spec hh
  have := am_set_eq h1 (c' := .inr (c, fs.set k v)) (by simp [am_sz])
  exact ⟨Nat.le_of_eq this.1.symm, Nat.le_of_eq this.2.symm⟩
theorem am_gr_as {h h' : am_H} {t a : Nat} {i v : Int32} (hh : am_as h t a i v = some h') : am_gr_ h h' := by
  obtain ⟨l, h1, -, rfl⟩ := am_as_spec hh
  have := am_set_eq h1 (c' := .inl (t, l.set i.toNatClampNeg v)) (by simp [am_sz])
  exact ⟨Nat.le_of_eq this.1.symm, Nat.le_of_eq this.2.symm⟩
theorem am_gr_qs {h h' : am_H} {a v : Nat} {i : Int32} (hh : am_qs h a i v = some h') : am_gr_ h h' := by
  obtain ⟨vs, fs, h1, -, -, rfl⟩ := am_qs_spec hh
  have := am_set_eq h1 (c' := .inr (am_qc + 100, vs.set i.toNatClampNeg (.ref v))) (by simp [am_sz])
  exact ⟨Nat.le_of_eq this.1.symm, Nat.le_of_eq this.2.symm⟩
theorem am_gr_cp {h h' : am_H} {a b : Nat} {sp dp n : Int32} (hh : am_cp h a sp b dp n = some h') : am_gr_ h h' := by
  obtain ⟨f, g, h1, h2, -, -, -, -, -, rfl⟩ := am_cp_spec hh
  have := am_set_eq h2 (c' := .inl (0, am_cpl f g sp.toNatClampNeg dp.toNatClampNeg n.toNatClampNeg)) (by simp [am_sz, am_cpl])
  exact ⟨Nat.le_of_eq this.1.symm, Nat.le_of_eq this.2.symm⟩
theorem am_gr_app {h : am_H} {c : am_C} : am_gr_ h (h ++ [c]) := ⟨by simp, by rw [am_sl_app]; omega⟩
theorem am_gr_na {h h' : am_H} {t : Nat} {n : Int32} (hh : am_na h t n = some h') : am_gr_ h h' := by
  obtain ⟨-, -, rfl⟩ := am_na_spec hh
  exact am_gr_app
theorem am_gr_nq {h h' : am_H} {c : Nat} {n : Int32} (hh : am_nq h c n = some h') : am_gr_ h h' := by
  obtain ⟨-, -, rfl⟩ := am_nq_spec hh
  exact am_gr_app
/-- an action's states have heaps that grew -/
def am_ag (h : am_H) (a : Option am_A) : Prop := match a with
  | none => True
  | some (.inl r) => am_gr_ h r.2
  | some (.inr (.inl s)) => am_gr_ h s.2.2.2
  | some (.inr (.inr (.inl (b, s, t)))) => am_gr_ h s.2.2.2 ∧ am_gr_ h t.2.2.2
  | some (.inr (.inr (.inr (.inl (x, t, d, L, S, h1))))) => am_gr_ h h1
  | some (.inr (.inr (.inr (.inr (.inl (o, f)))))) => ∀ x, o = some x → am_gr_ h (f x).2.2.2
  | some (.inr (.inr (.inr (.inr (.inr (.inl (o, f))))))) => ∀ x, o = some x → am_gr_ h (f x).2.2.2
  | some (.inr (.inr (.inr (.inr (.inr (.inr (.inl (o, f)))))))) => ∀ x, o = some x → am_gr_ h (f x).2.2.2
  | some (.inr (.inr (.inr (.inr (.inr (.inr (.inr (.inl (j, As, h1, f))))))))) => am_gr_ h h1 ∧ ∀ x h2, (f x h2).2.2.2 = h2
  | some (.inr (.inr (.inr (.inr (.inr (.inr (.inr (.inr (.inl (j, As, h1, f)))))))))) => am_gr_ h h1 ∧ ∀ x h2, (f x h2).2.2.2 = h2
  | some (.inr (.inr (.inr (.inr (.inr (.inr (.inr (.inr (.inr (.inl (j, As, h1, f))))))))))) => am_gr_ h h1 ∧ ∀ h2, (f h2).2.2.2 = h2
  | some (.inr (.inr (.inr (.inr (.inr (.inr (.inr (.inr (.inr (.inr (o, h1))))))))))) => am_gr_ h h1
theorem am_inv_ag (j n pc : Nat) (L S : List Value) (h : am_H) : am_ag h (am_inv j n pc L S h) := by
  unfold am_inv
  cases (Nat.blt 8 (am_cat (S.drop n)) || (Nat.blt S.length n || !(Nat.beq (am_cat (S.take n)) n)))
  · cases Nat.blt j 1000
    · show am_ag h (match j, S with
        | 1000, .int y :: .int x :: r => am_Go (pc, L, .int (am_max x y) :: r, h)
        | 1001, .int y :: .int x :: r => am_Go (pc, L, .int (am_min x y) :: r, h)
        | 1002, .int n :: .int dp :: .ref b :: .int sp :: .ref a :: r => am_Wr (am_cp h a sp b dp n) (fun h => (pc, L, r, h))
        | 1003, .ref _ :: r => am_Go (pc, L, r, h)
        | _, _ => none)
      split
      · exact am_gr_.rfl
      · exact am_gr_.rfl
      · exact fun x hx => am_gr_cp hx
      · exact am_gr_.rfl
      · trivial
    · show am_ag h (match am_ret j with
        | some .long => am_Cl j (S.take n).reverse h (fun x h => (pc, L, .long x :: S.drop n, h))
        | some _ => am_Ci j (S.take n).reverse h (fun x h => (pc, L, .int x :: S.drop n, h))
        | none => am_Cv j (S.take n).reverse h (fun h => (pc, L, S.drop n, h)))
      split
      · exact ⟨am_gr_.rfl, fun _ _ => rfl⟩
      · exact ⟨am_gr_.rfl, fun _ _ => rfl⟩
      · exact ⟨am_gr_.rfl, fun _ => rfl⟩
  · trivial

theorem am_gr_bf {h h' : am_H} {b : Bool} {a c k : Nat} {v : Value} (hh : (bif b then am_pf h a c k v else none) = some h') : am_gr_ h h' := by
  cases b
  · cases hh
  · exact am_gr_pf hh
theorem am_step_ag (i : Nat) (e : am_E) (L S : List Value) (h : am_H) : am_ag h (am_step i e L S h) := by
  obtain ⟨pc, ins, len, a1, a2, a3, ci, cl, sw⟩ := e
  cases ins <;> dsimp only [am_step] <;> (repeat' split) <;> first
    | exact am_gr_.rfl
    | exact ⟨am_gr_.rfl, am_gr_.rfl⟩
    | exact fun x _ => am_gr_.rfl
    | exact fun x hx => am_gr_pf hx
    | exact fun x hx => am_gr_bf hx
    | exact fun x hx => am_gr_as hx
    | exact fun x hx => am_gr_qs hx
    | exact fun x hx => am_gr_na hx
    | exact fun x hx => am_gr_nq hx
    | exact am_gr_app
    | exact am_inv_ag ..
    | trivial
    | (rename_i x y r; cases decide (x = 0) <;> first | exact am_gr_.rfl | trivial)
theorem am_act_ag (i : Nat) (s : am_S) : am_ag s.2.2.2 (am_act i s) := by
  obtain ⟨pc, L, S, h⟩ := s
  show am_ag h (match am_find (am_code i) pc with
    | some e => am_step i e L S h
    | none => none)
  split
  · exact am_step_ag ..
  · trivial
theorem am_sw_in {x : Int32} {t : List (Int32 × Nat)} {d : Nat} {K : Nat → Option am_R} {P : Option am_R → Prop} (h : ∀ p, P (K p)) : P (am_sw x t d K) := by
  induction t with
  | nil => exact h d
  | cons q r ih =>
    unfold am_sw
    cases decide (x = q.1)
    · exact ih
    · exact h q.2
theorem am_run_gr (n : Nat) : ∀ (i : Nat) (s : am_S) (r : am_R), am_run n i s = some r → am_gr_ s.2.2.2 r.2 := by
  induction n with
  | zero => intro i s r h; cases h
  | succ n ih =>
    intro i s r hz
    have hg := am_act_ag i s
    have hz : am_do (fun j As h => bif am_rc j As h then am_run n j (0, am_l0 j As, [], h) else none) (am_run n i) (am_act i s) = some r := hz
    have hE : ∀ j As h r, (bif am_rc j As h then am_run n j (0, am_l0 j As, [], h) else none) = some r → am_gr_ h r.2 := by
      intro j As h r hr
      cases q : am_rc j As h <;> rw [q] at hr
      · cases hr
      · exact ih j _ r hr
    generalize am_act i s = a at hg hz
    match a, hg, hz with
    | some (.inl r0), hg, hz => cases hz; exact hg
    | some (.inr (.inl s)), hg, hz => exact hg.trans (ih _ _ _ hz)
    | some (.inr (.inr (.inl (b, s, t)))), hg, hz =>
      cases b
      · exact hg.2.trans (ih _ _ _ hz)
      · exact hg.1.trans (ih _ _ _ hz)
    | some (.inr (.inr (.inr (.inl (x, t, d, L, S, h1))))), hg, hz =>
      exact am_sw_in (x := x) (t := t) (d := d) (K := fun pc => am_run n i (pc, L, S, h1)) (P := fun o => o = some r → am_gr_ s.2.2.2 r.2) (fun p hp => am_gr_.trans hg (ih _ _ _ hp)) hz
    | some (.inr (.inr (.inr (.inr (.inl (o, f)))))), hg, hz =>
      cases o with
      | none => cases hz
      | some x => exact (hg x rfl).trans (ih _ _ _ hz)
    | some (.inr (.inr (.inr (.inr (.inr (.inl (o, f))))))), hg, hz =>
      cases o with
      | none => cases hz
      | some x => exact (hg x rfl).trans (ih _ _ _ hz)
    | some (.inr (.inr (.inr (.inr (.inr (.inr (.inl (o, f)))))))), hg, hz =>
      cases o with
      | none => cases hz
      | some x => exact (hg x rfl).trans (ih _ _ _ hz)
    | some (.inr (.inr (.inr (.inr (.inr (.inr (.inr (.inl (j, As, h1, f))))))))), hg, hz =>
      have e := hE j As h1
      simp only [am_do] at hz
      generalize (bif am_rc j As h1 then am_run n j (0, am_l0 j As, [], h1) else none) = o at hz e
      match o, hz, e with
      | some (some (.int x), h2), hz, e =>
        have h3 := ih _ _ _ hz
        rw [hg.2 x h2] at h3
        exact hg.1.trans (am_gr_.trans (e _ rfl) h3)
    | some (.inr (.inr (.inr (.inr (.inr (.inr (.inr (.inr (.inl (j, As, h1, f)))))))))), hg, hz =>
      have e := hE j As h1
      simp only [am_do] at hz
      generalize (bif am_rc j As h1 then am_run n j (0, am_l0 j As, [], h1) else none) = o at hz e
      match o, hz, e with
      | some (some (.long x), h2), hz, e =>
        have h3 := ih _ _ _ hz
        rw [hg.2 x h2] at h3
        exact hg.1.trans (am_gr_.trans (e _ rfl) h3)
    | some (.inr (.inr (.inr (.inr (.inr (.inr (.inr (.inr (.inr (.inl (j, As, h1, f))))))))))), hg, hz =>
      have e := hE j As h1
      simp only [am_do] at hz
      generalize (bif am_rc j As h1 then am_run n j (0, am_l0 j As, [], h1) else none) = o at hz e
      match o, hz, e with
      | some (none, h2), hz, e =>
        have h3 := ih _ _ _ hz
        rw [hg.2 h2] at h3
        exact hg.1.trans (am_gr_.trans (e _ rfl) h3)
    | some (.inr (.inr (.inr (.inr (.inr (.inr (.inr (.inr (.inr (.inr (o, h1))))))))))), hg, hz =>
      cases o with
      | none => cases hz
      | some x => cases hz; exact hg
end
section
/-! ROWS: what the heap's instructions do to the abstract heap (each with the machine's heap's size, which the allocation needs) -/
theorem am_cls_len : am_cls.length ≤ 100 := by decide
theorem am_cls_at {k : Nat} (h : k < am_cls.length) : am_cls[k]? = some (am_cl1 k) := by
  unfold am_cl1
  rw [List.getD_eq_getElem?_getD, List.getElem?_eq_getElem h]; rfl
theorem am_cck_lay {k : Nat} (h : am_cck k = true) : ∀ j, j < (am_cl1 k).2.2 → am_has ((am_cp1 k).2.2.getD j 0) (u_lay (am_cl1 k).1 (am_cl1 k).2.1 j) = true ∧ parseFieldDescriptor ((am_cl1 k).2.1 j).2.2.1 = some (am_ty k j) ∧ ((am_cl1 k).2.1 j).1 = (am_cl1 k).1 ∧ (∀ j', j' < (am_cl1 k).2.2 → j ≠ j' → ((am_cl1 k).2.1 j).2.1 ≠ ((am_cl1 k).2.1 j').2.1) ∧ (am_new k)[j]? = some (defaultValue (am_ty k j)) := by
  intro j hj
  have h1 := (Bool.and_eq_true_iff.mp (Bool.and_eq_true_iff.mp h).1).2
  have h2 := List.all_eq_true.mp h1 j (List.mem_range.mpr hj)
  simp only [Bool.and_eq_true, decide_eq_true_eq] at h2
  obtain ⟨⟨⟨⟨a1, a2⟩, a3⟩, a4⟩, a5⟩ := h2
  refine ⟨a1, a2, a3, fun j' hj' hne => ?_, a5⟩
  have h3 := List.all_eq_true.mp a4 j' (List.mem_range.mpr hj')
  simp only [Bool.or_eq_true, decide_eq_true_eq] at h3
  rcases h3 with h3 | h3
  · exact absurd (Nat.eq_of_beq_eq_true h3) hne
  · exact h3
theorem am_cck_ws {k : Nat} (h : am_cck k = true) {s : State} (hT : am_T s) (args : Array Value) : ∀ w ∈ u_ws (am_cl1 k).1 (am_cl1 k).2.1 (am_cl1 k).2.2, w.before args s = true := by
  intro w hw
  obtain ⟨j, hj, rfl⟩ := List.mem_map.mp hw
  exact am_has_at (am_cck_lay h j (List.mem_range.mp hj)).1 hT args
theorem am_pos {D : va_G} {ky : Nat → ClassId} {b base : Nat} {xs : List Int32} {h : am_H} {H : Heap} (hh : am_hp D ky b base xs h H) {a : Nat} {x : am_C} (hc : h[a]? = some x) (hne : ∀ l, x ≠ .inl (7, l)) : ∃ k, a = k + 1 ∧ (am_ws ky b base h)[k]? = some (base + k, am_cc ky (am_ad b base) x) := by
  cases a with
  | zero => rw [hh.2.2] at hc; cases hc; exact absurd rfl (hne xs)
  | succ k => exact ⟨k, rfl, by rw [am_ws_get, hc]; rfl⟩
theorem am_in_vp {i : Int32} {n : Nat} (h : am_in i n = true) : vp_in i n := by
  obtain ⟨h1, h2⟩ := Bool.and_eq_true_iff.mp h
  rintro (q | q)
  · rw [decide_eq_true q] at h1; cases h1
  · have := Nat.le_of_ble_eq_true h2
    omega
theorem am_hp_set {D : va_G} {ky : Nat → ClassId} {b base : Nat} {xs : List Int32} {h : am_H} {H H1 : Heap} (hh : am_hp D ky b base xs h H) {k : Nat} {x : am_C} {y : va_E} (hy : y = am_cc ky (am_ad b base) x) (hP : va_P D am_cls ((am_ws ky b base h).set k (base + k, y)) H1) (hz : H1.size = H.size) : am_hp D ky b base xs (h.set (k + 1) x) H1 := by
  refine ⟨?_, by rw [hz, List.length_set]; exact hh.2.1, by rw [List.getElem?_set_ne (by omega)]; exact hh.2.2⟩
  rw [← am_ws_set, ← hy]
  exact hP
theorem am_hp_app {D : va_G} {ky : Nat → ClassId} {b base : Nat} {xs : List Int32} {h : am_H} {H H1 : Heap} (hh : am_hp D ky b base xs h H) {x : am_C} {y : va_E} (hy : y = am_cc ky (am_ad b base) x) (hP : va_P D am_cls (am_ws ky b base h ++ [(H.size, y)]) H1) (hz : H1.size = H.size + 1) : am_hp D ky b base xs (h ++ [x]) H1 ∧ am_ad b base h.length = H.size := by
  have h0 : 0 < h.length := (List.getElem?_eq_some_iff.mp hh.2.2).1
  have e : H.size = base + (h.length - 1) := by have := hh.2.1; omega
  refine ⟨⟨?_, by rw [hz, List.length_append]; have := hh.2.1; simp; omega, by rw [List.getElem?_append_left h0]; exact hh.2.2⟩, ?_⟩
  · rw [← am_ws_app h0, ← hy, ← e]
    exact hP
  · obtain ⟨n, hn⟩ : ∃ n, h.length = n + 1 := ⟨h.length - 1, by omega⟩
    rw [hn] at e ⊢
    exact e.symm
section AMR
variable {p : Program} {l : Launch} {e : Env} {R : Room} {s : State} {m : MethodId} {args : Array Value} {below : List Frame} {meth : Method} {c : Code} {H : Heap} {locs : List Loc} {cells slots : Nat} {Q : State → Prop} {pc : Nat} {ls : Array Slot} {rest : List Value} {cc : ByteArray}
variable {D : va_G} {ky : Nat → ClassId} {b base : Nat} {xs : List Int32} {h : am_H} {own : String} {a : Nat}
theorem am_rt_get (hx : p.tables.exec = Jvm.exec) (hb : c.code = cc) (hown : s.vm.findClass own = some m.cls) (hok : am_ok D ky b base xs s) (hh : am_hp D ky b base xs h H) {ci k idx q : Nat} (hck : am_cck ci = true) (hfl : am_fl own idx ci k q = true) {fs : List Value} {v : Value} (hc : h[a]? = some (.inr (ci, fs))) (hv : fs[k]? = some v) (hdg : decode cc pc = .ok (.getfield idx, 3))
    (kk : W p l e R s m args below meth c H locs cells slots Q (F0 m (pc + 3) ls (am_cv (am_ad b base) v :: rest))) : W p l e R s m args below meth c H locs cells slots Q (F0 m pc ls (.ref (am_ad b base a) :: rest)) := by
  obtain ⟨h1, h2⟩ := Bool.and_eq_true_iff.mp hfl
  obtain ⟨h3, h4⟩ := Bool.and_eq_true_iff.mp h1
  have hci : ci < am_cls.length := Nat.le_of_ble_eq_true h3
  have hk : k < (am_cl1 ci).2.2 := Nat.le_of_ble_eq_true h4
  obtain ⟨k', rfl, hw⟩ := am_pos hh hc (fun l q => by cases q)
  have hcc : am_cc ky (am_ad b base) (.inr (ci, fs)) = .inr (ci, fs.map (am_cv (am_ad b base))) := by
    have : Nat.ble 100 ci = false := by
      cases z : Nat.ble 100 ci
      · rfl
      · have := Nat.le_of_ble_eq_true z; have := am_cls_len; omega
    simp only [am_cc, this]; rfl
  rw [hcc] at hw
  have hlay := am_cck_lay hck k hk
  have hv' : (fs.map (am_cv (am_ad b base)))[k]? = some (am_cv (am_ad b base) v) := by rw [List.getElem?_map, hv]; rfl
  rcases Bool.or_eq_true_iff.mp h2 with g | g
  · exact va_get (Ts := u_ws (am_cl1 ci).1 (am_cl1 ci).2.1 (am_cl1 ci).2.2) hx hb (am_cck_ws hck hok.1 args) (fun w h => h) hown hok.2.1 hh.1 k' hw (am_cls_at hci) k hk (am_has_at g hok.1 args) (fun x h => by rw [hlay.2.2.1] at h; exact h) hv' hdg kk
  · exact va_getN (Ts := u_ws (am_cl1 ci).1 (am_cl1 ci).2.1 (am_cl1 ci).2.2) hx hb (am_cck_ws hck hok.1 args) (fun w h => h) hown hok.2.1 hh.1 k' hw (am_cls_at hci) k hk (am_has_at g hok.1 args) (fun x h => by rw [hlay.2.2.1] at h; exact h) hv' hdg kk
theorem am_rt_put {i : Nat} (hx : p.tables.exec = Jvm.exec) (hb : c.code = cc) (hown : s.vm.findClass own = some m.cls) (hname : (am_nm i).name = "<init>" → meth.name = "<init>") (hok : am_ok D ky b base xs s) (hh : am_hp D ky b base xs h H) (hS : va_S (fun q : Nat => base ≤ q) s.heap H locs) {ci k idx q : Nat} (hck : am_cck ci = true) (hfl : am_fw i own idx ci k q = true) {fs : List Value} {v : Value} (hc : h[a]? = some (.inr (ci, fs))) (hl : k < fs.length) (hn : narrow (am_ty ci k) (am_cv (am_ad b base) v) = am_cv (am_ad b base) v) (hfit : fits (am_ty ci k) (am_cv (am_ad b base) v) = true) (hdg : decode cc pc = .ok (.putfield idx, 3))
    (kk : ∀ H1 locs1, am_hp D ky b base xs (h.set a (.inr (ci, fs.set k v))) H1 → va_S (fun q : Nat => base ≤ q) s.heap H1 locs1 → W p l e R s m args below meth c H1 locs1 cells slots Q (F0 m (pc + 3) ls rest)) : W p l e R s m args below meth c H locs cells slots Q (F0 m pc ls (am_cv (am_ad b base) v :: .ref (am_ad b base a) :: rest)) := by
  obtain ⟨h1, h2⟩ := Bool.and_eq_true_iff.mp hfl
  obtain ⟨h3, h4⟩ := Bool.and_eq_true_iff.mp h1
  have hci : ci < am_cls.length := Nat.le_of_ble_eq_true h3
  have hk : k < (am_cl1 ci).2.2 := Nat.le_of_ble_eq_true h4
  obtain ⟨k', rfl, hw⟩ := am_pos hh hc (fun l q => by cases q)
  have h100 : Nat.ble 100 ci = false := by
    cases z : Nat.ble 100 ci
    · rfl
    · have := Nat.le_of_ble_eq_true z; have := am_cls_len; omega
  have hcc : ∀ fs, am_cc ky (am_ad b base) (.inr (ci, fs)) = .inr (ci, fs.map (am_cv (am_ad b base))) := by
    intro fs
    simp only [am_cc, h100]; rfl
  rw [hcc] at hw
  have hlay := am_cck_lay hck k hk
  have hts := am_cck_ws hck hok.1 args
  have hin : ∀ w ∈ u_ws (am_cl1 ci).1 (am_cl1 ci).2.1 (am_cl1 ci).2.2, w ∈ u_ws (am_cl1 ci).1 (am_cl1 ci).2.1 (am_cl1 ci).2.2 := fun w h => h
  have hcl := am_cls_at hci
  have hap := va_apart (own := own) hts hin (am_ty ci) (fun j hj => (am_cck_lay hck j hj).2.1) (fun x hx y hy hne => (am_cck_lay hck x hx).2.2.2.1 y hy hne) hok.2.1 hcl
  obtain ⟨r, hr1, cell, q1, q2, q3, q4⟩ := hh.1 k' _ hw
  have hr : r = am_cl1 ci := Option.some.inj (hr1.symm.trans hcl)
  subst hr
  obtain ⟨hSl, hfc, kC, hkC, hkind⟩ := hok.2.1.1 ci _ hcl
  obtain ⟨cf, kf, fi, f, hi, hsl⟩ := hSl k hk
  have hlw := hts _ (hin _ (u_in_lay hk))
  have hst := (u_facts hfc hkC (u_lays hts hin hk) hi).1
  have hsame : s.fieldFound? (am_cl1 ci).1 ((am_cl1 ci).2.1 k).2.1 ((am_cl1 ci).2.1 k).2.2.1 = some (cf, kf, fi, f) := by rw [hlay.2.2.1] at hi; exact hi
  have fin : ∀ H', H'[base + k']? = some (cell.setSlot ((D.2 ci) k) (am_cv (am_ad b base) v)) → H'.size = H.size → (∀ q : Nat, q ≠ base + k' → H'[q]? = H[q]?) → am_hp D ky b base xs (h.set (k' + 1) (.inr (ci, fs.set k v))) H' := by
    intro H' e1 e2 e3
    refine am_hp_set hh (y := .inr (ci, (fs.map (am_cv (am_ad b base))).set k (am_cv (am_ad b base) v))) (by rw [hcc, List.map_set]) (va_P.set hh.1 (am_ws_D h) hw ⟨_, hcl, t_OB.to (V := updV (vp_V (fs.map (am_cv (am_ad b base)))) k (am_cv (am_ad b base) v)) ⟨_, e1, q2, q3, t_set q4 hap hk _⟩ (fun j _ => vp_updV_set (by simpa using hl) _ j)⟩ e3) e2
  cases hfin : ((am_cl1 ci).2.1 k).2.2.2
  · rw [hfin] at h2
    unfold u_lay at hlw
    rw [if_neg (by rw [hfin]; decide)] at hlw
    have h6 := u_store hfc hkC hkind hlw hi hlay.2.1 hn hfit
    rcases Bool.or_eq_true_iff.mp h2 with g | g
    · refine W.putK hx hb (f := f) ⟨hown, am_has_at g hok.1 args, ⟨_, _, _, hsame⟩, hst⟩ (by rw [q2]; exact h6) q1 q3 (by rw [hsl]; exact k2_hasslot (q4 k hk)) rfl rfl hdg fun H' e1 e2 e3 => ?_
      rw [hsl] at e1 ⊢
      exact kk H' _ (fin H' e1 e2 e3) (hS.put e2 e3 (Nat.le_add_right _ _))
    · refine va_WputK hx hb (f := f) hown (am_has_at g hok.1 args) hsame hst (by rw [q2]; exact h6) q1 q3 (by rw [hsl]; exact k2_hasslot (q4 k hk)) rfl rfl hdg fun H' e1 e2 e3 => ?_
      rw [hsl] at e1 ⊢
      exact kk H' _ (fin H' e1 e2 e3) (hS.put e2 e3 (Nat.le_add_right _ _))
  · rw [hfin] at h2
    obtain ⟨h5, h7⟩ := Bool.and_eq_true_iff.mp h2
    obtain ⟨h5, h6⟩ := Bool.and_eq_true_iff.mp h5
    have hin2 : meth.name = "<init>" := hname (of_decide_eq_true h6)
    have hdecl : (am_cl1 ci).1 = own := of_decide_eq_true h7
    unfold u_lay at hlw
    rw [if_pos hfin] at hlw
    have hcf : m.cls = cf := by
      obtain ⟨_, _, c', _, _, _, -, -, hf', -, -, -, hown2, -⟩ := Cond.laysFinal_spec hlw
      have e1 : c' = cf := by have := hi.symm.trans hf'; simp at this; exact this.1.symm
      rw [hlay.2.2.1, hdecl] at hown2
      rw [← e1]; exact Option.some.inj (hown.symm.trans hown2)
    have h6 := u_fits hfc hkC hkind (Or.inr hlw) hi hlay.2.1 hn hfit
    refine W.putFinK hx hb hown (am_has_at h5 hok.1 args) hsame hst hcf hin2 (by rw [q2]; exact h6) q1 q3 (by rw [hsl]; exact k2_hasslot (q4 k hk)) rfl rfl hdg fun H' e1 e2 e3 => ?_
    rw [hsl] at e1 ⊢
    exact kk H' _ (fin H' e1 e2 e3) (hS.put e2 e3 (Nat.le_add_right _ _))
end AMR
end
section
theorem am_in_lt {i : Int32} {n : Nat} (h : am_in i n = true) : i.toNatClampNeg < n := Nat.le_of_ble_eq_true (Bool.and_eq_true_iff.mp h).2
theorem am_getD_at {l : List Int32} {k : Nat} {x : Int32} (h : l[k]? = some x) : l.getD k 0 = x := by rw [List.getD_eq_getElem?_getD, h]; rfl
theorem am_upd_set {l : List Int32} {k : Nat} {x : Int32} (hk : k < l.length) : upd (fun j => l.getD j 0) k x = fun j => (l.set k x).getD j 0 := by
  funext j
  simp only [upd, List.getD_eq_getElem?_getD, List.getElem?_set]
  by_cases hj : j = k
  · subst hj
    simp [hk]
  · rw [if_neg hj, if_neg (fun q => hj q.symm)]
theorem am_up_set {ρ : Nat → Nat} {vs : List Value} {k v : Nat} (hk : k < vs.length) : va_up (fun j => am_or ρ (vs.getD j .null)) k (some (ρ v)) = fun j => am_or ρ ((vs.set k (.ref v)).getD j .null) := by
  funext j
  simp only [va_up, List.getD_eq_getElem?_getD, List.getElem?_set]
  by_cases hj : j = k
  · subst hj
    simp [hk, am_or]
  · rw [if_neg hj, if_neg (fun q => hj q.symm)]
theorem am_cpy_fun {f g : List Int32} {sp dp n : Nat} (hg : dp + n ≤ g.length) : va_cpy (fun j => f.getD j 0) (fun j => g.getD j 0) sp dp n = fun j => (am_cpl f g sp dp n).getD j 0 := by
  funext j
  simp only [va_cpy, am_cpl, List.getD_eq_getElem?_getD, List.getElem?_map]
  by_cases hj : j < g.length
  · rw [List.getElem?_range hj]; rfl
  · have e1 : (List.range g.length)[j]? = none := List.getElem?_eq_none (by simpa using Nat.le_of_not_lt hj)
    have e2 : g[j]? = none := List.getElem?_eq_none (Nat.le_of_not_lt hj)
    rw [e1, if_neg (by omega), e2]; rfl
section AMR
variable {p : Program} {l : Launch} {e : Env} {R : Room} {s : State} {m : MethodId} {args : Array Value} {below : List Frame} {meth : Method} {c : Code} {H : Heap} {locs : List Loc} {cells slots : Nat} {Q : State → Prop} {pc : Nat} {ls : Array Slot} {rest : List Value} {cc : ByteArray}
variable {D : va_G} {ky : Nat → ClassId} {b base : Nat} {xs : List Int32} {h : am_H} {own : String} {a : Nat}
theorem am_rt_al (hx : p.tables.exec = Jvm.exec) (hb : c.code = cc) (hok : am_ok D ky b base xs s) (hh : am_hp D ky b base xs h H) (hS : va_S (fun q : Nat => base ≤ q) s.heap H locs) {i x : Int32} (hr : am_al h 0 a i = some x) (hdg : decode cc pc = .ok (.iaload, 1))
    (kk : W p l e R s m args below meth c H locs cells slots Q (F0 m (pc + 1) ls (.int x :: rest))) : W p l e R s m args below meth c H locs cells slots Q (F0 m pc ls (.int i :: .ref (am_ad b base a) :: rest)) := by
  unfold am_al at hr
  split at hr
  · rename_i t q hc
    cases g : ((Nat.beq t 0 || (Nat.beq t 7 && (Nat.beq a 0 && Nat.beq 0 0))) && am_in i q.length) <;> rw [g] at hr
    · cases hr
    · obtain ⟨g1, g2⟩ := Bool.and_eq_true_iff.mp g
      have hr : q[i.toNatClampNeg]? = some x := hr
      cases a with
      | zero =>
        rw [hh.2.2] at hc
        cases hc
        rw [← am_getD_at hr] at kk
        exact va_sld (A := fun q : Nat => base ≤ q) hx hb hok.2.2.1 (Nat.lt_of_lt_of_le hok.2.2.2.1 hok.2.2.2.2) (Nat.not_le.mpr hok.2.2.2.1) hS (am_in_vp g2) hdg kk
      | succ k =>
        have g3 : t = 0 := by
          rcases Bool.or_eq_true_iff.mp g1 with z | z
          · exact Nat.eq_of_beq_eq_true z
          · have z2 := (Bool.and_eq_true_iff.mp (Bool.and_eq_true_iff.mp z).2).1
            cases z2
        subst g3
        have hw : (am_ws ky b base h)[k]? = some (base + k, .inl (ky 0, q.length, .inl (fun j => q.getD j 0))) := by rw [am_ws_get, hc]; rfl
        rw [← am_getD_at hr] at kk
        exact va_iald hx hb hok.2.1 hh.1 k 0 hw (by rfl) (am_in_vp g2) hdg kk
  · cases hr
theorem am_rt_cl (hx : p.tables.exec = Jvm.exec) (hb : c.code = cc) (hok : am_ok D ky b base xs s) (hh : am_hp D ky b base xs h H) {i x : Int32} (hr : am_al h 1 a i = some x) (hdg : decode cc pc = .ok (.caload, 1))
    (kk : W p l e R s m args below meth c H locs cells slots Q (F0 m (pc + 1) ls (.int x :: rest))) : W p l e R s m args below meth c H locs cells slots Q (F0 m pc ls (.int i :: .ref (am_ad b base a) :: rest)) := by
  unfold am_al at hr
  split at hr
  · rename_i t q hc
    cases g : ((Nat.beq t 1 || (Nat.beq t 7 && (Nat.beq a 0 && Nat.beq 1 0))) && am_in i q.length) <;> rw [g] at hr
    · cases hr
    · obtain ⟨g1, g2⟩ := Bool.and_eq_true_iff.mp g
      have hr : q[i.toNatClampNeg]? = some x := hr
      have g3 : t = 1 := by
        rcases Bool.or_eq_true_iff.mp g1 with z | z
        · exact Nat.eq_of_beq_eq_true z
        · have z2 := (Bool.and_eq_true_iff.mp (Bool.and_eq_true_iff.mp z).2).2
          cases z2
      subst g3
      obtain ⟨k, rfl, hw⟩ := am_pos hh hc (fun l q => by cases q)
      rw [← am_getD_at hr] at kk
      exact va_cald hx hb hok.2.1 hh.1 k 1 hw (by rfl) (am_in_vp g2) hdg kk
  · cases hr
theorem am_rt_ql (hx : p.tables.exec = Jvm.exec) (hb : c.code = cc) (hok : am_ok D ky b base xs s) (hh : am_hp D ky b base xs h H) {i : Int32} {x : Nat} (hr : am_ql h a i = some x) (hdg : decode cc pc = .ok (.aaload, 1))
    (kk : W p l e R s m args below meth c H locs cells slots Q (F0 m (pc + 1) ls (.ref (am_ad b base x) :: rest))) : W p l e R s m args below meth c H locs cells slots Q (F0 m pc ls (.int i :: .ref (am_ad b base a) :: rest)) := by
  unfold am_ql at hr
  split at hr
  · rename_i t q hc
    cases g : (Nat.beq t (am_qc + 100) && am_in i q.length) <;> rw [g] at hr
    · cases hr
    · obtain ⟨g1, g2⟩ := Bool.and_eq_true_iff.mp g
      have g3 := Nat.eq_of_beq_eq_true g1
      subst g3
      have hr : (match q[i.toNatClampNeg]? with
        | some (.ref x) => some x
        | _ => none) = some x := hr
      split at hr
      · rename_i y hy
        cases hr
        obtain ⟨k, rfl, hw⟩ := am_pos hh hc (fun l q => by cases q)
        have hw : (am_ws ky b base h)[k]? = some (base + k, .inl (ky (am_qc + 100), q.length, .inr (.inr (.inr (.inr (fun j => am_or (am_ad b base) (q.getD j .null))))))) := hw
        have e1 : am_or (am_ad b base) (q.getD i.toNatClampNeg .null) = some (am_ad b base x) := by rw [List.getD_eq_getElem?_getD, hy]; rfl
        refine va_aldq hx hb hok.2.1 hh.1 k 2 hw (by rfl) (am_in_vp g2) hdg ?_
        show W p l e R s m args below meth c H locs cells slots Q (F0 m (pc + 1) ls (va_rf (am_or (am_ad b base) (q.getD i.toNatClampNeg .null)) :: rest))
        rw [e1]
        exact kk
      · cases hr
  · cases hr
theorem am_rt_len (hx : p.tables.exec = Jvm.exec) (hb : c.code = cc) (hok : am_ok D ky b base xs s) (hh : am_hp D ky b base xs h H) (hS : va_S (fun q : Nat => base ≤ q) s.heap H locs) {x : Int32} (hr : am_len h a = some x) (hdg : decode cc pc = .ok (.arraylength, 1))
    (kk : W p l e R s m args below meth c H locs cells slots Q (F0 m (pc + 1) ls (.int x :: rest))) : W p l e R s m args below meth c H locs cells slots Q (F0 m pc ls (.ref (am_ad b base a) :: rest)) := by
  unfold am_len at hr
  split at hr
  · rename_i t q hc
    cases g : (Nat.ble t 1 || (Nat.beq t 7 && Nat.beq a 0)) <;> rw [g] at hr
    · cases hr
    · cases hr
      cases a with
      | zero =>
        rw [hh.2.2] at hc
        cases hc
        exact va_slen (A := fun q : Nat => base ≤ q) hx hb hok.2.2.1 (Nat.lt_of_lt_of_le hok.2.2.2.1 hok.2.2.2.2) (Nat.not_le.mpr hok.2.2.2.1) hS hdg kk
      | succ k =>
        have g3 : t = 0 ∨ t = 1 := by
          rcases Bool.or_eq_true_iff.mp g with z | z
          · have := Nat.le_of_ble_eq_true z; omega
          · have z2 := (Bool.and_eq_true_iff.mp z).2
            cases z2
        have hw : (am_ws ky b base h)[k]? = some (base + k, .inl (ky t, q.length, .inl (fun j => q.getD j 0))) := by rw [am_ws_get, hc]; rfl
        rcases g3 with g3 | g3
        · subst g3
          exact va_alen hx hb hok.2.1 hh.1 k 0 hw (ty := .int) (by rfl) rfl hdg kk
        · subst g3
          exact va_alen hx hb hok.2.1 hh.1 k 1 hw (ty := .char) (by rfl) rfl hdg kk
  · rename_i t q hc
    cases g : Nat.beq t (am_qc + 100) <;> rw [g] at hr
    · cases hr
    · have g3 := Nat.eq_of_beq_eq_true g
      subst g3
      cases hr
      obtain ⟨k, rfl, hw⟩ := am_pos hh hc (fun l q => by cases q)
      have hw : (am_ws ky b base h)[k]? = some (base + k, .inl (ky (am_qc + 100), q.length, .inr (.inr (.inr (.inr (fun j => am_or (am_ad b base) (q.getD j .null))))))) := hw
      exact va_alen hx hb hok.2.1 hh.1 k 2 hw (ty := .object (am_cl1 am_qc).1) (by rfl) rfl hdg kk
  · cases hr
theorem am_rt_ias (hx : p.tables.exec = Jvm.exec) (hb : c.code = cc) (hok : am_ok D ky b base xs s) (hh : am_hp D ky b base xs h H) (hS : va_S (fun q : Nat => base ≤ q) s.heap H locs) {i v : Int32} {h1 : am_H} (hr : am_as h 0 a i v = some h1) (hdg : decode cc pc = .ok (.iastore, 1))
    (kk : ∀ H1 locs1, am_hp D ky b base xs h1 H1 → va_S (fun q : Nat => base ≤ q) s.heap H1 locs1 → W p l e R s m args below meth c H1 locs1 cells slots Q (F0 m (pc + 1) ls rest)) : W p l e R s m args below meth c H locs cells slots Q (F0 m pc ls (.int v :: .int i :: .ref (am_ad b base a) :: rest)) := by
  obtain ⟨q, hc, hin, rfl⟩ := am_as_spec hr
  obtain ⟨k, rfl, hw⟩ := am_pos hh hc (fun l q => by cases q)
  have hw : (am_ws ky b base h)[k]? = some (base + k, .inl (ky 0, q.length, .inl (fun j => q.getD j 0))) := hw
  have ht : (am_tys ky)[0]? = some (ky 0, .int) := rfl
  refine W.iast hx hb (hh.1 k _ hw) ((hok.2.1.2 0 _ ht).1 q.length (fun j => .int (q.getD j 0))) (fun q => by cases q) (by show ¬ (i < 0 ∨ (arrV _ _ _).slots.size ≤ _); rw [arrV_size]; exact am_in_vp hin) rfl rfl hdg fun H1 e1 e2 e3 => ?_
  refine kk H1 _ (am_hp_set hh (y := .inl (ky 0, q.length, .inl (upd (fun j => q.getD j 0) i.toNatClampNeg v))) ?_ (va_P.set hh.1 (am_ws_D h) hw ?_ e3) e2) (hS.put e2 e3 (Nat.le_add_right _ _))
  · rw [am_upd_set (am_in_lt hin)]
    simp only [am_cc, List.length_set]
  · show H1[base + k]? = some (vp_cell _ _)
    rw [e1, vp_cell_i, vp_cell_i, arrV_store]
    congr 2
    funext j
    by_cases hj : j = i.toNatClampNeg
    · subst hj
      simp [updV, upd, vp_nar]
      try rfl
    · simp [updV, upd, hj]
theorem am_rt_cas (hx : p.tables.exec = Jvm.exec) (hb : c.code = cc) (hok : am_ok D ky b base xs s) (hh : am_hp D ky b base xs h H) (hS : va_S (fun q : Nat => base ≤ q) s.heap H locs) {i v : Int32} {h1 : am_H} (hr : am_as h 1 a i (vp_nar .char v) = some h1) (hdg : decode cc pc = .ok (.castore, 1))
    (kk : ∀ H1 locs1, am_hp D ky b base xs h1 H1 → va_S (fun q : Nat => base ≤ q) s.heap H1 locs1 → W p l e R s m args below meth c H1 locs1 cells slots Q (F0 m (pc + 1) ls rest)) : W p l e R s m args below meth c H locs cells slots Q (F0 m pc ls (.int v :: .int i :: .ref (am_ad b base a) :: rest)) := by
  obtain ⟨q, hc, hin, rfl⟩ := am_as_spec hr
  obtain ⟨k, rfl, hw⟩ := am_pos hh hc (fun l q => by cases q)
  have hw : (am_ws ky b base h)[k]? = some (base + k, .inl (ky 1, q.length, .inl (fun j => q.getD j 0))) := hw
  have ht : (am_tys ky)[1]? = some (ky 1, .char) := rfl
  refine W.cast hx hb (hh.1 k _ hw) ((hok.2.1.2 1 _ ht).1 q.length (fun j => .int (q.getD j 0))) (fun q => by cases q) (by show ¬ (i < 0 ∨ (arrV _ _ _).slots.size ≤ _); rw [arrV_size]; exact am_in_vp hin) rfl rfl hdg fun H1 e1 e2 e3 => ?_
  refine kk H1 _ (am_hp_set hh (y := .inl (ky 1, q.length, .inl (upd (fun j => q.getD j 0) i.toNatClampNeg (vp_nar .char v)))) ?_ (va_P.set hh.1 (am_ws_D h) hw ?_ e3) e2) (hS.put e2 e3 (Nat.le_add_right _ _))
  · rw [am_upd_set (am_in_lt hin)]
    simp only [am_cc, List.length_set]
  · show H1[base + k]? = some (vp_cell _ _)
    rw [e1, vp_cell_i, vp_cell_i, arrV_store]
    congr 2
    funext j
    by_cases hj : j = i.toNatClampNeg
    · subst hj
      simp [updV, upd, vp_nar]
      try rfl
    · simp [updV, upd, hj]
theorem am_rt_qs (hx : p.tables.exec = Jvm.exec) (hb : c.code = cc) (hok : am_ok D ky b base xs s) (hh : am_hp D ky b base xs h H) (hS : va_S (fun q : Nat => base ≤ q) s.heap H locs) (hqc : am_qc < am_cls.length) {i : Int32} {v : Nat} {h1 : am_H} (hr : am_qs h a i v = some h1) (hdg : decode cc pc = .ok (.aastore, 1))
    (kk : ∀ H1 locs1, am_hp D ky b base xs h1 H1 → va_S (fun q : Nat => base ≤ q) s.heap H1 locs1 → W p l e R s m args below meth c H1 locs1 cells slots Q (F0 m (pc + 1) ls rest)) : W p l e R s m args below meth c H locs cells slots Q (F0 m pc ls (.ref (am_ad b base v) :: .int i :: .ref (am_ad b base a) :: rest)) := by
  obtain ⟨q, fs, hc, hin, hv, rfl⟩ := am_qs_spec hr
  obtain ⟨k, rfl, hw⟩ := am_pos hh hc (fun l q => by cases q)
  obtain ⟨k2, rfl, hw2⟩ := am_pos hh hv (fun l q => by cases q)
  have hw : (am_ws ky b base h)[k]? = some (base + k, .inl (ky (am_qc + 100), q.length, .inr (.inr (.inr (.inr (fun j => am_or (am_ad b base) (q.getD j .null))))))) := hw
  have hw2 : (am_ws ky b base h)[k2]? = some (base + k2, .inr (am_qc, fs.map (am_cv (am_ad b base)))) := hw2
  have ht : (am_tys ky)[2]? = some (ky (am_qc + 100), .object (am_cl1 am_qc).1) := rfl
  have hlt := am_in_lt hin
  have h0 : ¬ i < 0 := fun q => am_in_vp hin (Or.inl q)
  obtain ⟨r', hr', cellV, g1, g2, g3, -⟩ := hh.1 k2 _ hw2
  have hcls := (hok.2.1.1 am_qc _ (am_cls_at hqc)).2
  obtain ⟨kA, comp, k1, k2', k3, -⟩ := (hok.2.1.2 2 _ ht).2
  have hcomp : comp = D.1 am_qc := Option.some.inj (k3.symm.trans hcls.1)
  subst hcomp
  obtain ⟨kC, hkC, -⟩ := hcls.2
  refine W.aast hx hb (hh.1 k _ hw) (fun q h => by cases h) (fun h => by cases h) k1 k2' rfl hkC ⟨h0, by show _ < (arrV _ _ _).slots.size; rw [arrV_size]; exact hlt⟩ g1 (fun q h => by rw [g3] at h; cases h) (by rw [g2]; exact hkC) (by rw [g2]; exact va_assign hcls) rfl rfl hdg fun H1 e1 e2 e3 => ?_
  refine kk H1 _ (am_hp_set hh (y := .inl (ky (am_qc + 100), q.length, .inr (.inr (.inr (.inr (va_up (fun j => am_or (am_ad b base) (q.getD j .null)) i.toNatClampNeg (some (base + k2)))))))) ?_ (va_P.set hh.1 (am_ws_D h) hw ?_ e3) e2) (hS.put e2 e3 (Nat.le_add_right _ _))
  · have e4 := am_up_set (ρ := am_ad b base) (v := k2 + 1) hlt
    have e5 : am_ad b base (k2 + 1) = base + k2 := rfl
    rw [e5] at e4
    rw [e4]
    simp only [am_cc, List.length_set]
    rfl
  · show H1[base + k]? = some (vp_cell _ _)
    rw [e1, vp_cell_q, vp_cell_q, arrV_store]
    congr 2
    funext j
    by_cases hj : j = i.toNatClampNeg
    · subst hj
      simp [updV, va_up, va_rf]
      try rfl
    · simp [updV, va_up, hj]
end AMR
end
section
section AMR
variable {p : Program} {l : Launch} {e : Env} {R : Room} {s : State} {m : MethodId} {args : Array Value} {below : List Frame} {meth : Method} {c : Code} {H : Heap} {locs : List Loc} {cells slots : Nat} {Q : State → Prop} {pc : Nat} {ls : Array Slot} {rest : List Value} {cc : ByteArray}
variable {D : va_G} {ky : Nat → ClassId} {b base : Nat} {xs : List Int32} {h : am_H} {own : String} {a : Nat}
theorem am_S_new {A : Nat → Prop} {H0 H1 : Heap} (hS : va_S A H0 H locs) (hz : H1.size = H.size + 1) (ho : ∀ q, q < H.size → H1[q]? = H[q]?) : va_S A H0 H1 locs :=
  ⟨Nat.le_trans hS.1 (by omega), fun x h1 h2 => (ho x (Nat.lt_of_lt_of_le h1 hS.1)).trans (hS.2.1 x h1 h2), hS.2.2⟩
theorem am_P_new {ws : va_W} {H1 : Heap} {y : va_E} (hP : va_P D am_cls ws H) (ho : ∀ q, q < H.size → H1[q]? = H[q]?) (hy : va_at D am_cls (H.size, y) H1) : va_P D am_cls (ws ++ [(H.size, y)]) H1 := by
  refine (hP.kept (fun k x hx => ho x.1 ((hP k x hx).lt))).app (fun k x hx => ?_)
  have hz : k < 1 := (List.getElem?_eq_some_iff.mp hx).1
  rw [show k = 0 by omega] at hx
  cases hx
  exact hy
theorem am_rt_new (hx : p.tables.exec = Jvm.exec) (hb : c.code = cc) (hown : s.vm.findClass own = some m.cls) (hok : am_ok D ky b base xs s) (hh : am_hp D ky b base xs h H) (hS : va_S (fun q : Nat => base ≤ q) s.heap H locs) {ci idx q : Nat} (hck : am_cck ci = true) (hci : ci < am_cls.length) (hl : am_has q (.classLink own idx (am_cl1 ci).1) = true) (hcells : cells + 1 ≤ R.cells) (hslots : slots + (am_new ci).length ≤ R.slots) (hdg : decode cc pc = .ok (.new idx, 3))
    (kk : ∀ H1, am_hp D ky b base xs (h ++ [.inr (ci, am_new ci)]) H1 → va_S (fun q : Nat => base ≤ q) s.heap H1 locs → W p l e R s m args below meth c H1 locs (cells + 1) (slots + (am_new ci).length) Q (F0 m (pc + 3) ls (.ref (am_ad b base h.length) :: rest))) : W p l e R s m args below meth c H locs cells slots Q (F0 m pc ls rest) := by
  obtain ⟨h1, h2⟩ := Bool.and_eq_true_iff.mp hck
  obtain ⟨h1, h3⟩ := Bool.and_eq_true_iff.mp h1
  obtain ⟨h1, h4⟩ := Bool.and_eq_true_iff.mp h1
  have hlen : (am_new ci).length = (am_cl1 ci).2.2 := Nat.eq_of_beq_eq_true h2
  have hKn := hok.2.1.1 ci _ (am_cls_at hci)
  have h100 : Nat.ble 100 ci = false := by
    cases z : Nat.ble 100 ci
    · rfl
    · have := Nat.le_of_ble_eq_true z; have := am_cls_len; omega
  have hnr : ∀ v, v ∈ am_new ci → am_cv (am_ad b base) v = v := by
    intro v hv
    obtain ⟨j, hj⟩ := List.getElem?_of_mem hv
    have hjl := (List.getElem?_eq_some_iff.mp hj).1
    have h5 := (am_cck_lay hck j (by omega)).2.2.2.2
    rw [hj] at h5
    cases h5
    cases am_ty ci j <;> rfl
  have hcc : am_cc ky (am_ad b base) (.inr (ci, am_new ci)) = .inr (ci, am_new ci) := by
    simp only [am_cc, h100]
    show Sum.inr (ci, (am_new ci).map (am_cv (am_ad b base))) = _
    rw [List.map_congr_left hnr, List.map_id']
  rw [hlen] at hslots kk
  refine W.newcK hx hb hown (am_has_at hl hok.1 args) (am_has_at h1 hok.1 args) (am_has_at h4 hok.1 args) rfl hdg hcells hslots hKn.2.1 rfl fun H1 kC hkC e1 z1 o1 => ?_
  have hy : va_at D am_cls (H.size, .inr (ci, am_new ci)) H1 := ⟨_, am_cls_at hci, (u_born (am_ty ci) (am_cck_ws hck hok.1 args) (fun w h => h) hKn hkC e1 (fun j hj => (am_cck_lay hck j hj).2.1)).to (fun j hj => by
    have h5 := (am_cck_lay hck j hj).2.2.2.2
    show _ = (am_new ci).getD j .null
    rw [List.getD_eq_getElem?_getD, h5]; rfl)⟩
  obtain ⟨g1, g2⟩ := am_hp_app hh (x := .inr (ci, am_new ci)) hcc.symm (am_P_new hh.1 o1 hy) z1
  have := kk H1 g1 (am_S_new hS z1 o1)
  rw [g2] at this
  exact this
theorem am_rt_na (hx : p.tables.exec = Jvm.exec) (hb : c.code = cc) (hok : am_ok D ky b base xs s) (hh : am_hp D ky b base xs h H) (hS : va_S (fun q : Nat => base ≤ q) s.heap H locs) {t q : Nat} {at_ : ArrayType} {n : Int32} {h1 : am_H} (hl : am_has q (.arrayClass (newarray.typeOf at_)) = true) (ht : (am_tys ky)[t]? = some (ky t, newarray.typeOf at_)) (hdv : defaultValue (newarray.typeOf at_) = .int 0) (hcb : componentBytes (newarray.typeOf at_) ≤ 4) (hnm : ("[" ++ (newarray.typeOf at_).toString) = ("[" ++ (newarray.typeOf at_).toString)) (hra : ∀ cA, va_RA s cA (newarray.typeOf at_) → s.vm.findClass ("[" ++ (newarray.typeOf at_).toString) = some cA) (hr : am_na h t n = some h1) (hcells : cells + 1 ≤ R.cells) (hslots : slots + n.toNatClampNeg ≤ R.slots) (hdg : decode cc pc = .ok (.newarray at_, 2))
    (kk : ∀ H1, am_hp D ky b base xs h1 H1 → va_S (fun q : Nat => base ≤ q) s.heap H1 locs → W p l e R s m args below meth c H1 locs (cells + 1) (slots + n.toNatClampNeg) Q (F0 m (pc + 2) ls (.ref (am_ad b base h.length) :: rest))) : W p l e R s m args below meth c H locs cells slots Q (F0 m pc ls (.int n :: rest)) := by
  obtain ⟨hn, hle, rfl⟩ := am_na_spec hr
  have hb2 : n.toNatClampNeg * componentBytes (newarray.typeOf at_) ≤ 536870912 := Nat.le_trans (Nat.mul_le_mul hle hcb) (by decide)
  refine va_newaK hx hb (am_has_at hl hok.1 args) rfl hdg rfl hn rfl hb2 hcells hslots rfl fun H1 cA e1 z1 o1 hAr hNm => ?_
  have hcA : cA = ky t := by
    have h2 := hra _ (hok.2.1.2 t _ ht).2
    exact Option.some.inj (hNm.symm.trans h2)
  subst hcA
  have hy : va_at D am_cls (H.size, .inl (ky t, n.toNatClampNeg, .inl (fun j => (List.replicate n.toNatClampNeg (0 : Int32)).getD j 0))) H1 := by
    show H1[H.size]? = some (vp_cell _ _)
    rw [e1, vp_cell_i, hdv]
    congr 2
    funext j
    congr 1
    rw [List.getD_eq_getElem?_getD, List.getElem?_replicate]
    split <;> rfl
  obtain ⟨g1, g2⟩ := am_hp_app hh (x := .inl (t, List.replicate n.toNatClampNeg 0)) (by simp only [am_cc, List.length_replicate]) (am_P_new hh.1 o1 hy) z1
  have := kk H1 g1 (am_S_new hS z1 o1)
  rw [g2] at this
  exact this
theorem am_rt_nq (hx : p.tables.exec = Jvm.exec) (hb : c.code = cc) (hown : s.vm.findClass own = some m.cls) (hok : am_ok D ky b base xs s) (hh : am_hp D ky b base xs h H) (hS : va_S (fun q : Nat => base ≤ q) s.heap H locs) {idx q q2 : Nat} {n : Int32} {h1 : am_H} (hl : am_has q (.classLink own idx (am_cl1 am_qc).1) = true) (hl2 : am_has q2 (.arrayOver (.object (am_cl1 am_qc).1)) = true) (hr : am_nq h am_qc n = some h1) (hcells : cells + 1 ≤ R.cells) (hslots : slots + n.toNatClampNeg ≤ R.slots) (hdg : decode cc pc = .ok (.anewarray idx, 3))
    (kk : ∀ H1, am_hp D ky b base xs h1 H1 → va_S (fun q : Nat => base ≤ q) s.heap H1 locs → W p l e R s m args below meth c H1 locs (cells + 1) (slots + n.toNatClampNeg) Q (F0 m (pc + 3) ls (.ref (am_ad b base h.length) :: rest))) : W p l e R s m args below meth c H locs cells slots Q (F0 m pc ls (.int n :: rest)) := by
  obtain ⟨hn, hle, rfl⟩ := am_nq_spec hr
  refine W.anew hx hb hown (am_has_at hl hok.1 args) (am_has_at hl2 hok.1 args) rfl hdg rfl hn (Nat.le_trans (Nat.mul_le_mul_right 4 hle) (by decide)) hcells hslots fun cA kA comp f1 f2 f3 f4 => ?_
  have ht : (am_tys ky)[2]? = some (ky (am_qc + 100), .object (am_cl1 am_qc).1) := rfl
  have hcA : cA = ky (am_qc + 100) := by
    obtain ⟨_, _, -, -, -, h2⟩ := (hok.2.1.2 2 _ ht).2
    exact Option.some.inj (f1.symm.trans h2)
  subst hcA
  generalize hH1 : H.push ({ cls := ky (am_qc + 100), slots := Array.replicate n.toNatClampNeg .null, vm := .none } : Cell) = H1
  have z1 : H1.size = H.size + 1 := by rw [← hH1, Array.size_push]
  have e1 : H1[H.size]? = some (arrV (ky (am_qc + 100)) n.toNatClampNeg (fun _ => .null)) := by rw [← hH1, Array.getElem?_push_size, ← arrV_new]
  have o1 : ∀ q : Nat, q < H.size → H1[q]? = H[q]? := fun q hq => by rw [← hH1, Array.getElem?_push, if_neg (Nat.ne_of_lt hq)]
  have hor : ∀ j, am_or (am_ad b base) ((List.replicate n.toNatClampNeg Value.null).getD j .null) = none := by
    intro j
    rw [List.getD_eq_getElem?_getD, List.getElem?_replicate]
    split <;> rfl
  have hy : va_at D am_cls (H.size, .inl (ky (am_qc + 100), n.toNatClampNeg, .inr (.inr (.inr (.inr (fun j => am_or (am_ad b base) ((List.replicate n.toNatClampNeg Value.null).getD j .null))))))) H1 := by
    show H1[H.size]? = some (vp_cell _ _)
    rw [e1, vp_cell_q]
    congr 2
    funext j
    rw [hor j]; rfl
  obtain ⟨g1, g2⟩ := am_hp_app hh (x := .inr (am_qc + 100, List.replicate n.toNatClampNeg .null)) (by simp only [am_cc, List.length_replicate]; rfl) (am_P_new hh.1 o1 hy) z1
  have := kk H1 g1 (am_S_new hS z1 o1)
  rw [g2] at this
  exact this
theorem am_rt_cp (hx : p.tables.exec = Jvm.exec) (hb : c.code = cc) (hml : c.maxLocals = ls.size) (hown : s.vm.findClass own = some m.cls) (hok : am_ok D ky b base xs s) (hh : am_hp D ky b base xs h H) (hS : va_S (fun q : Nat => base ≤ q) s.heap H locs) {idx q q1 q2 q3 a2 : Nat} (hl : am_has q (.methodLink own idx arraycopyName) = true) (hl1 : am_has q1 (.native arraycopyName) = true) (hl2 : am_has q2 (.static arraycopyName) = true) (hl3 : am_has q3 (.initialized "java/lang/System") = true) {sp dp n : Int32} {h1 : am_H} (hr : am_cp h a sp a2 dp n = some h1) (hframes : 1 ≤ R.frames) (hlocals : 38 ≤ R.locals) (hrest : (rest.map fun v => v.category).sum ≤ 8) (hdg : decode cc pc = .ok (.invokestatic idx, 3))
    (kk : ∀ H1 locs1, am_hp D ky b base xs h1 H1 → va_S (fun q : Nat => base ≤ q) s.heap H1 locs1 → W p l e R s m args below meth c H1 locs1 cells slots Q (F0 m (pc + 3) ls rest)) : W p l e R s m args below meth c H locs cells slots Q (F0 m pc ls (.int n :: .int dp :: .ref (am_ad b base a2) :: .int sp :: .ref (am_ad b base a) :: rest)) := by
  obtain ⟨f, g, hc0, hc1, g1, g2, g3, g4, g5, rfl⟩ := am_cp_spec hr
  obtain ⟨k, rfl, hw⟩ := am_pos hh hc0 (fun l q => by cases q)
  obtain ⟨k2, rfl, hw2⟩ := am_pos hh hc1 (fun l q => by cases q)
  have hw : (am_ws ky b base h)[k]? = some (base + k, .inl (ky 0, f.length, .inl (fun j => f.getD j 0))) := hw
  have hw2 : (am_ws ky b base h)[k2]? = some (base + k2, .inl (ky 0, g.length, .inl (fun j => g.getD j 0))) := hw2
  have ht : (am_tys ky)[0]? = some (ky 0, .int) := rfl
  have nn : ∀ z : Int32, ¬ z < 0 → z.toInt = (z.toNatClampNeg : Int) := by
    intro z hz
    have hz0 : (0 : Int) ≤ z.toInt := by
      have := Int32.not_lt.mp hz
      simpa using Int32.le_iff_toInt_le.mp this
    show z.toInt = ((z.toInt.toNat : Nat) : Int)
    omega
  have hw7 : 2 * 0 + (rest.map fun v => v.category).sum + (nativeFrameWords "java/lang/System" "arraycopy" 5 + 11) ≤ R.locals := by
    have e7 : nativeFrameWords "java/lang/System" "arraycopy" 5 = 7 := by decide +kernel
    rw [e7]
    omega
  intro T hT X
  have hc0 := hh.1 k _ hw
  have hc1 := hh.1 k2 _ hw2
  obtain ⟨-, kk0, hk0, cm0, hkk0⟩ := (hok.2.1.2 0 _ ht).1 f.length (fun j => .int (f.getD j 0))
  obtain ⟨-, kk1, hk1, cm1, hkk1⟩ := (hok.2.1.2 0 _ ht).1 g.length (fun j => .int (g.getD j 0))
  have hc0 : H[base + k]? = some (vp_cell (ky 0) (f.length, .inl (fun j => f.getD j 0))) := hc0
  have hc1 : H[base + k2]? = some (vp_cell (ky 0) (g.length, .inl (fun j => g.getD j 0))) := hc1
  obtain ⟨vm', X', step⟩ := X.arraycopy hx hown (am_has_at hl hok.1 args) (am_has_at hl1 hok.1 args) (am_has_at hl2 hok.1 args) (am_has_at hl3 hok.1 args) (src := base + k) (dst := base + k2) (cs := vp_cell (ky 0) (f.length, .inl (fun j => f.getD j 0))) (cd := vp_cell (ky 0) (g.length, .inl (fun j => g.getD j 0))) (srcPos := sp) (destPos := dp) (n := n) (by rw [hT]; exact hc0) (by rw [hT]; exact hc1)
    (fun _ h => by cases h) (fun _ h => by cases h) (fun h => by cases h) (fun h => by cases h) hk0 hk1 hkk0 hkk1 (by simp [refKind]) g1 g2 g3
    (by rw [nn sp g1, nn n g3]; show ¬ _ > ((arrV (ky 0) f.length (fun j => .int (f.getD j 0))).slots.size : Int); rw [arrV_size]; omega)
    (by rw [nn dp g2, nn n g3]; show ¬ _ > ((arrV (ky 0) g.length (fun j => .int (g.getD j 0))).slots.size : Int); rw [arrV_size]; omega)
    (fun vm₁ _ i hi => by
      have e : (vp_cell (ky 0) (f.length, .inl (fun j => f.getD j 0))).slots.getD (sp.toNatClampNeg + i) .null = .int (f.getD (sp.toNatClampNeg + i) 0) := by
        show (arrV (ky 0) f.length (fun j => .int (f.getD j 0))).slots.getD _ _ = _
        rw [Array.getD_eq_getD_getElem?, arrV_read _ _ (by omega)]
        rfl
      refine ⟨?_, ?_⟩
      · rw [e]
        rfl
      · rw [e]
        exact trivial)
    (g := F0 m pc ls (.int n :: .int dp :: .ref (base + k2) :: .int sp :: .ref (base + k) :: rest)) rfl (by rw [hml]) (rest := rest) rfl (by rw [hb]; exact hdg) hframes hw7
  have e1 : copied (vp_cell (ky 0) (f.length, .inl (fun j => f.getD j 0))) (vp_cell (ky 0) (g.length, .inl (fun j => g.getD j 0))) sp dp n = vp_cell (ky 0) (g.length, .inl (va_cpy (fun j => f.getD j 0) (fun j => g.getD j 0) sp.toNatClampNeg dp.toNatClampNeg n.toNatClampNeg)) := va_copied (fun z => .int z) (ky 0) (ky 0) (fun j => f.getD j 0) (fun j => g.getD j 0) g4
  rw [e1, am_cpy_fun g5] at X' step
  have hl : base + k2 < H.size := (Array.getElem?_eq_some_iff.mp hc1).1
  generalize hce : vp_cell (ky 0) (g.length, .inl (fun j => (am_cpl f g sp.toNatClampNeg dp.toNatClampNeg n.toNatClampNeg).getD j 0)) = ce at X' step
  have hheap : ((T.setVm vm').setCell (base + k2) ce).heap = H.setIfInBounds (base + k2) ce := by rw [← hT]; rfl
  have oq : ∀ q : Nat, q ≠ base + k2 → (H.setIfInBounds (base + k2) ce)[q]? = H[q]? := fun q hq => by simp [Array.getElem?_setIfInBounds, Ne.symm hq]
  obtain ⟨t, a1, b1⟩ := kk _ _ (am_hp_set hh (k := k2) (x := .inl (0, am_cpl f g sp.toNatClampNeg dp.toNatClampNeg n.toNatClampNeg)) (y := .inl (ky 0, g.length, .inl (fun j => (am_cpl f g sp.toNatClampNeg dp.toNatClampNeg n.toNatClampNeg).getD j 0))) (by simp only [am_cc]; congr 2; simp [am_cpl]) (va_P.set hh.1 (am_ws_D h) hw2 (show (H.setIfInBounds (base + k2) _)[base + k2]? = some _ by rw [← hce]; simp [Array.getElem?_setIfInBounds, hl]) oq) (by simp)) ⟨by simp; exact hS.1, fun q g1 g2 => by
      rw [oq q (fun e => g2 (by rw [e]; exact Nat.le_add_right _ _))]
      exact hS.2.1 q g1 g2, fun q hq => by
      rcases List.mem_append.mp hq with h | h
      · exact hS.2.2 q h
      · obtain ⟨z, -, hz⟩ := List.mem_map.mp h
        rw [← hz]
        exact Nat.le_add_right _ _⟩ _ hheap X'
  exact ⟨t, step t a1, b1⟩
end AMR
end
section
/-! SOUNDNESS: what the abstract machine does, the machine does -/
def am_fr (p : Program) (s : State) (m : MethodId) (meth : Method) (c : Code) (i : Nat) : Prop := p.tables.exec = Jvm.exec ∧ c.code = am_by i ∧ c.maxLocals = am_ml i ∧ meth.sig.returnType = am_rt i ∧ s.vm.findClass (am_own i) = some m.cls ∧ ((am_nm i).name = "<init>" → meth.name = "<init>")
def am_end (i pc : Nat) (r : Option Value) : Prop := match r with
  | some (.int x) => decode (am_by i) pc = .ok (.ireturn, 1) ∧ (am_rt i = some .int ∨ (am_rt i = some .boolean ∧ (x = 0 ∨ x = 1)))
  | some (.long _) => decode (am_by i) pc = .ok (.lreturn, 1) ∧ am_rt i = some .long
  | none => decode (am_by i) pc = .ok (.return_, 1) ∧ am_rt i = none
  | _ => False
def am_snd (l : Launch) (D : va_G) (ky : Nat → ClassId) (b base : Nat) (xs : List Int32) (n : Nat) : Prop :=
  ∀ (i pc : Nat) (L S : List Value) (h : am_H) (r : Option Value) (h' : am_H), i < am_N → am_run n i (pc, L, S, h) = some (r, h') →
    ∀ {p : Program} {e : Env} {R : Room} {s : State} {m : MethodId} {args : Array Value} {below : List Frame} {meth : Method} {c : Code} {H : Heap} {locs : List Loc} {cells slots : Nat} {Q : State → Prop} {ls : Array Slot} (C Sl : Nat),
    am_fr p s m meth c i → am_ok D ky b base xs s → am_rank i ≤ R.frames → 38 * am_rank i ≤ R.locals → am_hp D ky b base xs h H → va_S (fun q : Nat => base ≤ q) s.heap H locs → lv_has ls (am_ml i) (am_ls (am_ad b base) 0 L) → am_lg i L →
    cells + h'.length = C + h.length → slots + am_sl h' = Sl + am_sl h → C ≤ R.cells → Sl ≤ R.slots →
    (∀ pc' ls' H' locs', am_hp D ky b base xs h' H' → va_S (fun q : Nat => base ≤ q) s.heap H' locs' → am_end i pc' r → W p l e R s m args below meth c H' locs' C Sl Q (F0 m pc' ls' (r.toList.map (am_cv (am_ad b base))))) →
    W p l e R s m args below meth c H locs cells slots Q (F0 m pc ls (S.map (am_cv (am_ad b base))))
def am_Q (D : va_G) (ky : Nat → ClassId) (b base : Nat) (xs : List Int32) (r : Option Value) (h' : am_H) : Array Value → State → Outcome → State → Prop := match r with
  | some (.int x) => va_Qi (fun y (_ : Unit) => y = x) (fun _ t => am_hp D ky b base xs h' t.heap) (fun q : Nat => base ≤ q)
  | some (.long x) => va_Ql (fun y (_ : Unit) => y = x) (fun _ t => am_hp D ky b base xs h' t.heap) (fun q : Nat => base ≤ q)
  | none => va_Qv (fun (_ : Unit) => True) (fun _ t => am_hp D ky b base xs h' t.heap) (fun q : Nat => base ≤ q)
  | _ => fun _ _ _ _ => False
abbrev am_rm_ (j : Nat) (mc ms : Nat) : Room := { frames := am_rank j, cells := mc, slots := ms, locals := 38 * am_rank j }
abbrev am_wl (j : Nat) : List Jvm.Cond := [.code (am_nm j) (am_by j) (am_ml j) (am_rt j)]
def am_mt (l : Launch) (D : va_G) (ky : Nat → ClassId) (b base : Nat) (xs : List Int32) (n : Nat) : Prop :=
  ∀ (j : Nat) (As : List Value) (h : am_H) (r : Option Value) (h' : am_H), j < am_N → j ≠ m_law → am_cat As = am_na_ j → As.length = am_na_ j → am_run n j (0, am_l0 j As, [], h) = some (r, h') →
    Met l (am_nm j) (am_wl j) (am_rm_ j (h'.length - h.length) (am_sl h' - am_sl h)) (va_Pc (As.map (am_cv (am_ad b base))) (fun U => am_ok D ky b base xs U ∧ am_hp D ky b base xs h U.heap)) (am_Q D ky b base xs r h') (h'.length - h.length) (am_sl h' - am_sl h) (fun q : Nat => base ≤ q)
theorem am_find_spec {l : List am_E} {pc : Nat} {e : am_E} (h : am_find l pc = some e) : e ∈ l ∧ e.1 = pc := by
  induction l with
  | nil => cases h
  | cons x r ih =>
    unfold am_find at h
    cases q : Nat.beq x.1 pc <;> rw [q] at h
    · obtain ⟨h1, h2⟩ := ih h
      exact ⟨List.mem_cons_of_mem _ h1, h2⟩
    · cases h
      exact ⟨List.mem_cons_self, Nat.eq_of_beq_eq_true q⟩
theorem am_bt {α : Type} {c : Bool} {A B z : α} (hc : c = true) (hz : (bif c then A else B) = z) : A = z := by rw [hc] at hz; exact hz
theorem am_bf {α : Type} {c : Bool} {A B z : α} (hc : c = false) (hz : (bif c then A else B) = z) : B = z := by rw [hc] at hz; exact hz
theorem am_sw_tab {x : Int32} {sw : List (Int32 × Nat)} {d : Nat} {K : Nat → Option am_R} : ∀ {lo : Int}, (∀ (k : Nat) q, sw[k]? = some q → q.1.toInt = lo + k) →
    (∃ (k : Nat) (q : Int32 × Nat), sw[k]? = some q ∧ x.toInt = lo + k ∧ am_sw x sw d K = K q.2) ∨ ((x.toInt < lo ∨ lo + sw.length ≤ x.toInt) ∧ am_sw x sw d K = K d) := by
  induction sw with
  | nil =>
    intro lo _
    refine Or.inr ⟨?_, rfl⟩
    simp only [List.length_nil]
    omega
  | cons q r ih =>
    intro lo hl
    have h0 := hl 0 q rfl
    cases g : decide (x = q.1)
    · have hx : x.toInt ≠ lo := fun z => by
        have : x = q.1 := Int32.toInt_inj.mp (by rw [h0, z]; simp)
        rw [decide_eq_true this] at g
        cases g
      have e : am_sw x (q :: r) d K = am_sw x r d K := by
        rw [am_sw, g]; rfl
      rcases ih (lo := lo + 1) (fun k p hp => by rw [hl (k + 1) p (by simpa using hp)]; push_cast; omega) with ⟨k, p, h1, h2, h3⟩ | ⟨h1, h2⟩
      · exact Or.inl ⟨k + 1, p, by simpa using h1, by push_cast; omega, e.trans h3⟩
      · refine Or.inr ⟨?_, e.trans h2⟩
        simp only [List.length_cons]
        push_cast
        omega
    · refine Or.inl ⟨0, q, rfl, ?_, ?_⟩
      · rw [of_decide_eq_true g, h0]
      · rw [am_sw, g]; rfl
theorem am_sw_look {x : Int32} {sw : List (Int32 × Nat)} {d : Nat} {K : Nat → Option am_R} {dflt pc : Int} (hd : pc + dflt = (d : Int)) : ∀ {ps : List (Int × Int)}, sw.length = ps.length → (sw.zip ps).all (fun q => decide (q.1.1.toInt = q.2.1) && decide (pc + q.2.2 = (q.1.2 : Int))) = true →
    ∃ t : Nat, am_sw x sw d K = K t ∧ pc + Op.lookupswitch.offset ps dflt x.toInt = (t : Int) := by
  induction sw with
  | nil =>
    intro ps hl _
    cases ps with
    | nil => exact ⟨d, rfl, hd⟩
    | cons _ _ => cases hl
  | cons q r ih =>
    intro ps hl ha
    cases ps with
    | nil => cases hl
    | cons y ys =>
      obtain ⟨ya, yo⟩ := y
      simp only [List.zip_cons_cons, List.all_cons, Bool.and_eq_true, decide_eq_true_eq] at ha
      obtain ⟨⟨h1, h2⟩, h3⟩ := ha
      cases g : decide (x = q.1)
      · have hx : ¬ x = q.1 := of_decide_eq_false g
        obtain ⟨t, h4, h5⟩ := ih (ps := ys) (by simpa using hl) h3
        refine ⟨t, ?_, ?_⟩
        · rw [am_sw, g]; exact h4
        · rw [lv_osw hx h1]; exact h5
      · refine ⟨q.2, ?_, ?_⟩
        · rw [am_sw, g]; rfl
        · rw [Op.lookupswitch.offset_cons, if_pos (by rw [of_decide_eq_true g, h1])]
          exact h2
end
section
theorem am_cat_map (ρ : Nat → Nat) (S : List Value) : ((S.map (am_cv ρ)).map fun v => v.category).sum = am_cat S := by
  unfold am_cat
  rw [List.map_map]
  congr 1
  apply List.map_congr_left
  intro v _
  exact am_cv_cat v
theorem am_cat_one {S : List Value} (h : am_cat S = S.length) : ∀ v ∈ S, v.category = 1 := by
  have hge : ∀ S : List Value, S.length ≤ am_cat S := by
    intro S
    induction S with
    | nil => exact Nat.le_refl _
    | cons v r ih =>
      have e : am_cat (v :: r) = v.category + am_cat r := by simp [am_cat]
      rw [e, List.length_cons]
      rcases lv_cat v with q | q <;> omega
  induction S with
  | nil => intro v hv; cases hv
  | cons x r ih =>
    have e : am_cat (x :: r) = x.category + am_cat r := by simp [am_cat]
    rw [e, List.length_cons] at h
    have h1 := hge r
    intro v hv
    rcases List.mem_cons.mp hv with q | q
    · subst q
      rcases lv_cat v with z | z <;> omega
    · exact ih (by rcases lv_cat x with z | z <;> omega) v q
theorem am_sl_len {vs : List Value} (h : ∀ v ∈ vs, v.category = 1) : (lg_sl vs).length = vs.length := by
  induction vs with
  | nil => rfl
  | cons v r ih =>
    have h1 := h v List.mem_cons_self
    have e : lg_sl (v :: r) = .val v :: lg_sl r := by simp [lg_sl, h1]
    rw [e, List.length_cons, List.length_cons, ih (fun w hw => h w (List.mem_cons_of_mem _ hw))]
theorem am_lv_args {vs : List Value} (h : ∀ v ∈ vs, v.category = 1) : ∀ (k j : Nat) (v : Value), vs[j]? = some v → (k + j, v) ∈ lv_args k vs := by
  induction vs with
  | nil => intro k j v hv; simp at hv
  | cons x r ih =>
    intro k j v hv
    have h1 := h x List.mem_cons_self
    have e : lv_args k (x :: r) = (k, x) :: lv_args (k + 1) r := by
      show (k, x) :: lv_args (if x.category = 2 then k + 2 else k + 1) r = _
      rw [if_neg (by omega)]
    rw [e]
    cases j with
    | zero =>
      have hv : x = v := by simpa using hv
      rw [hv]
      exact List.mem_cons_self
    | succ j =>
      have := ih (fun w hw => h w (List.mem_cons_of_mem _ hw)) (k + 1) j v (by simpa using hv)
      rw [show k + (j + 1) = k + 1 + j by omega]
      exact List.mem_cons_of_mem _ this
theorem am_mck_all {j : Nat} (h : am_mck j = true) :
    (am_has (am_mp j).1 (.code (am_nm j) (am_by j) (am_ml j) (am_rt j)) = true ∧ am_has (am_mp j).2.1 (.initialized (am_nm j).cls) = true ∧ plainName (am_nm j).cls = true) ∧
    (am_kd j = 1 → am_has (am_mp j).2.2.1 (.static (am_nm j)) = true) ∧ (am_kd j ≠ 1 → am_has (am_mp j).2.2.1 (.instanceMethod (am_nm j)) = true) ∧ (am_kd j = 0 → am_has (am_mp j).2.2.2 (.selects (am_nm j).cls (am_nm j) (am_nm j)) = true) ∧
    (am_kd j ≠ 1 → ∃ c, am_rk j = some c ∧ c < am_cls.length ∧ (am_cl1 c).1 = (am_nm j).cls ∧ 0 < am_na_ j) ∧ (am_kd j = 2 → (am_nm j).name = "<init>" ∧ am_rt j = none) ∧
    ((am_nm j).cls ≠ "java/lang/invoke/MethodHandle" ∧ (am_nm j).cls ≠ "java/lang/invoke/VarHandle") ∧ (parseMethodDescriptor (am_nm j).desc).map (fun d => d.parameters.length) = some (am_na_ j - (bif Nat.beq (am_kd j) 1 then 0 else 1)) ∧
    am_ml j ≤ 19 ∧ am_na_ j ≤ am_ml j ∧ am_maxl j = am_ml j ∧ am_own j = (am_nm j).cls := by
  unfold am_mck at h
  simp only [Bool.and_eq_true, decide_eq_true_eq, and_assoc] at h
  obtain ⟨a1, a2, a3, a4, a5, a6, a7, a8, a9, b1, b2, b3, b4, b5, b6, b7⟩ := h
  refine ⟨⟨a1, a2, a7⟩, fun k => ?_, fun k => ?_, fun k => ?_, fun k => ?_, fun k => ?_, ⟨a8, a9⟩, b1, Nat.le_of_ble_eq_true b2, Nat.le_of_ble_eq_true b3, Nat.eq_of_beq_eq_true b4, b6⟩
  · rw [k] at a3; exact a3
  · have : Nat.beq (am_kd j) 1 = false := by
      cases z : Nat.beq (am_kd j) 1
      · rfl
      · exact absurd (Nat.eq_of_beq_eq_true z) k
    rw [this] at a3; exact a3
  · rw [k] at a4; exact a4
  · have : Nat.beq (am_kd j) 1 = false := by
      cases z : Nat.beq (am_kd j) 1
      · rfl
      · exact absurd (Nat.eq_of_beq_eq_true z) k
    rw [this] at a5
    have a5 : (match am_rk j with
      | some c => Nat.blt c am_cls.length && decide ((am_cl1 c).1 = (am_nm j).cls) && Nat.blt 0 (am_na_ j)
      | none => false) = true := a5
    split at a5
    · rename_i c hc
      simp only [Bool.and_eq_true, decide_eq_true_eq] at a5
      simp only [and_assoc] at a5
      exact ⟨c, hc, Nat.le_of_ble_eq_true a5.1, a5.2.1, Nat.le_of_ble_eq_true a5.2.2⟩
    · cases a5
  · rw [k] at a6
    have a6 : (decide ((am_nm j).name = "<init>") && decide (am_rt j = none)) = true := a6
    simp only [Bool.and_eq_true, decide_eq_true_eq] at a6
    exact a6
theorem am_met_of (htab : am_tab) {l : Launch} {D : va_G} {ky : Nat → ClassId} {b base : Nat} {xs : List Int32} {n : Nat} (hs : am_snd l D ky b base xs n) : am_mt l D ky b base xs n := by
  intro j As h r h' hj hlaw hcat hlen hrun
  obtain ⟨⟨m1, m2, m3⟩, m4, m5, m6, m7, m8, m9, m10, m11, m12, m13, m14⟩ := am_mck_all (htab.2.1 j hj hlaw)
  have hgr := am_run_gr n _ _ _ hrun
  have hgr1 : h.length ≤ h'.length := hgr.1
  have hgr2 : am_sl h ≤ am_sl h' := hgr.2
  refine Met.ofW (cc := am_by j) (maxL := am_ml j) (ret := am_rt j) m3 rfl ?_
  intro p e s m args below meth c s₁ B hml hv
  obtain ⟨rfl, hok, hh⟩ := hv
  have hx := B.exec
  have hb := B.bytes
  have hr := B.returns
  have hown : s.vm.findClass (am_own j) = some m.cls := by rw [m14]; exact findClass_of_methodNamed B.named
  have hlocks := B.notSynchronized
  have hname : (am_nm j).name = "<init>" → meth.name = "<init>" := fun z => (name_of_methodNamed B.named B.method).1.trans z
  rw [lg_entry_eq]
  have h1 : ∀ v ∈ As.map (am_cv (am_ad b base)), v.category = 1 := by
    intro v hv
    obtain ⟨w, hw, rfl⟩ := List.mem_map.mp hv
    rw [am_cv_cat]
    exact am_cat_one (by omega) w hw
  have hl := lv_entry (As.map (am_cv (am_ad b base))) (n := am_ml j) (by rw [am_sl_len h1, List.length_map]; omega)
  have hl2 := am_ls_sub (ρ := am_ad b base) (L := am_l0 j As) hl (fun i v hi hv => by
    unfold am_l0 at hi
    rw [List.getElem?_append] at hi
    split at hi
    · have := am_lv_args h1 0 i (am_cv (am_ad b base) v) (by rw [List.getElem?_map, hi]; rfl)
      rw [Nat.zero_add] at this
      exact this
    · have := List.eq_of_mem_replicate (List.mem_of_getElem? hi)
      rw [this] at hv
      cases hv)
  refine hs j 0 (am_l0 j As) [] h r h' hj hrun (h'.length - h.length) (am_sl h' - am_sl h) ⟨hx, hb, hml, hr, hown, hname⟩ hok (Nat.le_refl _) (Nat.le_refl _) hh va_S.rf hl2 (fun i x hi => by
    unfold am_l0 at hi
    rw [List.getElem?_append] at hi
    split at hi
    · have := am_cat_one (by omega) _ (List.mem_of_getElem? hi)
      cases this
    · have := List.eq_of_mem_replicate (List.mem_of_getElem? hi)
      cases this) (by omega) (by omega) (Nat.le_refl _) (Nat.le_refl _) ?_
  intro pc' ls' H' locs' hh' hS' hend
  match r, hend with
  | some (.int x), hend =>
    obtain ⟨hd, h2 | ⟨h2, h3⟩⟩ := hend
    · exact W.zret (ty := .int) hx hb (by rw [hr]; exact h2) rfl (fun t ht hW => ⟨⟨x, (), rfl, rfl, show am_hp D ky b base xs h' t.heap by rw [ht]; exact hh'⟩, hS'.F ht⟩) hS'.2.2 hd hlocks
    · exact W.zret (ty := .boolean) hx hb (by rw [hr]; exact h2) (by rcases h3 with h3 | h3 <;> subst h3 <;> rfl) (fun t ht hW => ⟨⟨x, (), rfl, rfl, show am_hp D ky b base xs h' t.heap by rw [ht]; exact hh'⟩, hS'.F ht⟩) hS'.2.2 hd hlocks
  | some (.long x), hend =>
    exact W.lret hx hb (by rw [hr]; exact hend.2) (fun t ht hW => ⟨⟨x, (), rfl, rfl, show am_hp D ky b base xs h' t.heap by rw [ht]; exact hh'⟩, hS'.F ht⟩) hS'.2.2 hend.1 hlocks
  | none, hend =>
    exact W.vret hx hb (by rw [hr]; exact hend.2) (fun t ht hW => ⟨⟨(), rfl, trivial, show am_hp D ky b base xs h' t.heap by rw [ht]; exact hh'⟩, hS'.F ht⟩) hS'.2.2 hend.1 hlocks
end
section
section AMR
variable {p : Program} {l : Launch} {e : Env} {R : Room} {s : State} {m : MethodId} {args : Array Value} {below : List Frame} {meth : Method} {c : Code} {H : Heap} {locs : List Loc} {cells slots : Nat} {Q : State → Prop} {pc : Nat} {ls : Array Slot} {rest : List Value} {cc : ByteArray}
variable {D : va_G} {ky : Nat → ClassId} {b base : Nat} {xs : List Int32} {h : am_H} {own : String} {a : Nat}
theorem am_rc_spec {j c : Nat} {As : List Value} {h : am_H} (hr : am_rc j As h = true) (hk : am_rk j = some c) : ∃ a As0 fs, As = .ref a :: As0 ∧ h[a]? = some (.inr (c, fs)) := by
  unfold am_rc at hr
  rw [hk] at hr
  dsimp only at hr
  split at hr
  · split at hr
    · rename_i hc
      have := Nat.eq_of_beq_eq_true hr
      subst this
      exact ⟨_, _, _, rfl, hc⟩
    · cases hr
  · cases hr
/-- a call of one of the system's methods -/
theorem am_rt_call (htab : am_tab) {n i j idx q : Nat} (hmt : am_mt l D ky b base xs n) {S : List Value} {r : Option Value} {h1 : am_H} {ins : Instr} (hx : p.tables.exec = Jvm.exec) (hb : c.code = am_by i) (hml : c.maxLocals = ls.size) (hown : s.vm.findClass (am_own i) = some m.cls) (hok : am_ok D ky b base xs s) (hh : am_hp D ky b base xs h H) (hS : va_S (fun q : Nat => base ≤ q) s.heap H locs)
    (hfr : am_rank i ≤ R.frames) (hlo : 38 * am_rank i ≤ R.locals) {na : Nat} (hcj : am_cj i j na = true) (hcat : am_cat (S.drop na) ≤ 8) (hlen : na ≤ S.length) (hca : am_cat (S.take na) = na)
    (hz : (bif am_rc j (S.take na).reverse h then am_run n j (0, am_l0 j (S.take na).reverse, [], h) else none) = some (r, h1)) (hcells : cells + (h1.length - h.length) ≤ R.cells) (hslots : slots + (am_sl h1 - am_sl h) ≤ R.slots)
    (hins : (ins = .invokevirtual idx ∧ am_kd j = 0 ∧ am_has q (.methodLink (am_own i) idx (am_nm j)) = true) ∨ (ins = .invokespecial idx ∧ am_kd j = 2 ∧ (am_has q (.methodLink (am_own i) idx (am_nm j)) = true ∨ am_has q (.methodLinkNest (am_own i) idx (am_nm j) am_host) = true)) ∨ (ins = .invokestatic idx ∧ am_kd j = 1 ∧ am_has q (.methodLink (am_own i) idx (am_nm j)) = true))
    (hdg : decode (am_by i) pc = .ok (ins, 3)) :
    ∃ av, va_Run p l e R s m args below meth c H locs cells slots (h1.length - h.length) (am_sl h1 - am_sl h) (F0 m pc ls (S.map (am_cv (am_ad b base)))) ((S.drop na).map (am_cv (am_ad b base))) (am_Q D ky b base xs r h1 av) (fun q : Nat => base ≤ q) := by
  unfold am_cj at hcj
  simp only [Bool.and_eq_true, decide_eq_true_eq, and_assoc] at hcj
  obtain ⟨c1, c2, c3, c4, c5⟩ := hcj
  have hj : j < am_N := Nat.le_of_ble_eq_true c1
  have hna : na = am_na_ j := Nat.eq_of_beq_eq_true c3
  have hrk : am_rank j < am_rank i := Nat.le_of_ble_eq_true c4
  obtain ⟨⟨m1, m2, m3⟩, m4, m5, m6, m7, m8, m9, m10, m11, m12, m13, m14⟩ := am_mck_all (htab.2.1 j hj c5)
  cases hrc : am_rc j (S.take na).reverse h <;> rw [hrc] at hz
  · cases hz
  · have hz : am_run n j (0, am_l0 j (S.take na).reverse, [], h) = some (r, h1) := hz
    have hlt : (S.take na).reverse.length = am_na_ j := by rw [List.length_reverse, List.length_take]; omega
    have hct : am_cat (S.take na).reverse = am_na_ j := by
      have : am_cat (S.take na).reverse = am_cat (S.take na) := by unfold am_cat; rw [List.map_reverse, List.sum_reverse]
      rw [this, hca, hna]
    have hM := hmt j _ h r h1 hj c5 hct hlt hz
    have hbl : FrameBlind (va_Pc ((S.take na).reverse.map (am_cv (am_ad b base))) (fun U => am_ok D ky b base xs U ∧ am_hp D ky b base xs h U.heap)) := fun a U g mk z => ⟨z.1, z.2.1.calling g mk a, z.2.2⟩
    have hPc : ∀ U : State, U.heap = H → s.WarmedH U.vm → va_Pc ((S.take na).reverse.map (am_cv (am_ad b base))) (fun U => am_ok D ky b base xs U ∧ am_hp D ky b base xs h U.heap) ((S.take na).reverse.map (am_cv (am_ad b base))).toArray U := fun U hU hW => ⟨rfl, hok.moved hW hS hU, show am_hp D ky b base xs h U.heap by rw [hU]; exact hh⟩
    have hws : ∀ w ∈ am_wl j, ∀ (a' : Array Value) (U : State), s.WarmedH U.vm → w.before a' U = true := by
      intro w hw a' U hW
      have : w = .code (am_nm j) (am_by j) (am_ml j) (am_rt j) := by simpa using hw
      subst this
      exact word_at hW (Or.inl rfl) (am_has_at m1 hok.1 args)
    have hrest : (((S.drop na).map (am_cv (am_ad b base))).map fun v => v.category).sum ≤ 8 := by rw [am_cat_map]; exact hcat
    have hst0 : S.map (am_cv (am_ad b base)) = ((S.take na).reverse.map (am_cv (am_ad b base))).reverse ++ (S.drop na).map (am_cv (am_ad b base)) := by
      rw [← List.map_reverse, List.reverse_reverse, ← List.map_append, List.take_append_drop]
    have hfx : CallFix p m c (am_by i) ls.size s args [] (am_own i) := ⟨hx, hb, hml, hown, fun w hw => by cases hw⟩
    have hcb : ∀ k, (Cond.methodLink (am_own i) idx (am_nm j)).before args s = true → am_na_ j - k = am_na_ j - (bif Nat.beq (am_kd j) 1 then 0 else 1) → CallB R s args (am_own i) idx (am_nm j) (am_by j) (am_ml j) (am_rt j) (am_wl j) (am_rm_ j (h1.length - h.length) (am_sl h1 - am_sl h)) (h1.length - h.length) (am_sl h1 - am_sl h) (am_na_ j - k) := by
      intro k hl hk
      refine ⟨rfl, rfl, ?_, ?_, hws, List.mem_cons_self, am_has_at m1 hok.1 args, am_has_at m2 hok.1 args, m9, fun sig h => ?_, hl⟩
      · show am_rank j + 1 ≤ R.frames
        omega
      · show 8 + (am_ml j + 11) + 38 * am_rank j ≤ R.locals
        omega
      · rw [h] at m10
        rw [hk]
        exact (Option.some.inj m10).symm
    rcases hins with ⟨rfl, hkd, hl⟩ | ⟨rfl, hkd, hl⟩ | ⟨rfl, hkd, hl⟩
    · obtain ⟨ci, k1, k2, k3, k4⟩ := m7 (by omega)
      obtain ⟨a, As0, fs, e1, e2⟩ := am_rc_spec hrc k1
      rw [e1] at hM hPc hbl hst0
      obtain ⟨k, rfl, hw⟩ := am_pos hh e2 (fun l q => by cases q)
      have h100 : Nat.ble 100 ci = false := by
        cases z : Nat.ble 100 ci
        · rfl
        · have := Nat.le_of_ble_eq_true z; have := am_cls_len; omega
      have hw : (am_ws ky b base h)[k]? = some (base + k, .inr (ci, fs.map (am_cv (am_ad b base)))) := by
        rw [hw]
        simp only [am_cc, h100]; rfl
      have hrec := va_recv hok.2.1 hh.1 (am_cls_at k2) hw
      rw [k3] at hrec
      have hl0 : As0.length = am_na_ j - 1 := by rw [e1] at hlt; simp at hlt; omega
      refine ⟨_, va_runV (As := As0.map (am_cv (am_ad b base))) (rest := (S.drop na).map (am_cv (am_ad b base))) (b := base + k) (C := (am_nm j).cls) hfx hM ⟨hcb 1 (am_has_at hl hok.1 args) (by rw [hkd]; rfl), am_has_at (m5 (by omega)) hok.1 args, am_has_at (m6 hkd) hok.1 args⟩ ⟨hbl, hrec, hPc⟩ rfl (by rw [List.length_map]; exact hl0) rfl ?_ (lv_room hrest) hdg ⟨hcells, hslots⟩⟩
      show S.map (am_cv (am_ad b base)) = _
      rw [hst0]
      simp [am_cv, am_ad]
    · obtain ⟨ci, k1, k2, k3, k4⟩ := m7 (by omega)
      obtain ⟨a, As0, fs, e1, e2⟩ := am_rc_spec hrc k1
      rw [e1] at hM hPc hbl hst0
      obtain ⟨hnm, hrt⟩ := m8 hkd
      have hl0 : As0.length = am_na_ j - 1 := by rw [e1] at hlt; simp at hlt; omega
      have hst : S.map (am_cv (am_ad b base)) = (As0.map (am_cv (am_ad b base))).reverse ++ .ref (am_ad b base a) :: (S.drop na).map (am_cv (am_ad b base)) := by
        rw [hst0]
        simp [am_cv]
      rcases hl with hl | hl
      · have hcb1 := hcb 1 (am_has_at hl hok.1 args) (by rw [hkd]; rfl)
        have hwl : am_wl j = [.code (am_nm j) (am_by j) (am_ml j) none] := by unfold am_wl; rw [hrt]
        rw [hrt] at hcb1
        exact ⟨_, va_runI (As := As0.map (am_cv (am_ad b base))) (rest := (S.drop na).map (am_cv (am_ad b base))) (b := am_ad b base a) hfx hM ⟨hcb1, hnm, am_has_at (m5 (by omega)) hok.1 args⟩ ⟨hbl, hPc⟩ rfl (by rw [List.length_map]; exact hl0) rfl hst (lv_room hrest) hdg ⟨hcells, hslots⟩⟩
      · have hcn : va_CN R s args (am_own i) idx (am_nm j) am_host (am_by j) (am_ml j) none (am_wl j) (am_rm_ j (h1.length - h.length) (am_sl h1 - am_sl h)) (h1.length - h.length) (am_sl h1 - am_sl h) (am_na_ j - 1) := by
          have hc0 : Cond.code (am_nm j) (am_by j) (am_ml j) none ∈ am_wl j := by unfold am_wl; rw [hrt]; exact List.mem_cons_self
          refine ⟨⟨rfl, rfl, ?_, ?_, hws, hc0⟩, ?_, am_has_at m2 hok.1 args, m9, fun sig h => ?_, am_has_at hl hok.1 args⟩
          · show am_rank j + 1 ≤ R.frames
            omega
          · show 8 + (am_ml j + 11) + 38 * am_rank j ≤ R.locals
            omega
          · have := am_has_at m1 hok.1 args
            rw [hrt] at this
            exact this
          · rw [h, hkd] at m10
            exact (Option.some.inj m10).symm
        exact ⟨_, va_runIN (As := As0.map (am_cv (am_ad b base))) (rest := (S.drop na).map (am_cv (am_ad b base))) (b := am_ad b base a) hfx hM ⟨hcn, hnm, am_has_at (m5 (by omega)) hok.1 args⟩ ⟨hbl, hPc⟩ rfl (by rw [List.length_map]; exact hl0) rfl hst (lv_room hrest) hdg ⟨hcells, hslots⟩⟩
    · refine ⟨_, va_runS (As := (S.take na).reverse.map (am_cv (am_ad b base))) (rest := (S.drop na).map (am_cv (am_ad b base))) hfx hM ⟨hcb 0 (am_has_at hl hok.1 args) (by rw [hkd]; rfl), am_has_at (m4 hkd) hok.1 args⟩ ⟨hbl, hPc⟩ rfl (by rw [List.length_map]; exact hlt) rfl hst0 (lv_room hrest) hdg ⟨hcells, hslots⟩⟩
end AMR
end
section
theorem am_gi_spec {h : am_H} {a c k : Nat} {x : Int32} (hh : am_gi h a c k = some x) : ∃ fs, h[a]? = some (.inr (c, fs)) ∧ fs[k]? = some (.int x) := by
  unfold am_gi at hh
  split at hh
  · rename_i c' fs e
    cases q : Nat.beq c' c <;> rw [q] at hh
    · cases hh
    · have q := Nat.eq_of_beq_eq_true q
      subst q
      dsimp only [cond] at hh
      split at hh
      · rename_i y hy
        cases hh
        exact ⟨fs, e, hy⟩
      · cases hh
  · cases hh
theorem am_gr_spec {h : am_H} {a c k : Nat} {x : Nat} (hh : am_gr h a c k = some x) : ∃ fs, h[a]? = some (.inr (c, fs)) ∧ fs[k]? = some (.ref x) := by
  unfold am_gr at hh
  split at hh
  · rename_i c' fs e
    cases q : Nat.beq c' c <;> rw [q] at hh
    · cases hh
    · have q := Nat.eq_of_beq_eq_true q
      subst q
      dsimp only [cond] at hh
      split at hh
      · rename_i y hy
        cases hh
        exact ⟨fs, e, hy⟩
      · cases hh
  · cases hh
theorem am_bi_spec {o : Option am_R} {f : Int32 → am_H → Option am_R} {z : am_R} (h : am_bi o f = some z) : ∃ x h1, o = some (some (.int x), h1) ∧ f x h1 = some z := by
  unfold am_bi at h
  split at h
  · exact ⟨_, _, rfl, h⟩
  · cases h
theorem am_bl_spec {o : Option am_R} {f : Int64 → am_H → Option am_R} {z : am_R} (h : am_bl o f = some z) : ∃ x h1, o = some (some (.long x), h1) ∧ f x h1 = some z := by
  unfold am_bl at h
  split at h
  · exact ⟨_, _, rfl, h⟩
  · cases h
theorem am_bv_spec {o : Option am_R} {f : am_H → Option am_R} {z : am_R} (h : am_bv o f = some z) : ∃ h1, o = some (none, h1) ∧ f h1 = some z := by
  unfold am_bv at h
  split at h
  · exact ⟨_, rfl, h⟩
  · cases h
def am_nat (j pc : Nat) (L S : List Value) (h : am_H) : Option am_A := match j, S with
    | 1000, .int y :: .int x :: r => am_Go (pc, L, .int (am_max x y) :: r, h)
    | 1001, .int y :: .int x :: r => am_Go (pc, L, .int (am_min x y) :: r, h)
    | 1002, .int n :: .int dp :: .ref b :: .int sp :: .ref a :: r => am_Wr (am_cp h a sp b dp n) (fun h => (pc, L, r, h))
    | 1003, .ref _ :: r => am_Go (pc, L, r, h)
    | _, _ => none
theorem am_inv_spec {E : Nat → List Value → am_H → Option am_R} {K : am_S → Option am_R} {j n pc : Nat} {L S : List Value} {h : am_H} {z : am_R} (hz : am_do E K (am_inv j n pc L S h) = some z) :
    (am_cat (S.drop n) ≤ 8 ∧ n ≤ S.length ∧ am_cat (S.take n) = n) ∧
    (j < 1000 → (∃ x h1, E j (S.take n).reverse h = some (some (.long x), h1) ∧ K (pc, L, .long x :: S.drop n, h1) = some z) ∨ (∃ x h1, E j (S.take n).reverse h = some (some (.int x), h1) ∧ K (pc, L, .int x :: S.drop n, h1) = some z) ∨ (∃ h1, E j (S.take n).reverse h = some (none, h1) ∧ K (pc, L, S.drop n, h1) = some z)) ∧
    (1000 ≤ j → am_do E K (am_nat j pc L S h) = some z) := by
  unfold am_inv at hz
  cases q : (Nat.blt 8 (am_cat (S.drop n)) || (Nat.blt S.length n || !(Nat.beq (am_cat (S.take n)) n))) <;> rw [q] at hz
  · simp only [Bool.or_eq_false_iff, Bool.not_eq_false'] at q
    obtain ⟨q1, q2, q3⟩ := q
    have nb : ∀ {a b : Nat}, Nat.blt a b = false → b ≤ a := fun {a b} q => Nat.le_of_not_lt fun z => by
      have := Nat.ble_eq_true_of_le (show a + 1 ≤ b from z)
      rw [show Nat.blt a b = Nat.ble (a + 1) b from rfl, this] at q
      cases q
    refine ⟨⟨nb q1, nb q2, Nat.eq_of_beq_eq_true q3⟩, fun hj => ?_, fun hj => ?_⟩
    · have hb : Nat.blt j 1000 = true := Nat.ble_eq_true_of_le hj
      rw [hb] at hz
      dsimp only [cond] at hz
      split at hz
      · exact Or.inl (am_bl_spec hz)
      · exact Or.inr (Or.inl (am_bi_spec hz))
      · exact Or.inr (Or.inr (am_bv_spec hz))
    · have hb : Nat.blt j 1000 = false := by
        cases w : Nat.blt j 1000
        · rfl
        · have := Nat.le_of_ble_eq_true w; omega
      rw [hb] at hz
      exact hz
  · cases hz
theorem am_bz_spec {x y : Int32} (h : am_bz x = some y) : y = x ∧ (x = 0 ∨ x = 1) := by
  unfold am_bz at h
  cases q : (decide (x = 0) || decide (x = 1)) <;> rw [q] at h
  · cases h
  · cases h
    exact ⟨rfl, by simpa using q⟩
theorem am_dv_spec {x y z : Int32} (h : am_dv x y = some z) : ¬ y = 0 ∧ z = x / y := by
  unfold am_dv at h
  cases q : decide (y = 0) <;> rw [q] at h
  · cases h
    exact ⟨of_decide_eq_false q, rfl⟩
  · cases h
theorem am_rm_spec {x y z : Int32} (h : am_rm x y = some z) : ¬ y = 0 ∧ z = x - x / y * y := by
  unfold am_rm at h
  cases q : decide (y = 0) <;> rw [q] at h
  · cases h
    exact ⟨of_decide_eq_false q, rfl⟩
  · cases h
set_option maxHeartbeats 4000000 in
theorem am_snd_succ (htab : am_tab) {l : Launch} {D : va_G} {ky : Nat → ClassId} {b base : Nat} {xs : List Int32} {n : Nat} (ih : am_snd l D ky b base xs n) : am_snd l D ky b base xs (n + 1) := by
  have hmt := am_met_of htab ih
  intro i pc L S h r h' hi hrun p e R s m args below meth c H locs cells slots Q ls C Sl hfr hok hfm hlo hh hS hl hlg hC hSl hC2 hSl2 kr
  obtain ⟨hx, hb, hml, hrt, hown, hname⟩ := id hfr
  have hz : am_do (fun j As h => bif am_rc j As h then am_run n j (0, am_l0 j As, [], h) else none) (am_run n i) (am_act i (pc, L, S, h)) = some (r, h') := hrun
  have hret := htab.2.2.2.2 i hi
  cases hf : am_find (am_code i) pc with
  | none => simp [am_act, hf, am_do] at hz
  | some e0 =>
  obtain ⟨hmem, hpc⟩ := am_find_spec hf
  have hck := htab.1 i hi e0 hmem
  obtain ⟨pc0, ins, len, a1, a2, a3, ci, cl, sw⟩ := e0
  have hpc : pc0 = pc := hpc
  subst hpc
  have hz : am_do (fun j As h => bif am_rc j As h then am_run n j (0, am_l0 j As, [], h) else none) (am_run n i) (am_step i (pc0, ins, len, a1, a2, a3, ci, cl, sw) L S h) = some (r, h') := by simpa only [am_act, hf] using hz
  obtain ⟨hd, hck⟩ := Bool.and_eq_true_iff.mp hck
  have hd : decode (am_by i) pc0 = .ok (ins, len) := of_decide_eq_true hd
  have hsz : c.maxLocals = ls.size := by rw [hml, hl.1]
  have go : ∀ {pc' : Nat} {L' S' : List Value} {h1 : am_H} {H1 : Heap} {locs1 : List Loc} {cells1 slots1 : Nat} {ls1 : Array Slot}, am_run n i (pc', L', S', h1) = some (r, h') → am_hp D ky b base xs h1 H1 → va_S (fun q : Nat => base ≤ q) s.heap H1 locs1 → lv_has ls1 (am_ml i) (am_ls (am_ad b base) 0 L') → am_lg i L' → cells1 + h'.length = C + h1.length → slots1 + am_sl h' = Sl + am_sl h1 → W p l e R s m args below meth c H1 locs1 cells1 slots1 Q (F0 m pc' ls1 (S'.map (am_cv (am_ad b base)))) := fun hz a1 a2 a3 a6 a4 a5 => ih i _ _ _ _ r h' hi hz C Sl hfr hok hfm hlo a1 a2 a3 a6 a4 a5 hC2 hSl2 kr
  have go0 : ∀ {pc' : Nat} {S' : List Value}, am_run n i (pc', L, S', h) = some (r, h') → W p l e R s m args below meth c H locs cells slots Q (F0 m pc' ls (S'.map (am_cv (am_ad b base)))) := fun hz => go hz hh hS hl hlg hC hSl
  have goL : ∀ {pc' : Nat} {L' S' : List Value} {ls1 : Array Slot}, am_run n i (pc', L', S', h) = some (r, h') → lv_has ls1 (am_ml i) (am_ls (am_ad b base) 0 L') → am_lg i L' → W p l e R s m args below meth c H locs cells slots Q (F0 m pc' ls1 (S'.map (am_cv (am_ad b base)))) := fun hz hl hlg => go hz hh hS hl hlg hC hSl
  have gow : ∀ {pc' : Nat} {S' : List Value} {h1 : am_H} {H1 : Heap} {locs1 : List Loc}, am_run n i (pc', L, S', h1) = some (r, h') → am_hp D ky b base xs h1 H1 → va_S (fun q : Nat => base ≤ q) s.heap H1 locs1 → h1.length = h.length ∧ am_sl h1 = am_sl h → W p l e R s m args below meth c H1 locs1 cells slots Q (F0 m pc' ls (S'.map (am_cv (am_ad b base)))) := fun hz a1 a2 a3 => go hz a1 a2 hl hlg (by rw [a3.1]; exact hC) (by rw [a3.2]; exact hSl)
  have h'le : h.length ≤ h'.length := (am_run_gr (n + 1) _ _ _ hrun).1
  have h'sl : am_sl h ≤ am_sl h' := (am_run_gr (n + 1) _ _ _ hrun).2
  have hcl : cells ≤ R.cells := by omega
  have hsl : slots ≤ R.slots := by omega
  have lenq : ∀ {k : Nat}, Nat.beq len k = true → len = k := fun z => Nat.eq_of_beq_eq_true z
  -- a call of a method of the system
  have sys : ∀ {idx : Nat} {ins : Instr}, decode (am_by i) pc0 = .ok (ins, 3) → am_cj i a1 a2 = true → ((ins = .invokevirtual idx ∧ am_kd a1 = 0 ∧ am_has a3 (.methodLink (am_own i) idx (am_nm a1)) = true) ∨ (ins = .invokespecial idx ∧ am_kd a1 = 2 ∧ (am_has a3 (.methodLink (am_own i) idx (am_nm a1)) = true ∨ am_has a3 (.methodLinkNest (am_own i) idx (am_nm a1) am_host) = true)) ∨ (ins = .invokestatic idx ∧ am_kd a1 = 1 ∧ am_has a3 (.methodLink (am_own i) idx (am_nm a1)) = true)) → am_do (fun j As h => bif am_rc j As h then am_run n j (0, am_l0 j As, [], h) else none) (am_run n i) (am_inv a1 a2 (pc0 + 3) L S h) = some (r, h') → W p l e R s m args below meth c H locs cells slots Q (F0 m pc0 ls (S.map (am_cv (am_ad b base)))) := by
    intro idx ins hd hcj hins hz
    obtain ⟨⟨g1, g2, g3⟩, g4, -⟩ := am_inv_spec hz
    have hj : a1 < 1000 := by
      have hcj := hcj
      unfold am_cj at hcj
      simp only [Bool.and_eq_true, decide_eq_true_eq, and_assoc] at hcj
      exact Nat.le_of_ble_eq_true hcj.2.1
    have grow : ∀ {v : Option Value} {h1 : am_H}, (bif am_rc a1 (S.take a2).reverse h then am_run n a1 (0, am_l0 a1 (S.take a2).reverse, [], h) else none) = some (v, h1) → am_gr_ h h1 := by
      intro v h1 hE
      cases q : am_rc a1 (S.take a2).reverse h <;> rw [q] at hE
      · cases hE
      · exact am_run_gr n _ _ _ hE
    rcases g4 hj with ⟨x, h1, hE, hz⟩ | ⟨x, h1, hE, hz⟩ | ⟨h1, hE, hz⟩
    · have e1 := grow hE
      have e2 : am_gr_ h1 h' := am_run_gr n _ _ _ hz
      have e11 := e1.1; have e12 := e1.2; have e21 := e2.1; have e22 := e2.2
      obtain ⟨av, hr⟩ := am_rt_call htab hmt hx hb hsz hown hok hh hS hfm hlo hcj g1 g2 g3 hE (cells := cells) (slots := slots) (by omega) (by omega) hins hd
      have hr : va_Run p l e R s m args below meth c H locs cells slots (h1.length - h.length) (am_sl h1 - am_sl h) (F0 m pc0 ls (S.map (am_cv (am_ad b base)))) ((S.drop a2).map (am_cv (am_ad b base))) (va_Ql (fun y (_ : Unit) => y = x) (fun _ t => am_hp D ky b base xs h1 t.heap) (fun q : Nat => base ≤ q) av) (fun q : Nat => base ≤ q) := hr
      refine va_calll hr hS (fun _ _ h => h) (fun _ h => h) (fun r2 u t H1 locs1 ht hvm hpost hB hz1 hk1 hS1 => ?_)
      subst hpost
      rw [ht] at hB
      exact go (S' := .long r2 :: S.drop a2) hz hB hS1 hl hlg (by omega) (by omega)
    · have e1 := grow hE
      have e2 : am_gr_ h1 h' := am_run_gr n _ _ _ hz
      have e11 := e1.1; have e12 := e1.2; have e21 := e2.1; have e22 := e2.2
      obtain ⟨av, hr⟩ := am_rt_call htab hmt hx hb hsz hown hok hh hS hfm hlo hcj g1 g2 g3 hE (cells := cells) (slots := slots) (by omega) (by omega) hins hd
      have hr : va_Run p l e R s m args below meth c H locs cells slots (h1.length - h.length) (am_sl h1 - am_sl h) (F0 m pc0 ls (S.map (am_cv (am_ad b base)))) ((S.drop a2).map (am_cv (am_ad b base))) (va_Qi (fun y (_ : Unit) => y = x) (fun _ t => am_hp D ky b base xs h1 t.heap) (fun q : Nat => base ≤ q) av) (fun q : Nat => base ≤ q) := hr
      refine va_calli hr hS (fun _ _ h => h) (fun _ h => h) (fun r2 u t H1 locs1 ht hvm hpost hB hz1 hk1 hS1 => ?_)
      subst hpost
      rw [ht] at hB
      exact go (S' := .int r2 :: S.drop a2) hz hB hS1 hl hlg (by omega) (by omega)
    · have e1 := grow hE
      have e2 : am_gr_ h1 h' := am_run_gr n _ _ _ hz
      have e11 := e1.1; have e12 := e1.2; have e21 := e2.1; have e22 := e2.2
      obtain ⟨av, hr⟩ := am_rt_call htab hmt hx hb hsz hown hok hh hS hfm hlo hcj g1 g2 g3 hE (cells := cells) (slots := slots) (by omega) (by omega) hins hd
      have hr : va_Run p l e R s m args below meth c H locs cells slots (h1.length - h.length) (am_sl h1 - am_sl h) (F0 m pc0 ls (S.map (am_cv (am_ad b base)))) ((S.drop a2).map (am_cv (am_ad b base))) (va_Qv (fun (_ : Unit) => True) (fun _ t => am_hp D ky b base xs h1 t.heap) (fun q : Nat => base ≤ q) av) (fun q : Nat => base ≤ q) := hr
      refine va_callv hr hS (fun _ _ h => h) (fun _ h => h) (fun u t H1 locs1 ht hvm hpost hB hz1 hk1 hS1 => ?_)
      rw [ht] at hB
      exact go (S' := S.drop a2) hz hB hS1 hl hlg (by omega) (by omega)
  have hnck := htab.2.2.2.1
  unfold am_nck at hnck
  simp only [Bool.and_eq_true, and_assoc] at hnck
  obtain ⟨k1, k2, k3, k4, k5, k6, k7, k8, k9, k10, k11, k12, k13, k14⟩ := hnck
  cases ins with
  | iconst k =>
    obtain ⟨c1, c2⟩ := Bool.and_eq_true_iff.mp hck
    have e1 := lenq c1; subst e1
    exact lv_iconst hx hb hd (of_decide_eq_true c2) (go0 (S' := .int ci :: S) hz)
  | bipush k =>
    obtain ⟨c1, c2⟩ := Bool.and_eq_true_iff.mp hck
    have e1 := lenq c1; subst e1
    exact lv_bipush hx hb hd (of_decide_eq_true c2) (go0 (S' := .int ci :: S) hz)
  | sipush k =>
    obtain ⟨c1, c2⟩ := Bool.and_eq_true_iff.mp hck
    have e1 := lenq c1; subst e1
    exact lv_sipush hx hb hd (of_decide_eq_true c2) (go0 (S' := .int ci :: S) hz)
  | ldc k =>
    obtain ⟨c1, c2⟩ := Bool.and_eq_true_iff.mp hck
    have e1 := lenq c1; subst e1
    exact lv_ldc hx hb hown (am_has_at c2 hok.1 args) hd (go0 (S' := .int ci :: S) hz)
  | lconst k =>
    obtain ⟨c1, c2⟩ := Bool.and_eq_true_iff.mp hck
    have e1 := lenq c1; subst e1
    exact lv_lconst hx hb hd (of_decide_eq_true c2) (go0 (S' := .long cl :: S) hz)
  | ldc2_w k =>
    obtain ⟨c1, c2⟩ := Bool.and_eq_true_iff.mp hck
    have e1 := lenq c1; subst e1
    exact lv_ldc2 hx hb hown (am_has_at c2 hok.1 args) hd (go0 (S' := .long cl :: S) hz)
  | aconst_null =>
    have e1 := lenq hck; subst e1
    exact lv_null hx hb hd (go0 (S' := .null :: S) hz)
  | iload_n k =>
    obtain ⟨c1, c2⟩ := Bool.and_eq_true_iff.mp hck
    have e1 := lenq c1; subst e1
    cases hL : L[a1]? with
    | none => simp [am_step, hL, am_do] at hz
    | some v => cases v with
      | int x => exact lv_iload_n hx hb hd (Nat.eq_of_beq_eq_true c2) (am_ls_at hl hL rfl) (go0 (S' := .int x :: S) (by simpa only [am_step, hL, am_do] using hz))
      | _ => simp [am_step, hL, am_do] at hz
  | iload k =>
    obtain ⟨c1, c2⟩ := Bool.and_eq_true_iff.mp hck
    have e1 := lenq c1; subst e1
    cases hL : L[a1]? with
    | none => simp [am_step, hL, am_do] at hz
    | some v => cases v with
      | int x => exact lv_iload hx hb (by rw [Nat.eq_of_beq_eq_true c2] at hd; exact hd) (am_ls_at hl hL rfl) (go0 (S' := .int x :: S) (by simpa only [am_step, hL, am_do] using hz))
      | _ => simp [am_step, hL, am_do] at hz
  | lload_n k =>
    obtain ⟨c1, c2⟩ := Bool.and_eq_true_iff.mp hck
    have e1 := lenq c1; subst e1
    cases hL : L[a1]? with
    | none => simp [am_step, hL, am_do] at hz
    | some v => cases v with
      | long x => exact lv_lload_n hx hb hd (Nat.eq_of_beq_eq_true c2) (am_ls_at hl hL rfl) (go0 (S' := .long x :: S) (by simpa only [am_step, hL, am_do] using hz))
      | _ => simp [am_step, hL, am_do] at hz
  | lload k =>
    obtain ⟨c1, c2⟩ := Bool.and_eq_true_iff.mp hck
    have e1 := lenq c1; subst e1
    cases hL : L[a1]? with
    | none => simp [am_step, hL, am_do] at hz
    | some v => cases v with
      | long x => exact lv_lload hx hb (by rw [Nat.eq_of_beq_eq_true c2] at hd; exact hd) (am_ls_at hl hL rfl) (go0 (S' := .long x :: S) (by simpa only [am_step, hL, am_do] using hz))
      | _ => simp [am_step, hL, am_do] at hz
  | aload_n k =>
    obtain ⟨c1, c2⟩ := Bool.and_eq_true_iff.mp hck
    have e1 := lenq c1; subst e1
    cases hL : L[a1]? with
    | none => simp [am_step, hL, am_do] at hz
    | some v => cases v with
      | ref x => exact lv_aload_n hx hb hd (Nat.eq_of_beq_eq_true c2) (am_ls_at hl hL rfl) (go0 (S' := .ref x :: S) (by simpa only [am_step, hL, am_do] using hz))
      | null => exact lv_aload_nN hx hb hd (Nat.eq_of_beq_eq_true c2) (am_ls_at hl hL rfl) (go0 (S' := .null :: S) (by simpa only [am_step, hL, am_do] using hz))
      | _ => simp [am_step, hL, am_do] at hz
  | aload k =>
    obtain ⟨c1, c2⟩ := Bool.and_eq_true_iff.mp hck
    have e1 := lenq c1; subst e1
    cases hL : L[a1]? with
    | none => simp [am_step, hL, am_do] at hz
    | some v => cases v with
      | ref x => exact lv_aload hx hb (by rw [Nat.eq_of_beq_eq_true c2] at hd; exact hd) (am_ls_at hl hL rfl) (go0 (S' := .ref x :: S) (by simpa only [am_step, hL, am_do] using hz))
      | null => exact lv_aloadN hx hb (by rw [Nat.eq_of_beq_eq_true c2] at hd; exact hd) (am_ls_at hl hL rfl) (go0 (S' := .null :: S) (by simpa only [am_step, hL, am_do] using hz))
      | _ => simp [am_step, hL, am_do] at hz
  | istore_n k =>
    obtain ⟨c1, c4⟩ := Bool.and_eq_true_iff.mp hck; obtain ⟨c1, c3⟩ := Bool.and_eq_true_iff.mp c1; obtain ⟨c1, c2⟩ := Bool.and_eq_true_iff.mp c1
    have e1 := lenq c1; subst e1
    match S, hz with
    | .int x :: rs, hz => exact lv_istore_n (lv := am_ls (am_ad b base) 0 L) hx hb hd (Nat.eq_of_beq_eq_true c2) hl (Nat.le_of_ble_eq_true c3) rfl (fun ls1 hl1 => goL (S' := rs) hz (am_ls_st1 (am_lg_no hlg c4) rfl hl1) (am_lg_st1 hlg (fun _ z => by cases z)))
  | istore k =>
    obtain ⟨c1, c4⟩ := Bool.and_eq_true_iff.mp hck; obtain ⟨c1, c3⟩ := Bool.and_eq_true_iff.mp c1; obtain ⟨c1, c2⟩ := Bool.and_eq_true_iff.mp c1
    have e1 := lenq c1; subst e1
    rw [Nat.eq_of_beq_eq_true c2] at hd
    match S, hz with
    | .int x :: rs, hz => exact lv_istore (lv := am_ls (am_ad b base) 0 L) hx hb hd hl (Nat.le_of_ble_eq_true c3) rfl (fun ls1 hl1 => goL (S' := rs) hz (am_ls_st1 (am_lg_no hlg c4) rfl hl1) (am_lg_st1 hlg (fun _ z => by cases z)))
  | lstore_n k =>
    obtain ⟨c1, c5⟩ := Bool.and_eq_true_iff.mp hck; obtain ⟨c1, c4⟩ := Bool.and_eq_true_iff.mp c1; obtain ⟨c1, c3⟩ := Bool.and_eq_true_iff.mp c1; obtain ⟨c1, c2⟩ := Bool.and_eq_true_iff.mp c1
    have e1 := lenq c1; subst e1
    match S, hz with
    | .long x :: rs, hz => exact lv_lstore_n (lv := am_ls (am_ad b base) 0 L) hx hb hd (Nat.eq_of_beq_eq_true c2) hl (Nat.le_of_ble_eq_true c3) rfl (fun ls1 hl1 => goL (S' := rs) hz (am_ls_st2 (am_lg_no hlg c4) rfl hl1) (am_lg_st2 hlg c5))
  | lstore k =>
    obtain ⟨c1, c5⟩ := Bool.and_eq_true_iff.mp hck; obtain ⟨c1, c4⟩ := Bool.and_eq_true_iff.mp c1; obtain ⟨c1, c3⟩ := Bool.and_eq_true_iff.mp c1; obtain ⟨c1, c2⟩ := Bool.and_eq_true_iff.mp c1
    have e1 := lenq c1; subst e1
    rw [Nat.eq_of_beq_eq_true c2] at hd
    match S, hz with
    | .long x :: rs, hz => exact lv_lstore (lv := am_ls (am_ad b base) 0 L) hx hb hd hl (Nat.le_of_ble_eq_true c3) rfl (fun ls1 hl1 => goL (S' := rs) hz (am_ls_st2 (am_lg_no hlg c4) rfl hl1) (am_lg_st2 hlg c5))
  | astore_n k =>
    obtain ⟨c1, c4⟩ := Bool.and_eq_true_iff.mp hck; obtain ⟨c1, c3⟩ := Bool.and_eq_true_iff.mp c1; obtain ⟨c1, c2⟩ := Bool.and_eq_true_iff.mp c1
    have e1 := lenq c1; subst e1
    match S, hz with
    | .ref x :: rs, hz => exact lv_astore_n (lv := am_ls (am_ad b base) 0 L) hx hb hd (Nat.eq_of_beq_eq_true c2) hl (Nat.le_of_ble_eq_true c3) rfl (fun ls1 hl1 => goL (S' := rs) hz (am_ls_st1 (am_lg_no hlg c4) rfl hl1) (am_lg_st1 hlg (fun _ z => by cases z)))
    | .null :: rs, hz => exact lv_astore_nN (lv := am_ls (am_ad b base) 0 L) hx hb hd (Nat.eq_of_beq_eq_true c2) hl (Nat.le_of_ble_eq_true c3) rfl (fun ls1 hl1 => goL (S' := rs) hz (am_ls_st1 (am_lg_no hlg c4) rfl hl1) (am_lg_st1 hlg (fun _ z => by cases z)))
  | astore k =>
    obtain ⟨c1, c4⟩ := Bool.and_eq_true_iff.mp hck; obtain ⟨c1, c3⟩ := Bool.and_eq_true_iff.mp c1; obtain ⟨c1, c2⟩ := Bool.and_eq_true_iff.mp c1
    have e1 := lenq c1; subst e1
    rw [Nat.eq_of_beq_eq_true c2] at hd
    match S, hz with
    | .ref x :: rs, hz => exact lv_astore (lv := am_ls (am_ad b base) 0 L) hx hb hd hl (Nat.le_of_ble_eq_true c3) rfl (fun ls1 hl1 => goL (S' := rs) hz (am_ls_st1 (am_lg_no hlg c4) rfl hl1) (am_lg_st1 hlg (fun _ z => by cases z)))
    | .null :: rs, hz => exact lv_astoreN (lv := am_ls (am_ad b base) 0 L) hx hb hd hl (Nat.le_of_ble_eq_true c3) rfl (fun ls1 hl1 => goL (S' := rs) hz (am_ls_st1 (am_lg_no hlg c4) rfl hl1) (am_lg_st1 hlg (fun _ z => by cases z)))
  | iinc k0 k =>
    obtain ⟨c1, c5⟩ := Bool.and_eq_true_iff.mp hck; obtain ⟨c1, c4⟩ := Bool.and_eq_true_iff.mp c1; obtain ⟨c1, c3⟩ := Bool.and_eq_true_iff.mp c1; obtain ⟨c1, c2⟩ := Bool.and_eq_true_iff.mp c1
    have e1 := lenq c1; subst e1
    rw [Nat.eq_of_beq_eq_true c2] at hd
    cases hL : L[a1]? with
    | none => simp [am_step, hL, am_do] at hz
    | some v => cases v with
      | int x =>
        obtain ⟨kk, hkk⟩ := List.getElem?_of_mem (am_ls_mem (ρ := am_ad b base) (k := 0) (q := (a1, .int x)) |>.mpr ⟨a1, .int x, hL, rfl, by simp [am_cv]⟩)
        exact lv_iinc (lv := am_ls (am_ad b base) 0 L) hx hb hd hl hkk (v := x + ci) (by rw [of_decide_eq_true c3]) (Nat.le_of_ble_eq_true c4) rfl (fun ls1 hl1 => goL (S' := S) (by simpa only [am_step, hL, am_do] using hz) (am_ls_st1 (v := .int (x + ci)) (am_lg_no hlg c5) rfl hl1) (am_lg_st1 hlg (fun _ z => by cases z)))
      | _ => simp [am_step, hL, am_do] at hz
  | iadd =>
    have e1 := lenq hck; subst e1
    match S, hz with
    | .int y :: .int x :: rs, hz => exact lv_iadd hx hb hd (go0 (S' := .int (x + y) :: rs) hz)
  | isub =>
    have e1 := lenq hck; subst e1
    match S, hz with
    | .int y :: .int x :: rs, hz => exact lv_isub hx hb hd (go0 (S' := .int (x - y) :: rs) hz)
  | imul =>
    have e1 := lenq hck; subst e1
    match S, hz with
    | .int y :: .int x :: rs, hz => exact lv_imul hx hb hd (go0 (S' := .int (x * y) :: rs) hz)
  | iand =>
    have e1 := lenq hck; subst e1
    match S, hz with
    | .int y :: .int x :: rs, hz => exact lv_iand hx hb hd (go0 (S' := .int (x &&& y) :: rs) hz)
  | ladd =>
    have e1 := lenq hck; subst e1
    match S, hz with
    | .long y :: .long x :: rs, hz => exact lv_ladd hx hb hd (go0 (S' := .long (x + y) :: rs) hz)
  | lsub =>
    have e1 := lenq hck; subst e1
    match S, hz with
    | .long y :: .long x :: rs, hz => exact lv_lsub hx hb hd (go0 (S' := .long (x - y) :: rs) hz)
  | lmul =>
    have e1 := lenq hck; subst e1
    match S, hz with
    | .long y :: .long x :: rs, hz => exact lv_lmul hx hb hd (go0 (S' := .long (x * y) :: rs) hz)
  | idiv =>
    have e1 := lenq hck; subst e1
    match S, hz with
    | .int y :: .int x :: rs, hz =>
      obtain ⟨z, hg, hz⟩ := Option.bind_eq_some_iff.mp hz
      obtain ⟨hne, rfl⟩ := am_dv_spec hg
      exact lv_idiv hx hb hd hne (go0 (S' := .int (x / y) :: rs) hz)
  | irem =>
    have e1 := lenq hck; subst e1
    match S, hz with
    | .int y :: .int x :: rs, hz =>
      obtain ⟨z, hg, hz⟩ := Option.bind_eq_some_iff.mp hz
      obtain ⟨hne, rfl⟩ := am_rm_spec hg
      exact lv_irem hx hb hd hne (go0 (S' := .int (x - x / y * y) :: rs) hz)
  | ldiv =>
    have e1 := lenq hck; subst e1
    match S, hz with
    | .long y :: .long x :: rs, hz =>
      cases q : decide (y = 0)
      · have hz : am_run n i (pc0 + 1, L, .long (x / y) :: rs, h) = some (r, h') := by simpa only [am_step, q, cond, am_do] using hz
        exact lv_ldiv hx hb hd (of_decide_eq_false q) (go0 (S' := .long (x / y) :: rs) hz)
      · simp [am_step, q, am_do] at hz
  | lcmp =>
    have e1 := lenq hck; subst e1
    match S, hz with
    | .long y :: .long x :: rs, hz => exact W.lcmp hx hb hd (go0 (S' := .int (lg_cmp x y) :: rs) hz)
  | i2l =>
    have e1 := lenq hck; subst e1
    match S, hz with
    | .int x :: rs, hz => exact lv_i2l hx hb hd rfl (go0 (S' := .long x.toInt64 :: rs) hz)
  | l2i =>
    have e1 := lenq hck; subst e1
    match S, hz with
    | .long x :: rs, hz => exact lv_l2i hx hb hd rfl (go0 (S' := .int x.toInt32 :: rs) hz)
  | i2c =>
    have e1 := lenq hck; subst e1
    match S, hz with
    | .int x :: rs, hz => exact lv_i2c hx hb hd rfl (go0 (S' := .int (x.toUInt32 % 65536).toInt32 :: rs) hz)
  | dup =>
    have e1 := lenq hck; subst e1
    match S, hz with
    | .ref x :: rs, hz => exact lv_dup hx hb hd rfl (go0 (S' := .ref x :: .ref x :: rs) hz)
    | .int x :: rs, hz => exact lv_dup hx hb hd rfl (go0 (S' := .int x :: .int x :: rs) hz)
  | dup2 =>
    have e1 := lenq hck; subst e1
    match S, hz with
    | .int y :: .ref x :: rs, hz => exact lv_dup2_11 hx hb hd rfl rfl (go0 (S' := .int y :: .ref x :: .int y :: .ref x :: rs) hz)
  | pop =>
    have e1 := lenq hck; subst e1
    match S, hz with
    | .int x :: rs, hz => exact lv_pop hx hb hd rfl (go0 (S' := rs) hz)
  | if_icmp cd off =>
    obtain ⟨c1, c2⟩ := Bool.and_eq_true_iff.mp hck
    have e1 := lenq c1; subst e1
    match S, hz with
    | .int y :: .int x :: rs, hz =>
      have hz : (bif am_cm cd x y then am_run n i (a1, L, rs, h) else am_run n i (pc0 + 3, L, rs, h)) = some (r, h') := hz
      cases cd with
      | eq => exact lv_icmp_eq hx hb hd (of_decide_eq_true c2) (fun g => go0 (S' := rs) (am_bt (decide_eq_true g) hz)) (fun g => go0 (S' := rs) (am_bf (decide_eq_false g) hz))
      | ne => exact lv_icmp_ne hx hb hd (of_decide_eq_true c2) (fun g => go0 (S' := rs) (am_bt (decide_eq_true g) hz)) (fun g => go0 (S' := rs) (am_bf (decide_eq_false (fun q => q g)) hz))
      | lt => exact lv_icmp_lt hx hb hd (of_decide_eq_true c2) (fun g => go0 (S' := rs) (am_bt (decide_eq_true g) hz)) (fun g => go0 (S' := rs) (am_bf (decide_eq_false g) hz))
      | ge => exact lv_icmp_ge hx hb hd (of_decide_eq_true c2) (fun g => go0 (S' := rs) (am_bt (decide_eq_true g) hz)) (fun g => go0 (S' := rs) (am_bf (decide_eq_false g) hz))
      | gt => exact lv_icmp_gt hx hb hd (of_decide_eq_true c2) (fun g => go0 (S' := rs) (am_bt (decide_eq_true g) hz)) (fun g => go0 (S' := rs) (am_bf (decide_eq_false g) hz))
      | le => exact lv_icmp_le hx hb hd (of_decide_eq_true c2) (fun g => go0 (S' := rs) (am_bt (decide_eq_true g) hz)) (fun g => go0 (S' := rs) (am_bf (decide_eq_false g) hz))
  | ifCond cd off =>
    obtain ⟨c1, c2⟩ := Bool.and_eq_true_iff.mp hck
    have e1 := lenq c1; subst e1
    match S, hz with
    | .int x :: rs, hz =>
      have hz : (bif am_cm cd x 0 then am_run n i (a1, L, rs, h) else am_run n i (pc0 + 3, L, rs, h)) = some (r, h') := hz
      cases cd with
      | eq => exact lv_if_eq hx hb hd (of_decide_eq_true c2) (fun g => go0 (S' := rs) (am_bt (decide_eq_true g) hz)) (fun g => go0 (S' := rs) (am_bf (decide_eq_false g) hz))
      | ne => exact lv_if_ne hx hb hd (of_decide_eq_true c2) (fun g => go0 (S' := rs) (am_bt (decide_eq_true g) hz)) (fun g => go0 (S' := rs) (am_bf (decide_eq_false (fun q => q g)) hz))
      | lt => exact lv_if_lt hx hb hd (of_decide_eq_true c2) (fun g => go0 (S' := rs) (am_bt (decide_eq_true g) hz)) (fun g => go0 (S' := rs) (am_bf (decide_eq_false g) hz))
      | ge => exact lv_if_ge hx hb hd (of_decide_eq_true c2) (fun g => go0 (S' := rs) (am_bt (decide_eq_true g) hz)) (fun g => go0 (S' := rs) (am_bf (decide_eq_false g) hz))
      | gt => exact lv_if_gt hx hb hd (of_decide_eq_true c2) (fun g => go0 (S' := rs) (am_bt (decide_eq_true g) hz)) (fun g => go0 (S' := rs) (am_bf (decide_eq_false g) hz))
      | le => exact lv_if_le hx hb hd (of_decide_eq_true c2) (fun g => go0 (S' := rs) (am_bt (decide_eq_true g) hz)) (fun g => go0 (S' := rs) (am_bf (decide_eq_false g) hz))
  | ifnull off =>
    obtain ⟨c1, c2⟩ := Bool.and_eq_true_iff.mp hck
    have e1 := lenq c1; subst e1
    match S, hz with
    | .ref x :: rs, hz => exact lv_ifnull hx hb hd (go0 (S' := rs) hz)
    | .null :: rs, hz => exact lv_ifnullN hx hb hd (of_decide_eq_true c2) (go0 (S' := rs) hz)
  | goto off =>
    obtain ⟨c1, c2⟩ := Bool.and_eq_true_iff.mp hck
    have e1 := lenq c1; subst e1
    exact lv_goto hx hb hd (of_decide_eq_true c2) (go0 (S' := S) hz)
  | tableswitch d lo hi offs =>
    obtain ⟨c1, c4⟩ := Bool.and_eq_true_iff.mp hck; obtain ⟨c1, c3⟩ := Bool.and_eq_true_iff.mp c1; obtain ⟨c1, c2⟩ := Bool.and_eq_true_iff.mp c1
    have hhi : hi + 1 = lo + sw.length := of_decide_eq_true c2
    have hsw : ∀ (k : Nat) q, sw[k]? = some q → q.1.toInt = lo + k ∧ ∃ o, offs[k]? = some o ∧ (pc0 : Int) + o = (q.2 : Int) := by
      intro k q hq
      have hk := List.all_eq_true.mp c4 k (List.mem_range.mpr (List.getElem?_eq_some_iff.mp hq).1)
      rw [hq] at hk
      split at hk
      · rename_i q1 o e1 e2
        cases e1
        simp only [Bool.and_eq_true, decide_eq_true_eq] at hk
        exact ⟨hk.1, o, e2, hk.2⟩
      · cases hk
    match S, hz with
    | .int x :: rs, hz =>
      have hz : am_sw x sw a1 (fun pc => am_run n i (pc, L, rs, h)) = some (r, h') := hz
      rcases am_sw_tab (x := x) (d := a1) (K := fun pc => am_run n i (pc, L, rs, h)) (fun k q hq => (hsw k q hq).1) with ⟨k, q, h1, h2, h3⟩ | ⟨h1, h2⟩
      · obtain ⟨-, o, ho, hpo⟩ := hsw k q h1
        have hkl := (List.getElem?_eq_some_iff.mp h1).1
        rw [h3] at hz
        exact lv_tableIn hx hb hd (by omega) (by omega) (by rw [show (x.toInt - lo).toNat = k by omega]; exact ho) hpo (go0 (S' := rs) hz)
      · rw [h2] at hz
        exact lv_tableOut hx hb hd (by omega) (of_decide_eq_true c1) (go0 (S' := rs) hz)
  | lookupswitch d ps =>
    obtain ⟨c1, c4⟩ := Bool.and_eq_true_iff.mp hck; obtain ⟨c1, c3⟩ := Bool.and_eq_true_iff.mp c1; obtain ⟨c1, c2⟩ := Bool.and_eq_true_iff.mp c1
    match S, hz with
    | .int x :: rs, hz =>
      have hz : am_sw x sw a1 (fun pc => am_run n i (pc, L, rs, h)) = some (r, h') := hz
      obtain ⟨t, h1, h2⟩ := am_sw_look (x := x) (d := a1) (K := fun pc => am_run n i (pc, L, rs, h)) (of_decide_eq_true c1) (Nat.eq_of_beq_eq_true c3) c4
      rw [h1] at hz
      exact lv_lookup hx hb hd c2 rfl h2 (go0 (S' := rs) hz)
  | getfield k =>
    obtain ⟨c1, c2⟩ := Bool.and_eq_true_iff.mp hck
    have e1 := lenq c1; subst e1
    have hlt : a1 < am_cls.length := Nat.le_of_ble_eq_true (Bool.and_eq_true_iff.mp (Bool.and_eq_true_iff.mp c2).1).1
    match S, hz with
    | .ref a :: rs, hz =>
      cases hty : am_ty a1 a2 with
      | object _ =>
        simp only [am_step, hty, am_do] at hz
        obtain ⟨x, hg, hz⟩ := Option.bind_eq_some_iff.mp hz
        obtain ⟨fs, g1, g2⟩ := am_gr_spec hg
        exact am_rt_get hx hb hown hok hh (htab.2.2.1 a1 hlt) c2 g1 g2 hd (go0 (S' := .ref x :: rs) hz)
      | array _ =>
        simp only [am_step, hty, am_do] at hz
        obtain ⟨x, hg, hz⟩ := Option.bind_eq_some_iff.mp hz
        obtain ⟨fs, g1, g2⟩ := am_gr_spec hg
        exact am_rt_get hx hb hown hok hh (htab.2.2.1 a1 hlt) c2 g1 g2 hd (go0 (S' := .ref x :: rs) hz)
      | _ =>
        simp only [am_step, hty, am_do] at hz
        obtain ⟨x, hg, hz⟩ := Option.bind_eq_some_iff.mp hz
        obtain ⟨fs, g1, g2⟩ := am_gi_spec hg
        exact am_rt_get hx hb hown hok hh (htab.2.2.1 a1 hlt) c2 g1 g2 hd (go0 (S' := .int x :: rs) hz)
  | putfield k =>
    obtain ⟨c1, c2⟩ := Bool.and_eq_true_iff.mp hck
    have e1 := lenq c1; subst e1
    have hlt : a1 < am_cls.length := Nat.le_of_ble_eq_true (Bool.and_eq_true_iff.mp (Bool.and_eq_true_iff.mp c2).1).1
    match S, hz with
    | .int x :: .ref a :: rs, hz =>
      cases hty : am_ty a1 a2 with
      | int =>
        simp only [am_step, hty, am_do] at hz
        obtain ⟨h1, hg, hz⟩ := Option.bind_eq_some_iff.mp hz
        obtain ⟨fs, g1, g2, rfl⟩ := am_pf_spec hg
        exact am_rt_put (v := .int x) hx hb hown hname hok hh hS (htab.2.2.1 a1 hlt) c2 g1 g2 (by rw [hty]; rfl) (by rw [hty]; rfl) hd (fun H1 locs1 q1 q2 => gow (S' := rs) hz q1 q2 (am_set_eq g1 (by simp [am_sz])))
      | boolean =>
        simp only [am_step, hty, am_do] at hz
        cases q : (decide (x = 0) || decide (x = 1)) <;> rw [q] at hz
        · simp at hz
        · have q : x = 0 ∨ x = 1 := by simpa using q
          dsimp only [cond] at hz
          obtain ⟨h1, hg, hz⟩ := Option.bind_eq_some_iff.mp hz
          obtain ⟨fs, g1, g2, rfl⟩ := am_pf_spec hg
          exact am_rt_put (v := .int x) hx hb hown hname hok hh hS (htab.2.2.1 a1 hlt) c2 g1 g2 (by rw [hty]; rcases q with q | q <;> subst q <;> rfl) (by rw [hty]; rcases q with q | q <;> subst q <;> rfl) hd (fun H1 locs1 q1 q2 => gow (S' := rs) hz q1 q2 (am_set_eq g1 (by simp [am_sz])))
      | _ => simp [am_step, hty, am_do] at hz
    | .ref x :: .ref a :: rs, hz =>
      cases hty : am_ty a1 a2 with
      | object _ =>
        simp only [am_step, hty, am_do] at hz
        obtain ⟨h1, hg, hz⟩ := Option.bind_eq_some_iff.mp hz
        obtain ⟨fs, g1, g2, rfl⟩ := am_pf_spec hg
        exact am_rt_put (v := .ref x) hx hb hown hname hok hh hS (htab.2.2.1 a1 hlt) c2 g1 g2 (by rw [hty]; rfl) (by rw [hty]; rfl) hd (fun H1 locs1 q1 q2 => gow (S' := rs) hz q1 q2 (am_set_eq g1 (by simp [am_sz])))
      | array _ =>
        simp only [am_step, hty, am_do] at hz
        obtain ⟨h1, hg, hz⟩ := Option.bind_eq_some_iff.mp hz
        obtain ⟨fs, g1, g2, rfl⟩ := am_pf_spec hg
        exact am_rt_put (v := .ref x) hx hb hown hname hok hh hS (htab.2.2.1 a1 hlt) c2 g1 g2 (by rw [hty]; rfl) (by rw [hty]; rfl) hd (fun H1 locs1 q1 q2 => gow (S' := rs) hz q1 q2 (am_set_eq g1 (by simp [am_sz])))
      | _ => simp [am_step, hty, am_do] at hz
  | arraylength =>
    have e1 := lenq hck; subst e1
    match S, hz with
    | .ref a :: rs, hz =>
      obtain ⟨x, hg, hz⟩ := Option.bind_eq_some_iff.mp hz
      exact am_rt_len hx hb hok hh hS hg hd (go0 (S' := .int x :: rs) hz)
  | iaload =>
    have e1 := lenq hck; subst e1
    match S, hz with
    | .int j :: .ref a :: rs, hz =>
      obtain ⟨x, hg, hz⟩ := Option.bind_eq_some_iff.mp hz
      exact am_rt_al hx hb hok hh hS hg hd (go0 (S' := .int x :: rs) hz)
  | caload =>
    have e1 := lenq hck; subst e1
    match S, hz with
    | .int j :: .ref a :: rs, hz =>
      obtain ⟨x, hg, hz⟩ := Option.bind_eq_some_iff.mp hz
      exact am_rt_cl hx hb hok hh hg hd (go0 (S' := .int x :: rs) hz)
  | aaload =>
    have e1 := lenq hck; subst e1
    match S, hz with
    | .int j :: .ref a :: rs, hz =>
      obtain ⟨x, hg, hz⟩ := Option.bind_eq_some_iff.mp hz
      exact am_rt_ql hx hb hok hh hg hd (go0 (S' := .ref x :: rs) hz)
  | iastore =>
    have e1 := lenq hck; subst e1
    match S, hz with
    | .int v :: .int j :: .ref a :: rs, hz =>
      obtain ⟨h1, hg, hz⟩ := Option.bind_eq_some_iff.mp hz
      have hq : h1.length = h.length ∧ am_sl h1 = am_sl h := by
        obtain ⟨q, g1, -, rfl⟩ := am_as_spec hg
        exact am_set_eq g1 (by simp [am_sz])
      exact am_rt_ias hx hb hok hh hS hg hd (fun H1 locs1 q1 q2 => gow (S' := rs) hz q1 q2 hq)
  | castore =>
    have e1 := lenq hck; subst e1
    match S, hz with
    | .int v :: .int j :: .ref a :: rs, hz =>
      obtain ⟨h1, hg, hz⟩ := Option.bind_eq_some_iff.mp hz
      have hq : h1.length = h.length ∧ am_sl h1 = am_sl h := by
        obtain ⟨q, g1, -, rfl⟩ := am_as_spec hg
        exact am_set_eq g1 (by simp [am_sz])
      exact am_rt_cas hx hb hok hh hS hg hd (fun H1 locs1 q1 q2 => gow (S' := rs) hz q1 q2 hq)
  | aastore =>
    have e1 := lenq hck; subst e1
    match S, hz with
    | .ref v :: .int j :: .ref a :: rs, hz =>
      obtain ⟨h1, hg, hz⟩ := Option.bind_eq_some_iff.mp hz
      have hq : h1.length = h.length ∧ am_sl h1 = am_sl h := by
        obtain ⟨q, fs, g1, -, -, rfl⟩ := am_qs_spec hg
        exact am_set_eq g1 (by simp [am_sz])
      exact am_rt_qs hx hb hok hh hS (Nat.le_of_ble_eq_true k14) hg hd (fun H1 locs1 q1 q2 => gow (S' := rs) hz q1 q2 hq)
  | new k =>
    obtain ⟨c1, c3⟩ := Bool.and_eq_true_iff.mp hck; obtain ⟨c1, c2⟩ := Bool.and_eq_true_iff.mp c1
    have e1 := lenq c1; subst e1
    have hz : am_run n i (pc0 + 3, L, .ref h.length :: S, h ++ [.inr (a1, am_new a1)]) = some (r, h') := hz
    have g := am_run_gr n _ _ _ hz
    have g1 : h.length + 1 ≤ h'.length := by have := g.1; simp only [List.length_append, List.length_singleton] at this; exact this
    have g2 : am_sl h + (am_new a1).length ≤ am_sl h' := by have := g.2; rw [am_sl_app] at this; exact this
    exact am_rt_new hx hb hown hok hh hS (htab.2.2.1 a1 (Nat.le_of_ble_eq_true c2)) (Nat.le_of_ble_eq_true c2) c3 (by omega) (by omega) hd (fun H1 q1 q2 => go (S' := .ref h.length :: S) hz q1 q2 hl hlg (by simp only [List.length_append, List.length_singleton]; omega) (by rw [am_sl_app]; simp only [am_sz]; omega))
  | newarray t =>
    obtain ⟨c1, c2⟩ := Bool.and_eq_true_iff.mp hck
    have e1 := lenq c1; subst e1
    match S, hz with
    | .int k :: rs, hz =>
      obtain ⟨h1, hg, hz9⟩ := Option.bind_eq_some_iff.mp hz
      have g := am_run_gr n _ _ _ hz9
      obtain ⟨-, -, q1⟩ := am_na_spec hg
      have g1 : h1.length = h.length + 1 := by rw [q1]; simp
      have g2 : am_sl h1 = am_sl h + k.toNatClampNeg := by rw [q1, am_sl_app]; simp [am_sz]
      have g3 : h1.length ≤ h'.length := g.1
      have g4 : am_sl h1 ≤ am_sl h' := g.2
      rcases Bool.or_eq_true_iff.mp c2 with c3 | c3
      · obtain ⟨c3, c4⟩ := Bool.and_eq_true_iff.mp c3
        have c3 := of_decide_eq_true c3
        have c4 := Nat.eq_of_beq_eq_true c4
        subst c3; subst c4
        exact am_rt_na hx hb hok hh (at_ := .int) hS k11 rfl rfl (by decide) rfl (fun _ z => z) hg (by omega) (by omega) hd (fun H1 q1 q2 => go (S' := .ref h.length :: rs) hz9 q1 q2 hl hlg (by omega) (by omega))
      · obtain ⟨c3, c4⟩ := Bool.and_eq_true_iff.mp c3
        have c3 := of_decide_eq_true c3
        have c4 := Nat.eq_of_beq_eq_true c4
        subst c3; subst c4
        exact am_rt_na hx hb hok hh (at_ := .char) hS k12 rfl rfl (by decide) rfl (fun _ z => z) hg (by omega) (by omega) hd (fun H1 q1 q2 => go (S' := .ref h.length :: rs) hz9 q1 q2 hl hlg (by omega) (by omega))
  | anewarray t =>
    obtain ⟨c1, c3⟩ := Bool.and_eq_true_iff.mp hck; obtain ⟨c1, c2⟩ := Bool.and_eq_true_iff.mp c1
    have e1 := lenq c1; subst e1
    match S, hz with
    | .int k :: rs, hz =>
      obtain ⟨h1, hg, hz9⟩ := Option.bind_eq_some_iff.mp hz
      have g := am_run_gr n _ _ _ hz9
      obtain ⟨-, -, q1⟩ := am_nq_spec hg
      have g1 : h1.length = h.length + 1 := by rw [q1]; simp
      have g2 : am_sl h1 = am_sl h + k.toNatClampNeg := by rw [q1, am_sl_app]; simp [am_sz]
      have g3 : h1.length ≤ h'.length := g.1
      have g4 : am_sl h1 ≤ am_sl h' := g.2
      have c4 := Nat.eq_of_beq_eq_true c2
      subst c4
      exact am_rt_nq hx hb hown hok hh hS c3 k13 hg (by omega) (by omega) hd (fun H1 q1 q2 => go (S' := .ref h.length :: rs) hz9 q1 q2 hl hlg (by omega) (by omega))
  | invokevirtual k =>
    obtain ⟨c1, c4⟩ := Bool.and_eq_true_iff.mp hck; obtain ⟨c1, c3⟩ := Bool.and_eq_true_iff.mp c1; obtain ⟨c1, c2⟩ := Bool.and_eq_true_iff.mp c1
    have e1 := lenq c1; subst e1
    exact sys hd c2 (Or.inl ⟨rfl, Nat.eq_of_beq_eq_true c3, c4⟩) hz
  | invokespecial k =>
    obtain ⟨c1, c2⟩ := Bool.and_eq_true_iff.mp hck
    have e1 := lenq c1; subst e1
    have hz : am_do (fun j As h => bif am_rc j As h then am_run n j (0, am_l0 j As, [], h) else none) (am_run n i) (am_inv a1 a2 (pc0 + 3) L S h) = some (r, h') := hz
    cases q : Nat.beq a1 1003 <;> rw [q] at c2
    · have c2 : (am_cj i a1 a2 && Nat.beq (am_kd a1) 2 && (am_has a3 (.methodLink (am_own i) k (am_nm a1)) || am_has a3 (.methodLinkNest (am_own i) k (am_nm a1) am_host))) = true := c2
      simp only [Bool.and_eq_true, Bool.or_eq_true, and_assoc] at c2
      exact sys hd c2.1 (Or.inr (Or.inl ⟨rfl, Nat.eq_of_beq_eq_true c2.2.1, c2.2.2⟩)) hz
    · have c2 : (Nat.beq a2 1 && Nat.blt 0 (am_rank i) && am_has a3 (.methodLink (am_own i) k objectInit)) = true := c2
      simp only [Bool.and_eq_true, and_assoc] at c2
      obtain ⟨d1, d2, d3⟩ := c2
      have q := Nat.eq_of_beq_eq_true q
      have q2 := Nat.eq_of_beq_eq_true d1
      have q3 : 0 < am_rank i := Nat.le_of_ble_eq_true d2
      subst q; subst q2
      obtain ⟨⟨g1, -, -⟩, -, g4⟩ := am_inv_spec hz
      have hz := g4 (by decide)
      match S, hz, g1 with
      | .ref x :: rs, hz, g1 =>
        have g1 : am_cat rs ≤ 8 := g1
        exact W.objInit hx hb hown (am_has_at d3 hok.1 args) (am_has_at k9 hok.1 args) (am_has_at k10 hok.1 args) rfl hsz.symm rfl hd (by omega) (by show 2 * 0 + _ + 12 ≤ _; rw [am_cat_map]; omega) (go0 (S' := rs) hz)
  | invokestatic k =>
    obtain ⟨c1, c2⟩ := Bool.and_eq_true_iff.mp hck
    have e1 := lenq c1; subst e1
    have hz : am_do (fun j As h => bif am_rc j As h then am_run n j (0, am_l0 j As, [], h) else none) (am_run n i) (am_inv a1 a2 (pc0 + 3) L S h) = some (r, h') := hz
    cases q : Nat.beq a1 1000 <;> rw [q] at c2
    · have c2 : (bif Nat.beq a1 1001 then Nat.beq a2 2 && Nat.blt 0 (am_rank i) && am_has a3 (.methodLink (am_own i) k Lib.Math.min.name) else bif Nat.beq a1 1002 then Nat.beq a2 5 && Nat.blt 0 (am_rank i) && am_has a3 (.methodLink (am_own i) k arraycopyName) else am_cj i a1 a2 && Nat.beq (am_kd a1) 1 && am_has a3 (.methodLink (am_own i) k (am_nm a1))) = true := c2
      cases q : Nat.beq a1 1001 <;> rw [q] at c2
      · have c2 : (bif Nat.beq a1 1002 then Nat.beq a2 5 && Nat.blt 0 (am_rank i) && am_has a3 (.methodLink (am_own i) k arraycopyName) else am_cj i a1 a2 && Nat.beq (am_kd a1) 1 && am_has a3 (.methodLink (am_own i) k (am_nm a1))) = true := c2
        cases q : Nat.beq a1 1002 <;> rw [q] at c2
        · have c2 : (am_cj i a1 a2 && Nat.beq (am_kd a1) 1 && am_has a3 (.methodLink (am_own i) k (am_nm a1))) = true := c2
          simp only [Bool.and_eq_true, and_assoc] at c2
          exact sys hd c2.1 (Or.inr (Or.inr ⟨rfl, Nat.eq_of_beq_eq_true c2.2.1, c2.2.2⟩)) hz
        · have c2 : (Nat.beq a2 5 && Nat.blt 0 (am_rank i) && am_has a3 (.methodLink (am_own i) k arraycopyName)) = true := c2
          simp only [Bool.and_eq_true, and_assoc] at c2
          obtain ⟨d1, d2, d3⟩ := c2
          have q := Nat.eq_of_beq_eq_true q
          have q2 := Nat.eq_of_beq_eq_true d1
          have q3 : 0 < am_rank i := Nat.le_of_ble_eq_true d2
          subst q; subst q2
          obtain ⟨⟨g1, -, -⟩, -, g4⟩ := am_inv_spec hz
          have hz := g4 (by decide)
          match S, hz, g1 with
          | .int nn :: .int dp :: .ref x2 :: .int sp :: .ref x1 :: rs, hz, g1 =>
            have g1 : am_cat rs ≤ 8 := g1
            obtain ⟨h1, hg, hz⟩ := Option.bind_eq_some_iff.mp hz
            have hq : h1.length = h.length ∧ am_sl h1 = am_sl h := by
              obtain ⟨f, g, -, g2, -, -, -, -, -, rfl⟩ := am_cp_spec hg
              exact am_set_eq g2 (by simp [am_sz, am_cpl])
            exact am_rt_cp hx hb hsz hown hok hh hS d3 k6 k7 k8 hg (by omega) (by omega) (by rw [am_cat_map]; exact g1) hd (fun H1 locs1 q1 q2 => gow (S' := rs) hz q1 q2 hq)
      · skip
        have c2 : (Nat.beq a2 2 && Nat.blt 0 (am_rank i) && am_has a3 (.methodLink (am_own i) k Lib.Math.min.name)) = true := c2
        simp only [Bool.and_eq_true, and_assoc] at c2
        obtain ⟨d1, d2, d3⟩ := c2
        have q := Nat.eq_of_beq_eq_true q
        have q2 := Nat.eq_of_beq_eq_true d1
        have q3 : 0 < am_rank i := Nat.le_of_ble_eq_true d2
        subst q; subst q2
        obtain ⟨⟨g1, -, -⟩, -, g4⟩ := am_inv_spec hz
        have hz := g4 (by decide)
        match S, hz, g1 with
        | .int y :: .int x :: rs, hz, g1 =>
          have g1 : am_cat rs ≤ 8 := g1
          exact va_mmin hx hb hsz hown (am_has_at d3 hok.1 args) (am_has_at k4 hok.1 args) (am_has_at k2 hok.1 args) (am_has_at k5 hok.1 args) (by omega) (by rw [am_cat_map]; omega) hcl hsl hd (go0 (S' := .int (am_min x y) :: rs) hz)
    · skip
      have c2 : (Nat.beq a2 2 && Nat.blt 0 (am_rank i) && am_has a3 (.methodLink (am_own i) k Lib.Math.max.name)) = true := c2
      simp only [Bool.and_eq_true, and_assoc] at c2
      obtain ⟨d1, d2, d3⟩ := c2
      have q := Nat.eq_of_beq_eq_true q
      have q2 := Nat.eq_of_beq_eq_true d1
      have q3 : 0 < am_rank i := Nat.le_of_ble_eq_true d2
      subst q; subst q2
      obtain ⟨⟨g1, -, -⟩, -, g4⟩ := am_inv_spec hz
      have hz := g4 (by decide)
      match S, hz, g1 with
      | .int y :: .int x :: rs, hz, g1 =>
        have g1 : am_cat rs ≤ 8 := g1
        exact va_mmax hx hb hsz hown (am_has_at d3 hok.1 args) (am_has_at k1 hok.1 args) (am_has_at k2 hok.1 args) (am_has_at k3 hok.1 args) (by omega) (by rw [am_cat_map]; omega) hcl hsl hd (go0 (S' := .int (am_max x y) :: rs) hz)
  | ireturn =>
    have e1 := lenq hck; subst e1
    match S, hz with
    | [.int x], hz =>
      cases hty : am_ret i with
      | none => simp [am_step, hty, am_do] at hz
      | some ty => cases ty with
        | boolean =>
          simp only [am_step, hty, am_do] at hz
          obtain ⟨y, hg, hz9⟩ := Option.bind_eq_some_iff.mp hz
          obtain ⟨q1, hy⟩ := am_bz_spec hg
          rw [q1] at hz9
          clear hz
          cases hz9
          have e2 : C = cells := by omega
          have e3 : Sl = slots := by omega
          subst e2; subst e3
          exact kr pc0 ls H locs hh hS ⟨hd, Or.inr ⟨by rw [← hret, hty], hy⟩⟩
        | int =>
          simp only [am_step, hty, am_do] at hz
          cases hz
          have e2 : C = cells := by omega
          have e3 : Sl = slots := by omega
          subst e2; subst e3
          exact kr pc0 ls H locs hh hS ⟨hd, Or.inl (by rw [← hret, hty])⟩
        | _ => simp [am_step, hty, am_do] at hz
  | lreturn =>
    have e1 := lenq hck; subst e1
    match S, hz with
    | [.long x], hz =>
      cases hty : am_ret i with
      | none => simp [am_step, hty, am_do] at hz
      | some ty => cases ty with
        | long =>
          simp only [am_step, hty, am_do] at hz
          cases hz
          have e2 : C = cells := by omega
          have e3 : Sl = slots := by omega
          subst e2; subst e3
          exact kr pc0 ls H locs hh hS ⟨hd, by rw [← hret, hty]⟩
        | _ => simp [am_step, hty, am_do] at hz
  | return_ =>
    have e1 := lenq hck; subst e1
    match S, hz with
    | [], hz =>
      cases hty : am_ret i with
      | none =>
        simp only [am_step, hty, am_do] at hz
        cases hz
        have e2 : C = cells := by omega
        have e3 : Sl = slots := by omega
        subst e2; subst e3
        exact kr pc0 ls H locs hh hS ⟨hd, by rw [← hret, hty]⟩
      | some ty => simp [am_step, hty, am_do] at hz
  | _ => exact absurd (show (none : Option am_R) = some _ from hz) (by simp)
theorem am_snd_all (htab : am_tab) {l : Launch} {D : va_G} {ky : Nat → ClassId} {b base : Nat} {xs : List Int32} (n : Nat) : am_snd l D ky b base xs n := by
  induction n with
  | zero => intro i pc L S h r h' hi hrun; cases hrun
  | succ n ih => exact am_snd_succ htab ih
end
section
/-! THE CLAIM OUT OF ONE WALK OF THE LAW'S BODY. Your part is whole_start (and what it stands on); all else here is the same for every law, but numbers. -/
def R_law : String := "PostalAuctionLaw"
def lw_P (b : Addr) (xs : List Int32) (args : Array Value) (s : State) : Prop := args = #[.ref b] ∧ s.IntsAt b xs ∧ xs.length ≤ 3072 ∧ (Jvm.Cond.and given_1 narrow_1).before args s = true
def lw_Q (_ : Array Value) (s : State) (o : Outcome) (t : State) : Prop := o = .returned (some (.int 1)) ∧ Framed s o t [] 600000 7302250
def lw_Z (below : List Frame) (a : Array Value) (s : State) : State → Prop := fun t => ∃ o, t.status = .running ∧ Ended t below o ∧ lw_Q a s o t
/-- the law's own end, with 1 on the stack, nothing written that was there before, its room as the claim has it -/
theorem lw_ret {p : Program} {l : Launch} {e : Env} {s : State} {m : MethodId} {below : List Frame} {meth : Method} {c : Code} {b : Nat} (hx : p.tables.exec = Jvm.exec) (hb : c.code = code) (hr : meth.sig.returnType = ret) (hlocks : meth.locks = false) {pc : Nat} {H : Heap} {ls : Array Slot} (hdg : decode code pc = .ok (.ireturn, 1)) : W p l e room_1 s m #[Value.ref b] below meth c H [] 600000 7302250 (lw_Z below #[Value.ref b] s) (F0 m pc ls [.int 1]) := by
  intro T hT X
  obtain ⟨fs, hret, hrun, hended, hW, hframe⟩ := X.leave (v := some (.int 1)) (hlocks := hlocks) (fun h => by rw [hr] at h; cases h)
  have hmeth' : T.vm.method? m = some meth := X.method'
  refine ⟨T.setFrames fs, ?_, .returned (some (.int 1)), hrun, hended, rfl, ⟨_, rfl⟩, hW, hframe⟩
  jvm_step X.here [X.here.top, hx, hb, hdg, hmeth', hr, ret, narrow_b1]
  (try refine ⟨rfl, ?_⟩); (try refine ⟨rfl, ?_⟩)
  first | (intro acts; rw [hret _ acts rfl rfl rfl]) | rw [hret _ _ rfl rfl rfl]
  exact Steps.refl _
/-- what holds at the law's entry: the machine, the code, the tables' words (any of lw_tbl by 'hts w (by decide +kernel)'), the script of L ints xs at the cell b, what the Statement gives of the start (any of its parts by flat_of_before) -/
def lw_At (p : Program) (s : State) (m : MethodId) (meth : Method) (c : Code) (b L : Nat) (xs : Nat → Int32) : Prop :=
  p.tables.exec = Jvm.exec ∧ c.code = code ∧ meth.sig.returnType = ret ∧ c.maxLocals = 4 ∧ s.vm.findClass R_law = some m.cls ∧ (∀ w ∈ lw_tbl, w.before #[Value.ref b] s = true) ∧ va_X b L xs s s.heap ∧ b < s.heap.size ∧ meth.locks = false ∧ (Jvm.Cond.and given_1 narrow_1).before #[Value.ref b] s = true
end
section
/-! THE LAW'S ENTRY, out of a run of the abstract machine -/
theorem am_arr_of {s : State} {ty : FieldType} (h : (Cond.arrayClass ty).before #[] s = true) (hra : ∀ cA, s.vm.findClass ("[" ++ ty.toString) = some cA → va_RA s cA ty) : ∃ cA, ArrOfT s cA ty ∧ va_RA s cA ty := by
  obtain ⟨cB, kB, comp, hcB, hkB, hkind⟩ := Cond.arrayClass_spec h
  exact ⟨cB, fun n z => ⟨fun k h => (by cases h), kB, hkB, comp, hkind⟩, hra cB hcB⟩
theorem am_world (htab : am_tab) {s : State} (hT : am_T s) : ∃ (D : va_G) (ky : Nat → ClassId), va_K D am_cls (am_tys ky) s := by
  have hnck := htab.2.2.2.1
  unfold am_nck at hnck
  simp only [Bool.and_eq_true, and_assoc] at hnck
  obtain ⟨-, -, -, -, -, -, -, -, -, -, k11, k12, k13, -⟩ := hnck
  obtain ⟨c0, a0, r0⟩ := am_arr_of (ty := .int) (am_has_at k11 hT #[]) (fun _ h => h)
  obtain ⟨c1, a1, r1⟩ := am_arr_of (ty := .char) (am_has_at k12 hT #[]) (fun _ h => h)
  obtain ⟨comp, c2, k, h1, h2, h3, h4, h5⟩ := Cond.arrayOver_spec (am_has_at k13 hT #[])
  have hK : ∀ j : Nat, ∃ (cC : ClassId) (iS : Nat → Nat), ∀ q : vw_C, am_cls[j]? = some q → u_Kn s q.1 q.2.1 q.2.2 cC iS := by
    intro j
    by_cases hj : j < am_cls.length
    · have hck := htab.2.2.1 j hj
      obtain ⟨g1, g2⟩ := Bool.and_eq_true_iff.mp hck
      obtain ⟨g1, g3⟩ := Bool.and_eq_true_iff.mp g1
      obtain ⟨g1, g4⟩ := Bool.and_eq_true_iff.mp g1
      obtain ⟨cC, iS, hk⟩ := u_known (C := (am_cl1 j).1) (T := (am_cl1 j).2.1) (N := (am_cl1 j).2.2) (n := (am_cl1 j).2.2) (am_cck_ws hck hT #[]) (fun w h => h) (am_has_at g1 hT #[])
      refine ⟨cC, iS, fun q hq => ?_⟩
      rw [am_cls_at hj] at hq
      cases hq
      exact hk
    · exact ⟨0, fun _ => 0, fun q hq => by rw [List.getElem?_eq_none (Nat.le_of_not_lt hj)] at hq; cases hq⟩
  refine ⟨(fun j => (hK j).choose, fun j => (hK j).choose_spec.choose), fun t => if t = 0 then c0 else if t = 1 then c1 else c2, fun j q hq => (hK j).choose_spec.choose_spec q hq, fun j q hq => ?_⟩
  match j, hq with
  | 0, hq => cases hq; exact ⟨a0, r0⟩
  | 1, hq => cases hq; exact ⟨a1, r1⟩
  | 2, hq => cases hq; exact ⟨fun N z => ⟨(fun k h => by cases h), k, h3, comp, h4⟩, k, comp, h3, h4, h1, h5⟩
theorem am_start (htab : am_tab) {p : Program} {e : Env} {s : State} {m : MethodId} {below : List Frame} {meth : Method} {c : Code} (l : Launch) {b L : Nat} {xs : Nat → Int32} (C0 : lw_At p s m meth c b L xs)
    (hrun : ∀ xl : List Int32, xl.length = L → ∃ n h', am_run n m_law (0, am_l0 m_law [.ref 0], [], [.inl (7, xl)]) = some (some (.int 1), h') ∧ h'.length ≤ 600000 ∧ am_sl h' ≤ 7302250) : W p l e room_1 s m #[Value.ref b] below meth c s.heap [] 0 0 (lw_Z below #[Value.ref b] s) (entryFrame m ([Value.ref b] : List Value).toArray 4) := by
  obtain ⟨hx, hb, hr, hml, hown, hts, hX, hbl, hlocks, hgv⟩ := id C0
  have hT : am_T s := fun w hw ho => am_okw_at ho rfl (hts w hw)
  obtain ⟨D, ky, hK⟩ := am_world htab hT
  obtain ⟨xl, hxl, hxe⟩ : ∃ xl : List Int32, xl.length = L ∧ ∀ j, j < L → xl.getD j 0 = xs j := ⟨(List.range L).map xs, by simp, fun j hj => by rw [List.getD_eq_getElem?_getD, List.getElem?_map, List.getElem?_range hj]; rfl⟩
  obtain ⟨n, h', hrn, hh1, hh2⟩ := hrun xl hxl
  have hX2 : va_X b xl.length (fun j => xl.getD j 0) s s.heap := by
    obtain ⟨scr, h1, h2, h3, h4, h5⟩ := hX
    exact ⟨scr, h1, h2, h3, by rw [h4, hxl], fun j hj => by rw [h5 j (by omega)]; congr 2; exact (hxe j (by omega)).symm⟩
  have hok : am_ok D ky b s.heap.size xl s := ⟨hT, hK, hX2, hbl, Nat.le_refl _⟩
  have hhp : am_hp D ky b s.heap.size xl [.inl (7, xl)] s.heap := ⟨fun k q hq => by rw [am_ws_get] at hq; simp at hq, rfl, rfl⟩
  have hgr := am_run_gr n _ _ _ hrn
  have g1 : 1 ≤ h'.length := hgr.1
  have g2 : am_sl [.inl (7, xl)] ≤ am_sl h' := hgr.2
  have hl := lv_entry ([.ref b]) (n := 4) (Nat.le_of_ble_eq_true rfl)
  rw [lg_entry_eq]
  have hl2 := am_ls_sub (ρ := am_ad b s.heap.size) (L := am_l0 m_law [.ref 0]) hl (fun i v hi hv => by
    match i, hi with
    | 0, hi => cases hi; exact List.mem_cons_self
    | 1, hi => cases hi; cases hv
    | 2, hi => cases hi; cases hv
    | 3, hi => cases hi; cases hv)
  refine am_snd_all htab n m_law 0 (am_l0 m_law [.ref 0]) [] [.inl (7, xl)] (some (.int 1)) h' (by decide) hrn (h'.length - 1) (am_sl h' - am_sl [.inl (7, xl)]) ⟨hx, hb, hml, hr, hown, fun z => absurd z (by decide)⟩ hok (by decide) (by decide) hhp va_S.rf hl2 (fun i x hi => by
    match i, hi with
    | 0, hi => cases hi
    | 1, hi => cases hi
    | 2, hi => cases hi
    | 3, hi => cases hi) (by show 0 + h'.length = h'.length - 1 + 1; omega) (by omega) ?_ ?_ ?_
  · show h'.length - 1 ≤ 600000
    omega
  · show am_sl h' - am_sl [.inl (7, xl)] ≤ 7302250
    omega
  · intro pc' ls' H' locs' hh' hS' hend
    refine va_forget hS'.2.2 ?_
    refine W.widen (k := 600000) (n := 7302250) (by omega) (by omega) ?_
    exact lw_ret hx hb hr hlocks hend.1
end
section
set_option maxRecDepth 100000 in
theorem ck_0 : (am_code 0).all (am_ck 0) = true := by decide +kernel
theorem mk_0 : am_mck 0 = true := by decide +kernel
set_option maxRecDepth 100000 in
theorem ck_1 : (am_code 1).all (am_ck 1) = true := by decide +kernel
theorem mk_1 : am_mck 1 = true := by decide +kernel
set_option maxRecDepth 100000 in
theorem ck_2 : (am_code 2).all (am_ck 2) = true := by decide +kernel
theorem mk_2 : am_mck 2 = true := by decide +kernel
set_option maxRecDepth 100000 in
theorem ck_3 : (am_code 3).all (am_ck 3) = true := by decide +kernel
theorem mk_3 : am_mck 3 = true := by decide +kernel
set_option maxRecDepth 100000 in
theorem ck_4 : (am_code 4).all (am_ck 4) = true := by decide +kernel
theorem mk_4 : am_mck 4 = true := by decide +kernel
set_option maxRecDepth 100000 in
theorem ck_5 : (am_code 5).all (am_ck 5) = true := by decide +kernel
theorem mk_5 : am_mck 5 = true := by decide +kernel
set_option maxRecDepth 100000 in
theorem ck_6 : (am_code 6).all (am_ck 6) = true := by decide +kernel
theorem mk_6 : am_mck 6 = true := by decide +kernel
set_option maxRecDepth 100000 in
theorem ck_7 : (am_code 7).all (am_ck 7) = true := by decide +kernel
theorem mk_7 : am_mck 7 = true := by decide +kernel
set_option maxRecDepth 100000 in
theorem ck_8 : (am_code 8).all (am_ck 8) = true := by decide +kernel
theorem mk_8 : am_mck 8 = true := by decide +kernel
set_option maxRecDepth 100000 in
theorem ck_9 : (am_code 9).all (am_ck 9) = true := by decide +kernel
theorem mk_9 : am_mck 9 = true := by decide +kernel
set_option maxRecDepth 100000 in
theorem ck_10 : (am_code 10).all (am_ck 10) = true := by decide +kernel
theorem mk_10 : am_mck 10 = true := by decide +kernel
set_option maxRecDepth 100000 in
theorem ck_11 : (am_code 11).all (am_ck 11) = true := by decide +kernel
theorem mk_11 : am_mck 11 = true := by decide +kernel
set_option maxRecDepth 100000 in
theorem ck_12 : (am_code 12).all (am_ck 12) = true := by decide +kernel
theorem mk_12 : am_mck 12 = true := by decide +kernel
set_option maxRecDepth 100000 in
theorem ck_13 : (am_code 13).all (am_ck 13) = true := by decide +kernel
theorem mk_13 : am_mck 13 = true := by decide +kernel
set_option maxRecDepth 100000 in
theorem ck_14 : (am_code 14).all (am_ck 14) = true := by decide +kernel
theorem mk_14 : am_mck 14 = true := by decide +kernel
set_option maxRecDepth 100000 in
theorem ck_15 : (am_code 15).all (am_ck 15) = true := by decide +kernel
theorem mk_15 : am_mck 15 = true := by decide +kernel
set_option maxRecDepth 100000 in
theorem ck_16 : (am_code 16).all (am_ck 16) = true := by decide +kernel
theorem mk_16 : am_mck 16 = true := by decide +kernel
set_option maxRecDepth 100000 in
theorem ck_17 : (am_code 17).all (am_ck 17) = true := by decide +kernel
theorem mk_17 : am_mck 17 = true := by decide +kernel
set_option maxRecDepth 100000 in
theorem ck_18 : (am_code 18).all (am_ck 18) = true := by decide +kernel
theorem mk_18 : am_mck 18 = true := by decide +kernel
set_option maxRecDepth 100000 in
theorem ck_19 : (am_code 19).all (am_ck 19) = true := by decide +kernel
theorem mk_19 : am_mck 19 = true := by decide +kernel
set_option maxRecDepth 100000 in
theorem ck_20 : (am_code 20).all (am_ck 20) = true := by decide +kernel
theorem mk_20 : am_mck 20 = true := by decide +kernel
set_option maxRecDepth 100000 in
theorem ck_21 : (am_code 21).all (am_ck 21) = true := by decide +kernel
theorem mk_21 : am_mck 21 = true := by decide +kernel
set_option maxRecDepth 100000 in
theorem ck_22 : (am_code 22).all (am_ck 22) = true := by decide +kernel
theorem mk_22 : am_mck 22 = true := by decide +kernel
set_option maxRecDepth 100000 in
theorem ck_23 : (am_code 23).all (am_ck 23) = true := by decide +kernel
theorem mk_23 : am_mck 23 = true := by decide +kernel
set_option maxRecDepth 100000 in
theorem ck_24 : (am_code 24).all (am_ck 24) = true := by decide +kernel
theorem mk_24 : am_mck 24 = true := by decide +kernel
set_option maxRecDepth 100000 in
theorem ck_25 : (am_code 25).all (am_ck 25) = true := by decide +kernel
theorem mk_25 : am_mck 25 = true := by decide +kernel
set_option maxRecDepth 100000 in
theorem ck_26 : (am_code 26).all (am_ck 26) = true := by decide +kernel
theorem mk_26 : am_mck 26 = true := by decide +kernel
set_option maxRecDepth 100000 in
theorem ck_27 : (am_code 27).all (am_ck 27) = true := by decide +kernel
theorem mk_27 : am_mck 27 = true := by decide +kernel
set_option maxRecDepth 100000 in
theorem ck_28 : (am_code 28).all (am_ck 28) = true := by decide +kernel
theorem mk_28 : am_mck 28 = true := by decide +kernel
set_option maxRecDepth 100000 in
theorem ck_29 : (am_code 29).all (am_ck 29) = true := by decide +kernel
theorem mk_29 : am_mck 29 = true := by decide +kernel
end
section
set_option maxRecDepth 100000 in
theorem ck_30 : (am_code 30).all (am_ck 30) = true := by decide +kernel
theorem mk_30 : am_mck 30 = true := by decide +kernel
set_option maxRecDepth 100000 in
theorem ck_31 : (am_code 31).all (am_ck 31) = true := by decide +kernel
theorem mk_31 : am_mck 31 = true := by decide +kernel
set_option maxRecDepth 100000 in
theorem ck_32 : (am_code 32).all (am_ck 32) = true := by decide +kernel
theorem mk_32 : am_mck 32 = true := by decide +kernel
set_option maxRecDepth 100000 in
theorem ck_33 : (am_code 33).all (am_ck 33) = true := by decide +kernel
theorem mk_33 : am_mck 33 = true := by decide +kernel
set_option maxRecDepth 100000 in
theorem ck_34 : (am_code 34).all (am_ck 34) = true := by decide +kernel
theorem mk_34 : am_mck 34 = true := by decide +kernel
set_option maxRecDepth 100000 in
theorem ck_35 : (am_code 35).all (am_ck 35) = true := by decide +kernel
theorem mk_35 : am_mck 35 = true := by decide +kernel
set_option maxRecDepth 100000 in
theorem ck_36 : (am_code 36).all (am_ck 36) = true := by decide +kernel
theorem mk_36 : am_mck 36 = true := by decide +kernel
set_option maxRecDepth 100000 in
theorem ck_37 : (am_code 37).all (am_ck 37) = true := by decide +kernel
theorem mk_37 : am_mck 37 = true := by decide +kernel
set_option maxRecDepth 100000 in
theorem ck_38 : (am_code 38).all (am_ck 38) = true := by decide +kernel
theorem mk_38 : am_mck 38 = true := by decide +kernel
set_option maxRecDepth 100000 in
theorem ck_39 : (am_code 39).all (am_ck 39) = true := by decide +kernel
theorem mk_39 : am_mck 39 = true := by decide +kernel
set_option maxRecDepth 100000 in
theorem ck_40 : (am_code 40).all (am_ck 40) = true := by decide +kernel
theorem mk_40 : am_mck 40 = true := by decide +kernel
set_option maxRecDepth 100000 in
theorem ck_41 : (am_code 41).all (am_ck 41) = true := by decide +kernel
theorem mk_41 : am_mck 41 = true := by decide +kernel
set_option maxRecDepth 100000 in
theorem ck_42 : (am_code 42).all (am_ck 42) = true := by decide +kernel
theorem mk_42 : am_mck 42 = true := by decide +kernel
set_option maxRecDepth 100000 in
theorem ck_43 : (am_code 43).all (am_ck 43) = true := by decide +kernel
theorem mk_43 : am_mck 43 = true := by decide +kernel
set_option maxRecDepth 100000 in
theorem ck_44 : (am_code 44).all (am_ck 44) = true := by decide +kernel
theorem mk_44 : am_mck 44 = true := by decide +kernel
set_option maxRecDepth 100000 in
theorem ck_45 : (am_code 45).all (am_ck 45) = true := by decide +kernel
theorem mk_45 : am_mck 45 = true := by decide +kernel
set_option maxRecDepth 100000 in
theorem ck_46 : (am_code 46).all (am_ck 46) = true := by decide +kernel
theorem mk_46 : am_mck 46 = true := by decide +kernel
set_option maxRecDepth 100000 in
theorem ck_47 : (am_code 47).all (am_ck 47) = true := by decide +kernel
theorem mk_47 : am_mck 47 = true := by decide +kernel
set_option maxRecDepth 100000 in
theorem ck_48 : (am_code 48).all (am_ck 48) = true := by decide +kernel
theorem mk_48 : am_mck 48 = true := by decide +kernel
set_option maxRecDepth 100000 in
theorem ck_49 : (am_code 49).all (am_ck 49) = true := by decide +kernel
theorem mk_49 : am_mck 49 = true := by decide +kernel
end
section
set_option maxRecDepth 100000 in
theorem ck_50 : (am_code 50).all (am_ck 50) = true := by decide +kernel
theorem mk_50 : am_mck 50 = true := by decide +kernel
set_option maxRecDepth 100000 in
theorem ck_51 : (am_code 51).all (am_ck 51) = true := by decide +kernel
theorem mk_51 : am_mck 51 = true := by decide +kernel
set_option maxRecDepth 100000 in
theorem ck_52 : (am_code 52).all (am_ck 52) = true := by decide +kernel
theorem mk_52 : am_mck 52 = true := by decide +kernel
set_option maxRecDepth 100000 in
theorem ck_53 : (am_code 53).all (am_ck 53) = true := by decide +kernel
theorem mk_53 : am_mck 53 = true := by decide +kernel
set_option maxRecDepth 100000 in
theorem ck_54 : (am_code 54).all (am_ck 54) = true := by decide +kernel
theorem mk_54 : am_mck 54 = true := by decide +kernel
set_option maxRecDepth 100000 in
theorem ck_55 : (am_code 55).all (am_ck 55) = true := by decide +kernel
theorem mk_55 : am_mck 55 = true := by decide +kernel
set_option maxRecDepth 100000 in
theorem ck_56 : (am_code 56).all (am_ck 56) = true := by decide +kernel
theorem mk_56 : am_mck 56 = true := by decide +kernel
set_option maxRecDepth 100000 in
theorem ck_57 : (am_code 57).all (am_ck 57) = true := by decide +kernel
theorem mk_57 : am_mck 57 = true := by decide +kernel
set_option maxRecDepth 100000 in
theorem ck_58 : (am_code 58).all (am_ck 58) = true := by decide +kernel
theorem mk_58 : am_mck 58 = true := by decide +kernel
set_option maxRecDepth 100000 in
theorem ck_59 : (am_code 59).all (am_ck 59) = true := by decide +kernel
theorem mk_59 : am_mck 59 = true := by decide +kernel
set_option maxRecDepth 100000 in
theorem ck_60 : (am_code 60).all (am_ck 60) = true := by decide +kernel
theorem mk_60 : am_mck 60 = true := by decide +kernel
set_option maxRecDepth 100000 in
theorem ck_61 : (am_code 61).all (am_ck 61) = true := by decide +kernel
theorem mk_61 : am_mck 61 = true := by decide +kernel
set_option maxRecDepth 100000 in
theorem ck_62 : (am_code 62).all (am_ck 62) = true := by decide +kernel
theorem mk_62 : am_mck 62 = true := by decide +kernel
set_option maxRecDepth 100000 in
theorem ck_63 : (am_code 63).all (am_ck 63) = true := by decide +kernel
theorem mk_63 : am_mck 63 = true := by decide +kernel
end
section
set_option maxRecDepth 100000 in
theorem ck_64 : (am_code 64).all (am_ck 64) = true := by decide +kernel
theorem mk_64 : am_mck 64 = true := by decide +kernel
set_option maxRecDepth 100000 in
theorem ck_65 : (am_code 65).all (am_ck 65) = true := by decide +kernel
theorem mk_65 : am_mck 65 = true := by decide +kernel
set_option maxRecDepth 100000 in
theorem ck_66 : (am_code 66).all (am_ck 66) = true := by decide +kernel
theorem mk_66 : am_mck 66 = true := by decide +kernel
set_option maxRecDepth 100000 in
theorem ck_67 : (am_code 67).all (am_ck 67) = true := by decide +kernel
theorem mk_67 : am_mck 67 = true := by decide +kernel
set_option maxRecDepth 100000 in
theorem ck_68 : (am_code 68).all (am_ck 68) = true := by decide +kernel
theorem mk_68 : am_mck 68 = true := by decide +kernel
set_option maxRecDepth 100000 in
theorem ck_69 : (am_code 69).all (am_ck 69) = true := by decide +kernel
theorem mk_69 : am_mck 69 = true := by decide +kernel
set_option maxRecDepth 100000 in
theorem ck_70 : (am_code 70).all (am_ck 70) = true := by decide +kernel
theorem mk_70 : am_mck 70 = true := by decide +kernel
set_option maxRecDepth 100000 in
theorem ck_71 : (am_code 71).all (am_ck 71) = true := by decide +kernel
theorem mk_71 : am_mck 71 = true := by decide +kernel
set_option maxRecDepth 100000 in
theorem ck_72 : (am_code 72).all (am_ck 72) = true := by decide +kernel
theorem mk_72 : am_mck 72 = true := by decide +kernel
set_option maxRecDepth 100000 in
theorem ck_73 : (am_code 73).all (am_ck 73) = true := by decide +kernel
theorem mk_73 : am_mck 73 = true := by decide +kernel
set_option maxRecDepth 100000 in
theorem ck_74 : (am_code 74).all (am_ck 74) = true := by decide +kernel
theorem mk_74 : am_mck 74 = true := by decide +kernel
set_option maxRecDepth 100000 in
theorem ck_75 : (am_code 75).all (am_ck 75) = true := by decide +kernel
theorem mk_75 : am_mck 75 = true := by decide +kernel
set_option maxRecDepth 100000 in
theorem ck_76 : (am_code 76).all (am_ck 76) = true := by decide +kernel
theorem mk_76 : am_mck 76 = true := by decide +kernel
set_option maxRecDepth 100000 in
theorem ck_77 : (am_code 77).all (am_ck 77) = true := by decide +kernel
theorem mk_77 : am_mck 77 = true := by decide +kernel
set_option maxRecDepth 100000 in
theorem ck_78 : (am_code 78).all (am_ck 78) = true := by decide +kernel
theorem mk_78 : am_mck 78 = true := by decide +kernel
set_option maxRecDepth 100000 in
theorem ck_79 : (am_code 79).all (am_ck 79) = true := by decide +kernel
theorem mk_79 : am_mck 79 = true := by decide +kernel
set_option maxRecDepth 100000 in
theorem ck_80 : (am_code 80).all (am_ck 80) = true := by decide +kernel
theorem mk_80 : am_mck 80 = true := by decide +kernel
set_option maxRecDepth 100000 in
theorem ck_81 : (am_code 81).all (am_ck 81) = true := by decide +kernel
theorem mk_81 : am_mck 81 = true := by decide +kernel
set_option maxRecDepth 100000 in
theorem ck_82 : (am_code 82).all (am_ck 82) = true := by decide +kernel
theorem mk_82 : am_mck 82 = true := by decide +kernel
set_option maxRecDepth 100000 in
theorem ck_83 : (am_code 83).all (am_ck 83) = true := by decide +kernel
theorem mk_83 : am_mck 83 = true := by decide +kernel
set_option maxRecDepth 100000 in
theorem ck_84 : (am_code 84).all (am_ck 84) = true := by decide +kernel
theorem mk_84 : am_mck 84 = true := by decide +kernel
set_option maxRecDepth 100000 in
theorem ck_85 : (am_code 85).all (am_ck 85) = true := by decide +kernel
theorem mk_85 : am_mck 85 = true := by decide +kernel
set_option maxRecDepth 100000 in
theorem ck_86 : (am_code 86).all (am_ck 86) = true := by decide +kernel
theorem mk_86 : am_mck 86 = true := by decide +kernel
set_option maxRecDepth 100000 in
theorem ck_87 : (am_code 87).all (am_ck 87) = true := by decide +kernel
theorem mk_87 : am_mck 87 = true := by decide +kernel
set_option maxRecDepth 100000 in
theorem ck_88 : (am_code 88).all (am_ck 88) = true := by decide +kernel
theorem mk_88 : am_mck 88 = true := by decide +kernel
set_option maxRecDepth 100000 in
theorem ck_89 : (am_code 89).all (am_ck 89) = true := by decide +kernel
theorem mk_89 : am_mck 89 = true := by decide +kernel
end
section
set_option maxRecDepth 100000 in
theorem ck_90 : (am_code 90).all (am_ck 90) = true := by decide +kernel
theorem mk_90 : am_mck 90 = true := by decide +kernel
set_option maxRecDepth 100000 in
theorem ck_91 : (am_code 91).all (am_ck 91) = true := by decide +kernel
theorem mk_91 : am_mck 91 = true := by decide +kernel
set_option maxRecDepth 100000 in
theorem ck_92 : (am_code 92).all (am_ck 92) = true := by decide +kernel
theorem mk_92 : am_mck 92 = true := by decide +kernel
set_option maxRecDepth 100000 in
theorem ck_93 : (am_code 93).all (am_ck 93) = true := by decide +kernel
theorem mk_93 : am_mck 93 = true := by decide +kernel
set_option maxRecDepth 100000 in
theorem ck_94 : (am_code 94).all (am_ck 94) = true := by decide +kernel
theorem mk_94 : am_mck 94 = true := by decide +kernel
set_option maxRecDepth 100000 in
theorem ck_95 : (am_code 95).all (am_ck 95) = true := by decide +kernel
theorem mk_95 : am_mck 95 = true := by decide +kernel
set_option maxRecDepth 100000 in
theorem ck_96 : (am_code 96).all (am_ck 96) = true := by decide +kernel
theorem mk_96 : am_mck 96 = true := by decide +kernel
set_option maxRecDepth 100000 in
theorem ck_97 : (am_code 97).all (am_ck 97) = true := by decide +kernel
theorem mk_97 : am_mck 97 = true := by decide +kernel
set_option maxRecDepth 100000 in
theorem ck_98 : (am_code 98).all (am_ck 98) = true := by decide +kernel
theorem mk_98 : am_mck 98 = true := by decide +kernel
set_option maxRecDepth 100000 in
theorem ck_99 : (am_code 99).all (am_ck 99) = true := by decide +kernel
theorem mk_99 : am_mck 99 = true := by decide +kernel
set_option maxRecDepth 100000 in
theorem ck_100 : (am_code 100).all (am_ck 100) = true := by decide +kernel
theorem mk_100 : am_mck 100 = true := by decide +kernel
set_option maxRecDepth 100000 in
theorem ck_101 : (am_code 101).all (am_ck 101) = true := by decide +kernel
theorem mk_101 : am_mck 101 = true := by decide +kernel
set_option maxRecDepth 100000 in
theorem ck_102 : (am_code 102).all (am_ck 102) = true := by decide +kernel
theorem mk_102 : am_mck 102 = true := by decide +kernel
set_option maxRecDepth 100000 in
theorem ck_103 : (am_code 103).all (am_ck 103) = true := by decide +kernel
theorem mk_103 : am_mck 103 = true := by decide +kernel
set_option maxRecDepth 100000 in
theorem ck_104 : (am_code 104).all (am_ck 104) = true := by decide +kernel
theorem mk_104 : am_mck 104 = true := by decide +kernel
set_option maxRecDepth 100000 in
theorem ck_105 : (am_code 105).all (am_ck 105) = true := by decide +kernel
theorem mk_105 : am_mck 105 = true := by decide +kernel
set_option maxRecDepth 100000 in
theorem ck_106 : (am_code 106).all (am_ck 106) = true := by decide +kernel
theorem mk_106 : am_mck 106 = true := by decide +kernel
set_option maxRecDepth 100000 in
theorem ck_107 : (am_code 107).all (am_ck 107) = true := by decide +kernel
theorem mk_107 : am_mck 107 = true := by decide +kernel
set_option maxRecDepth 100000 in
theorem ck_108 : (am_code 108).all (am_ck 108) = true := by decide +kernel
theorem mk_108 : am_mck 108 = true := by decide +kernel
set_option maxRecDepth 100000 in
theorem ck_109 : (am_code 109).all (am_ck 109) = true := by decide +kernel
theorem mk_109 : am_mck 109 = true := by decide +kernel
set_option maxRecDepth 100000 in
theorem ck_110 : (am_code 110).all (am_ck 110) = true := by decide +kernel
theorem mk_110 : am_mck 110 = true := by decide +kernel
set_option maxRecDepth 100000 in
theorem ck_111 : (am_code 111).all (am_ck 111) = true := by decide +kernel
theorem mk_111 : am_mck 111 = true := by decide +kernel
set_option maxRecDepth 100000 in
theorem ck_112 : (am_code 112).all (am_ck 112) = true := by decide +kernel
theorem mk_112 : am_mck 112 = true := by decide +kernel
set_option maxRecDepth 100000 in
theorem ck_113 : (am_code 113).all (am_ck 113) = true := by decide +kernel
theorem mk_113 : am_mck 113 = true := by decide +kernel
set_option maxRecDepth 100000 in
theorem ck_114 : (am_code 114).all (am_ck 114) = true := by decide +kernel
theorem mk_114 : am_mck 114 = true := by decide +kernel
set_option maxRecDepth 100000 in
theorem ck_115 : (am_code 115).all (am_ck 115) = true := by decide +kernel
theorem mk_115 : am_mck 115 = true := by decide +kernel
end
section
set_option maxRecDepth 100000 in
theorem ck_116 : (am_code 116).all (am_ck 116) = true := by decide +kernel
theorem mk_116 : am_mck 116 = true := by decide +kernel
set_option maxRecDepth 100000 in
theorem ck_117 : (am_code 117).all (am_ck 117) = true := by decide +kernel
theorem mk_117 : am_mck 117 = true := by decide +kernel
set_option maxRecDepth 100000 in
theorem ck_118 : (am_code 118).all (am_ck 118) = true := by decide +kernel
theorem mk_118 : am_mck 118 = true := by decide +kernel
set_option maxRecDepth 100000 in
theorem ck_119 : (am_code 119).all (am_ck 119) = true := by decide +kernel
theorem mk_119 : am_mck 119 = true := by decide +kernel
set_option maxRecDepth 100000 in
theorem ck_120 : (am_code 120).all (am_ck 120) = true := by decide +kernel
theorem mk_120 : am_mck 120 = true := by decide +kernel
set_option maxRecDepth 100000 in
theorem ck_121 : (am_code 121).all (am_ck 121) = true := by decide +kernel
theorem mk_121 : am_mck 121 = true := by decide +kernel
set_option maxRecDepth 100000 in
theorem ck_122 : (am_code 122).all (am_ck 122) = true := by decide +kernel
theorem mk_122 : am_mck 122 = true := by decide +kernel
set_option maxRecDepth 100000 in
theorem ck_123 : (am_code 123).all (am_ck 123) = true := by decide +kernel
theorem mk_123 : am_mck 123 = true := by decide +kernel
set_option maxRecDepth 100000 in
theorem ck_124 : (am_code 124).all (am_ck 124) = true := by decide +kernel
theorem mk_124 : am_mck 124 = true := by decide +kernel
set_option maxRecDepth 100000 in
theorem ck_125 : (am_code 125).all (am_ck 125) = true := by decide +kernel
theorem mk_125 : am_mck 125 = true := by decide +kernel
set_option maxRecDepth 100000 in
theorem ck_126 : (am_code 126).all (am_ck 126) = true := by decide +kernel
theorem mk_126 : am_mck 126 = true := by decide +kernel
set_option maxRecDepth 100000 in
theorem ck_127 : (am_code 127).all (am_ck 127) = true := by decide +kernel
theorem mk_127 : am_mck 127 = true := by decide +kernel
set_option maxRecDepth 100000 in
theorem ck_128 : (am_code 128).all (am_ck 128) = true := by decide +kernel
theorem mk_128 : am_mck 128 = true := by decide +kernel
set_option maxRecDepth 100000 in
theorem ck_129 : (am_code 129).all (am_ck 129) = true := by decide +kernel
theorem mk_129 : am_mck 129 = true := by decide +kernel
set_option maxRecDepth 100000 in
theorem ck_130 : (am_code 130).all (am_ck 130) = true := by decide +kernel
theorem mk_130 : am_mck 130 = true := by decide +kernel
set_option maxRecDepth 100000 in
theorem ck_131 : (am_code 131).all (am_ck 131) = true := by decide +kernel
theorem mk_131 : am_mck 131 = true := by decide +kernel
set_option maxRecDepth 100000 in
theorem ck_132 : (am_code 132).all (am_ck 132) = true := by decide +kernel
theorem mk_132 : am_mck 132 = true := by decide +kernel
set_option maxRecDepth 100000 in
theorem ck_133 : (am_code 133).all (am_ck 133) = true := by decide +kernel
theorem mk_133 : am_mck 133 = true := by decide +kernel
set_option maxRecDepth 100000 in
theorem ck_134 : (am_code 134).all (am_ck 134) = true := by decide +kernel
theorem mk_134 : am_mck 134 = true := by decide +kernel
set_option maxRecDepth 100000 in
theorem ck_135 : (am_code 135).all (am_ck 135) = true := by decide +kernel
theorem mk_135 : am_mck 135 = true := by decide +kernel
set_option maxRecDepth 100000 in
theorem ck_136 : (am_code 136).all (am_ck 136) = true := by decide +kernel
theorem mk_136 : am_mck 136 = true := by decide +kernel
set_option maxRecDepth 100000 in
theorem ck_137 : (am_code 137).all (am_ck 137) = true := by decide +kernel
theorem mk_137 : am_mck 137 = true := by decide +kernel
set_option maxRecDepth 100000 in
theorem ck_138 : (am_code 138).all (am_ck 138) = true := by decide +kernel
theorem mk_138 : am_mck 138 = true := by decide +kernel
set_option maxRecDepth 100000 in
theorem ck_139 : (am_code 139).all (am_ck 139) = true := by decide +kernel
theorem mk_139 : am_mck 139 = true := by decide +kernel
set_option maxRecDepth 100000 in
theorem ck_140 : (am_code 140).all (am_ck 140) = true := by decide +kernel
theorem mk_140 : am_mck 140 = true := by decide +kernel
set_option maxRecDepth 100000 in
theorem ck_141 : (am_code 141).all (am_ck 141) = true := by decide +kernel
theorem mk_141 : am_mck 141 = true := by decide +kernel
set_option maxRecDepth 100000 in
theorem ck_142 : (am_code 142).all (am_ck 142) = true := by decide +kernel
theorem mk_142 : am_mck 142 = true := by decide +kernel
set_option maxRecDepth 100000 in
theorem ck_143 : (am_code 143).all (am_ck 143) = true := by decide +kernel
theorem mk_143 : am_mck 143 = true := by decide +kernel
set_option maxRecDepth 100000 in
theorem ck_144 : (am_code 144).all (am_ck 144) = true := by decide +kernel
theorem mk_144 : am_mck 144 = true := by decide +kernel
set_option maxRecDepth 100000 in
theorem ck_145 : (am_code 145).all (am_ck 145) = true := by decide +kernel
theorem mk_145 : am_mck 145 = true := by decide +kernel
set_option maxRecDepth 100000 in
theorem ck_146 : (am_code 146).all (am_ck 146) = true := by decide +kernel
theorem mk_146 : am_mck 146 = true := by decide +kernel
end
section
set_option maxRecDepth 100000 in
theorem ck_147 : (am_code 147).all (am_ck 147) = true := by decide +kernel
theorem mk_147 : am_mck 147 = true := by decide +kernel
set_option maxRecDepth 100000 in
theorem ck_148 : (am_code 148).all (am_ck 148) = true := by decide +kernel
theorem mk_148 : am_mck 148 = true := by decide +kernel
set_option maxRecDepth 100000 in
theorem ck_149 : (am_code 149).all (am_ck 149) = true := by decide +kernel
theorem mk_149 : am_mck 149 = true := by decide +kernel
set_option maxRecDepth 100000 in
theorem ck_150 : (am_code 150).all (am_ck 150) = true := by decide +kernel
theorem mk_150 : am_mck 150 = true := by decide +kernel
set_option maxRecDepth 100000 in
theorem ck_151 : (am_code 151).all (am_ck 151) = true := by decide +kernel
theorem mk_151 : am_mck 151 = true := by decide +kernel
set_option maxRecDepth 100000 in
theorem ck_152 : (am_code 152).all (am_ck 152) = true := by decide +kernel
theorem mk_152 : am_mck 152 = true := by decide +kernel
set_option maxRecDepth 100000 in
theorem ck_153 : (am_code 153).all (am_ck 153) = true := by decide +kernel
theorem mk_153 : am_mck 153 = true := by decide +kernel
set_option maxRecDepth 100000 in
theorem ck_154 : (am_code 154).all (am_ck 154) = true := by decide +kernel
theorem mk_154 : am_mck 154 = true := by decide +kernel
set_option maxRecDepth 100000 in
theorem ck_155 : (am_code 155).all (am_ck 155) = true := by decide +kernel
theorem mk_155 : am_mck 155 = true := by decide +kernel
set_option maxRecDepth 100000 in
theorem ck_156 : (am_code 156).all (am_ck 156) = true := by decide +kernel
theorem mk_156 : am_mck 156 = true := by decide +kernel
set_option maxRecDepth 100000 in
theorem ck_157 : (am_code 157).all (am_ck 157) = true := by decide +kernel
theorem mk_157 : am_mck 157 = true := by decide +kernel
set_option maxRecDepth 100000 in
theorem ck_158 : (am_code 158).all (am_ck 158) = true := by decide +kernel
theorem mk_158 : am_mck 158 = true := by decide +kernel
set_option maxRecDepth 100000 in
theorem ck_159 : (am_code 159).all (am_ck 159) = true := by decide +kernel
theorem mk_159 : am_mck 159 = true := by decide +kernel
set_option maxRecDepth 100000 in
theorem ck_160 : (am_code 160).all (am_ck 160) = true := by decide +kernel
theorem mk_160 : am_mck 160 = true := by decide +kernel
set_option maxRecDepth 100000 in
theorem ck_161 : (am_code 161).all (am_ck 161) = true := by decide +kernel
theorem mk_161 : am_mck 161 = true := by decide +kernel
set_option maxRecDepth 100000 in
theorem ck_162 : (am_code 162).all (am_ck 162) = true := by decide +kernel
theorem mk_162 : am_mck 162 = true := by decide +kernel
set_option maxRecDepth 100000 in
theorem ck_163 : (am_code 163).all (am_ck 163) = true := by decide +kernel
theorem mk_163 : am_mck 163 = true := by decide +kernel
set_option maxRecDepth 100000 in
theorem ck_164 : (am_code 164).all (am_ck 164) = true := by decide +kernel
theorem mk_164 : am_mck 164 = true := by decide +kernel
end
section
set_option maxRecDepth 100000 in
theorem ckl_0 : (((am_code 165).drop 0).take 30).all (am_ck 165) = true := by decide +kernel
set_option maxRecDepth 100000 in
theorem ckl_30 : (((am_code 165).drop 30).take 30).all (am_ck 165) = true := by decide +kernel
set_option maxRecDepth 100000 in
theorem ckl_60 : (((am_code 165).drop 60).take 30).all (am_ck 165) = true := by decide +kernel
set_option maxRecDepth 100000 in
theorem ckl_90 : (((am_code 165).drop 90).take 30).all (am_ck 165) = true := by decide +kernel
set_option maxRecDepth 100000 in
theorem ckl_120 : (((am_code 165).drop 120).take 30).all (am_ck 165) = true := by decide +kernel
set_option maxRecDepth 100000 in
theorem ckl_150 : (((am_code 165).drop 150).take 30).all (am_ck 165) = true := by decide +kernel
end
section
set_option maxRecDepth 100000 in
theorem ckl_180 : (((am_code 165).drop 180).take 30).all (am_ck 165) = true := by decide +kernel
set_option maxRecDepth 100000 in
theorem ckl_210 : (((am_code 165).drop 210).take 30).all (am_ck 165) = true := by decide +kernel
set_option maxRecDepth 100000 in
theorem ckl_240 : (((am_code 165).drop 240).take 30).all (am_ck 165) = true := by decide +kernel
set_option maxRecDepth 100000 in
theorem ckl_270 : (((am_code 165).drop 270).take 30).all (am_ck 165) = true := by decide +kernel
set_option maxRecDepth 100000 in
theorem ckl_300 : (((am_code 165).drop 300).take 30).all (am_ck 165) = true := by decide +kernel
set_option maxRecDepth 100000 in
theorem ckl_330 : (((am_code 165).drop 330).take 30).all (am_ck 165) = true := by decide +kernel
end
section
set_option maxRecDepth 100000 in
theorem ckl_360 : (((am_code 165).drop 360).take 30).all (am_ck 165) = true := by decide +kernel
set_option maxRecDepth 100000 in
theorem ckl_390 : (((am_code 165).drop 390).take 30).all (am_ck 165) = true := by decide +kernel
set_option maxRecDepth 100000 in
theorem ckl_420 : (((am_code 165).drop 420).take 30).all (am_ck 165) = true := by decide +kernel
set_option maxRecDepth 100000 in
theorem ckl_450 : (((am_code 165).drop 450).take 30).all (am_ck 165) = true := by decide +kernel
set_option maxRecDepth 100000 in
theorem ckl_480 : (((am_code 165).drop 480).take 30).all (am_ck 165) = true := by decide +kernel
set_option maxRecDepth 100000 in
theorem ckl_510 : (((am_code 165).drop 510).take 30).all (am_ck 165) = true := by decide +kernel
end
section
set_option maxRecDepth 100000 in
theorem ckl_540 : (((am_code 165).drop 540).take 30).all (am_ck 165) = true := by decide +kernel
set_option maxRecDepth 100000 in
theorem ckl_570 : (((am_code 165).drop 570).take 30).all (am_ck 165) = true := by decide +kernel
set_option maxRecDepth 100000 in
theorem ckl_600 : (((am_code 165).drop 600).take 30).all (am_ck 165) = true := by decide +kernel
set_option maxRecDepth 100000 in
theorem ckl_630 : (((am_code 165).drop 630).take 30).all (am_ck 165) = true := by decide +kernel
end
section
theorem am_cut {l : List am_E} {P : am_E → Bool} (k : Nat) (h1 : (l.take k).all P = true) (h2 : (l.drop k).all P = true) : l.all P = true := by rw [← List.take_append_drop k l, List.all_append, h1, h2]; rfl
theorem ckl_end : ((am_code 165).drop 660).all (am_ck 165) = true := by decide +kernel
theorem ckd_630 : ((am_code 165).drop 630).all (am_ck 165) = true := am_cut 30 ckl_630 (by rw [List.drop_drop]; exact ckl_end)
theorem ckd_600 : ((am_code 165).drop 600).all (am_ck 165) = true := am_cut 30 ckl_600 (by rw [List.drop_drop]; exact ckd_630)
theorem ckd_570 : ((am_code 165).drop 570).all (am_ck 165) = true := am_cut 30 ckl_570 (by rw [List.drop_drop]; exact ckd_600)
theorem ckd_540 : ((am_code 165).drop 540).all (am_ck 165) = true := am_cut 30 ckl_540 (by rw [List.drop_drop]; exact ckd_570)
theorem ckd_510 : ((am_code 165).drop 510).all (am_ck 165) = true := am_cut 30 ckl_510 (by rw [List.drop_drop]; exact ckd_540)
theorem ckd_480 : ((am_code 165).drop 480).all (am_ck 165) = true := am_cut 30 ckl_480 (by rw [List.drop_drop]; exact ckd_510)
theorem ckd_450 : ((am_code 165).drop 450).all (am_ck 165) = true := am_cut 30 ckl_450 (by rw [List.drop_drop]; exact ckd_480)
theorem ckd_420 : ((am_code 165).drop 420).all (am_ck 165) = true := am_cut 30 ckl_420 (by rw [List.drop_drop]; exact ckd_450)
theorem ckd_390 : ((am_code 165).drop 390).all (am_ck 165) = true := am_cut 30 ckl_390 (by rw [List.drop_drop]; exact ckd_420)
theorem ckd_360 : ((am_code 165).drop 360).all (am_ck 165) = true := am_cut 30 ckl_360 (by rw [List.drop_drop]; exact ckd_390)
theorem ckd_330 : ((am_code 165).drop 330).all (am_ck 165) = true := am_cut 30 ckl_330 (by rw [List.drop_drop]; exact ckd_360)
theorem ckd_300 : ((am_code 165).drop 300).all (am_ck 165) = true := am_cut 30 ckl_300 (by rw [List.drop_drop]; exact ckd_330)
theorem ckd_270 : ((am_code 165).drop 270).all (am_ck 165) = true := am_cut 30 ckl_270 (by rw [List.drop_drop]; exact ckd_300)
theorem ckd_240 : ((am_code 165).drop 240).all (am_ck 165) = true := am_cut 30 ckl_240 (by rw [List.drop_drop]; exact ckd_270)
theorem ckd_210 : ((am_code 165).drop 210).all (am_ck 165) = true := am_cut 30 ckl_210 (by rw [List.drop_drop]; exact ckd_240)
theorem ckd_180 : ((am_code 165).drop 180).all (am_ck 165) = true := am_cut 30 ckl_180 (by rw [List.drop_drop]; exact ckd_210)
theorem ckd_150 : ((am_code 165).drop 150).all (am_ck 165) = true := am_cut 30 ckl_150 (by rw [List.drop_drop]; exact ckd_180)
theorem ckd_120 : ((am_code 165).drop 120).all (am_ck 165) = true := am_cut 30 ckl_120 (by rw [List.drop_drop]; exact ckd_150)
theorem ckd_90 : ((am_code 165).drop 90).all (am_ck 165) = true := am_cut 30 ckl_90 (by rw [List.drop_drop]; exact ckd_120)
theorem ckd_60 : ((am_code 165).drop 60).all (am_ck 165) = true := am_cut 30 ckl_60 (by rw [List.drop_drop]; exact ckd_90)
theorem ckd_30 : ((am_code 165).drop 30).all (am_ck 165) = true := am_cut 30 ckl_30 (by rw [List.drop_drop]; exact ckd_60)
theorem ckd_0 : ((am_code 165).drop 0).all (am_ck 165) = true := am_cut 30 ckl_0 (by rw [List.drop_drop]; exact ckd_30)
theorem ck_165 : (am_code 165).all (am_ck 165) = true := by have := ckd_0; rwa [List.drop_zero] at this
set_option maxRecDepth 100000 in
theorem am_ck_all : ∀ i, i < am_N → (am_code i).all (am_ck i) = true := (lt_s (lt_s (lt_s (lt_s (lt_s (lt_s (lt_s (lt_s (lt_s (lt_s (lt_s (lt_s (lt_s (lt_s (lt_s (lt_s (lt_s (lt_s (lt_s (lt_s (lt_s (lt_s (lt_s (lt_s (lt_s (lt_s (lt_s (lt_s (lt_s (lt_s (lt_s (lt_s (lt_s (lt_s (lt_s (lt_s (lt_s (lt_s (lt_s (lt_s (lt_s (lt_s (lt_s (lt_s (lt_s (lt_s (lt_s (lt_s (lt_s (lt_s (lt_s (lt_s (lt_s (lt_s (lt_s (lt_s (lt_s (lt_s (lt_s (lt_s (lt_s (lt_s (lt_s (lt_s (lt_s (lt_s (lt_s (lt_s (lt_s (lt_s (lt_s (lt_s (lt_s (lt_s (lt_s (lt_s (lt_s (lt_s (lt_s (lt_s (lt_s (lt_s (lt_s (lt_s (lt_s (lt_s (lt_s (lt_s (lt_s (lt_s (lt_s (lt_s (lt_s (lt_s (lt_s (lt_s (lt_s (lt_s (lt_s (lt_s (lt_s (lt_s (lt_s (lt_s (lt_s (lt_s (lt_s (lt_s (lt_s (lt_s (lt_s (lt_s (lt_s (lt_s (lt_s (lt_s (lt_s (lt_s (lt_s (lt_s (lt_s (lt_s (lt_s (lt_s (lt_s (lt_s (lt_s (lt_s (lt_s (lt_s (lt_s (lt_s (lt_s (lt_s (lt_s (lt_s (lt_s (lt_s (lt_s (lt_s (lt_s (lt_s (lt_s (lt_s (lt_s (lt_s (lt_s (lt_s (lt_s (lt_s (lt_s (lt_s (lt_s (lt_s (lt_s (lt_s (lt_s (lt_s (lt_s (lt_s (lt_s (lt_s (lt_s (lt_s (lt_s (lt_s lt_0 ck_0) ck_1) ck_2) ck_3) ck_4) ck_5) ck_6) ck_7) ck_8) ck_9) ck_10) ck_11) ck_12) ck_13) ck_14) ck_15) ck_16) ck_17) ck_18) ck_19) ck_20) ck_21) ck_22) ck_23) ck_24) ck_25) ck_26) ck_27) ck_28) ck_29) ck_30) ck_31) ck_32) ck_33) ck_34) ck_35) ck_36) ck_37) ck_38) ck_39) ck_40) ck_41) ck_42) ck_43) ck_44) ck_45) ck_46) ck_47) ck_48) ck_49) ck_50) ck_51) ck_52) ck_53) ck_54) ck_55) ck_56) ck_57) ck_58) ck_59) ck_60) ck_61) ck_62) ck_63) ck_64) ck_65) ck_66) ck_67) ck_68) ck_69) ck_70) ck_71) ck_72) ck_73) ck_74) ck_75) ck_76) ck_77) ck_78) ck_79) ck_80) ck_81) ck_82) ck_83) ck_84) ck_85) ck_86) ck_87) ck_88) ck_89) ck_90) ck_91) ck_92) ck_93) ck_94) ck_95) ck_96) ck_97) ck_98) ck_99) ck_100) ck_101) ck_102) ck_103) ck_104) ck_105) ck_106) ck_107) ck_108) ck_109) ck_110) ck_111) ck_112) ck_113) ck_114) ck_115) ck_116) ck_117) ck_118) ck_119) ck_120) ck_121) ck_122) ck_123) ck_124) ck_125) ck_126) ck_127) ck_128) ck_129) ck_130) ck_131) ck_132) ck_133) ck_134) ck_135) ck_136) ck_137) ck_138) ck_139) ck_140) ck_141) ck_142) ck_143) ck_144) ck_145) ck_146) ck_147) ck_148) ck_149) ck_150) ck_151) ck_152) ck_153) ck_154) ck_155) ck_156) ck_157) ck_158) ck_159) ck_160) ck_161) ck_162) ck_163) ck_164) ck_165)
set_option maxRecDepth 100000 in
theorem am_mk_all : ∀ i, i < 165 → am_mck i = true := (lt_s (lt_s (lt_s (lt_s (lt_s (lt_s (lt_s (lt_s (lt_s (lt_s (lt_s (lt_s (lt_s (lt_s (lt_s (lt_s (lt_s (lt_s (lt_s (lt_s (lt_s (lt_s (lt_s (lt_s (lt_s (lt_s (lt_s (lt_s (lt_s (lt_s (lt_s (lt_s (lt_s (lt_s (lt_s (lt_s (lt_s (lt_s (lt_s (lt_s (lt_s (lt_s (lt_s (lt_s (lt_s (lt_s (lt_s (lt_s (lt_s (lt_s (lt_s (lt_s (lt_s (lt_s (lt_s (lt_s (lt_s (lt_s (lt_s (lt_s (lt_s (lt_s (lt_s (lt_s (lt_s (lt_s (lt_s (lt_s (lt_s (lt_s (lt_s (lt_s (lt_s (lt_s (lt_s (lt_s (lt_s (lt_s (lt_s (lt_s (lt_s (lt_s (lt_s (lt_s (lt_s (lt_s (lt_s (lt_s (lt_s (lt_s (lt_s (lt_s (lt_s (lt_s (lt_s (lt_s (lt_s (lt_s (lt_s (lt_s (lt_s (lt_s (lt_s (lt_s (lt_s (lt_s (lt_s (lt_s (lt_s (lt_s (lt_s (lt_s (lt_s (lt_s (lt_s (lt_s (lt_s (lt_s (lt_s (lt_s (lt_s (lt_s (lt_s (lt_s (lt_s (lt_s (lt_s (lt_s (lt_s (lt_s (lt_s (lt_s (lt_s (lt_s (lt_s (lt_s (lt_s (lt_s (lt_s (lt_s (lt_s (lt_s (lt_s (lt_s (lt_s (lt_s (lt_s (lt_s (lt_s (lt_s (lt_s (lt_s (lt_s (lt_s (lt_s (lt_s (lt_s (lt_s (lt_s (lt_s (lt_s (lt_s (lt_s (lt_s (lt_s lt_0 mk_0) mk_1) mk_2) mk_3) mk_4) mk_5) mk_6) mk_7) mk_8) mk_9) mk_10) mk_11) mk_12) mk_13) mk_14) mk_15) mk_16) mk_17) mk_18) mk_19) mk_20) mk_21) mk_22) mk_23) mk_24) mk_25) mk_26) mk_27) mk_28) mk_29) mk_30) mk_31) mk_32) mk_33) mk_34) mk_35) mk_36) mk_37) mk_38) mk_39) mk_40) mk_41) mk_42) mk_43) mk_44) mk_45) mk_46) mk_47) mk_48) mk_49) mk_50) mk_51) mk_52) mk_53) mk_54) mk_55) mk_56) mk_57) mk_58) mk_59) mk_60) mk_61) mk_62) mk_63) mk_64) mk_65) mk_66) mk_67) mk_68) mk_69) mk_70) mk_71) mk_72) mk_73) mk_74) mk_75) mk_76) mk_77) mk_78) mk_79) mk_80) mk_81) mk_82) mk_83) mk_84) mk_85) mk_86) mk_87) mk_88) mk_89) mk_90) mk_91) mk_92) mk_93) mk_94) mk_95) mk_96) mk_97) mk_98) mk_99) mk_100) mk_101) mk_102) mk_103) mk_104) mk_105) mk_106) mk_107) mk_108) mk_109) mk_110) mk_111) mk_112) mk_113) mk_114) mk_115) mk_116) mk_117) mk_118) mk_119) mk_120) mk_121) mk_122) mk_123) mk_124) mk_125) mk_126) mk_127) mk_128) mk_129) mk_130) mk_131) mk_132) mk_133) mk_134) mk_135) mk_136) mk_137) mk_138) mk_139) mk_140) mk_141) mk_142) mk_143) mk_144) mk_145) mk_146) mk_147) mk_148) mk_149) mk_150) mk_151) mk_152) mk_153) mk_154) mk_155) mk_156) mk_157) mk_158) mk_159) mk_160) mk_161) mk_162) mk_163) mk_164)
theorem am_cck_ok : (List.range am_cls.length).all am_cck = true := by decide +kernel
theorem am_nck_ok : am_nck = true := by decide +kernel
theorem am_ret_ok : (List.range am_N).all (fun i => decide (am_ret i = am_rt i)) = true := by decide +kernel
theorem am_tab_ok : am_tab := ⟨fun i hi e he => List.all_eq_true.mp (am_ck_all i hi) e he, fun j hj hl => am_mk_all j (by
  have h1 : j < 165 + 1 := hj
  have h2 : j ≠ 165 := hl
  omega), fun c hc => List.all_eq_true.mp am_cck_ok c (List.mem_range.mpr hc), am_nck_ok, fun i hi => of_decide_eq_true (List.all_eq_true.mp am_ret_ok i (List.mem_range.mpr hi))⟩
end
section
theorem am_cl_of {j c a : Nat} {As fs : List Value} {h : am_H} (hk : am_rk j = some c) (hr : h[a]? = some (.inr (c, fs))) : am_cl j (.ref a :: As) h = am_ev j (0, am_l0 j (.ref a :: As), [], h) := by
  unfold am_cl am_rc
  rw [hk]
  simp only [hr, Nat.beq_refl, cond_true]
theorem am_cl_st {j : Nat} {As : List Value} {h : am_H} (hk : am_rk j = none) : am_cl j As h = am_ev j (0, am_l0 j As, [], h) := by
  unfold am_cl am_rc
  rw [hk]
  rfl
end
section
set_option maxRecDepth 100000 in
set_option maxHeartbeats 2000000 in
theorem e_Mod_init (a0 : Nat) {fs : List Value} (h : am_H) (hr : h[a0]? = some (.inr (10, fs))) : am_cl m_Mod_init [.ref a0] h = Option.bind (am_na h 0 472) (fun h1 => Option.bind (am_pf h1 a0 10 0 (.ref (List.length h))) (fun h2 => Option.bind (am_na h2 0 1888) (fun h3 => Option.bind (am_pf h3 a0 10 1 (.ref (List.length h2))) (fun h4 => Option.bind (am_na h4 1 80) (fun h5 => Option.bind (am_pf h5 a0 10 4 (.ref (List.length h4))) (fun h6 => Option.bind (am_na h6 0 40) (fun h7 => Option.bind (am_pf h7 a0 10 8 (.ref (List.length h6))) (fun h8 => Option.bind (am_na h8 0 40) (fun h9 => Option.bind (am_pf h9 a0 10 9 (.ref (List.length h8))) (fun h10 => Option.bind (am_na h10 0 40) (fun h11 => Option.bind (am_pf h11 a0 10 10 (.ref (List.length h10))) (fun h12 => Option.bind (am_na h12 0 168) (fun h13 => Option.bind (am_pf h13 a0 10 11 (.ref (List.length h12))) (fun h14 => Option.bind (am_na h14 0 160) (fun h15 => Option.bind (am_pf h15 a0 10 12 (.ref (List.length h14))) (fun h16 => Option.bind (am_na h16 0 20) (fun h17 => Option.bind (am_pf h17 a0 10 13 (.ref (List.length h16))) (fun h18 => Option.bind (am_na h18 0 20) (fun h19 => Option.bind (am_pf h19 a0 10 14 (.ref (List.length h18))) (fun h20 => Option.bind (am_na h20 0 20) (fun h21 => Option.bind (am_pf h21 a0 10 15 (.ref (List.length h20))) (fun h22 => Option.bind (am_na h22 0 20) (fun h23 => Option.bind (am_pf h23 a0 10 16 (.ref (List.length h22))) (fun h24 => Option.bind (am_na h24 0 20) (fun h25 => Option.bind (am_pf h25 a0 10 17 (.ref (List.length h24))) (fun h26 => Option.bind (am_gr h26 a0 10 0) (fun r27 => Option.bind (am_as h26 0 r27 0 1) (fun h28 => Option.bind (am_gr h28 a0 10 0) (fun r29 => Option.bind (am_as h28 0 r29 9 5) (fun h30 => Option.bind (am_gr h30 a0 10 0) (fun r31 => Option.bind (am_as h30 0 r31 468 50000) (fun h32 => Option.bind (am_gr h32 a0 10 0) (fun r33 => Option.bind (am_as h32 0 r33 469 150) (fun h34 => Option.bind (am_gr h34 a0 10 0) (fun r35 => Option.bind (am_as h34 0 r35 470 100) (fun h36 => Option.bind (am_gr h36 a0 10 0) (fun r37 => Option.bind (am_as h36 0 r37 471 2) (fun h38 => some (none, h38))))))))))))))))))))))))))))))))))))))) := (am_cl_of rfl hr).trans (am_blk [] 90 rfl)
set_option maxRecDepth 100000 in
set_option maxHeartbeats 2000000 in
theorem e_Mod_in (x0 : Int32) (x1 : Int32) (x2 : Int32) (h : am_H) : am_cl m_Mod_in [.int x0, .int x1, .int x2] h = (bif decide (x0 < x1) then some (some (.int 0), h) else (bif decide (x2 < x0) then some (some (.int 0), h) else some (some (.int 1), h))) := (am_cl_st rfl).trans (am_blk [] 15 rfl)
set_option maxRecDepth 100000 in
set_option maxHeartbeats 2000000 in
theorem e_Mod_lost  (h : am_H) : am_cl m_Mod_lost [] h = some (some (.long (-9223372036854775808)), h) := (am_cl_st rfl).trans (am_blk [] 7 rfl)
set_option maxRecDepth 100000 in
set_option maxHeartbeats 2000000 in
theorem e_Mod_greater (x0 : Int32) (x1 : Int32) (h : am_H) : am_cl m_Mod_greater [.int x0, .int x1] h = (bif decide (x0 ≤ x1) then some (some (.int x1), h) else some (some (.int x0), h)) := (am_cl_st rfl).trans (am_blk [] 12 rfl)
set_option maxRecDepth 100000 in
set_option maxHeartbeats 2000000 in
theorem e_Mod_lesser (x0 : Int32) (x1 : Int32) (h : am_H) : am_cl m_Mod_lesser [.int x0, .int x1] h = (bif decide (x1 ≤ x0) then some (some (.int x1), h) else some (some (.int x0), h)) := (am_cl_st rfl).trans (am_blk [] 12 rfl)
set_option maxRecDepth 100000 in
set_option maxHeartbeats 2000000 in
theorem e_Mod_lots (a0 : Nat) {fs : List Value} (h : am_H) (hr : h[a0]? = some (.inr (10, fs))) : am_cl m_Mod_lots [.ref a0] h = Option.bind (am_gr h a0 10 0) (fun r1 => Option.bind (am_al h 0 r1 17) (fun v2 => some (some (.int v2), h))) := (am_cl_of rfl hr).trans (am_blk [] 10 rfl)
set_option maxRecDepth 100000 in
set_option maxHeartbeats 2000000 in
theorem e_Mod_bidders (a0 : Nat) {fs : List Value} (h : am_H) (hr : h[a0]? = some (.inr (10, fs))) : am_cl m_Mod_bidders [.ref a0] h = Option.bind (am_gr h a0 10 0) (fun r1 => Option.bind (am_al h 0 r1 98) (fun v2 => some (some (.int v2), h))) := (am_cl_of rfl hr).trans (am_blk [] 10 rfl)
set_option maxRecDepth 100000 in
set_option maxHeartbeats 2000000 in
theorem e_Mod_bids (a0 : Nat) {fs : List Value} (h : am_H) (hr : h[a0]? = some (.inr (10, fs))) : am_cl m_Mod_bids [.ref a0] h = Option.bind (am_gr h a0 10 0) (fun r1 => Option.bind (am_al h 0 r1 107) (fun v2 => some (some (.int v2), h))) := (am_cl_of rfl hr).trans (am_blk [] 10 rfl)
set_option maxRecDepth 100000 in
set_option maxHeartbeats 2000000 in
theorem e_Mod_noLot (a0 : Nat) (x1 : Int32) {fs : List Value} (h : am_H) (hr : h[a0]? = some (.inr (10, fs))) : am_cl m_Mod_noLot [.ref a0, .int x1] h = am_bi (am_cl m_Mod_lots [.ref a0] h) (fun w2 h1 => am_bi (am_cl m_Mod_in [.int x1, .int 0, .int (w2 - 1)] h1) (fun w4 h3 => (bif decide (¬ w4 = 0) then some (some (.int 0), h3) else some (some (.int 1), h3)))) := (am_cl_of rfl hr).trans (am_blk [] 17 rfl)
set_option maxRecDepth 100000 in
set_option maxHeartbeats 2000000 in
theorem e_Mod_noBidder (a0 : Nat) (x1 : Int32) {fs : List Value} (h : am_H) (hr : h[a0]? = some (.inr (10, fs))) : am_cl m_Mod_noBidder [.ref a0, .int x1] h = am_bi (am_cl m_Mod_bidders [.ref a0] h) (fun w2 h1 => am_bi (am_cl m_Mod_in [.int x1, .int 0, .int (w2 - 1)] h1) (fun w4 h3 => (bif decide (¬ w4 = 0) then some (some (.int 0), h3) else some (some (.int 1), h3)))) := (am_cl_of rfl hr).trans (am_blk [] 17 rfl)
set_option maxRecDepth 100000 in
set_option maxHeartbeats 2000000 in
theorem e_Mod_noBid (a0 : Nat) (x1 : Int32) {fs : List Value} (h : am_H) (hr : h[a0]? = some (.inr (10, fs))) : am_cl m_Mod_noBid [.ref a0, .int x1] h = am_bi (am_cl m_Mod_bids [.ref a0] h) (fun w2 h1 => am_bi (am_cl m_Mod_in [.int x1, .int 0, .int (w2 - 1)] h1) (fun w4 h3 => (bif decide (¬ w4 = 0) then some (some (.int 0), h3) else some (some (.int 1), h3)))) := (am_cl_of rfl hr).trans (am_blk [] 17 rfl)
set_option maxRecDepth 100000 in
set_option maxHeartbeats 2000000 in
theorem e_Mod_record (a0 : Nat) {fs : List Value} (h : am_H) (hr : h[a0]? = some (.inr (10, fs))) : am_cl m_Mod_record [.ref a0] h = Option.bind (am_gi h a0 10 2) (fun i1 => (bif decide (¬ i1 = 4) then am_ev m_Mod_record (56, [.ref a0, .int 0], [], h) else Option.bind (am_gi h a0 10 2) (fun i2 => Option.bind (am_pf h a0 10 2 (.int (i2 - 1))) (fun h3 => am_ev m_Mod_record (20, [.ref a0, .int 0], [], h3))))) := (am_cl_of rfl hr).trans (am_blk [20, 56] 62 rfl)
set_option maxRecDepth 100000 in
set_option maxHeartbeats 2000000 in
theorem b_Mod_record_20 (a0 : Nat) (x1 : Int32) (h : am_H) : am_ev m_Mod_record (20, [.ref a0, .int x1], [], h) = Option.bind (am_gi h a0 10 2) (fun i1 => (bif decide ((472 * i1) ≤ x1) then am_ev m_Mod_record (56, [.ref a0, .int 0], [], h) else Option.bind (am_gr h a0 10 1) (fun r2 => Option.bind (am_gr h a0 10 1) (fun r3 => Option.bind (am_al h 0 r3 (x1 + 472)) (fun v4 => Option.bind (am_as h 0 r2 x1 v4) (fun h5 => am_ev m_Mod_record (20, [.ref a0, .int (x1 + 1)], [], h5))))))) := am_blk [20, 56] 62 rfl
set_option maxRecDepth 100000 in
set_option maxHeartbeats 2000000 in
theorem b_Mod_record_56 (a0 : Nat) (x1 : Int32) (h : am_H) : am_ev m_Mod_record (56, [.ref a0, .int x1], [], h) = (bif decide (472 ≤ x1) then Option.bind (am_gi h a0 10 2) (fun i1 => Option.bind (am_pf h a0 10 2 (.int (i1 + 1))) (fun h2 => some (none, h2))) else Option.bind (am_gr h a0 10 1) (fun r3 => Option.bind (am_gi h a0 10 2) (fun i4 => Option.bind (am_gr h a0 10 0) (fun r5 => Option.bind (am_al h 0 r5 x1) (fun v6 => Option.bind (am_as h 0 r3 ((472 * i4) + x1) v6) (fun h7 => am_ev m_Mod_record (56, [.ref a0, .int (x1 + 1)], [], h7))))))) := am_blk [20, 56] 62 rfl
set_option maxRecDepth 100000 in
set_option maxHeartbeats 2000000 in
theorem e_Mod_undo (a0 : Nat) {fs : List Value} (h : am_H) (hr : h[a0]? = some (.inr (10, fs))) : am_cl m_Mod_undo [.ref a0] h = Option.bind (am_gi h a0 10 2) (fun i1 => (bif decide (¬ i1 = 0) then Option.bind (am_gi h a0 10 2) (fun i2 => Option.bind (am_pf h a0 10 2 (.int (i2 - 1))) (fun h3 => am_ev m_Mod_undo (22, [.ref a0, .int 0], [], h3))) else some (some (.int (-5)), h))) := (am_cl_of rfl hr).trans (am_blk [22] 39 rfl)
set_option maxRecDepth 100000 in
set_option maxHeartbeats 2000000 in
theorem b_Mod_undo_22 (a0 : Nat) (x1 : Int32) (h : am_H) : am_ev m_Mod_undo (22, [.ref a0, .int x1], [], h) = (bif decide (472 ≤ x1) then Option.bind (am_gi h a0 10 2) (fun i1 => some (some (.int i1), h)) else Option.bind (am_gr h a0 10 0) (fun r2 => Option.bind (am_gr h a0 10 1) (fun r3 => Option.bind (am_gi h a0 10 2) (fun i4 => Option.bind (am_al h 0 r3 ((472 * i4) + x1)) (fun v5 => Option.bind (am_as h 0 r2 x1 v5) (fun h6 => am_ev m_Mod_undo (22, [.ref a0, .int (x1 + 1)], [], h6))))))) := am_blk [22] 39 rfl
set_option maxRecDepth 100000 in
set_option maxHeartbeats 2000000 in
theorem e_Mod_bandAt (a0 : Nat) (x1 : Int32) {fs : List Value} (h : am_H) (hr : h[a0]? = some (.inr (10, fs))) : am_cl m_Mod_bandAt [.ref a0, .int x1] h = am_ev m_Mod_bandAt (2, [.ref a0, .int x1, .int 0], [], h) := (am_cl_of rfl hr).trans (am_blk [2] 27 rfl)
set_option maxRecDepth 100000 in
set_option maxHeartbeats 2000000 in
theorem b_Mod_bandAt_2 (a0 : Nat) (x1 : Int32) (x2 : Int32) (h : am_H) : am_ev m_Mod_bandAt (2, [.ref a0, .int x1, .int x2], [], h) = Option.bind (am_gr h a0 10 0) (fun r1 => Option.bind (am_al h 0 r1 0) (fun v2 => (bif decide (v2 ≤ x2) then some (some (.int (-5)), h) else Option.bind (am_gr h a0 10 0) (fun r3 => Option.bind (am_al h 0 r3 (1 + x2)) (fun v4 => (bif decide (¬ v4 = x1) then am_ev m_Mod_bandAt (2, [.ref a0, .int x1, .int (x2 + 1)], [], h) else some (some (.int x2), h))))))) := am_blk [2] 27 rfl
set_option maxRecDepth 100000 in
set_option maxHeartbeats 2000000 in
theorem e_Mod_setBand (a0 : Nat) (x1 : Int32) (x2 : Int32) {fs : List Value} (h : am_H) (hr : h[a0]? = some (.inr (10, fs))) : am_cl m_Mod_setBand [.ref a0, .int x1, .int x2] h = am_bi (am_cl m_Mod_in [.int x1, .int 0, .int 1000000] h) (fun w2 h1 => (bif decide (w2 = 0) then some (some (.int (-2)), h1) else am_bi (am_cl m_Mod_in [.int x2, .int 1, .int 100000] h1) (fun w4 h3 => (bif decide (¬ w4 = 0) then am_bi (am_cl m_Mod_bandAt [.ref a0, .int x1] h3) (fun w6 h5 => (bif decide (0 ≤ w6) then am_ev m_Mod_setBand (47, [.ref a0, .int x1, .int x2, .int w6], [], h5) else Option.bind (am_gr h5 a0 10 0) (fun r7 => Option.bind (am_al h5 0 r7 0) (fun v8 => (bif decide (¬ v8 = 8) then am_ev m_Mod_setBand (47, [.ref a0, .int x1, .int x2, .int w6], [], h5) else some (some (.int (-3)), h5)))))) else some (some (.int (-2)), h3))))) := (am_cl_of rfl hr).trans (am_blk [47, 62] 107 rfl)
set_option maxRecDepth 100000 in
set_option maxHeartbeats 2000000 in
theorem b_Mod_setBand_47 (a0 : Nat) (x1 : Int32) (x2 : Int32) (x3 : Int32) (h : am_H) : am_ev m_Mod_setBand (47, [.ref a0, .int x1, .int x2, .int x3], [], h) = am_bv (am_cl m_Mod_record [.ref a0] h) (fun h1 => (bif decide (0 ≤ x3) then Option.bind (am_gr h1 a0 10 0) (fun r2 => Option.bind (am_as h1 0 r2 (9 + x3) x2) (fun h3 => Option.bind (am_gr h3 a0 10 0) (fun r4 => Option.bind (am_al h3 0 r4 0) (fun v5 => some (some (.int v5), h3))))) else Option.bind (am_gr h1 a0 10 0) (fun r6 => Option.bind (am_al h1 0 r6 0) (fun v7 => am_ev m_Mod_setBand (62, [.ref a0, .int x1, .int x2, .int v7], [], h1))))) := am_blk [47, 62] 107 rfl
set_option maxRecDepth 100000 in
set_option maxHeartbeats 2000000 in
theorem b_Mod_setBand_62 (a0 : Nat) (x1 : Int32) (x2 : Int32) (x3 : Int32) (h : am_H) : am_ev m_Mod_setBand (62, [.ref a0, .int x1, .int x2, .int x3], [], h) = Option.bind (am_gr h a0 10 0) (fun r1 => Option.bind (am_al h 0 r1 ((1 + x3) - 1)) (fun v2 => (bif decide (v2 ≤ x1) then Option.bind (am_gr h a0 10 0) (fun r3 => Option.bind (am_as h 0 r3 (1 + x3) x1) (fun h4 => Option.bind (am_gr h4 a0 10 0) (fun r5 => Option.bind (am_al h4 0 r5 0) (fun v6 => Option.bind (am_as h4 0 r5 0 (v6 + 1)) (fun h7 => Option.bind (am_gr h7 a0 10 0) (fun r8 => Option.bind (am_as h7 0 r8 (9 + x3) x2) (fun h9 => Option.bind (am_gr h9 a0 10 0) (fun r10 => Option.bind (am_al h9 0 r10 0) (fun v11 => some (some (.int v11), h9)))))))))) else Option.bind (am_gr h a0 10 0) (fun r12 => Option.bind (am_gr h a0 10 0) (fun r13 => Option.bind (am_al h 0 r13 ((1 + x3) - 1)) (fun v14 => Option.bind (am_as h 0 r12 (1 + x3) v14) (fun h15 => Option.bind (am_gr h15 a0 10 0) (fun r16 => Option.bind (am_gr h15 a0 10 0) (fun r17 => Option.bind (am_al h15 0 r17 ((9 + x3) - 1)) (fun v18 => Option.bind (am_as h15 0 r16 (9 + x3) v18) (fun h19 => am_ev m_Mod_setBand (62, [.ref a0, .int x1, .int x2, .int (x3 + (-1))], [], h19)))))))))))) := am_blk [47, 62] 107 rfl
set_option maxRecDepth 100000 in
set_option maxHeartbeats 2000000 in
theorem e_Mod_removeBand (a0 : Nat) (x1 : Int32) {fs : List Value} (h : am_H) (hr : h[a0]? = some (.inr (10, fs))) : am_cl m_Mod_removeBand [.ref a0, .int x1] h = am_bi (am_cl m_Mod_bandAt [.ref a0, .int x1] h) (fun w2 h1 => (bif decide (1 ≤ w2) then am_bv (am_cl m_Mod_record [.ref a0] h1) (fun h3 => Option.bind (am_gr h3 a0 10 0) (fun r4 => Option.bind (am_al h3 0 r4 0) (fun v5 => Option.bind (am_as h3 0 r4 0 (v5 - 1)) (fun h6 => am_ev m_Mod_removeBand (30, [.ref a0, .int x1, .int w2, .int w2], [], h6))))) else some (some (.int (-4)), h1))) := (am_cl_of rfl hr).trans (am_blk [30] 67 rfl)
set_option maxRecDepth 100000 in
set_option maxHeartbeats 2000000 in
theorem b_Mod_removeBand_30 (a0 : Nat) (x1 : Int32) (x2 : Int32) (x3 : Int32) (h : am_H) : am_ev m_Mod_removeBand (30, [.ref a0, .int x1, .int x2, .int x3], [], h) = Option.bind (am_gr h a0 10 0) (fun r1 => Option.bind (am_al h 0 r1 0) (fun v2 => (bif decide (v2 ≤ x3) then Option.bind (am_gr h a0 10 0) (fun r3 => Option.bind (am_al h 0 r3 0) (fun v4 => some (some (.int v4), h))) else Option.bind (am_gr h a0 10 0) (fun r5 => Option.bind (am_gr h a0 10 0) (fun r6 => Option.bind (am_al h 0 r6 ((1 + x3) + 1)) (fun v7 => Option.bind (am_as h 0 r5 (1 + x3) v7) (fun h8 => Option.bind (am_gr h8 a0 10 0) (fun r9 => Option.bind (am_gr h8 a0 10 0) (fun r10 => Option.bind (am_al h8 0 r10 ((9 + x3) + 1)) (fun v11 => Option.bind (am_as h8 0 r9 (9 + x3) v11) (fun h12 => am_ev m_Mod_removeBand (30, [.ref a0, .int x1, .int x2, .int (x3 + 1)], [], h12)))))))))))) := am_blk [30] 67 rfl
set_option maxRecDepth 100000 in
set_option maxHeartbeats 2000000 in
theorem e_Mod_bandOf (a0 : Nat) (x1 : Int32) {fs : List Value} (h : am_H) (hr : h[a0]? = some (.inr (10, fs))) : am_cl m_Mod_bandOf [.ref a0, .int x1] h = am_ev m_Mod_bandOf (2, [.ref a0, .int x1, .int 0], [], h) := (am_cl_of rfl hr).trans (am_blk [2] 29 rfl)
set_option maxRecDepth 100000 in
set_option maxHeartbeats 2000000 in
theorem b_Mod_bandOf_2 (a0 : Nat) (x1 : Int32) (x2 : Int32) (h : am_H) : am_ev m_Mod_bandOf (2, [.ref a0, .int x1, .int x2], [], h) = Option.bind (am_gr h a0 10 0) (fun r1 => Option.bind (am_al h 0 r1 0) (fun v2 => (bif decide (v2 ≤ (x2 + 1)) then some (some (.int x2), h) else Option.bind (am_gr h a0 10 0) (fun r3 => Option.bind (am_al h 0 r3 ((1 + x2) + 1)) (fun v4 => (bif decide (x1 < v4) then some (some (.int x2), h) else am_ev m_Mod_bandOf (2, [.ref a0, .int x1, .int (x2 + 1)], [], h))))))) := am_blk [2] 29 rfl
set_option maxRecDepth 100000 in
set_option maxHeartbeats 2000000 in
theorem e_Mod_floorOf (a0 : Nat) (x1 : Int32) {fs : List Value} (h : am_H) (hr : h[a0]? = some (.inr (10, fs))) : am_cl m_Mod_floorOf [.ref a0, .int x1] h = am_bi (am_cl m_Mod_bandOf [.ref a0, .int x1] h) (fun w2 h1 => Option.bind (am_gr h1 a0 10 0) (fun r3 => Option.bind (am_al h1 0 r3 (1 + w2)) (fun v4 => Option.bind (am_gr h1 a0 10 0) (fun r5 => Option.bind (am_al h1 0 r5 (9 + w2)) (fun v6 => Option.bind (am_rm (x1 - v4) v6) (fun z7 => some (some (.int (x1 - z7)), h1))))))) := (am_cl_of rfl hr).trans (am_blk [] 27 rfl)
set_option maxRecDepth 100000 in
set_option maxHeartbeats 2000000 in
theorem e_Mod_nextOf (a0 : Nat) (x1 : Int32) {fs : List Value} (h : am_H) (hr : h[a0]? = some (.inr (10, fs))) : am_cl m_Mod_nextOf [.ref a0, .int x1] h = am_bi (am_cl m_Mod_bandOf [.ref a0, .int x1] h) (fun w2 h1 => am_bi (am_cl m_Mod_floorOf [.ref a0, .int x1] h1) (fun w4 h3 => Option.bind (am_gr h3 a0 10 0) (fun r5 => Option.bind (am_al h3 0 r5 (9 + w2)) (fun v6 => Option.bind (am_gr h3 a0 10 0) (fun r7 => Option.bind (am_al h3 0 r7 0) (fun v8 => (bif decide (v8 ≤ (w2 + 1)) then some (some (.int (w4 + v6)), h3) else Option.bind (am_gr h3 a0 10 0) (fun r9 => Option.bind (am_al h3 0 r9 ((1 + w2) + 1)) (fun v10 => (bif decide ((w4 + v6) ≤ v10) then some (some (.int (w4 + v6)), h3) else Option.bind (am_gr h3 a0 10 0) (fun r11 => Option.bind (am_al h3 0 r11 ((1 + w2) + 1)) (fun v12 => some (some (.int v12), h3))))))))))))) := (am_cl_of rfl hr).trans (am_blk [] 49 rfl)
set_option maxRecDepth 100000 in
set_option maxHeartbeats 2000000 in
theorem e_Mod_ceilingOf (a0 : Nat) (x1 : Int32) {fs : List Value} (h : am_H) (hr : h[a0]? = some (.inr (10, fs))) : am_cl m_Mod_ceilingOf [.ref a0, .int x1] h = am_bi (am_cl m_Mod_floorOf [.ref a0, .int x1] h) (fun w2 h1 => (bif decide (¬ w2 = x1) then am_bi (am_cl m_Mod_nextOf [.ref a0, .int x1] h1) (fun w4 h3 => some (some (.int w4), h3)) else some (some (.int x1), h1))) := (am_cl_of rfl hr).trans (am_blk [] 16 rfl)
set_option maxRecDepth 100000 in
set_option maxHeartbeats 2000000 in
theorem e_Mod_valid (a0 : Nat) (x1 : Int32) (x2 : Int32) {fs : List Value} (h : am_H) (hr : h[a0]? = some (.inr (10, fs))) : am_cl m_Mod_valid [.ref a0, .int x1, .int x2] h = am_bi (am_cl m_Mod_in [.int x1, .int 0, .int 2000000] h) (fun w2 h1 => (bif decide (w2 = 0) then some (some (.int (-2)), h1) else am_bi (am_cl m_Mod_in [.int x2, .int 0, .int 2] h1) (fun w4 h3 => (bif decide (¬ w4 = 0) then (bif decide (¬ x2 = 0) then (bif decide (¬ x2 = 1) then am_bi (am_cl m_Mod_nextOf [.ref a0, .int x1] h3) (fun w6 h5 => some (some (.int w6), h5)) else am_bi (am_cl m_Mod_ceilingOf [.ref a0, .int x1] h3) (fun w8 h7 => some (some (.int w8), h7))) else am_bi (am_cl m_Mod_floorOf [.ref a0, .int x1] h3) (fun w10 h9 => some (some (.int w10), h9))) else some (some (.int (-2)), h3))))) := (am_cl_of rfl hr).trans (am_blk [] 34 rfl)
set_option maxRecDepth 100000 in
set_option maxHeartbeats 2000000 in
theorem e_Mod_addLot (a0 : Nat) (x1 : Int32) (x2 : Int32) (x3 : Int32) {fs : List Value} (h : am_H) (hr : h[a0]? = some (.inr (10, fs))) : am_cl m_Mod_addLot [.ref a0, .int x1, .int x2, .int x3] h = am_bi (am_cl m_Mod_in [.int x1, .int 0, .int 4] h) (fun w2 h1 => (bif decide (¬ w2 = 0) then am_bi (am_cl m_Mod_in [.int x2, .int 0, .int 1000000] h1) (fun w4 h3 => (bif decide (w4 = 0) then some (some (.int (-2)), h3) else am_bi (am_cl m_Mod_in [.int x3, .int 0, .int 1000000] h3) (fun w6 h5 => (bif decide (¬ w6 = 0) then am_bi (am_cl m_Mod_lots [.ref a0] h5) (fun w8 h7 => (bif decide (¬ w8 = 20) then am_bv (am_cl m_Mod_record [.ref a0] h7) (fun h9 => am_bi (am_cl m_Mod_lots [.ref a0] h9) (fun w11 h10 => Option.bind (am_gr h10 a0 10 0) (fun r12 => Option.bind (am_as h10 0 r12 (18 + w11) x1) (fun h13 => Option.bind (am_gr h13 a0 10 0) (fun r14 => Option.bind (am_as h13 0 r14 (38 + w11) x2) (fun h15 => Option.bind (am_gr h15 a0 10 0) (fun r16 => Option.bind (am_as h15 0 r16 (58 + w11) x3) (fun h17 => Option.bind (am_gr h17 a0 10 0) (fun r18 => Option.bind (am_as h17 0 r18 (78 + w11) 0) (fun h19 => Option.bind (am_gr h19 a0 10 0) (fun r20 => Option.bind (am_al h19 0 r20 17) (fun v21 => Option.bind (am_as h19 0 r20 17 (v21 + 1)) (fun h22 => some (some (.int w11), h22)))))))))))))) else some (some (.int (-3)), h7))) else some (some (.int (-2)), h5))))) else some (some (.int (-1)), h1))) := (am_cl_of rfl hr).trans (am_blk [] 73 rfl)
set_option maxRecDepth 100000 in
set_option maxHeartbeats 2000000 in
theorem e_Mod_setReserve (a0 : Nat) (x1 : Int32) (x2 : Int32) {fs : List Value} (h : am_H) (hr : h[a0]? = some (.inr (10, fs))) : am_cl m_Mod_setReserve [.ref a0, .int x1, .int x2] h = am_bi (am_cl m_Mod_noLot [.ref a0, .int x1] h) (fun w2 h1 => (bif decide (w2 = 0) then am_bi (am_cl m_Mod_in [.int x2, .int 0, .int 1000000] h1) (fun w4 h3 => (bif decide (¬ w4 = 0) then am_bv (am_cl m_Mod_record [.ref a0] h3) (fun h5 => Option.bind (am_gr h5 a0 10 0) (fun r6 => Option.bind (am_al h5 0 r6 (58 + x1)) (fun v7 => Option.bind (am_gr h5 a0 10 0) (fun r8 => Option.bind (am_as h5 0 r8 (58 + x1) x2) (fun h9 => some (some (.int v7), h9)))))) else some (some (.int (-2)), h3))) else some (some (.int (-1)), h1))) := (am_cl_of rfl hr).trans (am_blk [] 36 rfl)
set_option maxRecDepth 100000 in
set_option maxHeartbeats 2000000 in
theorem e_Mod_awayLots (a0 : Nat) {fs : List Value} (h : am_H) (hr : h[a0]? = some (.inr (10, fs))) : am_cl m_Mod_awayLots [.ref a0] h = am_ev m_Mod_awayLots (4, [.ref a0, .int 0, .int 0], [], h) := (am_cl_of rfl hr).trans (am_blk [4] 26 rfl)
set_option maxRecDepth 100000 in
set_option maxHeartbeats 2000000 in
theorem b_Mod_awayLots_4 (a0 : Nat) (x1 : Int32) (x2 : Int32) (h : am_H) : am_ev m_Mod_awayLots (4, [.ref a0, .int x1, .int x2], [], h) = am_bi (am_cl m_Mod_lots [.ref a0] h) (fun w2 h1 => (bif decide (w2 ≤ x2) then some (some (.int x1), h1) else Option.bind (am_gr h1 a0 10 0) (fun r3 => Option.bind (am_al h1 0 r3 (78 + x2)) (fun v4 => am_ev m_Mod_awayLots (4, [.ref a0, .int (x1 + v4), .int (x2 + 1)], [], h1))))) := am_blk [4] 26 rfl
set_option maxRecDepth 100000 in
set_option maxHeartbeats 2000000 in
theorem e_Mod_withdrawLot (a0 : Nat) (x1 : Int32) (x2 : Int32) {fs : List Value} (h : am_H) (hr : h[a0]? = some (.inr (10, fs))) : am_cl m_Mod_withdrawLot [.ref a0, .int x1, .int x2] h = am_bi (am_cl m_Mod_noLot [.ref a0, .int x1] h) (fun w2 h1 => (bif decide (w2 = 0) then (bif decide (x2 = 0) then Option.bind (am_gr h1 a0 10 0) (fun r3 => Option.bind (am_al h1 0 r3 (78 + x1)) (fun v4 => (bif decide (¬ v4 = 0) then am_bv (am_cl m_Mod_record [.ref a0] h1) (fun h5 => Option.bind (am_gr h5 a0 10 0) (fun r6 => Option.bind (am_as h5 0 r6 (78 + x1) 0) (fun h7 => am_bi (am_cl m_Mod_awayLots [.ref a0] h7) (fun w9 h8 => some (some (.int w9), h8))))) else some (some (.int (-4)), h1)))) else Option.bind (am_gr h1 a0 10 0) (fun r10 => Option.bind (am_al h1 0 r10 (78 + x1)) (fun v11 => (bif decide (¬ v11 = 1) then am_bv (am_cl m_Mod_record [.ref a0] h1) (fun h12 => Option.bind (am_gr h12 a0 10 0) (fun r13 => Option.bind (am_as h12 0 r13 (78 + x1) 1) (fun h14 => am_bi (am_cl m_Mod_awayLots [.ref a0] h14) (fun w16 h15 => some (some (.int w16), h15))))) else some (some (.int (-4)), h1))))) else some (some (.int (-1)), h1))) := (am_cl_of rfl hr).trans (am_blk [] 39 rfl)
set_option maxRecDepth 100000 in
set_option maxHeartbeats 2000000 in
theorem e_Mod_addBidder (a0 : Nat) (x1 : Int32) {fs : List Value} (h : am_H) (hr : h[a0]? = some (.inr (10, fs))) : am_cl m_Mod_addBidder [.ref a0, .int x1] h = am_bi (am_cl m_Mod_in [.int x1, .int 0, .int 10000000] h) (fun w2 h1 => (bif decide (¬ w2 = 0) then am_bi (am_cl m_Mod_bidders [.ref a0] h1) (fun w4 h3 => (bif decide (¬ w4 = 8) then am_bv (am_cl m_Mod_record [.ref a0] h3) (fun h5 => Option.bind (am_gr h5 a0 10 0) (fun r6 => am_bi (am_cl m_Mod_bidders [.ref a0] h5) (fun w8 h7 => Option.bind (am_as h7 0 r6 (99 + w8) x1) (fun h9 => Option.bind (am_gr h9 a0 10 0) (fun r10 => Option.bind (am_al h9 0 r10 98) (fun v11 => Option.bind (am_as h9 0 r10 98 (v11 + 1)) (fun h12 => am_bi (am_cl m_Mod_bidders [.ref a0] h12) (fun w14 h13 => some (some (.int (w14 - 1)), h13))))))))) else some (some (.int (-3)), h3))) else some (some (.int (-2)), h1))) := (am_cl_of rfl hr).trans (am_blk [] 41 rfl)
set_option maxRecDepth 100000 in
set_option maxHeartbeats 2000000 in
theorem e_Mod_setLimit (a0 : Nat) (x1 : Int32) (x2 : Int32) {fs : List Value} (h : am_H) (hr : h[a0]? = some (.inr (10, fs))) : am_cl m_Mod_setLimit [.ref a0, .int x1, .int x2] h = am_bi (am_cl m_Mod_noBidder [.ref a0, .int x1] h) (fun w2 h1 => (bif decide (w2 = 0) then am_bi (am_cl m_Mod_in [.int x2, .int 0, .int 10000000] h1) (fun w4 h3 => (bif decide (¬ w4 = 0) then am_bv (am_cl m_Mod_record [.ref a0] h3) (fun h5 => Option.bind (am_gr h5 a0 10 0) (fun r6 => Option.bind (am_al h5 0 r6 (99 + x1)) (fun v7 => Option.bind (am_gr h5 a0 10 0) (fun r8 => Option.bind (am_as h5 0 r8 (99 + x1) x2) (fun h9 => some (some (.int v7), h9)))))) else some (some (.int (-2)), h3))) else some (some (.int (-1)), h1))) := (am_cl_of rfl hr).trans (am_blk [] 36 rfl)
set_option maxRecDepth 100000 in
set_option maxHeartbeats 2000000 in
theorem e_Mod_set (a0 : Nat) (x1 : Int32) (x2 : Int32) {fs : List Value} (h : am_H) (hr : h[a0]? = some (.inr (10, fs))) : am_cl m_Mod_set [.ref a0, .int x1, .int x2] h = am_bi (am_cl m_Mod_in [.int x1, .int 0, .int 3] h) (fun w2 h1 => (bif decide (¬ w2 = 0) then (bif decide (¬ x1 = 0) then (bif decide (¬ x1 = 3) then am_bi (am_cl m_Mod_in [.int x2, .int 0, .int 500] h1) (fun w4 h3 => (bif decide (¬ w4 = 0) then am_bv (am_cl m_Mod_record [.ref a0] h3) (fun h5 => Option.bind (am_gr h5 a0 10 0) (fun r6 => Option.bind (am_al h5 0 r6 (468 + x1)) (fun v7 => Option.bind (am_gr h5 a0 10 0) (fun r8 => Option.bind (am_as h5 0 r8 (468 + x1) x2) (fun h9 => some (some (.int v7), h9)))))) else some (some (.int (-2)), h3))) else am_bi (am_cl m_Mod_in [.int x2, .int 0, .int 1000] h1) (fun w11 h10 => (bif decide (¬ w11 = 0) then am_bv (am_cl m_Mod_record [.ref a0] h10) (fun h12 => Option.bind (am_gr h12 a0 10 0) (fun r13 => Option.bind (am_al h12 0 r13 (468 + x1)) (fun v14 => Option.bind (am_gr h12 a0 10 0) (fun r15 => Option.bind (am_as h12 0 r15 (468 + x1) x2) (fun h16 => some (some (.int v14), h16)))))) else some (some (.int (-2)), h10)))) else am_bi (am_cl m_Mod_in [.int x2, .int 0, .int 100000] h1) (fun w18 h17 => (bif decide (¬ w18 = 0) then am_bv (am_cl m_Mod_record [.ref a0] h17) (fun h19 => Option.bind (am_gr h19 a0 10 0) (fun r20 => Option.bind (am_al h19 0 r20 (468 + x1)) (fun v21 => Option.bind (am_gr h19 a0 10 0) (fun r22 => Option.bind (am_as h19 0 r22 (468 + x1) x2) (fun h23 => some (some (.int v21), h23)))))) else some (some (.int (-2)), h17)))) else some (some (.int (-1)), h1))) := (am_cl_of rfl hr).trans (am_blk [] 46 rfl)
set_option maxRecDepth 100000 in
set_option maxHeartbeats 2000000 in
theorem e_Mod_putBid (a0 : Nat) (x1 : Int32) (x2 : Int32) (x3 : Int32) (x4 : Int32) (x5 : Int32) {fs : List Value} (h : am_H) (hr : h[a0]? = some (.inr (10, fs))) : am_cl m_Mod_putBid [.ref a0, .int x1, .int x2, .int x3, .int x4, .int x5] h = am_bi (am_cl m_Mod_bids [.ref a0] h) (fun w2 h1 => Option.bind (am_gr h1 a0 10 0) (fun r3 => Option.bind (am_as h1 0 r3 (108 + w2) x2) (fun h4 => Option.bind (am_gr h4 a0 10 0) (fun r5 => Option.bind (am_as h4 0 r5 (168 + w2) x1) (fun h6 => Option.bind (am_gr h6 a0 10 0) (fun r7 => Option.bind (am_as h6 0 r7 (228 + w2) x3) (fun h8 => Option.bind (am_gr h8 a0 10 0) (fun r9 => Option.bind (am_as h8 0 r9 (288 + w2) x4) (fun h10 => Option.bind (am_gr h10 a0 10 0) (fun r11 => Option.bind (am_as h10 0 r11 (348 + w2) x5) (fun h12 => Option.bind (am_gr h12 a0 10 0) (fun r13 => Option.bind (am_as h12 0 r13 (408 + w2) 0) (fun h14 => Option.bind (am_gr h14 a0 10 0) (fun r15 => Option.bind (am_al h14 0 r15 107) (fun v16 => Option.bind (am_as h14 0 r15 107 (v16 + 1)) (fun h17 => some (none, h17))))))))))))))))) := (am_cl_of rfl hr).trans (am_blk [] 59 rfl)
set_option maxRecDepth 100000 in
set_option maxHeartbeats 2000000 in
theorem e_Mod_isMark (x0 : Int32) (h : am_H) : am_cl m_Mod_isMark [.int x0] h = am_bi (am_cl m_Mod_in [.int x0, .int 0, .int 100000] h) (fun w2 h1 => Option.bind (am_bz w2) (fun z3 => some (some (.int z3), h1))) := (am_cl_st rfl).trans (am_blk [] 10 rfl)
set_option maxRecDepth 100000 in
set_option maxHeartbeats 2000000 in
theorem e_Mod_bid (a0 : Nat) (x1 : Int32) (x2 : Int32) (x3 : Int32) (x4 : Int32) (x5 : Int32) {fs : List Value} (h : am_H) (hr : h[a0]? = some (.inr (10, fs))) : am_cl m_Mod_bid [.ref a0, .int x1, .int x2, .int x3, .int x4, .int x5] h = am_bi (am_cl m_Mod_noBidder [.ref a0, .int x1] h) (fun w2 h1 => (bif decide (¬ w2 = 0) then some (some (.int (-1)), h1) else am_bi (am_cl m_Mod_noLot [.ref a0, .int x2] h1) (fun w4 h3 => (bif decide (w4 = 0) then am_bi (am_cl m_Mod_in [.int x3, .int 1, .int 1000000] h3) (fun w6 h5 => (bif decide (w6 = 0) then some (some (.int (-2)), h5) else am_bi (am_cl m_Mod_isMark [.int x4] h5) (fun w8 h7 => (bif decide (w8 = 0) then some (some (.int (-2)), h7) else am_bi (am_cl m_Mod_in [.int x5, .int 0, .int 1000000] h7) (fun w10 h9 => (bif decide (¬ w10 = 0) then am_bi (am_cl m_Mod_bids [.ref a0] h9) (fun w12 h11 => (bif decide (¬ w12 = 60) then am_bv (am_cl m_Mod_record [.ref a0] h11) (fun h13 => am_bv (am_cl m_Mod_putBid [.ref a0, .int x1, .int x2, .int x3, .int x4, .int x5] h13) (fun h14 => am_bi (am_cl m_Mod_bids [.ref a0] h14) (fun w16 h15 => some (some (.int (w16 - 1)), h15)))) else some (some (.int (-3)), h11))) else some (some (.int (-2)), h9))))))) else some (some (.int (-1)), h3))))) := (am_cl_of rfl hr).trans (am_blk [] 50 rfl)
set_option maxRecDepth 100000 in
set_option maxHeartbeats 2000000 in
theorem e_Mod_withdrawBid (a0 : Nat) (x1 : Int32) {fs : List Value} (h : am_H) (hr : h[a0]? = some (.inr (10, fs))) : am_cl m_Mod_withdrawBid [.ref a0, .int x1] h = am_bi (am_cl m_Mod_noBid [.ref a0, .int x1] h) (fun w2 h1 => (bif decide (w2 = 0) then Option.bind (am_gr h1 a0 10 0) (fun r3 => Option.bind (am_al h1 0 r3 (408 + x1)) (fun v4 => (bif decide (¬ v4 = 1) then am_bv (am_cl m_Mod_record [.ref a0] h1) (fun h5 => Option.bind (am_gr h5 a0 10 0) (fun r6 => Option.bind (am_as h5 0 r6 (408 + x1) 1) (fun h7 => Option.bind (am_gr h7 a0 10 0) (fun r8 => Option.bind (am_al h7 0 r8 (108 + x1)) (fun v9 => some (some (.int v9), h7)))))) else some (some (.int (-4)), h1)))) else some (some (.int (-1)), h1))) := (am_cl_of rfl hr).trans (am_blk [] 37 rfl)
set_option maxRecDepth 100000 in
set_option maxHeartbeats 2000000 in
theorem e_Mod_type (a0 : Nat) (x1 : Int32) {fs : List Value} (h : am_H) (hr : h[a0]? = some (.inr (10, fs))) : am_cl m_Mod_type [.ref a0, .int x1] h = Option.bind (am_gi h a0 10 3) (fun i1 => (bif decide (¬ i1 = 80) then Option.bind (am_gr h a0 10 4) (fun r2 => Option.bind (am_gi h a0 10 3) (fun i3 => Option.bind (am_as h 1 r2 i3 (vp_nar .char x1)) (fun h4 => Option.bind (am_gi h4 a0 10 3) (fun i5 => Option.bind (am_pf h4 a0 10 3 (.int (i5 + 1))) (fun h6 => Option.bind (am_gi h6 a0 10 3) (fun i7 => some (some (.int i7), h6))))))) else some (some (.int (-3)), h))) := (am_cl_of rfl hr).trans (am_blk [] 26 rfl)
set_option maxRecDepth 100000 in
set_option maxHeartbeats 2000000 in
theorem e_Mod_clearText (a0 : Nat) {fs : List Value} (h : am_H) (hr : h[a0]? = some (.inr (10, fs))) : am_cl m_Mod_clearText [.ref a0] h = Option.bind (am_gi h a0 10 3) (fun i1 => Option.bind (am_pf h a0 10 3 (.int 0)) (fun h2 => some (some (.int i1), h2))) := (am_cl_of rfl hr).trans (am_blk [] 13 rfl)
set_option maxRecDepth 100000 in
set_option maxHeartbeats 2000000 in
theorem e_Mod_isAt (a0 : Nat) (x1 : Int32) (x2 : Int32) {fs : List Value} (h : am_H) (hr : h[a0]? = some (.inr (10, fs))) : am_cl m_Mod_isAt [.ref a0, .int x1, .int x2] h = Option.bind (am_gi h a0 10 5) (fun i1 => Option.bind (am_gi h a0 10 3) (fun i2 => (bif decide (i2 ≤ i1) then some (some (.int 0), h) else Option.bind (am_gr h a0 10 4) (fun r3 => Option.bind (am_gi h a0 10 5) (fun i4 => Option.bind (am_al h 1 r3 i4) (fun v5 => (bif decide (v5 < x1) then some (some (.int 0), h) else Option.bind (am_gr h a0 10 4) (fun r6 => Option.bind (am_gi h a0 10 5) (fun i7 => Option.bind (am_al h 1 r6 i7) (fun v8 => (bif decide (x2 < v8) then some (some (.int 0), h) else some (some (.int 1), h)))))))))))) := (am_cl_of rfl hr).trans (am_blk [] 28 rfl)
set_option maxRecDepth 100000 in
set_option maxHeartbeats 2000000 in
theorem e_Mod_number (a0 : Nat) (x1 : Int32) (x2 : Int32) (x3 : Int32) {fs : List Value} (h : am_H) (hr : h[a0]? = some (.inr (10, fs))) : am_cl m_Mod_number [.ref a0, .int x1, .int x2, .int x3] h = Option.bind (am_gi h a0 10 5) (fun i1 => Option.bind (am_gi h a0 10 6) (fun i2 => (bif decide (i2 = 0) then am_ev m_Mod_number (44, [.ref a0, .int x1, .int x2, .int x3, .int i1, .int 0], [], h) else (bif decide (x2 = 0) then am_ev m_Mod_number (44, [.ref a0, .int x1, .int x2, .int x3, .int i1, .int 0], [], h) else am_bi (am_cl m_Mod_isAt [.ref a0, .int 48, .int 48] h) (fun w4 h3 => (bif decide (w4 = 0) then am_ev m_Mod_number (44, [.ref a0, .int x1, .int x2, .int x3, .int i1, .int 0], [], h3) else Option.bind (am_gi h3 a0 10 5) (fun i5 => Option.bind (am_pf h3 a0 10 5 (.int (i5 + 1))) (fun h6 => am_ev m_Mod_number (120, [.ref a0, .int x1, .int x2, .int x3, .int i1, .int 0], [], h6))))))))) := (am_cl_of rfl hr).trans (am_blk [44, 120] 97 rfl)
set_option maxRecDepth 100000 in
set_option maxHeartbeats 2000000 in
theorem b_Mod_number_44 (a0 : Nat) (x1 : Int32) (x2 : Int32) (x3 : Int32) (x4 : Int32) (x5 : Int32) (h : am_H) : am_ev m_Mod_number (44, [.ref a0, .int x1, .int x2, .int x3, .int x4, .int x5], [], h) = Option.bind (am_gi h a0 10 6) (fun i1 => (bif decide (i1 = 0) then am_ev m_Mod_number (120, [.ref a0, .int x1, .int x2, .int x3, .int x4, .int x5], [], h) else Option.bind (am_gi h a0 10 5) (fun i2 => (bif decide ((x4 + x1) ≤ i2) then am_ev m_Mod_number (120, [.ref a0, .int x1, .int x2, .int x3, .int x4, .int x5], [], h) else Option.bind (am_gi h a0 10 5) (fun i3 => (bif decide (¬ i3 = x4) then am_bi (am_cl m_Mod_isAt [.ref a0, .int 48, .int 57] h) (fun w5 h4 => (bif decide (w5 = 0) then am_ev m_Mod_number (120, [.ref a0, .int x1, .int x2, .int x3, .int x4, .int x5], [], h4) else Option.bind (am_gr h4 a0 10 4) (fun r6 => Option.bind (am_gi h4 a0 10 5) (fun i7 => Option.bind (am_al h4 1 r6 i7) (fun v8 => Option.bind (am_gi h4 a0 10 5) (fun i9 => Option.bind (am_pf h4 a0 10 5 (.int (i9 + 1))) (fun h10 => am_ev m_Mod_number (44, [.ref a0, .int x1, .int x2, .int x3, .int x4, .int (((10 * x5) + v8) - 48)], [], h10)))))))) else am_bi (am_cl m_Mod_isAt [.ref a0, .int 49, .int 57] h) (fun w12 h11 => (bif decide (w12 = 0) then am_ev m_Mod_number (120, [.ref a0, .int x1, .int x2, .int x3, .int x4, .int x5], [], h11) else Option.bind (am_gr h11 a0 10 4) (fun r13 => Option.bind (am_gi h11 a0 10 5) (fun i14 => Option.bind (am_al h11 1 r13 i14) (fun v15 => Option.bind (am_gi h11 a0 10 5) (fun i16 => Option.bind (am_pf h11 a0 10 5 (.int (i16 + 1))) (fun h17 => am_ev m_Mod_number (44, [.ref a0, .int x1, .int x2, .int x3, .int x4, .int (((10 * x5) + v15) - 48)], [], h17)))))))))))))) := am_blk [44, 120] 97 rfl
set_option maxRecDepth 100000 in
set_option maxHeartbeats 2000000 in
theorem b_Mod_number_120 (a0 : Nat) (x1 : Int32) (x2 : Int32) (x3 : Int32) (x4 : Int32) (x5 : Int32) (h : am_H) : am_ev m_Mod_number (120, [.ref a0, .int x1, .int x2, .int x3, .int x4, .int x5], [], h) = Option.bind (am_gi h a0 10 6) (fun i1 => (bif decide (i1 = 0) then Option.bind (am_pf h a0 10 6 (.int 0)) (fun h2 => Option.bind (am_gi h2 a0 10 6) (fun i3 => (bif decide (i3 = 0) then some (some (.int x5), h2) else (bif decide (x5 ≤ x3) then some (some (.int x5), h2) else Option.bind (am_pf h2 a0 10 6 (.int 0)) (fun h4 => Option.bind (am_pf h4 a0 10 5 (.int x4)) (fun h5 => some (some (.int x5), h5))))))) else Option.bind (am_gi h a0 10 5) (fun i6 => (bif decide (i6 ≤ x4) then Option.bind (am_pf h a0 10 6 (.int 0)) (fun h7 => Option.bind (am_gi h7 a0 10 6) (fun i8 => (bif decide (i8 = 0) then some (some (.int x5), h7) else (bif decide (x5 ≤ x3) then some (some (.int x5), h7) else Option.bind (am_pf h7 a0 10 6 (.int 0)) (fun h9 => Option.bind (am_pf h9 a0 10 5 (.int x4)) (fun h10 => some (some (.int x5), h10))))))) else am_bi (am_cl m_Mod_isAt [.ref a0, .int 48, .int 57] h) (fun w12 h11 => (bif decide (¬ w12 = 0) then Option.bind (am_pf h11 a0 10 6 (.int 0)) (fun h13 => Option.bind (am_gi h13 a0 10 6) (fun i14 => (bif decide (i14 = 0) then some (some (.int x5), h13) else (bif decide (x5 ≤ x3) then some (some (.int x5), h13) else Option.bind (am_pf h13 a0 10 6 (.int 0)) (fun h15 => Option.bind (am_pf h15 a0 10 5 (.int x4)) (fun h16 => some (some (.int x5), h16))))))) else Option.bind (am_pf h11 a0 10 6 (.int 1)) (fun h17 => Option.bind (am_gi h17 a0 10 6) (fun i18 => (bif decide (i18 = 0) then some (some (.int x5), h17) else (bif decide (x5 ≤ x3) then some (some (.int x5), h17) else Option.bind (am_pf h17 a0 10 6 (.int 0)) (fun h19 => Option.bind (am_pf h19 a0 10 5 (.int x4)) (fun h20 => some (some (.int x5), h20))))))))))))) := am_blk [44, 120] 97 rfl
set_option maxRecDepth 100000 in
set_option maxHeartbeats 2000000 in
theorem e_Mod_sign (a0 : Nat) (x1 : Int32) {fs : List Value} (h : am_H) (hr : h[a0]? = some (.inr (10, fs))) : am_cl m_Mod_sign [.ref a0, .int x1] h = Option.bind (am_gi h a0 10 6) (fun i1 => (bif decide (i1 = 0) then Option.bind (am_pf h a0 10 6 (.int 0)) (fun h2 => some (none, h2)) else am_bi (am_cl m_Mod_isAt [.ref a0, .int x1, .int x1] h) (fun w4 h3 => (bif decide (w4 = 0) then Option.bind (am_pf h3 a0 10 6 (.int 0)) (fun h5 => some (none, h5)) else Option.bind (am_gi h3 a0 10 5) (fun i6 => Option.bind (am_pf h3 a0 10 5 (.int (i6 + 1))) (fun h7 => some (none, h7))))))) := (am_cl_of rfl hr).trans (am_blk [] 24 rfl)
set_option maxRecDepth 100000 in
set_option maxHeartbeats 2000000 in
theorem e_Mod_readAlternative (a0 : Nat) (x1 : Int32) {fs : List Value} (h : am_H) (hr : h[a0]? = some (.inr (10, fs))) : am_cl m_Mod_readAlternative [.ref a0, .int x1] h = am_bi (am_cl m_Mod_lots [.ref a0] h) (fun w2 h1 => am_bi (am_cl m_Mod_number [.ref a0, .int 2, .int 1, .int (w2 - 1)] h1) (fun w4 h3 => am_bv (am_cl m_Mod_sign [.ref a0, .int 61] h3) (fun h5 => am_bi (am_cl m_Mod_number [.ref a0, .int 7, .int 0, .int 1000000] h5) (fun w7 h6 => Option.bind (am_gi h6 a0 10 6) (fun i8 => (bif decide (i8 = 0) then some (none, h6) else Option.bind (am_gr h6 a0 10 8) (fun r9 => Option.bind (am_gi h6 a0 10 7) (fun i10 => Option.bind (am_as h6 0 r9 i10 w4) (fun h11 => Option.bind (am_gr h11 a0 10 9) (fun r12 => Option.bind (am_gi h11 a0 10 7) (fun i13 => Option.bind (am_as h11 0 r12 i13 w7) (fun h14 => Option.bind (am_gr h14 a0 10 10) (fun r15 => Option.bind (am_gi h14 a0 10 7) (fun i16 => Option.bind (am_as h14 0 r15 i16 x1) (fun h17 => Option.bind (am_gi h17 a0 10 7) (fun i18 => Option.bind (am_pf h17 a0 10 7 (.int (i18 + 1))) (fun h19 => some (none, h19)))))))))))))))))) := (am_cl_of rfl hr).trans (am_blk [] 51 rfl)
set_option maxRecDepth 100000 in
set_option maxHeartbeats 2000000 in
theorem e_Mod_readLetter (a0 : Nat) {fs : List Value} (h : am_H) (hr : h[a0]? = some (.inr (10, fs))) : am_cl m_Mod_readLetter [.ref a0] h = Option.bind (am_pf h a0 10 5 (.int 0)) (fun h1 => Option.bind (am_pf h1 a0 10 6 (.int 1)) (fun h2 => Option.bind (am_pf h2 a0 10 7 (.int 0)) (fun h3 => am_bv (am_cl m_Mod_readAlternative [.ref a0, .int 0] h3) (fun h4 => am_ev m_Mod_readLetter (22, [.ref a0, .int 0], [], h4))))) := (am_cl_of rfl hr).trans (am_blk [22, 51, 88] 67 rfl)
set_option maxRecDepth 100000 in
set_option maxHeartbeats 2000000 in
theorem b_Mod_readLetter_22 (a0 : Nat) (x1 : Int32) (h : am_H) : am_ev m_Mod_readLetter (22, [.ref a0, .int x1], [], h) = Option.bind (am_gi h a0 10 6) (fun i1 => (bif decide (i1 = 0) then am_ev m_Mod_readLetter (88, [.ref a0, .int x1], [], h) else am_bi (am_cl m_Mod_isAt [.ref a0, .int 47, .int 47] h) (fun w3 h2 => (bif decide (¬ w3 = 0) then am_ev m_Mod_readLetter (51, [.ref a0, .int x1], [], h2) else am_bi (am_cl m_Mod_isAt [.ref a0, .int 44, .int 44] h2) (fun w5 h4 => (bif decide (w5 = 0) then am_ev m_Mod_readLetter (88, [.ref a0, .int x1], [], h4) else am_ev m_Mod_readLetter (51, [.ref a0, .int x1], [], h4))))))) := am_blk [22, 51, 88] 67 rfl
set_option maxRecDepth 100000 in
set_option maxHeartbeats 2000000 in
theorem b_Mod_readLetter_51 (a0 : Nat) (x1 : Int32) (h : am_H) : am_ev m_Mod_readLetter (51, [.ref a0, .int x1], [], h) = am_bi (am_cl m_Mod_isAt [.ref a0, .int 44, .int 44] h) (fun w2 h1 => (bif decide (w2 = 0) then Option.bind (am_gi h1 a0 10 5) (fun i3 => Option.bind (am_pf h1 a0 10 5 (.int (i3 + 1))) (fun h4 => am_bv (am_cl m_Mod_readAlternative [.ref a0, .int (x1 + 0)] h4) (fun h5 => am_ev m_Mod_readLetter (22, [.ref a0, .int (x1 + 0)], [], h5)))) else Option.bind (am_gi h1 a0 10 5) (fun i6 => Option.bind (am_pf h1 a0 10 5 (.int (i6 + 1))) (fun h7 => am_bv (am_cl m_Mod_readAlternative [.ref a0, .int (x1 + 1)] h7) (fun h8 => am_ev m_Mod_readLetter (22, [.ref a0, .int (x1 + 1)], [], h8)))))) := am_blk [22, 51, 88] 67 rfl
set_option maxRecDepth 100000 in
set_option maxHeartbeats 2000000 in
theorem b_Mod_readLetter_88 (a0 : Nat) (x1 : Int32) (h : am_H) : am_ev m_Mod_readLetter (88, [.ref a0, .int x1], [], h) = Option.bind (am_gi h a0 10 6) (fun i1 => (bif decide (i1 = 0) then Option.bind (am_pf h a0 10 6 (.int 0)) (fun h2 => some (none, h2)) else Option.bind (am_gi h a0 10 5) (fun i3 => Option.bind (am_gi h a0 10 3) (fun i4 => (bif decide (¬ i3 = i4) then Option.bind (am_pf h a0 10 6 (.int 0)) (fun h5 => some (none, h5)) else Option.bind (am_pf h a0 10 6 (.int 1)) (fun h6 => some (none, h6))))))) := am_blk [22, 51, 88] 67 rfl
set_option maxRecDepth 100000 in
set_option maxHeartbeats 2000000 in
theorem e_Mod_hasOthers (a0 : Nat) (x1 : Int32) {fs : List Value} (h : am_H) (hr : h[a0]? = some (.inr (10, fs))) : am_cl m_Mod_hasOthers [.ref a0, .int x1] h = am_ev m_Mod_hasOthers (4, [.ref a0, .int x1, .int 0, .int 0], [], h) := (am_cl_of rfl hr).trans (am_blk [4] 35 rfl)
set_option maxRecDepth 100000 in
set_option maxHeartbeats 2000000 in
theorem b_Mod_hasOthers_4 (a0 : Nat) (x1 : Int32) (x2 : Int32) (x3 : Int32) (h : am_H) : am_ev m_Mod_hasOthers (4, [.ref a0, .int x1, .int x2, .int x3], [], h) = Option.bind (am_gi h a0 10 7) (fun i1 => (bif decide (i1 ≤ x3) then Option.bind (am_bz x2) (fun z2 => some (some (.int z2), h)) else (bif decide (¬ x2 = 0) then am_ev m_Mod_hasOthers (4, [.ref a0, .int x1, .int 1, .int (x3 + 1)], [], h) else (bif decide (x3 = x1) then am_ev m_Mod_hasOthers (4, [.ref a0, .int x1, .int 0, .int (x3 + 1)], [], h) else Option.bind (am_gr h a0 10 10) (fun r3 => Option.bind (am_al h 0 r3 x3) (fun v4 => Option.bind (am_gr h a0 10 10) (fun r5 => Option.bind (am_al h 0 r5 x1) (fun v6 => (bif decide (¬ v4 = v6) then am_ev m_Mod_hasOthers (4, [.ref a0, .int x1, .int 0, .int (x3 + 1)], [], h) else am_ev m_Mod_hasOthers (4, [.ref a0, .int x1, .int 1, .int (x3 + 1)], [], h)))))))))) := am_blk [4] 35 rfl
end
section
set_option maxRecDepth 100000 in
set_option maxHeartbeats 2000000 in
theorem e_Mod_letter (a0 : Nat) (x1 : Int32) (x2 : Int32) {fs : List Value} (h : am_H) (hr : h[a0]? = some (.inr (10, fs))) : am_cl m_Mod_letter [.ref a0, .int x1, .int x2] h = am_bi (am_cl m_Mod_noBidder [.ref a0, .int x1] h) (fun w2 h1 => (bif decide (w2 = 0) then am_bi (am_cl m_Mod_isMark [.int x2] h1) (fun w4 h3 => (bif decide (¬ w4 = 0) then am_bv (am_cl m_Mod_readLetter [.ref a0] h3) (fun h5 => Option.bind (am_gi h5 a0 10 6) (fun i6 => (bif decide (¬ i6 = 0) then am_bi (am_cl m_Mod_bids [.ref a0] h5) (fun w8 h7 => Option.bind (am_gi h7 a0 10 7) (fun i9 => (bif decide ((w8 + i9) ≤ 60) then am_bv (am_cl m_Mod_record [.ref a0] h7) (fun h10 => am_ev m_Mod_letter (65, [.ref a0, .int x1, .int x2, .int 0, .int 0, .float 0], [], h10)) else some (some (.int (-3)), h7)))) else Option.bind (am_gi h5 a0 10 5) (fun i11 => some (some (.int ((-100) - i11)), h5))))) else some (some (.int (-2)), h3))) else some (some (.int (-1)), h1))) := (am_cl_of rfl hr).trans (am_blk [65, 118, 160, 164] 125 rfl)
set_option maxRecDepth 100000 in
set_option maxHeartbeats 2000000 in
theorem b_Mod_letter_65 (a0 : Nat) (x1 : Int32) (x2 : Int32) (x3 : Int32) (x4 : Int32) (h : am_H) : am_ev m_Mod_letter (65, [.ref a0, .int x1, .int x2, .int x3, .int x4, .float 0], [], h) = am_bi (am_cl m_Mod_bids [.ref a0] h) (fun w2 h1 => (bif decide (w2 ≤ x4) then am_ev m_Mod_letter (118, [.ref a0, .int x1, .int x2, .int x3, .int 0, .float 0], [], h1) else Option.bind (am_gr h1 a0 10 0) (fun r3 => Option.bind (am_al h1 0 r3 (168 + x4)) (fun v4 => (bif decide (¬ v4 = x1) then am_ev m_Mod_letter (65, [.ref a0, .int x1, .int x2, .int x3, .int (x4 + 1), .float 0], [], h1) else Option.bind (am_gr h1 a0 10 0) (fun r5 => Option.bind (am_al h1 0 r5 (348 + x4)) (fun v6 => am_bi (am_cl m_Mod_greater [.int x3, .int v6] h1) (fun w8 h7 => am_ev m_Mod_letter (65, [.ref a0, .int x1, .int x2, .int w8, .int (x4 + 1), .float 0], [], h7))))))))) := am_blk [65, 118, 160, 164] 125 rfl
set_option maxRecDepth 100000 in
set_option maxHeartbeats 2000000 in
theorem b_Mod_letter_118 (a0 : Nat) (x1 : Int32) (x2 : Int32) (x3 : Int32) (x4 : Int32) (u5 : Value) (h : am_H) : am_ev m_Mod_letter (118, [.ref a0, .int x1, .int x2, .int x3, .int x4, u5], [], h) = Option.bind (am_gi h a0 10 7) (fun i1 => (bif decide (i1 ≤ x4) then Option.bind (am_gi h a0 10 7) (fun i2 => some (some (.int i2), h)) else am_bi (am_cl m_Mod_hasOthers [.ref a0, .int x4] h) (fun w4 h3 => (bif decide (w4 = 0) then am_ev m_Mod_letter (164, [.ref a0, .int x1, .int x2, .int x3, .int x4, u5], [], h3) else (bif decide (x4 = 0) then am_ev m_Mod_letter (160, [.ref a0, .int x1, .int x2, .int x3, .int x4, u5], [], h3) else Option.bind (am_gr h3 a0 10 10) (fun r5 => Option.bind (am_al h3 0 r5 (x4 - 1)) (fun v6 => Option.bind (am_gr h3 a0 10 10) (fun r7 => Option.bind (am_al h3 0 r7 x4) (fun v8 => (bif decide (v6 = v8) then am_ev m_Mod_letter (164, [.ref a0, .int x1, .int x2, .int x3, .int x4, u5], [], h3) else am_ev m_Mod_letter (160, [.ref a0, .int x1, .int x2, .int x3, .int x4, u5], [], h3))))))))))) := am_blk [65, 118, 160, 164] 125 rfl
set_option maxRecDepth 100000 in
set_option maxHeartbeats 2000000 in
theorem b_Mod_letter_160 (a0 : Nat) (x1 : Int32) (x2 : Int32) (x3 : Int32) (x4 : Int32) (u5 : Value) (h : am_H) : am_ev m_Mod_letter (160, [.ref a0, .int x1, .int x2, .int x3, .int x4, u5], [], h) = Option.bind (am_gr h a0 10 8) (fun r9 => Option.bind (am_al h 0 r9 x4) (fun v10 => Option.bind (am_gr h a0 10 9) (fun r11 => Option.bind (am_al h 0 r11 x4) (fun v12 => am_bi (am_cl m_Mod_hasOthers [.ref a0, .int x4] h) (fun w14 h13 => (bif decide (w14 = 0) then am_bv (am_cl m_Mod_putBid [.ref a0, .int x1, .int v10, .int v12, .int x2, .int 0] h13) (fun h15 => am_ev m_Mod_letter (118, [.ref a0, .int x1, .int x2, .int (x3 + 1), .int (x4 + 1), .int 1], [], h15)) else am_bv (am_cl m_Mod_putBid [.ref a0, .int x1, .int v10, .int v12, .int x2, .int (x3 + 1)] h13) (fun h16 => am_ev m_Mod_letter (118, [.ref a0, .int x1, .int x2, .int (x3 + 1), .int (x4 + 1), .int 1], [], h16)))))))) := am_blk [65, 118, 160, 164] 125 rfl
set_option maxRecDepth 100000 in
set_option maxHeartbeats 2000000 in
theorem b_Mod_letter_164 (a0 : Nat) (x1 : Int32) (x2 : Int32) (x3 : Int32) (x4 : Int32) (u5 : Value) (h : am_H) : am_ev m_Mod_letter (164, [.ref a0, .int x1, .int x2, .int x3, .int x4, u5], [], h) = Option.bind (am_gr h a0 10 8) (fun r1 => Option.bind (am_al h 0 r1 x4) (fun v2 => Option.bind (am_gr h a0 10 9) (fun r3 => Option.bind (am_al h 0 r3 x4) (fun v4 => am_bi (am_cl m_Mod_hasOthers [.ref a0, .int x4] h) (fun w6 h5 => (bif decide (w6 = 0) then am_bv (am_cl m_Mod_putBid [.ref a0, .int x1, .int v2, .int v4, .int x2, .int 0] h5) (fun h7 => am_ev m_Mod_letter (118, [.ref a0, .int x1, .int x2, .int (x3 + 0), .int (x4 + 1), .int 0], [], h7)) else am_bv (am_cl m_Mod_putBid [.ref a0, .int x1, .int v2, .int v4, .int x2, .int (x3 + 0)] h5) (fun h8 => am_ev m_Mod_letter (118, [.ref a0, .int x1, .int x2, .int (x3 + 0), .int (x4 + 1), .int 0], [], h8)))))))) := am_blk [65, 118, 160, 164] 125 rfl
set_option maxRecDepth 100000 in
set_option maxHeartbeats 2000000 in
theorem e_Mod_worthOf (a0 : Nat) (x1 : Int32) {fs : List Value} (h : am_H) (hr : h[a0]? = some (.inr (10, fs))) : am_cl m_Mod_worthOf [.ref a0, .int x1] h = Option.bind (am_gr h a0 10 0) (fun r1 => Option.bind (am_al h 0 r1 (108 + x1)) (fun v2 => Option.bind (am_gr h a0 10 0) (fun r3 => Option.bind (am_al h 0 r3 (228 + x1)) (fun v4 => Option.bind (am_gr h a0 10 11) (fun r5 => Option.bind (am_gr h a0 10 0) (fun r6 => Option.bind (am_al h 0 r6 (168 + x1)) (fun v7 => Option.bind (am_al h 0 r5 ((8 * v2) + v7)) (fun v8 => am_bi (am_cl m_Mod_lesser [.int v4, .int v8] h) (fun w10 h9 => am_bi (am_cl m_Mod_floorOf [.ref a0, .int w10] h9) (fun w12 h11 => some (some (.int w12), h11))))))))))) := (am_cl_of rfl hr).trans (am_blk [] 35 rfl)
set_option maxRecDepth 100000 in
set_option maxHeartbeats 2000000 in
theorem e_Mod_isLate (a0 : Nat) (x1 : Int32) {fs : List Value} (h : am_H) (hr : h[a0]? = some (.inr (10, fs))) : am_cl m_Mod_isLate [.ref a0, .int x1] h = Option.bind (am_gr h a0 10 0) (fun r1 => Option.bind (am_al h 0 r1 (288 + x1)) (fun v2 => Option.bind (am_gr h a0 10 0) (fun r3 => Option.bind (am_al h 0 r3 468) (fun v4 => (bif decide (v2 ≤ v4) then some (some (.int 0), h) else some (some (.int 1), h)))))) := (am_cl_of rfl hr).trans (am_blk [] 20 rfl)
set_option maxRecDepth 100000 in
set_option maxHeartbeats 2000000 in
theorem e_Mod_isServed (a0 : Nat) (x1 : Int32) {fs : List Value} (h : am_H) (hr : h[a0]? = some (.inr (10, fs))) : am_cl m_Mod_isServed [.ref a0, .int x1] h = am_ev m_Mod_isServed (4, [.ref a0, .int x1, .int 0, .int 0, .float 0], [], h) := (am_cl_of rfl hr).trans (am_blk [4] 67 rfl)
set_option maxRecDepth 100000 in
set_option maxHeartbeats 2000000 in
theorem b_Mod_isServed_4 (a0 : Nat) (x1 : Int32) (x2 : Int32) (x3 : Int32) (u4 : Value) (h : am_H) : am_ev m_Mod_isServed (4, [.ref a0, .int x1, .int x2, .int x3, u4], [], h) = Option.bind (am_gr h a0 10 0) (fun r1 => Option.bind (am_al h 0 r1 (108 + x1)) (fun v2 => (bif decide (v2 ≤ x3) then Option.bind (am_bz x2) (fun z3 => some (some (.int z3), h)) else Option.bind (am_gr h a0 10 0) (fun r4 => Option.bind (am_al h 0 r4 (348 + x1)) (fun v5 => (bif decide (v5 ≤ 0) then Option.bind (am_bz x2) (fun z6 => some (some (.int z6), h)) else Option.bind (am_gr h a0 10 16) (fun r7 => Option.bind (am_al h 0 r7 x3) (fun v8 => Option.bind (am_gr h a0 10 0) (fun r9 => Option.bind (am_al h 0 r9 (168 + x1)) (fun v10 => (bif decide (¬ v8 = v10) then (bif decide (¬ x2 = 0) then am_ev m_Mod_isServed (4, [.ref a0, .int x1, .int 1, .int (x3 + 1), .int 0], [], h) else am_ev m_Mod_isServed (4, [.ref a0, .int x1, .int 0, .int (x3 + 1), .int 0], [], h)) else (bif decide (¬ x2 = 0) then am_ev m_Mod_isServed (4, [.ref a0, .int x1, .int 1, .int (x3 + 1), .int 1], [], h) else Option.bind (am_gr h a0 10 0) (fun r17 => Option.bind (am_gr h a0 10 13) (fun r18 => Option.bind (am_al h 0 r18 x3) (fun v19 => Option.bind (am_al h 0 r17 (348 + v19)) (fun v20 => Option.bind (am_gr h a0 10 0) (fun r21 => Option.bind (am_al h 0 r21 (348 + x1)) (fun v22 => (bif decide (¬ v20 = v22) then am_ev m_Mod_isServed (4, [.ref a0, .int x1, .int 0, .int (x3 + 1), .int 1], [], h) else am_ev m_Mod_isServed (4, [.ref a0, .int x1, .int 1, .int (x3 + 1), .int 1], [], h)))))))))))))))))))) := am_blk [4] 67 rfl
set_option maxRecDepth 100000 in
set_option maxHeartbeats 2000000 in
theorem e_Mod_counts (a0 : Nat) (x1 : Int32) {fs : List Value} (h : am_H) (hr : h[a0]? = some (.inr (10, fs))) : am_cl m_Mod_counts [.ref a0, .int x1] h = Option.bind (am_gr h a0 10 0) (fun r1 => Option.bind (am_al h 0 r1 (408 + x1)) (fun v2 => (bif decide (¬ v2 = 0) then some (some (.int 0), h) else am_bi (am_cl m_Mod_isLate [.ref a0, .int x1] h) (fun w4 h3 => (bif decide (¬ w4 = 0) then some (some (.int 0), h3) else am_bi (am_cl m_Mod_isServed [.ref a0, .int x1] h3) (fun w6 h5 => (bif decide (¬ w6 = 0) then some (some (.int 0), h5) else am_bi (am_cl m_Mod_worthOf [.ref a0, .int x1] h5) (fun w8 h7 => Option.bind (am_gr h7 a0 10 0) (fun r9 => Option.bind (am_gr h7 a0 10 0) (fun r10 => Option.bind (am_al h7 0 r10 (108 + x1)) (fun v11 => Option.bind (am_al h7 0 r9 (38 + v11)) (fun v12 => am_bi (am_cl m_Mod_ceilingOf [.ref a0, .int v12] h7) (fun w14 h13 => (bif decide (w8 < w14) then some (some (.int 0), h13) else some (some (.int 1), h13))))))))))))))) := (am_cl_of rfl hr).trans (am_blk [] 41 rfl)
set_option maxRecDepth 100000 in
set_option maxHeartbeats 2000000 in
theorem e_Mod_isAhead (a0 : Nat) (x1 : Int32) (x2 : Int32) {fs : List Value} (h : am_H) (hr : h[a0]? = some (.inr (10, fs))) : am_cl m_Mod_isAhead [.ref a0, .int x1, .int x2] h = am_bi (am_cl m_Mod_worthOf [.ref a0, .int x1] h) (fun w2 h1 => am_bi (am_cl m_Mod_worthOf [.ref a0, .int x2] h1) (fun w4 h3 => (bif decide (w2 = w4) then Option.bind (am_gr h3 a0 10 0) (fun r5 => Option.bind (am_al h3 0 r5 (288 + x1)) (fun v6 => Option.bind (am_gr h3 a0 10 0) (fun r7 => Option.bind (am_al h3 0 r7 (288 + x2)) (fun v8 => (bif decide (v6 = v8) then (bif decide (x2 ≤ x1) then some (some (.int 0), h3) else some (some (.int 1), h3)) else Option.bind (am_gr h3 a0 10 0) (fun r9 => Option.bind (am_al h3 0 r9 (288 + x1)) (fun v10 => Option.bind (am_gr h3 a0 10 0) (fun r11 => Option.bind (am_al h3 0 r11 (288 + x2)) (fun v12 => (bif decide (v12 ≤ v10) then some (some (.int 0), h3) else some (some (.int 1), h3))))))))))) else am_bi (am_cl m_Mod_worthOf [.ref a0, .int x1] h3) (fun w14 h13 => am_bi (am_cl m_Mod_worthOf [.ref a0, .int x2] h13) (fun w16 h15 => (bif decide (w14 ≤ w16) then some (some (.int 0), h15) else some (some (.int 1), h15))))))) := (am_cl_of rfl hr).trans (am_blk [] 60 rfl)
set_option maxRecDepth 100000 in
set_option maxHeartbeats 2000000 in
theorem e_Mod_asking (a0 : Nat) (x1 : Int32) {fs : List Value} (h : am_H) (hr : h[a0]? = some (.inr (10, fs))) : am_cl m_Mod_asking [.ref a0, .int x1] h = Option.bind (am_gr h a0 10 0) (fun r1 => Option.bind (am_al h 0 r1 (38 + x1)) (fun v2 => Option.bind (am_gr h a0 10 0) (fun r3 => Option.bind (am_al h 0 r3 (58 + x1)) (fun v4 => am_bi (am_cl m_Mod_greater [.int v2, .int v4] h) (fun w6 h5 => am_bi (am_cl m_Mod_ceilingOf [.ref a0, .int w6] h5) (fun w8 h7 => some (some (.int w8), h7))))))) := (am_cl_of rfl hr).trans (am_blk [] 21 rfl)
set_option maxRecDepth 100000 in
set_option maxHeartbeats 2000000 in
theorem e_Mod_findBest (a0 : Nat) (x1 : Int32) {fs : List Value} (h : am_H) (hr : h[a0]? = some (.inr (10, fs))) : am_cl m_Mod_findBest [.ref a0, .int x1] h = am_ev m_Mod_findBest (2, [.ref a0, .int x1, .int 0, .float 0], [], h) := (am_cl_of rfl hr).trans (am_blk [2, 29] 85 rfl)
set_option maxRecDepth 100000 in
set_option maxHeartbeats 2000000 in
theorem b_Mod_findBest_2 (a0 : Nat) (x1 : Int32) (x2 : Int32) (h : am_H) : am_ev m_Mod_findBest (2, [.ref a0, .int x1, .int x2, .float 0], [], h) = (bif decide (8 ≤ x2) then am_ev m_Mod_findBest (29, [.ref a0, .int x1, .int 0, .float 0], [], h) else Option.bind (am_gr h a0 10 12) (fun r1 => Option.bind (am_as h 0 r1 ((8 * x1) + x2) (-5)) (fun h2 => am_ev m_Mod_findBest (2, [.ref a0, .int x1, .int (x2 + 1), .float 0], [], h2)))) := am_blk [2, 29] 85 rfl
set_option maxRecDepth 100000 in
set_option maxHeartbeats 2000000 in
theorem b_Mod_findBest_29 (a0 : Nat) (x1 : Int32) (x2 : Int32) (u3 : Value) (h : am_H) : am_ev m_Mod_findBest (29, [.ref a0, .int x1, .int x2, u3], [], h) = am_bi (am_cl m_Mod_bids [.ref a0] h) (fun w2 h1 => (bif decide (w2 ≤ x2) then some (none, h1) else Option.bind (am_gr h1 a0 10 0) (fun r3 => Option.bind (am_al h1 0 r3 (78 + x1)) (fun v4 => (bif decide (¬ v4 = 0) then some (none, h1) else Option.bind (am_gr h1 a0 10 0) (fun r5 => Option.bind (am_al h1 0 r5 (108 + x2)) (fun v6 => (bif decide (¬ v6 = x1) then am_ev m_Mod_findBest (29, [.ref a0, .int x1, .int (x2 + 1), u3], [], h1) else am_bi (am_cl m_Mod_counts [.ref a0, .int x2] h1) (fun w8 h7 => (bif decide (w8 = 0) then am_ev m_Mod_findBest (29, [.ref a0, .int x1, .int (x2 + 1), u3], [], h7) else Option.bind (am_gr h7 a0 10 0) (fun r9 => Option.bind (am_al h7 0 r9 (168 + x2)) (fun v10 => Option.bind (am_gr h7 a0 10 12) (fun r11 => Option.bind (am_gr h7 a0 10 12) (fun r12 => Option.bind (am_al h7 0 r12 ((8 * x1) + v10)) (fun v13 => (bif decide (v13 < 0) then Option.bind (am_as h7 0 r11 ((8 * x1) + v10) x2) (fun h14 => am_ev m_Mod_findBest (29, [.ref a0, .int x1, .int (x2 + 1), .int ((8 * x1) + v10)], [], h14)) else am_bi (am_cl m_Mod_worthOf [.ref a0, .int x2] h7) (fun w16 h15 => Option.bind (am_gr h15 a0 10 12) (fun r17 => Option.bind (am_al h15 0 r17 ((8 * x1) + v10)) (fun v18 => am_bi (am_cl m_Mod_worthOf [.ref a0, .int v18] h15) (fun w20 h19 => (bif decide (w16 ≤ w20) then Option.bind (am_gr h19 a0 10 12) (fun r21 => Option.bind (am_al h19 0 r21 ((8 * x1) + v10)) (fun v22 => Option.bind (am_as h19 0 r11 ((8 * x1) + v10) v22) (fun h23 => am_ev m_Mod_findBest (29, [.ref a0, .int x1, .int (x2 + 1), .int ((8 * x1) + v10)], [], h23)))) else Option.bind (am_as h19 0 r11 ((8 * x1) + v10) x2) (fun h24 => am_ev m_Mod_findBest (29, [.ref a0, .int x1, .int (x2 + 1), .int ((8 * x1) + v10)], [], h24))))))))))))))))))))))) := am_blk [2, 29] 85 rfl
set_option maxRecDepth 100000 in
set_option maxHeartbeats 2000000 in
theorem e_Mod_placeOf (a0 : Nat) (x1 : Int32) (x2 : Int32) {fs : List Value} (h : am_H) (hr : h[a0]? = some (.inr (10, fs))) : am_cl m_Mod_placeOf [.ref a0, .int x1, .int x2] h = am_ev m_Mod_placeOf (5, [.ref a0, .int x1, .int x2, .int 0, .int 0, .float 0], [], h) := (am_cl_of rfl hr).trans (am_blk [5] 41 rfl)
set_option maxRecDepth 100000 in
set_option maxHeartbeats 2000000 in
theorem b_Mod_placeOf_5 (a0 : Nat) (x1 : Int32) (x2 : Int32) (x3 : Int32) (x4 : Int32) (u5 : Value) (h : am_H) : am_ev m_Mod_placeOf (5, [.ref a0, .int x1, .int x2, .int x3, .int x4, u5], [], h) = (bif decide (8 ≤ x4) then some (some (.int x3), h) else Option.bind (am_gr h a0 10 12) (fun r1 => Option.bind (am_al h 0 r1 ((8 * x1) + x4)) (fun v2 => (bif decide (v2 < 0) then am_ev m_Mod_placeOf (5, [.ref a0, .int x1, .int x2, .int (x3 + 0), .int (x4 + 1), .int v2], [], h) else (bif decide (v2 = x2) then am_ev m_Mod_placeOf (5, [.ref a0, .int x1, .int x2, .int (x3 + 0), .int (x4 + 1), .int v2], [], h) else am_bi (am_cl m_Mod_isAhead [.ref a0, .int v2, .int x2] h) (fun w4 h3 => (bif decide (w4 = 0) then am_ev m_Mod_placeOf (5, [.ref a0, .int x1, .int x2, .int (x3 + 0), .int (x4 + 1), .int v2], [], h3) else am_ev m_Mod_placeOf (5, [.ref a0, .int x1, .int x2, .int (x3 + 1), .int (x4 + 1), .int v2], [], h3)))))))) := am_blk [5] 41 rfl
set_option maxRecDepth 100000 in
set_option maxHeartbeats 2000000 in
theorem e_Mod_rankedAt (a0 : Nat) (x1 : Int32) (x2 : Int32) {fs : List Value} (h : am_H) (hr : h[a0]? = some (.inr (10, fs))) : am_cl m_Mod_rankedAt [.ref a0, .int x1, .int x2] h = am_ev m_Mod_rankedAt (2, [.ref a0, .int x1, .int x2, .int 0, .float 0], [], h) := (am_cl_of rfl hr).trans (am_blk [2] 33 rfl)
set_option maxRecDepth 100000 in
set_option maxHeartbeats 2000000 in
theorem b_Mod_rankedAt_2 (a0 : Nat) (x1 : Int32) (x2 : Int32) (x3 : Int32) (u4 : Value) (h : am_H) : am_ev m_Mod_rankedAt (2, [.ref a0, .int x1, .int x2, .int x3, u4], [], h) = (bif decide (8 ≤ x3) then some (some (.int (-5)), h) else Option.bind (am_gr h a0 10 12) (fun r1 => Option.bind (am_al h 0 r1 ((8 * x1) + x3)) (fun v2 => (bif decide (v2 < 0) then am_ev m_Mod_rankedAt (2, [.ref a0, .int x1, .int x2, .int (x3 + 1), .int v2], [], h) else am_bi (am_cl m_Mod_placeOf [.ref a0, .int x1, .int v2] h) (fun w4 h3 => (bif decide (¬ w4 = x2) then am_ev m_Mod_rankedAt (2, [.ref a0, .int x1, .int x2, .int (x3 + 1), .int v2], [], h3) else some (some (.int v2), h3))))))) := am_blk [2] 33 rfl
set_option maxRecDepth 100000 in
set_option maxHeartbeats 2000000 in
theorem e_Mod_sell (a0 : Nat) (x1 : Int32) {fs : List Value} (h : am_H) (hr : h[a0]? = some (.inr (10, fs))) : am_cl m_Mod_sell [.ref a0, .int x1] h = am_bv (am_cl m_Mod_findBest [.ref a0, .int x1] h) (fun h1 => Option.bind (am_gr h1 a0 10 15) (fun r2 => Option.bind (am_as h1 0 r2 x1 0) (fun h3 => am_ev m_Mod_sell (14, [.ref a0, .int x1, .int 0], [], h3)))) := (am_cl_of rfl hr).trans (am_blk [14] 131 rfl)
set_option maxRecDepth 100000 in
set_option maxHeartbeats 2000000 in
theorem b_Mod_sell_14 (a0 : Nat) (x1 : Int32) (x2 : Int32) (h : am_H) : am_ev m_Mod_sell (14, [.ref a0, .int x1, .int x2], [], h) = (bif decide (8 ≤ x2) then Option.bind (am_gr h a0 10 13) (fun r1 => am_bi (am_cl m_Mod_rankedAt [.ref a0, .int x1, .int 0] h) (fun w3 h2 => Option.bind (am_as h2 0 r1 x1 w3) (fun h4 => Option.bind (am_gr h4 a0 10 14) (fun r5 => am_bi (am_cl m_Mod_rankedAt [.ref a0, .int x1, .int 1] h4) (fun w7 h6 => Option.bind (am_as h6 0 r5 x1 w7) (fun h8 => Option.bind (am_gr h8 a0 10 16) (fun r9 => Option.bind (am_as h8 0 r9 x1 (-5)) (fun h10 => Option.bind (am_gr h10 a0 10 17) (fun r11 => Option.bind (am_as h10 0 r11 x1 0) (fun h12 => Option.bind (am_gr h12 a0 10 13) (fun r13 => Option.bind (am_al h12 0 r13 x1) (fun v14 => (bif decide (v14 < 0) then some (none, h12) else Option.bind (am_gr h12 a0 10 13) (fun r15 => Option.bind (am_al h12 0 r15 x1) (fun v16 => am_bi (am_cl m_Mod_worthOf [.ref a0, .int v16] h12) (fun w18 h17 => Option.bind (am_gr h17 a0 10 0) (fun r19 => Option.bind (am_al h17 0 r19 (58 + x1)) (fun v20 => (bif decide (w18 < v20) then some (none, h17) else Option.bind (am_gr h17 a0 10 16) (fun r21 => Option.bind (am_gr h17 a0 10 0) (fun r22 => Option.bind (am_gr h17 a0 10 13) (fun r23 => Option.bind (am_al h17 0 r23 x1) (fun v24 => Option.bind (am_al h17 0 r22 (168 + v24)) (fun v25 => Option.bind (am_as h17 0 r21 x1 v25) (fun h26 => Option.bind (am_gr h26 a0 10 14) (fun r27 => Option.bind (am_al h26 0 r27 x1) (fun v28 => (bif decide (0 ≤ v28) then am_bi (am_cl m_Mod_asking [.ref a0, .int x1] h26) (fun w30 h29 => Option.bind (am_gr h29 a0 10 14) (fun r31 => Option.bind (am_al h29 0 r31 x1) (fun v32 => am_bi (am_cl m_Mod_worthOf [.ref a0, .int v32] h29) (fun w34 h33 => am_bi (am_cl m_Mod_nextOf [.ref a0, .int w34] h33) (fun w36 h35 => am_bi (am_cl m_Mod_greater [.int w30, .int w36] h35) (fun w38 h37 => Option.bind (am_gr h37 a0 10 17) (fun r39 => Option.bind (am_gr h37 a0 10 13) (fun r40 => Option.bind (am_al h37 0 r40 x1) (fun v41 => am_bi (am_cl m_Mod_worthOf [.ref a0, .int v41] h37) (fun w43 h42 => am_bi (am_cl m_Mod_lesser [.int w38, .int w43] h42) (fun w45 h44 => Option.bind (am_as h44 0 r39 x1 w45) (fun h46 => some (none, h46))))))))))))) else am_bi (am_cl m_Mod_asking [.ref a0, .int x1] h26) (fun w48 h47 => Option.bind (am_gr h47 a0 10 17) (fun r49 => Option.bind (am_gr h47 a0 10 13) (fun r50 => Option.bind (am_al h47 0 r50 x1) (fun v51 => am_bi (am_cl m_Mod_worthOf [.ref a0, .int v51] h47) (fun w53 h52 => am_bi (am_cl m_Mod_lesser [.int w48, .int w53] h52) (fun w55 h54 => Option.bind (am_as h54 0 r49 x1 w55) (fun h56 => some (none, h56)))))))))))))))))))))))))))))))))))) else Option.bind (am_gr h a0 10 15) (fun r57 => Option.bind (am_al h 0 r57 x1) (fun v58 => Option.bind (am_gr h a0 10 12) (fun r59 => Option.bind (am_al h 0 r59 ((8 * x1) + x2)) (fun v60 => (bif decide (v60 < 0) then Option.bind (am_as h 0 r57 x1 (v58 + 0)) (fun h61 => am_ev m_Mod_sell (14, [.ref a0, .int x1, .int (x2 + 1)], [], h61)) else Option.bind (am_as h 0 r57 x1 (v58 + 1)) (fun h62 => am_ev m_Mod_sell (14, [.ref a0, .int x1, .int (x2 + 1)], [], h62)))))))) := am_blk [14] 131 rfl
set_option maxRecDepth 100000 in
set_option maxHeartbeats 2000000 in
theorem e_Mod_hold (a0 : Nat) {fs : List Value} (h : am_H) (hr : h[a0]? = some (.inr (10, fs))) : am_cl m_Mod_hold [.ref a0] h = am_ev m_Mod_hold (2, [.ref a0, .int 0, .float 0], [], h) := (am_cl_of rfl hr).trans (am_blk [2, 33, 48] 74 rfl)
set_option maxRecDepth 100000 in
set_option maxHeartbeats 2000000 in
theorem b_Mod_hold_2 (a0 : Nat) (x1 : Int32) (h : am_H) : am_ev m_Mod_hold (2, [.ref a0, .int x1, .float 0], [], h) = am_bi (am_cl m_Mod_bidders [.ref a0] h) (fun w2 h1 => (bif decide (w2 ≤ x1) then am_ev m_Mod_hold (33, [.ref a0, .int 0, .float 0], [], h1) else Option.bind (am_gr h1 a0 10 11) (fun r3 => Option.bind (am_gr h1 a0 10 0) (fun r4 => Option.bind (am_al h1 0 r4 (99 + x1)) (fun v5 => Option.bind (am_as h1 0 r3 x1 v5) (fun h6 => am_ev m_Mod_hold (2, [.ref a0, .int (x1 + 1), .float 0], [], h6))))))) := am_blk [2, 33, 48] 74 rfl
set_option maxRecDepth 100000 in
set_option maxHeartbeats 2000000 in
theorem b_Mod_hold_33 (a0 : Nat) (x1 : Int32) (u2 : Value) (h : am_H) : am_ev m_Mod_hold (33, [.ref a0, .int x1, u2], [], h) = am_bi (am_cl m_Mod_lots [.ref a0] h) (fun w2 h1 => (bif decide (w2 ≤ x1) then some (none, h1) else am_bv (am_cl m_Mod_sell [.ref a0, .int x1] h1) (fun h3 => am_ev m_Mod_hold (48, [.ref a0, .int x1, .int 0], [], h3)))) := am_blk [2, 33, 48] 74 rfl
set_option maxRecDepth 100000 in
set_option maxHeartbeats 2000000 in
theorem b_Mod_hold_48 (a0 : Nat) (x1 : Int32) (x2 : Int32) (h : am_H) : am_ev m_Mod_hold (48, [.ref a0, .int x1, .int x2], [], h) = am_bi (am_cl m_Mod_bidders [.ref a0] h) (fun w2 h1 => (bif decide (w2 ≤ x2) then am_ev m_Mod_hold (33, [.ref a0, .int (x1 + 1), .int x2], [], h1) else Option.bind (am_gr h1 a0 10 11) (fun r3 => Option.bind (am_gr h1 a0 10 11) (fun r4 => Option.bind (am_al h1 0 r4 ((8 * x1) + x2)) (fun v5 => Option.bind (am_gr h1 a0 10 16) (fun r6 => Option.bind (am_al h1 0 r6 x1) (fun v7 => (bif decide (¬ v7 = x2) then Option.bind (am_as h1 0 r3 ((8 * (x1 + 1)) + x2) (v5 - 0)) (fun h8 => am_ev m_Mod_hold (48, [.ref a0, .int x1, .int (x2 + 1)], [], h8)) else Option.bind (am_gr h1 a0 10 17) (fun r9 => Option.bind (am_al h1 0 r9 x1) (fun v10 => Option.bind (am_as h1 0 r3 ((8 * (x1 + 1)) + x2) (v5 - v10)) (fun h11 => am_ev m_Mod_hold (48, [.ref a0, .int x1, .int (x2 + 1)], [], h11)))))))))))) := am_blk [2, 33, 48] 74 rfl
set_option maxRecDepth 100000 in
set_option maxHeartbeats 2000000 in
theorem e_Mod_sale (a0 : Nat) (x1 : Int32) (x2 : Int32) {fs : List Value} (h : am_H) (hr : h[a0]? = some (.inr (10, fs))) : am_cl m_Mod_sale [.ref a0, .int x1, .int x2] h = am_bi (am_cl m_Mod_noLot [.ref a0, .int x1] h) (fun w2 h1 => (bif decide (w2 = 0) then am_bv (am_cl m_Mod_hold [.ref a0] h1) (fun h3 => (bif decide (x2 = 0) then Option.bind (am_gr h3 a0 10 16) (fun r18 => Option.bind (am_al h3 0 r18 x1) (fun v19 => some (some (.int v19), h3))) else (bif decide (x2 = 1) then Option.bind (am_gr h3 a0 10 17) (fun r16 => Option.bind (am_al h3 0 r16 x1) (fun v17 => some (some (.int v17), h3))) else (bif decide (x2 = 2) then Option.bind (am_gr h3 a0 10 0) (fun r10 => Option.bind (am_al h3 0 r10 (78 + x1)) (fun v11 => (bif decide (¬ v11 = 1) then Option.bind (am_gr h3 a0 10 16) (fun r12 => Option.bind (am_al h3 0 r12 x1) (fun v13 => (bif decide (v13 < 0) then Option.bind (am_gr h3 a0 10 15) (fun r14 => Option.bind (am_al h3 0 r14 x1) (fun v15 => (bif decide (¬ v15 = 0) then some (some (.int 2), h3) else some (some (.int 1), h3)))) else some (some (.int 0), h3)))) else some (some (.int 3), h3)))) else (bif decide (x2 = 3) then Option.bind (am_gr h3 a0 10 15) (fun r8 => Option.bind (am_al h3 0 r8 x1) (fun v9 => some (some (.int v9), h3))) else (bif decide (x2 = 4) then Option.bind (am_gr h3 a0 10 13) (fun r6 => Option.bind (am_al h3 0 r6 x1) (fun v7 => some (some (.int v7), h3))) else (bif decide (x2 = 5) then Option.bind (am_gr h3 a0 10 14) (fun r4 => Option.bind (am_al h3 0 r4 x1) (fun v5 => some (some (.int v5), h3))) else some (some (.int (-2)), h3)))))))) else some (some (.int (-1)), h1))) := (am_cl_of rfl hr).trans (am_blk [] 68 rfl)
set_option maxRecDepth 100000 in
set_option maxHeartbeats 2000000 in
theorem e_Mod_ranked (a0 : Nat) (x1 : Int32) (x2 : Int32) {fs : List Value} (h : am_H) (hr : h[a0]? = some (.inr (10, fs))) : am_cl m_Mod_ranked [.ref a0, .int x1, .int x2] h = am_bi (am_cl m_Mod_noLot [.ref a0, .int x1] h) (fun w2 h1 => (bif decide (w2 = 0) then (bif decide (0 ≤ x2) then am_bv (am_cl m_Mod_hold [.ref a0] h1) (fun h3 => am_bi (am_cl m_Mod_rankedAt [.ref a0, .int x1, .int x2] h3) (fun w5 h4 => some (some (.int w5), h4))) else some (some (.int (-2)), h1)) else some (some (.int (-1)), h1))) := (am_cl_of rfl hr).trans (am_blk [] 22 rfl)
set_option maxRecDepth 100000 in
set_option maxHeartbeats 2000000 in
theorem e_Mod_fate (a0 : Nat) (x1 : Int32) {fs : List Value} (h : am_H) (hr : h[a0]? = some (.inr (10, fs))) : am_cl m_Mod_fate [.ref a0, .int x1] h = am_bi (am_cl m_Mod_noBid [.ref a0, .int x1] h) (fun w2 h1 => (bif decide (w2 = 0) then am_bv (am_cl m_Mod_hold [.ref a0] h1) (fun h3 => Option.bind (am_gr h3 a0 10 0) (fun r4 => Option.bind (am_al h3 0 r4 (108 + x1)) (fun v5 => Option.bind (am_gr h3 a0 10 0) (fun r6 => Option.bind (am_al h3 0 r6 (408 + x1)) (fun v7 => (bif decide (¬ v7 = 1) then am_bi (am_cl m_Mod_isLate [.ref a0, .int x1] h3) (fun w9 h8 => (bif decide (w9 = 0) then Option.bind (am_gr h8 a0 10 0) (fun r10 => Option.bind (am_al h8 0 r10 (78 + v5)) (fun v11 => (bif decide (¬ v11 = 1) then am_bi (am_cl m_Mod_isServed [.ref a0, .int x1] h8) (fun w13 h12 => (bif decide (w13 = 0) then am_bi (am_cl m_Mod_counts [.ref a0, .int x1] h12) (fun w15 h14 => (bif decide (¬ w15 = 0) then Option.bind (am_gr h14 a0 10 12) (fun r16 => Option.bind (am_gr h14 a0 10 0) (fun r17 => Option.bind (am_al h14 0 r17 (168 + x1)) (fun v18 => Option.bind (am_al h14 0 r16 ((8 * v5) + v18)) (fun v19 => (bif decide (v19 = x1) then Option.bind (am_gr h14 a0 10 13) (fun r20 => Option.bind (am_al h14 0 r20 v5) (fun v21 => (bif decide (v21 = x1) then Option.bind (am_gr h14 a0 10 16) (fun r22 => Option.bind (am_al h14 0 r22 v5) (fun v23 => (bif decide (0 ≤ v23) then some (some (.int 0), h14) else some (some (.int 8), h14)))) else some (some (.int 7), h14)))) else some (some (.int 6), h14)))))) else some (some (.int 5), h14))) else some (some (.int 4), h12))) else some (some (.int 3), h8)))) else some (some (.int 2), h8))) else some (some (.int 1), h3))))))) else some (some (.int (-1)), h1))) := (am_cl_of rfl hr).trans (am_blk [] 92 rfl)
set_option maxRecDepth 100000 in
set_option maxHeartbeats 2000000 in
theorem e_Mod_needed (a0 : Nat) (x1 : Int32) (x2 : Int32) (x3 : Int32) {fs : List Value} (h : am_H) (hr : h[a0]? = some (.inr (10, fs))) : am_cl m_Mod_needed [.ref a0, .int x1, .int x2, .int x3] h = am_bi (am_cl m_Mod_noBidder [.ref a0, .int x1] h) (fun w2 h1 => (bif decide (¬ w2 = 0) then some (some (.int (-1)), h1) else am_bi (am_cl m_Mod_noLot [.ref a0, .int x2] h1) (fun w4 h3 => (bif decide (w4 = 0) then am_bi (am_cl m_Mod_isMark [.int x3] h3) (fun w6 h5 => (bif decide (¬ w6 = 0) then Option.bind (am_gr h5 a0 10 0) (fun r7 => Option.bind (am_al h5 0 r7 (78 + x2)) (fun v8 => (bif decide (v8 = 1) then some (some (.int (-5)), h5) else am_bi (am_cl m_Mod_bids [.ref a0] h5) (fun w10 h9 => (bif decide (w10 = 60) then some (some (.int (-5)), h9) else Option.bind (am_gr h9 a0 10 0) (fun r11 => Option.bind (am_al h9 0 r11 468) (fun v12 => (bif decide (x3 ≤ v12) then am_bv (am_cl m_Mod_hold [.ref a0] h9) (fun h13 => am_bi (am_cl m_Mod_asking [.ref a0, .int x2] h13) (fun w15 h14 => am_ev m_Mod_needed (79, [.ref a0, .int x1, .int x2, .int x3, .int w15, .int 0, .float 0, .float 0], [], h14))) else some (some (.int (-5)), h9))))))))) else some (some (.int (-2)), h5))) else some (some (.int (-1)), h3))))) := (am_cl_of rfl hr).trans (am_blk [79, 132] 121 rfl)
set_option maxRecDepth 100000 in
set_option maxHeartbeats 2000000 in
theorem b_Mod_needed_79 (a0 : Nat) (x1 : Int32) (x2 : Int32) (x3 : Int32) (x4 : Int32) (x5 : Int32) (u6 : Value) (u7 : Value) (h : am_H) : am_ev m_Mod_needed (79, [.ref a0, .int x1, .int x2, .int x3, .int x4, .int x5, u6, u7], [], h) = am_bi (am_cl m_Mod_bidders [.ref a0] h) (fun w2 h1 => (bif decide (w2 ≤ x5) then (bif decide (¬ x4 = 0) then Option.bind (am_gr h1 a0 10 11) (fun r3 => Option.bind (am_al h1 0 r3 ((8 * x2) + x1)) (fun v4 => am_bi (am_cl m_Mod_floorOf [.ref a0, .int v4] h1) (fun w6 h5 => (bif decide (w6 < x4) then some (some (.int (-5)), h5) else (bif decide (x4 ≤ 1000000) then some (some (.int x4), h5) else some (some (.int (-5)), h5)))))) else am_bi (am_cl m_Mod_nextOf [.ref a0, .int 0] h1) (fun w8 h7 => Option.bind (am_gr h7 a0 10 11) (fun r9 => Option.bind (am_al h7 0 r9 ((8 * x2) + x1)) (fun v10 => am_bi (am_cl m_Mod_floorOf [.ref a0, .int v10] h7) (fun w12 h11 => (bif decide (w12 < x4) then some (some (.int (-5)), h11) else (bif decide (w8 ≤ 1000000) then some (some (.int w8), h11) else some (some (.int (-5)), h11)))))))) else Option.bind (am_gr h1 a0 10 12) (fun r13 => Option.bind (am_al h1 0 r13 ((8 * x2) + x5)) (fun v14 => (bif decide (v14 < 0) then am_ev m_Mod_needed (79, [.ref a0, .int x1, .int x2, .int x3, .int x4, .int (x5 + 1), .int v14, u7], [], h1) else (bif decide (x5 = x1) then am_ev m_Mod_needed (132, [.ref a0, .int x1, .int x2, .int x3, .int x4, .int x5, .int v14, u7], [], h1) else Option.bind (am_gr h1 a0 10 0) (fun r15 => Option.bind (am_al h1 0 r15 (288 + v14)) (fun v16 => (bif decide (v16 ≤ x3) then am_ev m_Mod_needed (132, [.ref a0, .int x1, .int x2, .int x3, .int x4, .int x5, .int v14, u7], [], h1) else am_bi (am_cl m_Mod_worthOf [.ref a0, .int v14] h1) (fun w24 h23 => am_bi (am_cl m_Mod_greater [.int x4, .int w24] h23) (fun w26 h25 => am_ev m_Mod_needed (79, [.ref a0, .int x1, .int x2, .int x3, .int w26, .int (x5 + 1), .int v14, .int 1], [], h25)))))))))))) := am_blk [79, 132] 121 rfl
set_option maxRecDepth 100000 in
set_option maxHeartbeats 2000000 in
theorem b_Mod_needed_132 (a0 : Nat) (x1 : Int32) (x2 : Int32) (x3 : Int32) (x4 : Int32) (x5 : Int32) (x6 : Int32) (u7 : Value) (h : am_H) : am_ev m_Mod_needed (132, [.ref a0, .int x1, .int x2, .int x3, .int x4, .int x5, .int x6, u7], [], h) = am_bi (am_cl m_Mod_worthOf [.ref a0, .int x6] h) (fun w2 h1 => am_bi (am_cl m_Mod_nextOf [.ref a0, .int w2] h1) (fun w4 h3 => am_bi (am_cl m_Mod_greater [.int x4, .int w4] h3) (fun w6 h5 => am_ev m_Mod_needed (79, [.ref a0, .int x1, .int x2, .int x3, .int w6, .int (x5 + 1), .int x6, .int 0], [], h5)))) := am_blk [79, 132] 121 rfl
set_option maxRecDepth 100000 in
set_option maxHeartbeats 2000000 in
theorem e_Mod_lot (a0 : Nat) (x1 : Int32) (x2 : Int32) {fs : List Value} (h : am_H) (hr : h[a0]? = some (.inr (10, fs))) : am_cl m_Mod_lot [.ref a0, .int x1, .int x2] h = am_bi (am_cl m_Mod_noLot [.ref a0, .int x1] h) (fun w2 h1 => (bif decide (w2 = 0) then am_ev m_Mod_lot (15, [.ref a0, .int x1, .int x2, .int 0, .int 0], [], h1) else some (some (.int (-1)), h1))) := (am_cl_of rfl hr).trans (am_blk [15] 73 rfl)
set_option maxRecDepth 100000 in
set_option maxHeartbeats 2000000 in
theorem b_Mod_lot_15 (a0 : Nat) (x1 : Int32) (x2 : Int32) (x3 : Int32) (x4 : Int32) (h : am_H) : am_ev m_Mod_lot (15, [.ref a0, .int x1, .int x2, .int x3, .int x4], [], h) = am_bi (am_cl m_Mod_bids [.ref a0] h) (fun w2 h1 => (bif decide (w2 ≤ x4) then (bif decide (x2 = 0) then Option.bind (am_gr h1 a0 10 0) (fun r11 => Option.bind (am_al h1 0 r11 (18 + x1)) (fun v12 => some (some (.int v12), h1))) else (bif decide (x2 = 1) then Option.bind (am_gr h1 a0 10 0) (fun r9 => Option.bind (am_al h1 0 r9 (38 + x1)) (fun v10 => some (some (.int v10), h1))) else (bif decide (x2 = 2) then Option.bind (am_gr h1 a0 10 0) (fun r7 => Option.bind (am_al h1 0 r7 (58 + x1)) (fun v8 => some (some (.int v8), h1))) else (bif decide (x2 = 3) then Option.bind (am_gr h1 a0 10 0) (fun r5 => Option.bind (am_al h1 0 r5 (78 + x1)) (fun v6 => some (some (.int v6), h1))) else (bif decide (x2 = 4) then am_bi (am_cl m_Mod_asking [.ref a0, .int x1] h1) (fun w4 h3 => some (some (.int w4), h3)) else (bif decide (x2 = 5) then some (some (.int x3), h1) else some (some (.int (-2)), h1))))))) else Option.bind (am_gr h1 a0 10 0) (fun r13 => Option.bind (am_al h1 0 r13 (108 + x4)) (fun v14 => (bif decide (¬ v14 = x1) then am_ev m_Mod_lot (15, [.ref a0, .int x1, .int x2, .int (x3 + 0), .int (x4 + 1)], [], h1) else am_ev m_Mod_lot (15, [.ref a0, .int x1, .int x2, .int (x3 + 1), .int (x4 + 1)], [], h1)))))) := am_blk [15] 73 rfl
set_option maxRecDepth 100000 in
set_option maxHeartbeats 2000000 in
theorem e_Mod_bidOf (a0 : Nat) (x1 : Int32) (x2 : Int32) {fs : List Value} (h : am_H) (hr : h[a0]? = some (.inr (10, fs))) : am_cl m_Mod_bidOf [.ref a0, .int x1, .int x2] h = am_bi (am_cl m_Mod_noBid [.ref a0, .int x1] h) (fun w2 h1 => (bif decide (w2 = 0) then (bif decide (x2 = 0) then Option.bind (am_gr h1 a0 10 0) (fun r16 => Option.bind (am_al h1 0 r16 (108 + x1)) (fun v17 => some (some (.int v17), h1))) else (bif decide (x2 = 1) then Option.bind (am_gr h1 a0 10 0) (fun r14 => Option.bind (am_al h1 0 r14 (168 + x1)) (fun v15 => some (some (.int v15), h1))) else (bif decide (x2 = 2) then Option.bind (am_gr h1 a0 10 0) (fun r12 => Option.bind (am_al h1 0 r12 (228 + x1)) (fun v13 => some (some (.int v13), h1))) else (bif decide (x2 = 3) then Option.bind (am_gr h1 a0 10 0) (fun r10 => Option.bind (am_al h1 0 r10 (288 + x1)) (fun v11 => some (some (.int v11), h1))) else (bif decide (x2 = 4) then Option.bind (am_gr h1 a0 10 0) (fun r8 => Option.bind (am_al h1 0 r8 (348 + x1)) (fun v9 => some (some (.int v9), h1))) else (bif decide (x2 = 5) then Option.bind (am_gr h1 a0 10 0) (fun r6 => Option.bind (am_al h1 0 r6 (408 + x1)) (fun v7 => some (some (.int v7), h1))) else (bif decide (x2 = 6) then am_bv (am_cl m_Mod_hold [.ref a0] h1) (fun h3 => am_bi (am_cl m_Mod_worthOf [.ref a0, .int x1] h3) (fun w5 h4 => some (some (.int w5), h4))) else some (some (.int (-2)), h1)))))))) else some (some (.int (-1)), h1))) := (am_cl_of rfl hr).trans (am_blk [] 63 rfl)
set_option maxRecDepth 100000 in
set_option maxHeartbeats 2000000 in
theorem e_Mod_part (a0 : Nat) (x1 : Int32) (x2 : Int32) {fs : List Value} (h : am_H) (hr : h[a0]? = some (.inr (10, fs))) : am_cl m_Mod_part [.ref a0, .int x1, .int x2] h = Option.bind (am_gr h a0 10 17) (fun r1 => Option.bind (am_al h 0 r1 x1) (fun v2 => Option.bind (am_gr h a0 10 0) (fun r3 => Option.bind (am_al h 0 r3 (468 + x2)) (fun v4 => some (some (.int (Int64.toInt32 (((Int32.toInt64 v2) * (Int32.toInt64 v4)) / 1000))), h))))) := (am_cl_of rfl hr).trans (am_blk [] 22 rfl)
set_option maxRecDepth 100000 in
set_option maxHeartbeats 2000000 in
theorem e_Mod_bidder (a0 : Nat) (x1 : Int32) (x2 : Int32) {fs : List Value} (h : am_H) (hr : h[a0]? = some (.inr (10, fs))) : am_cl m_Mod_bidder [.ref a0, .int x1, .int x2] h = am_bi (am_cl m_Mod_noBidder [.ref a0, .int x1] h) (fun w2 h1 => (bif decide (w2 = 0) then am_bv (am_cl m_Mod_hold [.ref a0] h1) (fun h3 => am_ev m_Mod_bidder (22, [.ref a0, .int x1, .int x2, .int 0, .int 0, .int 0], [], h3)) else some (some (.int (-1)), h1))) := (am_cl_of rfl hr).trans (am_blk [22] 82 rfl)
set_option maxRecDepth 100000 in
set_option maxHeartbeats 2000000 in
theorem b_Mod_bidder_22 (a0 : Nat) (x1 : Int32) (x2 : Int32) (x3 : Int32) (x4 : Int32) (x5 : Int32) (h : am_H) : am_ev m_Mod_bidder (22, [.ref a0, .int x1, .int x2, .int x3, .int x4, .int x5], [], h) = am_bi (am_cl m_Mod_lots [.ref a0] h) (fun w2 h1 => (bif decide (w2 ≤ x5) then (bif decide (x2 = 0) then Option.bind (am_gr h1 a0 10 0) (fun r7 => Option.bind (am_al h1 0 r7 (99 + x1)) (fun v8 => some (some (.int v8), h1))) else (bif decide (x2 = 1) then Option.bind (am_gr h1 a0 10 11) (fun r3 => am_bi (am_cl m_Mod_lots [.ref a0] h1) (fun w5 h4 => Option.bind (am_al h4 0 r3 ((8 * w5) + x1)) (fun v6 => some (some (.int v6), h4)))) else (bif decide (x2 = 2) then some (some (.int x3), h1) else (bif decide (x2 = 3) then some (some (.int x4), h1) else some (some (.int (-2)), h1))))) else Option.bind (am_gr h1 a0 10 16) (fun r9 => Option.bind (am_al h1 0 r9 x5) (fun v10 => (bif decide (¬ v10 = x1) then Option.bind (am_gr h1 a0 10 16) (fun r11 => Option.bind (am_al h1 0 r11 x5) (fun v12 => (bif decide (¬ v12 = x1) then am_ev m_Mod_bidder (22, [.ref a0, .int x1, .int x2, .int (x3 + 0), .int (x4 + 0), .int (x5 + 1)], [], h1) else Option.bind (am_gr h1 a0 10 17) (fun r13 => Option.bind (am_al h1 0 r13 x5) (fun v14 => am_bi (am_cl m_Mod_part [.ref a0, .int x5, .int 1] h1) (fun w16 h15 => am_ev m_Mod_bidder (22, [.ref a0, .int x1, .int x2, .int (x3 + 0), .int (x4 + (v14 + w16)), .int (x5 + 1)], [], h15))))))) else Option.bind (am_gr h1 a0 10 16) (fun r17 => Option.bind (am_al h1 0 r17 x5) (fun v18 => (bif decide (¬ v18 = x1) then am_ev m_Mod_bidder (22, [.ref a0, .int x1, .int x2, .int (x3 + 1), .int (x4 + 0), .int (x5 + 1)], [], h1) else Option.bind (am_gr h1 a0 10 17) (fun r19 => Option.bind (am_al h1 0 r19 x5) (fun v20 => am_bi (am_cl m_Mod_part [.ref a0, .int x5, .int 1] h1) (fun w22 h21 => am_ev m_Mod_bidder (22, [.ref a0, .int x1, .int x2, .int (x3 + 1), .int (x4 + (v20 + w22)), .int (x5 + 1)], [], h21)))))))))))) := am_blk [22] 82 rfl
set_option maxRecDepth 100000 in
set_option maxHeartbeats 2000000 in
theorem e_Mod_isSold (a0 : Nat) (x1 : Int32) {fs : List Value} (h : am_H) (hr : h[a0]? = some (.inr (10, fs))) : am_cl m_Mod_isSold [.ref a0, .int x1] h = Option.bind (am_gr h a0 10 16) (fun r1 => Option.bind (am_al h 0 r1 x1) (fun v2 => (bif decide (v2 < 0) then some (some (.int 0), h) else some (some (.int 1), h)))) := (am_cl_of rfl hr).trans (am_blk [] 14 rfl)
set_option maxRecDepth 100000 in
set_option maxHeartbeats 2000000 in
theorem e_Mod_feeFor (a0 : Nat) (x1 : Int32) {fs : List Value} (h : am_H) (hr : h[a0]? = some (.inr (10, fs))) : am_cl m_Mod_feeFor [.ref a0, .int x1] h = am_bi (am_cl m_Mod_isSold [.ref a0, .int x1] h) (fun w2 h1 => (bif decide (¬ w2 = 0) then some (some (.int 0), h1) else Option.bind (am_gr h1 a0 10 0) (fun r3 => Option.bind (am_al h1 0 r3 (78 + x1)) (fun v4 => (bif decide (¬ v4 = 1) then Option.bind (am_gr h1 a0 10 0) (fun r5 => Option.bind (am_al h1 0 r5 471) (fun v6 => some (some (.int v6), h1))) else some (some (.int 0), h1)))))) := (am_cl_of rfl hr).trans (am_blk [] 24 rfl)
set_option maxRecDepth 100000 in
set_option maxHeartbeats 2000000 in
theorem e_Mod_seller (a0 : Nat) (x1 : Int32) (x2 : Int32) {fs : List Value} (h : am_H) (hr : h[a0]? = some (.inr (10, fs))) : am_cl m_Mod_seller [.ref a0, .int x1, .int x2] h = am_bi (am_cl m_Mod_in [.int x1, .int 0, .int 4] h) (fun w2 h1 => (bif decide (w2 = 0) then am_bl (am_cl m_Mod_lost [] h1) (fun w4 h3 => some (some (.long w4), h3)) else am_bi (am_cl m_Mod_in [.int x2, .int 0, .int 3] h1) (fun w6 h5 => (bif decide (¬ w6 = 0) then am_bv (am_cl m_Mod_hold [.ref a0] h5) (fun h7 => am_ev m_Mod_seller (31, [.ref a0, .int x1, .int x2, .long 0, .float 0, .int 0], [], h7)) else am_bl (am_cl m_Mod_lost [] h5) (fun w9 h8 => some (some (.long w9), h8)))))) := (am_cl_of rfl hr).trans (am_blk [31] 81 rfl)
set_option maxRecDepth 100000 in
set_option maxHeartbeats 2000000 in
theorem b_Mod_seller_31 (a0 : Nat) (x1 : Int32) (x2 : Int32) (l3 : Int64) (x5 : Int32) (h : am_H) : am_ev m_Mod_seller (31, [.ref a0, .int x1, .int x2, .long l3, .float 0, .int x5], [], h) = am_bi (am_cl m_Mod_lots [.ref a0] h) (fun w2 h1 => (bif decide (w2 ≤ x5) then some (some (.long l3), h1) else Option.bind (am_gr h1 a0 10 0) (fun r3 => Option.bind (am_al h1 0 r3 (18 + x5)) (fun v4 => (bif decide (¬ v4 = x1) then am_ev m_Mod_seller (31, [.ref a0, .int x1, .int x2, .long l3, .float 0, .int (x5 + 1)], [], h1) else (bif decide (¬ x2 = 0) then (bif decide (¬ x2 = 1) then (bif decide (¬ x2 = 2) then Option.bind (am_gr h1 a0 10 17) (fun r5 => Option.bind (am_al h1 0 r5 x5) (fun v6 => am_bi (am_cl m_Mod_part [.ref a0, .int x5, .int 2] h1) (fun w8 h7 => am_bi (am_cl m_Mod_feeFor [.ref a0, .int x5] h7) (fun w10 h9 => am_ev m_Mod_seller (31, [.ref a0, .int x1, .int x2, .long (l3 + (Int32.toInt64 ((v6 - w8) - w10))), .float 0, .int (x5 + 1)], [], h9))))) else Option.bind (am_gr h1 a0 10 17) (fun r11 => Option.bind (am_al h1 0 r11 x5) (fun v12 => am_ev m_Mod_seller (31, [.ref a0, .int x1, .int x2, .long (l3 + (Int32.toInt64 v12)), .float 0, .int (x5 + 1)], [], h1)))) else am_bi (am_cl m_Mod_isSold [.ref a0, .int x5] h1) (fun w14 h13 => (bif decide (w14 = 0) then am_ev m_Mod_seller (31, [.ref a0, .int x1, .int x2, .long (l3 + (Int32.toInt64 0)), .float 0, .int (x5 + 1)], [], h13) else am_ev m_Mod_seller (31, [.ref a0, .int x1, .int x2, .long (l3 + (Int32.toInt64 1)), .float 0, .int (x5 + 1)], [], h13)))) else am_ev m_Mod_seller (31, [.ref a0, .int x1, .int x2, .long (l3 + 1), .float 0, .int (x5 + 1)], [], h1))))))) := am_blk [31] 81 rfl
set_option maxRecDepth 100000 in
set_option maxHeartbeats 2000000 in
theorem e_Mod_account (a0 : Nat) (x1 : Int32) {fs : List Value} (h : am_H) (hr : h[a0]? = some (.inr (10, fs))) : am_cl m_Mod_account [.ref a0, .int x1] h = am_bi (am_cl m_Mod_in [.int x1, .int 0, .int 6] h) (fun w2 h1 => (bif decide (¬ w2 = 0) then am_bv (am_cl m_Mod_hold [.ref a0] h1) (fun h3 => am_ev m_Mod_account (32, [.ref a0, .int x1, .long 0, .float 0, .long 0, .float 0, .long 0, .float 0, .long 0, .float 0, .int 0, .float 0], [], h3)) else am_bl (am_cl m_Mod_lost [] h1) (fun w5 h4 => some (some (.long w5), h4)))) := (am_cl_of rfl hr).trans (am_blk [32] 89 rfl)
set_option maxRecDepth 100000 in
set_option maxHeartbeats 2000000 in
theorem b_Mod_account_32 (a0 : Nat) (x1 : Int32) (l2 : Int64) (l4 : Int64) (l6 : Int64) (l8 : Int64) (x10 : Int32) (h : am_H) : am_ev m_Mod_account (32, [.ref a0, .int x1, .long l2, .float 0, .long l4, .float 0, .long l6, .float 0, .long l8, .float 0, .int x10, .float 0], [], h) = am_bi (am_cl m_Mod_lots [.ref a0] h) (fun w2 h1 => (bif decide (w2 ≤ x10) then (bif decide (x1 = 0) then some (some (.long l2), h1) else (bif decide (x1 = 1) then some (some (.long l4), h1) else (bif decide (x1 = 2) then some (some (.long l6), h1) else (bif decide (x1 = 3) then some (some (.long l8), h1) else (bif decide (x1 = 4) then some (some (.long (l2 + l4)), h1) else (bif decide (x1 = 5) then some (some (.long ((l2 - l6) - l8)), h1) else some (some (.long ((l2 + l4) - ((l2 - l6) - l8))), h1))))))) else Option.bind (am_gr h1 a0 10 17) (fun r3 => Option.bind (am_al h1 0 r3 x10) (fun v4 => am_bi (am_cl m_Mod_part [.ref a0, .int x10, .int 1] h1) (fun w6 h5 => am_bi (am_cl m_Mod_part [.ref a0, .int x10, .int 2] h5) (fun w8 h7 => am_bi (am_cl m_Mod_feeFor [.ref a0, .int x10] h7) (fun w10 h9 => am_ev m_Mod_account (32, [.ref a0, .int x1, .long (l2 + (Int32.toInt64 v4)), .float 0, .long (l4 + (Int32.toInt64 w6)), .float 0, .long (l6 + (Int32.toInt64 w8)), .float 0, .long (l8 + (Int32.toInt64 w10)), .float 0, .int (x10 + 1), .float 0], [], h9)))))))) := am_blk [32] 89 rfl
set_option maxRecDepth 100000 in
set_option maxHeartbeats 2000000 in
theorem e_Mod_count (a0 : Nat) (x1 : Int32) {fs : List Value} (h : am_H) (hr : h[a0]? = some (.inr (10, fs))) : am_cl m_Mod_count [.ref a0, .int x1] h = am_bi (am_cl m_Mod_in [.int x1, .int 0, .int 13] h) (fun w2 h1 => (bif decide (¬ w2 = 0) then am_bv (am_cl m_Mod_hold [.ref a0] h1) (fun h3 => am_ev m_Mod_count (21, [.ref a0, .int x1, .int 0, .int 0, .float 0, .float 0], [], h3)) else some (some (.int (-2)), h1))) := (am_cl_of rfl hr).trans (am_blk [21, 59] 105 rfl)
set_option maxRecDepth 100000 in
set_option maxHeartbeats 2000000 in
theorem b_Mod_count_21 (a0 : Nat) (x1 : Int32) (x2 : Int32) (x3 : Int32) (h : am_H) : am_ev m_Mod_count (21, [.ref a0, .int x1, .int x2, .int x3, .float 0, .float 0], [], h) = am_bi (am_cl m_Mod_lots [.ref a0] h) (fun w2 h1 => (bif decide (w2 ≤ x3) then am_ev m_Mod_count (59, [.ref a0, .int x1, .int x2, .int 0, .int 0, .int 0], [], h1) else am_bi (am_cl m_Mod_isSold [.ref a0, .int x3] h1) (fun w4 h3 => (bif decide (w4 = 0) then am_ev m_Mod_count (21, [.ref a0, .int x1, .int (x2 + 0), .int (x3 + 1), .float 0, .float 0], [], h3) else am_ev m_Mod_count (21, [.ref a0, .int x1, .int (x2 + 1), .int (x3 + 1), .float 0, .float 0], [], h3))))) := am_blk [21, 59] 105 rfl
set_option maxRecDepth 100000 in
set_option maxHeartbeats 2000000 in
theorem b_Mod_count_59 (a0 : Nat) (x1 : Int32) (x2 : Int32) (x3 : Int32) (x4 : Int32) (x5 : Int32) (h : am_H) : am_ev m_Mod_count (59, [.ref a0, .int x1, .int x2, .int x3, .int x4, .int x5], [], h) = am_bi (am_cl m_Mod_bids [.ref a0] h) (fun w2 h1 => (bif decide (w2 ≤ x5) then (bif decide (x1 = 0) then am_bi (am_cl m_Mod_lots [.ref a0] h1) (fun w24 h23 => some (some (.int w24), h23)) else (bif decide (x1 = 1) then am_bi (am_cl m_Mod_bidders [.ref a0] h1) (fun w22 h21 => some (some (.int w22), h21)) else (bif decide (x1 = 2) then am_bi (am_cl m_Mod_bids [.ref a0] h1) (fun w20 h19 => some (some (.int w20), h19)) else (bif decide (x1 = 3) then some (some (.int x2), h1) else (bif decide (x1 = 4) then am_bi (am_cl m_Mod_awayLots [.ref a0] h1) (fun w18 h17 => some (some (.int w18), h17)) else (bif decide (x1 = 5) then some (some (.int x3), h1) else (bif decide (x1 = 6) then some (some (.int x4), h1) else (bif decide (x1 = 7) then Option.bind (am_gr h1 a0 10 0) (fun r15 => Option.bind (am_al h1 0 r15 0) (fun v16 => some (some (.int v16), h1))) else (bif decide (x1 = 8) then Option.bind (am_gr h1 a0 10 0) (fun r13 => Option.bind (am_al h1 0 r13 ((468 + x1) - 8)) (fun v14 => some (some (.int v14), h1))) else (bif decide (x1 = 9) then Option.bind (am_gr h1 a0 10 0) (fun r11 => Option.bind (am_al h1 0 r11 ((468 + x1) - 8)) (fun v12 => some (some (.int v12), h1))) else (bif decide (x1 = 10) then Option.bind (am_gr h1 a0 10 0) (fun r9 => Option.bind (am_al h1 0 r9 ((468 + x1) - 8)) (fun v10 => some (some (.int v10), h1))) else (bif decide (x1 = 11) then Option.bind (am_gr h1 a0 10 0) (fun r7 => Option.bind (am_al h1 0 r7 ((468 + x1) - 8)) (fun v8 => some (some (.int v8), h1))) else (bif decide (x1 = 12) then Option.bind (am_gi h1 a0 10 2) (fun i6 => some (some (.int i6), h1)) else (bif decide (x1 = 13) then Option.bind (am_gi h1 a0 10 3) (fun i5 => some (some (.int i5), h1)) else Option.bind (am_gr h1 a0 10 0) (fun r3 => Option.bind (am_al h1 0 r3 ((468 + x1) - 8)) (fun v4 => some (some (.int v4), h1))))))))))))))))) else am_bi (am_cl m_Mod_isLate [.ref a0, .int x5] h1) (fun w26 h25 => (bif decide (w26 = 0) then Option.bind (am_gr h25 a0 10 0) (fun r27 => Option.bind (am_al h25 0 r27 (408 + x5)) (fun v28 => am_ev m_Mod_count (59, [.ref a0, .int x1, .int x2, .int (x3 + 0), .int (x4 + v28), .int (x5 + 1)], [], h25))) else Option.bind (am_gr h25 a0 10 0) (fun r29 => Option.bind (am_al h25 0 r29 (408 + x5)) (fun v30 => am_ev m_Mod_count (59, [.ref a0, .int x1, .int x2, .int (x3 + 1), .int (x4 + v30), .int (x5 + 1)], [], h25))))))) := am_blk [21, 59] 105 rfl
end
section
set_option maxRecDepth 100000 in
set_option maxHeartbeats 2000000 in
theorem e_Bids_init (a0 : Nat) {fs : List Value} (h : am_H) (hr : h[a0]? = some (.inr (0, fs))) : am_cl m_Bids_init [.ref a0] h = am_bv (am_cl m_Row_init [.ref (List.length h), .int 60] (h ++ [.inr (5, am_new 5)])) (fun h1 => Option.bind (am_pf h1 a0 0 0 (.ref (List.length h))) (fun h2 => am_bv (am_cl m_Row_init [.ref (List.length h2), .int 60] (h2 ++ [.inr (5, am_new 5)])) (fun h3 => Option.bind (am_pf h3 a0 0 1 (.ref (List.length h2))) (fun h4 => am_bv (am_cl m_Row_init [.ref (List.length h4), .int 60] (h4 ++ [.inr (5, am_new 5)])) (fun h5 => Option.bind (am_pf h5 a0 0 2 (.ref (List.length h4))) (fun h6 => am_bv (am_cl m_Row_init [.ref (List.length h6), .int 60] (h6 ++ [.inr (5, am_new 5)])) (fun h7 => Option.bind (am_pf h7 a0 0 3 (.ref (List.length h6))) (fun h8 => am_bv (am_cl m_Row_init [.ref (List.length h8), .int 60] (h8 ++ [.inr (5, am_new 5)])) (fun h9 => Option.bind (am_pf h9 a0 0 4 (.ref (List.length h8))) (fun h10 => am_bv (am_cl m_Row_init [.ref (List.length h10), .int 60] (h10 ++ [.inr (5, am_new 5)])) (fun h11 => Option.bind (am_pf h11 a0 0 5 (.ref (List.length h10))) (fun h12 => some (none, h12))))))))))))) := (am_cl_of rfl hr).trans (am_blk [] 44 rfl)
set_option maxRecDepth 100000 in
set_option maxHeartbeats 2000000 in
theorem e_Bids_copy (a0 : Nat) (a1 : Nat) {fs : List Value} (h : am_H) (hr : h[a0]? = some (.inr (0, fs))) : am_cl m_Bids_copy [.ref a0, .ref a1] h = Option.bind (am_gr h a0 0 0) (fun r1 => Option.bind (am_gr h a1 0 0) (fun r2 => am_bv (am_cl m_Row_copy [.ref r1, .ref r2] h) (fun h3 => Option.bind (am_gr h3 a0 0 1) (fun r4 => Option.bind (am_gr h3 a1 0 1) (fun r5 => am_bv (am_cl m_Row_copy [.ref r4, .ref r5] h3) (fun h6 => Option.bind (am_gr h6 a0 0 2) (fun r7 => Option.bind (am_gr h6 a1 0 2) (fun r8 => am_bv (am_cl m_Row_copy [.ref r7, .ref r8] h6) (fun h9 => Option.bind (am_gr h9 a0 0 3) (fun r10 => Option.bind (am_gr h9 a1 0 3) (fun r11 => am_bv (am_cl m_Row_copy [.ref r10, .ref r11] h9) (fun h12 => Option.bind (am_gr h12 a0 0 4) (fun r13 => Option.bind (am_gr h12 a1 0 4) (fun r14 => am_bv (am_cl m_Row_copy [.ref r13, .ref r14] h12) (fun h15 => Option.bind (am_gr h15 a0 0 5) (fun r16 => Option.bind (am_gr h15 a1 0 5) (fun r17 => am_bv (am_cl m_Row_copy [.ref r16, .ref r17] h15) (fun h18 => Option.bind (am_gi h18 a1 0 6) (fun i19 => Option.bind (am_pf h18 a0 0 6 (.int i19)) (fun h20 => some (none, h20))))))))))))))))))))) := (am_cl_of rfl hr).trans (am_blk [] 40 rfl)
set_option maxRecDepth 100000 in
set_option maxHeartbeats 2000000 in
theorem e_Bids_add (a0 : Nat) (x1 : Int32) (x2 : Int32) (x3 : Int32) (x4 : Int32) (x5 : Int32) {fs : List Value} (h : am_H) (hr : h[a0]? = some (.inr (0, fs))) : am_cl m_Bids_add [.ref a0, .int x1, .int x2, .int x3, .int x4, .int x5] h = Option.bind (am_gr h a0 0 0) (fun r1 => Option.bind (am_gi h a0 0 6) (fun i2 => am_bv (am_cl m_Row_put [.ref r1, .int i2, .int x1] h) (fun h3 => Option.bind (am_gr h3 a0 0 1) (fun r4 => Option.bind (am_gi h3 a0 0 6) (fun i5 => am_bv (am_cl m_Row_put [.ref r4, .int i5, .int x2] h3) (fun h6 => Option.bind (am_gr h6 a0 0 2) (fun r7 => Option.bind (am_gi h6 a0 0 6) (fun i8 => am_bv (am_cl m_Row_put [.ref r7, .int i8, .int x3] h6) (fun h9 => Option.bind (am_gr h9 a0 0 3) (fun r10 => Option.bind (am_gi h9 a0 0 6) (fun i11 => am_bv (am_cl m_Row_put [.ref r10, .int i11, .int x4] h9) (fun h12 => Option.bind (am_gr h12 a0 0 4) (fun r13 => Option.bind (am_gi h12 a0 0 6) (fun i14 => am_bv (am_cl m_Row_put [.ref r13, .int i14, .int x5] h12) (fun h15 => Option.bind (am_gr h15 a0 0 5) (fun r16 => Option.bind (am_gi h15 a0 0 6) (fun i17 => am_bv (am_cl m_Row_put [.ref r16, .int i17, .int 0] h15) (fun h18 => Option.bind (am_gi h18 a0 0 6) (fun i19 => Option.bind (am_pf h18 a0 0 6 (.int (i19 + 1))) (fun h20 => Option.bind (am_gi h20 a0 0 6) (fun i21 => some (some (.int (i21 - 1)), h20)))))))))))))))))))))) := (am_cl_of rfl hr).trans (am_blk [] 52 rfl)
set_option maxRecDepth 100000 in
set_option maxHeartbeats 2000000 in
theorem e_Bids_freeGroup (a0 : Nat) (x1 : Int32) {fs : List Value} (h : am_H) (hr : h[a0]? = some (.inr (0, fs))) : am_cl m_Bids_freeGroup [.ref a0, .int x1] h = am_ev m_Bids_freeGroup (4, [.ref a0, .int x1, .int 0, .int 0], [], h) := (am_cl_of rfl hr).trans (am_blk [4] 32 rfl)
set_option maxRecDepth 100000 in
set_option maxHeartbeats 2000000 in
theorem b_Bids_freeGroup_4 (a0 : Nat) (x1 : Int32) (x2 : Int32) (x3 : Int32) (h : am_H) : am_ev m_Bids_freeGroup (4, [.ref a0, .int x1, .int x2, .int x3], [], h) = Option.bind (am_gi h a0 0 6) (fun i1 => (bif decide (i1 ≤ x3) then some (some (.int (x2 + 1)), h) else Option.bind (am_gr h a0 0 0) (fun r2 => am_bi (am_cl m_Row_get [.ref r2, .int x3] h) (fun w4 h3 => (bif decide (¬ w4 = x1) then am_ev m_Bids_freeGroup (4, [.ref a0, .int x1, .int x2, .int (x3 + 1)], [], h3) else Option.bind (am_gr h3 a0 0 4) (fun r5 => am_bi (am_cl m_Row_get [.ref r5, .int x3] h3) (fun w7 h6 => am_ev m_Bids_freeGroup (4, [.ref a0, .int x1, .int (am_max x2 w7), .int (x3 + 1)], [], h6)))))))) := am_blk [4] 32 rfl
set_option maxRecDepth 100000 in
set_option maxHeartbeats 2000000 in
theorem e_History_init (a0 : Nat) {fs : List Value} (h : am_H) (hr : h[a0]? = some (.inr (1, fs))) : am_cl m_History_init [.ref a0] h = Option.bind (am_nq h 7 4) (fun h1 => Option.bind (am_pf h1 a0 1 0 (.ref (List.length h))) (fun h2 => am_ev m_History_init (14, [.ref a0, .int 0], [], h2))) := (am_cl_of rfl hr).trans (am_blk [14] 28 rfl)
set_option maxRecDepth 100000 in
set_option maxHeartbeats 2000000 in
theorem b_History_init_14 (a0 : Nat) (x1 : Int32) (h : am_H) : am_ev m_History_init (14, [.ref a0, .int x1], [], h) = Option.bind (am_gr h a0 1 0) (fun r1 => Option.bind (am_len h r1) (fun n2 => (bif decide (n2 ≤ x1) then some (none, h) else Option.bind (am_gr h a0 1 0) (fun r3 => am_bv (am_cl m_State_init [.ref (List.length h)] (h ++ [.inr (7, am_new 7)])) (fun h4 => Option.bind (am_qs h4 r3 x1 (List.length h)) (fun h5 => am_ev m_History_init (14, [.ref a0, .int (x1 + 1)], [], h5))))))) := am_blk [14] 28 rfl
set_option maxRecDepth 100000 in
set_option maxHeartbeats 2000000 in
theorem e_History_keep (a0 : Nat) (a1 : Nat) {fs : List Value} (h : am_H) (hr : h[a0]? = some (.inr (1, fs))) : am_cl m_History_keep [.ref a0, .ref a1] h = Option.bind (am_gi h a0 1 1) (fun i1 => Option.bind (am_gr h a0 1 0) (fun r2 => Option.bind (am_len h r2) (fun n3 => (bif decide (i1 < n3) then am_ev m_History_keep (16, [.ref a0, .ref a1, .float 0], [], h) else am_bv (am_cl m_History_dropOldest [.ref a0] h) (fun h4 => am_ev m_History_keep (16, [.ref a0, .ref a1, .float 0], [], h4)))))) := (am_cl_of rfl hr).trans (am_blk [16, 47] 42 rfl)
set_option maxRecDepth 100000 in
set_option maxHeartbeats 2000000 in
theorem b_History_keep_16 (a0 : Nat) (a1 : Nat) (h : am_H) : am_ev m_History_keep (16, [.ref a0, .ref a1, .float 0], [], h) = Option.bind (am_gi h a0 1 1) (fun i1 => (bif decide (i1 < 0) then am_ev m_History_keep (47, [.ref a0, .ref a1, .float 0], [], h) else Option.bind (am_gi h a0 1 1) (fun i2 => Option.bind (am_gr h a0 1 0) (fun r3 => Option.bind (am_len h r3) (fun n4 => (bif decide (n4 ≤ i2) then am_ev m_History_keep (47, [.ref a0, .ref a1, .float 0], [], h) else Option.bind (am_gr h a0 1 0) (fun r5 => Option.bind (am_gi h a0 1 1) (fun i6 => Option.bind (am_ql h r5 i6) (fun r7 => am_bv (am_cl m_State_copy [.ref r7, .ref a1] h) (fun h8 => Option.bind (am_gi h8 a0 1 1) (fun i9 => Option.bind (am_pf h8 a0 1 1 (.int (i9 + 1))) (fun h10 => some (none, h10))))))))))))) := am_blk [16, 47] 42 rfl
set_option maxRecDepth 100000 in
set_option maxHeartbeats 2000000 in
theorem b_History_keep_47 (a0 : Nat) (a1 : Nat) (h : am_H) : am_ev m_History_keep (47, [.ref a0, .ref a1, .float 0], [], h) = some (none, h) := am_blk [16, 47] 42 rfl
set_option maxRecDepth 100000 in
set_option maxHeartbeats 2000000 in
theorem e_History_restore (a0 : Nat) (a1 : Nat) {fs : List Value} (h : am_H) (hr : h[a0]? = some (.inr (1, fs))) : am_cl m_History_restore [.ref a0, .ref a1] h = Option.bind (am_gi h a0 1 1) (fun i1 => (bif decide (i1 ≤ 0) then am_ev m_History_restore (33, [.ref a0, .ref a1, .float 0], [], h) else Option.bind (am_gi h a0 1 1) (fun i2 => Option.bind (am_gr h a0 1 0) (fun r3 => Option.bind (am_len h r3) (fun n4 => (bif decide (n4 < i2) then am_ev m_History_restore (33, [.ref a0, .ref a1, .float 0], [], h) else Option.bind (am_gr h a0 1 0) (fun r5 => Option.bind (am_gi h a0 1 1) (fun i6 => Option.bind (am_ql h r5 (i6 - 1)) (fun r7 => am_bv (am_cl m_State_copy [.ref a1, .ref r7] h) (fun h8 => Option.bind (am_gi h8 a0 1 1) (fun i9 => Option.bind (am_pf h8 a0 1 1 (.int (i9 - 1))) (fun h10 => some (none, h10))))))))))))) := (am_cl_of rfl hr).trans (am_blk [33] 36 rfl)
set_option maxRecDepth 100000 in
set_option maxHeartbeats 2000000 in
theorem b_History_restore_33 (a0 : Nat) (a1 : Nat) (h : am_H) : am_ev m_History_restore (33, [.ref a0, .ref a1, .float 0], [], h) = some (none, h) := am_blk [33] 36 rfl
set_option maxRecDepth 100000 in
set_option maxHeartbeats 2000000 in
theorem e_History_dropOldest (a0 : Nat) {fs : List Value} (h : am_H) (hr : h[a0]? = some (.inr (1, fs))) : am_cl m_History_dropOldest [.ref a0] h = Option.bind (am_gr h a0 1 0) (fun r1 => Option.bind (am_len h r1) (fun n2 => (bif decide (¬ n2 = 0) then Option.bind (am_gr h a0 1 0) (fun r3 => Option.bind (am_ql h r3 0) (fun r4 => am_ev m_History_dropOldest (18, [.ref a0, .ref r4, .int 1], [], h))) else some (none, h)))) := (am_cl_of rfl hr).trans (am_blk [18] 51 rfl)
set_option maxRecDepth 100000 in
set_option maxHeartbeats 2000000 in
theorem b_History_dropOldest_18 (a0 : Nat) (a1 : Nat) (x2 : Int32) (h : am_H) : am_ev m_History_dropOldest (18, [.ref a0, .ref a1, .int x2], [], h) = Option.bind (am_gr h a0 1 0) (fun r1 => Option.bind (am_len h r1) (fun n2 => (bif decide (n2 ≤ x2) then Option.bind (am_gr h a0 1 0) (fun r3 => Option.bind (am_gr h a0 1 0) (fun r4 => Option.bind (am_len h r4) (fun n5 => Option.bind (am_qs h r3 (n5 - 1) a1) (fun h6 => Option.bind (am_gr h6 a0 1 0) (fun r7 => Option.bind (am_len h6 r7) (fun n8 => Option.bind (am_pf h6 a0 1 1 (.int (n8 - 1))) (fun h9 => some (none, h9)))))))) else Option.bind (am_gr h a0 1 0) (fun r10 => Option.bind (am_gr h a0 1 0) (fun r11 => Option.bind (am_ql h r11 x2) (fun r12 => Option.bind (am_qs h r10 (x2 - 1) r12) (fun h13 => am_ev m_History_dropOldest (18, [.ref a0, .ref a1, .int (x2 + 1)], [], h13)))))))) := am_blk [18] 51 rfl
set_option maxRecDepth 100000 in
set_option maxHeartbeats 2000000 in
theorem e_Letter_init (a0 : Nat) {fs : List Value} (h : am_H) (hr : h[a0]? = some (.inr (2, fs))) : am_cl m_Letter_init [.ref a0] h = Option.bind (am_na h 1 80) (fun h1 => Option.bind (am_pf h1 a0 2 0 (.ref (List.length h))) (fun h2 => am_bv (am_cl m_Row_init [.ref (List.length h2), .int 20] (h2 ++ [.inr (5, am_new 5)])) (fun h3 => Option.bind (am_pf h3 a0 2 2 (.ref (List.length h2))) (fun h4 => am_bv (am_cl m_Row_init [.ref (List.length h4), .int 20] (h4 ++ [.inr (5, am_new 5)])) (fun h5 => Option.bind (am_pf h5 a0 2 3 (.ref (List.length h4))) (fun h6 => am_bv (am_cl m_Row_init [.ref (List.length h6), .int 20] (h6 ++ [.inr (5, am_new 5)])) (fun h7 => Option.bind (am_pf h7 a0 2 4 (.ref (List.length h6))) (fun h8 => some (none, h8))))))))) := (am_cl_of rfl hr).trans (am_blk [] 30 rfl)
set_option maxRecDepth 100000 in
set_option maxHeartbeats 2000000 in
theorem e_Letter_append (a0 : Nat) (x1 : Int32) {fs : List Value} (h : am_H) (hr : h[a0]? = some (.inr (2, fs))) : am_cl m_Letter_append [.ref a0, .int x1] h = Option.bind (am_gi h a0 2 1) (fun i1 => (bif decide (i1 < 0) then some (some (.int 0), h) else Option.bind (am_gi h a0 2 1) (fun i2 => Option.bind (am_gr h a0 2 0) (fun r3 => Option.bind (am_len h r3) (fun n4 => (bif decide (i2 < n4) then Option.bind (am_gr h a0 2 0) (fun r5 => Option.bind (am_gi h a0 2 1) (fun i6 => Option.bind (am_as h 1 r5 i6 (vp_nar .char x1)) (fun h7 => Option.bind (am_gi h7 a0 2 1) (fun i8 => Option.bind (am_pf h7 a0 2 1 (.int (i8 + 1))) (fun h9 => some (some (.int 1), h9)))))) else some (some (.int 0), h))))))) := (am_cl_of rfl hr).trans (am_blk [] 30 rfl)
set_option maxRecDepth 100000 in
set_option maxHeartbeats 2000000 in
theorem e_Letter_isInOneWish (a0 : Nat) (x1 : Int32) (x2 : Int32) {fs : List Value} (h : am_H) (hr : h[a0]? = some (.inr (2, fs))) : am_cl m_Letter_isInOneWish [.ref a0, .int x1, .int x2] h = (bif decide (x1 < 0) then some (some (.int 0), h) else Option.bind (am_gi h a0 2 5) (fun i1 => (bif decide (i1 ≤ x2) then some (some (.int 0), h) else Option.bind (am_gr h a0 2 4) (fun r2 => am_bi (am_cl m_Row_get [.ref r2, .int x1] h) (fun w4 h3 => Option.bind (am_gr h3 a0 2 4) (fun r5 => am_bi (am_cl m_Row_get [.ref r5, .int x2] h3) (fun w7 h6 => (bif decide (¬ w4 = w7) then some (some (.int 0), h6) else some (some (.int 1), h6))))))))) := (am_cl_of rfl hr).trans (am_blk [] 24 rfl)
set_option maxRecDepth 100000 in
set_option maxHeartbeats 2000000 in
theorem e_Letter_read (a0 : Nat) (x1 : Int32) {fs : List Value} (h : am_H) (hr : h[a0]? = some (.inr (2, fs))) : am_cl m_Letter_read [.ref a0, .int x1] h = Option.bind (am_pf h a0 2 5 (.int 0)) (fun h1 => Option.bind (am_pf h1 a0 2 6 (.int 0)) (fun h2 => Option.bind (am_pf h2 a0 2 7 (.int 0)) (fun h3 => am_bv (am_cl m_Letter_startNumber [.ref a0] h3) (fun h4 => am_ev m_Letter_read (21, [.ref a0, .int x1, .int 0, .float 0, .float 0, .float 0], [], h4))))) := (am_cl_of rfl hr).trans (am_blk [21, 61] 68 rfl)
set_option maxRecDepth 100000 in
set_option maxHeartbeats 2000000 in
theorem b_Letter_read_21 (a0 : Nat) (x1 : Int32) (x2 : Int32) (u3 : Value) (u4 : Value) (u5 : Value) (h : am_H) : am_ev m_Letter_read (21, [.ref a0, .int x1, .int x2, u3, u4, u5], [], h) = Option.bind (am_gi h a0 2 1) (fun i1 => (bif decide (i1 ≤ x2) then am_bi (am_cl m_Letter_readEnd [.ref a0, .int x1] h) (fun w3 h2 => some (some (.int w3), h2)) else Option.bind (am_gr h a0 2 0) (fun r4 => Option.bind (am_len h r4) (fun n5 => (bif decide (n5 ≤ x2) then am_bi (am_cl m_Letter_readEnd [.ref a0, .int x1] h) (fun w7 h6 => some (some (.int w7), h6)) else Option.bind (am_gr h a0 2 0) (fun r8 => Option.bind (am_al h 1 r8 x2) (fun v9 => (bif decide (v9 < 48) then am_ev m_Letter_read (61, [.ref a0, .int x1, .int x2, .int v9, u4, u5], [], h) else (bif decide (57 < v9) then am_ev m_Letter_read (61, [.ref a0, .int x1, .int x2, .int v9, u4, u5], [], h) else am_bi (am_cl m_Letter_readDigit [.ref a0, .int (v9 - 48), .int x2] h) (fun w13 h12 => (bif decide (w13 = (-1)) then am_ev m_Letter_read (21, [.ref a0, .int x1, .int (x2 + 1), .int v9, .int 1, .int w13], [], h12) else some (some (.int w13), h12)))))))))))) := am_blk [21, 61] 68 rfl
set_option maxRecDepth 100000 in
set_option maxHeartbeats 2000000 in
theorem b_Letter_read_61 (a0 : Nat) (x1 : Int32) (x2 : Int32) (x3 : Int32) (u4 : Value) (u5 : Value) (h : am_H) : am_ev m_Letter_read (61, [.ref a0, .int x1, .int x2, .int x3, u4, u5], [], h) = am_bi (am_cl m_Letter_readMark [.ref a0, .int x3, .int x2, .int x1] h) (fun w2 h1 => (bif decide (w2 = (-1)) then am_ev m_Letter_read (21, [.ref a0, .int x1, .int (x2 + 1), .int x3, .int 0, .int w2], [], h1) else some (some (.int w2), h1))) := am_blk [21, 61] 68 rfl
set_option maxRecDepth 100000 in
set_option maxHeartbeats 2000000 in
theorem e_Letter_startNumber (a0 : Nat) {fs : List Value} (h : am_H) (hr : h[a0]? = some (.inr (2, fs))) : am_cl m_Letter_startNumber [.ref a0] h = Option.bind (am_pf h a0 2 8 (.int 0)) (fun h1 => Option.bind (am_pf h1 a0 2 9 (.int 0)) (fun h2 => some (none, h2))) := (am_cl_of rfl hr).trans (am_blk [] 12 rfl)
set_option maxRecDepth 100000 in
set_option maxHeartbeats 2000000 in
theorem e_Letter_readDigit (a0 : Nat) (x1 : Int32) (x2 : Int32) {fs : List Value} (h : am_H) (hr : h[a0]? = some (.inr (2, fs))) : am_cl m_Letter_readDigit [.ref a0, .int x1, .int x2] h = Option.bind (am_gi h a0 2 7) (fun i1 => (bif decide (i1 = 0) then Option.bind (am_gi h a0 2 9) (fun i2 => (bif decide (¬ i2 = 1) then am_ev m_Letter_readDigit (45, [.ref a0, .int x1, .int x2, .float 0], [], h) else Option.bind (am_gi h a0 2 8) (fun i3 => (bif decide (¬ i3 = 0) then am_ev m_Letter_readDigit (45, [.ref a0, .int x1, .int x2, .float 0], [], h) else some (some (.int x2), h))))) else Option.bind (am_gi h a0 2 9) (fun i14 => (bif decide (¬ i14 = 0) then am_ev m_Letter_readDigit (22, [.ref a0, .int x1, .int x2, .float 0], [], h) else (bif decide (¬ x1 = 0) then am_ev m_Letter_readDigit (22, [.ref a0, .int x1, .int x2, .float 0], [], h) else some (some (.int x2), h)))))) := (am_cl_of rfl hr).trans (am_blk [22, 45] 57 rfl)
set_option maxRecDepth 100000 in
set_option maxHeartbeats 2000000 in
theorem b_Letter_readDigit_22 (a0 : Nat) (x1 : Int32) (x2 : Int32) (h : am_H) : am_ev m_Letter_readDigit (22, [.ref a0, .int x1, .int x2, .float 0], [], h) = Option.bind (am_gi h a0 2 9) (fun i1 => Option.bind (am_gi h a0 2 7) (fun i2 => (bif decide (i2 = 0) then (bif decide (i1 < 2) then Option.bind (am_gi h a0 2 8) (fun i3 => Option.bind (am_pf h a0 2 8 (.int ((i3 * 10) + x1))) (fun h4 => Option.bind (am_gi h4 a0 2 9) (fun i5 => Option.bind (am_pf h4 a0 2 9 (.int (i5 + 1))) (fun h6 => some (some (.int (-1)), h6))))) else some (some (.int x2), h)) else (bif decide (i1 < 7) then Option.bind (am_gi h a0 2 8) (fun i7 => Option.bind (am_pf h a0 2 8 (.int ((i7 * 10) + x1))) (fun h8 => Option.bind (am_gi h8 a0 2 9) (fun i9 => Option.bind (am_pf h8 a0 2 9 (.int (i9 + 1))) (fun h10 => some (some (.int (-1)), h10))))) else some (some (.int x2), h))))) := am_blk [22, 45] 57 rfl
set_option maxRecDepth 100000 in
set_option maxHeartbeats 2000000 in
theorem b_Letter_readDigit_45 (a0 : Nat) (x1 : Int32) (x2 : Int32) (h : am_H) : am_ev m_Letter_readDigit (45, [.ref a0, .int x1, .int x2, .float 0], [], h) = Option.bind (am_gi h a0 2 9) (fun i1 => Option.bind (am_gi h a0 2 7) (fun i2 => (bif decide (i2 = 0) then (bif decide (i1 < 2) then Option.bind (am_gi h a0 2 8) (fun i3 => Option.bind (am_pf h a0 2 8 (.int ((i3 * 10) + x1))) (fun h4 => Option.bind (am_gi h4 a0 2 9) (fun i5 => Option.bind (am_pf h4 a0 2 9 (.int (i5 + 1))) (fun h6 => some (some (.int (-1)), h6))))) else some (some (.int x2), h)) else (bif decide (i1 < 7) then Option.bind (am_gi h a0 2 8) (fun i7 => Option.bind (am_pf h a0 2 8 (.int ((i7 * 10) + x1))) (fun h8 => Option.bind (am_gi h8 a0 2 9) (fun i9 => Option.bind (am_pf h8 a0 2 9 (.int (i9 + 1))) (fun h10 => some (some (.int (-1)), h10))))) else some (some (.int x2), h))))) := am_blk [22, 45] 57 rfl
set_option maxRecDepth 100000 in
set_option maxHeartbeats 2000000 in
theorem e_Letter_readMark (a0 : Nat) (x1 : Int32) (x2 : Int32) (x3 : Int32) {fs : List Value} (h : am_H) (hr : h[a0]? = some (.inr (2, fs))) : am_cl m_Letter_readMark [.ref a0, .int x1, .int x2, .int x3] h = Option.bind (am_gi h a0 2 9) (fun i1 => (bif decide (¬ i1 = 0) then am_bi (am_cl m_Letter_isTooGreat [.ref a0, .int x3] h) (fun w3 h2 => (bif decide (w3 = 0) then Option.bind (am_gi h2 a0 2 7) (fun i4 => (bif decide (i4 = 0) then (bif decide (¬ x1 = 61) then some (some (.int x2), h2) else am_bv (am_cl m_Letter_takeNumber [.ref a0] h2) (fun h8 => (bif decide (¬ x1 = 44) then some (some (.int (-1)), h8) else Option.bind (am_gi h8 a0 2 6) (fun i9 => Option.bind (am_pf h8 a0 2 6 (.int (i9 + 1))) (fun h10 => some (some (.int (-1)), h10)))))) else (bif decide (x1 = 44) then am_ev m_Letter_readMark (43, [.ref a0, .int x1, .int x2, .int x3, .float 0], [], h2) else (bif decide (¬ x1 = 47) then some (some (.int x2), h2) else am_ev m_Letter_readMark (43, [.ref a0, .int x1, .int x2, .int x3, .float 0], [], h2))))) else Option.bind (am_gi h2 a0 2 9) (fun i14 => some (some (.int (x2 - i14)), h2)))) else some (some (.int x2), h))) := (am_cl_of rfl hr).trans (am_blk [43] 56 rfl)
set_option maxRecDepth 100000 in
set_option maxHeartbeats 2000000 in
theorem b_Letter_readMark_43 (a0 : Nat) (x1 : Int32) (x2 : Int32) (x3 : Int32) (h : am_H) : am_ev m_Letter_readMark (43, [.ref a0, .int x1, .int x2, .int x3, .float 0], [], h) = am_bv (am_cl m_Letter_takeNumber [.ref a0] h) (fun h1 => (bif decide (¬ x1 = 44) then some (some (.int (-1)), h1) else Option.bind (am_gi h1 a0 2 6) (fun i2 => Option.bind (am_pf h1 a0 2 6 (.int (i2 + 1))) (fun h3 => some (some (.int (-1)), h3))))) := am_blk [43] 56 rfl
set_option maxRecDepth 100000 in
set_option maxHeartbeats 2000000 in
theorem e_Letter_readEnd (a0 : Nat) (x1 : Int32) {fs : List Value} (h : am_H) (hr : h[a0]? = some (.inr (2, fs))) : am_cl m_Letter_readEnd [.ref a0, .int x1] h = Option.bind (am_gi h a0 2 9) (fun i1 => (bif decide (i1 ≤ 0) then am_ev m_Letter_readEnd (25, [.ref a0, .int x1], [], h) else am_bi (am_cl m_Letter_isTooGreat [.ref a0, .int x1] h) (fun w3 h2 => (bif decide (w3 = 0) then am_ev m_Letter_readEnd (25, [.ref a0, .int x1], [], h2) else Option.bind (am_gi h2 a0 2 1) (fun i4 => Option.bind (am_gi h2 a0 2 9) (fun i5 => some (some (.int (i4 - i5)), h2))))))) := (am_cl_of rfl hr).trans (am_blk [25] 31 rfl)
set_option maxRecDepth 100000 in
set_option maxHeartbeats 2000000 in
theorem b_Letter_readEnd_25 (a0 : Nat) (x1 : Int32) (h : am_H) : am_ev m_Letter_readEnd (25, [.ref a0, .int x1], [], h) = Option.bind (am_gi h a0 2 7) (fun i1 => (bif decide (i1 = 0) then Option.bind (am_gi h a0 2 1) (fun i2 => some (some (.int i2), h)) else Option.bind (am_gi h a0 2 9) (fun i3 => (bif decide (¬ i3 = 0) then am_bv (am_cl m_Letter_takeNumber [.ref a0] h) (fun h4 => some (some (.int (-1)), h4)) else Option.bind (am_gi h a0 2 1) (fun i5 => some (some (.int i5), h)))))) := am_blk [25] 31 rfl
set_option maxRecDepth 100000 in
set_option maxHeartbeats 2000000 in
theorem e_Letter_isTooGreat (a0 : Nat) (x1 : Int32) {fs : List Value} (h : am_H) (hr : h[a0]? = some (.inr (2, fs))) : am_cl m_Letter_isTooGreat [.ref a0, .int x1] h = Option.bind (am_gi h a0 2 7) (fun i1 => (bif decide (i1 = 0) then Option.bind (am_gi h a0 2 8) (fun i2 => (bif decide (i2 < x1) then some (some (.int 0), h) else some (some (.int 1), h))) else Option.bind (am_gi h a0 2 8) (fun i3 => (bif decide (i3 ≤ 1000000) then some (some (.int 0), h) else some (some (.int 1), h))))) := (am_cl_of rfl hr).trans (am_blk [] 24 rfl)
set_option maxRecDepth 100000 in
set_option maxHeartbeats 2000000 in
theorem e_Letter_takeNumber (a0 : Nat) {fs : List Value} (h : am_H) (hr : h[a0]? = some (.inr (2, fs))) : am_cl m_Letter_takeNumber [.ref a0] h = Option.bind (am_gi h a0 2 7) (fun i1 => (bif decide (i1 = 0) then Option.bind (am_gr h a0 2 2) (fun r2 => Option.bind (am_gi h a0 2 5) (fun i3 => Option.bind (am_gi h a0 2 8) (fun i4 => am_bv (am_cl m_Row_put [.ref r2, .int i3, .int i4] h) (fun h5 => Option.bind (am_gi h5 a0 2 7) (fun i6 => (bif decide (¬ i6 = 0) then Option.bind (am_pf h5 a0 2 7 (.int 0)) (fun h7 => am_bv (am_cl m_Letter_startNumber [.ref a0] h7) (fun h8 => some (none, h8))) else Option.bind (am_pf h5 a0 2 7 (.int 1)) (fun h9 => am_bv (am_cl m_Letter_startNumber [.ref a0] h9) (fun h10 => some (none, h10))))))))) else Option.bind (am_gr h a0 2 3) (fun r11 => Option.bind (am_gi h a0 2 5) (fun i12 => Option.bind (am_gi h a0 2 8) (fun i13 => am_bv (am_cl m_Row_put [.ref r11, .int i12, .int i13] h) (fun h14 => Option.bind (am_gr h14 a0 2 4) (fun r15 => Option.bind (am_gi h14 a0 2 5) (fun i16 => Option.bind (am_gi h14 a0 2 6) (fun i17 => am_bv (am_cl m_Row_put [.ref r15, .int i16, .int i17] h14) (fun h18 => Option.bind (am_gi h18 a0 2 5) (fun i19 => Option.bind (am_pf h18 a0 2 5 (.int (i19 + 1))) (fun h20 => Option.bind (am_gi h20 a0 2 7) (fun i21 => (bif decide (¬ i21 = 0) then Option.bind (am_pf h20 a0 2 7 (.int 0)) (fun h22 => am_bv (am_cl m_Letter_startNumber [.ref a0] h22) (fun h23 => some (none, h23))) else Option.bind (am_pf h20 a0 2 7 (.int 1)) (fun h24 => am_bv (am_cl m_Letter_startNumber [.ref a0] h24) (fun h25 => some (none, h25))))))))))))))))) := (am_cl_of rfl hr).trans (am_blk [] 47 rfl)
set_option maxRecDepth 100000 in
set_option maxHeartbeats 2000000 in
theorem e_Lots_init (a0 : Nat) {fs : List Value} (h : am_H) (hr : h[a0]? = some (.inr (3, fs))) : am_cl m_Lots_init [.ref a0] h = am_bv (am_cl m_Row_init [.ref (List.length h), .int 20] (h ++ [.inr (5, am_new 5)])) (fun h1 => Option.bind (am_pf h1 a0 3 0 (.ref (List.length h))) (fun h2 => am_bv (am_cl m_Row_init [.ref (List.length h2), .int 20] (h2 ++ [.inr (5, am_new 5)])) (fun h3 => Option.bind (am_pf h3 a0 3 1 (.ref (List.length h2))) (fun h4 => am_bv (am_cl m_Row_init [.ref (List.length h4), .int 20] (h4 ++ [.inr (5, am_new 5)])) (fun h5 => Option.bind (am_pf h5 a0 3 2 (.ref (List.length h4))) (fun h6 => am_bv (am_cl m_Row_init [.ref (List.length h6), .int 20] (h6 ++ [.inr (5, am_new 5)])) (fun h7 => Option.bind (am_pf h7 a0 3 3 (.ref (List.length h6))) (fun h8 => some (none, h8))))))))) := (am_cl_of rfl hr).trans (am_blk [] 32 rfl)
set_option maxRecDepth 100000 in
set_option maxHeartbeats 2000000 in
theorem e_Lots_copy (a0 : Nat) (a1 : Nat) {fs : List Value} (h : am_H) (hr : h[a0]? = some (.inr (3, fs))) : am_cl m_Lots_copy [.ref a0, .ref a1] h = Option.bind (am_gr h a0 3 0) (fun r1 => Option.bind (am_gr h a1 3 0) (fun r2 => am_bv (am_cl m_Row_copy [.ref r1, .ref r2] h) (fun h3 => Option.bind (am_gr h3 a0 3 1) (fun r4 => Option.bind (am_gr h3 a1 3 1) (fun r5 => am_bv (am_cl m_Row_copy [.ref r4, .ref r5] h3) (fun h6 => Option.bind (am_gr h6 a0 3 2) (fun r7 => Option.bind (am_gr h6 a1 3 2) (fun r8 => am_bv (am_cl m_Row_copy [.ref r7, .ref r8] h6) (fun h9 => Option.bind (am_gr h9 a0 3 3) (fun r10 => Option.bind (am_gr h9 a1 3 3) (fun r11 => am_bv (am_cl m_Row_copy [.ref r10, .ref r11] h9) (fun h12 => Option.bind (am_gi h12 a1 3 4) (fun i13 => Option.bind (am_pf h12 a0 3 4 (.int i13)) (fun h14 => some (none, h14))))))))))))))) := (am_cl_of rfl hr).trans (am_blk [] 30 rfl)
set_option maxRecDepth 100000 in
set_option maxHeartbeats 2000000 in
theorem e_Lots_add (a0 : Nat) (x1 : Int32) (x2 : Int32) (x3 : Int32) {fs : List Value} (h : am_H) (hr : h[a0]? = some (.inr (3, fs))) : am_cl m_Lots_add [.ref a0, .int x1, .int x2, .int x3] h = Option.bind (am_gr h a0 3 0) (fun r1 => Option.bind (am_gi h a0 3 4) (fun i2 => am_bv (am_cl m_Row_put [.ref r1, .int i2, .int x1] h) (fun h3 => Option.bind (am_gr h3 a0 3 1) (fun r4 => Option.bind (am_gi h3 a0 3 4) (fun i5 => am_bv (am_cl m_Row_put [.ref r4, .int i5, .int x2] h3) (fun h6 => Option.bind (am_gr h6 a0 3 2) (fun r7 => Option.bind (am_gi h6 a0 3 4) (fun i8 => am_bv (am_cl m_Row_put [.ref r7, .int i8, .int x3] h6) (fun h9 => Option.bind (am_gr h9 a0 3 3) (fun r10 => Option.bind (am_gi h9 a0 3 4) (fun i11 => am_bv (am_cl m_Row_put [.ref r10, .int i11, .int 0] h9) (fun h12 => Option.bind (am_gi h12 a0 3 4) (fun i13 => Option.bind (am_pf h12 a0 3 4 (.int (i13 + 1))) (fun h14 => Option.bind (am_gi h14 a0 3 4) (fun i15 => some (some (.int (i15 - 1)), h14)))))))))))))))) := (am_cl_of rfl hr).trans (am_blk [] 40 rfl)
set_option maxRecDepth 100000 in
set_option maxHeartbeats 2000000 in
theorem e_Money_init (a0 : Nat) (a1 : Nat) (a2 : Nat) {fs : List Value} (h : am_H) (hr : h[a0]? = some (.inr (4, fs))) : am_cl m_Money_init [.ref a0, .ref a1, .ref a2] h = Option.bind (am_pf h a0 4 0 (.ref a1)) (fun h1 => Option.bind (am_pf h1 a0 4 1 (.ref a2)) (fun h2 => some (none, h2))) := (am_cl_of rfl hr).trans (am_blk [] 14 rfl)
set_option maxRecDepth 100000 in
set_option maxHeartbeats 2000000 in
theorem e_Money_paidBy (a0 : Nat) (x1 : Int32) {fs : List Value} (h : am_H) (hr : h[a0]? = some (.inr (4, fs))) : am_cl m_Money_paidBy [.ref a0, .int x1] h = am_ev m_Money_paidBy (4, [.ref a0, .int x1, .int 0, .int 0], [], h) := (am_cl_of rfl hr).trans (am_blk [4] 38 rfl)
set_option maxRecDepth 100000 in
set_option maxHeartbeats 2000000 in
theorem b_Money_paidBy_4 (a0 : Nat) (x1 : Int32) (x2 : Int32) (x3 : Int32) (h : am_H) : am_ev m_Money_paidBy (4, [.ref a0, .int x1, .int x2, .int x3], [], h) = Option.bind (am_gr h a0 4 0) (fun r1 => Option.bind (am_gr h r1 7 1) (fun r2 => Option.bind (am_gi h r2 3 4) (fun i3 => (bif decide (i3 ≤ x3) then some (some (.int x2), h) else Option.bind (am_gr h a0 4 1) (fun r4 => Option.bind (am_gr h r4 6 1) (fun r5 => am_bi (am_cl m_Row_get [.ref r5, .int x3] h) (fun w7 h6 => (bif decide (¬ w7 = x1) then am_ev m_Money_paidBy (4, [.ref a0, .int x1, .int x2, .int (x3 + 1)], [], h6) else am_bi (am_cl m_Money_part [.ref a0, .int 0, .int x3] h6) (fun w9 h8 => am_bi (am_cl m_Money_part [.ref a0, .int 1, .int x3] h8) (fun w11 h10 => am_ev m_Money_paidBy (4, [.ref a0, .int x1, .int (x2 + (w9 + w11)), .int (x3 + 1)], [], h10))))))))))) := am_blk [4] 38 rfl
set_option maxRecDepth 100000 in
set_option maxHeartbeats 2000000 in
theorem e_Money_total (a0 : Nat) (x1 : Int32) (x2 : Int32) {fs : List Value} (h : am_H) (hr : h[a0]? = some (.inr (4, fs))) : am_cl m_Money_total [.ref a0, .int x1, .int x2] h = am_ev m_Money_total (5, [.ref a0, .int x1, .int x2, .long 0, .float 0, .int 0], [], h) := (am_cl_of rfl hr).trans (am_blk [5] 38 rfl)
set_option maxRecDepth 100000 in
set_option maxHeartbeats 2000000 in
theorem b_Money_total_5 (a0 : Nat) (x1 : Int32) (x2 : Int32) (l3 : Int64) (x5 : Int32) (h : am_H) : am_ev m_Money_total (5, [.ref a0, .int x1, .int x2, .long l3, .float 0, .int x5], [], h) = Option.bind (am_gr h a0 4 0) (fun r1 => Option.bind (am_gr h r1 7 1) (fun r2 => Option.bind (am_gi h r2 3 4) (fun i3 => (bif decide (i3 ≤ x5) then some (some (.long l3), h) else (bif decide (x2 = (-1)) then am_bi (am_cl m_Money_part [.ref a0, .int x1, .int x5] h) (fun w5 h4 => am_ev m_Money_total (5, [.ref a0, .int x1, .int x2, .long (l3 + (Int32.toInt64 w5)), .float 0, .int (x5 + 1)], [], h4)) else Option.bind (am_gr h a0 4 0) (fun r6 => Option.bind (am_gr h r6 7 1) (fun r7 => Option.bind (am_gr h r7 3 0) (fun r8 => am_bi (am_cl m_Row_get [.ref r8, .int x5] h) (fun w10 h9 => (bif decide (¬ x2 = w10) then am_ev m_Money_total (5, [.ref a0, .int x1, .int x2, .long l3, .float 0, .int (x5 + 1)], [], h9) else am_bi (am_cl m_Money_part [.ref a0, .int x1, .int x5] h9) (fun w12 h11 => am_ev m_Money_total (5, [.ref a0, .int x1, .int x2, .long (l3 + (Int32.toInt64 w12)), .float 0, .int (x5 + 1)], [], h11)))))))))))) := am_blk [5] 38 rfl
set_option maxRecDepth 100000 in
set_option maxHeartbeats 2000000 in
theorem e_Money_payments (a0 : Nat) {fs : List Value} (h : am_H) (hr : h[a0]? = some (.inr (4, fs))) : am_cl m_Money_payments [.ref a0] h = am_bl (am_cl m_Money_total [.ref a0, .int 0, .int (-1)] h) (fun w2 h1 => am_bl (am_cl m_Money_total [.ref a0, .int 1, .int (-1)] h1) (fun w4 h3 => some (some (.long (w2 + w4)), h3))) := (am_cl_of rfl hr).trans (am_blk [] 15 rfl)
set_option maxRecDepth 100000 in
set_option maxHeartbeats 2000000 in
theorem e_Money_receipts (a0 : Nat) (x1 : Int32) {fs : List Value} (h : am_H) (hr : h[a0]? = some (.inr (4, fs))) : am_cl m_Money_receipts [.ref a0, .int x1] h = am_bl (am_cl m_Money_total [.ref a0, .int 0, .int x1] h) (fun w2 h1 => am_bl (am_cl m_Money_total [.ref a0, .int 2, .int x1] h1) (fun w4 h3 => am_bl (am_cl m_Money_total [.ref a0, .int 3, .int x1] h3) (fun w6 h5 => some (some (.long ((w2 - w4) - w6)), h5)))) := (am_cl_of rfl hr).trans (am_blk [] 20 rfl)
set_option maxRecDepth 100000 in
set_option maxHeartbeats 2000000 in
theorem e_Money_part (a0 : Nat) (x1 : Int32) (x2 : Int32) {fs : List Value} (h : am_H) (hr : h[a0]? = some (.inr (4, fs))) : am_cl m_Money_part [.ref a0, .int x1, .int x2] h = Option.bind (am_gr h a0 4 1) (fun r1 => Option.bind (am_gr h r1 6 2) (fun r2 => am_bi (am_cl m_Row_get [.ref r2, .int x2] h) (fun w4 h3 => (bif decide (x1 = 0) then some (some (.int w4), h3) else (bif decide (x1 = 1) then Option.bind (am_gr h3 a0 4 0) (fun r15 => Option.bind (am_gr h3 r15 7 5) (fun r16 => am_bi (am_cl m_Row_get [.ref r16, .int 1] h3) (fun w18 h17 => some (some (.int ((w4 * w18) / 1000)), h17)))) else (bif decide (x1 = 2) then Option.bind (am_gr h3 a0 4 0) (fun r11 => Option.bind (am_gr h3 r11 7 5) (fun r12 => am_bi (am_cl m_Row_get [.ref r12, .int 2] h3) (fun w14 h13 => some (some (.int ((w4 * w14) / 1000)), h13)))) else am_bi (am_cl m_Money_owesFee [.ref a0, .int x2] h3) (fun w6 h5 => (bif decide (w6 = 0) then some (some (.int 0), h5) else Option.bind (am_gr h5 a0 4 0) (fun r7 => Option.bind (am_gr h5 r7 7 5) (fun r8 => am_bi (am_cl m_Row_get [.ref r8, .int 3] h5) (fun w10 h9 => some (some (.int w10), h9)))))))))))) := (am_cl_of rfl hr).trans (am_blk [] 47 rfl)
set_option maxRecDepth 100000 in
set_option maxHeartbeats 2000000 in
theorem e_Money_owesFee (a0 : Nat) (x1 : Int32) {fs : List Value} (h : am_H) (hr : h[a0]? = some (.inr (4, fs))) : am_cl m_Money_owesFee [.ref a0, .int x1] h = Option.bind (am_gr h a0 4 1) (fun r1 => Option.bind (am_gr h r1 6 3) (fun r2 => am_bi (am_cl m_Row_get [.ref r2, .int x1] h) (fun w4 h3 => (bif decide (w4 = 1) then some (some (.int 1), h3) else (bif decide (¬ w4 = 2) then some (some (.int 0), h3) else some (some (.int 1), h3)))))) := (am_cl_of rfl hr).trans (am_blk [] 21 rfl)
set_option maxRecDepth 100000 in
set_option maxHeartbeats 2000000 in
theorem e_Row_init (a0 : Nat) (x1 : Int32) {fs : List Value} (h : am_H) (hr : h[a0]? = some (.inr (5, fs))) : am_cl m_Row_init [.ref a0, .int x1] h = Option.bind (am_na h 0 (am_max x1 0)) (fun h1 => Option.bind (am_pf h1 a0 5 0 (.ref (List.length h))) (fun h2 => some (none, h2))) := (am_cl_of rfl hr).trans (am_blk [] 14 rfl)
set_option maxRecDepth 100000 in
set_option maxHeartbeats 2000000 in
theorem e_Row_get (a0 : Nat) (x1 : Int32) {fs : List Value} (h : am_H) (hr : h[a0]? = some (.inr (5, fs))) : am_cl m_Row_get [.ref a0, .int x1] h = (bif decide (x1 < 0) then some (some (.int 0), h) else Option.bind (am_gr h a0 5 0) (fun r1 => Option.bind (am_len h r1) (fun n2 => (bif decide (n2 ≤ x1) then some (some (.int 0), h) else Option.bind (am_gr h a0 5 0) (fun r3 => Option.bind (am_al h 0 r3 x1) (fun v4 => some (some (.int v4), h))))))) := (am_cl_of rfl hr).trans (am_blk [] 19 rfl)
set_option maxRecDepth 100000 in
set_option maxHeartbeats 2000000 in
theorem e_Row_put (a0 : Nat) (x1 : Int32) (x2 : Int32) {fs : List Value} (h : am_H) (hr : h[a0]? = some (.inr (5, fs))) : am_cl m_Row_put [.ref a0, .int x1, .int x2] h = (bif decide (x1 < 0) then some (none, h) else Option.bind (am_gr h a0 5 0) (fun r1 => Option.bind (am_len h r1) (fun n2 => (bif decide (n2 ≤ x1) then some (none, h) else Option.bind (am_gr h a0 5 0) (fun r3 => Option.bind (am_as h 0 r3 x1 x2) (fun h4 => some (none, h4))))))) := (am_cl_of rfl hr).trans (am_blk [] 18 rfl)
set_option maxRecDepth 100000 in
set_option maxHeartbeats 2000000 in
theorem e_Row_copy (a0 : Nat) (a1 : Nat) {fs : List Value} (h : am_H) (hr : h[a0]? = some (.inr (5, fs))) : am_cl m_Row_copy [.ref a0, .ref a1] h = Option.bind (am_gr h a1 5 0) (fun r1 => Option.bind (am_gr h a0 5 0) (fun r2 => Option.bind (am_gr h a1 5 0) (fun r3 => Option.bind (am_len h r3) (fun n4 => Option.bind (am_gr h a0 5 0) (fun r5 => Option.bind (am_len h r5) (fun n6 => Option.bind (am_cp h r1 0 r2 0 (am_min n4 n6)) (fun h7 => some (none, h7)))))))) := (am_cl_of rfl hr).trans (am_blk [] 20 rfl)
set_option maxRecDepth 100000 in
set_option maxHeartbeats 2000000 in
theorem e_Row_sum (a0 : Nat) (x1 : Int32) {fs : List Value} (h : am_H) (hr : h[a0]? = some (.inr (5, fs))) : am_cl m_Row_sum [.ref a0, .int x1] h = am_ev m_Row_sum (4, [.ref a0, .int x1, .int 0, .int 0], [], h) := (am_cl_of rfl hr).trans (am_blk [4] 28 rfl)
set_option maxRecDepth 100000 in
set_option maxHeartbeats 2000000 in
theorem b_Row_sum_4 (a0 : Nat) (x1 : Int32) (x2 : Int32) (x3 : Int32) (h : am_H) : am_ev m_Row_sum (4, [.ref a0, .int x1, .int x2, .int x3], [], h) = (bif decide (x1 ≤ x3) then some (some (.int x2), h) else Option.bind (am_gr h a0 5 0) (fun r1 => Option.bind (am_len h r1) (fun n2 => (bif decide (n2 ≤ x3) then some (some (.int x2), h) else Option.bind (am_gr h a0 5 0) (fun r3 => Option.bind (am_al h 0 r3 x3) (fun v4 => am_ev m_Row_sum (4, [.ref a0, .int x1, .int (x2 + v4), .int (x3 + 1)], [], h))))))) := am_blk [4] 28 rfl
set_option maxRecDepth 100000 in
set_option maxHeartbeats 2000000 in
theorem e_Row_countOf (a0 : Nat) (x1 : Int32) (x2 : Int32) {fs : List Value} (h : am_H) (hr : h[a0]? = some (.inr (5, fs))) : am_cl m_Row_countOf [.ref a0, .int x1, .int x2] h = am_ev m_Row_countOf (5, [.ref a0, .int x1, .int x2, .int 0, .int 0], [], h) := (am_cl_of rfl hr).trans (am_blk [5] 28 rfl)
set_option maxRecDepth 100000 in
set_option maxHeartbeats 2000000 in
theorem b_Row_countOf_5 (a0 : Nat) (x1 : Int32) (x2 : Int32) (x3 : Int32) (x4 : Int32) (h : am_H) : am_ev m_Row_countOf (5, [.ref a0, .int x1, .int x2, .int x3, .int x4], [], h) = (bif decide (x2 ≤ x4) then some (some (.int x3), h) else Option.bind (am_gr h a0 5 0) (fun r1 => Option.bind (am_len h r1) (fun n2 => (bif decide (n2 ≤ x4) then some (some (.int x3), h) else Option.bind (am_gr h a0 5 0) (fun r3 => Option.bind (am_al h 0 r3 x4) (fun v4 => (bif decide (¬ v4 = x1) then am_ev m_Row_countOf (5, [.ref a0, .int x1, .int x2, .int x3, .int (x4 + 1)], [], h) else am_ev m_Row_countOf (5, [.ref a0, .int x1, .int x2, .int (x3 + 1), .int (x4 + 1)], [], h)))))))) := am_blk [5] 28 rfl
set_option maxRecDepth 100000 in
set_option maxHeartbeats 2000000 in
theorem e_State_init (a0 : Nat) {fs : List Value} (h : am_H) (hr : h[a0]? = some (.inr (7, fs))) : am_cl m_State_init [.ref a0] h = am_bv (am_cl m_Steps_init [.ref (List.length h)] (h ++ [.inr (8, am_new 8)])) (fun h1 => Option.bind (am_pf h1 a0 7 0 (.ref (List.length h))) (fun h2 => am_bv (am_cl m_Lots_init [.ref (List.length h2)] (h2 ++ [.inr (3, am_new 3)])) (fun h3 => Option.bind (am_pf h3 a0 7 1 (.ref (List.length h2))) (fun h4 => am_bv (am_cl m_Row_init [.ref (List.length h4), .int 8] (h4 ++ [.inr (5, am_new 5)])) (fun h5 => Option.bind (am_pf h5 a0 7 2 (.ref (List.length h4))) (fun h6 => am_bv (am_cl m_Bids_init [.ref (List.length h6)] (h6 ++ [.inr (0, am_new 0)])) (fun h7 => Option.bind (am_pf h7 a0 7 4 (.ref (List.length h6))) (fun h8 => am_bv (am_cl m_Row_init [.ref (List.length h8), .int 4] (h8 ++ [.inr (5, am_new 5)])) (fun h9 => Option.bind (am_pf h9 a0 7 5 (.ref (List.length h8))) (fun h10 => Option.bind (am_gr h10 a0 7 5) (fun r11 => am_bv (am_cl m_Row_put [.ref r11, .int 0, .int 50000] h10) (fun h12 => Option.bind (am_gr h12 a0 7 5) (fun r13 => am_bv (am_cl m_Row_put [.ref r13, .int 1, .int 150] h12) (fun h14 => Option.bind (am_gr h14 a0 7 5) (fun r15 => am_bv (am_cl m_Row_put [.ref r15, .int 2, .int 100] h14) (fun h16 => Option.bind (am_gr h16 a0 7 5) (fun r17 => am_bv (am_cl m_Row_put [.ref r17, .int 3, .int 2] h16) (fun h18 => some (none, h18))))))))))))))))))) := (am_cl_of rfl hr).trans (am_blk [] 55 rfl)
set_option maxRecDepth 100000 in
set_option maxHeartbeats 2000000 in
theorem e_State_copy (a0 : Nat) (a1 : Nat) {fs : List Value} (h : am_H) (hr : h[a0]? = some (.inr (7, fs))) : am_cl m_State_copy [.ref a0, .ref a1] h = Option.bind (am_gr h a0 7 0) (fun r1 => Option.bind (am_gr h a1 7 0) (fun r2 => am_bv (am_cl m_Steps_copy [.ref r1, .ref r2] h) (fun h3 => Option.bind (am_gr h3 a0 7 1) (fun r4 => Option.bind (am_gr h3 a1 7 1) (fun r5 => am_bv (am_cl m_Lots_copy [.ref r4, .ref r5] h3) (fun h6 => Option.bind (am_gr h6 a0 7 2) (fun r7 => Option.bind (am_gr h6 a1 7 2) (fun r8 => am_bv (am_cl m_Row_copy [.ref r7, .ref r8] h6) (fun h9 => Option.bind (am_gi h9 a1 7 3) (fun i10 => Option.bind (am_pf h9 a0 7 3 (.int i10)) (fun h11 => Option.bind (am_gr h11 a0 7 4) (fun r12 => Option.bind (am_gr h11 a1 7 4) (fun r13 => am_bv (am_cl m_Bids_copy [.ref r12, .ref r13] h11) (fun h14 => Option.bind (am_gr h14 a0 7 5) (fun r15 => Option.bind (am_gr h14 a1 7 5) (fun r16 => am_bv (am_cl m_Row_copy [.ref r15, .ref r16] h14) (fun h17 => some (none, h17)))))))))))))))))) := (am_cl_of rfl hr).trans (am_blk [] 35 rfl)
set_option maxRecDepth 100000 in
set_option maxHeartbeats 2000000 in
theorem e_State_askingPrice (a0 : Nat) (x1 : Int32) {fs : List Value} (h : am_H) (hr : h[a0]? = some (.inr (7, fs))) : am_cl m_State_askingPrice [.ref a0, .int x1] h = Option.bind (am_gr h a0 7 0) (fun r1 => Option.bind (am_gr h a0 7 1) (fun r2 => Option.bind (am_gr h r2 3 1) (fun r3 => am_bi (am_cl m_Row_get [.ref r3, .int x1] h) (fun w5 h4 => Option.bind (am_gr h4 a0 7 1) (fun r6 => Option.bind (am_gr h4 r6 3 2) (fun r7 => am_bi (am_cl m_Row_get [.ref r7, .int x1] h4) (fun w9 h8 => am_bi (am_cl m_Steps_ceiling [.ref r1, .int (am_max w5 w9)] h8) (fun w11 h10 => some (some (.int w11), h10))))))))) := (am_cl_of rfl hr).trans (am_blk [] 20 rfl)
set_option maxRecDepth 100000 in
set_option maxHeartbeats 2000000 in
theorem e_State_isLate (a0 : Nat) (x1 : Int32) {fs : List Value} (h : am_H) (hr : h[a0]? = some (.inr (7, fs))) : am_cl m_State_isLate [.ref a0, .int x1] h = Option.bind (am_gr h a0 7 4) (fun r1 => Option.bind (am_gr h r1 0 3) (fun r2 => am_bi (am_cl m_Row_get [.ref r2, .int x1] h) (fun w4 h3 => Option.bind (am_gr h3 a0 7 5) (fun r5 => am_bi (am_cl m_Row_get [.ref r5, .int 0] h3) (fun w7 h6 => (bif decide (w4 ≤ w7) then some (some (.int 0), h6) else some (some (.int 1), h6))))))) := (am_cl_of rfl hr).trans (am_blk [] 19 rfl)
set_option maxRecDepth 100000 in
set_option maxHeartbeats 2000000 in
theorem e_State_lateBids (a0 : Nat) {fs : List Value} (h : am_H) (hr : h[a0]? = some (.inr (7, fs))) : am_cl m_State_lateBids [.ref a0] h = am_ev m_State_lateBids (4, [.ref a0, .int 0, .int 0], [], h) := (am_cl_of rfl hr).trans (am_blk [4] 23 rfl)
set_option maxRecDepth 100000 in
set_option maxHeartbeats 2000000 in
theorem b_State_lateBids_4 (a0 : Nat) (x1 : Int32) (x2 : Int32) (h : am_H) : am_ev m_State_lateBids (4, [.ref a0, .int x1, .int x2], [], h) = Option.bind (am_gr h a0 7 4) (fun r1 => Option.bind (am_gi h r1 0 6) (fun i2 => (bif decide (i2 ≤ x2) then some (some (.int x1), h) else am_bi (am_cl m_State_isLate [.ref a0, .int x2] h) (fun w4 h3 => (bif decide (w4 = 0) then am_ev m_State_lateBids (4, [.ref a0, .int x1, .int (x2 + 1)], [], h3) else am_ev m_State_lateBids (4, [.ref a0, .int (x1 + 1), .int (x2 + 1)], [], h3)))))) := am_blk [4] 23 rfl
set_option maxRecDepth 100000 in
set_option maxHeartbeats 2000000 in
theorem e_Steps_init (a0 : Nat) {fs : List Value} (h : am_H) (hr : h[a0]? = some (.inr (8, fs))) : am_cl m_Steps_init [.ref a0] h = am_bv (am_cl m_Row_init [.ref (List.length h), .int 8] (h ++ [.inr (5, am_new 5)])) (fun h1 => Option.bind (am_pf h1 a0 8 0 (.ref (List.length h))) (fun h2 => am_bv (am_cl m_Row_init [.ref (List.length h2), .int 8] (h2 ++ [.inr (5, am_new 5)])) (fun h3 => Option.bind (am_pf h3 a0 8 1 (.ref (List.length h2))) (fun h4 => Option.bind (am_pf h4 a0 8 2 (.int 1)) (fun h5 => Option.bind (am_gr h5 a0 8 1) (fun r6 => am_bv (am_cl m_Row_put [.ref r6, .int 0, .int 5] h5) (fun h7 => some (none, h7)))))))) := (am_cl_of rfl hr).trans (am_blk [] 28 rfl)
set_option maxRecDepth 100000 in
set_option maxHeartbeats 2000000 in
theorem e_Steps_copy (a0 : Nat) (a1 : Nat) {fs : List Value} (h : am_H) (hr : h[a0]? = some (.inr (8, fs))) : am_cl m_Steps_copy [.ref a0, .ref a1] h = Option.bind (am_gr h a0 8 0) (fun r1 => Option.bind (am_gr h a1 8 0) (fun r2 => am_bv (am_cl m_Row_copy [.ref r1, .ref r2] h) (fun h3 => Option.bind (am_gr h3 a0 8 1) (fun r4 => Option.bind (am_gr h3 a1 8 1) (fun r5 => am_bv (am_cl m_Row_copy [.ref r4, .ref r5] h3) (fun h6 => Option.bind (am_gi h6 a1 8 2) (fun i7 => Option.bind (am_pf h6 a0 8 2 (.int i7)) (fun h8 => some (none, h8))))))))) := (am_cl_of rfl hr).trans (am_blk [] 20 rfl)
set_option maxRecDepth 100000 in
set_option maxHeartbeats 2000000 in
theorem e_Steps_hasBand (a0 : Nat) (x1 : Int32) {fs : List Value} (h : am_H) (hr : h[a0]? = some (.inr (8, fs))) : am_cl m_Steps_hasBand [.ref a0, .int x1] h = am_bi (am_cl m_Steps_placeOf [.ref a0, .int x1] h) (fun w2 h1 => Option.bind (am_gi h1 a0 8 2) (fun i3 => (bif decide (i3 ≤ w2) then some (some (.int 0), h1) else some (some (.int 1), h1)))) := (am_cl_of rfl hr).trans (am_blk [] 15 rfl)
set_option maxRecDepth 100000 in
set_option maxHeartbeats 2000000 in
theorem e_Steps_hasRoomFor (a0 : Nat) (x1 : Int32) {fs : List Value} (h : am_H) (hr : h[a0]? = some (.inr (8, fs))) : am_cl m_Steps_hasRoomFor [.ref a0, .int x1] h = am_bi (am_cl m_Steps_placeOf [.ref a0, .int x1] h) (fun w2 h1 => (bif decide (8 ≤ w2) then some (some (.int 0), h1) else some (some (.int 1), h1))) := (am_cl_of rfl hr).trans (am_blk [] 14 rfl)
set_option maxRecDepth 100000 in
set_option maxHeartbeats 2000000 in
theorem e_Steps_putBand (a0 : Nat) (x1 : Int32) (x2 : Int32) {fs : List Value} (h : am_H) (hr : h[a0]? = some (.inr (8, fs))) : am_cl m_Steps_putBand [.ref a0, .int x1, .int x2] h = am_bi (am_cl m_Steps_placeOf [.ref a0, .int x1] h) (fun w2 h1 => Option.bind (am_gr h1 a0 8 0) (fun r3 => am_bv (am_cl m_Row_put [.ref r3, .int w2, .int x1] h1) (fun h4 => Option.bind (am_gr h4 a0 8 1) (fun r5 => am_bv (am_cl m_Row_put [.ref r5, .int w2, .int x2] h4) (fun h6 => Option.bind (am_gi h6 a0 8 2) (fun i7 => Option.bind (am_pf h6 a0 8 2 (.int (am_max i7 (w2 + 1)))) (fun h8 => some (none, h8)))))))) := (am_cl_of rfl hr).trans (am_blk [] 28 rfl)
set_option maxRecDepth 100000 in
set_option maxHeartbeats 2000000 in
theorem e_Steps_dropBand (a0 : Nat) (x1 : Int32) {fs : List Value} (h : am_H) (hr : h[a0]? = some (.inr (8, fs))) : am_cl m_Steps_dropBand [.ref a0, .int x1] h = am_bi (am_cl m_Steps_placeOf [.ref a0, .int x1] h) (fun w2 h1 => Option.bind (am_gr h1 a0 8 0) (fun r3 => Option.bind (am_gr h1 a0 8 0) (fun r4 => Option.bind (am_gi h1 a0 8 2) (fun i5 => am_bi (am_cl m_Row_get [.ref r4, .int (i5 - 1)] h1) (fun w7 h6 => am_bv (am_cl m_Row_put [.ref r3, .int w2, .int w7] h6) (fun h8 => Option.bind (am_gr h8 a0 8 1) (fun r9 => Option.bind (am_gr h8 a0 8 1) (fun r10 => Option.bind (am_gi h8 a0 8 2) (fun i11 => am_bi (am_cl m_Row_get [.ref r10, .int (i11 - 1)] h8) (fun w13 h12 => am_bv (am_cl m_Row_put [.ref r9, .int w2, .int w13] h12) (fun h14 => Option.bind (am_gi h14 a0 8 2) (fun i15 => Option.bind (am_pf h14 a0 8 2 (.int (i15 - 1))) (fun h16 => some (none, h16)))))))))))))) := (am_cl_of rfl hr).trans (am_blk [] 38 rfl)
set_option maxRecDepth 100000 in
set_option maxHeartbeats 2000000 in
theorem e_Steps_placeOf (a0 : Nat) (x1 : Int32) {fs : List Value} (h : am_H) (hr : h[a0]? = some (.inr (8, fs))) : am_cl m_Steps_placeOf [.ref a0, .int x1] h = am_ev m_Steps_placeOf (2, [.ref a0, .int x1, .int 0], [], h) := (am_cl_of rfl hr).trans (am_blk [2] 24 rfl)
set_option maxRecDepth 100000 in
set_option maxHeartbeats 2000000 in
theorem b_Steps_placeOf_2 (a0 : Nat) (x1 : Int32) (x2 : Int32) (h : am_H) : am_ev m_Steps_placeOf (2, [.ref a0, .int x1, .int x2], [], h) = Option.bind (am_gi h a0 8 2) (fun i1 => (bif decide (i1 ≤ x2) then Option.bind (am_gi h a0 8 2) (fun i2 => some (some (.int i2), h)) else Option.bind (am_gr h a0 8 0) (fun r3 => am_bi (am_cl m_Row_get [.ref r3, .int x2] h) (fun w5 h4 => (bif decide (¬ w5 = x1) then am_ev m_Steps_placeOf (2, [.ref a0, .int x1, .int (x2 + 1)], [], h4) else some (some (.int x2), h4)))))) := am_blk [2] 24 rfl
set_option maxRecDepth 100000 in
set_option maxHeartbeats 2000000 in
theorem e_Steps_bandOf (a0 : Nat) (x1 : Int32) {fs : List Value} (h : am_H) (hr : h[a0]? = some (.inr (8, fs))) : am_cl m_Steps_bandOf [.ref a0, .int x1] h = am_ev m_Steps_bandOf (4, [.ref a0, .int x1, .int 0, .int 1, .float 0], [], h) := (am_cl_of rfl hr).trans (am_blk [4] 33 rfl)
set_option maxRecDepth 100000 in
set_option maxHeartbeats 2000000 in
theorem b_Steps_bandOf_4 (a0 : Nat) (x1 : Int32) (x2 : Int32) (x3 : Int32) (u4 : Value) (h : am_H) : am_ev m_Steps_bandOf (4, [.ref a0, .int x1, .int x2, .int x3, u4], [], h) = Option.bind (am_gi h a0 8 2) (fun i1 => (bif decide (i1 ≤ x3) then some (some (.int x2), h) else Option.bind (am_gr h a0 8 0) (fun r2 => am_bi (am_cl m_Row_get [.ref r2, .int x3] h) (fun w4 h3 => (bif decide (x1 < w4) then am_ev m_Steps_bandOf (4, [.ref a0, .int x1, .int x2, .int (x3 + 1), .int w4], [], h3) else Option.bind (am_gr h3 a0 8 0) (fun r5 => am_bi (am_cl m_Row_get [.ref r5, .int x2] h3) (fun w7 h6 => (bif decide (w4 ≤ w7) then am_ev m_Steps_bandOf (4, [.ref a0, .int x1, .int x2, .int (x3 + 1), .int w4], [], h6) else am_ev m_Steps_bandOf (4, [.ref a0, .int x1, .int x3, .int (x3 + 1), .int w4], [], h6))))))))) := am_blk [4] 33 rfl
set_option maxRecDepth 100000 in
set_option maxHeartbeats 2000000 in
theorem e_Steps_floor (a0 : Nat) (x1 : Int32) {fs : List Value} (h : am_H) (hr : h[a0]? = some (.inr (8, fs))) : am_cl m_Steps_floor [.ref a0, .int x1] h = am_bi (am_cl m_Steps_bandOf [.ref a0, .int x1] h) (fun w2 h1 => Option.bind (am_gr h1 a0 8 0) (fun r3 => am_bi (am_cl m_Row_get [.ref r3, .int w2] h1) (fun w5 h4 => Option.bind (am_gr h4 a0 8 1) (fun r6 => am_bi (am_cl m_Row_get [.ref r6, .int w2] h4) (fun w8 h7 => (bif decide (w8 ≤ 0) then some (some (.int w5), h7) else Option.bind (am_dv (x1 - w5) w8) (fun z9 => some (some (.int (w5 + (z9 * w8))), h7)))))))) := (am_cl_of rfl hr).trans (am_blk [] 33 rfl)
set_option maxRecDepth 100000 in
set_option maxHeartbeats 2000000 in
theorem e_Steps_ceiling (a0 : Nat) (x1 : Int32) {fs : List Value} (h : am_H) (hr : h[a0]? = some (.inr (8, fs))) : am_cl m_Steps_ceiling [.ref a0, .int x1] h = am_bi (am_cl m_Steps_floor [.ref a0, .int x1] h) (fun w2 h1 => (bif decide (¬ w2 = x1) then am_bi (am_cl m_Steps_next [.ref a0, .int x1] h1) (fun w4 h3 => some (some (.int w4), h3)) else some (some (.int x1), h1))) := (am_cl_of rfl hr).trans (am_blk [] 16 rfl)
set_option maxRecDepth 100000 in
set_option maxHeartbeats 2000000 in
theorem e_Steps_next (a0 : Nat) (x1 : Int32) {fs : List Value} (h : am_H) (hr : h[a0]? = some (.inr (8, fs))) : am_cl m_Steps_next [.ref a0, .int x1] h = am_bi (am_cl m_Steps_bandOf [.ref a0, .int x1] h) (fun w2 h1 => Option.bind (am_gr h1 a0 8 0) (fun r3 => am_bi (am_cl m_Row_get [.ref r3, .int w2] h1) (fun w5 h4 => Option.bind (am_gr h4 a0 8 1) (fun r6 => am_bi (am_cl m_Row_get [.ref r6, .int w2] h4) (fun w8 h7 => (bif decide (w8 ≤ 0) then am_ev m_Steps_next (53, [.ref a0, .int x1, .int w2, .int w5, .int w8, .int 2000000, .int 0, .float 0], [], h7) else Option.bind (am_dv (x1 - w5) w8) (fun z9 => am_ev m_Steps_next (53, [.ref a0, .int x1, .int w2, .int w5, .int w8, .int (w5 + ((z9 + 1) * w8)), .int 0, .float 0], [], h7)))))))) := (am_cl_of rfl hr).trans (am_blk [53] 58 rfl)
set_option maxRecDepth 100000 in
set_option maxHeartbeats 2000000 in
theorem b_Steps_next_53 (a0 : Nat) (x1 : Int32) (x2 : Int32) (x3 : Int32) (x4 : Int32) (x5 : Int32) (x6 : Int32) (u7 : Value) (h : am_H) : am_ev m_Steps_next (53, [.ref a0, .int x1, .int x2, .int x3, .int x4, .int x5, .int x6, u7], [], h) = Option.bind (am_gi h a0 8 2) (fun i1 => (bif decide (i1 ≤ x6) then some (some (.int x5), h) else Option.bind (am_gr h a0 8 0) (fun r2 => am_bi (am_cl m_Row_get [.ref r2, .int x6] h) (fun w4 h3 => (bif decide (w4 ≤ x1) then am_ev m_Steps_next (53, [.ref a0, .int x1, .int x2, .int x3, .int x4, .int x5, .int (x6 + 1), .int w4], [], h3) else (bif decide (x5 ≤ w4) then am_ev m_Steps_next (53, [.ref a0, .int x1, .int x2, .int x3, .int x4, .int x5, .int (x6 + 1), .int w4], [], h3) else am_ev m_Steps_next (53, [.ref a0, .int x1, .int x2, .int x3, .int x4, .int w4, .int (x6 + 1), .int w4], [], h3))))))) := am_blk [53] 58 rfl
end
section
set_option maxRecDepth 100000 in
set_option maxHeartbeats 2000000 in
theorem e_Sale_init (a0 : Nat) (a1 : Nat) {fs : List Value} (h : am_H) (hr : h[a0]? = some (.inr (6, fs))) : am_cl m_Sale_init [.ref a0, .ref a1] h = am_bv (am_cl m_Row_init [.ref (List.length h), .int 20] (h ++ [.inr (5, am_new 5)])) (fun h1 => Option.bind (am_pf h1 a0 6 1 (.ref (List.length h))) (fun h2 => am_bv (am_cl m_Row_init [.ref (List.length h2), .int 20] (h2 ++ [.inr (5, am_new 5)])) (fun h3 => Option.bind (am_pf h3 a0 6 2 (.ref (List.length h2))) (fun h4 => am_bv (am_cl m_Row_init [.ref (List.length h4), .int 20] (h4 ++ [.inr (5, am_new 5)])) (fun h5 => Option.bind (am_pf h5 a0 6 3 (.ref (List.length h4))) (fun h6 => am_bv (am_cl m_Row_init [.ref (List.length h6), .int 20] (h6 ++ [.inr (5, am_new 5)])) (fun h7 => Option.bind (am_pf h7 a0 6 4 (.ref (List.length h6))) (fun h8 => am_bv (am_cl m_Row_init [.ref (List.length h8), .int 20] (h8 ++ [.inr (5, am_new 5)])) (fun h9 => Option.bind (am_pf h9 a0 6 5 (.ref (List.length h8))) (fun h10 => am_bv (am_cl m_Row_init [.ref (List.length h10), .int 160] (h10 ++ [.inr (5, am_new 5)])) (fun h11 => Option.bind (am_pf h11 a0 6 6 (.ref (List.length h10))) (fun h12 => am_bv (am_cl m_Row_init [.ref (List.length h12), .int 60] (h12 ++ [.inr (5, am_new 5)])) (fun h13 => Option.bind (am_pf h13 a0 6 7 (.ref (List.length h12))) (fun h14 => am_bv (am_cl m_Row_init [.ref (List.length h14), .int 60] (h14 ++ [.inr (5, am_new 5)])) (fun h15 => Option.bind (am_pf h15 a0 6 8 (.ref (List.length h14))) (fun h16 => am_bv (am_cl m_Row_init [.ref (List.length h16), .int 8] (h16 ++ [.inr (5, am_new 5)])) (fun h17 => Option.bind (am_pf h17 a0 6 9 (.ref (List.length h16))) (fun h18 => Option.bind (am_pf h18 a0 6 0 (.ref a1)) (fun h19 => some (none, h19)))))))))))))))))))) := (am_cl_of rfl hr).trans (am_blk [] 65 rfl)
set_option maxRecDepth 100000 in
set_option maxHeartbeats 2000000 in
theorem e_Sale_hold (a0 : Nat) {fs : List Value} (h : am_H) (hr : h[a0]? = some (.inr (6, fs))) : am_cl m_Sale_hold [.ref a0] h = Option.bind (am_gi h a0 6 10) (fun i1 => (bif decide (i1 = 0) then am_ev m_Sale_hold (10, [.ref a0, .int 0], [], h) else some (none, h))) := (am_cl_of rfl hr).trans (am_blk [10] 40 rfl)
set_option maxRecDepth 100000 in
set_option maxHeartbeats 2000000 in
theorem b_Sale_hold_10 (a0 : Nat) (x1 : Int32) (h : am_H) : am_ev m_Sale_hold (10, [.ref a0, .int x1], [], h) = Option.bind (am_gr h a0 6 0) (fun r1 => Option.bind (am_gr h r1 7 1) (fun r2 => Option.bind (am_gi h r2 3 4) (fun i3 => (bif decide (i3 ≤ x1) then Option.bind (am_pf h a0 6 10 (.int 1)) (fun h4 => some (none, h4)) else Option.bind (am_gr h a0 6 5) (fun r5 => Option.bind (am_gr h a0 6 0) (fun r6 => am_bi (am_cl m_State_askingPrice [.ref r6, .int x1] h) (fun w8 h7 => am_bv (am_cl m_Row_put [.ref r5, .int x1, .int w8] h7) (fun h9 => am_bv (am_cl m_Sale_judgeBids [.ref a0, .int x1] h9) (fun h10 => am_bv (am_cl m_Sale_orderBids [.ref a0, .int x1] h10) (fun h11 => am_bv (am_cl m_Sale_sell [.ref a0, .int x1] h11) (fun h12 => am_ev m_Sale_hold (10, [.ref a0, .int (x1 + 1)], [], h12)))))))))))) := am_blk [10] 40 rfl
set_option maxRecDepth 100000 in
set_option maxHeartbeats 2000000 in
theorem e_Sale_bidAt (a0 : Nat) (x1 : Int32) (x2 : Int32) {fs : List Value} (h : am_H) (hr : h[a0]? = some (.inr (6, fs))) : am_cl m_Sale_bidAt [.ref a0, .int x1, .int x2] h = (bif decide (x2 < 0) then some (some (.int (-5)), h) else Option.bind (am_gr h a0 6 4) (fun r1 => am_bi (am_cl m_Row_get [.ref r1, .int x1] h) (fun w3 h2 => (bif decide (w3 ≤ x2) then some (some (.int (-5)), h2) else Option.bind (am_gr h2 a0 6 6) (fun r4 => am_bi (am_cl m_Row_get [.ref r4, .int ((x1 * 8) + x2)] h2) (fun w6 h5 => some (some (.int w6), h5))))))) := (am_cl_of rfl hr).trans (am_blk [] 24 rfl)
set_option maxRecDepth 100000 in
set_option maxHeartbeats 2000000 in
theorem e_Sale_leftBefore (a0 : Nat) (x1 : Int32) (x2 : Int32) {fs : List Value} (h : am_H) (hr : h[a0]? = some (.inr (6, fs))) : am_cl m_Sale_leftBefore [.ref a0, .int x1, .int x2] h = Option.bind (am_gr h a0 6 0) (fun r1 => Option.bind (am_gr h r1 7 2) (fun r2 => am_bi (am_cl m_Row_get [.ref r2, .int x2] h) (fun w4 h3 => am_ev m_Sale_leftBefore (15, [.ref a0, .int x1, .int x2, .int w4, .int 0], [], h3)))) := (am_cl_of rfl hr).trans (am_blk [15] 33 rfl)
set_option maxRecDepth 100000 in
set_option maxHeartbeats 2000000 in
theorem b_Sale_leftBefore_15 (a0 : Nat) (x1 : Int32) (x2 : Int32) (x3 : Int32) (x4 : Int32) (h : am_H) : am_ev m_Sale_leftBefore (15, [.ref a0, .int x1, .int x2, .int x3, .int x4], [], h) = (bif decide (x1 ≤ x4) then some (some (.int x3), h) else Option.bind (am_gr h a0 6 1) (fun r1 => am_bi (am_cl m_Row_get [.ref r1, .int x4] h) (fun w3 h2 => (bif decide (¬ w3 = x2) then am_ev m_Sale_leftBefore (15, [.ref a0, .int x1, .int x2, .int x3, .int (x4 + 1)], [], h2) else Option.bind (am_gr h2 a0 6 2) (fun r4 => am_bi (am_cl m_Row_get [.ref r4, .int x4] h2) (fun w6 h5 => am_ev m_Sale_leftBefore (15, [.ref a0, .int x1, .int x2, .int (x3 - w6), .int (x4 + 1)], [], h5))))))) := am_blk [15] 33 rfl
set_option maxRecDepth 100000 in
set_option maxHeartbeats 2000000 in
theorem e_Sale_soldLots (a0 : Nat) (x1 : Int32) {fs : List Value} (h : am_H) (hr : h[a0]? = some (.inr (6, fs))) : am_cl m_Sale_soldLots [.ref a0, .int x1] h = am_ev m_Sale_soldLots (4, [.ref a0, .int x1, .int 0, .int 0, .float 0], [], h) := (am_cl_of rfl hr).trans (am_blk [4, 41] 42 rfl)
set_option maxRecDepth 100000 in
set_option maxHeartbeats 2000000 in
theorem b_Sale_soldLots_4 (a0 : Nat) (x1 : Int32) (x2 : Int32) (x3 : Int32) (u4 : Value) (h : am_H) : am_ev m_Sale_soldLots (4, [.ref a0, .int x1, .int x2, .int x3, u4], [], h) = Option.bind (am_gr h a0 6 0) (fun r1 => Option.bind (am_gr h r1 7 1) (fun r2 => Option.bind (am_gi h r2 3 4) (fun i3 => (bif decide (i3 ≤ x3) then some (some (.int x2), h) else (bif decide (x1 = (-1)) then am_ev m_Sale_soldLots (41, [.ref a0, .int x1, .int x2, .int x3, u4], [], h) else Option.bind (am_gr h a0 6 0) (fun r4 => Option.bind (am_gr h r4 7 1) (fun r5 => Option.bind (am_gr h r5 3 0) (fun r6 => am_bi (am_cl m_Row_get [.ref r6, .int x3] h) (fun w8 h7 => (bif decide (¬ x1 = w8) then am_ev m_Sale_soldLots (4, [.ref a0, .int x1, .int x2, .int (x3 + 1), .int 0], [], h7) else am_ev m_Sale_soldLots (41, [.ref a0, .int x1, .int x2, .int x3, u4], [], h7))))))))))) := am_blk [4, 41] 42 rfl
set_option maxRecDepth 100000 in
set_option maxHeartbeats 2000000 in
theorem b_Sale_soldLots_41 (a0 : Nat) (x1 : Int32) (x2 : Int32) (x3 : Int32) (u4 : Value) (h : am_H) : am_ev m_Sale_soldLots (41, [.ref a0, .int x1, .int x2, .int x3, u4], [], h) = Option.bind (am_gr h a0 6 3) (fun r1 => am_bi (am_cl m_Row_get [.ref r1, .int x3] h) (fun w3 h2 => (bif decide (¬ w3 = 0) then am_ev m_Sale_soldLots (4, [.ref a0, .int x1, .int x2, .int (x3 + 1), .int 1], [], h2) else am_ev m_Sale_soldLots (4, [.ref a0, .int x1, .int (x2 + 1), .int (x3 + 1), .int 1], [], h2)))) := am_blk [4, 41] 42 rfl
set_option maxRecDepth 100000 in
set_option maxHeartbeats 2000000 in
theorem e_Sale_judgeBids (a0 : Nat) (x1 : Int32) {fs : List Value} (h : am_H) (hr : h[a0]? = some (.inr (6, fs))) : am_cl m_Sale_judgeBids [.ref a0, .int x1] h = am_ev m_Sale_judgeBids (2, [.ref a0, .int x1, .int 0], [], h) := (am_cl_of rfl hr).trans (am_blk [2, 31] 42 rfl)
set_option maxRecDepth 100000 in
set_option maxHeartbeats 2000000 in
theorem b_Sale_judgeBids_2 (a0 : Nat) (x1 : Int32) (x2 : Int32) (h : am_H) : am_ev m_Sale_judgeBids (2, [.ref a0, .int x1, .int x2], [], h) = Option.bind (am_gr h a0 6 0) (fun r1 => Option.bind (am_gi h r1 7 3) (fun i2 => (bif decide (i2 ≤ x2) then am_ev m_Sale_judgeBids (31, [.ref a0, .int x1, .int 0], [], h) else Option.bind (am_gr h a0 6 9) (fun r3 => am_bv (am_cl m_Row_put [.ref r3, .int x2, .int (-5)] h) (fun h4 => am_ev m_Sale_judgeBids (2, [.ref a0, .int x1, .int (x2 + 1)], [], h4)))))) := am_blk [2, 31] 42 rfl
set_option maxRecDepth 100000 in
set_option maxHeartbeats 2000000 in
theorem b_Sale_judgeBids_31 (a0 : Nat) (x1 : Int32) (x2 : Int32) (h : am_H) : am_ev m_Sale_judgeBids (31, [.ref a0, .int x1, .int x2], [], h) = Option.bind (am_gr h a0 6 0) (fun r1 => Option.bind (am_gr h r1 7 4) (fun r2 => Option.bind (am_gi h r2 0 6) (fun i3 => (bif decide (i3 ≤ x2) then some (none, h) else Option.bind (am_gr h a0 6 0) (fun r4 => Option.bind (am_gr h r4 7 4) (fun r5 => Option.bind (am_gr h r5 0 1) (fun r6 => am_bi (am_cl m_Row_get [.ref r6, .int x2] h) (fun w8 h7 => (bif decide (¬ w8 = x1) then am_ev m_Sale_judgeBids (31, [.ref a0, .int x1, .int (x2 + 1)], [], h7) else am_bv (am_cl m_Sale_judge [.ref a0, .int x2, .int x1] h7) (fun h9 => am_ev m_Sale_judgeBids (31, [.ref a0, .int x1, .int (x2 + 1)], [], h9))))))))))) := am_blk [2, 31] 42 rfl
set_option maxRecDepth 100000 in
set_option maxHeartbeats 2000000 in
theorem e_Sale_judge (a0 : Nat) (x1 : Int32) (x2 : Int32) {fs : List Value} (h : am_H) (hr : h[a0]? = some (.inr (6, fs))) : am_cl m_Sale_judge [.ref a0, .int x1, .int x2] h = Option.bind (am_gr h a0 6 0) (fun r1 => Option.bind (am_gr h r1 7 4) (fun r2 => Option.bind (am_gr h r2 0 0) (fun r3 => am_bi (am_cl m_Row_get [.ref r3, .int x1] h) (fun w5 h4 => am_bi (am_cl m_Sale_leftBefore [.ref a0, .int x2, .int w5] h4) (fun w7 h6 => Option.bind (am_gr h6 a0 6 7) (fun r8 => Option.bind (am_gr h6 a0 6 0) (fun r9 => Option.bind (am_gr h6 r9 7 0) (fun r10 => Option.bind (am_gr h6 a0 6 0) (fun r11 => Option.bind (am_gr h6 r11 7 4) (fun r12 => Option.bind (am_gr h6 r12 0 2) (fun r13 => am_bi (am_cl m_Row_get [.ref r13, .int x1] h6) (fun w15 h14 => am_bi (am_cl m_Steps_floor [.ref r10, .int (am_min w15 w7)] h14) (fun w17 h16 => am_bv (am_cl m_Row_put [.ref r8, .int x1, .int w17] h16) (fun h18 => am_bi (am_cl m_Sale_reasonAgainst [.ref a0, .int x1, .int x2] h18) (fun w20 h19 => Option.bind (am_gr h19 a0 6 8) (fun r21 => am_bv (am_cl m_Row_put [.ref r21, .int x1, .int w20] h19) (fun h22 => (bif decide (¬ w20 = 0) then some (none, h22) else Option.bind (am_gr h22 a0 6 9) (fun r23 => am_bi (am_cl m_Row_get [.ref r23, .int w5] h22) (fun w25 h24 => am_bv (am_cl m_Sale_chooseBetween [.ref a0, .int w25, .int x1] h24) (fun h26 => some (none, h26)))))))))))))))))))))) := (am_cl_of rfl hr).trans (am_blk [] 53 rfl)
set_option maxRecDepth 100000 in
set_option maxHeartbeats 2000000 in
theorem e_Sale_reasonAgainst (a0 : Nat) (x1 : Int32) (x2 : Int32) {fs : List Value} (h : am_H) (hr : h[a0]? = some (.inr (6, fs))) : am_cl m_Sale_reasonAgainst [.ref a0, .int x1, .int x2] h = Option.bind (am_gr h a0 6 0) (fun r1 => Option.bind (am_gr h r1 7 4) (fun r2 => Option.bind (am_gr h r2 0 5) (fun r3 => am_bi (am_cl m_Row_get [.ref r3, .int x1] h) (fun w5 h4 => (bif decide (¬ w5 = 1) then Option.bind (am_gr h4 a0 6 0) (fun r6 => am_bi (am_cl m_State_isLate [.ref r6, .int x1] h4) (fun w8 h7 => (bif decide (w8 = 0) then Option.bind (am_gr h7 a0 6 0) (fun r9 => Option.bind (am_gr h7 r9 7 1) (fun r10 => Option.bind (am_gr h7 r10 3 3) (fun r11 => am_bi (am_cl m_Row_get [.ref r11, .int x2] h7) (fun w13 h12 => (bif decide (¬ w13 = 1) then am_bi (am_cl m_Sale_hasAlternativeBought [.ref a0, .int x1, .int x2] h12) (fun w15 h14 => (bif decide (w15 = 0) then Option.bind (am_gr h14 a0 6 7) (fun r16 => am_bi (am_cl m_Row_get [.ref r16, .int x1] h14) (fun w18 h17 => Option.bind (am_gr h17 a0 6 0) (fun r19 => Option.bind (am_gr h17 r19 7 1) (fun r20 => Option.bind (am_gr h17 r20 3 1) (fun r21 => am_bi (am_cl m_Row_get [.ref r21, .int x2] h17) (fun w23 h22 => (bif decide (w23 ≤ w18) then some (some (.int 0), h22) else some (some (.int 5), h22)))))))) else some (some (.int 4), h14))) else some (some (.int 3), h12)))))) else some (some (.int 2), h7)))) else some (some (.int 1), h4)))))) := (am_cl_of rfl hr).trans (am_blk [] 54 rfl)
set_option maxRecDepth 100000 in
set_option maxHeartbeats 2000000 in
theorem e_Sale_hasAlternativeBought (a0 : Nat) (x1 : Int32) (x2 : Int32) {fs : List Value} (h : am_H) (hr : h[a0]? = some (.inr (6, fs))) : am_cl m_Sale_hasAlternativeBought [.ref a0, .int x1, .int x2] h = Option.bind (am_gr h a0 6 0) (fun r1 => Option.bind (am_gr h r1 7 4) (fun r2 => Option.bind (am_gr h r2 0 4) (fun r3 => am_bi (am_cl m_Row_get [.ref r3, .int x1] h) (fun w5 h4 => Option.bind (am_gr h4 a0 6 0) (fun r6 => Option.bind (am_gr h4 r6 7 4) (fun r7 => Option.bind (am_gr h4 r7 0 0) (fun r8 => am_bi (am_cl m_Row_get [.ref r8, .int x1] h4) (fun w10 h9 => (bif decide (¬ w5 = 0) then am_ev m_Sale_hasAlternativeBought (40, [.ref a0, .int x1, .int x2, .int w5, .int w10, .int 0, .float 0], [], h9) else some (some (.int 0), h9)))))))))) := (am_cl_of rfl hr).trans (am_blk [40] 55 rfl)
set_option maxRecDepth 100000 in
set_option maxHeartbeats 2000000 in
theorem b_Sale_hasAlternativeBought_40 (a0 : Nat) (x1 : Int32) (x2 : Int32) (x3 : Int32) (x4 : Int32) (x5 : Int32) (u6 : Value) (h : am_H) : am_ev m_Sale_hasAlternativeBought (40, [.ref a0, .int x1, .int x2, .int x3, .int x4, .int x5, u6], [], h) = (bif decide (x2 ≤ x5) then some (some (.int 0), h) else Option.bind (am_gr h a0 6 6) (fun r1 => am_bi (am_cl m_Row_get [.ref r1, .int (x5 * 8)] h) (fun w3 h2 => Option.bind (am_gr h2 a0 6 1) (fun r4 => am_bi (am_cl m_Row_get [.ref r4, .int x5] h2) (fun w6 h5 => (bif decide (¬ w6 = x4) then am_ev m_Sale_hasAlternativeBought (40, [.ref a0, .int x1, .int x2, .int x3, .int x4, .int (x5 + 1), .int w3], [], h5) else Option.bind (am_gr h5 a0 6 0) (fun r7 => Option.bind (am_gr h5 r7 7 4) (fun r8 => Option.bind (am_gr h5 r8 0 4) (fun r9 => am_bi (am_cl m_Row_get [.ref r9, .int w3] h5) (fun w11 h10 => (bif decide (¬ w11 = x3) then am_ev m_Sale_hasAlternativeBought (40, [.ref a0, .int x1, .int x2, .int x3, .int x4, .int (x5 + 1), .int w3], [], h10) else some (some (.int 1), h10)))))))))))) := am_blk [40] 55 rfl
set_option maxRecDepth 100000 in
set_option maxHeartbeats 2000000 in
theorem e_Sale_chooseBetween (a0 : Nat) (x1 : Int32) (x2 : Int32) {fs : List Value} (h : am_H) (hr : h[a0]? = some (.inr (6, fs))) : am_cl m_Sale_chooseBetween [.ref a0, .int x1, .int x2] h = (bif decide (x1 = (-5)) then am_ev m_Sale_chooseBetween (36, [.ref a0, .int x1, .int x2], [], h) else Option.bind (am_gr h a0 6 7) (fun r1 => am_bi (am_cl m_Row_get [.ref r1, .int x1] h) (fun w3 h2 => Option.bind (am_gr h2 a0 6 7) (fun r4 => am_bi (am_cl m_Row_get [.ref r4, .int x2] h2) (fun w6 h5 => (bif decide (w3 < w6) then am_ev m_Sale_chooseBetween (36, [.ref a0, .int x1, .int x2], [], h5) else Option.bind (am_gr h5 a0 6 8) (fun r7 => am_bv (am_cl m_Row_put [.ref r7, .int x2, .int 6] h5) (fun h8 => some (none, h8))))))))) := (am_cl_of rfl hr).trans (am_blk [36] 42 rfl)
set_option maxRecDepth 100000 in
set_option maxHeartbeats 2000000 in
theorem b_Sale_chooseBetween_36 (a0 : Nat) (x1 : Int32) (x2 : Int32) (h : am_H) : am_ev m_Sale_chooseBetween (36, [.ref a0, .int x1, .int x2], [], h) = (bif decide (x1 = (-5)) then Option.bind (am_gr h a0 6 9) (fun r1 => Option.bind (am_gr h a0 6 0) (fun r2 => Option.bind (am_gr h r2 7 4) (fun r3 => Option.bind (am_gr h r3 0 0) (fun r4 => am_bi (am_cl m_Row_get [.ref r4, .int x2] h) (fun w6 h5 => am_bv (am_cl m_Row_put [.ref r1, .int w6, .int x2] h5) (fun h7 => some (none, h7))))))) else Option.bind (am_gr h a0 6 8) (fun r8 => am_bv (am_cl m_Row_put [.ref r8, .int x1, .int 6] h) (fun h9 => Option.bind (am_gr h9 a0 6 9) (fun r10 => Option.bind (am_gr h9 a0 6 0) (fun r11 => Option.bind (am_gr h9 r11 7 4) (fun r12 => Option.bind (am_gr h9 r12 0 0) (fun r13 => am_bi (am_cl m_Row_get [.ref r13, .int x2] h9) (fun w15 h14 => am_bv (am_cl m_Row_put [.ref r10, .int w15, .int x2] h14) (fun h16 => some (none, h16)))))))))) := am_blk [36] 42 rfl
set_option maxRecDepth 100000 in
set_option maxHeartbeats 2000000 in
theorem e_Sale_orderBids (a0 : Nat) (x1 : Int32) {fs : List Value} (h : am_H) (hr : h[a0]? = some (.inr (6, fs))) : am_cl m_Sale_orderBids [.ref a0, .int x1] h = Option.bind (am_gr h a0 6 4) (fun r1 => am_bv (am_cl m_Row_put [.ref r1, .int x1, .int 0] h) (fun h2 => am_ev m_Sale_orderBids (11, [.ref a0, .int x1, .int 0, .float 0], [], h2))) := (am_cl_of rfl hr).trans (am_blk [11] 32 rfl)
set_option maxRecDepth 100000 in
set_option maxHeartbeats 2000000 in
theorem b_Sale_orderBids_11 (a0 : Nat) (x1 : Int32) (x2 : Int32) (u3 : Value) (h : am_H) : am_ev m_Sale_orderBids (11, [.ref a0, .int x1, .int x2, u3], [], h) = Option.bind (am_gr h a0 6 0) (fun r1 => Option.bind (am_gi h r1 7 3) (fun i2 => (bif decide (i2 ≤ x2) then some (none, h) else Option.bind (am_gr h a0 6 9) (fun r3 => am_bi (am_cl m_Row_get [.ref r3, .int x2] h) (fun w5 h4 => (bif decide (w5 = (-5)) then am_ev m_Sale_orderBids (11, [.ref a0, .int x1, .int (x2 + 1), .int w5], [], h4) else am_bv (am_cl m_Sale_insert [.ref a0, .int x1, .int w5] h4) (fun h6 => am_ev m_Sale_orderBids (11, [.ref a0, .int x1, .int (x2 + 1), .int w5], [], h6)))))))) := am_blk [11] 32 rfl
set_option maxRecDepth 100000 in
set_option maxHeartbeats 2000000 in
theorem e_Sale_insert (a0 : Nat) (x1 : Int32) (x2 : Int32) {fs : List Value} (h : am_H) (hr : h[a0]? = some (.inr (6, fs))) : am_cl m_Sale_insert [.ref a0, .int x1, .int x2] h = Option.bind (am_gr h a0 6 4) (fun r1 => am_bi (am_cl m_Row_get [.ref r1, .int x1] h) (fun w3 h2 => am_ev m_Sale_insert (15, [.ref a0, .int x1, .int x2, .int w3, .int (x1 * 8)], [], h2))) := (am_cl_of rfl hr).trans (am_blk [15, 70] 62 rfl)
set_option maxRecDepth 100000 in
set_option maxHeartbeats 2000000 in
theorem b_Sale_insert_15 (a0 : Nat) (x1 : Int32) (x2 : Int32) (x3 : Int32) (x4 : Int32) (h : am_H) : am_ev m_Sale_insert (15, [.ref a0, .int x1, .int x2, .int x3, .int x4], [], h) = (bif decide (x3 ≤ 0) then am_ev m_Sale_insert (70, [.ref a0, .int x1, .int x2, .int x3, .int x4], [], h) else Option.bind (am_gr h a0 6 6) (fun r1 => am_bi (am_cl m_Row_get [.ref r1, .int ((x4 + x3) - 1)] h) (fun w3 h2 => am_bi (am_cl m_Sale_goesBefore [.ref a0, .int x2, .int w3] h2) (fun w5 h4 => (bif decide (w5 = 0) then am_ev m_Sale_insert (70, [.ref a0, .int x1, .int x2, .int x3, .int x4], [], h4) else Option.bind (am_gr h4 a0 6 6) (fun r6 => Option.bind (am_gr h4 a0 6 6) (fun r7 => am_bi (am_cl m_Row_get [.ref r7, .int ((x4 + x3) - 1)] h4) (fun w9 h8 => am_bv (am_cl m_Row_put [.ref r6, .int (x4 + x3), .int w9] h8) (fun h10 => am_ev m_Sale_insert (15, [.ref a0, .int x1, .int x2, .int (x3 + (-1)), .int x4], [], h10)))))))))) := am_blk [15, 70] 62 rfl
set_option maxRecDepth 100000 in
set_option maxHeartbeats 2000000 in
theorem b_Sale_insert_70 (a0 : Nat) (x1 : Int32) (x2 : Int32) (x3 : Int32) (x4 : Int32) (h : am_H) : am_ev m_Sale_insert (70, [.ref a0, .int x1, .int x2, .int x3, .int x4], [], h) = Option.bind (am_gr h a0 6 6) (fun r1 => am_bv (am_cl m_Row_put [.ref r1, .int (x4 + x3), .int x2] h) (fun h2 => Option.bind (am_gr h2 a0 6 4) (fun r3 => Option.bind (am_gr h2 a0 6 4) (fun r4 => am_bi (am_cl m_Row_get [.ref r4, .int x1] h2) (fun w6 h5 => am_bv (am_cl m_Row_put [.ref r3, .int x1, .int (w6 + 1)] h5) (fun h7 => some (none, h7))))))) := am_blk [15, 70] 62 rfl
set_option maxRecDepth 100000 in
set_option maxHeartbeats 2000000 in
theorem e_Sale_goesBefore (a0 : Nat) (x1 : Int32) (x2 : Int32) {fs : List Value} (h : am_H) (hr : h[a0]? = some (.inr (6, fs))) : am_cl m_Sale_goesBefore [.ref a0, .int x1, .int x2] h = Option.bind (am_gr h a0 6 7) (fun r1 => am_bi (am_cl m_Row_get [.ref r1, .int x1] h) (fun w3 h2 => Option.bind (am_gr h2 a0 6 7) (fun r4 => am_bi (am_cl m_Row_get [.ref r4, .int x2] h2) (fun w6 h5 => (bif decide (w3 = w6) then Option.bind (am_gr h5 a0 6 0) (fun r7 => Option.bind (am_gr h5 r7 7 4) (fun r8 => Option.bind (am_gr h5 r8 0 3) (fun r9 => am_bi (am_cl m_Row_get [.ref r9, .int x1] h5) (fun w11 h10 => Option.bind (am_gr h10 a0 6 0) (fun r12 => Option.bind (am_gr h10 r12 7 4) (fun r13 => Option.bind (am_gr h10 r13 0 3) (fun r14 => am_bi (am_cl m_Row_get [.ref r14, .int x2] h10) (fun w16 h15 => (bif decide (w11 = w16) then (bif decide (x2 ≤ x1) then some (some (.int 0), h15) else some (some (.int 1), h15)) else (bif decide (w16 ≤ w11) then some (some (.int 0), h15) else some (some (.int 1), h15))))))))))) else (bif decide (w3 ≤ w6) then some (some (.int 0), h5) else some (some (.int 1), h5))))))) := (am_cl_of rfl hr).trans (am_blk [] 56 rfl)
set_option maxRecDepth 100000 in
set_option maxHeartbeats 2000000 in
theorem e_Sale_sell (a0 : Nat) (x1 : Int32) {fs : List Value} (h : am_H) (hr : h[a0]? = some (.inr (6, fs))) : am_cl m_Sale_sell [.ref a0, .int x1] h = am_bi (am_cl m_Sale_bidAt [.ref a0, .int x1, .int 0] h) (fun w2 h1 => am_bi (am_cl m_Sale_stateOf [.ref a0, .int x1, .int w2] h1) (fun w4 h3 => Option.bind (am_gr h3 a0 6 3) (fun r5 => am_bv (am_cl m_Row_put [.ref r5, .int x1, .int w4] h3) (fun h6 => Option.bind (am_gr h6 a0 6 1) (fun r7 => (bif decide (¬ w4 = 0) then am_bv (am_cl m_Row_put [.ref r7, .int x1, .int (-5)] h6) (fun h8 => Option.bind (am_gr h8 a0 6 2) (fun r9 => (bif decide (¬ w4 = 0) then am_bv (am_cl m_Row_put [.ref r9, .int x1, .int 0] h8) (fun h10 => (bif decide (¬ w4 = 2) then am_ev m_Sale_sell (93, [.ref a0, .int x1, .int w2, .int w4, .int 1], [], h10) else Option.bind (am_gr h10 a0 6 8) (fun r11 => am_bv (am_cl m_Row_put [.ref r11, .int w2, .int 8] h10) (fun h12 => am_ev m_Sale_sell (93, [.ref a0, .int x1, .int w2, .int w4, .int 1], [], h12))))) else am_bi (am_cl m_Sale_priceOf [.ref a0, .int x1] h8) (fun w14 h13 => am_bv (am_cl m_Row_put [.ref r9, .int x1, .int w14] h13) (fun h15 => (bif decide (¬ w4 = 2) then am_ev m_Sale_sell (93, [.ref a0, .int x1, .int w2, .int w4, .int 1], [], h15) else Option.bind (am_gr h15 a0 6 8) (fun r16 => am_bv (am_cl m_Row_put [.ref r16, .int w2, .int 8] h15) (fun h17 => am_ev m_Sale_sell (93, [.ref a0, .int x1, .int w2, .int w4, .int 1], [], h17))))))))) else Option.bind (am_gr h6 a0 6 0) (fun r18 => Option.bind (am_gr h6 r18 7 4) (fun r19 => Option.bind (am_gr h6 r19 0 0) (fun r20 => am_bi (am_cl m_Row_get [.ref r20, .int w2] h6) (fun w22 h21 => am_bv (am_cl m_Row_put [.ref r7, .int x1, .int w22] h21) (fun h23 => Option.bind (am_gr h23 a0 6 2) (fun r24 => (bif decide (¬ w4 = 0) then am_bv (am_cl m_Row_put [.ref r24, .int x1, .int 0] h23) (fun h25 => (bif decide (¬ w4 = 2) then am_ev m_Sale_sell (93, [.ref a0, .int x1, .int w2, .int w4, .int 1], [], h25) else Option.bind (am_gr h25 a0 6 8) (fun r26 => am_bv (am_cl m_Row_put [.ref r26, .int w2, .int 8] h25) (fun h27 => am_ev m_Sale_sell (93, [.ref a0, .int x1, .int w2, .int w4, .int 1], [], h27))))) else am_bi (am_cl m_Sale_priceOf [.ref a0, .int x1] h23) (fun w29 h28 => am_bv (am_cl m_Row_put [.ref r24, .int x1, .int w29] h28) (fun h30 => (bif decide (¬ w4 = 2) then am_ev m_Sale_sell (93, [.ref a0, .int x1, .int w2, .int w4, .int 1], [], h30) else Option.bind (am_gr h30 a0 6 8) (fun r31 => am_bv (am_cl m_Row_put [.ref r31, .int w2, .int 8] h30) (fun h32 => am_ev m_Sale_sell (93, [.ref a0, .int x1, .int w2, .int w4, .int 1], [], h32))))))))))))))))))) := (am_cl_of rfl hr).trans (am_blk [93] 72 rfl)
set_option maxRecDepth 100000 in
set_option maxHeartbeats 2000000 in
theorem b_Sale_sell_93 (a0 : Nat) (x1 : Int32) (x2 : Int32) (x3 : Int32) (x4 : Int32) (h : am_H) : am_ev m_Sale_sell (93, [.ref a0, .int x1, .int x2, .int x3, .int x4], [], h) = Option.bind (am_gr h a0 6 4) (fun r1 => am_bi (am_cl m_Row_get [.ref r1, .int x1] h) (fun w3 h2 => (bif decide (w3 ≤ x4) then some (none, h2) else Option.bind (am_gr h2 a0 6 8) (fun r4 => am_bi (am_cl m_Sale_bidAt [.ref a0, .int x1, .int x4] h2) (fun w6 h5 => am_bv (am_cl m_Row_put [.ref r4, .int w6, .int 7] h5) (fun h7 => am_ev m_Sale_sell (93, [.ref a0, .int x1, .int x2, .int x3, .int (x4 + 1)], [], h7))))))) := am_blk [93] 72 rfl
set_option maxRecDepth 100000 in
set_option maxHeartbeats 2000000 in
theorem e_Sale_stateOf (a0 : Nat) (x1 : Int32) (x2 : Int32) {fs : List Value} (h : am_H) (hr : h[a0]? = some (.inr (6, fs))) : am_cl m_Sale_stateOf [.ref a0, .int x1, .int x2] h = Option.bind (am_gr h a0 6 0) (fun r1 => Option.bind (am_gr h r1 7 1) (fun r2 => Option.bind (am_gr h r2 3 3) (fun r3 => am_bi (am_cl m_Row_get [.ref r3, .int x1] h) (fun w5 h4 => (bif decide (¬ w5 = 1) then (bif decide (¬ x2 = (-5)) then Option.bind (am_gr h4 a0 6 7) (fun r6 => am_bi (am_cl m_Row_get [.ref r6, .int x2] h4) (fun w8 h7 => Option.bind (am_gr h7 a0 6 0) (fun r9 => Option.bind (am_gr h7 r9 7 1) (fun r10 => Option.bind (am_gr h7 r10 3 2) (fun r11 => am_bi (am_cl m_Row_get [.ref r11, .int x1] h7) (fun w13 h12 => (bif decide (w13 ≤ w8) then some (some (.int 0), h12) else some (some (.int 2), h12)))))))) else some (some (.int 1), h4)) else some (some (.int 3), h4)))))) := (am_cl_of rfl hr).trans (am_blk [] 35 rfl)
set_option maxRecDepth 100000 in
set_option maxHeartbeats 2000000 in
theorem e_Sale_priceOf (a0 : Nat) (x1 : Int32) {fs : List Value} (h : am_H) (hr : h[a0]? = some (.inr (6, fs))) : am_cl m_Sale_priceOf [.ref a0, .int x1] h = Option.bind (am_gr h a0 6 5) (fun r1 => am_bi (am_cl m_Row_get [.ref r1, .int x1] h) (fun w3 h2 => am_bi (am_cl m_Sale_bidAt [.ref a0, .int x1, .int 1] h2) (fun w5 h4 => (bif decide (w5 = (-5)) then Option.bind (am_gr h4 a0 6 7) (fun r6 => am_bi (am_cl m_Sale_bidAt [.ref a0, .int x1, .int 0] h4) (fun w8 h7 => am_bi (am_cl m_Row_get [.ref r6, .int w8] h7) (fun w10 h9 => some (some (.int (am_min w3 w10)), h9)))) else Option.bind (am_gr h4 a0 6 0) (fun r11 => Option.bind (am_gr h4 r11 7 0) (fun r12 => Option.bind (am_gr h4 a0 6 7) (fun r13 => am_bi (am_cl m_Row_get [.ref r13, .int w5] h4) (fun w15 h14 => am_bi (am_cl m_Steps_next [.ref r12, .int w15] h14) (fun w17 h16 => Option.bind (am_gr h16 a0 6 7) (fun r18 => am_bi (am_cl m_Sale_bidAt [.ref a0, .int x1, .int 0] h16) (fun w20 h19 => am_bi (am_cl m_Row_get [.ref r18, .int w20] h19) (fun w22 h21 => some (some (.int (am_min (am_max w3 w17) w22)), h21))))))))))))) := (am_cl_of rfl hr).trans (am_blk [] 39 rfl)
set_option maxRecDepth 100000 in
set_option maxHeartbeats 2000000 in
theorem e_Sale_leastAmount (a0 : Nat) (x1 : Int32) (x2 : Int32) (x3 : Int32) {fs : List Value} (h : am_H) (hr : h[a0]? = some (.inr (6, fs))) : am_cl m_Sale_leastAmount [.ref a0, .int x1, .int x2, .int x3] h = am_bi (am_cl m_Sale_leastWorth [.ref a0, .int x1, .int x2, .int x3] h) (fun w2 h1 => (bif decide (w2 ≤ 0) then Option.bind (am_gr h1 a0 6 0) (fun r3 => Option.bind (am_gr h1 r3 7 0) (fun r4 => am_bi (am_cl m_Steps_next [.ref r4, .int 0] h1) (fun w6 h5 => (bif decide (1000000 < w6) then some (some (.int (-5)), h5) else am_bi (am_cl m_Sale_leftBefore [.ref a0, .int x2, .int x1] h5) (fun w8 h7 => (bif decide (w8 < w2) then some (some (.int (-5)), h7) else some (some (.int w6), h7))))))) else (bif decide (1000000 < w2) then some (some (.int (-5)), h1) else am_bi (am_cl m_Sale_leftBefore [.ref a0, .int x2, .int x1] h1) (fun w10 h9 => (bif decide (w10 < w2) then some (some (.int (-5)), h9) else some (some (.int w2), h9)))))) := (am_cl_of rfl hr).trans (am_blk [] 34 rfl)
set_option maxRecDepth 100000 in
set_option maxHeartbeats 2000000 in
theorem e_Sale_leastWorth (a0 : Nat) (x1 : Int32) (x2 : Int32) (x3 : Int32) {fs : List Value} (h : am_H) (hr : h[a0]? = some (.inr (6, fs))) : am_cl m_Sale_leastWorth [.ref a0, .int x1, .int x2, .int x3] h = Option.bind (am_gr h a0 6 5) (fun r1 => am_bi (am_cl m_Row_get [.ref r1, .int x2] h) (fun w3 h2 => am_ev m_Sale_leastWorth (13, [.ref a0, .int x1, .int x2, .int x3, .int w3, .int 0, .float 0, .float 0, .float 0], [], h2))) := (am_cl_of rfl hr).trans (am_blk [13, 88] 64 rfl)
set_option maxRecDepth 100000 in
set_option maxHeartbeats 2000000 in
theorem b_Sale_leastWorth_13 (a0 : Nat) (x1 : Int32) (x2 : Int32) (x3 : Int32) (x4 : Int32) (x5 : Int32) (u6 : Value) (u7 : Value) (u8 : Value) (h : am_H) : am_ev m_Sale_leastWorth (13, [.ref a0, .int x1, .int x2, .int x3, .int x4, .int x5, u6, u7, u8], [], h) = Option.bind (am_gr h a0 6 4) (fun r1 => am_bi (am_cl m_Row_get [.ref r1, .int x2] h) (fun w3 h2 => (bif decide (w3 ≤ x5) then some (some (.int x4), h2) else am_bi (am_cl m_Sale_bidAt [.ref a0, .int x2, .int x5] h2) (fun w5 h4 => Option.bind (am_gr h4 a0 6 7) (fun r6 => am_bi (am_cl m_Row_get [.ref r6, .int w5] h4) (fun w8 h7 => Option.bind (am_gr h7 a0 6 0) (fun r9 => Option.bind (am_gr h7 r9 7 4) (fun r10 => Option.bind (am_gr h7 r10 0 0) (fun r11 => am_bi (am_cl m_Row_get [.ref r11, .int w5] h7) (fun w13 h12 => (bif decide (w13 = x1) then am_ev m_Sale_leastWorth (88, [.ref a0, .int x1, .int x2, .int x3, .int x4, .int x5, .int w5, .int w8, u8], [], h12) else Option.bind (am_gr h12 a0 6 0) (fun r14 => Option.bind (am_gr h12 r14 7 4) (fun r15 => Option.bind (am_gr h12 r15 0 3) (fun r16 => am_bi (am_cl m_Row_get [.ref r16, .int w5] h12) (fun w18 h17 => (bif decide (w18 ≤ x3) then am_ev m_Sale_leastWorth (88, [.ref a0, .int x1, .int x2, .int x3, .int x4, .int x5, .int w5, .int w8, u8], [], h17) else am_ev m_Sale_leastWorth (13, [.ref a0, .int x1, .int x2, .int x3, .int (am_max x4 w8), .int (x5 + 1), .int w5, .int w8, .int 1], [], h17))))))))))))))))) := am_blk [13, 88] 64 rfl
set_option maxRecDepth 100000 in
set_option maxHeartbeats 2000000 in
theorem b_Sale_leastWorth_88 (a0 : Nat) (x1 : Int32) (x2 : Int32) (x3 : Int32) (x4 : Int32) (x5 : Int32) (x6 : Int32) (x7 : Int32) (u8 : Value) (h : am_H) : am_ev m_Sale_leastWorth (88, [.ref a0, .int x1, .int x2, .int x3, .int x4, .int x5, .int x6, .int x7, u8], [], h) = Option.bind (am_gr h a0 6 0) (fun r1 => Option.bind (am_gr h r1 7 0) (fun r2 => am_bi (am_cl m_Steps_next [.ref r2, .int x7] h) (fun w4 h3 => am_ev m_Sale_leastWorth (13, [.ref a0, .int x1, .int x2, .int x3, .int (am_max x4 w4), .int (x5 + 1), .int x6, .int x7, .int 0], [], h3)))) := am_blk [13, 88] 64 rfl
end
section
set_option maxRecDepth 100000 in
set_option maxHeartbeats 2000000 in
theorem e_Pa_init (a0 : Nat) {fs : List Value} (h : am_H) (hr : h[a0]? = some (.inr (9, fs))) : am_cl m_Pa_init [.ref a0] h = am_bv (am_cl m_State_init [.ref (List.length h)] (h ++ [.inr (7, am_new 7)])) (fun h1 => Option.bind (am_pf h1 a0 9 0 (.ref (List.length h))) (fun h2 => am_bv (am_cl m_History_init [.ref (List.length h2)] (h2 ++ [.inr (1, am_new 1)])) (fun h3 => Option.bind (am_pf h3 a0 9 1 (.ref (List.length h2))) (fun h4 => Option.bind (am_gr (h4 ++ [.inr (6, am_new 6)]) a0 9 0) (fun r5 => am_bv (am_cl m_Sale_init [.ref (List.length h4), .ref r5] (h4 ++ [.inr (6, am_new 6)])) (fun h6 => Option.bind (am_pf h6 a0 9 2 (.ref (List.length h4))) (fun h7 => Option.bind (am_gr (h7 ++ [.inr (4, am_new 4)]) a0 9 0) (fun r8 => Option.bind (am_gr (h7 ++ [.inr (4, am_new 4)]) a0 9 2) (fun r9 => am_bv (am_cl m_Money_init [.ref (List.length h7), .ref r8, .ref r9] (h7 ++ [.inr (4, am_new 4)])) (fun h10 => Option.bind (am_pf h10 a0 9 3 (.ref (List.length h7))) (fun h11 => am_bv (am_cl m_Letter_init [.ref (List.length h11)] (h11 ++ [.inr (2, am_new 2)])) (fun h12 => Option.bind (am_pf h12 a0 9 4 (.ref (List.length h11))) (fun h13 => some (none, h13)))))))))))))) := (am_cl_of rfl hr).trans (am_blk [] 39 rfl)
set_option maxRecDepth 100000 in
set_option maxHeartbeats 2000000 in
theorem e_Pa_setBand (a0 : Nat) (x1 : Int32) (x2 : Int32) {fs : List Value} (h : am_H) (hr : h[a0]? = some (.inr (9, fs))) : am_cl m_Pa_setBand [.ref a0, .int x1, .int x2] h = am_bi (am_cl m_Pa_isOutside [.int x1, .int 0, .int 1000000] h) (fun w2 h1 => (bif decide (¬ w2 = 0) then some (some (.int (-2)), h1) else am_bi (am_cl m_Pa_isOutside [.int x2, .int 1, .int 100000] h1) (fun w4 h3 => (bif decide (w4 = 0) then Option.bind (am_gr h3 a0 9 0) (fun r5 => Option.bind (am_gr h3 r5 7 0) (fun r6 => am_bi (am_cl m_Steps_hasRoomFor [.ref r6, .int x1] h3) (fun w8 h7 => (bif decide (¬ w8 = 0) then am_bv (am_cl m_Pa_beginAct [.ref a0] h7) (fun h9 => Option.bind (am_gr h9 a0 9 0) (fun r10 => Option.bind (am_gr h9 r10 7 0) (fun r11 => am_bv (am_cl m_Steps_putBand [.ref r11, .int x1, .int x2] h9) (fun h12 => Option.bind (am_gr h12 a0 9 0) (fun r13 => Option.bind (am_gr h12 r13 7 0) (fun r14 => Option.bind (am_gi h12 r14 8 2) (fun i15 => some (some (.int i15), h12)))))))) else some (some (.int (-3)), h7))))) else some (some (.int (-2)), h3))))) := (am_cl_of rfl hr).trans (am_blk [] 38 rfl)
set_option maxRecDepth 100000 in
set_option maxHeartbeats 2000000 in
theorem e_Pa_removeBand (a0 : Nat) (x1 : Int32) {fs : List Value} (h : am_H) (hr : h[a0]? = some (.inr (9, fs))) : am_cl m_Pa_removeBand [.ref a0, .int x1] h = (bif decide (x1 = 0) then some (some (.int (-4)), h) else Option.bind (am_gr h a0 9 0) (fun r1 => Option.bind (am_gr h r1 7 0) (fun r2 => am_bi (am_cl m_Steps_hasBand [.ref r2, .int x1] h) (fun w4 h3 => (bif decide (¬ w4 = 0) then am_bv (am_cl m_Pa_beginAct [.ref a0] h3) (fun h5 => Option.bind (am_gr h5 a0 9 0) (fun r6 => Option.bind (am_gr h5 r6 7 0) (fun r7 => am_bv (am_cl m_Steps_dropBand [.ref r7, .int x1] h5) (fun h8 => Option.bind (am_gr h8 a0 9 0) (fun r9 => Option.bind (am_gr h8 r9 7 0) (fun r10 => Option.bind (am_gi h8 r10 8 2) (fun i11 => some (some (.int i11), h8)))))))) else some (some (.int (-4)), h3)))))) := (am_cl_of rfl hr).trans (am_blk [] 27 rfl)
set_option maxRecDepth 100000 in
set_option maxHeartbeats 2000000 in
theorem e_Pa_valid (a0 : Nat) (x1 : Int32) (x2 : Int32) {fs : List Value} (h : am_H) (hr : h[a0]? = some (.inr (9, fs))) : am_cl m_Pa_valid [.ref a0, .int x1, .int x2] h = am_bi (am_cl m_Pa_isOutside [.int x1, .int 0, .int 2000000] h) (fun w2 h1 => (bif decide (w2 = 0) then (bif decide (x2 = 0) then Option.bind (am_gr h1 a0 9 0) (fun r11 => Option.bind (am_gr h1 r11 7 0) (fun r12 => am_bi (am_cl m_Steps_floor [.ref r12, .int x1] h1) (fun w14 h13 => some (some (.int w14), h13)))) else (bif decide (x2 = 1) then Option.bind (am_gr h1 a0 9 0) (fun r7 => Option.bind (am_gr h1 r7 7 0) (fun r8 => am_bi (am_cl m_Steps_ceiling [.ref r8, .int x1] h1) (fun w10 h9 => some (some (.int w10), h9)))) else (bif decide (x2 = 2) then Option.bind (am_gr h1 a0 9 0) (fun r3 => Option.bind (am_gr h1 r3 7 0) (fun r4 => am_bi (am_cl m_Steps_next [.ref r4, .int x1] h1) (fun w6 h5 => some (some (.int w6), h5)))) else some (some (.int (-2)), h1)))) else some (some (.int (-2)), h1))) := (am_cl_of rfl hr).trans (am_blk [] 34 rfl)
set_option maxRecDepth 100000 in
set_option maxHeartbeats 2000000 in
theorem e_Pa_addLot (a0 : Nat) (x1 : Int32) (x2 : Int32) (x3 : Int32) {fs : List Value} (h : am_H) (hr : h[a0]? = some (.inr (9, fs))) : am_cl m_Pa_addLot [.ref a0, .int x1, .int x2, .int x3] h = am_bi (am_cl m_Pa_isOutside [.int x1, .int 0, .int 4] h) (fun w2 h1 => (bif decide (w2 = 0) then am_bi (am_cl m_Pa_isOutside [.int x2, .int 0, .int 1000000] h1) (fun w4 h3 => (bif decide (¬ w4 = 0) then some (some (.int (-2)), h3) else am_bi (am_cl m_Pa_isOutside [.int x3, .int 0, .int 1000000] h3) (fun w6 h5 => (bif decide (w6 = 0) then Option.bind (am_gr h5 a0 9 0) (fun r7 => Option.bind (am_gr h5 r7 7 1) (fun r8 => Option.bind (am_gi h5 r8 3 4) (fun i9 => (bif decide (i9 < 20) then am_bv (am_cl m_Pa_beginAct [.ref a0] h5) (fun h10 => Option.bind (am_gr h10 a0 9 0) (fun r11 => Option.bind (am_gr h10 r11 7 1) (fun r12 => am_bi (am_cl m_Lots_add [.ref r12, .int x1, .int x2, .int x3] h10) (fun w14 h13 => some (some (.int w14), h13))))) else some (some (.int (-3)), h5))))) else some (some (.int (-2)), h5))))) else some (some (.int (-1)), h1))) := (am_cl_of rfl hr).trans (am_blk [] 42 rfl)
set_option maxRecDepth 100000 in
set_option maxHeartbeats 2000000 in
theorem e_Pa_setReserve (a0 : Nat) (x1 : Int32) (x2 : Int32) {fs : List Value} (h : am_H) (hr : h[a0]? = some (.inr (9, fs))) : am_cl m_Pa_setReserve [.ref a0, .int x1, .int x2] h = am_bi (am_cl m_Pa_isLot [.ref a0, .int x1] h) (fun w2 h1 => (bif decide (¬ w2 = 0) then am_bi (am_cl m_Pa_isOutside [.int x2, .int 0, .int 1000000] h1) (fun w4 h3 => (bif decide (w4 = 0) then am_bv (am_cl m_Pa_beginAct [.ref a0] h3) (fun h5 => Option.bind (am_gr h5 a0 9 0) (fun r6 => Option.bind (am_gr h5 r6 7 1) (fun r7 => Option.bind (am_gr h5 r7 3 2) (fun r8 => am_bi (am_cl m_Row_get [.ref r8, .int x1] h5) (fun w10 h9 => Option.bind (am_gr h9 a0 9 0) (fun r11 => Option.bind (am_gr h9 r11 7 1) (fun r12 => Option.bind (am_gr h9 r12 3 2) (fun r13 => am_bv (am_cl m_Row_put [.ref r13, .int x1, .int x2] h9) (fun h14 => some (some (.int w10), h14)))))))))) else some (some (.int (-2)), h3))) else some (some (.int (-1)), h1))) := (am_cl_of rfl hr).trans (am_blk [] 36 rfl)
set_option maxRecDepth 100000 in
set_option maxHeartbeats 2000000 in
theorem e_Pa_withdrawLot (a0 : Nat) (x1 : Int32) (x2 : Int32) {fs : List Value} (h : am_H) (hr : h[a0]? = some (.inr (9, fs))) : am_cl m_Pa_withdrawLot [.ref a0, .int x1, .int x2] h = am_bi (am_cl m_Pa_isLot [.ref a0, .int x1] h) (fun w2 h1 => (bif decide (¬ w2 = 0) then (bif decide (x2 = 0) then Option.bind (am_gr h1 a0 9 0) (fun r3 => Option.bind (am_gr h1 r3 7 1) (fun r4 => Option.bind (am_gr h1 r4 3 3) (fun r5 => am_bi (am_cl m_Row_get [.ref r5, .int x1] h1) (fun w7 h6 => (bif decide (¬ w7 = 0) then am_bv (am_cl m_Pa_beginAct [.ref a0] h6) (fun h8 => Option.bind (am_gr h8 a0 9 0) (fun r9 => Option.bind (am_gr h8 r9 7 1) (fun r10 => Option.bind (am_gr h8 r10 3 3) (fun r11 => am_bv (am_cl m_Row_put [.ref r11, .int x1, .int 0] h8) (fun h12 => Option.bind (am_gr h12 a0 9 0) (fun r13 => Option.bind (am_gr h12 r13 7 1) (fun r14 => Option.bind (am_gr h12 r14 3 3) (fun r15 => Option.bind (am_gr h12 a0 9 0) (fun r16 => Option.bind (am_gr h12 r16 7 1) (fun r17 => Option.bind (am_gi h12 r17 3 4) (fun i18 => am_bi (am_cl m_Row_sum [.ref r15, .int i18] h12) (fun w20 h19 => some (some (.int w20), h19))))))))))))) else some (some (.int (-4)), h6)))))) else Option.bind (am_gr h1 a0 9 0) (fun r21 => Option.bind (am_gr h1 r21 7 1) (fun r22 => Option.bind (am_gr h1 r22 3 3) (fun r23 => am_bi (am_cl m_Row_get [.ref r23, .int x1] h1) (fun w25 h24 => (bif decide (¬ w25 = 1) then am_bv (am_cl m_Pa_beginAct [.ref a0] h24) (fun h26 => Option.bind (am_gr h26 a0 9 0) (fun r27 => Option.bind (am_gr h26 r27 7 1) (fun r28 => Option.bind (am_gr h26 r28 3 3) (fun r29 => am_bv (am_cl m_Row_put [.ref r29, .int x1, .int 1] h26) (fun h30 => Option.bind (am_gr h30 a0 9 0) (fun r31 => Option.bind (am_gr h30 r31 7 1) (fun r32 => Option.bind (am_gr h30 r32 3 3) (fun r33 => Option.bind (am_gr h30 a0 9 0) (fun r34 => Option.bind (am_gr h30 r34 7 1) (fun r35 => Option.bind (am_gi h30 r35 3 4) (fun i36 => am_bi (am_cl m_Row_sum [.ref r33, .int i36] h30) (fun w38 h37 => some (some (.int w38), h37))))))))))))) else some (some (.int (-4)), h24))))))) else some (some (.int (-1)), h1))) := (am_cl_of rfl hr).trans (am_blk [] 46 rfl)
set_option maxRecDepth 100000 in
set_option maxHeartbeats 2000000 in
theorem e_Pa_addBidder (a0 : Nat) (x1 : Int32) {fs : List Value} (h : am_H) (hr : h[a0]? = some (.inr (9, fs))) : am_cl m_Pa_addBidder [.ref a0, .int x1] h = am_bi (am_cl m_Pa_isOutside [.int x1, .int 0, .int 10000000] h) (fun w2 h1 => (bif decide (w2 = 0) then Option.bind (am_gr h1 a0 9 0) (fun r3 => Option.bind (am_gi h1 r3 7 3) (fun i4 => (bif decide (i4 < 8) then am_bv (am_cl m_Pa_beginAct [.ref a0] h1) (fun h5 => Option.bind (am_gr h5 a0 9 0) (fun r6 => Option.bind (am_gr h5 r6 7 2) (fun r7 => Option.bind (am_gr h5 a0 9 0) (fun r8 => Option.bind (am_gi h5 r8 7 3) (fun i9 => am_bv (am_cl m_Row_put [.ref r7, .int i9, .int x1] h5) (fun h10 => Option.bind (am_gr h10 a0 9 0) (fun r11 => Option.bind (am_gi h10 r11 7 3) (fun i12 => Option.bind (am_pf h10 r11 7 3 (.int (i12 + 1))) (fun h13 => Option.bind (am_gr h13 a0 9 0) (fun r14 => Option.bind (am_gi h13 r14 7 3) (fun i15 => some (some (.int (i15 - 1)), h13)))))))))))) else some (some (.int (-3)), h1)))) else some (some (.int (-2)), h1))) := (am_cl_of rfl hr).trans (am_blk [] 42 rfl)
set_option maxRecDepth 100000 in
set_option maxHeartbeats 2000000 in
theorem e_Pa_setLimit (a0 : Nat) (x1 : Int32) (x2 : Int32) {fs : List Value} (h : am_H) (hr : h[a0]? = some (.inr (9, fs))) : am_cl m_Pa_setLimit [.ref a0, .int x1, .int x2] h = am_bi (am_cl m_Pa_isBidder [.ref a0, .int x1] h) (fun w2 h1 => (bif decide (¬ w2 = 0) then am_bi (am_cl m_Pa_isOutside [.int x2, .int 0, .int 10000000] h1) (fun w4 h3 => (bif decide (w4 = 0) then am_bv (am_cl m_Pa_beginAct [.ref a0] h3) (fun h5 => Option.bind (am_gr h5 a0 9 0) (fun r6 => Option.bind (am_gr h5 r6 7 2) (fun r7 => am_bi (am_cl m_Row_get [.ref r7, .int x1] h5) (fun w9 h8 => Option.bind (am_gr h8 a0 9 0) (fun r10 => Option.bind (am_gr h8 r10 7 2) (fun r11 => am_bv (am_cl m_Row_put [.ref r11, .int x1, .int x2] h8) (fun h12 => some (some (.int w9), h12)))))))) else some (some (.int (-2)), h3))) else some (some (.int (-1)), h1))) := (am_cl_of rfl hr).trans (am_blk [] 34 rfl)
set_option maxRecDepth 100000 in
set_option maxHeartbeats 2000000 in
theorem e_Pa_set (a0 : Nat) (x1 : Int32) (x2 : Int32) {fs : List Value} (h : am_H) (hr : h[a0]? = some (.inr (9, fs))) : am_cl m_Pa_set [.ref a0, .int x1, .int x2] h = am_bi (am_cl m_Pa_isOutside [.int x1, .int 0, .int 3] h) (fun w2 h1 => (bif decide (w2 = 0) then am_bi (am_cl m_Pa_mostOfSetting [.int x1] h1) (fun w4 h3 => am_bi (am_cl m_Pa_isOutside [.int x2, .int 0, .int w4] h3) (fun w6 h5 => (bif decide (w6 = 0) then am_bv (am_cl m_Pa_beginAct [.ref a0] h5) (fun h7 => Option.bind (am_gr h7 a0 9 0) (fun r8 => Option.bind (am_gr h7 r8 7 5) (fun r9 => am_bi (am_cl m_Row_get [.ref r9, .int x1] h7) (fun w11 h10 => Option.bind (am_gr h10 a0 9 0) (fun r12 => Option.bind (am_gr h10 r12 7 5) (fun r13 => am_bv (am_cl m_Row_put [.ref r13, .int x1, .int x2] h10) (fun h14 => some (some (.int w11), h14)))))))) else some (some (.int (-2)), h5)))) else some (some (.int (-1)), h1))) := (am_cl_of rfl hr).trans (am_blk [] 36 rfl)
set_option maxRecDepth 100000 in
set_option maxHeartbeats 2000000 in
theorem e_Pa_bid (a0 : Nat) (x1 : Int32) (x2 : Int32) (x3 : Int32) (x4 : Int32) (x5 : Int32) {fs : List Value} (h : am_H) (hr : h[a0]? = some (.inr (9, fs))) : am_cl m_Pa_bid [.ref a0, .int x1, .int x2, .int x3, .int x4, .int x5] h = am_bi (am_cl m_Pa_isBidder [.ref a0, .int x1] h) (fun w2 h1 => (bif decide (w2 = 0) then some (some (.int (-1)), h1) else am_bi (am_cl m_Pa_isLot [.ref a0, .int x2] h1) (fun w4 h3 => (bif decide (¬ w4 = 0) then am_bi (am_cl m_Pa_isOutside [.int x3, .int 1, .int 1000000] h3) (fun w6 h5 => (bif decide (¬ w6 = 0) then some (some (.int (-2)), h5) else am_bi (am_cl m_Pa_isOutside [.int x4, .int 0, .int 100000] h5) (fun w8 h7 => (bif decide (¬ w8 = 0) then some (some (.int (-2)), h7) else am_bi (am_cl m_Pa_isOutside [.int x5, .int 0, .int 1000000] h7) (fun w10 h9 => (bif decide (w10 = 0) then Option.bind (am_gr h9 a0 9 0) (fun r11 => Option.bind (am_gr h9 r11 7 4) (fun r12 => Option.bind (am_gi h9 r12 0 6) (fun i13 => (bif decide (i13 < 60) then am_bv (am_cl m_Pa_beginAct [.ref a0] h9) (fun h14 => Option.bind (am_gr h14 a0 9 0) (fun r15 => Option.bind (am_gr h14 r15 7 4) (fun r16 => am_bi (am_cl m_Bids_add [.ref r16, .int x1, .int x2, .int x3, .int x4, .int x5] h14) (fun w18 h17 => some (some (.int w18), h17))))) else some (some (.int (-3)), h9))))) else some (some (.int (-2)), h9))))))) else some (some (.int (-1)), h3))))) := (am_cl_of rfl hr).trans (am_blk [] 52 rfl)
set_option maxRecDepth 100000 in
set_option maxHeartbeats 2000000 in
theorem e_Pa_withdrawBid (a0 : Nat) (x1 : Int32) {fs : List Value} (h : am_H) (hr : h[a0]? = some (.inr (9, fs))) : am_cl m_Pa_withdrawBid [.ref a0, .int x1] h = am_bi (am_cl m_Pa_isBid [.ref a0, .int x1] h) (fun w2 h1 => (bif decide (¬ w2 = 0) then Option.bind (am_gr h1 a0 9 0) (fun r3 => Option.bind (am_gr h1 r3 7 4) (fun r4 => Option.bind (am_gr h1 r4 0 5) (fun r5 => am_bi (am_cl m_Row_get [.ref r5, .int x1] h1) (fun w7 h6 => (bif decide (¬ w7 = 1) then am_bv (am_cl m_Pa_beginAct [.ref a0] h6) (fun h8 => Option.bind (am_gr h8 a0 9 0) (fun r9 => Option.bind (am_gr h8 r9 7 4) (fun r10 => Option.bind (am_gr h8 r10 0 5) (fun r11 => am_bv (am_cl m_Row_put [.ref r11, .int x1, .int 1] h8) (fun h12 => Option.bind (am_gr h12 a0 9 0) (fun r13 => Option.bind (am_gr h12 r13 7 4) (fun r14 => Option.bind (am_gr h12 r14 0 1) (fun r15 => am_bi (am_cl m_Row_get [.ref r15, .int x1] h12) (fun w17 h16 => some (some (.int w17), h16)))))))))) else some (some (.int (-4)), h6)))))) else some (some (.int (-1)), h1))) := (am_cl_of rfl hr).trans (am_blk [] 37 rfl)
set_option maxRecDepth 100000 in
set_option maxHeartbeats 2000000 in
theorem e_Pa_type (a0 : Nat) (x1 : Int32) {fs : List Value} (h : am_H) (hr : h[a0]? = some (.inr (9, fs))) : am_cl m_Pa_type [.ref a0, .int x1] h = Option.bind (am_gr h a0 9 4) (fun r1 => am_bi (am_cl m_Letter_append [.ref r1, .int x1] h) (fun w3 h2 => (bif decide (w3 = 0) then some (some (.int (-3)), h2) else Option.bind (am_gr h2 a0 9 4) (fun r4 => Option.bind (am_gi h2 r4 2 1) (fun i5 => some (some (.int i5), h2)))))) := (am_cl_of rfl hr).trans (am_blk [] 16 rfl)
set_option maxRecDepth 100000 in
set_option maxHeartbeats 2000000 in
theorem e_Pa_clearText (a0 : Nat) {fs : List Value} (h : am_H) (hr : h[a0]? = some (.inr (9, fs))) : am_cl m_Pa_clearText [.ref a0] h = Option.bind (am_gr h a0 9 4) (fun r1 => Option.bind (am_gi h r1 2 1) (fun i2 => Option.bind (am_gr h a0 9 4) (fun r3 => Option.bind (am_pf h r3 2 1 (.int 0)) (fun h4 => some (some (.int i2), h4))))) := (am_cl_of rfl hr).trans (am_blk [] 15 rfl)
set_option maxRecDepth 100000 in
set_option maxHeartbeats 2000000 in
theorem e_Pa_letter (a0 : Nat) (x1 : Int32) (x2 : Int32) {fs : List Value} (h : am_H) (hr : h[a0]? = some (.inr (9, fs))) : am_cl m_Pa_letter [.ref a0, .int x1, .int x2] h = am_bi (am_cl m_Pa_isBidder [.ref a0, .int x1] h) (fun w2 h1 => (bif decide (¬ w2 = 0) then am_bi (am_cl m_Pa_isOutside [.int x2, .int 0, .int 100000] h1) (fun w4 h3 => (bif decide (w4 = 0) then Option.bind (am_gr h3 a0 9 4) (fun r5 => Option.bind (am_gr h3 a0 9 0) (fun r6 => Option.bind (am_gr h3 r6 7 1) (fun r7 => Option.bind (am_gi h3 r7 3 4) (fun i8 => am_bi (am_cl m_Letter_read [.ref r5, .int i8] h3) (fun w10 h9 => (bif decide (w10 = (-1)) then Option.bind (am_gr h9 a0 9 0) (fun r11 => Option.bind (am_gr h9 r11 7 4) (fun r12 => Option.bind (am_gi h9 r12 0 6) (fun i13 => Option.bind (am_gr h9 a0 9 4) (fun r14 => Option.bind (am_gi h9 r14 2 5) (fun i15 => (bif decide ((i13 + i15) ≤ 60) then am_bv (am_cl m_Pa_beginAct [.ref a0] h9) (fun h16 => am_ev m_Pa_letter (87, [.ref a0, .int x1, .int x2, .int w10, .int 0, .int 0], [], h16)) else some (some (.int (-3)), h9))))))) else some (some (.int ((-100) - w10)), h9))))))) else some (some (.int (-2)), h3))) else some (some (.int (-1)), h1))) := (am_cl_of rfl hr).trans (am_blk [87, 148] 104 rfl)
set_option maxRecDepth 100000 in
set_option maxHeartbeats 2000000 in
theorem b_Pa_letter_87 (a0 : Nat) (x1 : Int32) (x2 : Int32) (x3 : Int32) (x4 : Int32) (x5 : Int32) (h : am_H) : am_ev m_Pa_letter (87, [.ref a0, .int x1, .int x2, .int x3, .int x4, .int x5], [], h) = Option.bind (am_gr h a0 9 4) (fun r1 => Option.bind (am_gi h r1 2 5) (fun i2 => (bif decide (i2 ≤ x5) then Option.bind (am_gr h a0 9 4) (fun r3 => Option.bind (am_gi h r3 2 5) (fun i4 => some (some (.int i4), h))) else Option.bind (am_gr h a0 9 4) (fun r5 => am_bi (am_cl m_Letter_isInOneWish [.ref r5, .int (x5 - 1), .int x5] h) (fun w7 h6 => (bif decide (¬ w7 = 0) then am_ev m_Pa_letter (148, [.ref a0, .int x1, .int x2, .int x3, .int x4, .int x5], [], h6) else Option.bind (am_gr h6 a0 9 4) (fun r8 => am_bi (am_cl m_Letter_isInOneWish [.ref r8, .int x5, .int (x5 + 1)] h6) (fun w10 h9 => (bif decide (w10 = 0) then am_ev m_Pa_letter (148, [.ref a0, .int x1, .int x2, .int x3, .int 0, .int x5], [], h9) else Option.bind (am_gr h9 a0 9 0) (fun r11 => Option.bind (am_gr h9 r11 7 4) (fun r12 => am_bi (am_cl m_Bids_freeGroup [.ref r12, .int x1] h9) (fun w14 h13 => am_ev m_Pa_letter (148, [.ref a0, .int x1, .int x2, .int x3, .int w14, .int x5], [], h13))))))))))))) := am_blk [87, 148] 104 rfl
set_option maxRecDepth 100000 in
set_option maxHeartbeats 2000000 in
theorem b_Pa_letter_148 (a0 : Nat) (x1 : Int32) (x2 : Int32) (x3 : Int32) (x4 : Int32) (x5 : Int32) (h : am_H) : am_ev m_Pa_letter (148, [.ref a0, .int x1, .int x2, .int x3, .int x4, .int x5], [], h) = Option.bind (am_gr h a0 9 0) (fun r1 => Option.bind (am_gr h r1 7 4) (fun r2 => Option.bind (am_gr h a0 9 4) (fun r3 => Option.bind (am_gr h r3 2 2) (fun r4 => am_bi (am_cl m_Row_get [.ref r4, .int x5] h) (fun w6 h5 => Option.bind (am_gr h5 a0 9 4) (fun r7 => Option.bind (am_gr h5 r7 2 3) (fun r8 => am_bi (am_cl m_Row_get [.ref r8, .int x5] h5) (fun w10 h9 => am_bi (am_cl m_Bids_add [.ref r2, .int x1, .int w6, .int w10, .int x2, .int x4] h9) (fun w12 h11 => am_ev m_Pa_letter (87, [.ref a0, .int x1, .int x2, .int x3, .int x4, .int (x5 + 1)], [], h11)))))))))) := am_blk [87, 148] 104 rfl
set_option maxRecDepth 100000 in
set_option maxHeartbeats 2000000 in
theorem e_Pa_undo (a0 : Nat) {fs : List Value} (h : am_H) (hr : h[a0]? = some (.inr (9, fs))) : am_cl m_Pa_undo [.ref a0] h = Option.bind (am_gr h a0 9 1) (fun r1 => Option.bind (am_gi h r1 1 1) (fun i2 => (bif decide (0 < i2) then Option.bind (am_gr h a0 9 1) (fun r3 => Option.bind (am_gr h a0 9 0) (fun r4 => am_bv (am_cl m_History_restore [.ref r3, .ref r4] h) (fun h5 => Option.bind (am_gr h5 a0 9 2) (fun r6 => Option.bind (am_pf h5 r6 6 10 (.int 0)) (fun h7 => Option.bind (am_gr h7 a0 9 1) (fun r8 => Option.bind (am_gi h7 r8 1 1) (fun i9 => some (some (.int i9), h7)))))))) else some (some (.int (-5)), h)))) := (am_cl_of rfl hr).trans (am_blk [] 24 rfl)
set_option maxRecDepth 100000 in
set_option maxHeartbeats 2000000 in
theorem e_Pa_sale (a0 : Nat) (x1 : Int32) (x2 : Int32) {fs : List Value} (h : am_H) (hr : h[a0]? = some (.inr (9, fs))) : am_cl m_Pa_sale [.ref a0, .int x1, .int x2] h = am_bi (am_cl m_Pa_isLot [.ref a0, .int x1] h) (fun w2 h1 => (bif decide (¬ w2 = 0) then Option.bind (am_gr h1 a0 9 2) (fun r3 => am_bv (am_cl m_Sale_hold [.ref r3] h1) (fun h4 => (bif decide (x2 = 0) then Option.bind (am_gr h4 a0 9 2) (fun r23 => Option.bind (am_gr h4 r23 6 1) (fun r24 => am_bi (am_cl m_Row_get [.ref r24, .int x1] h4) (fun w26 h25 => some (some (.int w26), h25)))) else (bif decide (x2 = 1) then Option.bind (am_gr h4 a0 9 2) (fun r19 => Option.bind (am_gr h4 r19 6 2) (fun r20 => am_bi (am_cl m_Row_get [.ref r20, .int x1] h4) (fun w22 h21 => some (some (.int w22), h21)))) else (bif decide (x2 = 2) then Option.bind (am_gr h4 a0 9 2) (fun r15 => Option.bind (am_gr h4 r15 6 3) (fun r16 => am_bi (am_cl m_Row_get [.ref r16, .int x1] h4) (fun w18 h17 => some (some (.int w18), h17)))) else (bif decide (x2 = 3) then Option.bind (am_gr h4 a0 9 2) (fun r11 => Option.bind (am_gr h4 r11 6 4) (fun r12 => am_bi (am_cl m_Row_get [.ref r12, .int x1] h4) (fun w14 h13 => some (some (.int w14), h13)))) else (bif decide (x2 = 4) then Option.bind (am_gr h4 a0 9 2) (fun r8 => am_bi (am_cl m_Sale_bidAt [.ref r8, .int x1, .int 0] h4) (fun w10 h9 => some (some (.int w10), h9))) else (bif decide (x2 = 5) then Option.bind (am_gr h4 a0 9 2) (fun r5 => am_bi (am_cl m_Sale_bidAt [.ref r5, .int x1, .int 1] h4) (fun w7 h6 => some (some (.int w7), h6))) else some (some (.int (-2)), h4))))))))) else some (some (.int (-1)), h1))) := (am_cl_of rfl hr).trans (am_blk [] 54 rfl)
set_option maxRecDepth 100000 in
set_option maxHeartbeats 2000000 in
theorem e_Pa_ranked (a0 : Nat) (x1 : Int32) (x2 : Int32) {fs : List Value} (h : am_H) (hr : h[a0]? = some (.inr (9, fs))) : am_cl m_Pa_ranked [.ref a0, .int x1, .int x2] h = am_bi (am_cl m_Pa_isLot [.ref a0, .int x1] h) (fun w2 h1 => (bif decide (¬ w2 = 0) then (bif decide (0 ≤ x2) then Option.bind (am_gr h1 a0 9 2) (fun r3 => am_bv (am_cl m_Sale_hold [.ref r3] h1) (fun h4 => Option.bind (am_gr h4 a0 9 2) (fun r5 => am_bi (am_cl m_Sale_bidAt [.ref r5, .int x1, .int x2] h4) (fun w7 h6 => some (some (.int w7), h6))))) else some (some (.int (-2)), h1)) else some (some (.int (-1)), h1))) := (am_cl_of rfl hr).trans (am_blk [] 24 rfl)
set_option maxRecDepth 100000 in
set_option maxHeartbeats 2000000 in
theorem e_Pa_fate (a0 : Nat) (x1 : Int32) {fs : List Value} (h : am_H) (hr : h[a0]? = some (.inr (9, fs))) : am_cl m_Pa_fate [.ref a0, .int x1] h = am_bi (am_cl m_Pa_isBid [.ref a0, .int x1] h) (fun w2 h1 => (bif decide (¬ w2 = 0) then Option.bind (am_gr h1 a0 9 2) (fun r3 => am_bv (am_cl m_Sale_hold [.ref r3] h1) (fun h4 => Option.bind (am_gr h4 a0 9 2) (fun r5 => Option.bind (am_gr h4 r5 6 8) (fun r6 => am_bi (am_cl m_Row_get [.ref r6, .int x1] h4) (fun w8 h7 => some (some (.int w8), h7)))))) else some (some (.int (-1)), h1))) := (am_cl_of rfl hr).trans (am_blk [] 20 rfl)
set_option maxRecDepth 100000 in
set_option maxHeartbeats 2000000 in
theorem e_Pa_needed (a0 : Nat) (x1 : Int32) (x2 : Int32) (x3 : Int32) {fs : List Value} (h : am_H) (hr : h[a0]? = some (.inr (9, fs))) : am_cl m_Pa_needed [.ref a0, .int x1, .int x2, .int x3] h = am_bi (am_cl m_Pa_isBidder [.ref a0, .int x1] h) (fun w2 h1 => (bif decide (w2 = 0) then some (some (.int (-1)), h1) else am_bi (am_cl m_Pa_isLot [.ref a0, .int x2] h1) (fun w4 h3 => (bif decide (¬ w4 = 0) then am_bi (am_cl m_Pa_isOutside [.int x3, .int 0, .int 100000] h3) (fun w6 h5 => (bif decide (w6 = 0) then Option.bind (am_gr h5 a0 9 0) (fun r7 => Option.bind (am_gr h5 r7 7 4) (fun r8 => Option.bind (am_gi h5 r8 0 6) (fun i9 => (bif decide (60 ≤ i9) then some (some (.int (-5)), h5) else Option.bind (am_gr h5 a0 9 0) (fun r10 => Option.bind (am_gr h5 r10 7 1) (fun r11 => Option.bind (am_gr h5 r11 3 3) (fun r12 => am_bi (am_cl m_Row_get [.ref r12, .int x2] h5) (fun w14 h13 => (bif decide (w14 = 1) then some (some (.int (-5)), h13) else Option.bind (am_gr h13 a0 9 0) (fun r15 => Option.bind (am_gr h13 r15 7 5) (fun r16 => am_bi (am_cl m_Row_get [.ref r16, .int 0] h13) (fun w18 h17 => (bif decide (x3 ≤ w18) then Option.bind (am_gr h17 a0 9 2) (fun r19 => am_bv (am_cl m_Sale_hold [.ref r19] h17) (fun h20 => Option.bind (am_gr h20 a0 9 2) (fun r21 => am_bi (am_cl m_Sale_leastAmount [.ref r21, .int x1, .int x2, .int x3] h20) (fun w23 h22 => some (some (.int w23), h22))))) else some (some (.int (-5)), h17)))))))))))))) else some (some (.int (-2)), h5))) else some (some (.int (-1)), h3))))) := (am_cl_of rfl hr).trans (am_blk [] 55 rfl)
set_option maxRecDepth 100000 in
set_option maxHeartbeats 2000000 in
theorem e_Pa_lot (a0 : Nat) (x1 : Int32) (x2 : Int32) {fs : List Value} (h : am_H) (hr : h[a0]? = some (.inr (9, fs))) : am_cl m_Pa_lot [.ref a0, .int x1, .int x2] h = am_bi (am_cl m_Pa_isLot [.ref a0, .int x1] h) (fun w2 h1 => (bif decide (¬ w2 = 0) then (bif decide (x2 = 0) then Option.bind (am_gr h1 a0 9 0) (fun r29 => Option.bind (am_gr h1 r29 7 1) (fun r30 => Option.bind (am_gr h1 r30 3 0) (fun r31 => am_bi (am_cl m_Row_get [.ref r31, .int x1] h1) (fun w33 h32 => some (some (.int w33), h32))))) else (bif decide (x2 = 1) then Option.bind (am_gr h1 a0 9 0) (fun r24 => Option.bind (am_gr h1 r24 7 1) (fun r25 => Option.bind (am_gr h1 r25 3 1) (fun r26 => am_bi (am_cl m_Row_get [.ref r26, .int x1] h1) (fun w28 h27 => some (some (.int w28), h27))))) else (bif decide (x2 = 2) then Option.bind (am_gr h1 a0 9 0) (fun r19 => Option.bind (am_gr h1 r19 7 1) (fun r20 => Option.bind (am_gr h1 r20 3 2) (fun r21 => am_bi (am_cl m_Row_get [.ref r21, .int x1] h1) (fun w23 h22 => some (some (.int w23), h22))))) else (bif decide (x2 = 3) then Option.bind (am_gr h1 a0 9 0) (fun r14 => Option.bind (am_gr h1 r14 7 1) (fun r15 => Option.bind (am_gr h1 r15 3 3) (fun r16 => am_bi (am_cl m_Row_get [.ref r16, .int x1] h1) (fun w18 h17 => some (some (.int w18), h17))))) else (bif decide (x2 = 4) then Option.bind (am_gr h1 a0 9 0) (fun r11 => am_bi (am_cl m_State_askingPrice [.ref r11, .int x1] h1) (fun w13 h12 => some (some (.int w13), h12))) else (bif decide (x2 = 5) then Option.bind (am_gr h1 a0 9 0) (fun r3 => Option.bind (am_gr h1 r3 7 4) (fun r4 => Option.bind (am_gr h1 r4 0 1) (fun r5 => Option.bind (am_gr h1 a0 9 0) (fun r6 => Option.bind (am_gr h1 r6 7 4) (fun r7 => Option.bind (am_gi h1 r7 0 6) (fun i8 => am_bi (am_cl m_Row_countOf [.ref r5, .int x1, .int i8] h1) (fun w10 h9 => some (some (.int w10), h9)))))))) else some (some (.int (-2)), h1))))))) else some (some (.int (-1)), h1))) := (am_cl_of rfl hr).trans (am_blk [] 59 rfl)
set_option maxRecDepth 100000 in
set_option maxHeartbeats 2000000 in
theorem e_Pa_bidOf (a0 : Nat) (x1 : Int32) (x2 : Int32) {fs : List Value} (h : am_H) (hr : h[a0]? = some (.inr (9, fs))) : am_cl m_Pa_bidOf [.ref a0, .int x1, .int x2] h = am_bi (am_cl m_Pa_isBid [.ref a0, .int x1] h) (fun w2 h1 => (bif decide (¬ w2 = 0) then Option.bind (am_gr h1 a0 9 2) (fun r3 => am_bv (am_cl m_Sale_hold [.ref r3] h1) (fun h4 => (bif decide (x2 = 0) then Option.bind (am_gr h4 a0 9 0) (fun r34 => Option.bind (am_gr h4 r34 7 4) (fun r35 => Option.bind (am_gr h4 r35 0 1) (fun r36 => am_bi (am_cl m_Row_get [.ref r36, .int x1] h4) (fun w38 h37 => some (some (.int w38), h37))))) else (bif decide (x2 = 1) then Option.bind (am_gr h4 a0 9 0) (fun r29 => Option.bind (am_gr h4 r29 7 4) (fun r30 => Option.bind (am_gr h4 r30 0 0) (fun r31 => am_bi (am_cl m_Row_get [.ref r31, .int x1] h4) (fun w33 h32 => some (some (.int w33), h32))))) else (bif decide (x2 = 2) then Option.bind (am_gr h4 a0 9 0) (fun r24 => Option.bind (am_gr h4 r24 7 4) (fun r25 => Option.bind (am_gr h4 r25 0 2) (fun r26 => am_bi (am_cl m_Row_get [.ref r26, .int x1] h4) (fun w28 h27 => some (some (.int w28), h27))))) else (bif decide (x2 = 3) then Option.bind (am_gr h4 a0 9 0) (fun r19 => Option.bind (am_gr h4 r19 7 4) (fun r20 => Option.bind (am_gr h4 r20 0 3) (fun r21 => am_bi (am_cl m_Row_get [.ref r21, .int x1] h4) (fun w23 h22 => some (some (.int w23), h22))))) else (bif decide (x2 = 4) then Option.bind (am_gr h4 a0 9 0) (fun r14 => Option.bind (am_gr h4 r14 7 4) (fun r15 => Option.bind (am_gr h4 r15 0 4) (fun r16 => am_bi (am_cl m_Row_get [.ref r16, .int x1] h4) (fun w18 h17 => some (some (.int w18), h17))))) else (bif decide (x2 = 5) then Option.bind (am_gr h4 a0 9 0) (fun r9 => Option.bind (am_gr h4 r9 7 4) (fun r10 => Option.bind (am_gr h4 r10 0 5) (fun r11 => am_bi (am_cl m_Row_get [.ref r11, .int x1] h4) (fun w13 h12 => some (some (.int w13), h12))))) else (bif decide (x2 = 6) then Option.bind (am_gr h4 a0 9 2) (fun r5 => Option.bind (am_gr h4 r5 6 7) (fun r6 => am_bi (am_cl m_Row_get [.ref r6, .int x1] h4) (fun w8 h7 => some (some (.int w8), h7)))) else some (some (.int (-2)), h4)))))))))) else some (some (.int (-1)), h1))) := (am_cl_of rfl hr).trans (am_blk [] 66 rfl)
set_option maxRecDepth 100000 in
set_option maxHeartbeats 2000000 in
theorem e_Pa_bidder (a0 : Nat) (x1 : Int32) (x2 : Int32) {fs : List Value} (h : am_H) (hr : h[a0]? = some (.inr (9, fs))) : am_cl m_Pa_bidder [.ref a0, .int x1, .int x2] h = am_bi (am_cl m_Pa_isBidder [.ref a0, .int x1] h) (fun w2 h1 => (bif decide (¬ w2 = 0) then Option.bind (am_gr h1 a0 9 2) (fun r3 => am_bv (am_cl m_Sale_hold [.ref r3] h1) (fun h4 => (bif decide (x2 = 0) then Option.bind (am_gr h4 a0 9 0) (fun r21 => Option.bind (am_gr h4 r21 7 2) (fun r22 => am_bi (am_cl m_Row_get [.ref r22, .int x1] h4) (fun w24 h23 => some (some (.int w24), h23)))) else (bif decide (x2 = 1) then Option.bind (am_gr h4 a0 9 2) (fun r15 => Option.bind (am_gr h4 a0 9 0) (fun r16 => Option.bind (am_gr h4 r16 7 1) (fun r17 => Option.bind (am_gi h4 r17 3 4) (fun i18 => am_bi (am_cl m_Sale_leftBefore [.ref r15, .int i18, .int x1] h4) (fun w20 h19 => some (some (.int w20), h19)))))) else (bif decide (x2 = 2) then Option.bind (am_gr h4 a0 9 2) (fun r8 => Option.bind (am_gr h4 r8 6 1) (fun r9 => Option.bind (am_gr h4 a0 9 0) (fun r10 => Option.bind (am_gr h4 r10 7 1) (fun r11 => Option.bind (am_gi h4 r11 3 4) (fun i12 => am_bi (am_cl m_Row_countOf [.ref r9, .int x1, .int i12] h4) (fun w14 h13 => some (some (.int w14), h13))))))) else (bif decide (x2 = 3) then Option.bind (am_gr h4 a0 9 3) (fun r5 => am_bi (am_cl m_Money_paidBy [.ref r5, .int x1] h4) (fun w7 h6 => some (some (.int w7), h6))) else some (some (.int (-2)), h4))))))) else some (some (.int (-1)), h1))) := (am_cl_of rfl hr).trans (am_blk [] 48 rfl)
set_option maxRecDepth 100000 in
set_option maxHeartbeats 2000000 in
theorem e_Pa_seller (a0 : Nat) (x1 : Int32) (x2 : Int32) {fs : List Value} (h : am_H) (hr : h[a0]? = some (.inr (9, fs))) : am_cl m_Pa_seller [.ref a0, .int x1, .int x2] h = am_bi (am_cl m_Pa_isOutside [.int x1, .int 0, .int 4] h) (fun w2 h1 => (bif decide (w2 = 0) then Option.bind (am_gr h1 a0 9 2) (fun r3 => am_bv (am_cl m_Sale_hold [.ref r3] h1) (fun h4 => (bif decide (x2 = 0) then Option.bind (am_gr h4 a0 9 0) (fun r14 => Option.bind (am_gr h4 r14 7 1) (fun r15 => Option.bind (am_gr h4 r15 3 0) (fun r16 => Option.bind (am_gr h4 a0 9 0) (fun r17 => Option.bind (am_gr h4 r17 7 1) (fun r18 => Option.bind (am_gi h4 r18 3 4) (fun i19 => am_bi (am_cl m_Row_countOf [.ref r16, .int x1, .int i19] h4) (fun w21 h20 => some (some (.long (Int32.toInt64 w21)), h20)))))))) else (bif decide (x2 = 1) then Option.bind (am_gr h4 a0 9 2) (fun r11 => am_bi (am_cl m_Sale_soldLots [.ref r11, .int x1] h4) (fun w13 h12 => some (some (.long (Int32.toInt64 w13)), h12))) else (bif decide (x2 = 2) then Option.bind (am_gr h4 a0 9 3) (fun r8 => am_bl (am_cl m_Money_total [.ref r8, .int 0, .int x1] h4) (fun w10 h9 => some (some (.long w10), h9))) else (bif decide (x2 = 3) then Option.bind (am_gr h4 a0 9 3) (fun r5 => am_bl (am_cl m_Money_receipts [.ref r5, .int x1] h4) (fun w7 h6 => some (some (.long w7), h6))) else some (some (.long (-9223372036854775808)), h4))))))) else some (some (.long (-9223372036854775808)), h1))) := (am_cl_of rfl hr).trans (am_blk [] 48 rfl)
set_option maxRecDepth 100000 in
set_option maxHeartbeats 2000000 in
theorem e_Pa_account (a0 : Nat) (x1 : Int32) {fs : List Value} (h : am_H) (hr : h[a0]? = some (.inr (9, fs))) : am_cl m_Pa_account [.ref a0, .int x1] h = Option.bind (am_gr h a0 9 2) (fun r1 => am_bv (am_cl m_Sale_hold [.ref r1] h) (fun h2 => (bif decide (x1 = 0) then Option.bind (am_gr h2 a0 9 3) (fun r24 => am_bl (am_cl m_Money_total [.ref r24, .int 0, .int (-1)] h2) (fun w26 h25 => some (some (.long w26), h25))) else (bif decide (x1 = 1) then Option.bind (am_gr h2 a0 9 3) (fun r21 => am_bl (am_cl m_Money_total [.ref r21, .int 1, .int (-1)] h2) (fun w23 h22 => some (some (.long w23), h22))) else (bif decide (x1 = 2) then Option.bind (am_gr h2 a0 9 3) (fun r18 => am_bl (am_cl m_Money_total [.ref r18, .int 2, .int (-1)] h2) (fun w20 h19 => some (some (.long w20), h19))) else (bif decide (x1 = 3) then Option.bind (am_gr h2 a0 9 3) (fun r15 => am_bl (am_cl m_Money_total [.ref r15, .int 3, .int (-1)] h2) (fun w17 h16 => some (some (.long w17), h16))) else (bif decide (x1 = 4) then Option.bind (am_gr h2 a0 9 3) (fun r12 => am_bl (am_cl m_Money_payments [.ref r12] h2) (fun w14 h13 => some (some (.long w14), h13))) else (bif decide (x1 = 5) then Option.bind (am_gr h2 a0 9 3) (fun r9 => am_bl (am_cl m_Money_receipts [.ref r9, .int (-1)] h2) (fun w11 h10 => some (some (.long w11), h10))) else (bif decide (x1 = 6) then Option.bind (am_gr h2 a0 9 3) (fun r3 => am_bl (am_cl m_Money_payments [.ref r3] h2) (fun w5 h4 => Option.bind (am_gr h4 a0 9 3) (fun r6 => am_bl (am_cl m_Money_receipts [.ref r6, .int (-1)] h4) (fun w8 h7 => some (some (.long (w5 - w8)), h7))))) else some (some (.long (-9223372036854775808)), h2)))))))))) := (am_cl_of rfl hr).trans (am_blk [] 54 rfl)
set_option maxRecDepth 100000 in
set_option maxHeartbeats 2000000 in
theorem e_Pa_count (a0 : Nat) (x1 : Int32) {fs : List Value} (h : am_H) (hr : h[a0]? = some (.inr (9, fs))) : am_cl m_Pa_count [.ref a0, .int x1] h = (bif decide (x1 = 0) then Option.bind (am_gr h a0 9 0) (fun r53 => Option.bind (am_gr h r53 7 1) (fun r54 => Option.bind (am_gi h r54 3 4) (fun i55 => some (some (.int i55), h)))) else (bif decide (x1 = 1) then Option.bind (am_gr h a0 9 0) (fun r51 => Option.bind (am_gi h r51 7 3) (fun i52 => some (some (.int i52), h))) else (bif decide (x1 = 2) then Option.bind (am_gr h a0 9 0) (fun r48 => Option.bind (am_gr h r48 7 4) (fun r49 => Option.bind (am_gi h r49 0 6) (fun i50 => some (some (.int i50), h)))) else (bif decide (x1 = 3) then Option.bind (am_gr h a0 9 2) (fun r43 => am_bv (am_cl m_Sale_hold [.ref r43] h) (fun h44 => Option.bind (am_gr h44 a0 9 2) (fun r45 => am_bi (am_cl m_Sale_soldLots [.ref r45, .int (-1)] h44) (fun w47 h46 => some (some (.int w47), h46))))) else (bif decide (x1 = 4) then Option.bind (am_gr h a0 9 0) (fun r35 => Option.bind (am_gr h r35 7 1) (fun r36 => Option.bind (am_gr h r36 3 3) (fun r37 => Option.bind (am_gr h a0 9 0) (fun r38 => Option.bind (am_gr h r38 7 1) (fun r39 => Option.bind (am_gi h r39 3 4) (fun i40 => am_bi (am_cl m_Row_sum [.ref r37, .int i40] h) (fun w42 h41 => some (some (.int w42), h41)))))))) else (bif decide (x1 = 5) then Option.bind (am_gr h a0 9 0) (fun r32 => am_bi (am_cl m_State_lateBids [.ref r32] h) (fun w34 h33 => some (some (.int w34), h33))) else (bif decide (x1 = 6) then Option.bind (am_gr h a0 9 0) (fun r24 => Option.bind (am_gr h r24 7 4) (fun r25 => Option.bind (am_gr h r25 0 5) (fun r26 => Option.bind (am_gr h a0 9 0) (fun r27 => Option.bind (am_gr h r27 7 4) (fun r28 => Option.bind (am_gi h r28 0 6) (fun i29 => am_bi (am_cl m_Row_sum [.ref r26, .int i29] h) (fun w31 h30 => some (some (.int w31), h30)))))))) else (bif decide (x1 = 7) then Option.bind (am_gr h a0 9 0) (fun r21 => Option.bind (am_gr h r21 7 0) (fun r22 => Option.bind (am_gi h r22 8 2) (fun i23 => some (some (.int i23), h)))) else (bif decide (x1 = 8) then Option.bind (am_gr h a0 9 0) (fun r17 => Option.bind (am_gr h r17 7 5) (fun r18 => am_bi (am_cl m_Row_get [.ref r18, .int 0] h) (fun w20 h19 => some (some (.int w20), h19)))) else (bif decide (x1 = 9) then Option.bind (am_gr h a0 9 0) (fun r13 => Option.bind (am_gr h r13 7 5) (fun r14 => am_bi (am_cl m_Row_get [.ref r14, .int 1] h) (fun w16 h15 => some (some (.int w16), h15)))) else (bif decide (x1 = 10) then Option.bind (am_gr h a0 9 0) (fun r9 => Option.bind (am_gr h r9 7 5) (fun r10 => am_bi (am_cl m_Row_get [.ref r10, .int 2] h) (fun w12 h11 => some (some (.int w12), h11)))) else (bif decide (x1 = 11) then Option.bind (am_gr h a0 9 0) (fun r5 => Option.bind (am_gr h r5 7 5) (fun r6 => am_bi (am_cl m_Row_get [.ref r6, .int 3] h) (fun w8 h7 => some (some (.int w8), h7)))) else (bif decide (x1 = 12) then Option.bind (am_gr h a0 9 1) (fun r3 => Option.bind (am_gi h r3 1 1) (fun i4 => some (some (.int i4), h))) else (bif decide (x1 = 13) then Option.bind (am_gr h a0 9 4) (fun r1 => Option.bind (am_gi h r1 2 1) (fun i2 => some (some (.int i2), h))) else some (some (.int (-2)), h))))))))))))))) := (am_cl_of rfl hr).trans (am_blk [] 92 rfl)
set_option maxRecDepth 100000 in
set_option maxHeartbeats 2000000 in
theorem e_Pa_isOutside (x0 : Int32) (x1 : Int32) (x2 : Int32) (h : am_H) : am_cl m_Pa_isOutside [.int x0, .int x1, .int x2] h = (bif decide (x0 < x1) then some (some (.int 1), h) else (bif decide (x0 ≤ x2) then some (some (.int 0), h) else some (some (.int 1), h))) := (am_cl_st rfl).trans (am_blk [] 15 rfl)
set_option maxRecDepth 100000 in
set_option maxHeartbeats 2000000 in
theorem e_Pa_mostOfSetting (x0 : Int32) (h : am_H) : am_cl m_Pa_mostOfSetting [.int x0] h = (bif decide (x0 = 0) then some (some (.int 100000), h) else (bif decide (x0 = 3) then some (some (.int 1000), h) else some (some (.int 500), h))) := (am_cl_st rfl).trans (am_blk [] 13 rfl)
set_option maxRecDepth 100000 in
set_option maxHeartbeats 2000000 in
theorem e_Pa_isLot (a0 : Nat) (x1 : Int32) {fs : List Value} (h : am_H) (hr : h[a0]? = some (.inr (9, fs))) : am_cl m_Pa_isLot [.ref a0, .int x1] h = (bif decide (x1 < 0) then some (some (.int 0), h) else Option.bind (am_gr h a0 9 0) (fun r1 => Option.bind (am_gr h r1 7 1) (fun r2 => Option.bind (am_gi h r2 3 4) (fun i3 => (bif decide (i3 ≤ x1) then some (some (.int 0), h) else some (some (.int 1), h)))))) := (am_cl_of rfl hr).trans (am_blk [] 17 rfl)
set_option maxRecDepth 100000 in
set_option maxHeartbeats 2000000 in
theorem e_Pa_isBidder (a0 : Nat) (x1 : Int32) {fs : List Value} (h : am_H) (hr : h[a0]? = some (.inr (9, fs))) : am_cl m_Pa_isBidder [.ref a0, .int x1] h = (bif decide (x1 < 0) then some (some (.int 0), h) else Option.bind (am_gr h a0 9 0) (fun r1 => Option.bind (am_gi h r1 7 3) (fun i2 => (bif decide (i2 ≤ x1) then some (some (.int 0), h) else some (some (.int 1), h))))) := (am_cl_of rfl hr).trans (am_blk [] 16 rfl)
set_option maxRecDepth 100000 in
set_option maxHeartbeats 2000000 in
theorem e_Pa_isBid (a0 : Nat) (x1 : Int32) {fs : List Value} (h : am_H) (hr : h[a0]? = some (.inr (9, fs))) : am_cl m_Pa_isBid [.ref a0, .int x1] h = (bif decide (x1 < 0) then some (some (.int 0), h) else Option.bind (am_gr h a0 9 0) (fun r1 => Option.bind (am_gr h r1 7 4) (fun r2 => Option.bind (am_gi h r2 0 6) (fun i3 => (bif decide (i3 ≤ x1) then some (some (.int 0), h) else some (some (.int 1), h)))))) := (am_cl_of rfl hr).trans (am_blk [] 17 rfl)
set_option maxRecDepth 100000 in
set_option maxHeartbeats 2000000 in
theorem e_Pa_beginAct (a0 : Nat) {fs : List Value} (h : am_H) (hr : h[a0]? = some (.inr (9, fs))) : am_cl m_Pa_beginAct [.ref a0] h = Option.bind (am_gr h a0 9 1) (fun r1 => Option.bind (am_gr h a0 9 0) (fun r2 => am_bv (am_cl m_History_keep [.ref r1, .ref r2] h) (fun h3 => Option.bind (am_gr h3 a0 9 2) (fun r4 => Option.bind (am_pf h3 r4 6 10 (.int 0)) (fun h5 => some (none, h5)))))) := (am_cl_of rfl hr).trans (am_blk [] 15 rfl)
end
section
set_option maxRecDepth 100000 in
set_option maxHeartbeats 2000000 in
theorem b_law_0 (h : am_H) : am_ev m_law (0, am_l0 m_law [.ref 0], [], h) = am_bv (am_cl m_Pa_init [.ref (List.length h)] (h ++ [.inr (9, am_new 9)])) (fun h1 => am_bv (am_cl m_Mod_init [.ref (List.length h1)] (h1 ++ [.inr (10, am_new 10)])) (fun h2 => am_ev m_law (18, [.ref 0, .ref (List.length h), .ref (List.length h1), .int 0], [], h2))) := am_blk [18] 658 rfl
set_option maxRecDepth 100000 in
set_option maxHeartbeats 2000000 in
theorem b_law_18 (a0 : Nat) (a1 : Nat) (a2 : Nat) (x3 : Int32) (h : am_H) : am_ev m_law (18, [.ref a0, .ref a1, .ref a2, .int x3], [], h) = Option.bind (am_len h a0) (fun n1 => (bif decide ((n1 - 6) < x3) then some (some (.int 1), h) else Option.bind (am_al h 0 a0 x3) (fun v2 => (bif decide ((v2 &&& 31) = 0) then Option.bind (am_al h 0 a0 (x3 + 1)) (fun v193 => Option.bind (am_al h 0 a0 (x3 + 2)) (fun v194 => am_bi (am_cl m_Pa_setBand [.ref a1, .int v193, .int v194] h) (fun w196 h195 => Option.bind (am_al h195 0 a0 (x3 + 1)) (fun v197 => Option.bind (am_al h195 0 a0 (x3 + 2)) (fun v198 => am_bi (am_cl m_Mod_setBand [.ref a2, .int v197, .int v198] h195) (fun w200 h199 => (bif decide (w196 = w200) then am_ev m_law (18, [.ref a0, .ref a1, .ref a2, .int (x3 + 6)], [], h199) else some (some (.int 0), h199)))))))) else (bif decide ((v2 &&& 31) = 1) then Option.bind (am_al h 0 a0 (x3 + 1)) (fun v187 => am_bi (am_cl m_Pa_removeBand [.ref a1, .int v187] h) (fun w189 h188 => Option.bind (am_al h188 0 a0 (x3 + 1)) (fun v190 => am_bi (am_cl m_Mod_removeBand [.ref a2, .int v190] h188) (fun w192 h191 => (bif decide (w189 = w192) then am_ev m_law (18, [.ref a0, .ref a1, .ref a2, .int (x3 + 6)], [], h191) else some (some (.int 0), h191)))))) else (bif decide ((v2 &&& 31) = 2) then Option.bind (am_al h 0 a0 (x3 + 1)) (fun v179 => Option.bind (am_al h 0 a0 (x3 + 2)) (fun v180 => am_bi (am_cl m_Pa_valid [.ref a1, .int v179, .int v180] h) (fun w182 h181 => Option.bind (am_al h181 0 a0 (x3 + 1)) (fun v183 => Option.bind (am_al h181 0 a0 (x3 + 2)) (fun v184 => am_bi (am_cl m_Mod_valid [.ref a2, .int v183, .int v184] h181) (fun w186 h185 => (bif decide (w182 = w186) then am_ev m_law (18, [.ref a0, .ref a1, .ref a2, .int (x3 + 6)], [], h185) else some (some (.int 0), h185)))))))) else (bif decide ((v2 &&& 31) = 3) then Option.bind (am_al h 0 a0 (x3 + 1)) (fun v169 => Option.bind (am_al h 0 a0 (x3 + 2)) (fun v170 => Option.bind (am_al h 0 a0 (x3 + 3)) (fun v171 => am_bi (am_cl m_Pa_addLot [.ref a1, .int v169, .int v170, .int v171] h) (fun w173 h172 => Option.bind (am_al h172 0 a0 (x3 + 1)) (fun v174 => Option.bind (am_al h172 0 a0 (x3 + 2)) (fun v175 => Option.bind (am_al h172 0 a0 (x3 + 3)) (fun v176 => am_bi (am_cl m_Mod_addLot [.ref a2, .int v174, .int v175, .int v176] h172) (fun w178 h177 => (bif decide (w173 = w178) then am_ev m_law (18, [.ref a0, .ref a1, .ref a2, .int (x3 + 6)], [], h177) else some (some (.int 0), h177)))))))))) else (bif decide ((v2 &&& 31) = 4) then Option.bind (am_al h 0 a0 (x3 + 1)) (fun v161 => Option.bind (am_al h 0 a0 (x3 + 2)) (fun v162 => am_bi (am_cl m_Pa_setReserve [.ref a1, .int v161, .int v162] h) (fun w164 h163 => Option.bind (am_al h163 0 a0 (x3 + 1)) (fun v165 => Option.bind (am_al h163 0 a0 (x3 + 2)) (fun v166 => am_bi (am_cl m_Mod_setReserve [.ref a2, .int v165, .int v166] h163) (fun w168 h167 => (bif decide (w164 = w168) then am_ev m_law (18, [.ref a0, .ref a1, .ref a2, .int (x3 + 6)], [], h167) else some (some (.int 0), h167)))))))) else (bif decide ((v2 &&& 31) = 5) then Option.bind (am_al h 0 a0 (x3 + 1)) (fun v143 => Option.bind (am_al h 0 a0 (x3 + 2)) (fun v144 => (bif decide (v144 = 0) then am_bi (am_cl m_Pa_withdrawLot [.ref a1, .int v143, .int 0] h) (fun w146 h145 => Option.bind (am_al h145 0 a0 (x3 + 1)) (fun v147 => Option.bind (am_al h145 0 a0 (x3 + 2)) (fun v148 => (bif decide (v148 = 0) then am_bi (am_cl m_Mod_withdrawLot [.ref a2, .int v147, .int 0] h145) (fun w150 h149 => (bif decide (w146 = w150) then am_ev m_law (18, [.ref a0, .ref a1, .ref a2, .int (x3 + 6)], [], h149) else some (some (.int 0), h149))) else am_bi (am_cl m_Mod_withdrawLot [.ref a2, .int v147, .int 1] h145) (fun w152 h151 => (bif decide (w146 = w152) then am_ev m_law (18, [.ref a0, .ref a1, .ref a2, .int (x3 + 6)], [], h151) else some (some (.int 0), h151))))))) else am_bi (am_cl m_Pa_withdrawLot [.ref a1, .int v143, .int 1] h) (fun w154 h153 => Option.bind (am_al h153 0 a0 (x3 + 1)) (fun v155 => Option.bind (am_al h153 0 a0 (x3 + 2)) (fun v156 => (bif decide (v156 = 0) then am_bi (am_cl m_Mod_withdrawLot [.ref a2, .int v155, .int 0] h153) (fun w158 h157 => (bif decide (w154 = w158) then am_ev m_law (18, [.ref a0, .ref a1, .ref a2, .int (x3 + 6)], [], h157) else some (some (.int 0), h157))) else am_bi (am_cl m_Mod_withdrawLot [.ref a2, .int v155, .int 1] h153) (fun w160 h159 => (bif decide (w154 = w160) then am_ev m_law (18, [.ref a0, .ref a1, .ref a2, .int (x3 + 6)], [], h159) else some (some (.int 0), h159)))))))))) else (bif decide ((v2 &&& 31) = 6) then Option.bind (am_al h 0 a0 (x3 + 1)) (fun v137 => am_bi (am_cl m_Pa_addBidder [.ref a1, .int v137] h) (fun w139 h138 => Option.bind (am_al h138 0 a0 (x3 + 1)) (fun v140 => am_bi (am_cl m_Mod_addBidder [.ref a2, .int v140] h138) (fun w142 h141 => (bif decide (w139 = w142) then am_ev m_law (18, [.ref a0, .ref a1, .ref a2, .int (x3 + 6)], [], h141) else some (some (.int 0), h141)))))) else (bif decide ((v2 &&& 31) = 7) then Option.bind (am_al h 0 a0 (x3 + 1)) (fun v129 => Option.bind (am_al h 0 a0 (x3 + 2)) (fun v130 => am_bi (am_cl m_Pa_setLimit [.ref a1, .int v129, .int v130] h) (fun w132 h131 => Option.bind (am_al h131 0 a0 (x3 + 1)) (fun v133 => Option.bind (am_al h131 0 a0 (x3 + 2)) (fun v134 => am_bi (am_cl m_Mod_setLimit [.ref a2, .int v133, .int v134] h131) (fun w136 h135 => (bif decide (w132 = w136) then am_ev m_law (18, [.ref a0, .ref a1, .ref a2, .int (x3 + 6)], [], h135) else some (some (.int 0), h135)))))))) else (bif decide ((v2 &&& 31) = 8) then Option.bind (am_al h 0 a0 (x3 + 1)) (fun v121 => Option.bind (am_al h 0 a0 (x3 + 2)) (fun v122 => am_bi (am_cl m_Pa_set [.ref a1, .int v121, .int v122] h) (fun w124 h123 => Option.bind (am_al h123 0 a0 (x3 + 1)) (fun v125 => Option.bind (am_al h123 0 a0 (x3 + 2)) (fun v126 => am_bi (am_cl m_Mod_set [.ref a2, .int v125, .int v126] h123) (fun w128 h127 => (bif decide (w124 = w128) then am_ev m_law (18, [.ref a0, .ref a1, .ref a2, .int (x3 + 6)], [], h127) else some (some (.int 0), h127)))))))) else (bif decide ((v2 &&& 31) = 9) then Option.bind (am_al h 0 a0 (x3 + 1)) (fun v107 => Option.bind (am_al h 0 a0 (x3 + 2)) (fun v108 => Option.bind (am_al h 0 a0 (x3 + 3)) (fun v109 => Option.bind (am_al h 0 a0 (x3 + 4)) (fun v110 => Option.bind (am_al h 0 a0 (x3 + 5)) (fun v111 => am_bi (am_cl m_Pa_bid [.ref a1, .int v107, .int v108, .int v109, .int v110, .int v111] h) (fun w113 h112 => Option.bind (am_al h112 0 a0 (x3 + 1)) (fun v114 => Option.bind (am_al h112 0 a0 (x3 + 2)) (fun v115 => Option.bind (am_al h112 0 a0 (x3 + 3)) (fun v116 => Option.bind (am_al h112 0 a0 (x3 + 4)) (fun v117 => Option.bind (am_al h112 0 a0 (x3 + 5)) (fun v118 => am_bi (am_cl m_Mod_bid [.ref a2, .int v114, .int v115, .int v116, .int v117, .int v118] h112) (fun w120 h119 => (bif decide (w113 = w120) then am_ev m_law (18, [.ref a0, .ref a1, .ref a2, .int (x3 + 6)], [], h119) else some (some (.int 0), h119)))))))))))))) else (bif decide ((v2 &&& 31) = 10) then Option.bind (am_al h 0 a0 (x3 + 1)) (fun v101 => am_bi (am_cl m_Pa_withdrawBid [.ref a1, .int v101] h) (fun w103 h102 => Option.bind (am_al h102 0 a0 (x3 + 1)) (fun v104 => am_bi (am_cl m_Mod_withdrawBid [.ref a2, .int v104] h102) (fun w106 h105 => (bif decide (w103 = w106) then am_ev m_law (18, [.ref a0, .ref a1, .ref a2, .int (x3 + 6)], [], h105) else some (some (.int 0), h105)))))) else (bif decide ((v2 &&& 31) = 11) then Option.bind (am_al h 0 a0 (x3 + 1)) (fun v95 => am_bi (am_cl m_Pa_type [.ref a1, .int (UInt32.toInt32 (Int32.toUInt32 v95 % 65536))] h) (fun w97 h96 => Option.bind (am_al h96 0 a0 (x3 + 1)) (fun v98 => am_bi (am_cl m_Mod_type [.ref a2, .int (UInt32.toInt32 (Int32.toUInt32 v98 % 65536))] h96) (fun w100 h99 => (bif decide (w97 = w100) then am_ev m_law (18, [.ref a0, .ref a1, .ref a2, .int (x3 + 6)], [], h99) else some (some (.int 0), h99)))))) else (bif decide ((v2 &&& 31) = 12) then am_bi (am_cl m_Pa_clearText [.ref a1] h) (fun w92 h91 => am_bi (am_cl m_Mod_clearText [.ref a2] h91) (fun w94 h93 => (bif decide (w92 = w94) then am_ev m_law (18, [.ref a0, .ref a1, .ref a2, .int (x3 + 6)], [], h93) else some (some (.int 0), h93)))) else (bif decide ((v2 &&& 31) = 13) then Option.bind (am_al h 0 a0 (x3 + 1)) (fun v83 => Option.bind (am_al h 0 a0 (x3 + 2)) (fun v84 => am_bi (am_cl m_Pa_letter [.ref a1, .int v83, .int v84] h) (fun w86 h85 => Option.bind (am_al h85 0 a0 (x3 + 1)) (fun v87 => Option.bind (am_al h85 0 a0 (x3 + 2)) (fun v88 => am_bi (am_cl m_Mod_letter [.ref a2, .int v87, .int v88] h85) (fun w90 h89 => (bif decide (w86 = w90) then am_ev m_law (18, [.ref a0, .ref a1, .ref a2, .int (x3 + 6)], [], h89) else some (some (.int 0), h89)))))))) else (bif decide ((v2 &&& 31) = 14) then am_bi (am_cl m_Pa_undo [.ref a1] h) (fun w80 h79 => am_bi (am_cl m_Mod_undo [.ref a2] h79) (fun w82 h81 => (bif decide (w80 = w82) then am_ev m_law (18, [.ref a0, .ref a1, .ref a2, .int (x3 + 6)], [], h81) else some (some (.int 0), h81)))) else (bif decide ((v2 &&& 31) = 15) then Option.bind (am_al h 0 a0 (x3 + 1)) (fun v71 => Option.bind (am_al h 0 a0 (x3 + 2)) (fun v72 => am_bi (am_cl m_Pa_sale [.ref a1, .int v71, .int v72] h) (fun w74 h73 => Option.bind (am_al h73 0 a0 (x3 + 1)) (fun v75 => Option.bind (am_al h73 0 a0 (x3 + 2)) (fun v76 => am_bi (am_cl m_Mod_sale [.ref a2, .int v75, .int v76] h73) (fun w78 h77 => (bif decide (w74 = w78) then am_ev m_law (18, [.ref a0, .ref a1, .ref a2, .int (x3 + 6)], [], h77) else some (some (.int 0), h77)))))))) else (bif decide ((v2 &&& 31) = 16) then Option.bind (am_al h 0 a0 (x3 + 1)) (fun v63 => Option.bind (am_al h 0 a0 (x3 + 2)) (fun v64 => am_bi (am_cl m_Pa_ranked [.ref a1, .int v63, .int v64] h) (fun w66 h65 => Option.bind (am_al h65 0 a0 (x3 + 1)) (fun v67 => Option.bind (am_al h65 0 a0 (x3 + 2)) (fun v68 => am_bi (am_cl m_Mod_ranked [.ref a2, .int v67, .int v68] h65) (fun w70 h69 => (bif decide (w66 = w70) then am_ev m_law (18, [.ref a0, .ref a1, .ref a2, .int (x3 + 6)], [], h69) else some (some (.int 0), h69)))))))) else (bif decide ((v2 &&& 31) = 17) then Option.bind (am_al h 0 a0 (x3 + 1)) (fun v57 => am_bi (am_cl m_Pa_fate [.ref a1, .int v57] h) (fun w59 h58 => Option.bind (am_al h58 0 a0 (x3 + 1)) (fun v60 => am_bi (am_cl m_Mod_fate [.ref a2, .int v60] h58) (fun w62 h61 => (bif decide (w59 = w62) then am_ev m_law (18, [.ref a0, .ref a1, .ref a2, .int (x3 + 6)], [], h61) else some (some (.int 0), h61)))))) else (bif decide ((v2 &&& 31) = 18) then Option.bind (am_al h 0 a0 (x3 + 1)) (fun v47 => Option.bind (am_al h 0 a0 (x3 + 2)) (fun v48 => Option.bind (am_al h 0 a0 (x3 + 3)) (fun v49 => am_bi (am_cl m_Pa_needed [.ref a1, .int v47, .int v48, .int v49] h) (fun w51 h50 => Option.bind (am_al h50 0 a0 (x3 + 1)) (fun v52 => Option.bind (am_al h50 0 a0 (x3 + 2)) (fun v53 => Option.bind (am_al h50 0 a0 (x3 + 3)) (fun v54 => am_bi (am_cl m_Mod_needed [.ref a2, .int v52, .int v53, .int v54] h50) (fun w56 h55 => (bif decide (w51 = w56) then am_ev m_law (18, [.ref a0, .ref a1, .ref a2, .int (x3 + 6)], [], h55) else some (some (.int 0), h55)))))))))) else (bif decide ((v2 &&& 31) = 19) then Option.bind (am_al h 0 a0 (x3 + 1)) (fun v39 => Option.bind (am_al h 0 a0 (x3 + 2)) (fun v40 => am_bi (am_cl m_Pa_lot [.ref a1, .int v39, .int v40] h) (fun w42 h41 => Option.bind (am_al h41 0 a0 (x3 + 1)) (fun v43 => Option.bind (am_al h41 0 a0 (x3 + 2)) (fun v44 => am_bi (am_cl m_Mod_lot [.ref a2, .int v43, .int v44] h41) (fun w46 h45 => (bif decide (w42 = w46) then am_ev m_law (18, [.ref a0, .ref a1, .ref a2, .int (x3 + 6)], [], h45) else some (some (.int 0), h45)))))))) else (bif decide ((v2 &&& 31) = 20) then Option.bind (am_al h 0 a0 (x3 + 1)) (fun v31 => Option.bind (am_al h 0 a0 (x3 + 2)) (fun v32 => am_bi (am_cl m_Pa_bidOf [.ref a1, .int v31, .int v32] h) (fun w34 h33 => Option.bind (am_al h33 0 a0 (x3 + 1)) (fun v35 => Option.bind (am_al h33 0 a0 (x3 + 2)) (fun v36 => am_bi (am_cl m_Mod_bidOf [.ref a2, .int v35, .int v36] h33) (fun w38 h37 => (bif decide (w34 = w38) then am_ev m_law (18, [.ref a0, .ref a1, .ref a2, .int (x3 + 6)], [], h37) else some (some (.int 0), h37)))))))) else (bif decide ((v2 &&& 31) = 21) then Option.bind (am_al h 0 a0 (x3 + 1)) (fun v23 => Option.bind (am_al h 0 a0 (x3 + 2)) (fun v24 => am_bi (am_cl m_Pa_bidder [.ref a1, .int v23, .int v24] h) (fun w26 h25 => Option.bind (am_al h25 0 a0 (x3 + 1)) (fun v27 => Option.bind (am_al h25 0 a0 (x3 + 2)) (fun v28 => am_bi (am_cl m_Mod_bidder [.ref a2, .int v27, .int v28] h25) (fun w30 h29 => (bif decide (w26 = w30) then am_ev m_law (18, [.ref a0, .ref a1, .ref a2, .int (x3 + 6)], [], h29) else some (some (.int 0), h29)))))))) else (bif decide ((v2 &&& 31) = 22) then Option.bind (am_al h 0 a0 (x3 + 1)) (fun v15 => Option.bind (am_al h 0 a0 (x3 + 2)) (fun v16 => am_bl (am_cl m_Pa_seller [.ref a1, .int v15, .int v16] h) (fun w18 h17 => Option.bind (am_al h17 0 a0 (x3 + 1)) (fun v19 => Option.bind (am_al h17 0 a0 (x3 + 2)) (fun v20 => am_bl (am_cl m_Mod_seller [.ref a2, .int v19, .int v20] h17) (fun w22 h21 => (bif decide ((lg_cmp w18 w22) = 0) then am_ev m_law (18, [.ref a0, .ref a1, .ref a2, .int (x3 + 6)], [], h21) else some (some (.int 0), h21)))))))) else (bif decide ((v2 &&& 31) = 23) then Option.bind (am_al h 0 a0 (x3 + 1)) (fun v9 => am_bl (am_cl m_Pa_account [.ref a1, .int v9] h) (fun w11 h10 => Option.bind (am_al h10 0 a0 (x3 + 1)) (fun v12 => am_bl (am_cl m_Mod_account [.ref a2, .int v12] h10) (fun w14 h13 => (bif decide ((lg_cmp w11 w14) = 0) then am_ev m_law (18, [.ref a0, .ref a1, .ref a2, .int (x3 + 6)], [], h13) else some (some (.int 0), h13)))))) else (bif decide ((v2 &&& 31) = 24) then Option.bind (am_al h 0 a0 (x3 + 1)) (fun v3 => am_bi (am_cl m_Pa_count [.ref a1, .int v3] h) (fun w5 h4 => Option.bind (am_al h4 0 a0 (x3 + 1)) (fun v6 => am_bi (am_cl m_Mod_count [.ref a2, .int v6] h4) (fun w8 h7 => (bif decide (w5 = w8) then am_ev m_law (18, [.ref a0, .ref a1, .ref a2, .int (x3 + 6)], [], h7) else some (some (.int 0), h7)))))) else am_ev m_law (18, [.ref a0, .ref a1, .ref a2, .int (x3 + 6)], [], h))))))))))))))))))))))))))))) := am_blk [18] 658 rfl
end
section
/-! THE HEAP BEHIND THE CONSTRUCTORS: A its arrays, F its ints (100 times the place and the slot), P the states of the history -/
def up {α : Type} (f : Nat → α) (k : Nat) (v : α) : Nat → α := fun j => if j = k then v else f j
def heap (A : Nat → List Int32) (F : Nat → Int32) (P : Nat → Nat) : am_H := [.inl (7, A 0), .inr (9, [.ref 2, .ref 34, .ref 164, .ref 183, .ref 184]), .inr (7, [.ref 3, .ref 8, .ref 17, .int (F 203), .ref 19, .ref 32]), .inr (8, [.ref 4, .ref 6, .int (F 302)]), .inr (5, [.ref 5]), .inl (0, A 5), .inr (5, [.ref 7]), .inl (0, A 7), .inr (3, [.ref 9, .ref 11, .ref 13, .ref 15, .int (F 804)]), .inr (5, [.ref 10]), .inl (0, A 10), .inr (5, [.ref 12]), .inl (0, A 12), .inr (5, [.ref 14]), .inl (0, A 14), .inr (5, [.ref 16]), .inl (0, A 16), .inr (5, [.ref 18]), .inl (0, A 18), .inr (0, [.ref 20, .ref 22, .ref 24, .ref 26, .ref 28, .ref 30, .int (F 1906)]), .inr (5, [.ref 21]), .inl (0, A 21), .inr (5, [.ref 23]), .inl (0, A 23), .inr (5, [.ref 25]), .inl (0, A 25), .inr (5, [.ref 27]), .inl (0, A 27), .inr (5, [.ref 29]), .inl (0, A 29), .inr (5, [.ref 31]), .inl (0, A 31), .inr (5, [.ref 33]), .inl (0, A 33), .inr (1, [.ref 35, .int (F 3401)]), .inr (107, [.ref (P 0), .ref (P 1), .ref (P 2), .ref (P 3)]), .inr (7, [.ref 37, .ref 42, .ref 51, .int (F 3603), .ref 53, .ref 66]), .inr (8, [.ref 38, .ref 40, .int (F 3702)]), .inr (5, [.ref 39]), .inl (0, A 39), .inr (5, [.ref 41]), .inl (0, A 41), .inr (3, [.ref 43, .ref 45, .ref 47, .ref 49, .int (F 4204)]), .inr (5, [.ref 44]), .inl (0, A 44), .inr (5, [.ref 46]), .inl (0, A 46), .inr (5, [.ref 48]), .inl (0, A 48), .inr (5, [.ref 50]), .inl (0, A 50), .inr (5, [.ref 52]), .inl (0, A 52), .inr (0, [.ref 54, .ref 56, .ref 58, .ref 60, .ref 62, .ref 64, .int (F 5306)]), .inr (5, [.ref 55]), .inl (0, A 55), .inr (5, [.ref 57]), .inl (0, A 57), .inr (5, [.ref 59]), .inl (0, A 59), .inr (5, [.ref 61]), .inl (0, A 61), .inr (5, [.ref 63]), .inl (0, A 63), .inr (5, [.ref 65]), .inl (0, A 65), .inr (5, [.ref 67]), .inl (0, A 67), .inr (7, [.ref 69, .ref 74, .ref 83, .int (F 6803), .ref 85, .ref 98]), .inr (8, [.ref 70, .ref 72, .int (F 6902)]), .inr (5, [.ref 71]), .inl (0, A 71), .inr (5, [.ref 73]), .inl (0, A 73), .inr (3, [.ref 75, .ref 77, .ref 79, .ref 81, .int (F 7404)]), .inr (5, [.ref 76]), .inl (0, A 76), .inr (5, [.ref 78]), .inl (0, A 78), .inr (5, [.ref 80]), .inl (0, A 80), .inr (5, [.ref 82]), .inl (0, A 82), .inr (5, [.ref 84]), .inl (0, A 84), .inr (0, [.ref 86, .ref 88, .ref 90, .ref 92, .ref 94, .ref 96, .int (F 8506)]), .inr (5, [.ref 87]), .inl (0, A 87), .inr (5, [.ref 89]), .inl (0, A 89), .inr (5, [.ref 91]), .inl (0, A 91), .inr (5, [.ref 93]), .inl (0, A 93), .inr (5, [.ref 95]), .inl (0, A 95), .inr (5, [.ref 97]), .inl (0, A 97), .inr (5, [.ref 99]), .inl (0, A 99), .inr (7, [.ref 101, .ref 106, .ref 115, .int (F 10003), .ref 117, .ref 130]), .inr (8, [.ref 102, .ref 104, .int (F 10102)]), .inr (5, [.ref 103]), .inl (0, A 103), .inr (5, [.ref 105]), .inl (0, A 105), .inr (3, [.ref 107, .ref 109, .ref 111, .ref 113, .int (F 10604)]), .inr (5, [.ref 108]), .inl (0, A 108), .inr (5, [.ref 110]), .inl (0, A 110), .inr (5, [.ref 112]), .inl (0, A 112), .inr (5, [.ref 114]), .inl (0, A 114), .inr (5, [.ref 116]), .inl (0, A 116), .inr (0, [.ref 118, .ref 120, .ref 122, .ref 124, .ref 126, .ref 128, .int (F 11706)]), .inr (5, [.ref 119]), .inl (0, A 119), .inr (5, [.ref 121]), .inl (0, A 121), .inr (5, [.ref 123]), .inl (0, A 123), .inr (5, [.ref 125]), .inl (0, A 125), .inr (5, [.ref 127]), .inl (0, A 127), .inr (5, [.ref 129]), .inl (0, A 129), .inr (5, [.ref 131]), .inl (0, A 131), .inr (7, [.ref 133, .ref 138, .ref 147, .int (F 13203), .ref 149, .ref 162]), .inr (8, [.ref 134, .ref 136, .int (F 13302)]), .inr (5, [.ref 135]), .inl (0, A 135), .inr (5, [.ref 137]), .inl (0, A 137), .inr (3, [.ref 139, .ref 141, .ref 143, .ref 145, .int (F 13804)]), .inr (5, [.ref 140]), .inl (0, A 140), .inr (5, [.ref 142]), .inl (0, A 142), .inr (5, [.ref 144]), .inl (0, A 144), .inr (5, [.ref 146]), .inl (0, A 146), .inr (5, [.ref 148]), .inl (0, A 148), .inr (0, [.ref 150, .ref 152, .ref 154, .ref 156, .ref 158, .ref 160, .int (F 14906)]), .inr (5, [.ref 151]), .inl (0, A 151), .inr (5, [.ref 153]), .inl (0, A 153), .inr (5, [.ref 155]), .inl (0, A 155), .inr (5, [.ref 157]), .inl (0, A 157), .inr (5, [.ref 159]), .inl (0, A 159), .inr (5, [.ref 161]), .inl (0, A 161), .inr (5, [.ref 163]), .inl (0, A 163), .inr (6, [.ref 2, .ref 165, .ref 167, .ref 169, .ref 171, .ref 173, .ref 175, .ref 177, .ref 179, .ref 181, .int (F 16410)]), .inr (5, [.ref 166]), .inl (0, A 166), .inr (5, [.ref 168]), .inl (0, A 168), .inr (5, [.ref 170]), .inl (0, A 170), .inr (5, [.ref 172]), .inl (0, A 172), .inr (5, [.ref 174]), .inl (0, A 174), .inr (5, [.ref 176]), .inl (0, A 176), .inr (5, [.ref 178]), .inl (0, A 178), .inr (5, [.ref 180]), .inl (0, A 180), .inr (5, [.ref 182]), .inl (0, A 182), .inr (4, [.ref 2, .ref 164]), .inr (2, [.ref 185, .int (F 18401), .ref 186, .ref 188, .ref 190, .int (F 18405), .int (F 18406), .int (F 18407), .int (F 18408), .int (F 18409)]), .inl (1, A 185), .inr (5, [.ref 187]), .inl (0, A 187), .inr (5, [.ref 189]), .inl (0, A 189), .inr (5, [.ref 191]), .inl (0, A 191), .inr (10, [.ref 193, .ref 194, .int (F 19202), .int (F 19203), .ref 195, .int (F 19205), .int (F 19206), .int (F 19207), .ref 196, .ref 197, .ref 198, .ref 199, .ref 200, .ref 201, .ref 202, .ref 203, .ref 204, .ref 205]), .inl (0, A 193), .inl (0, A 194), .inl (1, A 195), .inl (0, A 196), .inl (0, A 197), .inl (0, A 198), .inl (0, A 199), .inl (0, A 200), .inl (0, A 201), .inl (0, A 202), .inl (0, A 203), .inl (0, A 204), .inl (0, A 205)]
set_option maxRecDepth 100000 in
theorem hpR_1_0 (A : Nat → List Int32) (F : Nat → Int32) (P : Nat → Nat) : am_gr (heap A F P) 1 9 0 = some 2 := rfl
set_option maxRecDepth 100000 in
theorem hpR_1_1 (A : Nat → List Int32) (F : Nat → Int32) (P : Nat → Nat) : am_gr (heap A F P) 1 9 1 = some 34 := rfl
set_option maxRecDepth 100000 in
theorem hpR_1_2 (A : Nat → List Int32) (F : Nat → Int32) (P : Nat → Nat) : am_gr (heap A F P) 1 9 2 = some 164 := rfl
set_option maxRecDepth 100000 in
theorem hpR_1_3 (A : Nat → List Int32) (F : Nat → Int32) (P : Nat → Nat) : am_gr (heap A F P) 1 9 3 = some 183 := rfl
set_option maxRecDepth 100000 in
theorem hpR_1_4 (A : Nat → List Int32) (F : Nat → Int32) (P : Nat → Nat) : am_gr (heap A F P) 1 9 4 = some 184 := rfl
set_option maxRecDepth 100000 in
theorem hpR_2_0 (A : Nat → List Int32) (F : Nat → Int32) (P : Nat → Nat) : am_gr (heap A F P) 2 7 0 = some 3 := rfl
set_option maxRecDepth 100000 in
theorem hpR_2_1 (A : Nat → List Int32) (F : Nat → Int32) (P : Nat → Nat) : am_gr (heap A F P) 2 7 1 = some 8 := rfl
set_option maxRecDepth 100000 in
theorem hpR_2_2 (A : Nat → List Int32) (F : Nat → Int32) (P : Nat → Nat) : am_gr (heap A F P) 2 7 2 = some 17 := rfl
set_option maxRecDepth 100000 in
theorem hpR_2_4 (A : Nat → List Int32) (F : Nat → Int32) (P : Nat → Nat) : am_gr (heap A F P) 2 7 4 = some 19 := rfl
set_option maxRecDepth 100000 in
theorem hpR_2_5 (A : Nat → List Int32) (F : Nat → Int32) (P : Nat → Nat) : am_gr (heap A F P) 2 7 5 = some 32 := rfl
set_option maxRecDepth 100000 in
theorem hpR_3_0 (A : Nat → List Int32) (F : Nat → Int32) (P : Nat → Nat) : am_gr (heap A F P) 3 8 0 = some 4 := rfl
set_option maxRecDepth 100000 in
theorem hpR_3_1 (A : Nat → List Int32) (F : Nat → Int32) (P : Nat → Nat) : am_gr (heap A F P) 3 8 1 = some 6 := rfl
set_option maxRecDepth 100000 in
theorem hpR_4_0 (A : Nat → List Int32) (F : Nat → Int32) (P : Nat → Nat) : am_gr (heap A F P) 4 5 0 = some 5 := rfl
set_option maxRecDepth 100000 in
theorem hpR_6_0 (A : Nat → List Int32) (F : Nat → Int32) (P : Nat → Nat) : am_gr (heap A F P) 6 5 0 = some 7 := rfl
set_option maxRecDepth 100000 in
theorem hpR_8_0 (A : Nat → List Int32) (F : Nat → Int32) (P : Nat → Nat) : am_gr (heap A F P) 8 3 0 = some 9 := rfl
set_option maxRecDepth 100000 in
theorem hpR_8_1 (A : Nat → List Int32) (F : Nat → Int32) (P : Nat → Nat) : am_gr (heap A F P) 8 3 1 = some 11 := rfl
set_option maxRecDepth 100000 in
theorem hpR_8_2 (A : Nat → List Int32) (F : Nat → Int32) (P : Nat → Nat) : am_gr (heap A F P) 8 3 2 = some 13 := rfl
set_option maxRecDepth 100000 in
theorem hpR_8_3 (A : Nat → List Int32) (F : Nat → Int32) (P : Nat → Nat) : am_gr (heap A F P) 8 3 3 = some 15 := rfl
set_option maxRecDepth 100000 in
theorem hpR_9_0 (A : Nat → List Int32) (F : Nat → Int32) (P : Nat → Nat) : am_gr (heap A F P) 9 5 0 = some 10 := rfl
set_option maxRecDepth 100000 in
theorem hpR_11_0 (A : Nat → List Int32) (F : Nat → Int32) (P : Nat → Nat) : am_gr (heap A F P) 11 5 0 = some 12 := rfl
set_option maxRecDepth 100000 in
theorem hpR_13_0 (A : Nat → List Int32) (F : Nat → Int32) (P : Nat → Nat) : am_gr (heap A F P) 13 5 0 = some 14 := rfl
set_option maxRecDepth 100000 in
theorem hpR_15_0 (A : Nat → List Int32) (F : Nat → Int32) (P : Nat → Nat) : am_gr (heap A F P) 15 5 0 = some 16 := rfl
set_option maxRecDepth 100000 in
theorem hpR_17_0 (A : Nat → List Int32) (F : Nat → Int32) (P : Nat → Nat) : am_gr (heap A F P) 17 5 0 = some 18 := rfl
set_option maxRecDepth 100000 in
theorem hpR_19_0 (A : Nat → List Int32) (F : Nat → Int32) (P : Nat → Nat) : am_gr (heap A F P) 19 0 0 = some 20 := rfl
set_option maxRecDepth 100000 in
theorem hpR_19_1 (A : Nat → List Int32) (F : Nat → Int32) (P : Nat → Nat) : am_gr (heap A F P) 19 0 1 = some 22 := rfl
set_option maxRecDepth 100000 in
theorem hpR_19_2 (A : Nat → List Int32) (F : Nat → Int32) (P : Nat → Nat) : am_gr (heap A F P) 19 0 2 = some 24 := rfl
set_option maxRecDepth 100000 in
theorem hpR_19_3 (A : Nat → List Int32) (F : Nat → Int32) (P : Nat → Nat) : am_gr (heap A F P) 19 0 3 = some 26 := rfl
set_option maxRecDepth 100000 in
theorem hpR_19_4 (A : Nat → List Int32) (F : Nat → Int32) (P : Nat → Nat) : am_gr (heap A F P) 19 0 4 = some 28 := rfl
set_option maxRecDepth 100000 in
theorem hpR_19_5 (A : Nat → List Int32) (F : Nat → Int32) (P : Nat → Nat) : am_gr (heap A F P) 19 0 5 = some 30 := rfl
set_option maxRecDepth 100000 in
theorem hpR_20_0 (A : Nat → List Int32) (F : Nat → Int32) (P : Nat → Nat) : am_gr (heap A F P) 20 5 0 = some 21 := rfl
set_option maxRecDepth 100000 in
theorem hpR_22_0 (A : Nat → List Int32) (F : Nat → Int32) (P : Nat → Nat) : am_gr (heap A F P) 22 5 0 = some 23 := rfl
set_option maxRecDepth 100000 in
theorem hpR_24_0 (A : Nat → List Int32) (F : Nat → Int32) (P : Nat → Nat) : am_gr (heap A F P) 24 5 0 = some 25 := rfl
set_option maxRecDepth 100000 in
theorem hpR_26_0 (A : Nat → List Int32) (F : Nat → Int32) (P : Nat → Nat) : am_gr (heap A F P) 26 5 0 = some 27 := rfl
set_option maxRecDepth 100000 in
theorem hpR_28_0 (A : Nat → List Int32) (F : Nat → Int32) (P : Nat → Nat) : am_gr (heap A F P) 28 5 0 = some 29 := rfl
set_option maxRecDepth 100000 in
theorem hpR_30_0 (A : Nat → List Int32) (F : Nat → Int32) (P : Nat → Nat) : am_gr (heap A F P) 30 5 0 = some 31 := rfl
set_option maxRecDepth 100000 in
theorem hpR_32_0 (A : Nat → List Int32) (F : Nat → Int32) (P : Nat → Nat) : am_gr (heap A F P) 32 5 0 = some 33 := rfl
set_option maxRecDepth 100000 in
theorem hpR_34_0 (A : Nat → List Int32) (F : Nat → Int32) (P : Nat → Nat) : am_gr (heap A F P) 34 1 0 = some 35 := rfl
set_option maxRecDepth 100000 in
theorem hpR_36_0 (A : Nat → List Int32) (F : Nat → Int32) (P : Nat → Nat) : am_gr (heap A F P) 36 7 0 = some 37 := rfl
set_option maxRecDepth 100000 in
theorem hpR_36_1 (A : Nat → List Int32) (F : Nat → Int32) (P : Nat → Nat) : am_gr (heap A F P) 36 7 1 = some 42 := rfl
set_option maxRecDepth 100000 in
theorem hpR_36_2 (A : Nat → List Int32) (F : Nat → Int32) (P : Nat → Nat) : am_gr (heap A F P) 36 7 2 = some 51 := rfl
set_option maxRecDepth 100000 in
theorem hpR_36_4 (A : Nat → List Int32) (F : Nat → Int32) (P : Nat → Nat) : am_gr (heap A F P) 36 7 4 = some 53 := rfl
set_option maxRecDepth 100000 in
theorem hpR_36_5 (A : Nat → List Int32) (F : Nat → Int32) (P : Nat → Nat) : am_gr (heap A F P) 36 7 5 = some 66 := rfl
set_option maxRecDepth 100000 in
theorem hpR_37_0 (A : Nat → List Int32) (F : Nat → Int32) (P : Nat → Nat) : am_gr (heap A F P) 37 8 0 = some 38 := rfl
set_option maxRecDepth 100000 in
theorem hpR_37_1 (A : Nat → List Int32) (F : Nat → Int32) (P : Nat → Nat) : am_gr (heap A F P) 37 8 1 = some 40 := rfl
set_option maxRecDepth 100000 in
theorem hpR_38_0 (A : Nat → List Int32) (F : Nat → Int32) (P : Nat → Nat) : am_gr (heap A F P) 38 5 0 = some 39 := rfl
set_option maxRecDepth 100000 in
theorem hpR_40_0 (A : Nat → List Int32) (F : Nat → Int32) (P : Nat → Nat) : am_gr (heap A F P) 40 5 0 = some 41 := rfl
set_option maxRecDepth 100000 in
theorem hpR_42_0 (A : Nat → List Int32) (F : Nat → Int32) (P : Nat → Nat) : am_gr (heap A F P) 42 3 0 = some 43 := rfl
set_option maxRecDepth 100000 in
theorem hpR_42_1 (A : Nat → List Int32) (F : Nat → Int32) (P : Nat → Nat) : am_gr (heap A F P) 42 3 1 = some 45 := rfl
set_option maxRecDepth 100000 in
theorem hpR_42_2 (A : Nat → List Int32) (F : Nat → Int32) (P : Nat → Nat) : am_gr (heap A F P) 42 3 2 = some 47 := rfl
set_option maxRecDepth 100000 in
theorem hpR_42_3 (A : Nat → List Int32) (F : Nat → Int32) (P : Nat → Nat) : am_gr (heap A F P) 42 3 3 = some 49 := rfl
set_option maxRecDepth 100000 in
theorem hpR_43_0 (A : Nat → List Int32) (F : Nat → Int32) (P : Nat → Nat) : am_gr (heap A F P) 43 5 0 = some 44 := rfl
set_option maxRecDepth 100000 in
theorem hpR_45_0 (A : Nat → List Int32) (F : Nat → Int32) (P : Nat → Nat) : am_gr (heap A F P) 45 5 0 = some 46 := rfl
set_option maxRecDepth 100000 in
theorem hpR_47_0 (A : Nat → List Int32) (F : Nat → Int32) (P : Nat → Nat) : am_gr (heap A F P) 47 5 0 = some 48 := rfl
set_option maxRecDepth 100000 in
theorem hpR_49_0 (A : Nat → List Int32) (F : Nat → Int32) (P : Nat → Nat) : am_gr (heap A F P) 49 5 0 = some 50 := rfl
set_option maxRecDepth 100000 in
theorem hpR_51_0 (A : Nat → List Int32) (F : Nat → Int32) (P : Nat → Nat) : am_gr (heap A F P) 51 5 0 = some 52 := rfl
set_option maxRecDepth 100000 in
theorem hpR_53_0 (A : Nat → List Int32) (F : Nat → Int32) (P : Nat → Nat) : am_gr (heap A F P) 53 0 0 = some 54 := rfl
set_option maxRecDepth 100000 in
theorem hpR_53_1 (A : Nat → List Int32) (F : Nat → Int32) (P : Nat → Nat) : am_gr (heap A F P) 53 0 1 = some 56 := rfl
set_option maxRecDepth 100000 in
theorem hpR_53_2 (A : Nat → List Int32) (F : Nat → Int32) (P : Nat → Nat) : am_gr (heap A F P) 53 0 2 = some 58 := rfl
set_option maxRecDepth 100000 in
theorem hpR_53_3 (A : Nat → List Int32) (F : Nat → Int32) (P : Nat → Nat) : am_gr (heap A F P) 53 0 3 = some 60 := rfl
set_option maxRecDepth 100000 in
theorem hpR_53_4 (A : Nat → List Int32) (F : Nat → Int32) (P : Nat → Nat) : am_gr (heap A F P) 53 0 4 = some 62 := rfl
set_option maxRecDepth 100000 in
theorem hpR_53_5 (A : Nat → List Int32) (F : Nat → Int32) (P : Nat → Nat) : am_gr (heap A F P) 53 0 5 = some 64 := rfl
set_option maxRecDepth 100000 in
theorem hpR_54_0 (A : Nat → List Int32) (F : Nat → Int32) (P : Nat → Nat) : am_gr (heap A F P) 54 5 0 = some 55 := rfl
set_option maxRecDepth 100000 in
theorem hpR_56_0 (A : Nat → List Int32) (F : Nat → Int32) (P : Nat → Nat) : am_gr (heap A F P) 56 5 0 = some 57 := rfl
set_option maxRecDepth 100000 in
theorem hpR_58_0 (A : Nat → List Int32) (F : Nat → Int32) (P : Nat → Nat) : am_gr (heap A F P) 58 5 0 = some 59 := rfl
set_option maxRecDepth 100000 in
theorem hpR_60_0 (A : Nat → List Int32) (F : Nat → Int32) (P : Nat → Nat) : am_gr (heap A F P) 60 5 0 = some 61 := rfl
set_option maxRecDepth 100000 in
theorem hpR_62_0 (A : Nat → List Int32) (F : Nat → Int32) (P : Nat → Nat) : am_gr (heap A F P) 62 5 0 = some 63 := rfl
set_option maxRecDepth 100000 in
theorem hpR_64_0 (A : Nat → List Int32) (F : Nat → Int32) (P : Nat → Nat) : am_gr (heap A F P) 64 5 0 = some 65 := rfl
set_option maxRecDepth 100000 in
theorem hpR_66_0 (A : Nat → List Int32) (F : Nat → Int32) (P : Nat → Nat) : am_gr (heap A F P) 66 5 0 = some 67 := rfl
set_option maxRecDepth 100000 in
theorem hpR_68_0 (A : Nat → List Int32) (F : Nat → Int32) (P : Nat → Nat) : am_gr (heap A F P) 68 7 0 = some 69 := rfl
set_option maxRecDepth 100000 in
theorem hpR_68_1 (A : Nat → List Int32) (F : Nat → Int32) (P : Nat → Nat) : am_gr (heap A F P) 68 7 1 = some 74 := rfl
set_option maxRecDepth 100000 in
theorem hpR_68_2 (A : Nat → List Int32) (F : Nat → Int32) (P : Nat → Nat) : am_gr (heap A F P) 68 7 2 = some 83 := rfl
set_option maxRecDepth 100000 in
theorem hpR_68_4 (A : Nat → List Int32) (F : Nat → Int32) (P : Nat → Nat) : am_gr (heap A F P) 68 7 4 = some 85 := rfl
set_option maxRecDepth 100000 in
theorem hpR_68_5 (A : Nat → List Int32) (F : Nat → Int32) (P : Nat → Nat) : am_gr (heap A F P) 68 7 5 = some 98 := rfl
set_option maxRecDepth 100000 in
theorem hpR_69_0 (A : Nat → List Int32) (F : Nat → Int32) (P : Nat → Nat) : am_gr (heap A F P) 69 8 0 = some 70 := rfl
set_option maxRecDepth 100000 in
theorem hpR_69_1 (A : Nat → List Int32) (F : Nat → Int32) (P : Nat → Nat) : am_gr (heap A F P) 69 8 1 = some 72 := rfl
set_option maxRecDepth 100000 in
theorem hpR_70_0 (A : Nat → List Int32) (F : Nat → Int32) (P : Nat → Nat) : am_gr (heap A F P) 70 5 0 = some 71 := rfl
set_option maxRecDepth 100000 in
theorem hpR_72_0 (A : Nat → List Int32) (F : Nat → Int32) (P : Nat → Nat) : am_gr (heap A F P) 72 5 0 = some 73 := rfl
set_option maxRecDepth 100000 in
theorem hpR_74_0 (A : Nat → List Int32) (F : Nat → Int32) (P : Nat → Nat) : am_gr (heap A F P) 74 3 0 = some 75 := rfl
set_option maxRecDepth 100000 in
theorem hpR_74_1 (A : Nat → List Int32) (F : Nat → Int32) (P : Nat → Nat) : am_gr (heap A F P) 74 3 1 = some 77 := rfl
set_option maxRecDepth 100000 in
theorem hpR_74_2 (A : Nat → List Int32) (F : Nat → Int32) (P : Nat → Nat) : am_gr (heap A F P) 74 3 2 = some 79 := rfl
set_option maxRecDepth 100000 in
theorem hpR_74_3 (A : Nat → List Int32) (F : Nat → Int32) (P : Nat → Nat) : am_gr (heap A F P) 74 3 3 = some 81 := rfl
set_option maxRecDepth 100000 in
theorem hpR_75_0 (A : Nat → List Int32) (F : Nat → Int32) (P : Nat → Nat) : am_gr (heap A F P) 75 5 0 = some 76 := rfl
set_option maxRecDepth 100000 in
theorem hpR_77_0 (A : Nat → List Int32) (F : Nat → Int32) (P : Nat → Nat) : am_gr (heap A F P) 77 5 0 = some 78 := rfl
set_option maxRecDepth 100000 in
theorem hpR_79_0 (A : Nat → List Int32) (F : Nat → Int32) (P : Nat → Nat) : am_gr (heap A F P) 79 5 0 = some 80 := rfl
set_option maxRecDepth 100000 in
theorem hpR_81_0 (A : Nat → List Int32) (F : Nat → Int32) (P : Nat → Nat) : am_gr (heap A F P) 81 5 0 = some 82 := rfl
set_option maxRecDepth 100000 in
theorem hpR_83_0 (A : Nat → List Int32) (F : Nat → Int32) (P : Nat → Nat) : am_gr (heap A F P) 83 5 0 = some 84 := rfl
set_option maxRecDepth 100000 in
theorem hpR_85_0 (A : Nat → List Int32) (F : Nat → Int32) (P : Nat → Nat) : am_gr (heap A F P) 85 0 0 = some 86 := rfl
set_option maxRecDepth 100000 in
theorem hpR_85_1 (A : Nat → List Int32) (F : Nat → Int32) (P : Nat → Nat) : am_gr (heap A F P) 85 0 1 = some 88 := rfl
set_option maxRecDepth 100000 in
theorem hpR_85_2 (A : Nat → List Int32) (F : Nat → Int32) (P : Nat → Nat) : am_gr (heap A F P) 85 0 2 = some 90 := rfl
set_option maxRecDepth 100000 in
theorem hpR_85_3 (A : Nat → List Int32) (F : Nat → Int32) (P : Nat → Nat) : am_gr (heap A F P) 85 0 3 = some 92 := rfl
set_option maxRecDepth 100000 in
theorem hpR_85_4 (A : Nat → List Int32) (F : Nat → Int32) (P : Nat → Nat) : am_gr (heap A F P) 85 0 4 = some 94 := rfl
set_option maxRecDepth 100000 in
theorem hpR_85_5 (A : Nat → List Int32) (F : Nat → Int32) (P : Nat → Nat) : am_gr (heap A F P) 85 0 5 = some 96 := rfl
set_option maxRecDepth 100000 in
theorem hpR_86_0 (A : Nat → List Int32) (F : Nat → Int32) (P : Nat → Nat) : am_gr (heap A F P) 86 5 0 = some 87 := rfl
set_option maxRecDepth 100000 in
theorem hpR_88_0 (A : Nat → List Int32) (F : Nat → Int32) (P : Nat → Nat) : am_gr (heap A F P) 88 5 0 = some 89 := rfl
set_option maxRecDepth 100000 in
theorem hpR_90_0 (A : Nat → List Int32) (F : Nat → Int32) (P : Nat → Nat) : am_gr (heap A F P) 90 5 0 = some 91 := rfl
set_option maxRecDepth 100000 in
theorem hpR_92_0 (A : Nat → List Int32) (F : Nat → Int32) (P : Nat → Nat) : am_gr (heap A F P) 92 5 0 = some 93 := rfl
set_option maxRecDepth 100000 in
theorem hpR_94_0 (A : Nat → List Int32) (F : Nat → Int32) (P : Nat → Nat) : am_gr (heap A F P) 94 5 0 = some 95 := rfl
set_option maxRecDepth 100000 in
theorem hpR_96_0 (A : Nat → List Int32) (F : Nat → Int32) (P : Nat → Nat) : am_gr (heap A F P) 96 5 0 = some 97 := rfl
set_option maxRecDepth 100000 in
theorem hpR_98_0 (A : Nat → List Int32) (F : Nat → Int32) (P : Nat → Nat) : am_gr (heap A F P) 98 5 0 = some 99 := rfl
set_option maxRecDepth 100000 in
theorem hpR_100_0 (A : Nat → List Int32) (F : Nat → Int32) (P : Nat → Nat) : am_gr (heap A F P) 100 7 0 = some 101 := rfl
set_option maxRecDepth 100000 in
theorem hpR_100_1 (A : Nat → List Int32) (F : Nat → Int32) (P : Nat → Nat) : am_gr (heap A F P) 100 7 1 = some 106 := rfl
set_option maxRecDepth 100000 in
theorem hpR_100_2 (A : Nat → List Int32) (F : Nat → Int32) (P : Nat → Nat) : am_gr (heap A F P) 100 7 2 = some 115 := rfl
set_option maxRecDepth 100000 in
theorem hpR_100_4 (A : Nat → List Int32) (F : Nat → Int32) (P : Nat → Nat) : am_gr (heap A F P) 100 7 4 = some 117 := rfl
set_option maxRecDepth 100000 in
theorem hpR_100_5 (A : Nat → List Int32) (F : Nat → Int32) (P : Nat → Nat) : am_gr (heap A F P) 100 7 5 = some 130 := rfl
set_option maxRecDepth 100000 in
theorem hpR_101_0 (A : Nat → List Int32) (F : Nat → Int32) (P : Nat → Nat) : am_gr (heap A F P) 101 8 0 = some 102 := rfl
set_option maxRecDepth 100000 in
theorem hpR_101_1 (A : Nat → List Int32) (F : Nat → Int32) (P : Nat → Nat) : am_gr (heap A F P) 101 8 1 = some 104 := rfl
set_option maxRecDepth 100000 in
theorem hpR_102_0 (A : Nat → List Int32) (F : Nat → Int32) (P : Nat → Nat) : am_gr (heap A F P) 102 5 0 = some 103 := rfl
set_option maxRecDepth 100000 in
theorem hpR_104_0 (A : Nat → List Int32) (F : Nat → Int32) (P : Nat → Nat) : am_gr (heap A F P) 104 5 0 = some 105 := rfl
set_option maxRecDepth 100000 in
theorem hpR_106_0 (A : Nat → List Int32) (F : Nat → Int32) (P : Nat → Nat) : am_gr (heap A F P) 106 3 0 = some 107 := rfl
set_option maxRecDepth 100000 in
theorem hpR_106_1 (A : Nat → List Int32) (F : Nat → Int32) (P : Nat → Nat) : am_gr (heap A F P) 106 3 1 = some 109 := rfl
set_option maxRecDepth 100000 in
theorem hpR_106_2 (A : Nat → List Int32) (F : Nat → Int32) (P : Nat → Nat) : am_gr (heap A F P) 106 3 2 = some 111 := rfl
set_option maxRecDepth 100000 in
theorem hpR_106_3 (A : Nat → List Int32) (F : Nat → Int32) (P : Nat → Nat) : am_gr (heap A F P) 106 3 3 = some 113 := rfl
set_option maxRecDepth 100000 in
theorem hpR_107_0 (A : Nat → List Int32) (F : Nat → Int32) (P : Nat → Nat) : am_gr (heap A F P) 107 5 0 = some 108 := rfl
set_option maxRecDepth 100000 in
theorem hpR_109_0 (A : Nat → List Int32) (F : Nat → Int32) (P : Nat → Nat) : am_gr (heap A F P) 109 5 0 = some 110 := rfl
set_option maxRecDepth 100000 in
theorem hpR_111_0 (A : Nat → List Int32) (F : Nat → Int32) (P : Nat → Nat) : am_gr (heap A F P) 111 5 0 = some 112 := rfl
set_option maxRecDepth 100000 in
theorem hpR_113_0 (A : Nat → List Int32) (F : Nat → Int32) (P : Nat → Nat) : am_gr (heap A F P) 113 5 0 = some 114 := rfl
set_option maxRecDepth 100000 in
theorem hpR_115_0 (A : Nat → List Int32) (F : Nat → Int32) (P : Nat → Nat) : am_gr (heap A F P) 115 5 0 = some 116 := rfl
set_option maxRecDepth 100000 in
theorem hpR_117_0 (A : Nat → List Int32) (F : Nat → Int32) (P : Nat → Nat) : am_gr (heap A F P) 117 0 0 = some 118 := rfl
set_option maxRecDepth 100000 in
theorem hpR_117_1 (A : Nat → List Int32) (F : Nat → Int32) (P : Nat → Nat) : am_gr (heap A F P) 117 0 1 = some 120 := rfl
set_option maxRecDepth 100000 in
theorem hpR_117_2 (A : Nat → List Int32) (F : Nat → Int32) (P : Nat → Nat) : am_gr (heap A F P) 117 0 2 = some 122 := rfl
set_option maxRecDepth 100000 in
theorem hpR_117_3 (A : Nat → List Int32) (F : Nat → Int32) (P : Nat → Nat) : am_gr (heap A F P) 117 0 3 = some 124 := rfl
set_option maxRecDepth 100000 in
theorem hpR_117_4 (A : Nat → List Int32) (F : Nat → Int32) (P : Nat → Nat) : am_gr (heap A F P) 117 0 4 = some 126 := rfl
set_option maxRecDepth 100000 in
theorem hpR_117_5 (A : Nat → List Int32) (F : Nat → Int32) (P : Nat → Nat) : am_gr (heap A F P) 117 0 5 = some 128 := rfl
set_option maxRecDepth 100000 in
theorem hpR_118_0 (A : Nat → List Int32) (F : Nat → Int32) (P : Nat → Nat) : am_gr (heap A F P) 118 5 0 = some 119 := rfl
set_option maxRecDepth 100000 in
theorem hpR_120_0 (A : Nat → List Int32) (F : Nat → Int32) (P : Nat → Nat) : am_gr (heap A F P) 120 5 0 = some 121 := rfl
set_option maxRecDepth 100000 in
theorem hpR_122_0 (A : Nat → List Int32) (F : Nat → Int32) (P : Nat → Nat) : am_gr (heap A F P) 122 5 0 = some 123 := rfl
set_option maxRecDepth 100000 in
theorem hpR_124_0 (A : Nat → List Int32) (F : Nat → Int32) (P : Nat → Nat) : am_gr (heap A F P) 124 5 0 = some 125 := rfl
set_option maxRecDepth 100000 in
theorem hpR_126_0 (A : Nat → List Int32) (F : Nat → Int32) (P : Nat → Nat) : am_gr (heap A F P) 126 5 0 = some 127 := rfl
set_option maxRecDepth 100000 in
theorem hpR_128_0 (A : Nat → List Int32) (F : Nat → Int32) (P : Nat → Nat) : am_gr (heap A F P) 128 5 0 = some 129 := rfl
set_option maxRecDepth 100000 in
theorem hpR_130_0 (A : Nat → List Int32) (F : Nat → Int32) (P : Nat → Nat) : am_gr (heap A F P) 130 5 0 = some 131 := rfl
set_option maxRecDepth 100000 in
theorem hpR_132_0 (A : Nat → List Int32) (F : Nat → Int32) (P : Nat → Nat) : am_gr (heap A F P) 132 7 0 = some 133 := rfl
set_option maxRecDepth 100000 in
theorem hpR_132_1 (A : Nat → List Int32) (F : Nat → Int32) (P : Nat → Nat) : am_gr (heap A F P) 132 7 1 = some 138 := rfl
set_option maxRecDepth 100000 in
theorem hpR_132_2 (A : Nat → List Int32) (F : Nat → Int32) (P : Nat → Nat) : am_gr (heap A F P) 132 7 2 = some 147 := rfl
set_option maxRecDepth 100000 in
theorem hpR_132_4 (A : Nat → List Int32) (F : Nat → Int32) (P : Nat → Nat) : am_gr (heap A F P) 132 7 4 = some 149 := rfl
set_option maxRecDepth 100000 in
theorem hpR_132_5 (A : Nat → List Int32) (F : Nat → Int32) (P : Nat → Nat) : am_gr (heap A F P) 132 7 5 = some 162 := rfl
set_option maxRecDepth 100000 in
theorem hpR_133_0 (A : Nat → List Int32) (F : Nat → Int32) (P : Nat → Nat) : am_gr (heap A F P) 133 8 0 = some 134 := rfl
set_option maxRecDepth 100000 in
theorem hpR_133_1 (A : Nat → List Int32) (F : Nat → Int32) (P : Nat → Nat) : am_gr (heap A F P) 133 8 1 = some 136 := rfl
set_option maxRecDepth 100000 in
theorem hpR_134_0 (A : Nat → List Int32) (F : Nat → Int32) (P : Nat → Nat) : am_gr (heap A F P) 134 5 0 = some 135 := rfl
set_option maxRecDepth 100000 in
theorem hpR_136_0 (A : Nat → List Int32) (F : Nat → Int32) (P : Nat → Nat) : am_gr (heap A F P) 136 5 0 = some 137 := rfl
set_option maxRecDepth 100000 in
theorem hpR_138_0 (A : Nat → List Int32) (F : Nat → Int32) (P : Nat → Nat) : am_gr (heap A F P) 138 3 0 = some 139 := rfl
set_option maxRecDepth 100000 in
theorem hpR_138_1 (A : Nat → List Int32) (F : Nat → Int32) (P : Nat → Nat) : am_gr (heap A F P) 138 3 1 = some 141 := rfl
set_option maxRecDepth 100000 in
theorem hpR_138_2 (A : Nat → List Int32) (F : Nat → Int32) (P : Nat → Nat) : am_gr (heap A F P) 138 3 2 = some 143 := rfl
set_option maxRecDepth 100000 in
theorem hpR_138_3 (A : Nat → List Int32) (F : Nat → Int32) (P : Nat → Nat) : am_gr (heap A F P) 138 3 3 = some 145 := rfl
set_option maxRecDepth 100000 in
theorem hpR_139_0 (A : Nat → List Int32) (F : Nat → Int32) (P : Nat → Nat) : am_gr (heap A F P) 139 5 0 = some 140 := rfl
set_option maxRecDepth 100000 in
theorem hpR_141_0 (A : Nat → List Int32) (F : Nat → Int32) (P : Nat → Nat) : am_gr (heap A F P) 141 5 0 = some 142 := rfl
set_option maxRecDepth 100000 in
theorem hpR_143_0 (A : Nat → List Int32) (F : Nat → Int32) (P : Nat → Nat) : am_gr (heap A F P) 143 5 0 = some 144 := rfl
set_option maxRecDepth 100000 in
theorem hpR_145_0 (A : Nat → List Int32) (F : Nat → Int32) (P : Nat → Nat) : am_gr (heap A F P) 145 5 0 = some 146 := rfl
set_option maxRecDepth 100000 in
theorem hpR_147_0 (A : Nat → List Int32) (F : Nat → Int32) (P : Nat → Nat) : am_gr (heap A F P) 147 5 0 = some 148 := rfl
set_option maxRecDepth 100000 in
theorem hpR_149_0 (A : Nat → List Int32) (F : Nat → Int32) (P : Nat → Nat) : am_gr (heap A F P) 149 0 0 = some 150 := rfl
set_option maxRecDepth 100000 in
theorem hpR_149_1 (A : Nat → List Int32) (F : Nat → Int32) (P : Nat → Nat) : am_gr (heap A F P) 149 0 1 = some 152 := rfl
set_option maxRecDepth 100000 in
theorem hpR_149_2 (A : Nat → List Int32) (F : Nat → Int32) (P : Nat → Nat) : am_gr (heap A F P) 149 0 2 = some 154 := rfl
set_option maxRecDepth 100000 in
theorem hpR_149_3 (A : Nat → List Int32) (F : Nat → Int32) (P : Nat → Nat) : am_gr (heap A F P) 149 0 3 = some 156 := rfl
set_option maxRecDepth 100000 in
theorem hpR_149_4 (A : Nat → List Int32) (F : Nat → Int32) (P : Nat → Nat) : am_gr (heap A F P) 149 0 4 = some 158 := rfl
set_option maxRecDepth 100000 in
theorem hpR_149_5 (A : Nat → List Int32) (F : Nat → Int32) (P : Nat → Nat) : am_gr (heap A F P) 149 0 5 = some 160 := rfl
set_option maxRecDepth 100000 in
theorem hpR_150_0 (A : Nat → List Int32) (F : Nat → Int32) (P : Nat → Nat) : am_gr (heap A F P) 150 5 0 = some 151 := rfl
set_option maxRecDepth 100000 in
theorem hpR_152_0 (A : Nat → List Int32) (F : Nat → Int32) (P : Nat → Nat) : am_gr (heap A F P) 152 5 0 = some 153 := rfl
set_option maxRecDepth 100000 in
theorem hpR_154_0 (A : Nat → List Int32) (F : Nat → Int32) (P : Nat → Nat) : am_gr (heap A F P) 154 5 0 = some 155 := rfl
set_option maxRecDepth 100000 in
theorem hpR_156_0 (A : Nat → List Int32) (F : Nat → Int32) (P : Nat → Nat) : am_gr (heap A F P) 156 5 0 = some 157 := rfl
set_option maxRecDepth 100000 in
theorem hpR_158_0 (A : Nat → List Int32) (F : Nat → Int32) (P : Nat → Nat) : am_gr (heap A F P) 158 5 0 = some 159 := rfl
set_option maxRecDepth 100000 in
theorem hpR_160_0 (A : Nat → List Int32) (F : Nat → Int32) (P : Nat → Nat) : am_gr (heap A F P) 160 5 0 = some 161 := rfl
set_option maxRecDepth 100000 in
theorem hpR_162_0 (A : Nat → List Int32) (F : Nat → Int32) (P : Nat → Nat) : am_gr (heap A F P) 162 5 0 = some 163 := rfl
set_option maxRecDepth 100000 in
theorem hpR_164_0 (A : Nat → List Int32) (F : Nat → Int32) (P : Nat → Nat) : am_gr (heap A F P) 164 6 0 = some 2 := rfl
set_option maxRecDepth 100000 in
theorem hpR_164_1 (A : Nat → List Int32) (F : Nat → Int32) (P : Nat → Nat) : am_gr (heap A F P) 164 6 1 = some 165 := rfl
set_option maxRecDepth 100000 in
theorem hpR_164_2 (A : Nat → List Int32) (F : Nat → Int32) (P : Nat → Nat) : am_gr (heap A F P) 164 6 2 = some 167 := rfl
set_option maxRecDepth 100000 in
theorem hpR_164_3 (A : Nat → List Int32) (F : Nat → Int32) (P : Nat → Nat) : am_gr (heap A F P) 164 6 3 = some 169 := rfl
set_option maxRecDepth 100000 in
theorem hpR_164_4 (A : Nat → List Int32) (F : Nat → Int32) (P : Nat → Nat) : am_gr (heap A F P) 164 6 4 = some 171 := rfl
set_option maxRecDepth 100000 in
theorem hpR_164_5 (A : Nat → List Int32) (F : Nat → Int32) (P : Nat → Nat) : am_gr (heap A F P) 164 6 5 = some 173 := rfl
set_option maxRecDepth 100000 in
theorem hpR_164_6 (A : Nat → List Int32) (F : Nat → Int32) (P : Nat → Nat) : am_gr (heap A F P) 164 6 6 = some 175 := rfl
set_option maxRecDepth 100000 in
theorem hpR_164_7 (A : Nat → List Int32) (F : Nat → Int32) (P : Nat → Nat) : am_gr (heap A F P) 164 6 7 = some 177 := rfl
set_option maxRecDepth 100000 in
theorem hpR_164_8 (A : Nat → List Int32) (F : Nat → Int32) (P : Nat → Nat) : am_gr (heap A F P) 164 6 8 = some 179 := rfl
set_option maxRecDepth 100000 in
theorem hpR_164_9 (A : Nat → List Int32) (F : Nat → Int32) (P : Nat → Nat) : am_gr (heap A F P) 164 6 9 = some 181 := rfl
set_option maxRecDepth 100000 in
theorem hpR_165_0 (A : Nat → List Int32) (F : Nat → Int32) (P : Nat → Nat) : am_gr (heap A F P) 165 5 0 = some 166 := rfl
set_option maxRecDepth 100000 in
theorem hpR_167_0 (A : Nat → List Int32) (F : Nat → Int32) (P : Nat → Nat) : am_gr (heap A F P) 167 5 0 = some 168 := rfl
set_option maxRecDepth 100000 in
theorem hpR_169_0 (A : Nat → List Int32) (F : Nat → Int32) (P : Nat → Nat) : am_gr (heap A F P) 169 5 0 = some 170 := rfl
set_option maxRecDepth 100000 in
theorem hpR_171_0 (A : Nat → List Int32) (F : Nat → Int32) (P : Nat → Nat) : am_gr (heap A F P) 171 5 0 = some 172 := rfl
set_option maxRecDepth 100000 in
theorem hpR_173_0 (A : Nat → List Int32) (F : Nat → Int32) (P : Nat → Nat) : am_gr (heap A F P) 173 5 0 = some 174 := rfl
set_option maxRecDepth 100000 in
theorem hpR_175_0 (A : Nat → List Int32) (F : Nat → Int32) (P : Nat → Nat) : am_gr (heap A F P) 175 5 0 = some 176 := rfl
set_option maxRecDepth 100000 in
theorem hpR_177_0 (A : Nat → List Int32) (F : Nat → Int32) (P : Nat → Nat) : am_gr (heap A F P) 177 5 0 = some 178 := rfl
set_option maxRecDepth 100000 in
theorem hpR_179_0 (A : Nat → List Int32) (F : Nat → Int32) (P : Nat → Nat) : am_gr (heap A F P) 179 5 0 = some 180 := rfl
set_option maxRecDepth 100000 in
theorem hpR_181_0 (A : Nat → List Int32) (F : Nat → Int32) (P : Nat → Nat) : am_gr (heap A F P) 181 5 0 = some 182 := rfl
set_option maxRecDepth 100000 in
theorem hpR_183_0 (A : Nat → List Int32) (F : Nat → Int32) (P : Nat → Nat) : am_gr (heap A F P) 183 4 0 = some 2 := rfl
set_option maxRecDepth 100000 in
theorem hpR_183_1 (A : Nat → List Int32) (F : Nat → Int32) (P : Nat → Nat) : am_gr (heap A F P) 183 4 1 = some 164 := rfl
set_option maxRecDepth 100000 in
theorem hpR_184_0 (A : Nat → List Int32) (F : Nat → Int32) (P : Nat → Nat) : am_gr (heap A F P) 184 2 0 = some 185 := rfl
set_option maxRecDepth 100000 in
theorem hpR_184_2 (A : Nat → List Int32) (F : Nat → Int32) (P : Nat → Nat) : am_gr (heap A F P) 184 2 2 = some 186 := rfl
set_option maxRecDepth 100000 in
theorem hpR_184_3 (A : Nat → List Int32) (F : Nat → Int32) (P : Nat → Nat) : am_gr (heap A F P) 184 2 3 = some 188 := rfl
set_option maxRecDepth 100000 in
theorem hpR_184_4 (A : Nat → List Int32) (F : Nat → Int32) (P : Nat → Nat) : am_gr (heap A F P) 184 2 4 = some 190 := rfl
set_option maxRecDepth 100000 in
theorem hpR_186_0 (A : Nat → List Int32) (F : Nat → Int32) (P : Nat → Nat) : am_gr (heap A F P) 186 5 0 = some 187 := rfl
set_option maxRecDepth 100000 in
theorem hpR_188_0 (A : Nat → List Int32) (F : Nat → Int32) (P : Nat → Nat) : am_gr (heap A F P) 188 5 0 = some 189 := rfl
set_option maxRecDepth 100000 in
theorem hpR_190_0 (A : Nat → List Int32) (F : Nat → Int32) (P : Nat → Nat) : am_gr (heap A F P) 190 5 0 = some 191 := rfl
set_option maxRecDepth 100000 in
theorem hpR_192_0 (A : Nat → List Int32) (F : Nat → Int32) (P : Nat → Nat) : am_gr (heap A F P) 192 10 0 = some 193 := rfl
set_option maxRecDepth 100000 in
theorem hpR_192_1 (A : Nat → List Int32) (F : Nat → Int32) (P : Nat → Nat) : am_gr (heap A F P) 192 10 1 = some 194 := rfl
set_option maxRecDepth 100000 in
theorem hpR_192_4 (A : Nat → List Int32) (F : Nat → Int32) (P : Nat → Nat) : am_gr (heap A F P) 192 10 4 = some 195 := rfl
set_option maxRecDepth 100000 in
theorem hpR_192_8 (A : Nat → List Int32) (F : Nat → Int32) (P : Nat → Nat) : am_gr (heap A F P) 192 10 8 = some 196 := rfl
set_option maxRecDepth 100000 in
theorem hpR_192_9 (A : Nat → List Int32) (F : Nat → Int32) (P : Nat → Nat) : am_gr (heap A F P) 192 10 9 = some 197 := rfl
set_option maxRecDepth 100000 in
theorem hpR_192_10 (A : Nat → List Int32) (F : Nat → Int32) (P : Nat → Nat) : am_gr (heap A F P) 192 10 10 = some 198 := rfl
set_option maxRecDepth 100000 in
theorem hpR_192_11 (A : Nat → List Int32) (F : Nat → Int32) (P : Nat → Nat) : am_gr (heap A F P) 192 10 11 = some 199 := rfl
set_option maxRecDepth 100000 in
theorem hpR_192_12 (A : Nat → List Int32) (F : Nat → Int32) (P : Nat → Nat) : am_gr (heap A F P) 192 10 12 = some 200 := rfl
set_option maxRecDepth 100000 in
theorem hpR_192_13 (A : Nat → List Int32) (F : Nat → Int32) (P : Nat → Nat) : am_gr (heap A F P) 192 10 13 = some 201 := rfl
set_option maxRecDepth 100000 in
theorem hpR_192_14 (A : Nat → List Int32) (F : Nat → Int32) (P : Nat → Nat) : am_gr (heap A F P) 192 10 14 = some 202 := rfl
set_option maxRecDepth 100000 in
theorem hpR_192_15 (A : Nat → List Int32) (F : Nat → Int32) (P : Nat → Nat) : am_gr (heap A F P) 192 10 15 = some 203 := rfl
set_option maxRecDepth 100000 in
theorem hpR_192_16 (A : Nat → List Int32) (F : Nat → Int32) (P : Nat → Nat) : am_gr (heap A F P) 192 10 16 = some 204 := rfl
set_option maxRecDepth 100000 in
theorem hpR_192_17 (A : Nat → List Int32) (F : Nat → Int32) (P : Nat → Nat) : am_gr (heap A F P) 192 10 17 = some 205 := rfl
theorem hpRX : (∀ (A : Nat → List Int32) (F : Nat → Int32) (P : Nat → Nat), am_gr (heap A F P) 1 9 0 = some 2) ∧ (∀ (A : Nat → List Int32) (F : Nat → Int32) (P : Nat → Nat), am_gr (heap A F P) 1 9 1 = some 34) ∧ (∀ (A : Nat → List Int32) (F : Nat → Int32) (P : Nat → Nat), am_gr (heap A F P) 1 9 2 = some 164) ∧ (∀ (A : Nat → List Int32) (F : Nat → Int32) (P : Nat → Nat), am_gr (heap A F P) 1 9 3 = some 183) ∧ (∀ (A : Nat → List Int32) (F : Nat → Int32) (P : Nat → Nat), am_gr (heap A F P) 1 9 4 = some 184) ∧ (∀ (A : Nat → List Int32) (F : Nat → Int32) (P : Nat → Nat), am_gr (heap A F P) 2 7 0 = some 3) ∧ (∀ (A : Nat → List Int32) (F : Nat → Int32) (P : Nat → Nat), am_gr (heap A F P) 2 7 1 = some 8) ∧ (∀ (A : Nat → List Int32) (F : Nat → Int32) (P : Nat → Nat), am_gr (heap A F P) 2 7 2 = some 17) ∧ (∀ (A : Nat → List Int32) (F : Nat → Int32) (P : Nat → Nat), am_gr (heap A F P) 2 7 4 = some 19) ∧ (∀ (A : Nat → List Int32) (F : Nat → Int32) (P : Nat → Nat), am_gr (heap A F P) 2 7 5 = some 32) ∧ (∀ (A : Nat → List Int32) (F : Nat → Int32) (P : Nat → Nat), am_gr (heap A F P) 3 8 0 = some 4) ∧ (∀ (A : Nat → List Int32) (F : Nat → Int32) (P : Nat → Nat), am_gr (heap A F P) 3 8 1 = some 6) ∧ (∀ (A : Nat → List Int32) (F : Nat → Int32) (P : Nat → Nat), am_gr (heap A F P) 4 5 0 = some 5) ∧ (∀ (A : Nat → List Int32) (F : Nat → Int32) (P : Nat → Nat), am_gr (heap A F P) 6 5 0 = some 7) ∧ (∀ (A : Nat → List Int32) (F : Nat → Int32) (P : Nat → Nat), am_gr (heap A F P) 8 3 0 = some 9) ∧ (∀ (A : Nat → List Int32) (F : Nat → Int32) (P : Nat → Nat), am_gr (heap A F P) 8 3 1 = some 11) ∧ (∀ (A : Nat → List Int32) (F : Nat → Int32) (P : Nat → Nat), am_gr (heap A F P) 8 3 2 = some 13) ∧ (∀ (A : Nat → List Int32) (F : Nat → Int32) (P : Nat → Nat), am_gr (heap A F P) 8 3 3 = some 15) ∧ (∀ (A : Nat → List Int32) (F : Nat → Int32) (P : Nat → Nat), am_gr (heap A F P) 9 5 0 = some 10) ∧ (∀ (A : Nat → List Int32) (F : Nat → Int32) (P : Nat → Nat), am_gr (heap A F P) 11 5 0 = some 12) ∧ (∀ (A : Nat → List Int32) (F : Nat → Int32) (P : Nat → Nat), am_gr (heap A F P) 13 5 0 = some 14) ∧ (∀ (A : Nat → List Int32) (F : Nat → Int32) (P : Nat → Nat), am_gr (heap A F P) 15 5 0 = some 16) ∧ (∀ (A : Nat → List Int32) (F : Nat → Int32) (P : Nat → Nat), am_gr (heap A F P) 17 5 0 = some 18) ∧ (∀ (A : Nat → List Int32) (F : Nat → Int32) (P : Nat → Nat), am_gr (heap A F P) 19 0 0 = some 20) ∧ (∀ (A : Nat → List Int32) (F : Nat → Int32) (P : Nat → Nat), am_gr (heap A F P) 19 0 1 = some 22) ∧ (∀ (A : Nat → List Int32) (F : Nat → Int32) (P : Nat → Nat), am_gr (heap A F P) 19 0 2 = some 24) ∧ (∀ (A : Nat → List Int32) (F : Nat → Int32) (P : Nat → Nat), am_gr (heap A F P) 19 0 3 = some 26) ∧ (∀ (A : Nat → List Int32) (F : Nat → Int32) (P : Nat → Nat), am_gr (heap A F P) 19 0 4 = some 28) ∧ (∀ (A : Nat → List Int32) (F : Nat → Int32) (P : Nat → Nat), am_gr (heap A F P) 19 0 5 = some 30) ∧ (∀ (A : Nat → List Int32) (F : Nat → Int32) (P : Nat → Nat), am_gr (heap A F P) 20 5 0 = some 21) ∧ (∀ (A : Nat → List Int32) (F : Nat → Int32) (P : Nat → Nat), am_gr (heap A F P) 22 5 0 = some 23) ∧ (∀ (A : Nat → List Int32) (F : Nat → Int32) (P : Nat → Nat), am_gr (heap A F P) 24 5 0 = some 25) ∧ (∀ (A : Nat → List Int32) (F : Nat → Int32) (P : Nat → Nat), am_gr (heap A F P) 26 5 0 = some 27) ∧ (∀ (A : Nat → List Int32) (F : Nat → Int32) (P : Nat → Nat), am_gr (heap A F P) 28 5 0 = some 29) ∧ (∀ (A : Nat → List Int32) (F : Nat → Int32) (P : Nat → Nat), am_gr (heap A F P) 30 5 0 = some 31) ∧ (∀ (A : Nat → List Int32) (F : Nat → Int32) (P : Nat → Nat), am_gr (heap A F P) 32 5 0 = some 33) ∧ (∀ (A : Nat → List Int32) (F : Nat → Int32) (P : Nat → Nat), am_gr (heap A F P) 34 1 0 = some 35) ∧ (∀ (A : Nat → List Int32) (F : Nat → Int32) (P : Nat → Nat), am_gr (heap A F P) 164 6 0 = some 2) ∧ (∀ (A : Nat → List Int32) (F : Nat → Int32) (P : Nat → Nat), am_gr (heap A F P) 164 6 1 = some 165) ∧ (∀ (A : Nat → List Int32) (F : Nat → Int32) (P : Nat → Nat), am_gr (heap A F P) 164 6 2 = some 167) ∧ (∀ (A : Nat → List Int32) (F : Nat → Int32) (P : Nat → Nat), am_gr (heap A F P) 164 6 3 = some 169) ∧ (∀ (A : Nat → List Int32) (F : Nat → Int32) (P : Nat → Nat), am_gr (heap A F P) 164 6 4 = some 171) ∧ (∀ (A : Nat → List Int32) (F : Nat → Int32) (P : Nat → Nat), am_gr (heap A F P) 164 6 5 = some 173) ∧ (∀ (A : Nat → List Int32) (F : Nat → Int32) (P : Nat → Nat), am_gr (heap A F P) 164 6 6 = some 175) ∧ (∀ (A : Nat → List Int32) (F : Nat → Int32) (P : Nat → Nat), am_gr (heap A F P) 164 6 7 = some 177) ∧ (∀ (A : Nat → List Int32) (F : Nat → Int32) (P : Nat → Nat), am_gr (heap A F P) 164 6 8 = some 179) ∧ (∀ (A : Nat → List Int32) (F : Nat → Int32) (P : Nat → Nat), am_gr (heap A F P) 164 6 9 = some 181) ∧ (∀ (A : Nat → List Int32) (F : Nat → Int32) (P : Nat → Nat), am_gr (heap A F P) 165 5 0 = some 166) ∧ (∀ (A : Nat → List Int32) (F : Nat → Int32) (P : Nat → Nat), am_gr (heap A F P) 167 5 0 = some 168) ∧ (∀ (A : Nat → List Int32) (F : Nat → Int32) (P : Nat → Nat), am_gr (heap A F P) 169 5 0 = some 170) ∧ (∀ (A : Nat → List Int32) (F : Nat → Int32) (P : Nat → Nat), am_gr (heap A F P) 171 5 0 = some 172) ∧ (∀ (A : Nat → List Int32) (F : Nat → Int32) (P : Nat → Nat), am_gr (heap A F P) 173 5 0 = some 174) ∧ (∀ (A : Nat → List Int32) (F : Nat → Int32) (P : Nat → Nat), am_gr (heap A F P) 175 5 0 = some 176) ∧ (∀ (A : Nat → List Int32) (F : Nat → Int32) (P : Nat → Nat), am_gr (heap A F P) 177 5 0 = some 178) ∧ (∀ (A : Nat → List Int32) (F : Nat → Int32) (P : Nat → Nat), am_gr (heap A F P) 179 5 0 = some 180) ∧ (∀ (A : Nat → List Int32) (F : Nat → Int32) (P : Nat → Nat), am_gr (heap A F P) 181 5 0 = some 182) ∧ (∀ (A : Nat → List Int32) (F : Nat → Int32) (P : Nat → Nat), am_gr (heap A F P) 183 4 0 = some 2) ∧ (∀ (A : Nat → List Int32) (F : Nat → Int32) (P : Nat → Nat), am_gr (heap A F P) 183 4 1 = some 164) ∧ (∀ (A : Nat → List Int32) (F : Nat → Int32) (P : Nat → Nat), am_gr (heap A F P) 184 2 0 = some 185) ∧ (∀ (A : Nat → List Int32) (F : Nat → Int32) (P : Nat → Nat), am_gr (heap A F P) 184 2 2 = some 186) ∧ (∀ (A : Nat → List Int32) (F : Nat → Int32) (P : Nat → Nat), am_gr (heap A F P) 184 2 3 = some 188) ∧ (∀ (A : Nat → List Int32) (F : Nat → Int32) (P : Nat → Nat), am_gr (heap A F P) 184 2 4 = some 190) ∧ (∀ (A : Nat → List Int32) (F : Nat → Int32) (P : Nat → Nat), am_gr (heap A F P) 186 5 0 = some 187) ∧ (∀ (A : Nat → List Int32) (F : Nat → Int32) (P : Nat → Nat), am_gr (heap A F P) 188 5 0 = some 189) ∧ (∀ (A : Nat → List Int32) (F : Nat → Int32) (P : Nat → Nat), am_gr (heap A F P) 190 5 0 = some 191) := ⟨hpR_1_0, hpR_1_1, hpR_1_2, hpR_1_3, hpR_1_4, hpR_2_0, hpR_2_1, hpR_2_2, hpR_2_4, hpR_2_5, hpR_3_0, hpR_3_1, hpR_4_0, hpR_6_0, hpR_8_0, hpR_8_1, hpR_8_2, hpR_8_3, hpR_9_0, hpR_11_0, hpR_13_0, hpR_15_0, hpR_17_0, hpR_19_0, hpR_19_1, hpR_19_2, hpR_19_3, hpR_19_4, hpR_19_5, hpR_20_0, hpR_22_0, hpR_24_0, hpR_26_0, hpR_28_0, hpR_30_0, hpR_32_0, hpR_34_0, hpR_164_0, hpR_164_1, hpR_164_2, hpR_164_3, hpR_164_4, hpR_164_5, hpR_164_6, hpR_164_7, hpR_164_8, hpR_164_9, hpR_165_0, hpR_167_0, hpR_169_0, hpR_171_0, hpR_173_0, hpR_175_0, hpR_177_0, hpR_179_0, hpR_181_0, hpR_183_0, hpR_183_1, hpR_184_0, hpR_184_2, hpR_184_3, hpR_184_4, hpR_186_0, hpR_188_0, hpR_190_0⟩
theorem hpRM : (∀ (A : Nat → List Int32) (F : Nat → Int32) (P : Nat → Nat), am_gr (heap A F P) 192 10 0 = some 193) ∧ (∀ (A : Nat → List Int32) (F : Nat → Int32) (P : Nat → Nat), am_gr (heap A F P) 192 10 1 = some 194) ∧ (∀ (A : Nat → List Int32) (F : Nat → Int32) (P : Nat → Nat), am_gr (heap A F P) 192 10 4 = some 195) ∧ (∀ (A : Nat → List Int32) (F : Nat → Int32) (P : Nat → Nat), am_gr (heap A F P) 192 10 8 = some 196) ∧ (∀ (A : Nat → List Int32) (F : Nat → Int32) (P : Nat → Nat), am_gr (heap A F P) 192 10 9 = some 197) ∧ (∀ (A : Nat → List Int32) (F : Nat → Int32) (P : Nat → Nat), am_gr (heap A F P) 192 10 10 = some 198) ∧ (∀ (A : Nat → List Int32) (F : Nat → Int32) (P : Nat → Nat), am_gr (heap A F P) 192 10 11 = some 199) ∧ (∀ (A : Nat → List Int32) (F : Nat → Int32) (P : Nat → Nat), am_gr (heap A F P) 192 10 12 = some 200) ∧ (∀ (A : Nat → List Int32) (F : Nat → Int32) (P : Nat → Nat), am_gr (heap A F P) 192 10 13 = some 201) ∧ (∀ (A : Nat → List Int32) (F : Nat → Int32) (P : Nat → Nat), am_gr (heap A F P) 192 10 14 = some 202) ∧ (∀ (A : Nat → List Int32) (F : Nat → Int32) (P : Nat → Nat), am_gr (heap A F P) 192 10 15 = some 203) ∧ (∀ (A : Nat → List Int32) (F : Nat → Int32) (P : Nat → Nat), am_gr (heap A F P) 192 10 16 = some 204) ∧ (∀ (A : Nat → List Int32) (F : Nat → Int32) (P : Nat → Nat), am_gr (heap A F P) 192 10 17 = some 205) := ⟨hpR_192_0, hpR_192_1, hpR_192_4, hpR_192_8, hpR_192_9, hpR_192_10, hpR_192_11, hpR_192_12, hpR_192_13, hpR_192_14, hpR_192_15, hpR_192_16, hpR_192_17⟩
theorem hpRY : (∀ (A : Nat → List Int32) (F : Nat → Int32) (P : Nat → Nat), am_gr (heap A F P) 36 7 0 = some 37) ∧ (∀ (A : Nat → List Int32) (F : Nat → Int32) (P : Nat → Nat), am_gr (heap A F P) 36 7 1 = some 42) ∧ (∀ (A : Nat → List Int32) (F : Nat → Int32) (P : Nat → Nat), am_gr (heap A F P) 36 7 2 = some 51) ∧ (∀ (A : Nat → List Int32) (F : Nat → Int32) (P : Nat → Nat), am_gr (heap A F P) 36 7 4 = some 53) ∧ (∀ (A : Nat → List Int32) (F : Nat → Int32) (P : Nat → Nat), am_gr (heap A F P) 36 7 5 = some 66) ∧ (∀ (A : Nat → List Int32) (F : Nat → Int32) (P : Nat → Nat), am_gr (heap A F P) 37 8 0 = some 38) ∧ (∀ (A : Nat → List Int32) (F : Nat → Int32) (P : Nat → Nat), am_gr (heap A F P) 37 8 1 = some 40) ∧ (∀ (A : Nat → List Int32) (F : Nat → Int32) (P : Nat → Nat), am_gr (heap A F P) 38 5 0 = some 39) ∧ (∀ (A : Nat → List Int32) (F : Nat → Int32) (P : Nat → Nat), am_gr (heap A F P) 40 5 0 = some 41) ∧ (∀ (A : Nat → List Int32) (F : Nat → Int32) (P : Nat → Nat), am_gr (heap A F P) 42 3 0 = some 43) ∧ (∀ (A : Nat → List Int32) (F : Nat → Int32) (P : Nat → Nat), am_gr (heap A F P) 42 3 1 = some 45) ∧ (∀ (A : Nat → List Int32) (F : Nat → Int32) (P : Nat → Nat), am_gr (heap A F P) 42 3 2 = some 47) ∧ (∀ (A : Nat → List Int32) (F : Nat → Int32) (P : Nat → Nat), am_gr (heap A F P) 42 3 3 = some 49) ∧ (∀ (A : Nat → List Int32) (F : Nat → Int32) (P : Nat → Nat), am_gr (heap A F P) 43 5 0 = some 44) ∧ (∀ (A : Nat → List Int32) (F : Nat → Int32) (P : Nat → Nat), am_gr (heap A F P) 45 5 0 = some 46) ∧ (∀ (A : Nat → List Int32) (F : Nat → Int32) (P : Nat → Nat), am_gr (heap A F P) 47 5 0 = some 48) ∧ (∀ (A : Nat → List Int32) (F : Nat → Int32) (P : Nat → Nat), am_gr (heap A F P) 49 5 0 = some 50) ∧ (∀ (A : Nat → List Int32) (F : Nat → Int32) (P : Nat → Nat), am_gr (heap A F P) 51 5 0 = some 52) ∧ (∀ (A : Nat → List Int32) (F : Nat → Int32) (P : Nat → Nat), am_gr (heap A F P) 53 0 0 = some 54) ∧ (∀ (A : Nat → List Int32) (F : Nat → Int32) (P : Nat → Nat), am_gr (heap A F P) 53 0 1 = some 56) ∧ (∀ (A : Nat → List Int32) (F : Nat → Int32) (P : Nat → Nat), am_gr (heap A F P) 53 0 2 = some 58) ∧ (∀ (A : Nat → List Int32) (F : Nat → Int32) (P : Nat → Nat), am_gr (heap A F P) 53 0 3 = some 60) ∧ (∀ (A : Nat → List Int32) (F : Nat → Int32) (P : Nat → Nat), am_gr (heap A F P) 53 0 4 = some 62) ∧ (∀ (A : Nat → List Int32) (F : Nat → Int32) (P : Nat → Nat), am_gr (heap A F P) 53 0 5 = some 64) ∧ (∀ (A : Nat → List Int32) (F : Nat → Int32) (P : Nat → Nat), am_gr (heap A F P) 54 5 0 = some 55) ∧ (∀ (A : Nat → List Int32) (F : Nat → Int32) (P : Nat → Nat), am_gr (heap A F P) 56 5 0 = some 57) ∧ (∀ (A : Nat → List Int32) (F : Nat → Int32) (P : Nat → Nat), am_gr (heap A F P) 58 5 0 = some 59) ∧ (∀ (A : Nat → List Int32) (F : Nat → Int32) (P : Nat → Nat), am_gr (heap A F P) 60 5 0 = some 61) ∧ (∀ (A : Nat → List Int32) (F : Nat → Int32) (P : Nat → Nat), am_gr (heap A F P) 62 5 0 = some 63) ∧ (∀ (A : Nat → List Int32) (F : Nat → Int32) (P : Nat → Nat), am_gr (heap A F P) 64 5 0 = some 65) ∧ (∀ (A : Nat → List Int32) (F : Nat → Int32) (P : Nat → Nat), am_gr (heap A F P) 66 5 0 = some 67) ∧ (∀ (A : Nat → List Int32) (F : Nat → Int32) (P : Nat → Nat), am_gr (heap A F P) 68 7 0 = some 69) ∧ (∀ (A : Nat → List Int32) (F : Nat → Int32) (P : Nat → Nat), am_gr (heap A F P) 68 7 1 = some 74) ∧ (∀ (A : Nat → List Int32) (F : Nat → Int32) (P : Nat → Nat), am_gr (heap A F P) 68 7 2 = some 83) ∧ (∀ (A : Nat → List Int32) (F : Nat → Int32) (P : Nat → Nat), am_gr (heap A F P) 68 7 4 = some 85) ∧ (∀ (A : Nat → List Int32) (F : Nat → Int32) (P : Nat → Nat), am_gr (heap A F P) 68 7 5 = some 98) ∧ (∀ (A : Nat → List Int32) (F : Nat → Int32) (P : Nat → Nat), am_gr (heap A F P) 69 8 0 = some 70) ∧ (∀ (A : Nat → List Int32) (F : Nat → Int32) (P : Nat → Nat), am_gr (heap A F P) 69 8 1 = some 72) ∧ (∀ (A : Nat → List Int32) (F : Nat → Int32) (P : Nat → Nat), am_gr (heap A F P) 70 5 0 = some 71) ∧ (∀ (A : Nat → List Int32) (F : Nat → Int32) (P : Nat → Nat), am_gr (heap A F P) 72 5 0 = some 73) ∧ (∀ (A : Nat → List Int32) (F : Nat → Int32) (P : Nat → Nat), am_gr (heap A F P) 74 3 0 = some 75) ∧ (∀ (A : Nat → List Int32) (F : Nat → Int32) (P : Nat → Nat), am_gr (heap A F P) 74 3 1 = some 77) ∧ (∀ (A : Nat → List Int32) (F : Nat → Int32) (P : Nat → Nat), am_gr (heap A F P) 74 3 2 = some 79) ∧ (∀ (A : Nat → List Int32) (F : Nat → Int32) (P : Nat → Nat), am_gr (heap A F P) 74 3 3 = some 81) ∧ (∀ (A : Nat → List Int32) (F : Nat → Int32) (P : Nat → Nat), am_gr (heap A F P) 75 5 0 = some 76) ∧ (∀ (A : Nat → List Int32) (F : Nat → Int32) (P : Nat → Nat), am_gr (heap A F P) 77 5 0 = some 78) ∧ (∀ (A : Nat → List Int32) (F : Nat → Int32) (P : Nat → Nat), am_gr (heap A F P) 79 5 0 = some 80) ∧ (∀ (A : Nat → List Int32) (F : Nat → Int32) (P : Nat → Nat), am_gr (heap A F P) 81 5 0 = some 82) ∧ (∀ (A : Nat → List Int32) (F : Nat → Int32) (P : Nat → Nat), am_gr (heap A F P) 83 5 0 = some 84) ∧ (∀ (A : Nat → List Int32) (F : Nat → Int32) (P : Nat → Nat), am_gr (heap A F P) 85 0 0 = some 86) ∧ (∀ (A : Nat → List Int32) (F : Nat → Int32) (P : Nat → Nat), am_gr (heap A F P) 85 0 1 = some 88) ∧ (∀ (A : Nat → List Int32) (F : Nat → Int32) (P : Nat → Nat), am_gr (heap A F P) 85 0 2 = some 90) ∧ (∀ (A : Nat → List Int32) (F : Nat → Int32) (P : Nat → Nat), am_gr (heap A F P) 85 0 3 = some 92) ∧ (∀ (A : Nat → List Int32) (F : Nat → Int32) (P : Nat → Nat), am_gr (heap A F P) 85 0 4 = some 94) ∧ (∀ (A : Nat → List Int32) (F : Nat → Int32) (P : Nat → Nat), am_gr (heap A F P) 85 0 5 = some 96) ∧ (∀ (A : Nat → List Int32) (F : Nat → Int32) (P : Nat → Nat), am_gr (heap A F P) 86 5 0 = some 87) ∧ (∀ (A : Nat → List Int32) (F : Nat → Int32) (P : Nat → Nat), am_gr (heap A F P) 88 5 0 = some 89) ∧ (∀ (A : Nat → List Int32) (F : Nat → Int32) (P : Nat → Nat), am_gr (heap A F P) 90 5 0 = some 91) ∧ (∀ (A : Nat → List Int32) (F : Nat → Int32) (P : Nat → Nat), am_gr (heap A F P) 92 5 0 = some 93) ∧ (∀ (A : Nat → List Int32) (F : Nat → Int32) (P : Nat → Nat), am_gr (heap A F P) 94 5 0 = some 95) ∧ (∀ (A : Nat → List Int32) (F : Nat → Int32) (P : Nat → Nat), am_gr (heap A F P) 96 5 0 = some 97) ∧ (∀ (A : Nat → List Int32) (F : Nat → Int32) (P : Nat → Nat), am_gr (heap A F P) 98 5 0 = some 99) ∧ (∀ (A : Nat → List Int32) (F : Nat → Int32) (P : Nat → Nat), am_gr (heap A F P) 100 7 0 = some 101) ∧ (∀ (A : Nat → List Int32) (F : Nat → Int32) (P : Nat → Nat), am_gr (heap A F P) 100 7 1 = some 106) ∧ (∀ (A : Nat → List Int32) (F : Nat → Int32) (P : Nat → Nat), am_gr (heap A F P) 100 7 2 = some 115) ∧ (∀ (A : Nat → List Int32) (F : Nat → Int32) (P : Nat → Nat), am_gr (heap A F P) 100 7 4 = some 117) ∧ (∀ (A : Nat → List Int32) (F : Nat → Int32) (P : Nat → Nat), am_gr (heap A F P) 100 7 5 = some 130) ∧ (∀ (A : Nat → List Int32) (F : Nat → Int32) (P : Nat → Nat), am_gr (heap A F P) 101 8 0 = some 102) ∧ (∀ (A : Nat → List Int32) (F : Nat → Int32) (P : Nat → Nat), am_gr (heap A F P) 101 8 1 = some 104) ∧ (∀ (A : Nat → List Int32) (F : Nat → Int32) (P : Nat → Nat), am_gr (heap A F P) 102 5 0 = some 103) ∧ (∀ (A : Nat → List Int32) (F : Nat → Int32) (P : Nat → Nat), am_gr (heap A F P) 104 5 0 = some 105) ∧ (∀ (A : Nat → List Int32) (F : Nat → Int32) (P : Nat → Nat), am_gr (heap A F P) 106 3 0 = some 107) ∧ (∀ (A : Nat → List Int32) (F : Nat → Int32) (P : Nat → Nat), am_gr (heap A F P) 106 3 1 = some 109) ∧ (∀ (A : Nat → List Int32) (F : Nat → Int32) (P : Nat → Nat), am_gr (heap A F P) 106 3 2 = some 111) ∧ (∀ (A : Nat → List Int32) (F : Nat → Int32) (P : Nat → Nat), am_gr (heap A F P) 106 3 3 = some 113) ∧ (∀ (A : Nat → List Int32) (F : Nat → Int32) (P : Nat → Nat), am_gr (heap A F P) 107 5 0 = some 108) ∧ (∀ (A : Nat → List Int32) (F : Nat → Int32) (P : Nat → Nat), am_gr (heap A F P) 109 5 0 = some 110) ∧ (∀ (A : Nat → List Int32) (F : Nat → Int32) (P : Nat → Nat), am_gr (heap A F P) 111 5 0 = some 112) ∧ (∀ (A : Nat → List Int32) (F : Nat → Int32) (P : Nat → Nat), am_gr (heap A F P) 113 5 0 = some 114) ∧ (∀ (A : Nat → List Int32) (F : Nat → Int32) (P : Nat → Nat), am_gr (heap A F P) 115 5 0 = some 116) ∧ (∀ (A : Nat → List Int32) (F : Nat → Int32) (P : Nat → Nat), am_gr (heap A F P) 117 0 0 = some 118) ∧ (∀ (A : Nat → List Int32) (F : Nat → Int32) (P : Nat → Nat), am_gr (heap A F P) 117 0 1 = some 120) ∧ (∀ (A : Nat → List Int32) (F : Nat → Int32) (P : Nat → Nat), am_gr (heap A F P) 117 0 2 = some 122) ∧ (∀ (A : Nat → List Int32) (F : Nat → Int32) (P : Nat → Nat), am_gr (heap A F P) 117 0 3 = some 124) ∧ (∀ (A : Nat → List Int32) (F : Nat → Int32) (P : Nat → Nat), am_gr (heap A F P) 117 0 4 = some 126) ∧ (∀ (A : Nat → List Int32) (F : Nat → Int32) (P : Nat → Nat), am_gr (heap A F P) 117 0 5 = some 128) ∧ (∀ (A : Nat → List Int32) (F : Nat → Int32) (P : Nat → Nat), am_gr (heap A F P) 118 5 0 = some 119) ∧ (∀ (A : Nat → List Int32) (F : Nat → Int32) (P : Nat → Nat), am_gr (heap A F P) 120 5 0 = some 121) ∧ (∀ (A : Nat → List Int32) (F : Nat → Int32) (P : Nat → Nat), am_gr (heap A F P) 122 5 0 = some 123) ∧ (∀ (A : Nat → List Int32) (F : Nat → Int32) (P : Nat → Nat), am_gr (heap A F P) 124 5 0 = some 125) ∧ (∀ (A : Nat → List Int32) (F : Nat → Int32) (P : Nat → Nat), am_gr (heap A F P) 126 5 0 = some 127) ∧ (∀ (A : Nat → List Int32) (F : Nat → Int32) (P : Nat → Nat), am_gr (heap A F P) 128 5 0 = some 129) ∧ (∀ (A : Nat → List Int32) (F : Nat → Int32) (P : Nat → Nat), am_gr (heap A F P) 130 5 0 = some 131) ∧ (∀ (A : Nat → List Int32) (F : Nat → Int32) (P : Nat → Nat), am_gr (heap A F P) 132 7 0 = some 133) ∧ (∀ (A : Nat → List Int32) (F : Nat → Int32) (P : Nat → Nat), am_gr (heap A F P) 132 7 1 = some 138) ∧ (∀ (A : Nat → List Int32) (F : Nat → Int32) (P : Nat → Nat), am_gr (heap A F P) 132 7 2 = some 147) ∧ (∀ (A : Nat → List Int32) (F : Nat → Int32) (P : Nat → Nat), am_gr (heap A F P) 132 7 4 = some 149) ∧ (∀ (A : Nat → List Int32) (F : Nat → Int32) (P : Nat → Nat), am_gr (heap A F P) 132 7 5 = some 162) ∧ (∀ (A : Nat → List Int32) (F : Nat → Int32) (P : Nat → Nat), am_gr (heap A F P) 133 8 0 = some 134) ∧ (∀ (A : Nat → List Int32) (F : Nat → Int32) (P : Nat → Nat), am_gr (heap A F P) 133 8 1 = some 136) ∧ (∀ (A : Nat → List Int32) (F : Nat → Int32) (P : Nat → Nat), am_gr (heap A F P) 134 5 0 = some 135) ∧ (∀ (A : Nat → List Int32) (F : Nat → Int32) (P : Nat → Nat), am_gr (heap A F P) 136 5 0 = some 137) ∧ (∀ (A : Nat → List Int32) (F : Nat → Int32) (P : Nat → Nat), am_gr (heap A F P) 138 3 0 = some 139) ∧ (∀ (A : Nat → List Int32) (F : Nat → Int32) (P : Nat → Nat), am_gr (heap A F P) 138 3 1 = some 141) ∧ (∀ (A : Nat → List Int32) (F : Nat → Int32) (P : Nat → Nat), am_gr (heap A F P) 138 3 2 = some 143) ∧ (∀ (A : Nat → List Int32) (F : Nat → Int32) (P : Nat → Nat), am_gr (heap A F P) 138 3 3 = some 145) ∧ (∀ (A : Nat → List Int32) (F : Nat → Int32) (P : Nat → Nat), am_gr (heap A F P) 139 5 0 = some 140) ∧ (∀ (A : Nat → List Int32) (F : Nat → Int32) (P : Nat → Nat), am_gr (heap A F P) 141 5 0 = some 142) ∧ (∀ (A : Nat → List Int32) (F : Nat → Int32) (P : Nat → Nat), am_gr (heap A F P) 143 5 0 = some 144) ∧ (∀ (A : Nat → List Int32) (F : Nat → Int32) (P : Nat → Nat), am_gr (heap A F P) 145 5 0 = some 146) ∧ (∀ (A : Nat → List Int32) (F : Nat → Int32) (P : Nat → Nat), am_gr (heap A F P) 147 5 0 = some 148) ∧ (∀ (A : Nat → List Int32) (F : Nat → Int32) (P : Nat → Nat), am_gr (heap A F P) 149 0 0 = some 150) ∧ (∀ (A : Nat → List Int32) (F : Nat → Int32) (P : Nat → Nat), am_gr (heap A F P) 149 0 1 = some 152) ∧ (∀ (A : Nat → List Int32) (F : Nat → Int32) (P : Nat → Nat), am_gr (heap A F P) 149 0 2 = some 154) ∧ (∀ (A : Nat → List Int32) (F : Nat → Int32) (P : Nat → Nat), am_gr (heap A F P) 149 0 3 = some 156) ∧ (∀ (A : Nat → List Int32) (F : Nat → Int32) (P : Nat → Nat), am_gr (heap A F P) 149 0 4 = some 158) ∧ (∀ (A : Nat → List Int32) (F : Nat → Int32) (P : Nat → Nat), am_gr (heap A F P) 149 0 5 = some 160) ∧ (∀ (A : Nat → List Int32) (F : Nat → Int32) (P : Nat → Nat), am_gr (heap A F P) 150 5 0 = some 151) ∧ (∀ (A : Nat → List Int32) (F : Nat → Int32) (P : Nat → Nat), am_gr (heap A F P) 152 5 0 = some 153) ∧ (∀ (A : Nat → List Int32) (F : Nat → Int32) (P : Nat → Nat), am_gr (heap A F P) 154 5 0 = some 155) ∧ (∀ (A : Nat → List Int32) (F : Nat → Int32) (P : Nat → Nat), am_gr (heap A F P) 156 5 0 = some 157) ∧ (∀ (A : Nat → List Int32) (F : Nat → Int32) (P : Nat → Nat), am_gr (heap A F P) 158 5 0 = some 159) ∧ (∀ (A : Nat → List Int32) (F : Nat → Int32) (P : Nat → Nat), am_gr (heap A F P) 160 5 0 = some 161) ∧ (∀ (A : Nat → List Int32) (F : Nat → Int32) (P : Nat → Nat), am_gr (heap A F P) 162 5 0 = some 163) := ⟨hpR_36_0, hpR_36_1, hpR_36_2, hpR_36_4, hpR_36_5, hpR_37_0, hpR_37_1, hpR_38_0, hpR_40_0, hpR_42_0, hpR_42_1, hpR_42_2, hpR_42_3, hpR_43_0, hpR_45_0, hpR_47_0, hpR_49_0, hpR_51_0, hpR_53_0, hpR_53_1, hpR_53_2, hpR_53_3, hpR_53_4, hpR_53_5, hpR_54_0, hpR_56_0, hpR_58_0, hpR_60_0, hpR_62_0, hpR_64_0, hpR_66_0, hpR_68_0, hpR_68_1, hpR_68_2, hpR_68_4, hpR_68_5, hpR_69_0, hpR_69_1, hpR_70_0, hpR_72_0, hpR_74_0, hpR_74_1, hpR_74_2, hpR_74_3, hpR_75_0, hpR_77_0, hpR_79_0, hpR_81_0, hpR_83_0, hpR_85_0, hpR_85_1, hpR_85_2, hpR_85_3, hpR_85_4, hpR_85_5, hpR_86_0, hpR_88_0, hpR_90_0, hpR_92_0, hpR_94_0, hpR_96_0, hpR_98_0, hpR_100_0, hpR_100_1, hpR_100_2, hpR_100_4, hpR_100_5, hpR_101_0, hpR_101_1, hpR_102_0, hpR_104_0, hpR_106_0, hpR_106_1, hpR_106_2, hpR_106_3, hpR_107_0, hpR_109_0, hpR_111_0, hpR_113_0, hpR_115_0, hpR_117_0, hpR_117_1, hpR_117_2, hpR_117_3, hpR_117_4, hpR_117_5, hpR_118_0, hpR_120_0, hpR_122_0, hpR_124_0, hpR_126_0, hpR_128_0, hpR_130_0, hpR_132_0, hpR_132_1, hpR_132_2, hpR_132_4, hpR_132_5, hpR_133_0, hpR_133_1, hpR_134_0, hpR_136_0, hpR_138_0, hpR_138_1, hpR_138_2, hpR_138_3, hpR_139_0, hpR_141_0, hpR_143_0, hpR_145_0, hpR_147_0, hpR_149_0, hpR_149_1, hpR_149_2, hpR_149_3, hpR_149_4, hpR_149_5, hpR_150_0, hpR_152_0, hpR_154_0, hpR_156_0, hpR_158_0, hpR_160_0, hpR_162_0⟩
set_option maxRecDepth 100000 in
theorem hpI_2_3 (A : Nat → List Int32) (F : Nat → Int32) (P : Nat → Nat) : am_gi (heap A F P) 2 7 3 = some (F 203) := rfl
set_option maxRecDepth 100000 in
theorem hpI_3_2 (A : Nat → List Int32) (F : Nat → Int32) (P : Nat → Nat) : am_gi (heap A F P) 3 8 2 = some (F 302) := rfl
set_option maxRecDepth 100000 in
theorem hpI_8_4 (A : Nat → List Int32) (F : Nat → Int32) (P : Nat → Nat) : am_gi (heap A F P) 8 3 4 = some (F 804) := rfl
set_option maxRecDepth 100000 in
theorem hpI_19_6 (A : Nat → List Int32) (F : Nat → Int32) (P : Nat → Nat) : am_gi (heap A F P) 19 0 6 = some (F 1906) := rfl
set_option maxRecDepth 100000 in
theorem hpI_34_1 (A : Nat → List Int32) (F : Nat → Int32) (P : Nat → Nat) : am_gi (heap A F P) 34 1 1 = some (F 3401) := rfl
set_option maxRecDepth 100000 in
theorem hpI_36_3 (A : Nat → List Int32) (F : Nat → Int32) (P : Nat → Nat) : am_gi (heap A F P) 36 7 3 = some (F 3603) := rfl
set_option maxRecDepth 100000 in
theorem hpI_37_2 (A : Nat → List Int32) (F : Nat → Int32) (P : Nat → Nat) : am_gi (heap A F P) 37 8 2 = some (F 3702) := rfl
set_option maxRecDepth 100000 in
theorem hpI_42_4 (A : Nat → List Int32) (F : Nat → Int32) (P : Nat → Nat) : am_gi (heap A F P) 42 3 4 = some (F 4204) := rfl
set_option maxRecDepth 100000 in
theorem hpI_53_6 (A : Nat → List Int32) (F : Nat → Int32) (P : Nat → Nat) : am_gi (heap A F P) 53 0 6 = some (F 5306) := rfl
set_option maxRecDepth 100000 in
theorem hpI_68_3 (A : Nat → List Int32) (F : Nat → Int32) (P : Nat → Nat) : am_gi (heap A F P) 68 7 3 = some (F 6803) := rfl
set_option maxRecDepth 100000 in
theorem hpI_69_2 (A : Nat → List Int32) (F : Nat → Int32) (P : Nat → Nat) : am_gi (heap A F P) 69 8 2 = some (F 6902) := rfl
set_option maxRecDepth 100000 in
theorem hpI_74_4 (A : Nat → List Int32) (F : Nat → Int32) (P : Nat → Nat) : am_gi (heap A F P) 74 3 4 = some (F 7404) := rfl
set_option maxRecDepth 100000 in
theorem hpI_85_6 (A : Nat → List Int32) (F : Nat → Int32) (P : Nat → Nat) : am_gi (heap A F P) 85 0 6 = some (F 8506) := rfl
set_option maxRecDepth 100000 in
theorem hpI_100_3 (A : Nat → List Int32) (F : Nat → Int32) (P : Nat → Nat) : am_gi (heap A F P) 100 7 3 = some (F 10003) := rfl
set_option maxRecDepth 100000 in
theorem hpI_101_2 (A : Nat → List Int32) (F : Nat → Int32) (P : Nat → Nat) : am_gi (heap A F P) 101 8 2 = some (F 10102) := rfl
set_option maxRecDepth 100000 in
theorem hpI_106_4 (A : Nat → List Int32) (F : Nat → Int32) (P : Nat → Nat) : am_gi (heap A F P) 106 3 4 = some (F 10604) := rfl
set_option maxRecDepth 100000 in
theorem hpI_117_6 (A : Nat → List Int32) (F : Nat → Int32) (P : Nat → Nat) : am_gi (heap A F P) 117 0 6 = some (F 11706) := rfl
set_option maxRecDepth 100000 in
theorem hpI_132_3 (A : Nat → List Int32) (F : Nat → Int32) (P : Nat → Nat) : am_gi (heap A F P) 132 7 3 = some (F 13203) := rfl
set_option maxRecDepth 100000 in
theorem hpI_133_2 (A : Nat → List Int32) (F : Nat → Int32) (P : Nat → Nat) : am_gi (heap A F P) 133 8 2 = some (F 13302) := rfl
set_option maxRecDepth 100000 in
theorem hpI_138_4 (A : Nat → List Int32) (F : Nat → Int32) (P : Nat → Nat) : am_gi (heap A F P) 138 3 4 = some (F 13804) := rfl
set_option maxRecDepth 100000 in
theorem hpI_149_6 (A : Nat → List Int32) (F : Nat → Int32) (P : Nat → Nat) : am_gi (heap A F P) 149 0 6 = some (F 14906) := rfl
set_option maxRecDepth 100000 in
theorem hpI_164_10 (A : Nat → List Int32) (F : Nat → Int32) (P : Nat → Nat) : am_gi (heap A F P) 164 6 10 = some (F 16410) := rfl
set_option maxRecDepth 100000 in
theorem hpI_184_1 (A : Nat → List Int32) (F : Nat → Int32) (P : Nat → Nat) : am_gi (heap A F P) 184 2 1 = some (F 18401) := rfl
set_option maxRecDepth 100000 in
theorem hpI_184_5 (A : Nat → List Int32) (F : Nat → Int32) (P : Nat → Nat) : am_gi (heap A F P) 184 2 5 = some (F 18405) := rfl
set_option maxRecDepth 100000 in
theorem hpI_184_6 (A : Nat → List Int32) (F : Nat → Int32) (P : Nat → Nat) : am_gi (heap A F P) 184 2 6 = some (F 18406) := rfl
set_option maxRecDepth 100000 in
theorem hpI_184_7 (A : Nat → List Int32) (F : Nat → Int32) (P : Nat → Nat) : am_gi (heap A F P) 184 2 7 = some (F 18407) := rfl
set_option maxRecDepth 100000 in
theorem hpI_184_8 (A : Nat → List Int32) (F : Nat → Int32) (P : Nat → Nat) : am_gi (heap A F P) 184 2 8 = some (F 18408) := rfl
set_option maxRecDepth 100000 in
theorem hpI_184_9 (A : Nat → List Int32) (F : Nat → Int32) (P : Nat → Nat) : am_gi (heap A F P) 184 2 9 = some (F 18409) := rfl
set_option maxRecDepth 100000 in
theorem hpI_192_2 (A : Nat → List Int32) (F : Nat → Int32) (P : Nat → Nat) : am_gi (heap A F P) 192 10 2 = some (F 19202) := rfl
set_option maxRecDepth 100000 in
theorem hpI_192_3 (A : Nat → List Int32) (F : Nat → Int32) (P : Nat → Nat) : am_gi (heap A F P) 192 10 3 = some (F 19203) := rfl
set_option maxRecDepth 100000 in
theorem hpI_192_5 (A : Nat → List Int32) (F : Nat → Int32) (P : Nat → Nat) : am_gi (heap A F P) 192 10 5 = some (F 19205) := rfl
set_option maxRecDepth 100000 in
theorem hpI_192_6 (A : Nat → List Int32) (F : Nat → Int32) (P : Nat → Nat) : am_gi (heap A F P) 192 10 6 = some (F 19206) := rfl
set_option maxRecDepth 100000 in
theorem hpI_192_7 (A : Nat → List Int32) (F : Nat → Int32) (P : Nat → Nat) : am_gi (heap A F P) 192 10 7 = some (F 19207) := rfl
theorem hpIX : (∀ (A : Nat → List Int32) (F : Nat → Int32) (P : Nat → Nat), am_gi (heap A F P) 2 7 3 = some (F 203)) ∧ (∀ (A : Nat → List Int32) (F : Nat → Int32) (P : Nat → Nat), am_gi (heap A F P) 3 8 2 = some (F 302)) ∧ (∀ (A : Nat → List Int32) (F : Nat → Int32) (P : Nat → Nat), am_gi (heap A F P) 8 3 4 = some (F 804)) ∧ (∀ (A : Nat → List Int32) (F : Nat → Int32) (P : Nat → Nat), am_gi (heap A F P) 19 0 6 = some (F 1906)) ∧ (∀ (A : Nat → List Int32) (F : Nat → Int32) (P : Nat → Nat), am_gi (heap A F P) 34 1 1 = some (F 3401)) ∧ (∀ (A : Nat → List Int32) (F : Nat → Int32) (P : Nat → Nat), am_gi (heap A F P) 164 6 10 = some (F 16410)) ∧ (∀ (A : Nat → List Int32) (F : Nat → Int32) (P : Nat → Nat), am_gi (heap A F P) 184 2 1 = some (F 18401)) ∧ (∀ (A : Nat → List Int32) (F : Nat → Int32) (P : Nat → Nat), am_gi (heap A F P) 184 2 5 = some (F 18405)) ∧ (∀ (A : Nat → List Int32) (F : Nat → Int32) (P : Nat → Nat), am_gi (heap A F P) 184 2 6 = some (F 18406)) ∧ (∀ (A : Nat → List Int32) (F : Nat → Int32) (P : Nat → Nat), am_gi (heap A F P) 184 2 7 = some (F 18407)) ∧ (∀ (A : Nat → List Int32) (F : Nat → Int32) (P : Nat → Nat), am_gi (heap A F P) 184 2 8 = some (F 18408)) ∧ (∀ (A : Nat → List Int32) (F : Nat → Int32) (P : Nat → Nat), am_gi (heap A F P) 184 2 9 = some (F 18409)) := ⟨hpI_2_3, hpI_3_2, hpI_8_4, hpI_19_6, hpI_34_1, hpI_164_10, hpI_184_1, hpI_184_5, hpI_184_6, hpI_184_7, hpI_184_8, hpI_184_9⟩
theorem hpIM : (∀ (A : Nat → List Int32) (F : Nat → Int32) (P : Nat → Nat), am_gi (heap A F P) 192 10 2 = some (F 19202)) ∧ (∀ (A : Nat → List Int32) (F : Nat → Int32) (P : Nat → Nat), am_gi (heap A F P) 192 10 3 = some (F 19203)) ∧ (∀ (A : Nat → List Int32) (F : Nat → Int32) (P : Nat → Nat), am_gi (heap A F P) 192 10 5 = some (F 19205)) ∧ (∀ (A : Nat → List Int32) (F : Nat → Int32) (P : Nat → Nat), am_gi (heap A F P) 192 10 6 = some (F 19206)) ∧ (∀ (A : Nat → List Int32) (F : Nat → Int32) (P : Nat → Nat), am_gi (heap A F P) 192 10 7 = some (F 19207)) := ⟨hpI_192_2, hpI_192_3, hpI_192_5, hpI_192_6, hpI_192_7⟩
theorem hpIY : (∀ (A : Nat → List Int32) (F : Nat → Int32) (P : Nat → Nat), am_gi (heap A F P) 36 7 3 = some (F 3603)) ∧ (∀ (A : Nat → List Int32) (F : Nat → Int32) (P : Nat → Nat), am_gi (heap A F P) 37 8 2 = some (F 3702)) ∧ (∀ (A : Nat → List Int32) (F : Nat → Int32) (P : Nat → Nat), am_gi (heap A F P) 42 3 4 = some (F 4204)) ∧ (∀ (A : Nat → List Int32) (F : Nat → Int32) (P : Nat → Nat), am_gi (heap A F P) 53 0 6 = some (F 5306)) ∧ (∀ (A : Nat → List Int32) (F : Nat → Int32) (P : Nat → Nat), am_gi (heap A F P) 68 7 3 = some (F 6803)) ∧ (∀ (A : Nat → List Int32) (F : Nat → Int32) (P : Nat → Nat), am_gi (heap A F P) 69 8 2 = some (F 6902)) ∧ (∀ (A : Nat → List Int32) (F : Nat → Int32) (P : Nat → Nat), am_gi (heap A F P) 74 3 4 = some (F 7404)) ∧ (∀ (A : Nat → List Int32) (F : Nat → Int32) (P : Nat → Nat), am_gi (heap A F P) 85 0 6 = some (F 8506)) ∧ (∀ (A : Nat → List Int32) (F : Nat → Int32) (P : Nat → Nat), am_gi (heap A F P) 100 7 3 = some (F 10003)) ∧ (∀ (A : Nat → List Int32) (F : Nat → Int32) (P : Nat → Nat), am_gi (heap A F P) 101 8 2 = some (F 10102)) ∧ (∀ (A : Nat → List Int32) (F : Nat → Int32) (P : Nat → Nat), am_gi (heap A F P) 106 3 4 = some (F 10604)) ∧ (∀ (A : Nat → List Int32) (F : Nat → Int32) (P : Nat → Nat), am_gi (heap A F P) 117 0 6 = some (F 11706)) ∧ (∀ (A : Nat → List Int32) (F : Nat → Int32) (P : Nat → Nat), am_gi (heap A F P) 132 7 3 = some (F 13203)) ∧ (∀ (A : Nat → List Int32) (F : Nat → Int32) (P : Nat → Nat), am_gi (heap A F P) 133 8 2 = some (F 13302)) ∧ (∀ (A : Nat → List Int32) (F : Nat → Int32) (P : Nat → Nat), am_gi (heap A F P) 138 3 4 = some (F 13804)) ∧ (∀ (A : Nat → List Int32) (F : Nat → Int32) (P : Nat → Nat), am_gi (heap A F P) 149 0 6 = some (F 14906)) := ⟨hpI_36_3, hpI_37_2, hpI_42_4, hpI_53_6, hpI_68_3, hpI_69_2, hpI_74_4, hpI_85_6, hpI_100_3, hpI_101_2, hpI_106_4, hpI_117_6, hpI_132_3, hpI_133_2, hpI_138_4, hpI_149_6⟩
set_option maxRecDepth 100000 in
theorem hpN_5 (A : Nat → List Int32) (F : Nat → Int32) (P : Nat → Nat) : am_len (heap A F P) 5 = some (Int32.ofNat (A 5).length) := rfl
set_option maxRecDepth 100000 in
theorem hpN_7 (A : Nat → List Int32) (F : Nat → Int32) (P : Nat → Nat) : am_len (heap A F P) 7 = some (Int32.ofNat (A 7).length) := rfl
set_option maxRecDepth 100000 in
theorem hpN_10 (A : Nat → List Int32) (F : Nat → Int32) (P : Nat → Nat) : am_len (heap A F P) 10 = some (Int32.ofNat (A 10).length) := rfl
set_option maxRecDepth 100000 in
theorem hpN_12 (A : Nat → List Int32) (F : Nat → Int32) (P : Nat → Nat) : am_len (heap A F P) 12 = some (Int32.ofNat (A 12).length) := rfl
set_option maxRecDepth 100000 in
theorem hpN_14 (A : Nat → List Int32) (F : Nat → Int32) (P : Nat → Nat) : am_len (heap A F P) 14 = some (Int32.ofNat (A 14).length) := rfl
set_option maxRecDepth 100000 in
theorem hpN_16 (A : Nat → List Int32) (F : Nat → Int32) (P : Nat → Nat) : am_len (heap A F P) 16 = some (Int32.ofNat (A 16).length) := rfl
set_option maxRecDepth 100000 in
theorem hpN_18 (A : Nat → List Int32) (F : Nat → Int32) (P : Nat → Nat) : am_len (heap A F P) 18 = some (Int32.ofNat (A 18).length) := rfl
set_option maxRecDepth 100000 in
theorem hpN_21 (A : Nat → List Int32) (F : Nat → Int32) (P : Nat → Nat) : am_len (heap A F P) 21 = some (Int32.ofNat (A 21).length) := rfl
set_option maxRecDepth 100000 in
theorem hpN_23 (A : Nat → List Int32) (F : Nat → Int32) (P : Nat → Nat) : am_len (heap A F P) 23 = some (Int32.ofNat (A 23).length) := rfl
set_option maxRecDepth 100000 in
theorem hpN_25 (A : Nat → List Int32) (F : Nat → Int32) (P : Nat → Nat) : am_len (heap A F P) 25 = some (Int32.ofNat (A 25).length) := rfl
set_option maxRecDepth 100000 in
theorem hpN_27 (A : Nat → List Int32) (F : Nat → Int32) (P : Nat → Nat) : am_len (heap A F P) 27 = some (Int32.ofNat (A 27).length) := rfl
set_option maxRecDepth 100000 in
theorem hpN_29 (A : Nat → List Int32) (F : Nat → Int32) (P : Nat → Nat) : am_len (heap A F P) 29 = some (Int32.ofNat (A 29).length) := rfl
set_option maxRecDepth 100000 in
theorem hpN_31 (A : Nat → List Int32) (F : Nat → Int32) (P : Nat → Nat) : am_len (heap A F P) 31 = some (Int32.ofNat (A 31).length) := rfl
set_option maxRecDepth 100000 in
theorem hpN_33 (A : Nat → List Int32) (F : Nat → Int32) (P : Nat → Nat) : am_len (heap A F P) 33 = some (Int32.ofNat (A 33).length) := rfl
set_option maxRecDepth 100000 in
theorem hpN_39 (A : Nat → List Int32) (F : Nat → Int32) (P : Nat → Nat) : am_len (heap A F P) 39 = some (Int32.ofNat (A 39).length) := rfl
set_option maxRecDepth 100000 in
theorem hpN_41 (A : Nat → List Int32) (F : Nat → Int32) (P : Nat → Nat) : am_len (heap A F P) 41 = some (Int32.ofNat (A 41).length) := rfl
set_option maxRecDepth 100000 in
theorem hpN_44 (A : Nat → List Int32) (F : Nat → Int32) (P : Nat → Nat) : am_len (heap A F P) 44 = some (Int32.ofNat (A 44).length) := rfl
set_option maxRecDepth 100000 in
theorem hpN_46 (A : Nat → List Int32) (F : Nat → Int32) (P : Nat → Nat) : am_len (heap A F P) 46 = some (Int32.ofNat (A 46).length) := rfl
set_option maxRecDepth 100000 in
theorem hpN_48 (A : Nat → List Int32) (F : Nat → Int32) (P : Nat → Nat) : am_len (heap A F P) 48 = some (Int32.ofNat (A 48).length) := rfl
set_option maxRecDepth 100000 in
theorem hpN_50 (A : Nat → List Int32) (F : Nat → Int32) (P : Nat → Nat) : am_len (heap A F P) 50 = some (Int32.ofNat (A 50).length) := rfl
set_option maxRecDepth 100000 in
theorem hpN_52 (A : Nat → List Int32) (F : Nat → Int32) (P : Nat → Nat) : am_len (heap A F P) 52 = some (Int32.ofNat (A 52).length) := rfl
set_option maxRecDepth 100000 in
theorem hpN_55 (A : Nat → List Int32) (F : Nat → Int32) (P : Nat → Nat) : am_len (heap A F P) 55 = some (Int32.ofNat (A 55).length) := rfl
set_option maxRecDepth 100000 in
theorem hpN_57 (A : Nat → List Int32) (F : Nat → Int32) (P : Nat → Nat) : am_len (heap A F P) 57 = some (Int32.ofNat (A 57).length) := rfl
set_option maxRecDepth 100000 in
theorem hpN_59 (A : Nat → List Int32) (F : Nat → Int32) (P : Nat → Nat) : am_len (heap A F P) 59 = some (Int32.ofNat (A 59).length) := rfl
set_option maxRecDepth 100000 in
theorem hpN_61 (A : Nat → List Int32) (F : Nat → Int32) (P : Nat → Nat) : am_len (heap A F P) 61 = some (Int32.ofNat (A 61).length) := rfl
set_option maxRecDepth 100000 in
theorem hpN_63 (A : Nat → List Int32) (F : Nat → Int32) (P : Nat → Nat) : am_len (heap A F P) 63 = some (Int32.ofNat (A 63).length) := rfl
set_option maxRecDepth 100000 in
theorem hpN_65 (A : Nat → List Int32) (F : Nat → Int32) (P : Nat → Nat) : am_len (heap A F P) 65 = some (Int32.ofNat (A 65).length) := rfl
set_option maxRecDepth 100000 in
theorem hpN_67 (A : Nat → List Int32) (F : Nat → Int32) (P : Nat → Nat) : am_len (heap A F P) 67 = some (Int32.ofNat (A 67).length) := rfl
set_option maxRecDepth 100000 in
theorem hpN_71 (A : Nat → List Int32) (F : Nat → Int32) (P : Nat → Nat) : am_len (heap A F P) 71 = some (Int32.ofNat (A 71).length) := rfl
set_option maxRecDepth 100000 in
theorem hpN_73 (A : Nat → List Int32) (F : Nat → Int32) (P : Nat → Nat) : am_len (heap A F P) 73 = some (Int32.ofNat (A 73).length) := rfl
set_option maxRecDepth 100000 in
theorem hpN_76 (A : Nat → List Int32) (F : Nat → Int32) (P : Nat → Nat) : am_len (heap A F P) 76 = some (Int32.ofNat (A 76).length) := rfl
set_option maxRecDepth 100000 in
theorem hpN_78 (A : Nat → List Int32) (F : Nat → Int32) (P : Nat → Nat) : am_len (heap A F P) 78 = some (Int32.ofNat (A 78).length) := rfl
set_option maxRecDepth 100000 in
theorem hpN_80 (A : Nat → List Int32) (F : Nat → Int32) (P : Nat → Nat) : am_len (heap A F P) 80 = some (Int32.ofNat (A 80).length) := rfl
set_option maxRecDepth 100000 in
theorem hpN_82 (A : Nat → List Int32) (F : Nat → Int32) (P : Nat → Nat) : am_len (heap A F P) 82 = some (Int32.ofNat (A 82).length) := rfl
set_option maxRecDepth 100000 in
theorem hpN_84 (A : Nat → List Int32) (F : Nat → Int32) (P : Nat → Nat) : am_len (heap A F P) 84 = some (Int32.ofNat (A 84).length) := rfl
set_option maxRecDepth 100000 in
theorem hpN_87 (A : Nat → List Int32) (F : Nat → Int32) (P : Nat → Nat) : am_len (heap A F P) 87 = some (Int32.ofNat (A 87).length) := rfl
set_option maxRecDepth 100000 in
theorem hpN_89 (A : Nat → List Int32) (F : Nat → Int32) (P : Nat → Nat) : am_len (heap A F P) 89 = some (Int32.ofNat (A 89).length) := rfl
set_option maxRecDepth 100000 in
theorem hpN_91 (A : Nat → List Int32) (F : Nat → Int32) (P : Nat → Nat) : am_len (heap A F P) 91 = some (Int32.ofNat (A 91).length) := rfl
set_option maxRecDepth 100000 in
theorem hpN_93 (A : Nat → List Int32) (F : Nat → Int32) (P : Nat → Nat) : am_len (heap A F P) 93 = some (Int32.ofNat (A 93).length) := rfl
set_option maxRecDepth 100000 in
theorem hpN_95 (A : Nat → List Int32) (F : Nat → Int32) (P : Nat → Nat) : am_len (heap A F P) 95 = some (Int32.ofNat (A 95).length) := rfl
set_option maxRecDepth 100000 in
theorem hpN_97 (A : Nat → List Int32) (F : Nat → Int32) (P : Nat → Nat) : am_len (heap A F P) 97 = some (Int32.ofNat (A 97).length) := rfl
set_option maxRecDepth 100000 in
theorem hpN_99 (A : Nat → List Int32) (F : Nat → Int32) (P : Nat → Nat) : am_len (heap A F P) 99 = some (Int32.ofNat (A 99).length) := rfl
set_option maxRecDepth 100000 in
theorem hpN_103 (A : Nat → List Int32) (F : Nat → Int32) (P : Nat → Nat) : am_len (heap A F P) 103 = some (Int32.ofNat (A 103).length) := rfl
set_option maxRecDepth 100000 in
theorem hpN_105 (A : Nat → List Int32) (F : Nat → Int32) (P : Nat → Nat) : am_len (heap A F P) 105 = some (Int32.ofNat (A 105).length) := rfl
set_option maxRecDepth 100000 in
theorem hpN_108 (A : Nat → List Int32) (F : Nat → Int32) (P : Nat → Nat) : am_len (heap A F P) 108 = some (Int32.ofNat (A 108).length) := rfl
set_option maxRecDepth 100000 in
theorem hpN_110 (A : Nat → List Int32) (F : Nat → Int32) (P : Nat → Nat) : am_len (heap A F P) 110 = some (Int32.ofNat (A 110).length) := rfl
set_option maxRecDepth 100000 in
theorem hpN_112 (A : Nat → List Int32) (F : Nat → Int32) (P : Nat → Nat) : am_len (heap A F P) 112 = some (Int32.ofNat (A 112).length) := rfl
set_option maxRecDepth 100000 in
theorem hpN_114 (A : Nat → List Int32) (F : Nat → Int32) (P : Nat → Nat) : am_len (heap A F P) 114 = some (Int32.ofNat (A 114).length) := rfl
set_option maxRecDepth 100000 in
theorem hpN_116 (A : Nat → List Int32) (F : Nat → Int32) (P : Nat → Nat) : am_len (heap A F P) 116 = some (Int32.ofNat (A 116).length) := rfl
set_option maxRecDepth 100000 in
theorem hpN_119 (A : Nat → List Int32) (F : Nat → Int32) (P : Nat → Nat) : am_len (heap A F P) 119 = some (Int32.ofNat (A 119).length) := rfl
set_option maxRecDepth 100000 in
theorem hpN_121 (A : Nat → List Int32) (F : Nat → Int32) (P : Nat → Nat) : am_len (heap A F P) 121 = some (Int32.ofNat (A 121).length) := rfl
set_option maxRecDepth 100000 in
theorem hpN_123 (A : Nat → List Int32) (F : Nat → Int32) (P : Nat → Nat) : am_len (heap A F P) 123 = some (Int32.ofNat (A 123).length) := rfl
set_option maxRecDepth 100000 in
theorem hpN_125 (A : Nat → List Int32) (F : Nat → Int32) (P : Nat → Nat) : am_len (heap A F P) 125 = some (Int32.ofNat (A 125).length) := rfl
set_option maxRecDepth 100000 in
theorem hpN_127 (A : Nat → List Int32) (F : Nat → Int32) (P : Nat → Nat) : am_len (heap A F P) 127 = some (Int32.ofNat (A 127).length) := rfl
set_option maxRecDepth 100000 in
theorem hpN_129 (A : Nat → List Int32) (F : Nat → Int32) (P : Nat → Nat) : am_len (heap A F P) 129 = some (Int32.ofNat (A 129).length) := rfl
set_option maxRecDepth 100000 in
theorem hpN_131 (A : Nat → List Int32) (F : Nat → Int32) (P : Nat → Nat) : am_len (heap A F P) 131 = some (Int32.ofNat (A 131).length) := rfl
set_option maxRecDepth 100000 in
theorem hpN_135 (A : Nat → List Int32) (F : Nat → Int32) (P : Nat → Nat) : am_len (heap A F P) 135 = some (Int32.ofNat (A 135).length) := rfl
set_option maxRecDepth 100000 in
theorem hpN_137 (A : Nat → List Int32) (F : Nat → Int32) (P : Nat → Nat) : am_len (heap A F P) 137 = some (Int32.ofNat (A 137).length) := rfl
set_option maxRecDepth 100000 in
theorem hpN_140 (A : Nat → List Int32) (F : Nat → Int32) (P : Nat → Nat) : am_len (heap A F P) 140 = some (Int32.ofNat (A 140).length) := rfl
set_option maxRecDepth 100000 in
theorem hpN_142 (A : Nat → List Int32) (F : Nat → Int32) (P : Nat → Nat) : am_len (heap A F P) 142 = some (Int32.ofNat (A 142).length) := rfl
set_option maxRecDepth 100000 in
theorem hpN_144 (A : Nat → List Int32) (F : Nat → Int32) (P : Nat → Nat) : am_len (heap A F P) 144 = some (Int32.ofNat (A 144).length) := rfl
set_option maxRecDepth 100000 in
theorem hpN_146 (A : Nat → List Int32) (F : Nat → Int32) (P : Nat → Nat) : am_len (heap A F P) 146 = some (Int32.ofNat (A 146).length) := rfl
set_option maxRecDepth 100000 in
theorem hpN_148 (A : Nat → List Int32) (F : Nat → Int32) (P : Nat → Nat) : am_len (heap A F P) 148 = some (Int32.ofNat (A 148).length) := rfl
set_option maxRecDepth 100000 in
theorem hpN_151 (A : Nat → List Int32) (F : Nat → Int32) (P : Nat → Nat) : am_len (heap A F P) 151 = some (Int32.ofNat (A 151).length) := rfl
set_option maxRecDepth 100000 in
theorem hpN_153 (A : Nat → List Int32) (F : Nat → Int32) (P : Nat → Nat) : am_len (heap A F P) 153 = some (Int32.ofNat (A 153).length) := rfl
set_option maxRecDepth 100000 in
theorem hpN_155 (A : Nat → List Int32) (F : Nat → Int32) (P : Nat → Nat) : am_len (heap A F P) 155 = some (Int32.ofNat (A 155).length) := rfl
set_option maxRecDepth 100000 in
theorem hpN_157 (A : Nat → List Int32) (F : Nat → Int32) (P : Nat → Nat) : am_len (heap A F P) 157 = some (Int32.ofNat (A 157).length) := rfl
set_option maxRecDepth 100000 in
theorem hpN_159 (A : Nat → List Int32) (F : Nat → Int32) (P : Nat → Nat) : am_len (heap A F P) 159 = some (Int32.ofNat (A 159).length) := rfl
set_option maxRecDepth 100000 in
theorem hpN_161 (A : Nat → List Int32) (F : Nat → Int32) (P : Nat → Nat) : am_len (heap A F P) 161 = some (Int32.ofNat (A 161).length) := rfl
set_option maxRecDepth 100000 in
theorem hpN_163 (A : Nat → List Int32) (F : Nat → Int32) (P : Nat → Nat) : am_len (heap A F P) 163 = some (Int32.ofNat (A 163).length) := rfl
set_option maxRecDepth 100000 in
theorem hpN_166 (A : Nat → List Int32) (F : Nat → Int32) (P : Nat → Nat) : am_len (heap A F P) 166 = some (Int32.ofNat (A 166).length) := rfl
set_option maxRecDepth 100000 in
theorem hpN_168 (A : Nat → List Int32) (F : Nat → Int32) (P : Nat → Nat) : am_len (heap A F P) 168 = some (Int32.ofNat (A 168).length) := rfl
set_option maxRecDepth 100000 in
theorem hpN_170 (A : Nat → List Int32) (F : Nat → Int32) (P : Nat → Nat) : am_len (heap A F P) 170 = some (Int32.ofNat (A 170).length) := rfl
set_option maxRecDepth 100000 in
theorem hpN_172 (A : Nat → List Int32) (F : Nat → Int32) (P : Nat → Nat) : am_len (heap A F P) 172 = some (Int32.ofNat (A 172).length) := rfl
set_option maxRecDepth 100000 in
theorem hpN_174 (A : Nat → List Int32) (F : Nat → Int32) (P : Nat → Nat) : am_len (heap A F P) 174 = some (Int32.ofNat (A 174).length) := rfl
set_option maxRecDepth 100000 in
theorem hpN_176 (A : Nat → List Int32) (F : Nat → Int32) (P : Nat → Nat) : am_len (heap A F P) 176 = some (Int32.ofNat (A 176).length) := rfl
set_option maxRecDepth 100000 in
theorem hpN_178 (A : Nat → List Int32) (F : Nat → Int32) (P : Nat → Nat) : am_len (heap A F P) 178 = some (Int32.ofNat (A 178).length) := rfl
set_option maxRecDepth 100000 in
theorem hpN_180 (A : Nat → List Int32) (F : Nat → Int32) (P : Nat → Nat) : am_len (heap A F P) 180 = some (Int32.ofNat (A 180).length) := rfl
set_option maxRecDepth 100000 in
theorem hpN_182 (A : Nat → List Int32) (F : Nat → Int32) (P : Nat → Nat) : am_len (heap A F P) 182 = some (Int32.ofNat (A 182).length) := rfl
set_option maxRecDepth 100000 in
theorem hpN_185 (A : Nat → List Int32) (F : Nat → Int32) (P : Nat → Nat) : am_len (heap A F P) 185 = some (Int32.ofNat (A 185).length) := rfl
set_option maxRecDepth 100000 in
theorem hpN_187 (A : Nat → List Int32) (F : Nat → Int32) (P : Nat → Nat) : am_len (heap A F P) 187 = some (Int32.ofNat (A 187).length) := rfl
set_option maxRecDepth 100000 in
theorem hpN_189 (A : Nat → List Int32) (F : Nat → Int32) (P : Nat → Nat) : am_len (heap A F P) 189 = some (Int32.ofNat (A 189).length) := rfl
set_option maxRecDepth 100000 in
theorem hpN_191 (A : Nat → List Int32) (F : Nat → Int32) (P : Nat → Nat) : am_len (heap A F P) 191 = some (Int32.ofNat (A 191).length) := rfl
set_option maxRecDepth 100000 in
theorem hpN_193 (A : Nat → List Int32) (F : Nat → Int32) (P : Nat → Nat) : am_len (heap A F P) 193 = some (Int32.ofNat (A 193).length) := rfl
set_option maxRecDepth 100000 in
theorem hpN_194 (A : Nat → List Int32) (F : Nat → Int32) (P : Nat → Nat) : am_len (heap A F P) 194 = some (Int32.ofNat (A 194).length) := rfl
set_option maxRecDepth 100000 in
theorem hpN_195 (A : Nat → List Int32) (F : Nat → Int32) (P : Nat → Nat) : am_len (heap A F P) 195 = some (Int32.ofNat (A 195).length) := rfl
set_option maxRecDepth 100000 in
theorem hpN_196 (A : Nat → List Int32) (F : Nat → Int32) (P : Nat → Nat) : am_len (heap A F P) 196 = some (Int32.ofNat (A 196).length) := rfl
set_option maxRecDepth 100000 in
theorem hpN_197 (A : Nat → List Int32) (F : Nat → Int32) (P : Nat → Nat) : am_len (heap A F P) 197 = some (Int32.ofNat (A 197).length) := rfl
set_option maxRecDepth 100000 in
theorem hpN_198 (A : Nat → List Int32) (F : Nat → Int32) (P : Nat → Nat) : am_len (heap A F P) 198 = some (Int32.ofNat (A 198).length) := rfl
set_option maxRecDepth 100000 in
theorem hpN_199 (A : Nat → List Int32) (F : Nat → Int32) (P : Nat → Nat) : am_len (heap A F P) 199 = some (Int32.ofNat (A 199).length) := rfl
set_option maxRecDepth 100000 in
theorem hpN_200 (A : Nat → List Int32) (F : Nat → Int32) (P : Nat → Nat) : am_len (heap A F P) 200 = some (Int32.ofNat (A 200).length) := rfl
set_option maxRecDepth 100000 in
theorem hpN_201 (A : Nat → List Int32) (F : Nat → Int32) (P : Nat → Nat) : am_len (heap A F P) 201 = some (Int32.ofNat (A 201).length) := rfl
set_option maxRecDepth 100000 in
theorem hpN_202 (A : Nat → List Int32) (F : Nat → Int32) (P : Nat → Nat) : am_len (heap A F P) 202 = some (Int32.ofNat (A 202).length) := rfl
set_option maxRecDepth 100000 in
theorem hpN_203 (A : Nat → List Int32) (F : Nat → Int32) (P : Nat → Nat) : am_len (heap A F P) 203 = some (Int32.ofNat (A 203).length) := rfl
set_option maxRecDepth 100000 in
theorem hpN_204 (A : Nat → List Int32) (F : Nat → Int32) (P : Nat → Nat) : am_len (heap A F P) 204 = some (Int32.ofNat (A 204).length) := rfl
set_option maxRecDepth 100000 in
theorem hpN_205 (A : Nat → List Int32) (F : Nat → Int32) (P : Nat → Nat) : am_len (heap A F P) 205 = some (Int32.ofNat (A 205).length) := rfl
theorem hpNX : (∀ (A : Nat → List Int32) (F : Nat → Int32) (P : Nat → Nat), am_len (heap A F P) 5 = some (Int32.ofNat (A 5).length)) ∧ (∀ (A : Nat → List Int32) (F : Nat → Int32) (P : Nat → Nat), am_len (heap A F P) 7 = some (Int32.ofNat (A 7).length)) ∧ (∀ (A : Nat → List Int32) (F : Nat → Int32) (P : Nat → Nat), am_len (heap A F P) 10 = some (Int32.ofNat (A 10).length)) ∧ (∀ (A : Nat → List Int32) (F : Nat → Int32) (P : Nat → Nat), am_len (heap A F P) 12 = some (Int32.ofNat (A 12).length)) ∧ (∀ (A : Nat → List Int32) (F : Nat → Int32) (P : Nat → Nat), am_len (heap A F P) 14 = some (Int32.ofNat (A 14).length)) ∧ (∀ (A : Nat → List Int32) (F : Nat → Int32) (P : Nat → Nat), am_len (heap A F P) 16 = some (Int32.ofNat (A 16).length)) ∧ (∀ (A : Nat → List Int32) (F : Nat → Int32) (P : Nat → Nat), am_len (heap A F P) 18 = some (Int32.ofNat (A 18).length)) ∧ (∀ (A : Nat → List Int32) (F : Nat → Int32) (P : Nat → Nat), am_len (heap A F P) 21 = some (Int32.ofNat (A 21).length)) ∧ (∀ (A : Nat → List Int32) (F : Nat → Int32) (P : Nat → Nat), am_len (heap A F P) 23 = some (Int32.ofNat (A 23).length)) ∧ (∀ (A : Nat → List Int32) (F : Nat → Int32) (P : Nat → Nat), am_len (heap A F P) 25 = some (Int32.ofNat (A 25).length)) ∧ (∀ (A : Nat → List Int32) (F : Nat → Int32) (P : Nat → Nat), am_len (heap A F P) 27 = some (Int32.ofNat (A 27).length)) ∧ (∀ (A : Nat → List Int32) (F : Nat → Int32) (P : Nat → Nat), am_len (heap A F P) 29 = some (Int32.ofNat (A 29).length)) ∧ (∀ (A : Nat → List Int32) (F : Nat → Int32) (P : Nat → Nat), am_len (heap A F P) 31 = some (Int32.ofNat (A 31).length)) ∧ (∀ (A : Nat → List Int32) (F : Nat → Int32) (P : Nat → Nat), am_len (heap A F P) 33 = some (Int32.ofNat (A 33).length)) ∧ (∀ (A : Nat → List Int32) (F : Nat → Int32) (P : Nat → Nat), am_len (heap A F P) 166 = some (Int32.ofNat (A 166).length)) ∧ (∀ (A : Nat → List Int32) (F : Nat → Int32) (P : Nat → Nat), am_len (heap A F P) 168 = some (Int32.ofNat (A 168).length)) ∧ (∀ (A : Nat → List Int32) (F : Nat → Int32) (P : Nat → Nat), am_len (heap A F P) 170 = some (Int32.ofNat (A 170).length)) ∧ (∀ (A : Nat → List Int32) (F : Nat → Int32) (P : Nat → Nat), am_len (heap A F P) 172 = some (Int32.ofNat (A 172).length)) ∧ (∀ (A : Nat → List Int32) (F : Nat → Int32) (P : Nat → Nat), am_len (heap A F P) 174 = some (Int32.ofNat (A 174).length)) ∧ (∀ (A : Nat → List Int32) (F : Nat → Int32) (P : Nat → Nat), am_len (heap A F P) 176 = some (Int32.ofNat (A 176).length)) ∧ (∀ (A : Nat → List Int32) (F : Nat → Int32) (P : Nat → Nat), am_len (heap A F P) 178 = some (Int32.ofNat (A 178).length)) ∧ (∀ (A : Nat → List Int32) (F : Nat → Int32) (P : Nat → Nat), am_len (heap A F P) 180 = some (Int32.ofNat (A 180).length)) ∧ (∀ (A : Nat → List Int32) (F : Nat → Int32) (P : Nat → Nat), am_len (heap A F P) 182 = some (Int32.ofNat (A 182).length)) ∧ (∀ (A : Nat → List Int32) (F : Nat → Int32) (P : Nat → Nat), am_len (heap A F P) 185 = some (Int32.ofNat (A 185).length)) ∧ (∀ (A : Nat → List Int32) (F : Nat → Int32) (P : Nat → Nat), am_len (heap A F P) 187 = some (Int32.ofNat (A 187).length)) ∧ (∀ (A : Nat → List Int32) (F : Nat → Int32) (P : Nat → Nat), am_len (heap A F P) 189 = some (Int32.ofNat (A 189).length)) ∧ (∀ (A : Nat → List Int32) (F : Nat → Int32) (P : Nat → Nat), am_len (heap A F P) 191 = some (Int32.ofNat (A 191).length)) := ⟨hpN_5, hpN_7, hpN_10, hpN_12, hpN_14, hpN_16, hpN_18, hpN_21, hpN_23, hpN_25, hpN_27, hpN_29, hpN_31, hpN_33, hpN_166, hpN_168, hpN_170, hpN_172, hpN_174, hpN_176, hpN_178, hpN_180, hpN_182, hpN_185, hpN_187, hpN_189, hpN_191⟩
theorem hpNM : (∀ (A : Nat → List Int32) (F : Nat → Int32) (P : Nat → Nat), am_len (heap A F P) 193 = some (Int32.ofNat (A 193).length)) ∧ (∀ (A : Nat → List Int32) (F : Nat → Int32) (P : Nat → Nat), am_len (heap A F P) 194 = some (Int32.ofNat (A 194).length)) ∧ (∀ (A : Nat → List Int32) (F : Nat → Int32) (P : Nat → Nat), am_len (heap A F P) 195 = some (Int32.ofNat (A 195).length)) ∧ (∀ (A : Nat → List Int32) (F : Nat → Int32) (P : Nat → Nat), am_len (heap A F P) 196 = some (Int32.ofNat (A 196).length)) ∧ (∀ (A : Nat → List Int32) (F : Nat → Int32) (P : Nat → Nat), am_len (heap A F P) 197 = some (Int32.ofNat (A 197).length)) ∧ (∀ (A : Nat → List Int32) (F : Nat → Int32) (P : Nat → Nat), am_len (heap A F P) 198 = some (Int32.ofNat (A 198).length)) ∧ (∀ (A : Nat → List Int32) (F : Nat → Int32) (P : Nat → Nat), am_len (heap A F P) 199 = some (Int32.ofNat (A 199).length)) ∧ (∀ (A : Nat → List Int32) (F : Nat → Int32) (P : Nat → Nat), am_len (heap A F P) 200 = some (Int32.ofNat (A 200).length)) ∧ (∀ (A : Nat → List Int32) (F : Nat → Int32) (P : Nat → Nat), am_len (heap A F P) 201 = some (Int32.ofNat (A 201).length)) ∧ (∀ (A : Nat → List Int32) (F : Nat → Int32) (P : Nat → Nat), am_len (heap A F P) 202 = some (Int32.ofNat (A 202).length)) ∧ (∀ (A : Nat → List Int32) (F : Nat → Int32) (P : Nat → Nat), am_len (heap A F P) 203 = some (Int32.ofNat (A 203).length)) ∧ (∀ (A : Nat → List Int32) (F : Nat → Int32) (P : Nat → Nat), am_len (heap A F P) 204 = some (Int32.ofNat (A 204).length)) ∧ (∀ (A : Nat → List Int32) (F : Nat → Int32) (P : Nat → Nat), am_len (heap A F P) 205 = some (Int32.ofNat (A 205).length)) := ⟨hpN_193, hpN_194, hpN_195, hpN_196, hpN_197, hpN_198, hpN_199, hpN_200, hpN_201, hpN_202, hpN_203, hpN_204, hpN_205⟩
theorem hpNY : (∀ (A : Nat → List Int32) (F : Nat → Int32) (P : Nat → Nat), am_len (heap A F P) 39 = some (Int32.ofNat (A 39).length)) ∧ (∀ (A : Nat → List Int32) (F : Nat → Int32) (P : Nat → Nat), am_len (heap A F P) 41 = some (Int32.ofNat (A 41).length)) ∧ (∀ (A : Nat → List Int32) (F : Nat → Int32) (P : Nat → Nat), am_len (heap A F P) 44 = some (Int32.ofNat (A 44).length)) ∧ (∀ (A : Nat → List Int32) (F : Nat → Int32) (P : Nat → Nat), am_len (heap A F P) 46 = some (Int32.ofNat (A 46).length)) ∧ (∀ (A : Nat → List Int32) (F : Nat → Int32) (P : Nat → Nat), am_len (heap A F P) 48 = some (Int32.ofNat (A 48).length)) ∧ (∀ (A : Nat → List Int32) (F : Nat → Int32) (P : Nat → Nat), am_len (heap A F P) 50 = some (Int32.ofNat (A 50).length)) ∧ (∀ (A : Nat → List Int32) (F : Nat → Int32) (P : Nat → Nat), am_len (heap A F P) 52 = some (Int32.ofNat (A 52).length)) ∧ (∀ (A : Nat → List Int32) (F : Nat → Int32) (P : Nat → Nat), am_len (heap A F P) 55 = some (Int32.ofNat (A 55).length)) ∧ (∀ (A : Nat → List Int32) (F : Nat → Int32) (P : Nat → Nat), am_len (heap A F P) 57 = some (Int32.ofNat (A 57).length)) ∧ (∀ (A : Nat → List Int32) (F : Nat → Int32) (P : Nat → Nat), am_len (heap A F P) 59 = some (Int32.ofNat (A 59).length)) ∧ (∀ (A : Nat → List Int32) (F : Nat → Int32) (P : Nat → Nat), am_len (heap A F P) 61 = some (Int32.ofNat (A 61).length)) ∧ (∀ (A : Nat → List Int32) (F : Nat → Int32) (P : Nat → Nat), am_len (heap A F P) 63 = some (Int32.ofNat (A 63).length)) ∧ (∀ (A : Nat → List Int32) (F : Nat → Int32) (P : Nat → Nat), am_len (heap A F P) 65 = some (Int32.ofNat (A 65).length)) ∧ (∀ (A : Nat → List Int32) (F : Nat → Int32) (P : Nat → Nat), am_len (heap A F P) 67 = some (Int32.ofNat (A 67).length)) ∧ (∀ (A : Nat → List Int32) (F : Nat → Int32) (P : Nat → Nat), am_len (heap A F P) 71 = some (Int32.ofNat (A 71).length)) ∧ (∀ (A : Nat → List Int32) (F : Nat → Int32) (P : Nat → Nat), am_len (heap A F P) 73 = some (Int32.ofNat (A 73).length)) ∧ (∀ (A : Nat → List Int32) (F : Nat → Int32) (P : Nat → Nat), am_len (heap A F P) 76 = some (Int32.ofNat (A 76).length)) ∧ (∀ (A : Nat → List Int32) (F : Nat → Int32) (P : Nat → Nat), am_len (heap A F P) 78 = some (Int32.ofNat (A 78).length)) ∧ (∀ (A : Nat → List Int32) (F : Nat → Int32) (P : Nat → Nat), am_len (heap A F P) 80 = some (Int32.ofNat (A 80).length)) ∧ (∀ (A : Nat → List Int32) (F : Nat → Int32) (P : Nat → Nat), am_len (heap A F P) 82 = some (Int32.ofNat (A 82).length)) ∧ (∀ (A : Nat → List Int32) (F : Nat → Int32) (P : Nat → Nat), am_len (heap A F P) 84 = some (Int32.ofNat (A 84).length)) ∧ (∀ (A : Nat → List Int32) (F : Nat → Int32) (P : Nat → Nat), am_len (heap A F P) 87 = some (Int32.ofNat (A 87).length)) ∧ (∀ (A : Nat → List Int32) (F : Nat → Int32) (P : Nat → Nat), am_len (heap A F P) 89 = some (Int32.ofNat (A 89).length)) ∧ (∀ (A : Nat → List Int32) (F : Nat → Int32) (P : Nat → Nat), am_len (heap A F P) 91 = some (Int32.ofNat (A 91).length)) ∧ (∀ (A : Nat → List Int32) (F : Nat → Int32) (P : Nat → Nat), am_len (heap A F P) 93 = some (Int32.ofNat (A 93).length)) ∧ (∀ (A : Nat → List Int32) (F : Nat → Int32) (P : Nat → Nat), am_len (heap A F P) 95 = some (Int32.ofNat (A 95).length)) ∧ (∀ (A : Nat → List Int32) (F : Nat → Int32) (P : Nat → Nat), am_len (heap A F P) 97 = some (Int32.ofNat (A 97).length)) ∧ (∀ (A : Nat → List Int32) (F : Nat → Int32) (P : Nat → Nat), am_len (heap A F P) 99 = some (Int32.ofNat (A 99).length)) ∧ (∀ (A : Nat → List Int32) (F : Nat → Int32) (P : Nat → Nat), am_len (heap A F P) 103 = some (Int32.ofNat (A 103).length)) ∧ (∀ (A : Nat → List Int32) (F : Nat → Int32) (P : Nat → Nat), am_len (heap A F P) 105 = some (Int32.ofNat (A 105).length)) ∧ (∀ (A : Nat → List Int32) (F : Nat → Int32) (P : Nat → Nat), am_len (heap A F P) 108 = some (Int32.ofNat (A 108).length)) ∧ (∀ (A : Nat → List Int32) (F : Nat → Int32) (P : Nat → Nat), am_len (heap A F P) 110 = some (Int32.ofNat (A 110).length)) ∧ (∀ (A : Nat → List Int32) (F : Nat → Int32) (P : Nat → Nat), am_len (heap A F P) 112 = some (Int32.ofNat (A 112).length)) ∧ (∀ (A : Nat → List Int32) (F : Nat → Int32) (P : Nat → Nat), am_len (heap A F P) 114 = some (Int32.ofNat (A 114).length)) ∧ (∀ (A : Nat → List Int32) (F : Nat → Int32) (P : Nat → Nat), am_len (heap A F P) 116 = some (Int32.ofNat (A 116).length)) ∧ (∀ (A : Nat → List Int32) (F : Nat → Int32) (P : Nat → Nat), am_len (heap A F P) 119 = some (Int32.ofNat (A 119).length)) ∧ (∀ (A : Nat → List Int32) (F : Nat → Int32) (P : Nat → Nat), am_len (heap A F P) 121 = some (Int32.ofNat (A 121).length)) ∧ (∀ (A : Nat → List Int32) (F : Nat → Int32) (P : Nat → Nat), am_len (heap A F P) 123 = some (Int32.ofNat (A 123).length)) ∧ (∀ (A : Nat → List Int32) (F : Nat → Int32) (P : Nat → Nat), am_len (heap A F P) 125 = some (Int32.ofNat (A 125).length)) ∧ (∀ (A : Nat → List Int32) (F : Nat → Int32) (P : Nat → Nat), am_len (heap A F P) 127 = some (Int32.ofNat (A 127).length)) ∧ (∀ (A : Nat → List Int32) (F : Nat → Int32) (P : Nat → Nat), am_len (heap A F P) 129 = some (Int32.ofNat (A 129).length)) ∧ (∀ (A : Nat → List Int32) (F : Nat → Int32) (P : Nat → Nat), am_len (heap A F P) 131 = some (Int32.ofNat (A 131).length)) ∧ (∀ (A : Nat → List Int32) (F : Nat → Int32) (P : Nat → Nat), am_len (heap A F P) 135 = some (Int32.ofNat (A 135).length)) ∧ (∀ (A : Nat → List Int32) (F : Nat → Int32) (P : Nat → Nat), am_len (heap A F P) 137 = some (Int32.ofNat (A 137).length)) ∧ (∀ (A : Nat → List Int32) (F : Nat → Int32) (P : Nat → Nat), am_len (heap A F P) 140 = some (Int32.ofNat (A 140).length)) ∧ (∀ (A : Nat → List Int32) (F : Nat → Int32) (P : Nat → Nat), am_len (heap A F P) 142 = some (Int32.ofNat (A 142).length)) ∧ (∀ (A : Nat → List Int32) (F : Nat → Int32) (P : Nat → Nat), am_len (heap A F P) 144 = some (Int32.ofNat (A 144).length)) ∧ (∀ (A : Nat → List Int32) (F : Nat → Int32) (P : Nat → Nat), am_len (heap A F P) 146 = some (Int32.ofNat (A 146).length)) ∧ (∀ (A : Nat → List Int32) (F : Nat → Int32) (P : Nat → Nat), am_len (heap A F P) 148 = some (Int32.ofNat (A 148).length)) ∧ (∀ (A : Nat → List Int32) (F : Nat → Int32) (P : Nat → Nat), am_len (heap A F P) 151 = some (Int32.ofNat (A 151).length)) ∧ (∀ (A : Nat → List Int32) (F : Nat → Int32) (P : Nat → Nat), am_len (heap A F P) 153 = some (Int32.ofNat (A 153).length)) ∧ (∀ (A : Nat → List Int32) (F : Nat → Int32) (P : Nat → Nat), am_len (heap A F P) 155 = some (Int32.ofNat (A 155).length)) ∧ (∀ (A : Nat → List Int32) (F : Nat → Int32) (P : Nat → Nat), am_len (heap A F P) 157 = some (Int32.ofNat (A 157).length)) ∧ (∀ (A : Nat → List Int32) (F : Nat → Int32) (P : Nat → Nat), am_len (heap A F P) 159 = some (Int32.ofNat (A 159).length)) ∧ (∀ (A : Nat → List Int32) (F : Nat → Int32) (P : Nat → Nat), am_len (heap A F P) 161 = some (Int32.ofNat (A 161).length)) ∧ (∀ (A : Nat → List Int32) (F : Nat → Int32) (P : Nat → Nat), am_len (heap A F P) 163 = some (Int32.ofNat (A 163).length)) := ⟨hpN_39, hpN_41, hpN_44, hpN_46, hpN_48, hpN_50, hpN_52, hpN_55, hpN_57, hpN_59, hpN_61, hpN_63, hpN_65, hpN_67, hpN_71, hpN_73, hpN_76, hpN_78, hpN_80, hpN_82, hpN_84, hpN_87, hpN_89, hpN_91, hpN_93, hpN_95, hpN_97, hpN_99, hpN_103, hpN_105, hpN_108, hpN_110, hpN_112, hpN_114, hpN_116, hpN_119, hpN_121, hpN_123, hpN_125, hpN_127, hpN_129, hpN_131, hpN_135, hpN_137, hpN_140, hpN_142, hpN_144, hpN_146, hpN_148, hpN_151, hpN_153, hpN_155, hpN_157, hpN_159, hpN_161, hpN_163⟩
set_option maxRecDepth 100000 in
theorem hpL_5 (A : Nat → List Int32) (F : Nat → Int32) (P : Nat → Nat) (i : Int32) : am_al (heap A F P) 0 5 i = bif am_in i (A 5).length then (A 5)[i.toNatClampNeg]? else none := rfl
set_option maxRecDepth 100000 in
theorem hpL_7 (A : Nat → List Int32) (F : Nat → Int32) (P : Nat → Nat) (i : Int32) : am_al (heap A F P) 0 7 i = bif am_in i (A 7).length then (A 7)[i.toNatClampNeg]? else none := rfl
set_option maxRecDepth 100000 in
theorem hpL_10 (A : Nat → List Int32) (F : Nat → Int32) (P : Nat → Nat) (i : Int32) : am_al (heap A F P) 0 10 i = bif am_in i (A 10).length then (A 10)[i.toNatClampNeg]? else none := rfl
set_option maxRecDepth 100000 in
theorem hpL_12 (A : Nat → List Int32) (F : Nat → Int32) (P : Nat → Nat) (i : Int32) : am_al (heap A F P) 0 12 i = bif am_in i (A 12).length then (A 12)[i.toNatClampNeg]? else none := rfl
set_option maxRecDepth 100000 in
theorem hpL_14 (A : Nat → List Int32) (F : Nat → Int32) (P : Nat → Nat) (i : Int32) : am_al (heap A F P) 0 14 i = bif am_in i (A 14).length then (A 14)[i.toNatClampNeg]? else none := rfl
set_option maxRecDepth 100000 in
theorem hpL_16 (A : Nat → List Int32) (F : Nat → Int32) (P : Nat → Nat) (i : Int32) : am_al (heap A F P) 0 16 i = bif am_in i (A 16).length then (A 16)[i.toNatClampNeg]? else none := rfl
set_option maxRecDepth 100000 in
theorem hpL_18 (A : Nat → List Int32) (F : Nat → Int32) (P : Nat → Nat) (i : Int32) : am_al (heap A F P) 0 18 i = bif am_in i (A 18).length then (A 18)[i.toNatClampNeg]? else none := rfl
set_option maxRecDepth 100000 in
theorem hpL_21 (A : Nat → List Int32) (F : Nat → Int32) (P : Nat → Nat) (i : Int32) : am_al (heap A F P) 0 21 i = bif am_in i (A 21).length then (A 21)[i.toNatClampNeg]? else none := rfl
set_option maxRecDepth 100000 in
theorem hpL_23 (A : Nat → List Int32) (F : Nat → Int32) (P : Nat → Nat) (i : Int32) : am_al (heap A F P) 0 23 i = bif am_in i (A 23).length then (A 23)[i.toNatClampNeg]? else none := rfl
set_option maxRecDepth 100000 in
theorem hpL_25 (A : Nat → List Int32) (F : Nat → Int32) (P : Nat → Nat) (i : Int32) : am_al (heap A F P) 0 25 i = bif am_in i (A 25).length then (A 25)[i.toNatClampNeg]? else none := rfl
set_option maxRecDepth 100000 in
theorem hpL_27 (A : Nat → List Int32) (F : Nat → Int32) (P : Nat → Nat) (i : Int32) : am_al (heap A F P) 0 27 i = bif am_in i (A 27).length then (A 27)[i.toNatClampNeg]? else none := rfl
set_option maxRecDepth 100000 in
theorem hpL_29 (A : Nat → List Int32) (F : Nat → Int32) (P : Nat → Nat) (i : Int32) : am_al (heap A F P) 0 29 i = bif am_in i (A 29).length then (A 29)[i.toNatClampNeg]? else none := rfl
set_option maxRecDepth 100000 in
theorem hpL_31 (A : Nat → List Int32) (F : Nat → Int32) (P : Nat → Nat) (i : Int32) : am_al (heap A F P) 0 31 i = bif am_in i (A 31).length then (A 31)[i.toNatClampNeg]? else none := rfl
set_option maxRecDepth 100000 in
theorem hpL_33 (A : Nat → List Int32) (F : Nat → Int32) (P : Nat → Nat) (i : Int32) : am_al (heap A F P) 0 33 i = bif am_in i (A 33).length then (A 33)[i.toNatClampNeg]? else none := rfl
set_option maxRecDepth 100000 in
theorem hpL_39 (A : Nat → List Int32) (F : Nat → Int32) (P : Nat → Nat) (i : Int32) : am_al (heap A F P) 0 39 i = bif am_in i (A 39).length then (A 39)[i.toNatClampNeg]? else none := rfl
set_option maxRecDepth 100000 in
theorem hpL_41 (A : Nat → List Int32) (F : Nat → Int32) (P : Nat → Nat) (i : Int32) : am_al (heap A F P) 0 41 i = bif am_in i (A 41).length then (A 41)[i.toNatClampNeg]? else none := rfl
set_option maxRecDepth 100000 in
theorem hpL_44 (A : Nat → List Int32) (F : Nat → Int32) (P : Nat → Nat) (i : Int32) : am_al (heap A F P) 0 44 i = bif am_in i (A 44).length then (A 44)[i.toNatClampNeg]? else none := rfl
set_option maxRecDepth 100000 in
theorem hpL_46 (A : Nat → List Int32) (F : Nat → Int32) (P : Nat → Nat) (i : Int32) : am_al (heap A F P) 0 46 i = bif am_in i (A 46).length then (A 46)[i.toNatClampNeg]? else none := rfl
set_option maxRecDepth 100000 in
theorem hpL_48 (A : Nat → List Int32) (F : Nat → Int32) (P : Nat → Nat) (i : Int32) : am_al (heap A F P) 0 48 i = bif am_in i (A 48).length then (A 48)[i.toNatClampNeg]? else none := rfl
set_option maxRecDepth 100000 in
theorem hpL_50 (A : Nat → List Int32) (F : Nat → Int32) (P : Nat → Nat) (i : Int32) : am_al (heap A F P) 0 50 i = bif am_in i (A 50).length then (A 50)[i.toNatClampNeg]? else none := rfl
set_option maxRecDepth 100000 in
theorem hpL_52 (A : Nat → List Int32) (F : Nat → Int32) (P : Nat → Nat) (i : Int32) : am_al (heap A F P) 0 52 i = bif am_in i (A 52).length then (A 52)[i.toNatClampNeg]? else none := rfl
set_option maxRecDepth 100000 in
theorem hpL_55 (A : Nat → List Int32) (F : Nat → Int32) (P : Nat → Nat) (i : Int32) : am_al (heap A F P) 0 55 i = bif am_in i (A 55).length then (A 55)[i.toNatClampNeg]? else none := rfl
set_option maxRecDepth 100000 in
theorem hpL_57 (A : Nat → List Int32) (F : Nat → Int32) (P : Nat → Nat) (i : Int32) : am_al (heap A F P) 0 57 i = bif am_in i (A 57).length then (A 57)[i.toNatClampNeg]? else none := rfl
set_option maxRecDepth 100000 in
theorem hpL_59 (A : Nat → List Int32) (F : Nat → Int32) (P : Nat → Nat) (i : Int32) : am_al (heap A F P) 0 59 i = bif am_in i (A 59).length then (A 59)[i.toNatClampNeg]? else none := rfl
set_option maxRecDepth 100000 in
theorem hpL_61 (A : Nat → List Int32) (F : Nat → Int32) (P : Nat → Nat) (i : Int32) : am_al (heap A F P) 0 61 i = bif am_in i (A 61).length then (A 61)[i.toNatClampNeg]? else none := rfl
set_option maxRecDepth 100000 in
theorem hpL_63 (A : Nat → List Int32) (F : Nat → Int32) (P : Nat → Nat) (i : Int32) : am_al (heap A F P) 0 63 i = bif am_in i (A 63).length then (A 63)[i.toNatClampNeg]? else none := rfl
set_option maxRecDepth 100000 in
theorem hpL_65 (A : Nat → List Int32) (F : Nat → Int32) (P : Nat → Nat) (i : Int32) : am_al (heap A F P) 0 65 i = bif am_in i (A 65).length then (A 65)[i.toNatClampNeg]? else none := rfl
set_option maxRecDepth 100000 in
theorem hpL_67 (A : Nat → List Int32) (F : Nat → Int32) (P : Nat → Nat) (i : Int32) : am_al (heap A F P) 0 67 i = bif am_in i (A 67).length then (A 67)[i.toNatClampNeg]? else none := rfl
set_option maxRecDepth 100000 in
theorem hpL_71 (A : Nat → List Int32) (F : Nat → Int32) (P : Nat → Nat) (i : Int32) : am_al (heap A F P) 0 71 i = bif am_in i (A 71).length then (A 71)[i.toNatClampNeg]? else none := rfl
set_option maxRecDepth 100000 in
theorem hpL_73 (A : Nat → List Int32) (F : Nat → Int32) (P : Nat → Nat) (i : Int32) : am_al (heap A F P) 0 73 i = bif am_in i (A 73).length then (A 73)[i.toNatClampNeg]? else none := rfl
set_option maxRecDepth 100000 in
theorem hpL_76 (A : Nat → List Int32) (F : Nat → Int32) (P : Nat → Nat) (i : Int32) : am_al (heap A F P) 0 76 i = bif am_in i (A 76).length then (A 76)[i.toNatClampNeg]? else none := rfl
set_option maxRecDepth 100000 in
theorem hpL_78 (A : Nat → List Int32) (F : Nat → Int32) (P : Nat → Nat) (i : Int32) : am_al (heap A F P) 0 78 i = bif am_in i (A 78).length then (A 78)[i.toNatClampNeg]? else none := rfl
set_option maxRecDepth 100000 in
theorem hpL_80 (A : Nat → List Int32) (F : Nat → Int32) (P : Nat → Nat) (i : Int32) : am_al (heap A F P) 0 80 i = bif am_in i (A 80).length then (A 80)[i.toNatClampNeg]? else none := rfl
set_option maxRecDepth 100000 in
theorem hpL_82 (A : Nat → List Int32) (F : Nat → Int32) (P : Nat → Nat) (i : Int32) : am_al (heap A F P) 0 82 i = bif am_in i (A 82).length then (A 82)[i.toNatClampNeg]? else none := rfl
set_option maxRecDepth 100000 in
theorem hpL_84 (A : Nat → List Int32) (F : Nat → Int32) (P : Nat → Nat) (i : Int32) : am_al (heap A F P) 0 84 i = bif am_in i (A 84).length then (A 84)[i.toNatClampNeg]? else none := rfl
set_option maxRecDepth 100000 in
theorem hpL_87 (A : Nat → List Int32) (F : Nat → Int32) (P : Nat → Nat) (i : Int32) : am_al (heap A F P) 0 87 i = bif am_in i (A 87).length then (A 87)[i.toNatClampNeg]? else none := rfl
set_option maxRecDepth 100000 in
theorem hpL_89 (A : Nat → List Int32) (F : Nat → Int32) (P : Nat → Nat) (i : Int32) : am_al (heap A F P) 0 89 i = bif am_in i (A 89).length then (A 89)[i.toNatClampNeg]? else none := rfl
set_option maxRecDepth 100000 in
theorem hpL_91 (A : Nat → List Int32) (F : Nat → Int32) (P : Nat → Nat) (i : Int32) : am_al (heap A F P) 0 91 i = bif am_in i (A 91).length then (A 91)[i.toNatClampNeg]? else none := rfl
set_option maxRecDepth 100000 in
theorem hpL_93 (A : Nat → List Int32) (F : Nat → Int32) (P : Nat → Nat) (i : Int32) : am_al (heap A F P) 0 93 i = bif am_in i (A 93).length then (A 93)[i.toNatClampNeg]? else none := rfl
set_option maxRecDepth 100000 in
theorem hpL_95 (A : Nat → List Int32) (F : Nat → Int32) (P : Nat → Nat) (i : Int32) : am_al (heap A F P) 0 95 i = bif am_in i (A 95).length then (A 95)[i.toNatClampNeg]? else none := rfl
set_option maxRecDepth 100000 in
theorem hpL_97 (A : Nat → List Int32) (F : Nat → Int32) (P : Nat → Nat) (i : Int32) : am_al (heap A F P) 0 97 i = bif am_in i (A 97).length then (A 97)[i.toNatClampNeg]? else none := rfl
set_option maxRecDepth 100000 in
theorem hpL_99 (A : Nat → List Int32) (F : Nat → Int32) (P : Nat → Nat) (i : Int32) : am_al (heap A F P) 0 99 i = bif am_in i (A 99).length then (A 99)[i.toNatClampNeg]? else none := rfl
set_option maxRecDepth 100000 in
theorem hpL_103 (A : Nat → List Int32) (F : Nat → Int32) (P : Nat → Nat) (i : Int32) : am_al (heap A F P) 0 103 i = bif am_in i (A 103).length then (A 103)[i.toNatClampNeg]? else none := rfl
set_option maxRecDepth 100000 in
theorem hpL_105 (A : Nat → List Int32) (F : Nat → Int32) (P : Nat → Nat) (i : Int32) : am_al (heap A F P) 0 105 i = bif am_in i (A 105).length then (A 105)[i.toNatClampNeg]? else none := rfl
set_option maxRecDepth 100000 in
theorem hpL_108 (A : Nat → List Int32) (F : Nat → Int32) (P : Nat → Nat) (i : Int32) : am_al (heap A F P) 0 108 i = bif am_in i (A 108).length then (A 108)[i.toNatClampNeg]? else none := rfl
set_option maxRecDepth 100000 in
theorem hpL_110 (A : Nat → List Int32) (F : Nat → Int32) (P : Nat → Nat) (i : Int32) : am_al (heap A F P) 0 110 i = bif am_in i (A 110).length then (A 110)[i.toNatClampNeg]? else none := rfl
set_option maxRecDepth 100000 in
theorem hpL_112 (A : Nat → List Int32) (F : Nat → Int32) (P : Nat → Nat) (i : Int32) : am_al (heap A F P) 0 112 i = bif am_in i (A 112).length then (A 112)[i.toNatClampNeg]? else none := rfl
set_option maxRecDepth 100000 in
theorem hpL_114 (A : Nat → List Int32) (F : Nat → Int32) (P : Nat → Nat) (i : Int32) : am_al (heap A F P) 0 114 i = bif am_in i (A 114).length then (A 114)[i.toNatClampNeg]? else none := rfl
set_option maxRecDepth 100000 in
theorem hpL_116 (A : Nat → List Int32) (F : Nat → Int32) (P : Nat → Nat) (i : Int32) : am_al (heap A F P) 0 116 i = bif am_in i (A 116).length then (A 116)[i.toNatClampNeg]? else none := rfl
set_option maxRecDepth 100000 in
theorem hpL_119 (A : Nat → List Int32) (F : Nat → Int32) (P : Nat → Nat) (i : Int32) : am_al (heap A F P) 0 119 i = bif am_in i (A 119).length then (A 119)[i.toNatClampNeg]? else none := rfl
set_option maxRecDepth 100000 in
theorem hpL_121 (A : Nat → List Int32) (F : Nat → Int32) (P : Nat → Nat) (i : Int32) : am_al (heap A F P) 0 121 i = bif am_in i (A 121).length then (A 121)[i.toNatClampNeg]? else none := rfl
set_option maxRecDepth 100000 in
theorem hpL_123 (A : Nat → List Int32) (F : Nat → Int32) (P : Nat → Nat) (i : Int32) : am_al (heap A F P) 0 123 i = bif am_in i (A 123).length then (A 123)[i.toNatClampNeg]? else none := rfl
set_option maxRecDepth 100000 in
theorem hpL_125 (A : Nat → List Int32) (F : Nat → Int32) (P : Nat → Nat) (i : Int32) : am_al (heap A F P) 0 125 i = bif am_in i (A 125).length then (A 125)[i.toNatClampNeg]? else none := rfl
set_option maxRecDepth 100000 in
theorem hpL_127 (A : Nat → List Int32) (F : Nat → Int32) (P : Nat → Nat) (i : Int32) : am_al (heap A F P) 0 127 i = bif am_in i (A 127).length then (A 127)[i.toNatClampNeg]? else none := rfl
set_option maxRecDepth 100000 in
theorem hpL_129 (A : Nat → List Int32) (F : Nat → Int32) (P : Nat → Nat) (i : Int32) : am_al (heap A F P) 0 129 i = bif am_in i (A 129).length then (A 129)[i.toNatClampNeg]? else none := rfl
set_option maxRecDepth 100000 in
theorem hpL_131 (A : Nat → List Int32) (F : Nat → Int32) (P : Nat → Nat) (i : Int32) : am_al (heap A F P) 0 131 i = bif am_in i (A 131).length then (A 131)[i.toNatClampNeg]? else none := rfl
set_option maxRecDepth 100000 in
theorem hpL_135 (A : Nat → List Int32) (F : Nat → Int32) (P : Nat → Nat) (i : Int32) : am_al (heap A F P) 0 135 i = bif am_in i (A 135).length then (A 135)[i.toNatClampNeg]? else none := rfl
set_option maxRecDepth 100000 in
theorem hpL_137 (A : Nat → List Int32) (F : Nat → Int32) (P : Nat → Nat) (i : Int32) : am_al (heap A F P) 0 137 i = bif am_in i (A 137).length then (A 137)[i.toNatClampNeg]? else none := rfl
set_option maxRecDepth 100000 in
theorem hpL_140 (A : Nat → List Int32) (F : Nat → Int32) (P : Nat → Nat) (i : Int32) : am_al (heap A F P) 0 140 i = bif am_in i (A 140).length then (A 140)[i.toNatClampNeg]? else none := rfl
set_option maxRecDepth 100000 in
theorem hpL_142 (A : Nat → List Int32) (F : Nat → Int32) (P : Nat → Nat) (i : Int32) : am_al (heap A F P) 0 142 i = bif am_in i (A 142).length then (A 142)[i.toNatClampNeg]? else none := rfl
set_option maxRecDepth 100000 in
theorem hpL_144 (A : Nat → List Int32) (F : Nat → Int32) (P : Nat → Nat) (i : Int32) : am_al (heap A F P) 0 144 i = bif am_in i (A 144).length then (A 144)[i.toNatClampNeg]? else none := rfl
set_option maxRecDepth 100000 in
theorem hpL_146 (A : Nat → List Int32) (F : Nat → Int32) (P : Nat → Nat) (i : Int32) : am_al (heap A F P) 0 146 i = bif am_in i (A 146).length then (A 146)[i.toNatClampNeg]? else none := rfl
set_option maxRecDepth 100000 in
theorem hpL_148 (A : Nat → List Int32) (F : Nat → Int32) (P : Nat → Nat) (i : Int32) : am_al (heap A F P) 0 148 i = bif am_in i (A 148).length then (A 148)[i.toNatClampNeg]? else none := rfl
set_option maxRecDepth 100000 in
theorem hpL_151 (A : Nat → List Int32) (F : Nat → Int32) (P : Nat → Nat) (i : Int32) : am_al (heap A F P) 0 151 i = bif am_in i (A 151).length then (A 151)[i.toNatClampNeg]? else none := rfl
set_option maxRecDepth 100000 in
theorem hpL_153 (A : Nat → List Int32) (F : Nat → Int32) (P : Nat → Nat) (i : Int32) : am_al (heap A F P) 0 153 i = bif am_in i (A 153).length then (A 153)[i.toNatClampNeg]? else none := rfl
set_option maxRecDepth 100000 in
theorem hpL_155 (A : Nat → List Int32) (F : Nat → Int32) (P : Nat → Nat) (i : Int32) : am_al (heap A F P) 0 155 i = bif am_in i (A 155).length then (A 155)[i.toNatClampNeg]? else none := rfl
set_option maxRecDepth 100000 in
theorem hpL_157 (A : Nat → List Int32) (F : Nat → Int32) (P : Nat → Nat) (i : Int32) : am_al (heap A F P) 0 157 i = bif am_in i (A 157).length then (A 157)[i.toNatClampNeg]? else none := rfl
set_option maxRecDepth 100000 in
theorem hpL_159 (A : Nat → List Int32) (F : Nat → Int32) (P : Nat → Nat) (i : Int32) : am_al (heap A F P) 0 159 i = bif am_in i (A 159).length then (A 159)[i.toNatClampNeg]? else none := rfl
set_option maxRecDepth 100000 in
theorem hpL_161 (A : Nat → List Int32) (F : Nat → Int32) (P : Nat → Nat) (i : Int32) : am_al (heap A F P) 0 161 i = bif am_in i (A 161).length then (A 161)[i.toNatClampNeg]? else none := rfl
set_option maxRecDepth 100000 in
theorem hpL_163 (A : Nat → List Int32) (F : Nat → Int32) (P : Nat → Nat) (i : Int32) : am_al (heap A F P) 0 163 i = bif am_in i (A 163).length then (A 163)[i.toNatClampNeg]? else none := rfl
set_option maxRecDepth 100000 in
theorem hpL_166 (A : Nat → List Int32) (F : Nat → Int32) (P : Nat → Nat) (i : Int32) : am_al (heap A F P) 0 166 i = bif am_in i (A 166).length then (A 166)[i.toNatClampNeg]? else none := rfl
set_option maxRecDepth 100000 in
theorem hpL_168 (A : Nat → List Int32) (F : Nat → Int32) (P : Nat → Nat) (i : Int32) : am_al (heap A F P) 0 168 i = bif am_in i (A 168).length then (A 168)[i.toNatClampNeg]? else none := rfl
set_option maxRecDepth 100000 in
theorem hpL_170 (A : Nat → List Int32) (F : Nat → Int32) (P : Nat → Nat) (i : Int32) : am_al (heap A F P) 0 170 i = bif am_in i (A 170).length then (A 170)[i.toNatClampNeg]? else none := rfl
set_option maxRecDepth 100000 in
theorem hpL_172 (A : Nat → List Int32) (F : Nat → Int32) (P : Nat → Nat) (i : Int32) : am_al (heap A F P) 0 172 i = bif am_in i (A 172).length then (A 172)[i.toNatClampNeg]? else none := rfl
set_option maxRecDepth 100000 in
theorem hpL_174 (A : Nat → List Int32) (F : Nat → Int32) (P : Nat → Nat) (i : Int32) : am_al (heap A F P) 0 174 i = bif am_in i (A 174).length then (A 174)[i.toNatClampNeg]? else none := rfl
set_option maxRecDepth 100000 in
theorem hpL_176 (A : Nat → List Int32) (F : Nat → Int32) (P : Nat → Nat) (i : Int32) : am_al (heap A F P) 0 176 i = bif am_in i (A 176).length then (A 176)[i.toNatClampNeg]? else none := rfl
set_option maxRecDepth 100000 in
theorem hpL_178 (A : Nat → List Int32) (F : Nat → Int32) (P : Nat → Nat) (i : Int32) : am_al (heap A F P) 0 178 i = bif am_in i (A 178).length then (A 178)[i.toNatClampNeg]? else none := rfl
set_option maxRecDepth 100000 in
theorem hpL_180 (A : Nat → List Int32) (F : Nat → Int32) (P : Nat → Nat) (i : Int32) : am_al (heap A F P) 0 180 i = bif am_in i (A 180).length then (A 180)[i.toNatClampNeg]? else none := rfl
set_option maxRecDepth 100000 in
theorem hpL_182 (A : Nat → List Int32) (F : Nat → Int32) (P : Nat → Nat) (i : Int32) : am_al (heap A F P) 0 182 i = bif am_in i (A 182).length then (A 182)[i.toNatClampNeg]? else none := rfl
set_option maxRecDepth 100000 in
theorem hpL_185 (A : Nat → List Int32) (F : Nat → Int32) (P : Nat → Nat) (i : Int32) : am_al (heap A F P) 1 185 i = bif am_in i (A 185).length then (A 185)[i.toNatClampNeg]? else none := rfl
set_option maxRecDepth 100000 in
theorem hpL_187 (A : Nat → List Int32) (F : Nat → Int32) (P : Nat → Nat) (i : Int32) : am_al (heap A F P) 0 187 i = bif am_in i (A 187).length then (A 187)[i.toNatClampNeg]? else none := rfl
set_option maxRecDepth 100000 in
theorem hpL_189 (A : Nat → List Int32) (F : Nat → Int32) (P : Nat → Nat) (i : Int32) : am_al (heap A F P) 0 189 i = bif am_in i (A 189).length then (A 189)[i.toNatClampNeg]? else none := rfl
set_option maxRecDepth 100000 in
theorem hpL_191 (A : Nat → List Int32) (F : Nat → Int32) (P : Nat → Nat) (i : Int32) : am_al (heap A F P) 0 191 i = bif am_in i (A 191).length then (A 191)[i.toNatClampNeg]? else none := rfl
set_option maxRecDepth 100000 in
theorem hpL_193 (A : Nat → List Int32) (F : Nat → Int32) (P : Nat → Nat) (i : Int32) : am_al (heap A F P) 0 193 i = bif am_in i (A 193).length then (A 193)[i.toNatClampNeg]? else none := rfl
set_option maxRecDepth 100000 in
theorem hpL_194 (A : Nat → List Int32) (F : Nat → Int32) (P : Nat → Nat) (i : Int32) : am_al (heap A F P) 0 194 i = bif am_in i (A 194).length then (A 194)[i.toNatClampNeg]? else none := rfl
set_option maxRecDepth 100000 in
theorem hpL_195 (A : Nat → List Int32) (F : Nat → Int32) (P : Nat → Nat) (i : Int32) : am_al (heap A F P) 1 195 i = bif am_in i (A 195).length then (A 195)[i.toNatClampNeg]? else none := rfl
set_option maxRecDepth 100000 in
theorem hpL_196 (A : Nat → List Int32) (F : Nat → Int32) (P : Nat → Nat) (i : Int32) : am_al (heap A F P) 0 196 i = bif am_in i (A 196).length then (A 196)[i.toNatClampNeg]? else none := rfl
set_option maxRecDepth 100000 in
theorem hpL_197 (A : Nat → List Int32) (F : Nat → Int32) (P : Nat → Nat) (i : Int32) : am_al (heap A F P) 0 197 i = bif am_in i (A 197).length then (A 197)[i.toNatClampNeg]? else none := rfl
set_option maxRecDepth 100000 in
theorem hpL_198 (A : Nat → List Int32) (F : Nat → Int32) (P : Nat → Nat) (i : Int32) : am_al (heap A F P) 0 198 i = bif am_in i (A 198).length then (A 198)[i.toNatClampNeg]? else none := rfl
set_option maxRecDepth 100000 in
theorem hpL_199 (A : Nat → List Int32) (F : Nat → Int32) (P : Nat → Nat) (i : Int32) : am_al (heap A F P) 0 199 i = bif am_in i (A 199).length then (A 199)[i.toNatClampNeg]? else none := rfl
set_option maxRecDepth 100000 in
theorem hpL_200 (A : Nat → List Int32) (F : Nat → Int32) (P : Nat → Nat) (i : Int32) : am_al (heap A F P) 0 200 i = bif am_in i (A 200).length then (A 200)[i.toNatClampNeg]? else none := rfl
set_option maxRecDepth 100000 in
theorem hpL_201 (A : Nat → List Int32) (F : Nat → Int32) (P : Nat → Nat) (i : Int32) : am_al (heap A F P) 0 201 i = bif am_in i (A 201).length then (A 201)[i.toNatClampNeg]? else none := rfl
set_option maxRecDepth 100000 in
theorem hpL_202 (A : Nat → List Int32) (F : Nat → Int32) (P : Nat → Nat) (i : Int32) : am_al (heap A F P) 0 202 i = bif am_in i (A 202).length then (A 202)[i.toNatClampNeg]? else none := rfl
set_option maxRecDepth 100000 in
theorem hpL_203 (A : Nat → List Int32) (F : Nat → Int32) (P : Nat → Nat) (i : Int32) : am_al (heap A F P) 0 203 i = bif am_in i (A 203).length then (A 203)[i.toNatClampNeg]? else none := rfl
set_option maxRecDepth 100000 in
theorem hpL_204 (A : Nat → List Int32) (F : Nat → Int32) (P : Nat → Nat) (i : Int32) : am_al (heap A F P) 0 204 i = bif am_in i (A 204).length then (A 204)[i.toNatClampNeg]? else none := rfl
set_option maxRecDepth 100000 in
theorem hpL_205 (A : Nat → List Int32) (F : Nat → Int32) (P : Nat → Nat) (i : Int32) : am_al (heap A F P) 0 205 i = bif am_in i (A 205).length then (A 205)[i.toNatClampNeg]? else none := rfl
theorem hpLX : (∀ (A : Nat → List Int32) (F : Nat → Int32) (P : Nat → Nat) (i : Int32), am_al (heap A F P) 0 5 i = bif am_in i (A 5).length then (A 5)[i.toNatClampNeg]? else none) ∧ (∀ (A : Nat → List Int32) (F : Nat → Int32) (P : Nat → Nat) (i : Int32), am_al (heap A F P) 0 7 i = bif am_in i (A 7).length then (A 7)[i.toNatClampNeg]? else none) ∧ (∀ (A : Nat → List Int32) (F : Nat → Int32) (P : Nat → Nat) (i : Int32), am_al (heap A F P) 0 10 i = bif am_in i (A 10).length then (A 10)[i.toNatClampNeg]? else none) ∧ (∀ (A : Nat → List Int32) (F : Nat → Int32) (P : Nat → Nat) (i : Int32), am_al (heap A F P) 0 12 i = bif am_in i (A 12).length then (A 12)[i.toNatClampNeg]? else none) ∧ (∀ (A : Nat → List Int32) (F : Nat → Int32) (P : Nat → Nat) (i : Int32), am_al (heap A F P) 0 14 i = bif am_in i (A 14).length then (A 14)[i.toNatClampNeg]? else none) ∧ (∀ (A : Nat → List Int32) (F : Nat → Int32) (P : Nat → Nat) (i : Int32), am_al (heap A F P) 0 16 i = bif am_in i (A 16).length then (A 16)[i.toNatClampNeg]? else none) ∧ (∀ (A : Nat → List Int32) (F : Nat → Int32) (P : Nat → Nat) (i : Int32), am_al (heap A F P) 0 18 i = bif am_in i (A 18).length then (A 18)[i.toNatClampNeg]? else none) ∧ (∀ (A : Nat → List Int32) (F : Nat → Int32) (P : Nat → Nat) (i : Int32), am_al (heap A F P) 0 21 i = bif am_in i (A 21).length then (A 21)[i.toNatClampNeg]? else none) ∧ (∀ (A : Nat → List Int32) (F : Nat → Int32) (P : Nat → Nat) (i : Int32), am_al (heap A F P) 0 23 i = bif am_in i (A 23).length then (A 23)[i.toNatClampNeg]? else none) ∧ (∀ (A : Nat → List Int32) (F : Nat → Int32) (P : Nat → Nat) (i : Int32), am_al (heap A F P) 0 25 i = bif am_in i (A 25).length then (A 25)[i.toNatClampNeg]? else none) ∧ (∀ (A : Nat → List Int32) (F : Nat → Int32) (P : Nat → Nat) (i : Int32), am_al (heap A F P) 0 27 i = bif am_in i (A 27).length then (A 27)[i.toNatClampNeg]? else none) ∧ (∀ (A : Nat → List Int32) (F : Nat → Int32) (P : Nat → Nat) (i : Int32), am_al (heap A F P) 0 29 i = bif am_in i (A 29).length then (A 29)[i.toNatClampNeg]? else none) ∧ (∀ (A : Nat → List Int32) (F : Nat → Int32) (P : Nat → Nat) (i : Int32), am_al (heap A F P) 0 31 i = bif am_in i (A 31).length then (A 31)[i.toNatClampNeg]? else none) ∧ (∀ (A : Nat → List Int32) (F : Nat → Int32) (P : Nat → Nat) (i : Int32), am_al (heap A F P) 0 33 i = bif am_in i (A 33).length then (A 33)[i.toNatClampNeg]? else none) ∧ (∀ (A : Nat → List Int32) (F : Nat → Int32) (P : Nat → Nat) (i : Int32), am_al (heap A F P) 0 166 i = bif am_in i (A 166).length then (A 166)[i.toNatClampNeg]? else none) ∧ (∀ (A : Nat → List Int32) (F : Nat → Int32) (P : Nat → Nat) (i : Int32), am_al (heap A F P) 0 168 i = bif am_in i (A 168).length then (A 168)[i.toNatClampNeg]? else none) ∧ (∀ (A : Nat → List Int32) (F : Nat → Int32) (P : Nat → Nat) (i : Int32), am_al (heap A F P) 0 170 i = bif am_in i (A 170).length then (A 170)[i.toNatClampNeg]? else none) ∧ (∀ (A : Nat → List Int32) (F : Nat → Int32) (P : Nat → Nat) (i : Int32), am_al (heap A F P) 0 172 i = bif am_in i (A 172).length then (A 172)[i.toNatClampNeg]? else none) ∧ (∀ (A : Nat → List Int32) (F : Nat → Int32) (P : Nat → Nat) (i : Int32), am_al (heap A F P) 0 174 i = bif am_in i (A 174).length then (A 174)[i.toNatClampNeg]? else none) ∧ (∀ (A : Nat → List Int32) (F : Nat → Int32) (P : Nat → Nat) (i : Int32), am_al (heap A F P) 0 176 i = bif am_in i (A 176).length then (A 176)[i.toNatClampNeg]? else none) ∧ (∀ (A : Nat → List Int32) (F : Nat → Int32) (P : Nat → Nat) (i : Int32), am_al (heap A F P) 0 178 i = bif am_in i (A 178).length then (A 178)[i.toNatClampNeg]? else none) ∧ (∀ (A : Nat → List Int32) (F : Nat → Int32) (P : Nat → Nat) (i : Int32), am_al (heap A F P) 0 180 i = bif am_in i (A 180).length then (A 180)[i.toNatClampNeg]? else none) ∧ (∀ (A : Nat → List Int32) (F : Nat → Int32) (P : Nat → Nat) (i : Int32), am_al (heap A F P) 0 182 i = bif am_in i (A 182).length then (A 182)[i.toNatClampNeg]? else none) ∧ (∀ (A : Nat → List Int32) (F : Nat → Int32) (P : Nat → Nat) (i : Int32), am_al (heap A F P) 1 185 i = bif am_in i (A 185).length then (A 185)[i.toNatClampNeg]? else none) ∧ (∀ (A : Nat → List Int32) (F : Nat → Int32) (P : Nat → Nat) (i : Int32), am_al (heap A F P) 0 187 i = bif am_in i (A 187).length then (A 187)[i.toNatClampNeg]? else none) ∧ (∀ (A : Nat → List Int32) (F : Nat → Int32) (P : Nat → Nat) (i : Int32), am_al (heap A F P) 0 189 i = bif am_in i (A 189).length then (A 189)[i.toNatClampNeg]? else none) ∧ (∀ (A : Nat → List Int32) (F : Nat → Int32) (P : Nat → Nat) (i : Int32), am_al (heap A F P) 0 191 i = bif am_in i (A 191).length then (A 191)[i.toNatClampNeg]? else none) := ⟨hpL_5, hpL_7, hpL_10, hpL_12, hpL_14, hpL_16, hpL_18, hpL_21, hpL_23, hpL_25, hpL_27, hpL_29, hpL_31, hpL_33, hpL_166, hpL_168, hpL_170, hpL_172, hpL_174, hpL_176, hpL_178, hpL_180, hpL_182, hpL_185, hpL_187, hpL_189, hpL_191⟩
theorem hpLM : (∀ (A : Nat → List Int32) (F : Nat → Int32) (P : Nat → Nat) (i : Int32), am_al (heap A F P) 0 193 i = bif am_in i (A 193).length then (A 193)[i.toNatClampNeg]? else none) ∧ (∀ (A : Nat → List Int32) (F : Nat → Int32) (P : Nat → Nat) (i : Int32), am_al (heap A F P) 0 194 i = bif am_in i (A 194).length then (A 194)[i.toNatClampNeg]? else none) ∧ (∀ (A : Nat → List Int32) (F : Nat → Int32) (P : Nat → Nat) (i : Int32), am_al (heap A F P) 1 195 i = bif am_in i (A 195).length then (A 195)[i.toNatClampNeg]? else none) ∧ (∀ (A : Nat → List Int32) (F : Nat → Int32) (P : Nat → Nat) (i : Int32), am_al (heap A F P) 0 196 i = bif am_in i (A 196).length then (A 196)[i.toNatClampNeg]? else none) ∧ (∀ (A : Nat → List Int32) (F : Nat → Int32) (P : Nat → Nat) (i : Int32), am_al (heap A F P) 0 197 i = bif am_in i (A 197).length then (A 197)[i.toNatClampNeg]? else none) ∧ (∀ (A : Nat → List Int32) (F : Nat → Int32) (P : Nat → Nat) (i : Int32), am_al (heap A F P) 0 198 i = bif am_in i (A 198).length then (A 198)[i.toNatClampNeg]? else none) ∧ (∀ (A : Nat → List Int32) (F : Nat → Int32) (P : Nat → Nat) (i : Int32), am_al (heap A F P) 0 199 i = bif am_in i (A 199).length then (A 199)[i.toNatClampNeg]? else none) ∧ (∀ (A : Nat → List Int32) (F : Nat → Int32) (P : Nat → Nat) (i : Int32), am_al (heap A F P) 0 200 i = bif am_in i (A 200).length then (A 200)[i.toNatClampNeg]? else none) ∧ (∀ (A : Nat → List Int32) (F : Nat → Int32) (P : Nat → Nat) (i : Int32), am_al (heap A F P) 0 201 i = bif am_in i (A 201).length then (A 201)[i.toNatClampNeg]? else none) ∧ (∀ (A : Nat → List Int32) (F : Nat → Int32) (P : Nat → Nat) (i : Int32), am_al (heap A F P) 0 202 i = bif am_in i (A 202).length then (A 202)[i.toNatClampNeg]? else none) ∧ (∀ (A : Nat → List Int32) (F : Nat → Int32) (P : Nat → Nat) (i : Int32), am_al (heap A F P) 0 203 i = bif am_in i (A 203).length then (A 203)[i.toNatClampNeg]? else none) ∧ (∀ (A : Nat → List Int32) (F : Nat → Int32) (P : Nat → Nat) (i : Int32), am_al (heap A F P) 0 204 i = bif am_in i (A 204).length then (A 204)[i.toNatClampNeg]? else none) ∧ (∀ (A : Nat → List Int32) (F : Nat → Int32) (P : Nat → Nat) (i : Int32), am_al (heap A F P) 0 205 i = bif am_in i (A 205).length then (A 205)[i.toNatClampNeg]? else none) := ⟨hpL_193, hpL_194, hpL_195, hpL_196, hpL_197, hpL_198, hpL_199, hpL_200, hpL_201, hpL_202, hpL_203, hpL_204, hpL_205⟩
theorem hpLY : (∀ (A : Nat → List Int32) (F : Nat → Int32) (P : Nat → Nat) (i : Int32), am_al (heap A F P) 0 39 i = bif am_in i (A 39).length then (A 39)[i.toNatClampNeg]? else none) ∧ (∀ (A : Nat → List Int32) (F : Nat → Int32) (P : Nat → Nat) (i : Int32), am_al (heap A F P) 0 41 i = bif am_in i (A 41).length then (A 41)[i.toNatClampNeg]? else none) ∧ (∀ (A : Nat → List Int32) (F : Nat → Int32) (P : Nat → Nat) (i : Int32), am_al (heap A F P) 0 44 i = bif am_in i (A 44).length then (A 44)[i.toNatClampNeg]? else none) ∧ (∀ (A : Nat → List Int32) (F : Nat → Int32) (P : Nat → Nat) (i : Int32), am_al (heap A F P) 0 46 i = bif am_in i (A 46).length then (A 46)[i.toNatClampNeg]? else none) ∧ (∀ (A : Nat → List Int32) (F : Nat → Int32) (P : Nat → Nat) (i : Int32), am_al (heap A F P) 0 48 i = bif am_in i (A 48).length then (A 48)[i.toNatClampNeg]? else none) ∧ (∀ (A : Nat → List Int32) (F : Nat → Int32) (P : Nat → Nat) (i : Int32), am_al (heap A F P) 0 50 i = bif am_in i (A 50).length then (A 50)[i.toNatClampNeg]? else none) ∧ (∀ (A : Nat → List Int32) (F : Nat → Int32) (P : Nat → Nat) (i : Int32), am_al (heap A F P) 0 52 i = bif am_in i (A 52).length then (A 52)[i.toNatClampNeg]? else none) ∧ (∀ (A : Nat → List Int32) (F : Nat → Int32) (P : Nat → Nat) (i : Int32), am_al (heap A F P) 0 55 i = bif am_in i (A 55).length then (A 55)[i.toNatClampNeg]? else none) ∧ (∀ (A : Nat → List Int32) (F : Nat → Int32) (P : Nat → Nat) (i : Int32), am_al (heap A F P) 0 57 i = bif am_in i (A 57).length then (A 57)[i.toNatClampNeg]? else none) ∧ (∀ (A : Nat → List Int32) (F : Nat → Int32) (P : Nat → Nat) (i : Int32), am_al (heap A F P) 0 59 i = bif am_in i (A 59).length then (A 59)[i.toNatClampNeg]? else none) ∧ (∀ (A : Nat → List Int32) (F : Nat → Int32) (P : Nat → Nat) (i : Int32), am_al (heap A F P) 0 61 i = bif am_in i (A 61).length then (A 61)[i.toNatClampNeg]? else none) ∧ (∀ (A : Nat → List Int32) (F : Nat → Int32) (P : Nat → Nat) (i : Int32), am_al (heap A F P) 0 63 i = bif am_in i (A 63).length then (A 63)[i.toNatClampNeg]? else none) ∧ (∀ (A : Nat → List Int32) (F : Nat → Int32) (P : Nat → Nat) (i : Int32), am_al (heap A F P) 0 65 i = bif am_in i (A 65).length then (A 65)[i.toNatClampNeg]? else none) ∧ (∀ (A : Nat → List Int32) (F : Nat → Int32) (P : Nat → Nat) (i : Int32), am_al (heap A F P) 0 67 i = bif am_in i (A 67).length then (A 67)[i.toNatClampNeg]? else none) ∧ (∀ (A : Nat → List Int32) (F : Nat → Int32) (P : Nat → Nat) (i : Int32), am_al (heap A F P) 0 71 i = bif am_in i (A 71).length then (A 71)[i.toNatClampNeg]? else none) ∧ (∀ (A : Nat → List Int32) (F : Nat → Int32) (P : Nat → Nat) (i : Int32), am_al (heap A F P) 0 73 i = bif am_in i (A 73).length then (A 73)[i.toNatClampNeg]? else none) ∧ (∀ (A : Nat → List Int32) (F : Nat → Int32) (P : Nat → Nat) (i : Int32), am_al (heap A F P) 0 76 i = bif am_in i (A 76).length then (A 76)[i.toNatClampNeg]? else none) ∧ (∀ (A : Nat → List Int32) (F : Nat → Int32) (P : Nat → Nat) (i : Int32), am_al (heap A F P) 0 78 i = bif am_in i (A 78).length then (A 78)[i.toNatClampNeg]? else none) ∧ (∀ (A : Nat → List Int32) (F : Nat → Int32) (P : Nat → Nat) (i : Int32), am_al (heap A F P) 0 80 i = bif am_in i (A 80).length then (A 80)[i.toNatClampNeg]? else none) ∧ (∀ (A : Nat → List Int32) (F : Nat → Int32) (P : Nat → Nat) (i : Int32), am_al (heap A F P) 0 82 i = bif am_in i (A 82).length then (A 82)[i.toNatClampNeg]? else none) ∧ (∀ (A : Nat → List Int32) (F : Nat → Int32) (P : Nat → Nat) (i : Int32), am_al (heap A F P) 0 84 i = bif am_in i (A 84).length then (A 84)[i.toNatClampNeg]? else none) ∧ (∀ (A : Nat → List Int32) (F : Nat → Int32) (P : Nat → Nat) (i : Int32), am_al (heap A F P) 0 87 i = bif am_in i (A 87).length then (A 87)[i.toNatClampNeg]? else none) ∧ (∀ (A : Nat → List Int32) (F : Nat → Int32) (P : Nat → Nat) (i : Int32), am_al (heap A F P) 0 89 i = bif am_in i (A 89).length then (A 89)[i.toNatClampNeg]? else none) ∧ (∀ (A : Nat → List Int32) (F : Nat → Int32) (P : Nat → Nat) (i : Int32), am_al (heap A F P) 0 91 i = bif am_in i (A 91).length then (A 91)[i.toNatClampNeg]? else none) ∧ (∀ (A : Nat → List Int32) (F : Nat → Int32) (P : Nat → Nat) (i : Int32), am_al (heap A F P) 0 93 i = bif am_in i (A 93).length then (A 93)[i.toNatClampNeg]? else none) ∧ (∀ (A : Nat → List Int32) (F : Nat → Int32) (P : Nat → Nat) (i : Int32), am_al (heap A F P) 0 95 i = bif am_in i (A 95).length then (A 95)[i.toNatClampNeg]? else none) ∧ (∀ (A : Nat → List Int32) (F : Nat → Int32) (P : Nat → Nat) (i : Int32), am_al (heap A F P) 0 97 i = bif am_in i (A 97).length then (A 97)[i.toNatClampNeg]? else none) ∧ (∀ (A : Nat → List Int32) (F : Nat → Int32) (P : Nat → Nat) (i : Int32), am_al (heap A F P) 0 99 i = bif am_in i (A 99).length then (A 99)[i.toNatClampNeg]? else none) ∧ (∀ (A : Nat → List Int32) (F : Nat → Int32) (P : Nat → Nat) (i : Int32), am_al (heap A F P) 0 103 i = bif am_in i (A 103).length then (A 103)[i.toNatClampNeg]? else none) ∧ (∀ (A : Nat → List Int32) (F : Nat → Int32) (P : Nat → Nat) (i : Int32), am_al (heap A F P) 0 105 i = bif am_in i (A 105).length then (A 105)[i.toNatClampNeg]? else none) ∧ (∀ (A : Nat → List Int32) (F : Nat → Int32) (P : Nat → Nat) (i : Int32), am_al (heap A F P) 0 108 i = bif am_in i (A 108).length then (A 108)[i.toNatClampNeg]? else none) ∧ (∀ (A : Nat → List Int32) (F : Nat → Int32) (P : Nat → Nat) (i : Int32), am_al (heap A F P) 0 110 i = bif am_in i (A 110).length then (A 110)[i.toNatClampNeg]? else none) ∧ (∀ (A : Nat → List Int32) (F : Nat → Int32) (P : Nat → Nat) (i : Int32), am_al (heap A F P) 0 112 i = bif am_in i (A 112).length then (A 112)[i.toNatClampNeg]? else none) ∧ (∀ (A : Nat → List Int32) (F : Nat → Int32) (P : Nat → Nat) (i : Int32), am_al (heap A F P) 0 114 i = bif am_in i (A 114).length then (A 114)[i.toNatClampNeg]? else none) ∧ (∀ (A : Nat → List Int32) (F : Nat → Int32) (P : Nat → Nat) (i : Int32), am_al (heap A F P) 0 116 i = bif am_in i (A 116).length then (A 116)[i.toNatClampNeg]? else none) ∧ (∀ (A : Nat → List Int32) (F : Nat → Int32) (P : Nat → Nat) (i : Int32), am_al (heap A F P) 0 119 i = bif am_in i (A 119).length then (A 119)[i.toNatClampNeg]? else none) ∧ (∀ (A : Nat → List Int32) (F : Nat → Int32) (P : Nat → Nat) (i : Int32), am_al (heap A F P) 0 121 i = bif am_in i (A 121).length then (A 121)[i.toNatClampNeg]? else none) ∧ (∀ (A : Nat → List Int32) (F : Nat → Int32) (P : Nat → Nat) (i : Int32), am_al (heap A F P) 0 123 i = bif am_in i (A 123).length then (A 123)[i.toNatClampNeg]? else none) ∧ (∀ (A : Nat → List Int32) (F : Nat → Int32) (P : Nat → Nat) (i : Int32), am_al (heap A F P) 0 125 i = bif am_in i (A 125).length then (A 125)[i.toNatClampNeg]? else none) ∧ (∀ (A : Nat → List Int32) (F : Nat → Int32) (P : Nat → Nat) (i : Int32), am_al (heap A F P) 0 127 i = bif am_in i (A 127).length then (A 127)[i.toNatClampNeg]? else none) ∧ (∀ (A : Nat → List Int32) (F : Nat → Int32) (P : Nat → Nat) (i : Int32), am_al (heap A F P) 0 129 i = bif am_in i (A 129).length then (A 129)[i.toNatClampNeg]? else none) ∧ (∀ (A : Nat → List Int32) (F : Nat → Int32) (P : Nat → Nat) (i : Int32), am_al (heap A F P) 0 131 i = bif am_in i (A 131).length then (A 131)[i.toNatClampNeg]? else none) ∧ (∀ (A : Nat → List Int32) (F : Nat → Int32) (P : Nat → Nat) (i : Int32), am_al (heap A F P) 0 135 i = bif am_in i (A 135).length then (A 135)[i.toNatClampNeg]? else none) ∧ (∀ (A : Nat → List Int32) (F : Nat → Int32) (P : Nat → Nat) (i : Int32), am_al (heap A F P) 0 137 i = bif am_in i (A 137).length then (A 137)[i.toNatClampNeg]? else none) ∧ (∀ (A : Nat → List Int32) (F : Nat → Int32) (P : Nat → Nat) (i : Int32), am_al (heap A F P) 0 140 i = bif am_in i (A 140).length then (A 140)[i.toNatClampNeg]? else none) ∧ (∀ (A : Nat → List Int32) (F : Nat → Int32) (P : Nat → Nat) (i : Int32), am_al (heap A F P) 0 142 i = bif am_in i (A 142).length then (A 142)[i.toNatClampNeg]? else none) ∧ (∀ (A : Nat → List Int32) (F : Nat → Int32) (P : Nat → Nat) (i : Int32), am_al (heap A F P) 0 144 i = bif am_in i (A 144).length then (A 144)[i.toNatClampNeg]? else none) ∧ (∀ (A : Nat → List Int32) (F : Nat → Int32) (P : Nat → Nat) (i : Int32), am_al (heap A F P) 0 146 i = bif am_in i (A 146).length then (A 146)[i.toNatClampNeg]? else none) ∧ (∀ (A : Nat → List Int32) (F : Nat → Int32) (P : Nat → Nat) (i : Int32), am_al (heap A F P) 0 148 i = bif am_in i (A 148).length then (A 148)[i.toNatClampNeg]? else none) ∧ (∀ (A : Nat → List Int32) (F : Nat → Int32) (P : Nat → Nat) (i : Int32), am_al (heap A F P) 0 151 i = bif am_in i (A 151).length then (A 151)[i.toNatClampNeg]? else none) ∧ (∀ (A : Nat → List Int32) (F : Nat → Int32) (P : Nat → Nat) (i : Int32), am_al (heap A F P) 0 153 i = bif am_in i (A 153).length then (A 153)[i.toNatClampNeg]? else none) ∧ (∀ (A : Nat → List Int32) (F : Nat → Int32) (P : Nat → Nat) (i : Int32), am_al (heap A F P) 0 155 i = bif am_in i (A 155).length then (A 155)[i.toNatClampNeg]? else none) ∧ (∀ (A : Nat → List Int32) (F : Nat → Int32) (P : Nat → Nat) (i : Int32), am_al (heap A F P) 0 157 i = bif am_in i (A 157).length then (A 157)[i.toNatClampNeg]? else none) ∧ (∀ (A : Nat → List Int32) (F : Nat → Int32) (P : Nat → Nat) (i : Int32), am_al (heap A F P) 0 159 i = bif am_in i (A 159).length then (A 159)[i.toNatClampNeg]? else none) ∧ (∀ (A : Nat → List Int32) (F : Nat → Int32) (P : Nat → Nat) (i : Int32), am_al (heap A F P) 0 161 i = bif am_in i (A 161).length then (A 161)[i.toNatClampNeg]? else none) ∧ (∀ (A : Nat → List Int32) (F : Nat → Int32) (P : Nat → Nat) (i : Int32), am_al (heap A F P) 0 163 i = bif am_in i (A 163).length then (A 163)[i.toNatClampNeg]? else none) := ⟨hpL_39, hpL_41, hpL_44, hpL_46, hpL_48, hpL_50, hpL_52, hpL_55, hpL_57, hpL_59, hpL_61, hpL_63, hpL_65, hpL_67, hpL_71, hpL_73, hpL_76, hpL_78, hpL_80, hpL_82, hpL_84, hpL_87, hpL_89, hpL_91, hpL_93, hpL_95, hpL_97, hpL_99, hpL_103, hpL_105, hpL_108, hpL_110, hpL_112, hpL_114, hpL_116, hpL_119, hpL_121, hpL_123, hpL_125, hpL_127, hpL_129, hpL_131, hpL_135, hpL_137, hpL_140, hpL_142, hpL_144, hpL_146, hpL_148, hpL_151, hpL_153, hpL_155, hpL_157, hpL_159, hpL_161, hpL_163⟩
set_option maxRecDepth 100000 in
theorem hpF_2_3 (A : Nat → List Int32) (F : Nat → Int32) (P : Nat → Nat) (v : Int32) : am_pf (heap A F P) 2 7 3 (.int v) = some (heap A (up F 203 v) P) := rfl
set_option maxRecDepth 100000 in
theorem hpF_3_2 (A : Nat → List Int32) (F : Nat → Int32) (P : Nat → Nat) (v : Int32) : am_pf (heap A F P) 3 8 2 (.int v) = some (heap A (up F 302 v) P) := rfl
set_option maxRecDepth 100000 in
theorem hpF_8_4 (A : Nat → List Int32) (F : Nat → Int32) (P : Nat → Nat) (v : Int32) : am_pf (heap A F P) 8 3 4 (.int v) = some (heap A (up F 804 v) P) := rfl
set_option maxRecDepth 100000 in
theorem hpF_19_6 (A : Nat → List Int32) (F : Nat → Int32) (P : Nat → Nat) (v : Int32) : am_pf (heap A F P) 19 0 6 (.int v) = some (heap A (up F 1906 v) P) := rfl
set_option maxRecDepth 100000 in
theorem hpF_34_1 (A : Nat → List Int32) (F : Nat → Int32) (P : Nat → Nat) (v : Int32) : am_pf (heap A F P) 34 1 1 (.int v) = some (heap A (up F 3401 v) P) := rfl
set_option maxRecDepth 100000 in
theorem hpF_36_3 (A : Nat → List Int32) (F : Nat → Int32) (P : Nat → Nat) (v : Int32) : am_pf (heap A F P) 36 7 3 (.int v) = some (heap A (up F 3603 v) P) := rfl
set_option maxRecDepth 100000 in
theorem hpF_37_2 (A : Nat → List Int32) (F : Nat → Int32) (P : Nat → Nat) (v : Int32) : am_pf (heap A F P) 37 8 2 (.int v) = some (heap A (up F 3702 v) P) := rfl
set_option maxRecDepth 100000 in
theorem hpF_42_4 (A : Nat → List Int32) (F : Nat → Int32) (P : Nat → Nat) (v : Int32) : am_pf (heap A F P) 42 3 4 (.int v) = some (heap A (up F 4204 v) P) := rfl
set_option maxRecDepth 100000 in
theorem hpF_53_6 (A : Nat → List Int32) (F : Nat → Int32) (P : Nat → Nat) (v : Int32) : am_pf (heap A F P) 53 0 6 (.int v) = some (heap A (up F 5306 v) P) := rfl
set_option maxRecDepth 100000 in
theorem hpF_68_3 (A : Nat → List Int32) (F : Nat → Int32) (P : Nat → Nat) (v : Int32) : am_pf (heap A F P) 68 7 3 (.int v) = some (heap A (up F 6803 v) P) := rfl
set_option maxRecDepth 100000 in
theorem hpF_69_2 (A : Nat → List Int32) (F : Nat → Int32) (P : Nat → Nat) (v : Int32) : am_pf (heap A F P) 69 8 2 (.int v) = some (heap A (up F 6902 v) P) := rfl
set_option maxRecDepth 100000 in
theorem hpF_74_4 (A : Nat → List Int32) (F : Nat → Int32) (P : Nat → Nat) (v : Int32) : am_pf (heap A F P) 74 3 4 (.int v) = some (heap A (up F 7404 v) P) := rfl
set_option maxRecDepth 100000 in
theorem hpF_85_6 (A : Nat → List Int32) (F : Nat → Int32) (P : Nat → Nat) (v : Int32) : am_pf (heap A F P) 85 0 6 (.int v) = some (heap A (up F 8506 v) P) := rfl
set_option maxRecDepth 100000 in
theorem hpF_100_3 (A : Nat → List Int32) (F : Nat → Int32) (P : Nat → Nat) (v : Int32) : am_pf (heap A F P) 100 7 3 (.int v) = some (heap A (up F 10003 v) P) := rfl
set_option maxRecDepth 100000 in
theorem hpF_101_2 (A : Nat → List Int32) (F : Nat → Int32) (P : Nat → Nat) (v : Int32) : am_pf (heap A F P) 101 8 2 (.int v) = some (heap A (up F 10102 v) P) := rfl
set_option maxRecDepth 100000 in
theorem hpF_106_4 (A : Nat → List Int32) (F : Nat → Int32) (P : Nat → Nat) (v : Int32) : am_pf (heap A F P) 106 3 4 (.int v) = some (heap A (up F 10604 v) P) := rfl
set_option maxRecDepth 100000 in
theorem hpF_117_6 (A : Nat → List Int32) (F : Nat → Int32) (P : Nat → Nat) (v : Int32) : am_pf (heap A F P) 117 0 6 (.int v) = some (heap A (up F 11706 v) P) := rfl
set_option maxRecDepth 100000 in
theorem hpF_132_3 (A : Nat → List Int32) (F : Nat → Int32) (P : Nat → Nat) (v : Int32) : am_pf (heap A F P) 132 7 3 (.int v) = some (heap A (up F 13203 v) P) := rfl
set_option maxRecDepth 100000 in
theorem hpF_133_2 (A : Nat → List Int32) (F : Nat → Int32) (P : Nat → Nat) (v : Int32) : am_pf (heap A F P) 133 8 2 (.int v) = some (heap A (up F 13302 v) P) := rfl
set_option maxRecDepth 100000 in
theorem hpF_138_4 (A : Nat → List Int32) (F : Nat → Int32) (P : Nat → Nat) (v : Int32) : am_pf (heap A F P) 138 3 4 (.int v) = some (heap A (up F 13804 v) P) := rfl
set_option maxRecDepth 100000 in
theorem hpF_149_6 (A : Nat → List Int32) (F : Nat → Int32) (P : Nat → Nat) (v : Int32) : am_pf (heap A F P) 149 0 6 (.int v) = some (heap A (up F 14906 v) P) := rfl
set_option maxRecDepth 100000 in
theorem hpF_164_10 (A : Nat → List Int32) (F : Nat → Int32) (P : Nat → Nat) (v : Int32) : am_pf (heap A F P) 164 6 10 (.int v) = some (heap A (up F 16410 v) P) := rfl
set_option maxRecDepth 100000 in
theorem hpF_184_1 (A : Nat → List Int32) (F : Nat → Int32) (P : Nat → Nat) (v : Int32) : am_pf (heap A F P) 184 2 1 (.int v) = some (heap A (up F 18401 v) P) := rfl
set_option maxRecDepth 100000 in
theorem hpF_184_5 (A : Nat → List Int32) (F : Nat → Int32) (P : Nat → Nat) (v : Int32) : am_pf (heap A F P) 184 2 5 (.int v) = some (heap A (up F 18405 v) P) := rfl
set_option maxRecDepth 100000 in
theorem hpF_184_6 (A : Nat → List Int32) (F : Nat → Int32) (P : Nat → Nat) (v : Int32) : am_pf (heap A F P) 184 2 6 (.int v) = some (heap A (up F 18406 v) P) := rfl
set_option maxRecDepth 100000 in
theorem hpF_184_7 (A : Nat → List Int32) (F : Nat → Int32) (P : Nat → Nat) (v : Int32) : am_pf (heap A F P) 184 2 7 (.int v) = some (heap A (up F 18407 v) P) := rfl
set_option maxRecDepth 100000 in
theorem hpF_184_8 (A : Nat → List Int32) (F : Nat → Int32) (P : Nat → Nat) (v : Int32) : am_pf (heap A F P) 184 2 8 (.int v) = some (heap A (up F 18408 v) P) := rfl
set_option maxRecDepth 100000 in
theorem hpF_184_9 (A : Nat → List Int32) (F : Nat → Int32) (P : Nat → Nat) (v : Int32) : am_pf (heap A F P) 184 2 9 (.int v) = some (heap A (up F 18409 v) P) := rfl
set_option maxRecDepth 100000 in
theorem hpF_192_2 (A : Nat → List Int32) (F : Nat → Int32) (P : Nat → Nat) (v : Int32) : am_pf (heap A F P) 192 10 2 (.int v) = some (heap A (up F 19202 v) P) := rfl
set_option maxRecDepth 100000 in
theorem hpF_192_3 (A : Nat → List Int32) (F : Nat → Int32) (P : Nat → Nat) (v : Int32) : am_pf (heap A F P) 192 10 3 (.int v) = some (heap A (up F 19203 v) P) := rfl
set_option maxRecDepth 100000 in
theorem hpF_192_5 (A : Nat → List Int32) (F : Nat → Int32) (P : Nat → Nat) (v : Int32) : am_pf (heap A F P) 192 10 5 (.int v) = some (heap A (up F 19205 v) P) := rfl
set_option maxRecDepth 100000 in
theorem hpF_192_6 (A : Nat → List Int32) (F : Nat → Int32) (P : Nat → Nat) (v : Int32) : am_pf (heap A F P) 192 10 6 (.int v) = some (heap A (up F 19206 v) P) := rfl
set_option maxRecDepth 100000 in
theorem hpF_192_7 (A : Nat → List Int32) (F : Nat → Int32) (P : Nat → Nat) (v : Int32) : am_pf (heap A F P) 192 10 7 (.int v) = some (heap A (up F 19207 v) P) := rfl
theorem hpFX : (∀ (A : Nat → List Int32) (F : Nat → Int32) (P : Nat → Nat) (v : Int32), am_pf (heap A F P) 2 7 3 (.int v) = some (heap A (up F 203 v) P)) ∧ (∀ (A : Nat → List Int32) (F : Nat → Int32) (P : Nat → Nat) (v : Int32), am_pf (heap A F P) 3 8 2 (.int v) = some (heap A (up F 302 v) P)) ∧ (∀ (A : Nat → List Int32) (F : Nat → Int32) (P : Nat → Nat) (v : Int32), am_pf (heap A F P) 8 3 4 (.int v) = some (heap A (up F 804 v) P)) ∧ (∀ (A : Nat → List Int32) (F : Nat → Int32) (P : Nat → Nat) (v : Int32), am_pf (heap A F P) 19 0 6 (.int v) = some (heap A (up F 1906 v) P)) ∧ (∀ (A : Nat → List Int32) (F : Nat → Int32) (P : Nat → Nat) (v : Int32), am_pf (heap A F P) 34 1 1 (.int v) = some (heap A (up F 3401 v) P)) ∧ (∀ (A : Nat → List Int32) (F : Nat → Int32) (P : Nat → Nat) (v : Int32), am_pf (heap A F P) 164 6 10 (.int v) = some (heap A (up F 16410 v) P)) ∧ (∀ (A : Nat → List Int32) (F : Nat → Int32) (P : Nat → Nat) (v : Int32), am_pf (heap A F P) 184 2 1 (.int v) = some (heap A (up F 18401 v) P)) ∧ (∀ (A : Nat → List Int32) (F : Nat → Int32) (P : Nat → Nat) (v : Int32), am_pf (heap A F P) 184 2 5 (.int v) = some (heap A (up F 18405 v) P)) ∧ (∀ (A : Nat → List Int32) (F : Nat → Int32) (P : Nat → Nat) (v : Int32), am_pf (heap A F P) 184 2 6 (.int v) = some (heap A (up F 18406 v) P)) ∧ (∀ (A : Nat → List Int32) (F : Nat → Int32) (P : Nat → Nat) (v : Int32), am_pf (heap A F P) 184 2 7 (.int v) = some (heap A (up F 18407 v) P)) ∧ (∀ (A : Nat → List Int32) (F : Nat → Int32) (P : Nat → Nat) (v : Int32), am_pf (heap A F P) 184 2 8 (.int v) = some (heap A (up F 18408 v) P)) ∧ (∀ (A : Nat → List Int32) (F : Nat → Int32) (P : Nat → Nat) (v : Int32), am_pf (heap A F P) 184 2 9 (.int v) = some (heap A (up F 18409 v) P)) := ⟨hpF_2_3, hpF_3_2, hpF_8_4, hpF_19_6, hpF_34_1, hpF_164_10, hpF_184_1, hpF_184_5, hpF_184_6, hpF_184_7, hpF_184_8, hpF_184_9⟩
theorem hpFM : (∀ (A : Nat → List Int32) (F : Nat → Int32) (P : Nat → Nat) (v : Int32), am_pf (heap A F P) 192 10 2 (.int v) = some (heap A (up F 19202 v) P)) ∧ (∀ (A : Nat → List Int32) (F : Nat → Int32) (P : Nat → Nat) (v : Int32), am_pf (heap A F P) 192 10 3 (.int v) = some (heap A (up F 19203 v) P)) ∧ (∀ (A : Nat → List Int32) (F : Nat → Int32) (P : Nat → Nat) (v : Int32), am_pf (heap A F P) 192 10 5 (.int v) = some (heap A (up F 19205 v) P)) ∧ (∀ (A : Nat → List Int32) (F : Nat → Int32) (P : Nat → Nat) (v : Int32), am_pf (heap A F P) 192 10 6 (.int v) = some (heap A (up F 19206 v) P)) ∧ (∀ (A : Nat → List Int32) (F : Nat → Int32) (P : Nat → Nat) (v : Int32), am_pf (heap A F P) 192 10 7 (.int v) = some (heap A (up F 19207 v) P)) := ⟨hpF_192_2, hpF_192_3, hpF_192_5, hpF_192_6, hpF_192_7⟩
theorem hpFY : (∀ (A : Nat → List Int32) (F : Nat → Int32) (P : Nat → Nat) (v : Int32), am_pf (heap A F P) 36 7 3 (.int v) = some (heap A (up F 3603 v) P)) ∧ (∀ (A : Nat → List Int32) (F : Nat → Int32) (P : Nat → Nat) (v : Int32), am_pf (heap A F P) 37 8 2 (.int v) = some (heap A (up F 3702 v) P)) ∧ (∀ (A : Nat → List Int32) (F : Nat → Int32) (P : Nat → Nat) (v : Int32), am_pf (heap A F P) 42 3 4 (.int v) = some (heap A (up F 4204 v) P)) ∧ (∀ (A : Nat → List Int32) (F : Nat → Int32) (P : Nat → Nat) (v : Int32), am_pf (heap A F P) 53 0 6 (.int v) = some (heap A (up F 5306 v) P)) ∧ (∀ (A : Nat → List Int32) (F : Nat → Int32) (P : Nat → Nat) (v : Int32), am_pf (heap A F P) 68 7 3 (.int v) = some (heap A (up F 6803 v) P)) ∧ (∀ (A : Nat → List Int32) (F : Nat → Int32) (P : Nat → Nat) (v : Int32), am_pf (heap A F P) 69 8 2 (.int v) = some (heap A (up F 6902 v) P)) ∧ (∀ (A : Nat → List Int32) (F : Nat → Int32) (P : Nat → Nat) (v : Int32), am_pf (heap A F P) 74 3 4 (.int v) = some (heap A (up F 7404 v) P)) ∧ (∀ (A : Nat → List Int32) (F : Nat → Int32) (P : Nat → Nat) (v : Int32), am_pf (heap A F P) 85 0 6 (.int v) = some (heap A (up F 8506 v) P)) ∧ (∀ (A : Nat → List Int32) (F : Nat → Int32) (P : Nat → Nat) (v : Int32), am_pf (heap A F P) 100 7 3 (.int v) = some (heap A (up F 10003 v) P)) ∧ (∀ (A : Nat → List Int32) (F : Nat → Int32) (P : Nat → Nat) (v : Int32), am_pf (heap A F P) 101 8 2 (.int v) = some (heap A (up F 10102 v) P)) ∧ (∀ (A : Nat → List Int32) (F : Nat → Int32) (P : Nat → Nat) (v : Int32), am_pf (heap A F P) 106 3 4 (.int v) = some (heap A (up F 10604 v) P)) ∧ (∀ (A : Nat → List Int32) (F : Nat → Int32) (P : Nat → Nat) (v : Int32), am_pf (heap A F P) 117 0 6 (.int v) = some (heap A (up F 11706 v) P)) ∧ (∀ (A : Nat → List Int32) (F : Nat → Int32) (P : Nat → Nat) (v : Int32), am_pf (heap A F P) 132 7 3 (.int v) = some (heap A (up F 13203 v) P)) ∧ (∀ (A : Nat → List Int32) (F : Nat → Int32) (P : Nat → Nat) (v : Int32), am_pf (heap A F P) 133 8 2 (.int v) = some (heap A (up F 13302 v) P)) ∧ (∀ (A : Nat → List Int32) (F : Nat → Int32) (P : Nat → Nat) (v : Int32), am_pf (heap A F P) 138 3 4 (.int v) = some (heap A (up F 13804 v) P)) ∧ (∀ (A : Nat → List Int32) (F : Nat → Int32) (P : Nat → Nat) (v : Int32), am_pf (heap A F P) 149 0 6 (.int v) = some (heap A (up F 14906 v) P)) := ⟨hpF_36_3, hpF_37_2, hpF_42_4, hpF_53_6, hpF_68_3, hpF_69_2, hpF_74_4, hpF_85_6, hpF_100_3, hpF_101_2, hpF_106_4, hpF_117_6, hpF_132_3, hpF_133_2, hpF_138_4, hpF_149_6⟩
set_option maxRecDepth 100000 in
theorem hpS_5 (A : Nat → List Int32) (F : Nat → Int32) (P : Nat → Nat) (i v : Int32) : am_as (heap A F P) 0 5 i v = bif am_in i (A 5).length then some (heap (up A 5 ((A 5).set i.toNatClampNeg v)) F P) else none := rfl
set_option maxRecDepth 100000 in
theorem hpS_7 (A : Nat → List Int32) (F : Nat → Int32) (P : Nat → Nat) (i v : Int32) : am_as (heap A F P) 0 7 i v = bif am_in i (A 7).length then some (heap (up A 7 ((A 7).set i.toNatClampNeg v)) F P) else none := rfl
set_option maxRecDepth 100000 in
theorem hpS_10 (A : Nat → List Int32) (F : Nat → Int32) (P : Nat → Nat) (i v : Int32) : am_as (heap A F P) 0 10 i v = bif am_in i (A 10).length then some (heap (up A 10 ((A 10).set i.toNatClampNeg v)) F P) else none := rfl
set_option maxRecDepth 100000 in
theorem hpS_12 (A : Nat → List Int32) (F : Nat → Int32) (P : Nat → Nat) (i v : Int32) : am_as (heap A F P) 0 12 i v = bif am_in i (A 12).length then some (heap (up A 12 ((A 12).set i.toNatClampNeg v)) F P) else none := rfl
set_option maxRecDepth 100000 in
theorem hpS_14 (A : Nat → List Int32) (F : Nat → Int32) (P : Nat → Nat) (i v : Int32) : am_as (heap A F P) 0 14 i v = bif am_in i (A 14).length then some (heap (up A 14 ((A 14).set i.toNatClampNeg v)) F P) else none := rfl
set_option maxRecDepth 100000 in
theorem hpS_16 (A : Nat → List Int32) (F : Nat → Int32) (P : Nat → Nat) (i v : Int32) : am_as (heap A F P) 0 16 i v = bif am_in i (A 16).length then some (heap (up A 16 ((A 16).set i.toNatClampNeg v)) F P) else none := rfl
set_option maxRecDepth 100000 in
theorem hpS_18 (A : Nat → List Int32) (F : Nat → Int32) (P : Nat → Nat) (i v : Int32) : am_as (heap A F P) 0 18 i v = bif am_in i (A 18).length then some (heap (up A 18 ((A 18).set i.toNatClampNeg v)) F P) else none := rfl
set_option maxRecDepth 100000 in
theorem hpS_21 (A : Nat → List Int32) (F : Nat → Int32) (P : Nat → Nat) (i v : Int32) : am_as (heap A F P) 0 21 i v = bif am_in i (A 21).length then some (heap (up A 21 ((A 21).set i.toNatClampNeg v)) F P) else none := rfl
set_option maxRecDepth 100000 in
theorem hpS_23 (A : Nat → List Int32) (F : Nat → Int32) (P : Nat → Nat) (i v : Int32) : am_as (heap A F P) 0 23 i v = bif am_in i (A 23).length then some (heap (up A 23 ((A 23).set i.toNatClampNeg v)) F P) else none := rfl
set_option maxRecDepth 100000 in
theorem hpS_25 (A : Nat → List Int32) (F : Nat → Int32) (P : Nat → Nat) (i v : Int32) : am_as (heap A F P) 0 25 i v = bif am_in i (A 25).length then some (heap (up A 25 ((A 25).set i.toNatClampNeg v)) F P) else none := rfl
set_option maxRecDepth 100000 in
theorem hpS_27 (A : Nat → List Int32) (F : Nat → Int32) (P : Nat → Nat) (i v : Int32) : am_as (heap A F P) 0 27 i v = bif am_in i (A 27).length then some (heap (up A 27 ((A 27).set i.toNatClampNeg v)) F P) else none := rfl
set_option maxRecDepth 100000 in
theorem hpS_29 (A : Nat → List Int32) (F : Nat → Int32) (P : Nat → Nat) (i v : Int32) : am_as (heap A F P) 0 29 i v = bif am_in i (A 29).length then some (heap (up A 29 ((A 29).set i.toNatClampNeg v)) F P) else none := rfl
set_option maxRecDepth 100000 in
theorem hpS_31 (A : Nat → List Int32) (F : Nat → Int32) (P : Nat → Nat) (i v : Int32) : am_as (heap A F P) 0 31 i v = bif am_in i (A 31).length then some (heap (up A 31 ((A 31).set i.toNatClampNeg v)) F P) else none := rfl
set_option maxRecDepth 100000 in
theorem hpS_33 (A : Nat → List Int32) (F : Nat → Int32) (P : Nat → Nat) (i v : Int32) : am_as (heap A F P) 0 33 i v = bif am_in i (A 33).length then some (heap (up A 33 ((A 33).set i.toNatClampNeg v)) F P) else none := rfl
set_option maxRecDepth 100000 in
theorem hpS_39 (A : Nat → List Int32) (F : Nat → Int32) (P : Nat → Nat) (i v : Int32) : am_as (heap A F P) 0 39 i v = bif am_in i (A 39).length then some (heap (up A 39 ((A 39).set i.toNatClampNeg v)) F P) else none := rfl
set_option maxRecDepth 100000 in
theorem hpS_41 (A : Nat → List Int32) (F : Nat → Int32) (P : Nat → Nat) (i v : Int32) : am_as (heap A F P) 0 41 i v = bif am_in i (A 41).length then some (heap (up A 41 ((A 41).set i.toNatClampNeg v)) F P) else none := rfl
set_option maxRecDepth 100000 in
theorem hpS_44 (A : Nat → List Int32) (F : Nat → Int32) (P : Nat → Nat) (i v : Int32) : am_as (heap A F P) 0 44 i v = bif am_in i (A 44).length then some (heap (up A 44 ((A 44).set i.toNatClampNeg v)) F P) else none := rfl
set_option maxRecDepth 100000 in
theorem hpS_46 (A : Nat → List Int32) (F : Nat → Int32) (P : Nat → Nat) (i v : Int32) : am_as (heap A F P) 0 46 i v = bif am_in i (A 46).length then some (heap (up A 46 ((A 46).set i.toNatClampNeg v)) F P) else none := rfl
set_option maxRecDepth 100000 in
theorem hpS_48 (A : Nat → List Int32) (F : Nat → Int32) (P : Nat → Nat) (i v : Int32) : am_as (heap A F P) 0 48 i v = bif am_in i (A 48).length then some (heap (up A 48 ((A 48).set i.toNatClampNeg v)) F P) else none := rfl
set_option maxRecDepth 100000 in
theorem hpS_50 (A : Nat → List Int32) (F : Nat → Int32) (P : Nat → Nat) (i v : Int32) : am_as (heap A F P) 0 50 i v = bif am_in i (A 50).length then some (heap (up A 50 ((A 50).set i.toNatClampNeg v)) F P) else none := rfl
set_option maxRecDepth 100000 in
theorem hpS_52 (A : Nat → List Int32) (F : Nat → Int32) (P : Nat → Nat) (i v : Int32) : am_as (heap A F P) 0 52 i v = bif am_in i (A 52).length then some (heap (up A 52 ((A 52).set i.toNatClampNeg v)) F P) else none := rfl
set_option maxRecDepth 100000 in
theorem hpS_55 (A : Nat → List Int32) (F : Nat → Int32) (P : Nat → Nat) (i v : Int32) : am_as (heap A F P) 0 55 i v = bif am_in i (A 55).length then some (heap (up A 55 ((A 55).set i.toNatClampNeg v)) F P) else none := rfl
set_option maxRecDepth 100000 in
theorem hpS_57 (A : Nat → List Int32) (F : Nat → Int32) (P : Nat → Nat) (i v : Int32) : am_as (heap A F P) 0 57 i v = bif am_in i (A 57).length then some (heap (up A 57 ((A 57).set i.toNatClampNeg v)) F P) else none := rfl
set_option maxRecDepth 100000 in
theorem hpS_59 (A : Nat → List Int32) (F : Nat → Int32) (P : Nat → Nat) (i v : Int32) : am_as (heap A F P) 0 59 i v = bif am_in i (A 59).length then some (heap (up A 59 ((A 59).set i.toNatClampNeg v)) F P) else none := rfl
set_option maxRecDepth 100000 in
theorem hpS_61 (A : Nat → List Int32) (F : Nat → Int32) (P : Nat → Nat) (i v : Int32) : am_as (heap A F P) 0 61 i v = bif am_in i (A 61).length then some (heap (up A 61 ((A 61).set i.toNatClampNeg v)) F P) else none := rfl
set_option maxRecDepth 100000 in
theorem hpS_63 (A : Nat → List Int32) (F : Nat → Int32) (P : Nat → Nat) (i v : Int32) : am_as (heap A F P) 0 63 i v = bif am_in i (A 63).length then some (heap (up A 63 ((A 63).set i.toNatClampNeg v)) F P) else none := rfl
set_option maxRecDepth 100000 in
theorem hpS_65 (A : Nat → List Int32) (F : Nat → Int32) (P : Nat → Nat) (i v : Int32) : am_as (heap A F P) 0 65 i v = bif am_in i (A 65).length then some (heap (up A 65 ((A 65).set i.toNatClampNeg v)) F P) else none := rfl
set_option maxRecDepth 100000 in
theorem hpS_67 (A : Nat → List Int32) (F : Nat → Int32) (P : Nat → Nat) (i v : Int32) : am_as (heap A F P) 0 67 i v = bif am_in i (A 67).length then some (heap (up A 67 ((A 67).set i.toNatClampNeg v)) F P) else none := rfl
set_option maxRecDepth 100000 in
theorem hpS_71 (A : Nat → List Int32) (F : Nat → Int32) (P : Nat → Nat) (i v : Int32) : am_as (heap A F P) 0 71 i v = bif am_in i (A 71).length then some (heap (up A 71 ((A 71).set i.toNatClampNeg v)) F P) else none := rfl
set_option maxRecDepth 100000 in
theorem hpS_73 (A : Nat → List Int32) (F : Nat → Int32) (P : Nat → Nat) (i v : Int32) : am_as (heap A F P) 0 73 i v = bif am_in i (A 73).length then some (heap (up A 73 ((A 73).set i.toNatClampNeg v)) F P) else none := rfl
set_option maxRecDepth 100000 in
theorem hpS_76 (A : Nat → List Int32) (F : Nat → Int32) (P : Nat → Nat) (i v : Int32) : am_as (heap A F P) 0 76 i v = bif am_in i (A 76).length then some (heap (up A 76 ((A 76).set i.toNatClampNeg v)) F P) else none := rfl
set_option maxRecDepth 100000 in
theorem hpS_78 (A : Nat → List Int32) (F : Nat → Int32) (P : Nat → Nat) (i v : Int32) : am_as (heap A F P) 0 78 i v = bif am_in i (A 78).length then some (heap (up A 78 ((A 78).set i.toNatClampNeg v)) F P) else none := rfl
set_option maxRecDepth 100000 in
theorem hpS_80 (A : Nat → List Int32) (F : Nat → Int32) (P : Nat → Nat) (i v : Int32) : am_as (heap A F P) 0 80 i v = bif am_in i (A 80).length then some (heap (up A 80 ((A 80).set i.toNatClampNeg v)) F P) else none := rfl
set_option maxRecDepth 100000 in
theorem hpS_82 (A : Nat → List Int32) (F : Nat → Int32) (P : Nat → Nat) (i v : Int32) : am_as (heap A F P) 0 82 i v = bif am_in i (A 82).length then some (heap (up A 82 ((A 82).set i.toNatClampNeg v)) F P) else none := rfl
set_option maxRecDepth 100000 in
theorem hpS_84 (A : Nat → List Int32) (F : Nat → Int32) (P : Nat → Nat) (i v : Int32) : am_as (heap A F P) 0 84 i v = bif am_in i (A 84).length then some (heap (up A 84 ((A 84).set i.toNatClampNeg v)) F P) else none := rfl
set_option maxRecDepth 100000 in
theorem hpS_87 (A : Nat → List Int32) (F : Nat → Int32) (P : Nat → Nat) (i v : Int32) : am_as (heap A F P) 0 87 i v = bif am_in i (A 87).length then some (heap (up A 87 ((A 87).set i.toNatClampNeg v)) F P) else none := rfl
set_option maxRecDepth 100000 in
theorem hpS_89 (A : Nat → List Int32) (F : Nat → Int32) (P : Nat → Nat) (i v : Int32) : am_as (heap A F P) 0 89 i v = bif am_in i (A 89).length then some (heap (up A 89 ((A 89).set i.toNatClampNeg v)) F P) else none := rfl
set_option maxRecDepth 100000 in
theorem hpS_91 (A : Nat → List Int32) (F : Nat → Int32) (P : Nat → Nat) (i v : Int32) : am_as (heap A F P) 0 91 i v = bif am_in i (A 91).length then some (heap (up A 91 ((A 91).set i.toNatClampNeg v)) F P) else none := rfl
set_option maxRecDepth 100000 in
theorem hpS_93 (A : Nat → List Int32) (F : Nat → Int32) (P : Nat → Nat) (i v : Int32) : am_as (heap A F P) 0 93 i v = bif am_in i (A 93).length then some (heap (up A 93 ((A 93).set i.toNatClampNeg v)) F P) else none := rfl
set_option maxRecDepth 100000 in
theorem hpS_95 (A : Nat → List Int32) (F : Nat → Int32) (P : Nat → Nat) (i v : Int32) : am_as (heap A F P) 0 95 i v = bif am_in i (A 95).length then some (heap (up A 95 ((A 95).set i.toNatClampNeg v)) F P) else none := rfl
set_option maxRecDepth 100000 in
theorem hpS_97 (A : Nat → List Int32) (F : Nat → Int32) (P : Nat → Nat) (i v : Int32) : am_as (heap A F P) 0 97 i v = bif am_in i (A 97).length then some (heap (up A 97 ((A 97).set i.toNatClampNeg v)) F P) else none := rfl
set_option maxRecDepth 100000 in
theorem hpS_99 (A : Nat → List Int32) (F : Nat → Int32) (P : Nat → Nat) (i v : Int32) : am_as (heap A F P) 0 99 i v = bif am_in i (A 99).length then some (heap (up A 99 ((A 99).set i.toNatClampNeg v)) F P) else none := rfl
set_option maxRecDepth 100000 in
theorem hpS_103 (A : Nat → List Int32) (F : Nat → Int32) (P : Nat → Nat) (i v : Int32) : am_as (heap A F P) 0 103 i v = bif am_in i (A 103).length then some (heap (up A 103 ((A 103).set i.toNatClampNeg v)) F P) else none := rfl
set_option maxRecDepth 100000 in
theorem hpS_105 (A : Nat → List Int32) (F : Nat → Int32) (P : Nat → Nat) (i v : Int32) : am_as (heap A F P) 0 105 i v = bif am_in i (A 105).length then some (heap (up A 105 ((A 105).set i.toNatClampNeg v)) F P) else none := rfl
set_option maxRecDepth 100000 in
theorem hpS_108 (A : Nat → List Int32) (F : Nat → Int32) (P : Nat → Nat) (i v : Int32) : am_as (heap A F P) 0 108 i v = bif am_in i (A 108).length then some (heap (up A 108 ((A 108).set i.toNatClampNeg v)) F P) else none := rfl
set_option maxRecDepth 100000 in
theorem hpS_110 (A : Nat → List Int32) (F : Nat → Int32) (P : Nat → Nat) (i v : Int32) : am_as (heap A F P) 0 110 i v = bif am_in i (A 110).length then some (heap (up A 110 ((A 110).set i.toNatClampNeg v)) F P) else none := rfl
set_option maxRecDepth 100000 in
theorem hpS_112 (A : Nat → List Int32) (F : Nat → Int32) (P : Nat → Nat) (i v : Int32) : am_as (heap A F P) 0 112 i v = bif am_in i (A 112).length then some (heap (up A 112 ((A 112).set i.toNatClampNeg v)) F P) else none := rfl
set_option maxRecDepth 100000 in
theorem hpS_114 (A : Nat → List Int32) (F : Nat → Int32) (P : Nat → Nat) (i v : Int32) : am_as (heap A F P) 0 114 i v = bif am_in i (A 114).length then some (heap (up A 114 ((A 114).set i.toNatClampNeg v)) F P) else none := rfl
set_option maxRecDepth 100000 in
theorem hpS_116 (A : Nat → List Int32) (F : Nat → Int32) (P : Nat → Nat) (i v : Int32) : am_as (heap A F P) 0 116 i v = bif am_in i (A 116).length then some (heap (up A 116 ((A 116).set i.toNatClampNeg v)) F P) else none := rfl
set_option maxRecDepth 100000 in
theorem hpS_119 (A : Nat → List Int32) (F : Nat → Int32) (P : Nat → Nat) (i v : Int32) : am_as (heap A F P) 0 119 i v = bif am_in i (A 119).length then some (heap (up A 119 ((A 119).set i.toNatClampNeg v)) F P) else none := rfl
set_option maxRecDepth 100000 in
theorem hpS_121 (A : Nat → List Int32) (F : Nat → Int32) (P : Nat → Nat) (i v : Int32) : am_as (heap A F P) 0 121 i v = bif am_in i (A 121).length then some (heap (up A 121 ((A 121).set i.toNatClampNeg v)) F P) else none := rfl
set_option maxRecDepth 100000 in
theorem hpS_123 (A : Nat → List Int32) (F : Nat → Int32) (P : Nat → Nat) (i v : Int32) : am_as (heap A F P) 0 123 i v = bif am_in i (A 123).length then some (heap (up A 123 ((A 123).set i.toNatClampNeg v)) F P) else none := rfl
set_option maxRecDepth 100000 in
theorem hpS_125 (A : Nat → List Int32) (F : Nat → Int32) (P : Nat → Nat) (i v : Int32) : am_as (heap A F P) 0 125 i v = bif am_in i (A 125).length then some (heap (up A 125 ((A 125).set i.toNatClampNeg v)) F P) else none := rfl
set_option maxRecDepth 100000 in
theorem hpS_127 (A : Nat → List Int32) (F : Nat → Int32) (P : Nat → Nat) (i v : Int32) : am_as (heap A F P) 0 127 i v = bif am_in i (A 127).length then some (heap (up A 127 ((A 127).set i.toNatClampNeg v)) F P) else none := rfl
set_option maxRecDepth 100000 in
theorem hpS_129 (A : Nat → List Int32) (F : Nat → Int32) (P : Nat → Nat) (i v : Int32) : am_as (heap A F P) 0 129 i v = bif am_in i (A 129).length then some (heap (up A 129 ((A 129).set i.toNatClampNeg v)) F P) else none := rfl
set_option maxRecDepth 100000 in
theorem hpS_131 (A : Nat → List Int32) (F : Nat → Int32) (P : Nat → Nat) (i v : Int32) : am_as (heap A F P) 0 131 i v = bif am_in i (A 131).length then some (heap (up A 131 ((A 131).set i.toNatClampNeg v)) F P) else none := rfl
set_option maxRecDepth 100000 in
theorem hpS_135 (A : Nat → List Int32) (F : Nat → Int32) (P : Nat → Nat) (i v : Int32) : am_as (heap A F P) 0 135 i v = bif am_in i (A 135).length then some (heap (up A 135 ((A 135).set i.toNatClampNeg v)) F P) else none := rfl
set_option maxRecDepth 100000 in
theorem hpS_137 (A : Nat → List Int32) (F : Nat → Int32) (P : Nat → Nat) (i v : Int32) : am_as (heap A F P) 0 137 i v = bif am_in i (A 137).length then some (heap (up A 137 ((A 137).set i.toNatClampNeg v)) F P) else none := rfl
set_option maxRecDepth 100000 in
theorem hpS_140 (A : Nat → List Int32) (F : Nat → Int32) (P : Nat → Nat) (i v : Int32) : am_as (heap A F P) 0 140 i v = bif am_in i (A 140).length then some (heap (up A 140 ((A 140).set i.toNatClampNeg v)) F P) else none := rfl
set_option maxRecDepth 100000 in
theorem hpS_142 (A : Nat → List Int32) (F : Nat → Int32) (P : Nat → Nat) (i v : Int32) : am_as (heap A F P) 0 142 i v = bif am_in i (A 142).length then some (heap (up A 142 ((A 142).set i.toNatClampNeg v)) F P) else none := rfl
set_option maxRecDepth 100000 in
theorem hpS_144 (A : Nat → List Int32) (F : Nat → Int32) (P : Nat → Nat) (i v : Int32) : am_as (heap A F P) 0 144 i v = bif am_in i (A 144).length then some (heap (up A 144 ((A 144).set i.toNatClampNeg v)) F P) else none := rfl
set_option maxRecDepth 100000 in
theorem hpS_146 (A : Nat → List Int32) (F : Nat → Int32) (P : Nat → Nat) (i v : Int32) : am_as (heap A F P) 0 146 i v = bif am_in i (A 146).length then some (heap (up A 146 ((A 146).set i.toNatClampNeg v)) F P) else none := rfl
set_option maxRecDepth 100000 in
theorem hpS_148 (A : Nat → List Int32) (F : Nat → Int32) (P : Nat → Nat) (i v : Int32) : am_as (heap A F P) 0 148 i v = bif am_in i (A 148).length then some (heap (up A 148 ((A 148).set i.toNatClampNeg v)) F P) else none := rfl
set_option maxRecDepth 100000 in
theorem hpS_151 (A : Nat → List Int32) (F : Nat → Int32) (P : Nat → Nat) (i v : Int32) : am_as (heap A F P) 0 151 i v = bif am_in i (A 151).length then some (heap (up A 151 ((A 151).set i.toNatClampNeg v)) F P) else none := rfl
set_option maxRecDepth 100000 in
theorem hpS_153 (A : Nat → List Int32) (F : Nat → Int32) (P : Nat → Nat) (i v : Int32) : am_as (heap A F P) 0 153 i v = bif am_in i (A 153).length then some (heap (up A 153 ((A 153).set i.toNatClampNeg v)) F P) else none := rfl
set_option maxRecDepth 100000 in
theorem hpS_155 (A : Nat → List Int32) (F : Nat → Int32) (P : Nat → Nat) (i v : Int32) : am_as (heap A F P) 0 155 i v = bif am_in i (A 155).length then some (heap (up A 155 ((A 155).set i.toNatClampNeg v)) F P) else none := rfl
set_option maxRecDepth 100000 in
theorem hpS_157 (A : Nat → List Int32) (F : Nat → Int32) (P : Nat → Nat) (i v : Int32) : am_as (heap A F P) 0 157 i v = bif am_in i (A 157).length then some (heap (up A 157 ((A 157).set i.toNatClampNeg v)) F P) else none := rfl
set_option maxRecDepth 100000 in
theorem hpS_159 (A : Nat → List Int32) (F : Nat → Int32) (P : Nat → Nat) (i v : Int32) : am_as (heap A F P) 0 159 i v = bif am_in i (A 159).length then some (heap (up A 159 ((A 159).set i.toNatClampNeg v)) F P) else none := rfl
set_option maxRecDepth 100000 in
theorem hpS_161 (A : Nat → List Int32) (F : Nat → Int32) (P : Nat → Nat) (i v : Int32) : am_as (heap A F P) 0 161 i v = bif am_in i (A 161).length then some (heap (up A 161 ((A 161).set i.toNatClampNeg v)) F P) else none := rfl
set_option maxRecDepth 100000 in
theorem hpS_163 (A : Nat → List Int32) (F : Nat → Int32) (P : Nat → Nat) (i v : Int32) : am_as (heap A F P) 0 163 i v = bif am_in i (A 163).length then some (heap (up A 163 ((A 163).set i.toNatClampNeg v)) F P) else none := rfl
set_option maxRecDepth 100000 in
theorem hpS_166 (A : Nat → List Int32) (F : Nat → Int32) (P : Nat → Nat) (i v : Int32) : am_as (heap A F P) 0 166 i v = bif am_in i (A 166).length then some (heap (up A 166 ((A 166).set i.toNatClampNeg v)) F P) else none := rfl
set_option maxRecDepth 100000 in
theorem hpS_168 (A : Nat → List Int32) (F : Nat → Int32) (P : Nat → Nat) (i v : Int32) : am_as (heap A F P) 0 168 i v = bif am_in i (A 168).length then some (heap (up A 168 ((A 168).set i.toNatClampNeg v)) F P) else none := rfl
set_option maxRecDepth 100000 in
theorem hpS_170 (A : Nat → List Int32) (F : Nat → Int32) (P : Nat → Nat) (i v : Int32) : am_as (heap A F P) 0 170 i v = bif am_in i (A 170).length then some (heap (up A 170 ((A 170).set i.toNatClampNeg v)) F P) else none := rfl
set_option maxRecDepth 100000 in
theorem hpS_172 (A : Nat → List Int32) (F : Nat → Int32) (P : Nat → Nat) (i v : Int32) : am_as (heap A F P) 0 172 i v = bif am_in i (A 172).length then some (heap (up A 172 ((A 172).set i.toNatClampNeg v)) F P) else none := rfl
set_option maxRecDepth 100000 in
theorem hpS_174 (A : Nat → List Int32) (F : Nat → Int32) (P : Nat → Nat) (i v : Int32) : am_as (heap A F P) 0 174 i v = bif am_in i (A 174).length then some (heap (up A 174 ((A 174).set i.toNatClampNeg v)) F P) else none := rfl
set_option maxRecDepth 100000 in
theorem hpS_176 (A : Nat → List Int32) (F : Nat → Int32) (P : Nat → Nat) (i v : Int32) : am_as (heap A F P) 0 176 i v = bif am_in i (A 176).length then some (heap (up A 176 ((A 176).set i.toNatClampNeg v)) F P) else none := rfl
set_option maxRecDepth 100000 in
theorem hpS_178 (A : Nat → List Int32) (F : Nat → Int32) (P : Nat → Nat) (i v : Int32) : am_as (heap A F P) 0 178 i v = bif am_in i (A 178).length then some (heap (up A 178 ((A 178).set i.toNatClampNeg v)) F P) else none := rfl
set_option maxRecDepth 100000 in
theorem hpS_180 (A : Nat → List Int32) (F : Nat → Int32) (P : Nat → Nat) (i v : Int32) : am_as (heap A F P) 0 180 i v = bif am_in i (A 180).length then some (heap (up A 180 ((A 180).set i.toNatClampNeg v)) F P) else none := rfl
set_option maxRecDepth 100000 in
theorem hpS_182 (A : Nat → List Int32) (F : Nat → Int32) (P : Nat → Nat) (i v : Int32) : am_as (heap A F P) 0 182 i v = bif am_in i (A 182).length then some (heap (up A 182 ((A 182).set i.toNatClampNeg v)) F P) else none := rfl
set_option maxRecDepth 100000 in
theorem hpS_185 (A : Nat → List Int32) (F : Nat → Int32) (P : Nat → Nat) (i v : Int32) : am_as (heap A F P) 1 185 i v = bif am_in i (A 185).length then some (heap (up A 185 ((A 185).set i.toNatClampNeg v)) F P) else none := rfl
set_option maxRecDepth 100000 in
theorem hpS_187 (A : Nat → List Int32) (F : Nat → Int32) (P : Nat → Nat) (i v : Int32) : am_as (heap A F P) 0 187 i v = bif am_in i (A 187).length then some (heap (up A 187 ((A 187).set i.toNatClampNeg v)) F P) else none := rfl
set_option maxRecDepth 100000 in
theorem hpS_189 (A : Nat → List Int32) (F : Nat → Int32) (P : Nat → Nat) (i v : Int32) : am_as (heap A F P) 0 189 i v = bif am_in i (A 189).length then some (heap (up A 189 ((A 189).set i.toNatClampNeg v)) F P) else none := rfl
set_option maxRecDepth 100000 in
theorem hpS_191 (A : Nat → List Int32) (F : Nat → Int32) (P : Nat → Nat) (i v : Int32) : am_as (heap A F P) 0 191 i v = bif am_in i (A 191).length then some (heap (up A 191 ((A 191).set i.toNatClampNeg v)) F P) else none := rfl
set_option maxRecDepth 100000 in
theorem hpS_193 (A : Nat → List Int32) (F : Nat → Int32) (P : Nat → Nat) (i v : Int32) : am_as (heap A F P) 0 193 i v = bif am_in i (A 193).length then some (heap (up A 193 ((A 193).set i.toNatClampNeg v)) F P) else none := rfl
set_option maxRecDepth 100000 in
theorem hpS_194 (A : Nat → List Int32) (F : Nat → Int32) (P : Nat → Nat) (i v : Int32) : am_as (heap A F P) 0 194 i v = bif am_in i (A 194).length then some (heap (up A 194 ((A 194).set i.toNatClampNeg v)) F P) else none := rfl
set_option maxRecDepth 100000 in
theorem hpS_195 (A : Nat → List Int32) (F : Nat → Int32) (P : Nat → Nat) (i v : Int32) : am_as (heap A F P) 1 195 i v = bif am_in i (A 195).length then some (heap (up A 195 ((A 195).set i.toNatClampNeg v)) F P) else none := rfl
set_option maxRecDepth 100000 in
theorem hpS_196 (A : Nat → List Int32) (F : Nat → Int32) (P : Nat → Nat) (i v : Int32) : am_as (heap A F P) 0 196 i v = bif am_in i (A 196).length then some (heap (up A 196 ((A 196).set i.toNatClampNeg v)) F P) else none := rfl
set_option maxRecDepth 100000 in
theorem hpS_197 (A : Nat → List Int32) (F : Nat → Int32) (P : Nat → Nat) (i v : Int32) : am_as (heap A F P) 0 197 i v = bif am_in i (A 197).length then some (heap (up A 197 ((A 197).set i.toNatClampNeg v)) F P) else none := rfl
set_option maxRecDepth 100000 in
theorem hpS_198 (A : Nat → List Int32) (F : Nat → Int32) (P : Nat → Nat) (i v : Int32) : am_as (heap A F P) 0 198 i v = bif am_in i (A 198).length then some (heap (up A 198 ((A 198).set i.toNatClampNeg v)) F P) else none := rfl
set_option maxRecDepth 100000 in
theorem hpS_199 (A : Nat → List Int32) (F : Nat → Int32) (P : Nat → Nat) (i v : Int32) : am_as (heap A F P) 0 199 i v = bif am_in i (A 199).length then some (heap (up A 199 ((A 199).set i.toNatClampNeg v)) F P) else none := rfl
set_option maxRecDepth 100000 in
theorem hpS_200 (A : Nat → List Int32) (F : Nat → Int32) (P : Nat → Nat) (i v : Int32) : am_as (heap A F P) 0 200 i v = bif am_in i (A 200).length then some (heap (up A 200 ((A 200).set i.toNatClampNeg v)) F P) else none := rfl
set_option maxRecDepth 100000 in
theorem hpS_201 (A : Nat → List Int32) (F : Nat → Int32) (P : Nat → Nat) (i v : Int32) : am_as (heap A F P) 0 201 i v = bif am_in i (A 201).length then some (heap (up A 201 ((A 201).set i.toNatClampNeg v)) F P) else none := rfl
set_option maxRecDepth 100000 in
theorem hpS_202 (A : Nat → List Int32) (F : Nat → Int32) (P : Nat → Nat) (i v : Int32) : am_as (heap A F P) 0 202 i v = bif am_in i (A 202).length then some (heap (up A 202 ((A 202).set i.toNatClampNeg v)) F P) else none := rfl
set_option maxRecDepth 100000 in
theorem hpS_203 (A : Nat → List Int32) (F : Nat → Int32) (P : Nat → Nat) (i v : Int32) : am_as (heap A F P) 0 203 i v = bif am_in i (A 203).length then some (heap (up A 203 ((A 203).set i.toNatClampNeg v)) F P) else none := rfl
set_option maxRecDepth 100000 in
theorem hpS_204 (A : Nat → List Int32) (F : Nat → Int32) (P : Nat → Nat) (i v : Int32) : am_as (heap A F P) 0 204 i v = bif am_in i (A 204).length then some (heap (up A 204 ((A 204).set i.toNatClampNeg v)) F P) else none := rfl
set_option maxRecDepth 100000 in
theorem hpS_205 (A : Nat → List Int32) (F : Nat → Int32) (P : Nat → Nat) (i v : Int32) : am_as (heap A F P) 0 205 i v = bif am_in i (A 205).length then some (heap (up A 205 ((A 205).set i.toNatClampNeg v)) F P) else none := rfl
theorem hpSX : (∀ (A : Nat → List Int32) (F : Nat → Int32) (P : Nat → Nat) (i v : Int32), am_as (heap A F P) 0 5 i v = bif am_in i (A 5).length then some (heap (up A 5 ((A 5).set i.toNatClampNeg v)) F P) else none) ∧ (∀ (A : Nat → List Int32) (F : Nat → Int32) (P : Nat → Nat) (i v : Int32), am_as (heap A F P) 0 7 i v = bif am_in i (A 7).length then some (heap (up A 7 ((A 7).set i.toNatClampNeg v)) F P) else none) ∧ (∀ (A : Nat → List Int32) (F : Nat → Int32) (P : Nat → Nat) (i v : Int32), am_as (heap A F P) 0 10 i v = bif am_in i (A 10).length then some (heap (up A 10 ((A 10).set i.toNatClampNeg v)) F P) else none) ∧ (∀ (A : Nat → List Int32) (F : Nat → Int32) (P : Nat → Nat) (i v : Int32), am_as (heap A F P) 0 12 i v = bif am_in i (A 12).length then some (heap (up A 12 ((A 12).set i.toNatClampNeg v)) F P) else none) ∧ (∀ (A : Nat → List Int32) (F : Nat → Int32) (P : Nat → Nat) (i v : Int32), am_as (heap A F P) 0 14 i v = bif am_in i (A 14).length then some (heap (up A 14 ((A 14).set i.toNatClampNeg v)) F P) else none) ∧ (∀ (A : Nat → List Int32) (F : Nat → Int32) (P : Nat → Nat) (i v : Int32), am_as (heap A F P) 0 16 i v = bif am_in i (A 16).length then some (heap (up A 16 ((A 16).set i.toNatClampNeg v)) F P) else none) ∧ (∀ (A : Nat → List Int32) (F : Nat → Int32) (P : Nat → Nat) (i v : Int32), am_as (heap A F P) 0 18 i v = bif am_in i (A 18).length then some (heap (up A 18 ((A 18).set i.toNatClampNeg v)) F P) else none) ∧ (∀ (A : Nat → List Int32) (F : Nat → Int32) (P : Nat → Nat) (i v : Int32), am_as (heap A F P) 0 21 i v = bif am_in i (A 21).length then some (heap (up A 21 ((A 21).set i.toNatClampNeg v)) F P) else none) ∧ (∀ (A : Nat → List Int32) (F : Nat → Int32) (P : Nat → Nat) (i v : Int32), am_as (heap A F P) 0 23 i v = bif am_in i (A 23).length then some (heap (up A 23 ((A 23).set i.toNatClampNeg v)) F P) else none) ∧ (∀ (A : Nat → List Int32) (F : Nat → Int32) (P : Nat → Nat) (i v : Int32), am_as (heap A F P) 0 25 i v = bif am_in i (A 25).length then some (heap (up A 25 ((A 25).set i.toNatClampNeg v)) F P) else none) ∧ (∀ (A : Nat → List Int32) (F : Nat → Int32) (P : Nat → Nat) (i v : Int32), am_as (heap A F P) 0 27 i v = bif am_in i (A 27).length then some (heap (up A 27 ((A 27).set i.toNatClampNeg v)) F P) else none) ∧ (∀ (A : Nat → List Int32) (F : Nat → Int32) (P : Nat → Nat) (i v : Int32), am_as (heap A F P) 0 29 i v = bif am_in i (A 29).length then some (heap (up A 29 ((A 29).set i.toNatClampNeg v)) F P) else none) ∧ (∀ (A : Nat → List Int32) (F : Nat → Int32) (P : Nat → Nat) (i v : Int32), am_as (heap A F P) 0 31 i v = bif am_in i (A 31).length then some (heap (up A 31 ((A 31).set i.toNatClampNeg v)) F P) else none) ∧ (∀ (A : Nat → List Int32) (F : Nat → Int32) (P : Nat → Nat) (i v : Int32), am_as (heap A F P) 0 33 i v = bif am_in i (A 33).length then some (heap (up A 33 ((A 33).set i.toNatClampNeg v)) F P) else none) ∧ (∀ (A : Nat → List Int32) (F : Nat → Int32) (P : Nat → Nat) (i v : Int32), am_as (heap A F P) 0 166 i v = bif am_in i (A 166).length then some (heap (up A 166 ((A 166).set i.toNatClampNeg v)) F P) else none) ∧ (∀ (A : Nat → List Int32) (F : Nat → Int32) (P : Nat → Nat) (i v : Int32), am_as (heap A F P) 0 168 i v = bif am_in i (A 168).length then some (heap (up A 168 ((A 168).set i.toNatClampNeg v)) F P) else none) ∧ (∀ (A : Nat → List Int32) (F : Nat → Int32) (P : Nat → Nat) (i v : Int32), am_as (heap A F P) 0 170 i v = bif am_in i (A 170).length then some (heap (up A 170 ((A 170).set i.toNatClampNeg v)) F P) else none) ∧ (∀ (A : Nat → List Int32) (F : Nat → Int32) (P : Nat → Nat) (i v : Int32), am_as (heap A F P) 0 172 i v = bif am_in i (A 172).length then some (heap (up A 172 ((A 172).set i.toNatClampNeg v)) F P) else none) ∧ (∀ (A : Nat → List Int32) (F : Nat → Int32) (P : Nat → Nat) (i v : Int32), am_as (heap A F P) 0 174 i v = bif am_in i (A 174).length then some (heap (up A 174 ((A 174).set i.toNatClampNeg v)) F P) else none) ∧ (∀ (A : Nat → List Int32) (F : Nat → Int32) (P : Nat → Nat) (i v : Int32), am_as (heap A F P) 0 176 i v = bif am_in i (A 176).length then some (heap (up A 176 ((A 176).set i.toNatClampNeg v)) F P) else none) ∧ (∀ (A : Nat → List Int32) (F : Nat → Int32) (P : Nat → Nat) (i v : Int32), am_as (heap A F P) 0 178 i v = bif am_in i (A 178).length then some (heap (up A 178 ((A 178).set i.toNatClampNeg v)) F P) else none) ∧ (∀ (A : Nat → List Int32) (F : Nat → Int32) (P : Nat → Nat) (i v : Int32), am_as (heap A F P) 0 180 i v = bif am_in i (A 180).length then some (heap (up A 180 ((A 180).set i.toNatClampNeg v)) F P) else none) ∧ (∀ (A : Nat → List Int32) (F : Nat → Int32) (P : Nat → Nat) (i v : Int32), am_as (heap A F P) 0 182 i v = bif am_in i (A 182).length then some (heap (up A 182 ((A 182).set i.toNatClampNeg v)) F P) else none) ∧ (∀ (A : Nat → List Int32) (F : Nat → Int32) (P : Nat → Nat) (i v : Int32), am_as (heap A F P) 1 185 i v = bif am_in i (A 185).length then some (heap (up A 185 ((A 185).set i.toNatClampNeg v)) F P) else none) ∧ (∀ (A : Nat → List Int32) (F : Nat → Int32) (P : Nat → Nat) (i v : Int32), am_as (heap A F P) 0 187 i v = bif am_in i (A 187).length then some (heap (up A 187 ((A 187).set i.toNatClampNeg v)) F P) else none) ∧ (∀ (A : Nat → List Int32) (F : Nat → Int32) (P : Nat → Nat) (i v : Int32), am_as (heap A F P) 0 189 i v = bif am_in i (A 189).length then some (heap (up A 189 ((A 189).set i.toNatClampNeg v)) F P) else none) ∧ (∀ (A : Nat → List Int32) (F : Nat → Int32) (P : Nat → Nat) (i v : Int32), am_as (heap A F P) 0 191 i v = bif am_in i (A 191).length then some (heap (up A 191 ((A 191).set i.toNatClampNeg v)) F P) else none) := ⟨hpS_5, hpS_7, hpS_10, hpS_12, hpS_14, hpS_16, hpS_18, hpS_21, hpS_23, hpS_25, hpS_27, hpS_29, hpS_31, hpS_33, hpS_166, hpS_168, hpS_170, hpS_172, hpS_174, hpS_176, hpS_178, hpS_180, hpS_182, hpS_185, hpS_187, hpS_189, hpS_191⟩
theorem hpSM : (∀ (A : Nat → List Int32) (F : Nat → Int32) (P : Nat → Nat) (i v : Int32), am_as (heap A F P) 0 193 i v = bif am_in i (A 193).length then some (heap (up A 193 ((A 193).set i.toNatClampNeg v)) F P) else none) ∧ (∀ (A : Nat → List Int32) (F : Nat → Int32) (P : Nat → Nat) (i v : Int32), am_as (heap A F P) 0 194 i v = bif am_in i (A 194).length then some (heap (up A 194 ((A 194).set i.toNatClampNeg v)) F P) else none) ∧ (∀ (A : Nat → List Int32) (F : Nat → Int32) (P : Nat → Nat) (i v : Int32), am_as (heap A F P) 1 195 i v = bif am_in i (A 195).length then some (heap (up A 195 ((A 195).set i.toNatClampNeg v)) F P) else none) ∧ (∀ (A : Nat → List Int32) (F : Nat → Int32) (P : Nat → Nat) (i v : Int32), am_as (heap A F P) 0 196 i v = bif am_in i (A 196).length then some (heap (up A 196 ((A 196).set i.toNatClampNeg v)) F P) else none) ∧ (∀ (A : Nat → List Int32) (F : Nat → Int32) (P : Nat → Nat) (i v : Int32), am_as (heap A F P) 0 197 i v = bif am_in i (A 197).length then some (heap (up A 197 ((A 197).set i.toNatClampNeg v)) F P) else none) ∧ (∀ (A : Nat → List Int32) (F : Nat → Int32) (P : Nat → Nat) (i v : Int32), am_as (heap A F P) 0 198 i v = bif am_in i (A 198).length then some (heap (up A 198 ((A 198).set i.toNatClampNeg v)) F P) else none) ∧ (∀ (A : Nat → List Int32) (F : Nat → Int32) (P : Nat → Nat) (i v : Int32), am_as (heap A F P) 0 199 i v = bif am_in i (A 199).length then some (heap (up A 199 ((A 199).set i.toNatClampNeg v)) F P) else none) ∧ (∀ (A : Nat → List Int32) (F : Nat → Int32) (P : Nat → Nat) (i v : Int32), am_as (heap A F P) 0 200 i v = bif am_in i (A 200).length then some (heap (up A 200 ((A 200).set i.toNatClampNeg v)) F P) else none) ∧ (∀ (A : Nat → List Int32) (F : Nat → Int32) (P : Nat → Nat) (i v : Int32), am_as (heap A F P) 0 201 i v = bif am_in i (A 201).length then some (heap (up A 201 ((A 201).set i.toNatClampNeg v)) F P) else none) ∧ (∀ (A : Nat → List Int32) (F : Nat → Int32) (P : Nat → Nat) (i v : Int32), am_as (heap A F P) 0 202 i v = bif am_in i (A 202).length then some (heap (up A 202 ((A 202).set i.toNatClampNeg v)) F P) else none) ∧ (∀ (A : Nat → List Int32) (F : Nat → Int32) (P : Nat → Nat) (i v : Int32), am_as (heap A F P) 0 203 i v = bif am_in i (A 203).length then some (heap (up A 203 ((A 203).set i.toNatClampNeg v)) F P) else none) ∧ (∀ (A : Nat → List Int32) (F : Nat → Int32) (P : Nat → Nat) (i v : Int32), am_as (heap A F P) 0 204 i v = bif am_in i (A 204).length then some (heap (up A 204 ((A 204).set i.toNatClampNeg v)) F P) else none) ∧ (∀ (A : Nat → List Int32) (F : Nat → Int32) (P : Nat → Nat) (i v : Int32), am_as (heap A F P) 0 205 i v = bif am_in i (A 205).length then some (heap (up A 205 ((A 205).set i.toNatClampNeg v)) F P) else none) := ⟨hpS_193, hpS_194, hpS_195, hpS_196, hpS_197, hpS_198, hpS_199, hpS_200, hpS_201, hpS_202, hpS_203, hpS_204, hpS_205⟩
theorem hpSY : (∀ (A : Nat → List Int32) (F : Nat → Int32) (P : Nat → Nat) (i v : Int32), am_as (heap A F P) 0 39 i v = bif am_in i (A 39).length then some (heap (up A 39 ((A 39).set i.toNatClampNeg v)) F P) else none) ∧ (∀ (A : Nat → List Int32) (F : Nat → Int32) (P : Nat → Nat) (i v : Int32), am_as (heap A F P) 0 41 i v = bif am_in i (A 41).length then some (heap (up A 41 ((A 41).set i.toNatClampNeg v)) F P) else none) ∧ (∀ (A : Nat → List Int32) (F : Nat → Int32) (P : Nat → Nat) (i v : Int32), am_as (heap A F P) 0 44 i v = bif am_in i (A 44).length then some (heap (up A 44 ((A 44).set i.toNatClampNeg v)) F P) else none) ∧ (∀ (A : Nat → List Int32) (F : Nat → Int32) (P : Nat → Nat) (i v : Int32), am_as (heap A F P) 0 46 i v = bif am_in i (A 46).length then some (heap (up A 46 ((A 46).set i.toNatClampNeg v)) F P) else none) ∧ (∀ (A : Nat → List Int32) (F : Nat → Int32) (P : Nat → Nat) (i v : Int32), am_as (heap A F P) 0 48 i v = bif am_in i (A 48).length then some (heap (up A 48 ((A 48).set i.toNatClampNeg v)) F P) else none) ∧ (∀ (A : Nat → List Int32) (F : Nat → Int32) (P : Nat → Nat) (i v : Int32), am_as (heap A F P) 0 50 i v = bif am_in i (A 50).length then some (heap (up A 50 ((A 50).set i.toNatClampNeg v)) F P) else none) ∧ (∀ (A : Nat → List Int32) (F : Nat → Int32) (P : Nat → Nat) (i v : Int32), am_as (heap A F P) 0 52 i v = bif am_in i (A 52).length then some (heap (up A 52 ((A 52).set i.toNatClampNeg v)) F P) else none) ∧ (∀ (A : Nat → List Int32) (F : Nat → Int32) (P : Nat → Nat) (i v : Int32), am_as (heap A F P) 0 55 i v = bif am_in i (A 55).length then some (heap (up A 55 ((A 55).set i.toNatClampNeg v)) F P) else none) ∧ (∀ (A : Nat → List Int32) (F : Nat → Int32) (P : Nat → Nat) (i v : Int32), am_as (heap A F P) 0 57 i v = bif am_in i (A 57).length then some (heap (up A 57 ((A 57).set i.toNatClampNeg v)) F P) else none) ∧ (∀ (A : Nat → List Int32) (F : Nat → Int32) (P : Nat → Nat) (i v : Int32), am_as (heap A F P) 0 59 i v = bif am_in i (A 59).length then some (heap (up A 59 ((A 59).set i.toNatClampNeg v)) F P) else none) ∧ (∀ (A : Nat → List Int32) (F : Nat → Int32) (P : Nat → Nat) (i v : Int32), am_as (heap A F P) 0 61 i v = bif am_in i (A 61).length then some (heap (up A 61 ((A 61).set i.toNatClampNeg v)) F P) else none) ∧ (∀ (A : Nat → List Int32) (F : Nat → Int32) (P : Nat → Nat) (i v : Int32), am_as (heap A F P) 0 63 i v = bif am_in i (A 63).length then some (heap (up A 63 ((A 63).set i.toNatClampNeg v)) F P) else none) ∧ (∀ (A : Nat → List Int32) (F : Nat → Int32) (P : Nat → Nat) (i v : Int32), am_as (heap A F P) 0 65 i v = bif am_in i (A 65).length then some (heap (up A 65 ((A 65).set i.toNatClampNeg v)) F P) else none) ∧ (∀ (A : Nat → List Int32) (F : Nat → Int32) (P : Nat → Nat) (i v : Int32), am_as (heap A F P) 0 67 i v = bif am_in i (A 67).length then some (heap (up A 67 ((A 67).set i.toNatClampNeg v)) F P) else none) ∧ (∀ (A : Nat → List Int32) (F : Nat → Int32) (P : Nat → Nat) (i v : Int32), am_as (heap A F P) 0 71 i v = bif am_in i (A 71).length then some (heap (up A 71 ((A 71).set i.toNatClampNeg v)) F P) else none) ∧ (∀ (A : Nat → List Int32) (F : Nat → Int32) (P : Nat → Nat) (i v : Int32), am_as (heap A F P) 0 73 i v = bif am_in i (A 73).length then some (heap (up A 73 ((A 73).set i.toNatClampNeg v)) F P) else none) ∧ (∀ (A : Nat → List Int32) (F : Nat → Int32) (P : Nat → Nat) (i v : Int32), am_as (heap A F P) 0 76 i v = bif am_in i (A 76).length then some (heap (up A 76 ((A 76).set i.toNatClampNeg v)) F P) else none) ∧ (∀ (A : Nat → List Int32) (F : Nat → Int32) (P : Nat → Nat) (i v : Int32), am_as (heap A F P) 0 78 i v = bif am_in i (A 78).length then some (heap (up A 78 ((A 78).set i.toNatClampNeg v)) F P) else none) ∧ (∀ (A : Nat → List Int32) (F : Nat → Int32) (P : Nat → Nat) (i v : Int32), am_as (heap A F P) 0 80 i v = bif am_in i (A 80).length then some (heap (up A 80 ((A 80).set i.toNatClampNeg v)) F P) else none) ∧ (∀ (A : Nat → List Int32) (F : Nat → Int32) (P : Nat → Nat) (i v : Int32), am_as (heap A F P) 0 82 i v = bif am_in i (A 82).length then some (heap (up A 82 ((A 82).set i.toNatClampNeg v)) F P) else none) ∧ (∀ (A : Nat → List Int32) (F : Nat → Int32) (P : Nat → Nat) (i v : Int32), am_as (heap A F P) 0 84 i v = bif am_in i (A 84).length then some (heap (up A 84 ((A 84).set i.toNatClampNeg v)) F P) else none) ∧ (∀ (A : Nat → List Int32) (F : Nat → Int32) (P : Nat → Nat) (i v : Int32), am_as (heap A F P) 0 87 i v = bif am_in i (A 87).length then some (heap (up A 87 ((A 87).set i.toNatClampNeg v)) F P) else none) ∧ (∀ (A : Nat → List Int32) (F : Nat → Int32) (P : Nat → Nat) (i v : Int32), am_as (heap A F P) 0 89 i v = bif am_in i (A 89).length then some (heap (up A 89 ((A 89).set i.toNatClampNeg v)) F P) else none) ∧ (∀ (A : Nat → List Int32) (F : Nat → Int32) (P : Nat → Nat) (i v : Int32), am_as (heap A F P) 0 91 i v = bif am_in i (A 91).length then some (heap (up A 91 ((A 91).set i.toNatClampNeg v)) F P) else none) ∧ (∀ (A : Nat → List Int32) (F : Nat → Int32) (P : Nat → Nat) (i v : Int32), am_as (heap A F P) 0 93 i v = bif am_in i (A 93).length then some (heap (up A 93 ((A 93).set i.toNatClampNeg v)) F P) else none) ∧ (∀ (A : Nat → List Int32) (F : Nat → Int32) (P : Nat → Nat) (i v : Int32), am_as (heap A F P) 0 95 i v = bif am_in i (A 95).length then some (heap (up A 95 ((A 95).set i.toNatClampNeg v)) F P) else none) ∧ (∀ (A : Nat → List Int32) (F : Nat → Int32) (P : Nat → Nat) (i v : Int32), am_as (heap A F P) 0 97 i v = bif am_in i (A 97).length then some (heap (up A 97 ((A 97).set i.toNatClampNeg v)) F P) else none) ∧ (∀ (A : Nat → List Int32) (F : Nat → Int32) (P : Nat → Nat) (i v : Int32), am_as (heap A F P) 0 99 i v = bif am_in i (A 99).length then some (heap (up A 99 ((A 99).set i.toNatClampNeg v)) F P) else none) ∧ (∀ (A : Nat → List Int32) (F : Nat → Int32) (P : Nat → Nat) (i v : Int32), am_as (heap A F P) 0 103 i v = bif am_in i (A 103).length then some (heap (up A 103 ((A 103).set i.toNatClampNeg v)) F P) else none) ∧ (∀ (A : Nat → List Int32) (F : Nat → Int32) (P : Nat → Nat) (i v : Int32), am_as (heap A F P) 0 105 i v = bif am_in i (A 105).length then some (heap (up A 105 ((A 105).set i.toNatClampNeg v)) F P) else none) ∧ (∀ (A : Nat → List Int32) (F : Nat → Int32) (P : Nat → Nat) (i v : Int32), am_as (heap A F P) 0 108 i v = bif am_in i (A 108).length then some (heap (up A 108 ((A 108).set i.toNatClampNeg v)) F P) else none) ∧ (∀ (A : Nat → List Int32) (F : Nat → Int32) (P : Nat → Nat) (i v : Int32), am_as (heap A F P) 0 110 i v = bif am_in i (A 110).length then some (heap (up A 110 ((A 110).set i.toNatClampNeg v)) F P) else none) ∧ (∀ (A : Nat → List Int32) (F : Nat → Int32) (P : Nat → Nat) (i v : Int32), am_as (heap A F P) 0 112 i v = bif am_in i (A 112).length then some (heap (up A 112 ((A 112).set i.toNatClampNeg v)) F P) else none) ∧ (∀ (A : Nat → List Int32) (F : Nat → Int32) (P : Nat → Nat) (i v : Int32), am_as (heap A F P) 0 114 i v = bif am_in i (A 114).length then some (heap (up A 114 ((A 114).set i.toNatClampNeg v)) F P) else none) ∧ (∀ (A : Nat → List Int32) (F : Nat → Int32) (P : Nat → Nat) (i v : Int32), am_as (heap A F P) 0 116 i v = bif am_in i (A 116).length then some (heap (up A 116 ((A 116).set i.toNatClampNeg v)) F P) else none) ∧ (∀ (A : Nat → List Int32) (F : Nat → Int32) (P : Nat → Nat) (i v : Int32), am_as (heap A F P) 0 119 i v = bif am_in i (A 119).length then some (heap (up A 119 ((A 119).set i.toNatClampNeg v)) F P) else none) ∧ (∀ (A : Nat → List Int32) (F : Nat → Int32) (P : Nat → Nat) (i v : Int32), am_as (heap A F P) 0 121 i v = bif am_in i (A 121).length then some (heap (up A 121 ((A 121).set i.toNatClampNeg v)) F P) else none) ∧ (∀ (A : Nat → List Int32) (F : Nat → Int32) (P : Nat → Nat) (i v : Int32), am_as (heap A F P) 0 123 i v = bif am_in i (A 123).length then some (heap (up A 123 ((A 123).set i.toNatClampNeg v)) F P) else none) ∧ (∀ (A : Nat → List Int32) (F : Nat → Int32) (P : Nat → Nat) (i v : Int32), am_as (heap A F P) 0 125 i v = bif am_in i (A 125).length then some (heap (up A 125 ((A 125).set i.toNatClampNeg v)) F P) else none) ∧ (∀ (A : Nat → List Int32) (F : Nat → Int32) (P : Nat → Nat) (i v : Int32), am_as (heap A F P) 0 127 i v = bif am_in i (A 127).length then some (heap (up A 127 ((A 127).set i.toNatClampNeg v)) F P) else none) ∧ (∀ (A : Nat → List Int32) (F : Nat → Int32) (P : Nat → Nat) (i v : Int32), am_as (heap A F P) 0 129 i v = bif am_in i (A 129).length then some (heap (up A 129 ((A 129).set i.toNatClampNeg v)) F P) else none) ∧ (∀ (A : Nat → List Int32) (F : Nat → Int32) (P : Nat → Nat) (i v : Int32), am_as (heap A F P) 0 131 i v = bif am_in i (A 131).length then some (heap (up A 131 ((A 131).set i.toNatClampNeg v)) F P) else none) ∧ (∀ (A : Nat → List Int32) (F : Nat → Int32) (P : Nat → Nat) (i v : Int32), am_as (heap A F P) 0 135 i v = bif am_in i (A 135).length then some (heap (up A 135 ((A 135).set i.toNatClampNeg v)) F P) else none) ∧ (∀ (A : Nat → List Int32) (F : Nat → Int32) (P : Nat → Nat) (i v : Int32), am_as (heap A F P) 0 137 i v = bif am_in i (A 137).length then some (heap (up A 137 ((A 137).set i.toNatClampNeg v)) F P) else none) ∧ (∀ (A : Nat → List Int32) (F : Nat → Int32) (P : Nat → Nat) (i v : Int32), am_as (heap A F P) 0 140 i v = bif am_in i (A 140).length then some (heap (up A 140 ((A 140).set i.toNatClampNeg v)) F P) else none) ∧ (∀ (A : Nat → List Int32) (F : Nat → Int32) (P : Nat → Nat) (i v : Int32), am_as (heap A F P) 0 142 i v = bif am_in i (A 142).length then some (heap (up A 142 ((A 142).set i.toNatClampNeg v)) F P) else none) ∧ (∀ (A : Nat → List Int32) (F : Nat → Int32) (P : Nat → Nat) (i v : Int32), am_as (heap A F P) 0 144 i v = bif am_in i (A 144).length then some (heap (up A 144 ((A 144).set i.toNatClampNeg v)) F P) else none) ∧ (∀ (A : Nat → List Int32) (F : Nat → Int32) (P : Nat → Nat) (i v : Int32), am_as (heap A F P) 0 146 i v = bif am_in i (A 146).length then some (heap (up A 146 ((A 146).set i.toNatClampNeg v)) F P) else none) ∧ (∀ (A : Nat → List Int32) (F : Nat → Int32) (P : Nat → Nat) (i v : Int32), am_as (heap A F P) 0 148 i v = bif am_in i (A 148).length then some (heap (up A 148 ((A 148).set i.toNatClampNeg v)) F P) else none) ∧ (∀ (A : Nat → List Int32) (F : Nat → Int32) (P : Nat → Nat) (i v : Int32), am_as (heap A F P) 0 151 i v = bif am_in i (A 151).length then some (heap (up A 151 ((A 151).set i.toNatClampNeg v)) F P) else none) ∧ (∀ (A : Nat → List Int32) (F : Nat → Int32) (P : Nat → Nat) (i v : Int32), am_as (heap A F P) 0 153 i v = bif am_in i (A 153).length then some (heap (up A 153 ((A 153).set i.toNatClampNeg v)) F P) else none) ∧ (∀ (A : Nat → List Int32) (F : Nat → Int32) (P : Nat → Nat) (i v : Int32), am_as (heap A F P) 0 155 i v = bif am_in i (A 155).length then some (heap (up A 155 ((A 155).set i.toNatClampNeg v)) F P) else none) ∧ (∀ (A : Nat → List Int32) (F : Nat → Int32) (P : Nat → Nat) (i v : Int32), am_as (heap A F P) 0 157 i v = bif am_in i (A 157).length then some (heap (up A 157 ((A 157).set i.toNatClampNeg v)) F P) else none) ∧ (∀ (A : Nat → List Int32) (F : Nat → Int32) (P : Nat → Nat) (i v : Int32), am_as (heap A F P) 0 159 i v = bif am_in i (A 159).length then some (heap (up A 159 ((A 159).set i.toNatClampNeg v)) F P) else none) ∧ (∀ (A : Nat → List Int32) (F : Nat → Int32) (P : Nat → Nat) (i v : Int32), am_as (heap A F P) 0 161 i v = bif am_in i (A 161).length then some (heap (up A 161 ((A 161).set i.toNatClampNeg v)) F P) else none) ∧ (∀ (A : Nat → List Int32) (F : Nat → Int32) (P : Nat → Nat) (i v : Int32), am_as (heap A F P) 0 163 i v = bif am_in i (A 163).length then some (heap (up A 163 ((A 163).set i.toNatClampNeg v)) F P) else none) := ⟨hpS_39, hpS_41, hpS_44, hpS_46, hpS_48, hpS_50, hpS_52, hpS_55, hpS_57, hpS_59, hpS_61, hpS_63, hpS_65, hpS_67, hpS_71, hpS_73, hpS_76, hpS_78, hpS_80, hpS_82, hpS_84, hpS_87, hpS_89, hpS_91, hpS_93, hpS_95, hpS_97, hpS_99, hpS_103, hpS_105, hpS_108, hpS_110, hpS_112, hpS_114, hpS_116, hpS_119, hpS_121, hpS_123, hpS_125, hpS_127, hpS_129, hpS_131, hpS_135, hpS_137, hpS_140, hpS_142, hpS_144, hpS_146, hpS_148, hpS_151, hpS_153, hpS_155, hpS_157, hpS_159, hpS_161, hpS_163⟩
theorem lits : (0 : Int32) = nI 0 ∧ (1 : Int32) = nI 1 ∧ (2 : Int32) = nI 2 ∧ (3 : Int32) = nI 3 ∧ (4 : Int32) = nI 4 ∧ (5 : Int32) = nI 5 ∧ (6 : Int32) = nI 6 ∧ (7 : Int32) = nI 7 ∧ (8 : Int32) = nI 8 ∧ (9 : Int32) = nI 9 ∧ (10 : Int32) = nI 10 ∧ (11 : Int32) = nI 11 ∧ (12 : Int32) = nI 12 ∧ (13 : Int32) = nI 13 ∧ (14 : Int32) = nI 14 ∧ (15 : Int32) = nI 15 ∧ (16 : Int32) = nI 16 ∧ (17 : Int32) = nI 17 ∧ (18 : Int32) = nI 18 ∧ (19 : Int32) = nI 19 ∧ (20 : Int32) = nI 20 ∧ (21 : Int32) = nI 21 ∧ (22 : Int32) = nI 22 ∧ (23 : Int32) = nI 23 ∧ (24 : Int32) = nI 24 ∧ (31 : Int32) = nI 31 ∧ (38 : Int32) = nI 38 ∧ (40 : Int32) = nI 40 ∧ (44 : Int32) = nI 44 ∧ (47 : Int32) = nI 47 ∧ (48 : Int32) = nI 48 ∧ (49 : Int32) = nI 49 ∧ (57 : Int32) = nI 57 ∧ (58 : Int32) = nI 58 ∧ (60 : Int32) = nI 60 ∧ (61 : Int32) = nI 61 ∧ (78 : Int32) = nI 78 ∧ (80 : Int32) = nI 80 ∧ (98 : Int32) = nI 98 ∧ (99 : Int32) = nI 99 ∧ (100 : Int32) = nI 100 ∧ (107 : Int32) = nI 107 ∧ (108 : Int32) = nI 108 ∧ (150 : Int32) = nI 150 ∧ (160 : Int32) = nI 160 ∧ (168 : Int32) = nI 168 ∧ (228 : Int32) = nI 228 ∧ (288 : Int32) = nI 288 ∧ (348 : Int32) = nI 348 ∧ (408 : Int32) = nI 408 ∧ (468 : Int32) = nI 468 ∧ (469 : Int32) = nI 469 ∧ (470 : Int32) = nI 470 ∧ (471 : Int32) = nI 471 ∧ (472 : Int32) = nI 472 ∧ (500 : Int32) = nI 500 ∧ (1000 : Int32) = nI 1000 ∧ (1888 : Int32) = nI 1888 ∧ (50000 : Int32) = nI 50000 ∧ (100000 : Int32) = nI 100000 ∧ (1000000 : Int32) = nI 1000000 ∧ (2000000 : Int32) = nI 2000000 ∧ (10000000 : Int32) = nI 10000000 := ⟨rfl, rfl, rfl, rfl, rfl, rfl, rfl, rfl, rfl, rfl, rfl, rfl, rfl, rfl, rfl, rfl, rfl, rfl, rfl, rfl, rfl, rfl, rfl, rfl, rfl, rfl, rfl, rfl, rfl, rfl, rfl, rfl, rfl, rfl, rfl, rfl, rfl, rfl, rfl, rfl, rfl, rfl, rfl, rfl, rfl, rfl, rfl, rfl, rfl, rfl, rfl, rfl, rfl, rfl, rfl, rfl, rfl, rfl, rfl, rfl, rfl, rfl, rfl⟩
end
section
/-! READS, WRITES, ROWS -/
theorem up_app {α : Type} (f : Nat → α) (k : Nat) (v : α) (j : Nat) : up f k v j = if j = k then v else f j := rfl
theorem am_bi_s (x : Int32) (h : am_H) (f : Int32 → am_H → Option am_R) : am_bi (some (some (.int x), h)) f = f x h := rfl
theorem am_bl_s (x : Int64) (h : am_H) (f : Int64 → am_H → Option am_R) : am_bl (some (some (.long x), h)) f = f x h := rfl
theorem am_bv_s (h : am_H) (f : am_H → Option am_R) : am_bv (some (none, h)) f = f h := rfl
theorem ob_s {α β : Type} (a : α) (f : α → Option β) : Option.bind (some a) f = f a := rfl
theorem bif_d {α : Type} (p : Prop) (dp : Decidable p) (a b : α) : (bif @decide p dp then a else b) = @ite α p dp a b := by
  by_cases hp : p
  · simp [hp]
  · simp [hp]
/-- a row's entry, 0 beyond -/
def g (l : List Int32) (k : Nat) : Int32 := l.getD k 0
theorem nI_lt0 {n : Nat} (h : n < 2 ^ 31) : (nI n < 0) = False := by simp only [eq_iff_iff, iff_false]; exact nI_pos h
theorem g_at {l : List Int32} {k : Nat} (h : k < l.length) : l[k]? = some (g l k) := by
  unfold g
  rw [List.getD_eq_getElem?_getD, List.getElem?_eq_getElem h]; rfl
theorem am_in_nI {k n : Nat} (hk : k < 2 ^ 31) : am_in (nI k) n = Nat.blt k n := by
  unfold am_in
  rw [nI_clamp hk]
  simp [nI_pos hk]
theorem am_in_lt' {k n : Nat} (h : k < n) (hn : n < 2 ^ 31) : am_in (nI k) n = true := by
  rw [am_in_nI (by omega)]
  exact Nat.ble_eq_true_of_le h
theorem rd_nI {l : List Int32} {k : Nat} (h : k < l.length) (hl : l.length < 2 ^ 31) : (bif am_in (nI k) l.length then l[(nI k).toNatClampNeg]? else none) = some (g l k) := by
  rw [am_in_lt' h hl, nI_clamp (by omega)]
  exact g_at h
theorem wr_nI {α : Type} {l : List Int32} {k : Nat} {v : Int32} {f : List Int32 → α} (h : k < l.length) (hl : l.length < 2 ^ 31) : (bif am_in (nI k) l.length then some (f (l.set (nI k).toNatClampNeg v)) else none) = some (f (l.set k v)) := by
  rw [am_in_lt' h hl, nI_clamp (by omega)]
  rfl
theorem g_set {l : List Int32} {k j : Nat} {v : Int32} (h : k < l.length) : g (l.set k v) j = if j = k then v else g l j := by
  unfold g
  rw [List.getD_eq_getElem?_getD, List.getD_eq_getElem?_getD, List.getElem?_set]
  by_cases q : k = j
  · subst q; simp [h]
  · rw [if_neg q, if_neg (fun z => q z.symm)]
/-- Row.get and Row.put, for any number -/
def rget (l : List Int32) (i : Int32) : Int32 := if i < 0 then 0 else if Int32.ofNat l.length ≤ i then 0 else g l i.toNatClampNeg
def rput (l : List Int32) (i v : Int32) : List Int32 := if i < 0 then l else if Int32.ofNat l.length ≤ i then l else l.set i.toNatClampNeg v
theorem in_of {i : Int32} {n : Nat} (h0 : ¬ i < 0) (h1 : ¬ Int32.ofNat n ≤ i) (hn : n < 2 ^ 31) : am_in i n = true ∧ i.toNatClampNeg < n := by
  obtain ⟨k, hk, rfl⟩ := nI_of h0
  have : k < n := Nat.lt_of_not_le fun z => h1 (nI_le z hk)
  exact ⟨am_in_lt' this hn, by rw [nI_clamp hk]; exact this⟩
theorem rget_nI {l : List Int32} {k : Nat} (h : k < l.length) (hl : l.length < 2 ^ 31) : rget l (nI k) = g l k := by
  unfold rget
  rw [if_neg (nI_pos (by omega)), if_neg (show ¬ Int32.ofNat l.length ≤ nI k from nI_ge h hl), nI_clamp (by omega)]
theorem rput_nI {l : List Int32} {k : Nat} {v : Int32} (h : k < l.length) (hl : l.length < 2 ^ 31) : rput l (nI k) v = l.set k v := by
  unfold rput
  rw [if_neg (nI_pos (by omega)), if_neg (show ¬ Int32.ofNat l.length ≤ nI k from nI_ge h hl), nI_clamp (by omega)]
theorem rput_length (l : List Int32) (i v : Int32) : (rput l i v).length = l.length := by
  unfold rput
  split
  · rfl
  · split
    · rfl
    · simp
theorem row_get {a q : Nat} {h : am_H} {l : List Int32} {i : Int32} (h1 : h[a]? = some (.inr (5, [.ref q]))) (h2 : h[q]? = some (.inl (0, l))) (hl : l.length < 2 ^ 31) : am_cl m_Row_get [.ref a, .int i] h = some (some (.int (rget l i)), h) := by
  rw [e_Row_get a i h h1]
  have e1 : am_gr h a 5 0 = some q := by simp [am_gr, h1]
  have e2 : am_len h q = some (Int32.ofNat l.length) := by unfold am_len; rw [h2]; rfl
  simp only [e1, e2, ob_s, bif_d]
  unfold rget
  by_cases q1 : i < 0
  · simp only [if_pos q1]
  · simp only [if_neg q1]
    by_cases q2 : Int32.ofNat l.length ≤ i
    · simp only [if_pos q2]
    · simp only [if_neg q2]
      obtain ⟨g1, g2⟩ := in_of q1 q2 hl
      have e3 : am_al h 0 q i = some (g l i.toNatClampNeg) := by
        unfold am_al
        rw [h2]
        show (bif (Nat.beq 0 0 || _) && am_in i l.length then l[i.toNatClampNeg]? else none) = _
        rw [g1]
        exact g_at g2
      rw [e3]
      rfl
theorem row_put {a q : Nat} {h : am_H} {l : List Int32} {i v : Int32} (h1 : h[a]? = some (.inr (5, [.ref q]))) (h2 : h[q]? = some (.inl (0, l))) (hl : l.length < 2 ^ 31) : am_cl m_Row_put [.ref a, .int i, .int v] h = some (none, h.set q (.inl (0, rput l i v))) := by
  rw [e_Row_put a i v h h1]
  have e1 : am_gr h a 5 0 = some q := by simp [am_gr, h1]
  have e2 : am_len h q = some (Int32.ofNat l.length) := by unfold am_len; rw [h2]; rfl
  have e0 : h.set q (.inl (0, l)) = h := by
    obtain ⟨hq, e⟩ := List.getElem?_eq_some_iff.mp h2
    rw [← e]; exact List.set_getElem_self hq
  simp only [e1, e2, ob_s, bif_d]
  unfold rput
  by_cases q1 : i < 0
  · simp only [if_pos q1, e0]
  · simp only [if_neg q1]
    by_cases q2 : Int32.ofNat l.length ≤ i
    · simp only [if_pos q2, e0]
    · simp only [if_neg q2]
      obtain ⟨g1, g2⟩ := in_of q1 q2 hl
      have e3 : am_as h 0 q i v = some (h.set q (.inl (0, l.set i.toNatClampNeg v))) := by
        unfold am_as
        rw [h2]
        show (bif Nat.beq 0 0 && am_in i l.length then _ else none) = _
        rw [g1]
        rfl
      rw [e3]
      rfl
end
section
/-! NUMBERS: indices are nI k -/
theorem nI_addS (a b : Nat) : nI a + nI b = nI (a + b) := nI_add a b
theorem nI_mulS (a b : Nat) : nI a * nI b = nI (a * b) := pk_mul a b
theorem nI_subS {a b : Nat} (h : b ≤ a) : nI a - nI b = nI (a - b) := pk_sub h
theorem nI_lt' {a b : Nat} (ha : a < 2 ^ 31) (hb : b < 2 ^ 31) : (nI a < nI b) = (a < b) := propext (nI_ltI ha hb)
theorem nI_le' {a b : Nat} (ha : a < 2 ^ 31) (hb : b < 2 ^ 31) : (nI a ≤ nI b) = (a ≤ b) := propext (nI_leI ha hb)
theorem nI_eq' {a b : Nat} (ha : a < 2 ^ 31) (hb : b < 2 ^ 31) : (nI a = nI b) = (a = b) := propext (nI_eq ha hb)
theorem wrH {A : Nat → List Int32} {F : Nat → Int32} {P : Nat → Nat} {a k : Nat} {v : Int32} (h : k < (A a).length) (hl : (A a).length < 2 ^ 31) : (bif am_in (nI k) (A a).length then some (heap (up A a ((A a).set (nI k).toNatClampNeg v)) F P) else none) = some (heap (up A a ((A a).set k v)) F P) := by
  rw [am_in_lt' h hl, nI_clamp (by omega)]
  rfl
theorem s_Mod_in (v least most : Int32) (h : am_H) : am_cl m_Mod_in [.int v, .int least, .int most] h = some (some (.int (if v < least ∨ most < v then nI 0 else nI 1)), h) := by
  rw [e_Mod_in]
  simp only [bif_d]
  by_cases h1 : v < least
  · simp [h1, nI_0]
  · by_cases h2 : most < v
    · simp [h1, h2, Int32.not_le.mpr h2, nI_0]
    · simp [h1, h2, Int32.not_lt.mp h2]; rfl
theorem s_Mod_greater (x y : Int32) (h : am_H) : am_cl m_Mod_greater [.int x, .int y] h = some (some (.int (if x ≤ y then y else x)), h) := by
  rw [e_Mod_greater]
  simp only [bif_d]
  split <;> rfl
theorem s_Mod_lesser (x y : Int32) (h : am_H) : am_cl m_Mod_lesser [.int x, .int y] h = some (some (.int (if y ≤ x then y else x)), h) := by
  rw [e_Mod_lesser]
  simp only [bif_d]
  split <;> rfl
/-- an index from nought below n -/
def ix (x : Int32) (n : Nat) : Prop := ∃ k, k < n ∧ x = nI k
theorem ix_in {x : Int32} {n : Nat} (hn : n < 2 ^ 31) : (x < nI 0 ∨ nI n - nI 1 < x) ↔ ¬ ix x n := by
  constructor
  · rintro (h | h) ⟨k, hk, rfl⟩
    · rw [nI_lt' (by omega) (by omega)] at h; omega
    · rw [nI_subS (by omega), nI_lt' (by omega) (by omega)] at h; omega
  · intro h
    by_cases h0 : x < nI 0
    · exact Or.inl h0
    · obtain ⟨k, hk, rfl⟩ := nI_of h0
      refine Or.inr ?_
      rcases Nat.eq_zero_or_pos n with q | q
      · subst q
        have e : nI 0 - nI 1 = (-1 : Int32) := by decide
        rw [e]
        have h1 : (-1 : Int32) < nI 0 := by decide
        exact Int32.lt_of_lt_of_le h1 (nI_le (Nat.zero_le k) hk)
      · rw [nI_subS (by omega), nI_lt' (by omega) hk]
        rcases Nat.lt_or_ge k n with z | z
        · exact absurd ⟨k, z, rfl⟩ h
        · omega
/-- what is asked of the reference's row: its length, and its counts -/
def Mok (r : List Int32) (nB nl nb nx : Nat) : Prop := r.length = 472 ∧ g r 0 = nI nB ∧ g r 17 = nI nl ∧ g r 98 = nI nb ∧ g r 107 = nI nx ∧ 1 ≤ nB ∧ nB ≤ 8 ∧ nl ≤ 20 ∧ nb ≤ 8 ∧ nx ≤ 60
/-- f, from k on, n times -/
def fu {α : Type} (f : α → Nat → α) : Nat → Nat → α → α
  | 0, _, a => a
  | n + 1, k, a => fu f n (k + 1) (f a k)
theorem loop_fu {α : Type} {B : Nat → α → Option am_R} {E : α → Option am_R} {f : α → Nat → α} (I : Nat → α → Prop) (n : Nat) (hs : ∀ k a, k < n → I k a → B k a = B (k + 1) (f a k) ∧ I (k + 1) (f a k)) (he : ∀ a, I n a → B n a = E a) : ∀ m k a, k + m = n → I k a → B k a = E (fu f m k a) := by
  intro m
  induction m with
  | zero => intro k a hk hI; rw [Nat.add_zero] at hk; subst hk; exact he a hI
  | succ m ih =>
    intro k a hk hI
    obtain ⟨h1, h2⟩ := hs k a (by omega) hI
    rw [h1]
    exact ih (k + 1) _ (by omega) h2
end
section
section M
variable {A : Nat → List Int32} {F : Nat → Int32} {P : Nat → Nat} {nB nl nb nx : Nat}
theorem s_Mod_lots (hM : Mok (A 193) nB nl nb nx) : am_cl m_Mod_lots [.ref 192] (heap A F P) = some (some (.int (nI nl)), heap A F P) := by
  obtain ⟨h0, h1, h2, h3, h4, h5, h6, h7, h8, h9⟩ := hM
  rw [e_Mod_lots 192 _ rfl]
  simp (disch := omega) only [ob_s, am_bi_s, am_bv_s, am_bl_s, bif_d, lits, nI_addS, nI_mulS, nI_subS, nI_lt', nI_le', nI_eq', rd_nI, wrH, up_app, Nat.add_sub_cancel_left, Nat.add_sub_cancel, ite_true, ite_false, if_true, if_false, not_true_eq_false, not_false_eq_true, Bool.and_true, Bool.true_and, true_or, or_true, false_or, or_false, and_true, true_and, and_false, false_and, hpRM, hpIM, hpFM, hpLM, hpSM, h2]
theorem s_Mod_bidders (hM : Mok (A 193) nB nl nb nx) : am_cl m_Mod_bidders [.ref 192] (heap A F P) = some (some (.int (nI nb)), heap A F P) := by
  obtain ⟨h0, h1, h2, h3, h4, h5, h6, h7, h8, h9⟩ := hM
  rw [e_Mod_bidders 192 _ rfl]
  simp (disch := omega) only [ob_s, am_bi_s, am_bv_s, am_bl_s, bif_d, lits, nI_addS, nI_mulS, nI_subS, nI_lt', nI_le', nI_eq', rd_nI, wrH, up_app, Nat.add_sub_cancel_left, Nat.add_sub_cancel, ite_true, ite_false, if_true, if_false, not_true_eq_false, not_false_eq_true, Bool.and_true, Bool.true_and, true_or, or_true, false_or, or_false, and_true, true_and, and_false, false_and, hpRM, hpIM, hpFM, hpLM, hpSM, h3]
theorem s_Mod_bids (hM : Mok (A 193) nB nl nb nx) : am_cl m_Mod_bids [.ref 192] (heap A F P) = some (some (.int (nI nx)), heap A F P) := by
  obtain ⟨h0, h1, h2, h3, h4, h5, h6, h7, h8, h9⟩ := hM
  rw [e_Mod_bids 192 _ rfl]
  simp (disch := omega) only [ob_s, am_bi_s, am_bv_s, am_bl_s, bif_d, lits, nI_addS, nI_mulS, nI_subS, nI_lt', nI_le', nI_eq', rd_nI, wrH, up_app, Nat.add_sub_cancel_left, Nat.add_sub_cancel, ite_true, ite_false, if_true, if_false, not_true_eq_false, not_false_eq_true, Bool.and_true, Bool.true_and, true_or, or_true, false_or, or_false, and_true, true_and, and_false, false_and, hpRM, hpIM, hpFM, hpLM, hpSM, h4]
theorem no_of {x : Int32} {n : Nat} (hn : n < 2 ^ 31) (d : Decidable (ix x n)) (h : am_H) : (if ¬ (if x < nI 0 ∨ nI n - nI 1 < x then nI 0 else nI 1) = nI 0 then some (some (Value.int (nI 0)), h) else some (some (Value.int (nI 1)), h)) = some (some (.int (if ix x n then nI 0 else nI 1)), h) := by
  have e := ix_in (x := x) hn
  by_cases q : ix x n
  · rw [if_pos q, if_neg (fun z => (e.mp z) q), if_pos (by decide)]
  · rw [if_neg q, if_pos (e.mpr q), if_neg (by decide)]
theorem s_Mod_noLot (hM : Mok (A 193) nB nl nb nx) (x : Int32) (d : Decidable (ix x nl)) : am_cl m_Mod_noLot [.ref 192, .int x] (heap A F P) = some (some (.int (if ix x nl then nI 0 else nI 1)), heap A F P) := by
  have h7 := hM.2.2.2.2.2.2.2.1
  rw [e_Mod_noLot 192 x _ rfl]
  simp only [s_Mod_lots hM, s_Mod_in, am_bi_s, bif_d, lits]
  exact no_of (by omega) d _
theorem s_Mod_noBidder (hM : Mok (A 193) nB nl nb nx) (x : Int32) (d : Decidable (ix x nb)) : am_cl m_Mod_noBidder [.ref 192, .int x] (heap A F P) = some (some (.int (if ix x nb then nI 0 else nI 1)), heap A F P) := by
  have h7 := hM.2.2.2.2.2.2.2.2.1
  rw [e_Mod_noBidder 192 x _ rfl]
  simp only [s_Mod_bidders hM, s_Mod_in, am_bi_s, bif_d, lits]
  exact no_of (by omega) d _
theorem s_Mod_noBid (hM : Mok (A 193) nB nl nb nx) (x : Int32) (d : Decidable (ix x nx)) : am_cl m_Mod_noBid [.ref 192, .int x] (heap A F P) = some (some (.int (if ix x nx then nI 0 else nI 1)), heap A F P) := by
  have h7 := hM.2.2.2.2.2.2.2.2.2
  rw [e_Mod_noBid 192 x _ rfl]
  simp only [s_Mod_bids hM, s_Mod_in, am_bi_s, bif_d, lits]
  exact no_of (by omega) d _
/-- the place of a band, by its beginning -/
def mAt (r : List Int32) (x : Int32) : Nat → Nat → Int32
  | 0, _ => -5
  | n + 1, k => if g r (1 + k) = x then nI k else mAt r x n (k + 1)
theorem mAt_s (r : List Int32) (x : Int32) (n k : Nat) : mAt r x (n + 1) k = if g r (1 + k) = x then nI k else mAt r x n (k + 1) := rfl
theorem l_Mod_bandAt (hM : Mok (A 193) nB nl nb nx) (x : Int32) : ∀ n k, k + n = nB → am_ev m_Mod_bandAt (2, [.ref 192, .int x, .int (nI k)], [], heap A F P) = some (some (.int (mAt (A 193) x n k)), heap A F P) := by
  obtain ⟨h0, h1, h2, h3, h4, h5, h6, h7, h8, h9⟩ := hM
  intro n
  induction n with
  | zero =>
    intro k hk
    rw [b_Mod_bandAt_2]
    simp (disch := omega) only [ob_s, am_bi_s, am_bv_s, am_bl_s, bif_d, lits, nI_addS, nI_mulS, nI_subS, nI_lt', nI_le', nI_eq', rd_nI, wrH, up_app, Nat.add_sub_cancel_left, Nat.add_sub_cancel, ite_true, ite_false, if_true, if_false, not_true_eq_false, not_false_eq_true, Bool.and_true, Bool.true_and, true_or, or_true, false_or, or_false, and_true, true_and, and_false, false_and, hpRM, hpIM, hpFM, hpLM, hpSM, h1]
    rw [if_pos (by omega)]
    rfl
  | succ n ih =>
    intro k hk
    rw [b_Mod_bandAt_2]
    simp (disch := omega) only [ob_s, am_bi_s, am_bv_s, am_bl_s, bif_d, lits, nI_addS, nI_mulS, nI_subS, nI_lt', nI_le', nI_eq', rd_nI, wrH, up_app, Nat.add_sub_cancel_left, Nat.add_sub_cancel, ite_true, ite_false, if_true, if_false, not_true_eq_false, not_false_eq_true, Bool.and_true, Bool.true_and, true_or, or_true, false_or, or_false, and_true, true_and, and_false, false_and, hpRM, hpIM, hpFM, hpLM, hpSM, h1]
    rw [if_neg (by omega), ih (k + 1) (by omega)]
    rw [mAt_s]
    by_cases q : g (A 193) (1 + k) = x
    · rw [if_neg (fun z => z q), if_pos q]
    · rw [if_pos q, if_neg q]
theorem s_Mod_bandAt (hM : Mok (A 193) nB nl nb nx) (x : Int32) : am_cl m_Mod_bandAt [.ref 192, .int x] (heap A F P) = some (some (.int (mAt (A 193) x nB 0)), heap A F P) := by
  rw [e_Mod_bandAt 192 x _ rfl]
  exact l_Mod_bandAt hM x nB 0 (by omega)
/-- the band of an amount -/
def mBd (r : List Int32) (a : Int32) : Nat → Nat → Nat
  | 0, k => k
  | n + 1, k => if a < g r (1 + k + 1) then k else mBd r a n (k + 1)
theorem mBd_s (r : List Int32) (a : Int32) (n k : Nat) : mBd r a (n + 1) k = if a < g r (1 + k + 1) then k else mBd r a n (k + 1) := rfl
theorem mBd_lt (r : List Int32) (a : Int32) : ∀ n k, mBd r a n k ≤ k + n := by
  intro n
  induction n with
  | zero => intro k; exact Nat.le_refl _
  | succ n ih =>
    intro k
    rw [mBd_s]
    split
    · omega
    · have := ih (k + 1); omega
theorem l_Mod_bandOf (hM : Mok (A 193) nB nl nb nx) (x : Int32) : ∀ n k, k + n + 1 = nB → am_ev m_Mod_bandOf (2, [.ref 192, .int x, .int (nI k)], [], heap A F P) = some (some (.int (nI (mBd (A 193) x n k))), heap A F P) := by
  obtain ⟨h0, h1, h2, h3, h4, h5, h6, h7, h8, h9⟩ := hM
  intro n
  induction n with
  | zero =>
    intro k hk
    rw [b_Mod_bandOf_2]
    simp (disch := omega) only [ob_s, am_bi_s, am_bv_s, am_bl_s, bif_d, lits, nI_addS, nI_mulS, nI_subS, nI_lt', nI_le', nI_eq', rd_nI, wrH, up_app, Nat.add_sub_cancel_left, Nat.add_sub_cancel, ite_true, ite_false, if_true, if_false, not_true_eq_false, not_false_eq_true, Bool.and_true, Bool.true_and, true_or, or_true, false_or, or_false, and_true, true_and, and_false, false_and, hpRM, hpIM, hpFM, hpLM, hpSM, h1]
    rw [if_pos (by omega)]
    rfl
  | succ n ih =>
    intro k hk
    rw [b_Mod_bandOf_2]
    simp (disch := omega) only [ob_s, am_bi_s, am_bv_s, am_bl_s, bif_d, lits, nI_addS, nI_mulS, nI_subS, nI_lt', nI_le', nI_eq', rd_nI, wrH, up_app, Nat.add_sub_cancel_left, Nat.add_sub_cancel, ite_true, ite_false, if_true, if_false, not_true_eq_false, not_false_eq_true, Bool.and_true, Bool.true_and, true_or, or_true, false_or, or_false, and_true, true_and, and_false, false_and, hpRM, hpIM, hpFM, hpLM, hpSM, h1]
    rw [if_neg (by omega), ih (k + 1) (by omega)]
    rw [mBd_s]
    split <;> rfl
def mBand (r : List Int32) (nB : Nat) (a : Int32) : Nat := mBd r a (nB - 1) 0
theorem mBand_lt (r : List Int32) {nB : Nat} (a : Int32) (h : 1 ≤ nB) : mBand r nB a < nB := by
  have := mBd_lt r a (nB - 1) 0
  unfold mBand
  omega
theorem s_Mod_bandOf (hM : Mok (A 193) nB nl nb nx) (x : Int32) : am_cl m_Mod_bandOf [.ref 192, .int x] (heap A F P) = some (some (.int (nI (mBand (A 193) nB x))), heap A F P) := by
  rw [e_Mod_bandOf 192 x _ rfl]
  have := hM.2.2.2.2.2.1
  exact l_Mod_bandOf hM x (nB - 1) 0 (by omega)
/-- the steps are none of them 0 -/
def Mst (r : List Int32) (nB : Nat) : Prop := ∀ k, k < nB → g r (9 + k) ≠ 0
def mFl (r : List Int32) (nB : Nat) (a : Int32) : Int32 := a - (a - g r (1 + mBand r nB a) - (a - g r (1 + mBand r nB a)) / g r (9 + mBand r nB a) * g r (9 + mBand r nB a))
theorem am_rm_s {x y : Int32} (h : y ≠ 0) : am_rm x y = some (x - x / y * y) := by
  unfold am_rm
  rw [decide_eq_false h]
  rfl
theorem s_Mod_floorOf (hM : Mok (A 193) nB nl nb nx) (hs : Mst (A 193) nB) (x : Int32) : am_cl m_Mod_floorOf [.ref 192, .int x] (heap A F P) = some (some (.int (mFl (A 193) nB x)), heap A F P) := by
  have hb := s_Mod_bandOf (F := F) (P := P) hM x
  obtain ⟨h0, h1, h2, h3, h4, h5, h6, h7, h8, h9⟩ := hM
  have hk := mBand_lt (A 193) x h5
  rw [e_Mod_floorOf 192 x _ rfl]
  simp (disch := omega) only [ob_s, am_bi_s, am_bv_s, am_bl_s, bif_d, lits, nI_addS, nI_mulS, nI_subS, nI_lt', nI_le', nI_eq', rd_nI, wrH, up_app, Nat.add_sub_cancel_left, Nat.add_sub_cancel, ite_true, ite_false, if_true, if_false, not_true_eq_false, not_false_eq_true, Bool.and_true, Bool.true_and, true_or, or_true, false_or, or_false, and_true, true_and, and_false, false_and, hpRM, hpIM, hpFM, hpLM, hpSM, hb, h1, am_rm_s (hs _ hk)]
  rfl
def mNx (r : List Int32) (nB : Nat) (a : Int32) : Int32 := if mBand r nB a + 1 < nB then (if mFl r nB a + g r (9 + mBand r nB a) ≤ g r (1 + mBand r nB a + 1) then mFl r nB a + g r (9 + mBand r nB a) else g r (1 + mBand r nB a + 1)) else mFl r nB a + g r (9 + mBand r nB a)
theorem s_Mod_nextOf (hM : Mok (A 193) nB nl nb nx) (hs : Mst (A 193) nB) (x : Int32) : am_cl m_Mod_nextOf [.ref 192, .int x] (heap A F P) = some (some (.int (mNx (A 193) nB x)), heap A F P) := by
  have hb := s_Mod_bandOf (F := F) (P := P) hM x
  have hf := s_Mod_floorOf (F := F) (P := P) hM hs x
  obtain ⟨h0, h1, h2, h3, h4, h5, h6, h7, h8, h9⟩ := hM
  have hk := mBand_lt (A 193) x h5
  rw [e_Mod_nextOf 192 x _ rfl]
  by_cases q : mBand (A 193) nB x + 1 < nB
  · simp (disch := omega) only [ob_s, am_bi_s, am_bv_s, am_bl_s, bif_d, lits, nI_addS, nI_mulS, nI_subS, nI_lt', nI_le', nI_eq', rd_nI, wrH, up_app, Nat.add_sub_cancel_left, Nat.add_sub_cancel, ite_true, ite_false, if_true, if_false, not_true_eq_false, not_false_eq_true, Bool.and_true, Bool.true_and, true_or, or_true, false_or, or_false, and_true, true_and, and_false, false_and, hpRM, hpIM, hpFM, hpLM, hpSM, hb, hf, h1, q]
    unfold mNx
    rw [if_neg (by omega), if_pos q]
    split <;> rfl
  · simp (disch := omega) only [ob_s, am_bi_s, am_bv_s, am_bl_s, bif_d, lits, nI_addS, nI_mulS, nI_subS, nI_lt', nI_le', nI_eq', rd_nI, wrH, up_app, Nat.add_sub_cancel_left, Nat.add_sub_cancel, ite_true, ite_false, if_true, if_false, not_true_eq_false, not_false_eq_true, Bool.and_true, Bool.true_and, true_or, or_true, false_or, or_false, and_true, true_and, and_false, false_and, hpRM, hpIM, hpFM, hpLM, hpSM, hb, hf, h1, q]
    unfold mNx
    rw [if_pos (by omega), if_neg q]
def mCe (r : List Int32) (nB : Nat) (a : Int32) : Int32 := if mFl r nB a = a then a else mNx r nB a
theorem s_Mod_ceilingOf (hM : Mok (A 193) nB nl nb nx) (hs : Mst (A 193) nB) (x : Int32) : am_cl m_Mod_ceilingOf [.ref 192, .int x] (heap A F P) = some (some (.int (mCe (A 193) nB x)), heap A F P) := by
  have hb := s_Mod_nextOf (F := F) (P := P) hM hs x
  have hf := s_Mod_floorOf (F := F) (P := P) hM hs x
  rw [e_Mod_ceilingOf 192 x _ rfl]
  simp only [hf, hb, am_bi_s, bif_d]
  by_cases q : mFl (A 193) nB x = x
  · unfold mCe
    rw [if_neg (fun z => z q), if_pos q]
  · unfold mCe
    rw [if_pos q, if_neg q]
end M
end
