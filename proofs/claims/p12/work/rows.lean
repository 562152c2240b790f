section
-- ===== PART A: goes FIRST, ahead of the names: the tables' words, and 'selects' of the private methods out of them =====
/-- a private method of a class that the tables say can be made, by its rows of tables_1 -/
def lw_okq (q : MethodName × Nat) : Prop := (q.1.cls ≠ "java/lang/invoke/MethodHandle" ∧ q.1.cls ≠ "java/lang/invoke/VarHandle") ∧ Cond.instantiable q.1.cls q.2 ∈ tables_1 ∧ Cond.privateMethod q.1 ∈ tables_1 ∧ Cond.instanceMethod q.1 ∈ tables_1
theorem lw_p0 : lw_okq (⟨"CommitSites", "shareQuorums", "()V"⟩, 12) := ⟨⟨by decide +kernel, by decide +kernel⟩, List.mem_of_getElem? (i := 7) (by decide +kernel), List.mem_of_getElem? (i := 61) (by decide +kernel), List.mem_of_getElem? (i := 62) (by decide +kernel)⟩
theorem lw_p1 : lw_okq (⟨"CommitSites", "note", "(IIIII)V"⟩, 12) := ⟨⟨by decide +kernel, by decide +kernel⟩, List.mem_of_getElem? (i := 7) (by decide +kernel), List.mem_of_getElem? (i := 65) (by decide +kernel), List.mem_of_getElem? (i := 66) (by decide +kernel)⟩
theorem lw_p2 : lw_okq (⟨"CommitSites", "isLink", "(II)Z"⟩, 12) := ⟨⟨by decide +kernel, by decide +kernel⟩, List.mem_of_getElem? (i := 7) (by decide +kernel), List.mem_of_getElem? (i := 168) (by decide +kernel), List.mem_of_getElem? (i := 169) (by decide +kernel)⟩
theorem lw_p3 : lw_okq (⟨"CommitSites", "isSite", "(I)Z"⟩, 12) := ⟨⟨by decide +kernel, by decide +kernel⟩, List.mem_of_getElem? (i := 7) (by decide +kernel), List.mem_of_getElem? (i := 172) (by decide +kernel), List.mem_of_getElem? (i := 173) (by decide +kernel)⟩
theorem lw_p4 : lw_okq (⟨"CommitSites", "askVotes", "(I)V"⟩, 12) := ⟨⟨by decide +kernel, by decide +kernel⟩, List.mem_of_getElem? (i := 7) (by decide +kernel), List.mem_of_getElem? (i := 191) (by decide +kernel), List.mem_of_getElem? (i := 192) (by decide +kernel)⟩
theorem lw_p5 : lw_okq (⟨"CommitSites", "become", "(LCommitSites$Site;I)V"⟩, 12) := ⟨⟨by decide +kernel, by decide +kernel⟩, List.mem_of_getElem? (i := 7) (by decide +kernel), List.mem_of_getElem? (i := 195) (by decide +kernel), List.mem_of_getElem? (i := 196) (by decide +kernel)⟩
theorem lw_p6 : lw_okq (⟨"CommitSites", "allBut", "(I)I"⟩, 12) := ⟨⟨by decide +kernel, by decide +kernel⟩, List.mem_of_getElem? (i := 7) (by decide +kernel), List.mem_of_getElem? (i := 203) (by decide +kernel), List.mem_of_getElem? (i := 204) (by decide +kernel)⟩
theorem lw_p7 : lw_okq (⟨"CommitSites", "everyone", "()I"⟩, 12) := ⟨⟨by decide +kernel, by decide +kernel⟩, List.mem_of_getElem? (i := 7) (by decide +kernel), List.mem_of_getElem? (i := 207) (by decide +kernel), List.mem_of_getElem? (i := 208) (by decide +kernel)⟩
theorem lw_p8 : lw_okq (⟨"CommitSites", "setTimer", "(LCommitSites$Site;I)V"⟩, 12) := ⟨⟨by decide +kernel, by decide +kernel⟩, List.mem_of_getElem? (i := 7) (by decide +kernel), List.mem_of_getElem? (i := 258) (by decide +kernel), List.mem_of_getElem? (i := 259) (by decide +kernel)⟩
theorem lw_p9 : lw_okq (⟨"CommitSites", "lead", "(II)V"⟩, 12) := ⟨⟨by decide +kernel, by decide +kernel⟩, List.mem_of_getElem? (i := 7) (by decide +kernel), List.mem_of_getElem? (i := 266) (by decide +kernel), List.mem_of_getElem? (i := 267) (by decide +kernel)⟩
theorem lw_p10 : lw_okq (⟨"CommitSites", "hasQuorum", "(LCommitSites$Site;)Z"⟩, 12) := ⟨⟨by decide +kernel, by decide +kernel⟩, List.mem_of_getElem? (i := 7) (by decide +kernel), List.mem_of_getElem? (i := 270) (by decide +kernel), List.mem_of_getElem? (i := 271) (by decide +kernel)⟩
theorem lw_p11 : lw_okq (⟨"CommitSites", "decide", "(II)V"⟩, 12) := ⟨⟨by decide +kernel, by decide +kernel⟩, List.mem_of_getElem? (i := 7) (by decide +kernel), List.mem_of_getElem? (i := 274) (by decide +kernel), List.mem_of_getElem? (i := 275) (by decide +kernel)⟩
theorem lw_p12 : lw_okq (⟨"CommitSites", "attempt", "(I)V"⟩, 12) := ⟨⟨by decide +kernel, by decide +kernel⟩, List.mem_of_getElem? (i := 7) (by decide +kernel), List.mem_of_getElem? (i := 289) (by decide +kernel), List.mem_of_getElem? (i := 290) (by decide +kernel)⟩
theorem lw_p13 : lw_okq (⟨"CommitSites", "takeNext", "(I)I"⟩, 12) := ⟨⟨by decide +kernel, by decide +kernel⟩, List.mem_of_getElem? (i := 7) (by decide +kernel), List.mem_of_getElem? (i := 298) (by decide +kernel), List.mem_of_getElem? (i := 299) (by decide +kernel)⟩
theorem lw_p14 : lw_okq (⟨"CommitSites", "firstTimer", "()I"⟩, 12) := ⟨⟨by decide +kernel, by decide +kernel⟩, List.mem_of_getElem? (i := 7) (by decide +kernel), List.mem_of_getElem? (i := 306) (by decide +kernel), List.mem_of_getElem? (i := 307) (by decide +kernel)⟩
theorem lw_p15 : lw_okq (⟨"CommitSites", "runOut", "(I)V"⟩, 12) := ⟨⟨by decide +kernel, by decide +kernel⟩, List.mem_of_getElem? (i := 7) (by decide +kernel), List.mem_of_getElem? (i := 318) (by decide +kernel), List.mem_of_getElem? (i := 319) (by decide +kernel)⟩
def lw_privs_1 : List (MethodName × Nat) := [(⟨"CommitSites", "shareQuorums", "()V"⟩, 12), (⟨"CommitSites", "note", "(IIIII)V"⟩, 12), (⟨"CommitSites", "isLink", "(II)Z"⟩, 12), (⟨"CommitSites", "isSite", "(I)Z"⟩, 12), (⟨"CommitSites", "askVotes", "(I)V"⟩, 12), (⟨"CommitSites", "become", "(LCommitSites$Site;I)V"⟩, 12), (⟨"CommitSites", "allBut", "(I)I"⟩, 12), (⟨"CommitSites", "everyone", "()I"⟩, 12), (⟨"CommitSites", "setTimer", "(LCommitSites$Site;I)V"⟩, 12), (⟨"CommitSites", "lead", "(II)V"⟩, 12), (⟨"CommitSites", "hasQuorum", "(LCommitSites$Site;)Z"⟩, 12), (⟨"CommitSites", "decide", "(II)V"⟩, 12), (⟨"CommitSites", "attempt", "(I)V"⟩, 12), (⟨"CommitSites", "takeNext", "(I)I"⟩, 12), (⟨"CommitSites", "firstTimer", "()I"⟩, 12), (⟨"CommitSites", "runOut", "(I)V"⟩, 12)]
theorem lw_r1 : ∀ q ∈ lw_privs_1, lw_okq q := List.forall_mem_cons.mpr ⟨lw_p0, List.forall_mem_cons.mpr ⟨lw_p1, List.forall_mem_cons.mpr ⟨lw_p2, List.forall_mem_cons.mpr ⟨lw_p3, List.forall_mem_cons.mpr ⟨lw_p4, List.forall_mem_cons.mpr ⟨lw_p5, List.forall_mem_cons.mpr ⟨lw_p6, List.forall_mem_cons.mpr ⟨lw_p7, List.forall_mem_cons.mpr ⟨lw_p8, List.forall_mem_cons.mpr ⟨lw_p9, List.forall_mem_cons.mpr ⟨lw_p10, List.forall_mem_cons.mpr ⟨lw_p11, List.forall_mem_cons.mpr ⟨lw_p12, List.forall_mem_cons.mpr ⟨lw_p13, List.forall_mem_cons.mpr ⟨lw_p14, List.forall_mem_cons.mpr ⟨lw_p15, fun _ h => absurd h List.not_mem_nil⟩⟩⟩⟩⟩⟩⟩⟩⟩⟩⟩⟩⟩⟩⟩⟩
theorem lw_p16 : lw_okq (⟨"CommitSites", "toldWeight", "(LCommitSites$Site;I)I"⟩, 12) := ⟨⟨by decide +kernel, by decide +kernel⟩, List.mem_of_getElem? (i := 7) (by decide +kernel), List.mem_of_getElem? (i := 322) (by decide +kernel), List.mem_of_getElem? (i := 323) (by decide +kernel)⟩
theorem lw_p17 : lw_okq (⟨"CommitSites", "receive", "(LCommitSites$Message;)V"⟩, 12) := ⟨⟨by decide +kernel, by decide +kernel⟩, List.mem_of_getElem? (i := 7) (by decide +kernel), List.mem_of_getElem? (i := 330) (by decide +kernel), List.mem_of_getElem? (i := 331) (by decide +kernel)⟩
theorem lw_p18 : lw_okq (⟨"CommitSites", "onAskVote", "(II)V"⟩, 12) := ⟨⟨by decide +kernel, by decide +kernel⟩, List.mem_of_getElem? (i := 7) (by decide +kernel), List.mem_of_getElem? (i := 334) (by decide +kernel), List.mem_of_getElem? (i := 335) (by decide +kernel)⟩
theorem lw_p19 : lw_okq (⟨"CommitSites", "onYes", "(II)V"⟩, 12) := ⟨⟨by decide +kernel, by decide +kernel⟩, List.mem_of_getElem? (i := 7) (by decide +kernel), List.mem_of_getElem? (i := 338) (by decide +kernel), List.mem_of_getElem? (i := 339) (by decide +kernel)⟩
theorem lw_p20 : lw_okq (⟨"CommitSites", "onNo", "(I)V"⟩, 12) := ⟨⟨by decide +kernel, by decide +kernel⟩, List.mem_of_getElem? (i := 7) (by decide +kernel), List.mem_of_getElem? (i := 342) (by decide +kernel), List.mem_of_getElem? (i := 343) (by decide +kernel)⟩
theorem lw_p21 : lw_okq (⟨"CommitSites", "onAskState", "(III)V"⟩, 12) := ⟨⟨by decide +kernel, by decide +kernel⟩, List.mem_of_getElem? (i := 7) (by decide +kernel), List.mem_of_getElem? (i := 346) (by decide +kernel), List.mem_of_getElem? (i := 347) (by decide +kernel)⟩
theorem lw_p22 : lw_okq (⟨"CommitSites", "yieldTo", "(II)V"⟩, 12) := ⟨⟨by decide +kernel, by decide +kernel⟩, List.mem_of_getElem? (i := 7) (by decide +kernel), List.mem_of_getElem? (i := 350) (by decide +kernel), List.mem_of_getElem? (i := 351) (by decide +kernel)⟩
theorem lw_p23 : lw_okq (⟨"CommitSites", "onState", "(IIII)V"⟩, 12) := ⟨⟨by decide +kernel, by decide +kernel⟩, List.mem_of_getElem? (i := 7) (by decide +kernel), List.mem_of_getElem? (i := 354) (by decide +kernel), List.mem_of_getElem? (i := 355) (by decide +kernel)⟩
theorem lw_p24 : lw_okq (⟨"CommitSites", "onAskReady", "(IIII)V"⟩, 12) := ⟨⟨by decide +kernel, by decide +kernel⟩, List.mem_of_getElem? (i := 7) (by decide +kernel), List.mem_of_getElem? (i := 358) (by decide +kernel), List.mem_of_getElem? (i := 359) (by decide +kernel)⟩
theorem lw_p25 : lw_okq (⟨"CommitSites", "onAcknowledge", "(III)V"⟩, 12) := ⟨⟨by decide +kernel, by decide +kernel⟩, List.mem_of_getElem? (i := 7) (by decide +kernel), List.mem_of_getElem? (i := 362) (by decide +kernel), List.mem_of_getElem? (i := 363) (by decide +kernel)⟩
theorem lw_p26 : lw_okq (⟨"CommitSites", "onDecision", "(II)V"⟩, 12) := ⟨⟨by decide +kernel, by decide +kernel⟩, List.mem_of_getElem? (i := 7) (by decide +kernel), List.mem_of_getElem? (i := 370) (by decide +kernel), List.mem_of_getElem? (i := 371) (by decide +kernel)⟩
theorem lw_p27 : lw_okq (⟨"CommitSitesModel", "all", "()I"⟩, 34) := ⟨⟨by decide +kernel, by decide +kernel⟩, List.mem_of_getElem? (i := 415) (by decide +kernel), List.mem_of_getElem? (i := 530) (by decide +kernel), List.mem_of_getElem? (i := 531) (by decide +kernel)⟩
theorem lw_p28 : lw_okq (⟨"CommitSitesModel", "isSite", "(I)Z"⟩, 34) := ⟨⟨by decide +kernel, by decide +kernel⟩, List.mem_of_getElem? (i := 415) (by decide +kernel), List.mem_of_getElem? (i := 542) (by decide +kernel), List.mem_of_getElem? (i := 543) (by decide +kernel)⟩
theorem lw_p29 : lw_okq (⟨"CommitSitesModel", "decide", "(II)V"⟩, 34) := ⟨⟨by decide +kernel, by decide +kernel⟩, List.mem_of_getElem? (i := 415) (by decide +kernel), List.mem_of_getElem? (i := 558) (by decide +kernel), List.mem_of_getElem? (i := 559) (by decide +kernel)⟩
theorem lw_p30 : lw_okq (⟨"CommitSitesModel", "become", "(II)V"⟩, 34) := ⟨⟨by decide +kernel, by decide +kernel⟩, List.mem_of_getElem? (i := 415) (by decide +kernel), List.mem_of_getElem? (i := 562) (by decide +kernel), List.mem_of_getElem? (i := 563) (by decide +kernel)⟩
theorem lw_p31 : lw_okq (⟨"CommitSitesModel", "sendAll", "(III)V"⟩, 34) := ⟨⟨by decide +kernel, by decide +kernel⟩, List.mem_of_getElem? (i := 415) (by decide +kernel), List.mem_of_getElem? (i := 566) (by decide +kernel), List.mem_of_getElem? (i := 567) (by decide +kernel)⟩
def lw_privs_2 : List (MethodName × Nat) := [(⟨"CommitSites", "toldWeight", "(LCommitSites$Site;I)I"⟩, 12), (⟨"CommitSites", "receive", "(LCommitSites$Message;)V"⟩, 12), (⟨"CommitSites", "onAskVote", "(II)V"⟩, 12), (⟨"CommitSites", "onYes", "(II)V"⟩, 12), (⟨"CommitSites", "onNo", "(I)V"⟩, 12), (⟨"CommitSites", "onAskState", "(III)V"⟩, 12), (⟨"CommitSites", "yieldTo", "(II)V"⟩, 12), (⟨"CommitSites", "onState", "(IIII)V"⟩, 12), (⟨"CommitSites", "onAskReady", "(IIII)V"⟩, 12), (⟨"CommitSites", "onAcknowledge", "(III)V"⟩, 12), (⟨"CommitSites", "onDecision", "(II)V"⟩, 12), (⟨"CommitSitesModel", "all", "()I"⟩, 34), (⟨"CommitSitesModel", "isSite", "(I)Z"⟩, 34), (⟨"CommitSitesModel", "decide", "(II)V"⟩, 34), (⟨"CommitSitesModel", "become", "(II)V"⟩, 34), (⟨"CommitSitesModel", "sendAll", "(III)V"⟩, 34)]
theorem lw_r2 : ∀ q ∈ lw_privs_2, lw_okq q := List.forall_mem_cons.mpr ⟨lw_p16, List.forall_mem_cons.mpr ⟨lw_p17, List.forall_mem_cons.mpr ⟨lw_p18, List.forall_mem_cons.mpr ⟨lw_p19, List.forall_mem_cons.mpr ⟨lw_p20, List.forall_mem_cons.mpr ⟨lw_p21, List.forall_mem_cons.mpr ⟨lw_p22, List.forall_mem_cons.mpr ⟨lw_p23, List.forall_mem_cons.mpr ⟨lw_p24, List.forall_mem_cons.mpr ⟨lw_p25, List.forall_mem_cons.mpr ⟨lw_p26, List.forall_mem_cons.mpr ⟨lw_p27, List.forall_mem_cons.mpr ⟨lw_p28, List.forall_mem_cons.mpr ⟨lw_p29, List.forall_mem_cons.mpr ⟨lw_p30, List.forall_mem_cons.mpr ⟨lw_p31, fun _ h => absurd h List.not_mem_nil⟩⟩⟩⟩⟩⟩⟩⟩⟩⟩⟩⟩⟩⟩⟩⟩
theorem lw_p32 : lw_okq (⟨"CommitSitesModel", "send", "(IIIII)V"⟩, 34) := ⟨⟨by decide +kernel, by decide +kernel⟩, List.mem_of_getElem? (i := 415) (by decide +kernel), List.mem_of_getElem? (i := 570) (by decide +kernel), List.mem_of_getElem? (i := 571) (by decide +kernel)⟩
theorem lw_p33 : lw_okq (⟨"CommitSitesModel", "clearThere", "(II)V"⟩, 34) := ⟨⟨by decide +kernel, by decide +kernel⟩, List.mem_of_getElem? (i := 415) (by decide +kernel), List.mem_of_getElem? (i := 574) (by decide +kernel), List.mem_of_getElem? (i := 575) (by decide +kernel)⟩
theorem lw_p34 : lw_okq (⟨"CommitSitesModel", "setTimer", "(II)V"⟩, 34) := ⟨⟨by decide +kernel, by decide +kernel⟩, List.mem_of_getElem? (i := 415) (by decide +kernel), List.mem_of_getElem? (i := 578) (by decide +kernel), List.mem_of_getElem? (i := 579) (by decide +kernel)⟩
theorem lw_p35 : lw_okq (⟨"CommitSitesModel", "checkVotes", "(I)V"⟩, 34) := ⟨⟨by decide +kernel, by decide +kernel⟩, List.mem_of_getElem? (i := 415) (by decide +kernel), List.mem_of_getElem? (i := 582) (by decide +kernel), List.mem_of_getElem? (i := 583) (by decide +kernel)⟩
theorem lw_p36 : lw_okq (⟨"CommitSitesModel", "lead", "(II)V"⟩, 34) := ⟨⟨by decide +kernel, by decide +kernel⟩, List.mem_of_getElem? (i := 415) (by decide +kernel), List.mem_of_getElem? (i := 586) (by decide +kernel), List.mem_of_getElem? (i := 587) (by decide +kernel)⟩
theorem lw_p37 : lw_okq (⟨"CommitSitesModel", "checkQuorum", "(I)V"⟩, 34) := ⟨⟨by decide +kernel, by decide +kernel⟩, List.mem_of_getElem? (i := 415) (by decide +kernel), List.mem_of_getElem? (i := 590) (by decide +kernel), List.mem_of_getElem? (i := 591) (by decide +kernel)⟩
theorem lw_p38 : lw_okq (⟨"CommitSitesModel", "weightThere", "(I)I"⟩, 34) := ⟨⟨by decide +kernel, by decide +kernel⟩, List.mem_of_getElem? (i := 415) (by decide +kernel), List.mem_of_getElem? (i := 594) (by decide +kernel), List.mem_of_getElem? (i := 595) (by decide +kernel)⟩
theorem lw_p39 : lw_okq (⟨"CommitSitesModel", "isDecided", "(I)Z"⟩, 34) := ⟨⟨by decide +kernel, by decide +kernel⟩, List.mem_of_getElem? (i := 415) (by decide +kernel), List.mem_of_getElem? (i := 606) (by decide +kernel), List.mem_of_getElem? (i := 607) (by decide +kernel)⟩
theorem lw_p40 : lw_okq (⟨"CommitSitesModel", "attempt", "(I)V"⟩, 34) := ⟨⟨by decide +kernel, by decide +kernel⟩, List.mem_of_getElem? (i := 415) (by decide +kernel), List.mem_of_getElem? (i := 610) (by decide +kernel), List.mem_of_getElem? (i := 611) (by decide +kernel)⟩
theorem lw_p41 : lw_okq (⟨"CommitSitesModel", "findNext", "()V"⟩, 34) := ⟨⟨by decide +kernel, by decide +kernel⟩, List.mem_of_getElem? (i := 415) (by decide +kernel), List.mem_of_getElem? (i := 618) (by decide +kernel), List.mem_of_getElem? (i := 619) (by decide +kernel)⟩
theorem lw_p42 : lw_okq (⟨"CommitSitesModel", "take", "()Z"⟩, 34) := ⟨⟨by decide +kernel, by decide +kernel⟩, List.mem_of_getElem? (i := 415) (by decide +kernel), List.mem_of_getElem? (i := 622) (by decide +kernel), List.mem_of_getElem? (i := 623) (by decide +kernel)⟩
theorem lw_p43 : lw_okq (⟨"CommitSitesModel", "tell", "(IIIII)V"⟩, 34) := ⟨⟨by decide +kernel, by decide +kernel⟩, List.mem_of_getElem? (i := 415) (by decide +kernel), List.mem_of_getElem? (i := 626) (by decide +kernel), List.mem_of_getElem? (i := 627) (by decide +kernel)⟩
theorem lw_p44 : lw_okq (⟨"CommitSitesModel", "ring", "(I)V"⟩, 34) := ⟨⟨by decide +kernel, by decide +kernel⟩, List.mem_of_getElem? (i := 415) (by decide +kernel), List.mem_of_getElem? (i := 630) (by decide +kernel), List.mem_of_getElem? (i := 631) (by decide +kernel)⟩
theorem lw_p45 : lw_okq (⟨"CommitSitesModel", "weightOf", "(II)I"⟩, 34) := ⟨⟨by decide +kernel, by decide +kernel⟩, List.mem_of_getElem? (i := 415) (by decide +kernel), List.mem_of_getElem? (i := 634) (by decide +kernel), List.mem_of_getElem? (i := 635) (by decide +kernel)⟩
theorem lw_p46 : lw_okq (⟨"CommitSitesModel", "handle", "(IIIII)V"⟩, 34) := ⟨⟨by decide +kernel, by decide +kernel⟩, List.mem_of_getElem? (i := 415) (by decide +kernel), List.mem_of_getElem? (i := 638) (by decide +kernel), List.mem_of_getElem? (i := 639) (by decide +kernel)⟩
theorem lw_p47 : lw_okq (⟨"CommitSitesModel", "yieldTo", "(II)V"⟩, 34) := ⟨⟨by decide +kernel, by decide +kernel⟩, List.mem_of_getElem? (i := 415) (by decide +kernel), List.mem_of_getElem? (i := 642) (by decide +kernel), List.mem_of_getElem? (i := 643) (by decide +kernel)⟩
def lw_privs_3 : List (MethodName × Nat) := [(⟨"CommitSitesModel", "send", "(IIIII)V"⟩, 34), (⟨"CommitSitesModel", "clearThere", "(II)V"⟩, 34), (⟨"CommitSitesModel", "setTimer", "(II)V"⟩, 34), (⟨"CommitSitesModel", "checkVotes", "(I)V"⟩, 34), (⟨"CommitSitesModel", "lead", "(II)V"⟩, 34), (⟨"CommitSitesModel", "checkQuorum", "(I)V"⟩, 34), (⟨"CommitSitesModel", "weightThere", "(I)I"⟩, 34), (⟨"CommitSitesModel", "isDecided", "(I)Z"⟩, 34), (⟨"CommitSitesModel", "attempt", "(I)V"⟩, 34), (⟨"CommitSitesModel", "findNext", "()V"⟩, 34), (⟨"CommitSitesModel", "take", "()Z"⟩, 34), (⟨"CommitSitesModel", "tell", "(IIIII)V"⟩, 34), (⟨"CommitSitesModel", "ring", "(I)V"⟩, 34), (⟨"CommitSitesModel", "weightOf", "(II)I"⟩, 34), (⟨"CommitSitesModel", "handle", "(IIIII)V"⟩, 34), (⟨"CommitSitesModel", "yieldTo", "(II)V"⟩, 34)]
theorem lw_r3 : ∀ q ∈ lw_privs_3, lw_okq q := List.forall_mem_cons.mpr ⟨lw_p32, List.forall_mem_cons.mpr ⟨lw_p33, List.forall_mem_cons.mpr ⟨lw_p34, List.forall_mem_cons.mpr ⟨lw_p35, List.forall_mem_cons.mpr ⟨lw_p36, List.forall_mem_cons.mpr ⟨lw_p37, List.forall_mem_cons.mpr ⟨lw_p38, List.forall_mem_cons.mpr ⟨lw_p39, List.forall_mem_cons.mpr ⟨lw_p40, List.forall_mem_cons.mpr ⟨lw_p41, List.forall_mem_cons.mpr ⟨lw_p42, List.forall_mem_cons.mpr ⟨lw_p43, List.forall_mem_cons.mpr ⟨lw_p44, List.forall_mem_cons.mpr ⟨lw_p45, List.forall_mem_cons.mpr ⟨lw_p46, List.forall_mem_cons.mpr ⟨lw_p47, fun _ h => absurd h List.not_mem_nil⟩⟩⟩⟩⟩⟩⟩⟩⟩⟩⟩⟩⟩⟩⟩⟩
theorem lw_p48 : lw_okq (⟨"CommitSitesModel", "prepare", "(IIII)V"⟩, 34) := ⟨⟨by decide +kernel, by decide +kernel⟩, List.mem_of_getElem? (i := 415) (by decide +kernel), List.mem_of_getElem? (i := 646) (by decide +kernel), List.mem_of_getElem? (i := 647) (by decide +kernel)⟩
def lw_privs_4 : List (MethodName × Nat) := [(⟨"CommitSitesModel", "prepare", "(IIII)V"⟩, 34)]
theorem lw_r4 : ∀ q ∈ lw_privs_4, lw_okq q := List.forall_mem_cons.mpr ⟨lw_p48, fun _ h => absurd h List.not_mem_nil⟩
def lw_privs : List (MethodName × Nat) := lw_privs_1 ++ (lw_privs_2 ++ (lw_privs_3 ++ (lw_privs_4)))
def lw_tbl : List Cond := k2_sels lw_privs ++ tables_1
theorem lw_privs_ok : ∀ q ∈ lw_privs, lw_okq q := by
  show ∀ q ∈ lw_privs_1 ++ (lw_privs_2 ++ (lw_privs_3 ++ (lw_privs_4))), lw_okq q
  exact List.forall_mem_append.mpr ⟨lw_r1, List.forall_mem_append.mpr ⟨lw_r2, List.forall_mem_append.mpr ⟨lw_r3, lw_r4⟩⟩⟩
end
section
def RX0 : String := "CommitSites$Message"
def TX0 : u_T := fun k => match k with
  | 0 => ("CommitSites$Message", "time", "I", false)
  | 1 => ("CommitSites$Message", "order", "I", false)
  | 2 => ("CommitSites$Message", "kind", "I", false)
  | 3 => ("CommitSites$Message", "from", "I", false)
  | 4 => ("CommitSites$Message", "to", "I", false)
  | 5 => ("CommitSites$Message", "attempt", "I", false)
  | 6 => ("CommitSites$Message", "told", "I", false)
  | _ => ("CommitSites$Message", "next", "LCommitSites$Message;", false)
def tyX0 : Nat → FieldType := fun k => match k with
  | 0 => .int
  | 1 => .int
  | 2 => .int
  | 3 => .int
  | 4 => .int
  | 5 => .int
  | 6 => .int
  | _ => .object "CommitSites$Message"
abbrev wsX00 : List Cond := u_ws RX0 TX0 8
theorem nmX0 : ∀ a, a < 8 → ∀ b, b < 8 → a ≠ b → (TX0 a).2.1 ≠ (TX0 b).2.1 := by decide +kernel
theorem tyX0_ok : ∀ k, k < 8 → parseFieldDescriptor (TX0 k).2.2.1 = some (tyX0 k) := by decide +kernel
abbrev cX0_init : ByteArray := prog_2_method_1_code
def yX0_init : MethodName := ⟨RX0, "<init>", "()V"⟩
def RX1 : String := "CommitSites$Network"
def TX1 : u_T := fun k => match k with
  | 0 => ("CommitSites$Network", "delays", "[[I", true)
  | 1 => ("CommitSites$Network", "heads", "[LCommitSites$Message;", true)
  | 2 => ("CommitSites$Network", "tails", "[LCommitSites$Message;", true)
  | 3 => ("CommitSites$Network", "spare", "LCommitSites$Message;", false)
  | 4 => ("CommitSites$Network", "time", "I", false)
  | 5 => ("CommitSites$Network", "order", "I", false)
  | 6 => ("CommitSites$Network", "sent", "I", false)
  | 7 => ("CommitSites$Network", "lost", "I", false)
  | _ => ("CommitSites$Network", "onWay", "I", false)
def tyX1 : Nat → FieldType := fun k => match k with
  | 0 => .array (.array .int)
  | 1 => .array (.object "CommitSites$Message")
  | 2 => .array (.object "CommitSites$Message")
  | 3 => .object "CommitSites$Message"
  | 4 => .int
  | 5 => .int
  | 6 => .int
  | 7 => .int
  | _ => .int
abbrev wsX10 : List Cond := u_ws RX1 TX1 9
theorem nmX1 : ∀ a, a < 9 → ∀ b, b < 9 → a ≠ b → (TX1 a).2.1 ≠ (TX1 b).2.1 := by decide +kernel
theorem tyX1_ok : ∀ k, k < 9 → parseFieldDescriptor (TX1 k).2.2.1 = some (tyX1 k) := by decide +kernel
abbrev cX1_init : ByteArray := prog_3_method_1_code
def yX1_init : MethodName := ⟨RX1, "<init>", "()V"⟩
abbrev cX1_startAnew : ByteArray := prog_3_method_2_code
def yX1_startAnew : MethodName := ⟨RX1, "startAnew", "()V"⟩
abbrev cX1_nextOrder : ByteArray := prog_3_method_3_code
def yX1_nextOrder : MethodName := ⟨RX1, "nextOrder", "()I"⟩
abbrev cX1_send : ByteArray := prog_3_method_4_code
def yX1_send : MethodName := ⟨RX1, "send", "(IIIII)V"⟩
abbrev cX1_putOn : ByteArray := prog_3_method_5_code
def yX1_putOn : MethodName := ⟨RX1, "putOn", "(LCommitSites$Message;)V"⟩
abbrev cX1_first : ByteArray := prog_3_method_6_code
def yX1_first : MethodName := ⟨RX1, "first", "()LCommitSites$Message;"⟩
abbrev cX1_takeOff : ByteArray := prog_3_method_7_code
def yX1_takeOff : MethodName := ⟨RX1, "takeOff", "(LCommitSites$Message;)V"⟩
abbrev cX1_keepSpare : ByteArray := prog_3_method_8_code
def yX1_keepSpare : MethodName := ⟨RX1, "keepSpare", "(LCommitSites$Message;)V"⟩
def RX2 : String := "CommitSites$Site"
def TX2 : u_T := fun k => match k with
  | 0 => ("CommitSites$Site", "weight", "I", true)
  | 1 => ("CommitSites$Site", "stateOf", "[I", true)
  | 2 => ("CommitSites$Site", "there", "I", false)
  | 3 => ("CommitSites$Site", "up", "Z", false)
  | 4 => ("CommitSites$Site", "state", "I", false)
  | 5 => ("CommitSites$Site", "since", "I", false)
  | 6 => ("CommitSites$Site", "does", "I", false)
  | 7 => ("CommitSites$Site", "attempt", "I", false)
  | 8 => ("CommitSites$Site", "timer", "I", false)
  | _ => ("CommitSites$Site", "timerOrder", "I", false)
def tyX2 : Nat → FieldType := fun k => match k with
  | 0 => .int
  | 1 => .array .int
  | 2 => .int
  | 3 => .boolean
  | 4 => .int
  | 5 => .int
  | 6 => .int
  | 7 => .int
  | 8 => .int
  | _ => .int
abbrev wsX20 : List Cond := u_ws RX2 TX2 10
theorem nmX2 : ∀ a, a < 10 → ∀ b, b < 10 → a ≠ b → (TX2 a).2.1 ≠ (TX2 b).2.1 := by decide +kernel
theorem tyX2_ok : ∀ k, k < 10 → parseFieldDescriptor (TX2 k).2.2.1 = some (tyX2 k) := by decide +kernel
abbrev cX2_init : ByteArray := prog_4_method_1_code
def yX2_init : MethodName := ⟨RX2, "<init>", "(I)V"⟩
abbrev cX2_startAnew : ByteArray := prog_4_method_2_code
def yX2_startAnew : MethodName := ⟨RX2, "startAnew", "()V"⟩
abbrev cX2_isDecided : ByteArray := prog_4_method_3_code
def yX2_isDecided : MethodName := ⟨RX2, "isDecided", "()Z"⟩
abbrev cX2_collectsAcks : ByteArray := prog_4_method_4_code
def yX2_collectsAcks : MethodName := ⟨RX2, "collectsAcks", "()Z"⟩
abbrev cX2_runsOutEarlier : ByteArray := prog_4_method_5_code
def yX2_runsOutEarlier : MethodName := ⟨RX2, "runsOutEarlier", "(LCommitSites$Site;)Z"⟩
abbrev cX2_runsOutBefore : ByteArray := prog_4_method_6_code
def yX2_runsOutBefore : MethodName := ⟨RX2, "runsOutBefore", "(LCommitSites$Message;)Z"⟩
def RX3 : String := "CommitSites"
def TX3 : u_T := fun k => match k with
  | 0 => ("CommitSites", "sites", "[LCommitSites$Site;", true)
  | 1 => ("CommitSites", "network", "LCommitSites$Network;", true)
  | 2 => ("CommitSites", "latestEvent", "[I", true)
  | 3 => ("CommitSites", "siteCount", "I", false)
  | 4 => ("CommitSites", "allWeight", "I", false)
  | 5 => ("CommitSites", "commitQuorum", "I", false)
  | 6 => ("CommitSites", "abortQuorum", "I", false)
  | 7 => ("CommitSites", "patienceTicks", "I", false)
  | 8 => ("CommitSites", "begun", "Z", false)
  | 9 => ("CommitSites", "yesVotes", "I", false)
  | 10 => ("CommitSites", "messagesCome", "I", false)
  | _ => ("CommitSites", "timersRunOut", "I", false)
def tyX3 : Nat → FieldType := fun k => match k with
  | 0 => .array (.object "CommitSites$Site")
  | 1 => .object "CommitSites$Network"
  | 2 => .array .int
  | 3 => .int
  | 4 => .int
  | 5 => .int
  | 6 => .int
  | 7 => .int
  | 8 => .boolean
  | 9 => .int
  | 10 => .int
  | _ => .int
abbrev wsX30 : List Cond := u_ws RX3 TX3 12
theorem nmX3 : ∀ a, a < 12 → ∀ b, b < 12 → a ≠ b → (TX3 a).2.1 ≠ (TX3 b).2.1 := by decide +kernel
theorem tyX3_ok : ∀ k, k < 12 → parseFieldDescriptor (TX3 k).2.2.1 = some (tyX3 k) := by decide +kernel
abbrev cX3_init : ByteArray := prog_1_method_1_code
def yX3_init : MethodName := ⟨RX3, "<init>", "()V"⟩
abbrev cX3_site : ByteArray := prog_1_method_2_code
def yX3_site : MethodName := ⟨RX3, "site", "(I)I"⟩
abbrev cX3_quorums : ByteArray := prog_1_method_3_code
def yX3_quorums : MethodName := ⟨RX3, "quorums", "(II)I"⟩
abbrev cX3_link : ByteArray := prog_1_method_4_code
def yX3_link : MethodName := ⟨RX3, "link", "(III)I"⟩
abbrev cX3_part : ByteArray := prog_1_method_5_code
def yX3_part : MethodName := ⟨RX3, "part", "(II)I"⟩
abbrev cX3_patience : ByteArray := prog_1_method_6_code
def yX3_patience : MethodName := ⟨RX3, "patience", "(I)I"⟩
abbrev cX3_begin : ByteArray := prog_1_method_7_code
def yX3_begin : MethodName := ⟨RX3, "begin", "(II)I"⟩
abbrev cX3_crash : ByteArray := prog_1_method_8_code
def yX3_crash : MethodName := ⟨RX3, "crash", "(I)I"⟩
abbrev cX3_recover : ByteArray := prog_1_method_9_code
def yX3_recover : MethodName := ⟨RX3, "recover", "(I)I"⟩
abbrev cX3_run : ByteArray := prog_1_method_10_code
def yX3_run : MethodName := ⟨RX3, "run", "(I)I"⟩
abbrev cX3_step : ByteArray := prog_1_method_11_code
def yX3_step : MethodName := ⟨RX3, "step", "()I"⟩
abbrev cX3_reset : ByteArray := prog_1_method_12_code
def yX3_reset : MethodName := ⟨RX3, "reset", "()I"⟩
abbrev cX3_of : ByteArray := prog_1_method_13_code
def yX3_of : MethodName := ⟨RX3, "of", "(II)I"⟩
abbrev cX3_count : ByteArray := prog_1_method_14_code
def yX3_count : MethodName := ⟨RX3, "count", "(I)I"⟩
abbrev cX3_delay : ByteArray := prog_1_method_15_code
def yX3_delay : MethodName := ⟨RX3, "delay", "(II)I"⟩
abbrev cX3_weight : ByteArray := prog_1_method_16_code
def yX3_weight : MethodName := ⟨RX3, "weight", "(I)I"⟩
abbrev cX3_latest : ByteArray := prog_1_method_17_code
def yX3_latest : MethodName := ⟨RX3, "latest", "(I)I"⟩
abbrev cX3_check : ByteArray := prog_1_method_18_code
def yX3_check : MethodName := ⟨RX3, "check", "()I"⟩
abbrev cX3_isSite : ByteArray := prog_1_method_19_code
def yX3_isSite : MethodName := ⟨RX3, "isSite", "(I)Z"⟩
abbrev cX3_isLink : ByteArray := prog_1_method_20_code
def yX3_isLink : MethodName := ⟨RX3, "isLink", "(II)Z"⟩
abbrev cX3_hasBit : ByteArray := prog_1_method_21_code
def yX3_hasBit : MethodName := ⟨RX3, "hasBit", "(II)Z"⟩
abbrev cX3_everyone : ByteArray := prog_1_method_22_code
def yX3_everyone : MethodName := ⟨RX3, "everyone", "()I"⟩
abbrev cX3_allBut : ByteArray := prog_1_method_23_code
def yX3_allBut : MethodName := ⟨RX3, "allBut", "(I)I"⟩
abbrev cX3_shareQuorums : ByteArray := prog_1_method_24_code
def yX3_shareQuorums : MethodName := ⟨RX3, "shareQuorums", "()V"⟩
abbrev cX3_note : ByteArray := prog_1_method_25_code
def yX3_note : MethodName := ⟨RX3, "note", "(IIIII)V"⟩
abbrev cX3_takeNext : ByteArray := prog_1_method_26_code
def yX3_takeNext : MethodName := ⟨RX3, "takeNext", "(I)I"⟩
abbrev cX3_firstTimer : ByteArray := prog_1_method_27_code
def yX3_firstTimer : MethodName := ⟨RX3, "firstTimer", "()I"⟩
abbrev cX3_receive : ByteArray := prog_1_method_28_code
def yX3_receive : MethodName := ⟨RX3, "receive", "(LCommitSites$Message;)V"⟩
abbrev cX3_onAskVote : ByteArray := prog_1_method_29_code
def yX3_onAskVote : MethodName := ⟨RX3, "onAskVote", "(II)V"⟩
abbrev cX3_onYes : ByteArray := prog_1_method_30_code
def yX3_onYes : MethodName := ⟨RX3, "onYes", "(II)V"⟩
abbrev cX3_onNo : ByteArray := prog_1_method_31_code
def yX3_onNo : MethodName := ⟨RX3, "onNo", "(I)V"⟩
abbrev cX3_onAskState : ByteArray := prog_1_method_32_code
def yX3_onAskState : MethodName := ⟨RX3, "onAskState", "(III)V"⟩
abbrev cX3_onState : ByteArray := prog_1_method_33_code
def yX3_onState : MethodName := ⟨RX3, "onState", "(IIII)V"⟩
abbrev cX3_onAskReady : ByteArray := prog_1_method_34_code
def yX3_onAskReady : MethodName := ⟨RX3, "onAskReady", "(IIII)V"⟩
abbrev cX3_onAcknowledge : ByteArray := prog_1_method_35_code
def yX3_onAcknowledge : MethodName := ⟨RX3, "onAcknowledge", "(III)V"⟩
abbrev cX3_onDecision : ByteArray := prog_1_method_36_code
def yX3_onDecision : MethodName := ⟨RX3, "onDecision", "(II)V"⟩
abbrev cX3_runOut : ByteArray := prog_1_method_37_code
def yX3_runOut : MethodName := ⟨RX3, "runOut", "(I)V"⟩
abbrev cX3_askVotes : ByteArray := prog_1_method_38_code
def yX3_askVotes : MethodName := ⟨RX3, "askVotes", "(I)V"⟩
abbrev cX3_attempt : ByteArray := prog_1_method_39_code
def yX3_attempt : MethodName := ⟨RX3, "attempt", "(I)V"⟩
abbrev cX3_lead : ByteArray := prog_1_method_40_code
def yX3_lead : MethodName := ⟨RX3, "lead", "(II)V"⟩
abbrev cX3_decide : ByteArray := prog_1_method_41_code
def yX3_decide : MethodName := ⟨RX3, "decide", "(II)V"⟩
abbrev cX3_tidingsOf : ByteArray := prog_1_method_42_code
def yX3_tidingsOf : MethodName := ⟨RX3, "tidingsOf", "(I)I"⟩
abbrev cX3_yieldTo : ByteArray := prog_1_method_43_code
def yX3_yieldTo : MethodName := ⟨RX3, "yieldTo", "(II)V"⟩
abbrev cX3_become : ByteArray := prog_1_method_44_code
def yX3_become : MethodName := ⟨RX3, "become", "(LCommitSites$Site;I)V"⟩
abbrev cX3_setTimer : ByteArray := prog_1_method_45_code
def yX3_setTimer : MethodName := ⟨RX3, "setTimer", "(LCommitSites$Site;I)V"⟩
abbrev cX3_hasQuorum : ByteArray := prog_1_method_46_code
def yX3_hasQuorum : MethodName := ⟨RX3, "hasQuorum", "(LCommitSites$Site;)Z"⟩
abbrev cX3_toldWeight : ByteArray := prog_1_method_47_code
def yX3_toldWeight : MethodName := ⟨RX3, "toldWeight", "(LCommitSites$Site;I)I"⟩
def RX4 : String := "CommitSitesModel"
def TX4 : u_T := fun k => match k with
  | 0 => ("CommitSitesModel", "thrown", "I", false)
  | 1 => ("CommitSitesModel", "sites", "I", false)
  | 2 => ("CommitSitesModel", "weights", "[I", true)
  | 3 => ("CommitSitesModel", "commitQuorum", "I", false)
  | 4 => ("CommitSitesModel", "abortQuorum", "I", false)
  | 5 => ("CommitSitesModel", "patience", "I", false)
  | 6 => ("CommitSitesModel", "delays", "[I", true)
  | 7 => ("CommitSitesModel", "begun", "Z", false)
  | 8 => ("CommitSitesModel", "now", "I", false)
  | 9 => ("CommitSitesModel", "numbers", "I", false)
  | 10 => ("CommitSitesModel", "sent", "I", false)
  | 11 => ("CommitSitesModel", "come", "I", false)
  | 12 => ("CommitSitesModel", "lost", "I", false)
  | 13 => ("CommitSitesModel", "rang", "I", false)
  | 14 => ("CommitSitesModel", "states", "[I", true)
  | 15 => ("CommitSitesModel", "since", "[I", true)
  | 16 => ("CommitSitesModel", "down", "[Z", true)
  | 17 => ("CommitSitesModel", "votes", "[Z", true)
  | 18 => ("CommitSitesModel", "doing", "[I", true)
  | 19 => ("CommitSitesModel", "attempts", "[I", true)
  | 20 => ("CommitSitesModel", "there", "[I", true)
  | 21 => ("CommitSitesModel", "timers", "[I", true)
  | 22 => ("CommitSitesModel", "timerNumbers", "[I", true)
  | 23 => ("CommitSitesModel", "kinds", "[I", true)
  | 24 => ("CommitSitesModel", "froms", "[I", true)
  | 25 => ("CommitSitesModel", "tos", "[I", true)
  | 26 => ("CommitSitesModel", "attemptsTold", "[I", true)
  | 27 => ("CommitSitesModel", "statesTold", "[I", true)
  | 28 => ("CommitSitesModel", "times", "[I", true)
  | 29 => ("CommitSitesModel", "order", "[I", true)
  | 30 => ("CommitSitesModel", "messages", "I", false)
  | 31 => ("CommitSitesModel", "latest", "[I", true)
  | 32 => ("CommitSitesModel", "nextWhat", "I", false)
  | _ => ("CommitSitesModel", "nextTime", "I", false)
def tyX4 : Nat → FieldType := fun k => match k with
  | 0 => .int
  | 1 => .int
  | 2 => .array .int
  | 3 => .int
  | 4 => .int
  | 5 => .int
  | 6 => .array .int
  | 7 => .boolean
  | 8 => .int
  | 9 => .int
  | 10 => .int
  | 11 => .int
  | 12 => .int
  | 13 => .int
  | 14 => .array .int
  | 15 => .array .int
  | 16 => .array .boolean
  | 17 => .array .boolean
  | 18 => .array .int
  | 19 => .array .int
  | 20 => .array .int
  | 21 => .array .int
  | 22 => .array .int
  | 23 => .array .int
  | 24 => .array .int
  | 25 => .array .int
  | 26 => .array .int
  | 27 => .array .int
  | 28 => .array .int
  | 29 => .array .int
  | 30 => .int
  | 31 => .array .int
  | 32 => .int
  | _ => .int
abbrev wsX40 : List Cond := u_ws RX4 TX4 34
theorem nmX4 : ∀ a, a < 34 → ∀ b, b < 34 → a ≠ b → (TX4 a).2.1 ≠ (TX4 b).2.1 := by decide +kernel
theorem tyX4_ok : ∀ k, k < 34 → parseFieldDescriptor (TX4 k).2.2.1 = some (tyX4 k) := by decide +kernel
abbrev cX4_init : ByteArray := prog_6_method_1_code
def yX4_init : MethodName := ⟨RX4, "<init>", "()V"⟩
abbrev cX4_isSite : ByteArray := prog_6_method_3_code
def yX4_isSite : MethodName := ⟨RX4, "isSite", "(I)Z"⟩
abbrev cX4_all : ByteArray := prog_6_method_4_code
def yX4_all : MethodName := ⟨RX4, "all", "()I"⟩
abbrev cX4_site : ByteArray := prog_6_method_5_code
def yX4_site : MethodName := ⟨RX4, "site", "(I)I"⟩
abbrev cX4_quorums : ByteArray := prog_6_method_6_code
def yX4_quorums : MethodName := ⟨RX4, "quorums", "(II)I"⟩
abbrev cX4_link : ByteArray := prog_6_method_7_code
def yX4_link : MethodName := ⟨RX4, "link", "(III)I"⟩
abbrev cX4_part : ByteArray := prog_6_method_8_code
def yX4_part : MethodName := ⟨RX4, "part", "(II)I"⟩
abbrev cX4_patience : ByteArray := prog_6_method_9_code
def yX4_patience : MethodName := ⟨RX4, "patience", "(I)I"⟩
abbrev cX4_send : ByteArray := prog_6_method_10_code
def yX4_send : MethodName := ⟨RX4, "send", "(IIIII)V"⟩
abbrev cX4_sendAll : ByteArray := prog_6_method_11_code
def yX4_sendAll : MethodName := ⟨RX4, "sendAll", "(III)V"⟩
abbrev cX4_setTimer : ByteArray := prog_6_method_12_code
def yX4_setTimer : MethodName := ⟨RX4, "setTimer", "(II)V"⟩
abbrev cX4_isDecided : ByteArray := prog_6_method_13_code
def yX4_isDecided : MethodName := ⟨RX4, "isDecided", "(I)Z"⟩
abbrev cX4_become : ByteArray := prog_6_method_14_code
def yX4_become : MethodName := ⟨RX4, "become", "(II)V"⟩
abbrev cX4_decide : ByteArray := prog_6_method_15_code
def yX4_decide : MethodName := ⟨RX4, "decide", "(II)V"⟩
abbrev cX4_clearThere : ByteArray := prog_6_method_16_code
def yX4_clearThere : MethodName := ⟨RX4, "clearThere", "(II)V"⟩
abbrev cX4_weightThere : ByteArray := prog_6_method_17_code
def yX4_weightThere : MethodName := ⟨RX4, "weightThere", "(I)I"⟩
abbrev cX4_checkVotes : ByteArray := prog_6_method_18_code
def yX4_checkVotes : MethodName := ⟨RX4, "checkVotes", "(I)V"⟩
abbrev cX4_lead : ByteArray := prog_6_method_19_code
def yX4_lead : MethodName := ⟨RX4, "lead", "(II)V"⟩
abbrev cX4_checkQuorum : ByteArray := prog_6_method_20_code
def yX4_checkQuorum : MethodName := ⟨RX4, "checkQuorum", "(I)V"⟩
abbrev cX4_attempt : ByteArray := prog_6_method_21_code
def yX4_attempt : MethodName := ⟨RX4, "attempt", "(I)V"⟩
abbrev cX4_begin : ByteArray := prog_6_method_22_code
def yX4_begin : MethodName := ⟨RX4, "begin", "(II)I"⟩
abbrev cX4_crash : ByteArray := prog_6_method_23_code
def yX4_crash : MethodName := ⟨RX4, "crash", "(I)I"⟩
abbrev cX4_recover : ByteArray := prog_6_method_24_code
def yX4_recover : MethodName := ⟨RX4, "recover", "(I)I"⟩
abbrev cX4_yieldTo : ByteArray := prog_6_method_25_code
def yX4_yieldTo : MethodName := ⟨RX4, "yieldTo", "(II)V"⟩
abbrev cX4_handle : ByteArray := prog_6_method_26_code
def yX4_handle : MethodName := ⟨RX4, "handle", "(IIIII)V"⟩
abbrev cX4_prepare : ByteArray := prog_6_method_27_code
def yX4_prepare : MethodName := ⟨RX4, "prepare", "(IIII)V"⟩
abbrev cX4_weightOf : ByteArray := prog_6_method_28_code
def yX4_weightOf : MethodName := ⟨RX4, "weightOf", "(II)I"⟩
abbrev cX4_ring : ByteArray := prog_6_method_29_code
def yX4_ring : MethodName := ⟨RX4, "ring", "(I)V"⟩
abbrev cX4_findNext : ByteArray := prog_6_method_30_code
def yX4_findNext : MethodName := ⟨RX4, "findNext", "()V"⟩
abbrev cX4_tell : ByteArray := prog_6_method_31_code
def yX4_tell : MethodName := ⟨RX4, "tell", "(IIIII)V"⟩
abbrev cX4_take : ByteArray := prog_6_method_32_code
def yX4_take : MethodName := ⟨RX4, "take", "()Z"⟩
abbrev cX4_run : ByteArray := prog_6_method_33_code
def yX4_run : MethodName := ⟨RX4, "run", "(I)I"⟩
abbrev cX4_step : ByteArray := prog_6_method_34_code
def yX4_step : MethodName := ⟨RX4, "step", "()I"⟩
abbrev cX4_reset : ByteArray := prog_6_method_35_code
def yX4_reset : MethodName := ⟨RX4, "reset", "()I"⟩
abbrev cX4_of : ByteArray := prog_6_method_36_code
def yX4_of : MethodName := ⟨RX4, "of", "(II)I"⟩
abbrev cX4_count : ByteArray := prog_6_method_37_code
def yX4_count : MethodName := ⟨RX4, "count", "(I)I"⟩
abbrev cX4_delay : ByteArray := prog_6_method_38_code
def yX4_delay : MethodName := ⟨RX4, "delay", "(II)I"⟩
abbrev cX4_weight : ByteArray := prog_6_method_39_code
def yX4_weight : MethodName := ⟨RX4, "weight", "(I)I"⟩
abbrev cX4_latest : ByteArray := prog_6_method_40_code
def yX4_latest : MethodName := ⟨RX4, "latest", "(I)I"⟩
abbrev cX4_check : ByteArray := prog_6_method_41_code
def yX4_check : MethodName := ⟨RX4, "check", "()I"⟩
def RL : String := "CommitSitesLaw"
abbrev cL_law : ByteArray := code
def yL_law : MethodName := ⟨RL, "law", "([I)Z"⟩
abbrev vwCl : List vw_C := [(RX0, TX0, 8), (RX1, TX1, 9), (RX2, TX2, 10), (RX3, TX3, 12), (RX4, TX4, 34)]
end
section
/-- the words that a callee may be handed -/
def lw_B : List Cond := lw_tbl.filter goodWord
theorem it_tables_1_1 : ∀ w ∈ tables_1_1, w ∈ lw_tbl := fun _ h => List.mem_append_right _ (List.mem_append_left _ h)
theorem it_tables_1_2 : ∀ w ∈ tables_1_2, w ∈ lw_tbl := fun _ h => List.mem_append_right _ (List.mem_append_right _ (List.mem_append_left _ h))
theorem it_tables_1_3 : ∀ w ∈ tables_1_3, w ∈ lw_tbl := fun _ h => List.mem_append_right _ (List.mem_append_right _ (List.mem_append_right _ h))
theorem tw_0 : (Cond.initialized "CommitSitesLaw") ∈ lw_B := List.mem_filter.mpr ⟨it_tables_1_1 _ (List.mem_of_getElem? (i := 0) rfl), rfl⟩
theorem tw_1 : (Cond.initialized "CommitSites") ∈ lw_B := List.mem_filter.mpr ⟨it_tables_1_1 _ (List.mem_of_getElem? (i := 1) rfl), rfl⟩
theorem tw_2 : (Cond.initialized "CommitSites$Network") ∈ lw_B := List.mem_filter.mpr ⟨it_tables_1_1 _ (List.mem_of_getElem? (i := 2) rfl), rfl⟩
theorem tw_3 : (Cond.initialized "CommitSitesModel") ∈ lw_B := List.mem_filter.mpr ⟨it_tables_1_1 _ (List.mem_of_getElem? (i := 3) rfl), rfl⟩
theorem tw_4 : (Cond.initialized "CommitSites$Site") ∈ lw_B := List.mem_filter.mpr ⟨it_tables_1_1 _ (List.mem_of_getElem? (i := 4) rfl), rfl⟩
theorem tw_5 : (Cond.initialized "CommitSites$Message") ∈ lw_B := List.mem_filter.mpr ⟨it_tables_1_1 _ (List.mem_of_getElem? (i := 5) rfl), rfl⟩
theorem tw_6 : (Cond.classLink "CommitSitesLaw" 7 "CommitSites") ∈ lw_B := List.mem_filter.mpr ⟨it_tables_1_1 _ (List.mem_of_getElem? (i := 6) rfl), rfl⟩
theorem tw_7 : (Cond.instantiable "CommitSites" 12) ∈ lw_B := List.mem_filter.mpr ⟨it_tables_1_1 _ (List.mem_of_getElem? (i := 7) rfl), rfl⟩
theorem tw_8 : (Cond.methodLink "CommitSitesLaw" 9 yX3_init) ∈ lw_B := List.mem_filter.mpr ⟨it_tables_1_1 _ (List.mem_of_getElem? (i := 8) rfl), rfl⟩
theorem tw_9 : (Cond.instanceMethod yX3_init) ∈ lw_B := List.mem_filter.mpr ⟨it_tables_1_1 _ (List.mem_of_getElem? (i := 9) rfl), rfl⟩
theorem tw_10 : (Cond.code yX3_init cX3_init 1 none) ∈ lw_B := List.mem_filter.mpr ⟨it_tables_1_1 _ (List.mem_of_getElem? (i := 10) rfl), rfl⟩
theorem tw_11 : (Cond.methodLink "CommitSites" 1 objectInit) ∈ lw_B := List.mem_filter.mpr ⟨it_tables_1_1 _ (List.mem_of_getElem? (i := 11) rfl), rfl⟩
theorem tw_12 : (Cond.instanceMethod objectInit) ∈ lw_B := List.mem_filter.mpr ⟨it_tables_1_1 _ (List.mem_of_getElem? (i := 12) rfl), rfl⟩
theorem tw_13 : (Cond.code objectInit ⟨#[0xb1]⟩ 1 none) ∈ lw_B := List.mem_filter.mpr ⟨it_tables_1_1 _ (List.mem_of_getElem? (i := 13) rfl), rfl⟩
theorem tw_14 : (Cond.classLink "CommitSites" 9 "CommitSites$Site") ∈ lw_B := List.mem_filter.mpr ⟨it_tables_1_1 _ (List.mem_of_getElem? (i := 14) rfl), rfl⟩
theorem tw_15 : (Cond.arrayOver (.object "CommitSites$Site")) ∈ lw_tbl := it_tables_1_1 _ (List.mem_of_getElem? (i := 15) rfl)
theorem tw_16 : (Cond.classLink "CommitSites" 15 "CommitSites$Network") ∈ lw_B := List.mem_filter.mpr ⟨it_tables_1_1 _ (List.mem_of_getElem? (i := 16) rfl), rfl⟩
theorem tw_17 : (Cond.instantiable "CommitSites$Network" 9) ∈ lw_B := List.mem_filter.mpr ⟨it_tables_1_1 _ (List.mem_of_getElem? (i := 17) rfl), rfl⟩
theorem tw_18 : (Cond.methodLink "CommitSites" 17 yX1_init) ∈ lw_B := List.mem_filter.mpr ⟨it_tables_1_1 _ (List.mem_of_getElem? (i := 18) rfl), rfl⟩
theorem tw_19 : (Cond.instanceMethod yX1_init) ∈ lw_B := List.mem_filter.mpr ⟨it_tables_1_1 _ (List.mem_of_getElem? (i := 19) rfl), rfl⟩
theorem tw_20 : (Cond.code yX1_init cX1_init 3 none) ∈ lw_B := List.mem_filter.mpr ⟨it_tables_1_1 _ (List.mem_of_getElem? (i := 20) rfl), rfl⟩
theorem tw_21 : (Cond.methodLink "CommitSites$Network" 3 objectInit) ∈ lw_B := List.mem_filter.mpr ⟨it_tables_1_1 _ (List.mem_of_getElem? (i := 21) rfl), rfl⟩
theorem tw_22 : (Cond.classLink "CommitSites$Network" 9 "[[I") ∈ lw_B := List.mem_filter.mpr ⟨it_tables_1_1 _ (List.mem_of_getElem? (i := 22) rfl), rfl⟩
theorem tw_23 : (Cond.arrayOver (.array .int)) ∈ lw_tbl := it_tables_1_1 _ (List.mem_of_getElem? (i := 23) rfl)
theorem tw_24 : (Cond.classLink "CommitSites$Network" 16 "CommitSites$Message") ∈ lw_B := List.mem_filter.mpr ⟨it_tables_1_1 _ (List.mem_of_getElem? (i := 24) rfl), rfl⟩
theorem tw_25 : (Cond.arrayOver (.object "CommitSites$Message")) ∈ lw_tbl := it_tables_1_1 _ (List.mem_of_getElem? (i := 25) rfl)
theorem tw_26 : (Cond.fieldLink "CommitSites$Network" 11 "CommitSites$Network" "delays" "[[I") ∈ lw_B := List.mem_filter.mpr ⟨it_tables_1_1 _ (List.mem_of_getElem? (i := 26) rfl), rfl⟩
theorem tw_27 : (Cond.fieldLink "CommitSites" 60 "CommitSites$Network" "delays" "[[I") ∈ lw_B := List.mem_filter.mpr ⟨it_tables_1_1 _ (List.mem_of_getElem? (i := 27) rfl), rfl⟩
theorem tw_28 : (Cond.fieldLink "CommitSites$Network" 18 "CommitSites$Network" "heads" "[LCommitSites$Message;") ∈ lw_B := List.mem_filter.mpr ⟨it_tables_1_1 _ (List.mem_of_getElem? (i := 28) rfl), rfl⟩
theorem tw_29 : (Cond.fieldLink "CommitSites$Network" 22 "CommitSites$Network" "tails" "[LCommitSites$Message;") ∈ lw_B := List.mem_filter.mpr ⟨it_tables_1_1 _ (List.mem_of_getElem? (i := 29) rfl), rfl⟩
theorem tw_30 : (Cond.fieldLink "CommitSites$Network" 25 "CommitSites$Network" "spare" "LCommitSites$Message;") ∈ lw_B := List.mem_filter.mpr ⟨it_tables_1_1 _ (List.mem_of_getElem? (i := 30) rfl), rfl⟩
theorem tw_31 : (Cond.fieldLink "CommitSites$Network" 32 "CommitSites$Network" "time" "I") ∈ lw_B := List.mem_filter.mpr ⟨it_tables_1_1 _ (List.mem_of_getElem? (i := 31) rfl), rfl⟩
theorem tw_32 : (Cond.fieldLink "CommitSites" 104 "CommitSites$Network" "time" "I") ∈ lw_B := List.mem_filter.mpr ⟨it_tables_1_1 _ (List.mem_of_getElem? (i := 32) rfl), rfl⟩
theorem tw_33 : (Cond.fieldLink "CommitSites$Network" 36 "CommitSites$Network" "order" "I") ∈ lw_B := List.mem_filter.mpr ⟨it_tables_1_1 _ (List.mem_of_getElem? (i := 33) rfl), rfl⟩
theorem tw_34 : (Cond.fieldLink "CommitSites$Network" 39 "CommitSites$Network" "sent" "I") ∈ lw_B := List.mem_filter.mpr ⟨it_tables_1_1 _ (List.mem_of_getElem? (i := 34) rfl), rfl⟩
theorem tw_35 : (Cond.fieldLink "CommitSites" 130 "CommitSites$Network" "sent" "I") ∈ lw_B := List.mem_filter.mpr ⟨it_tables_1_1 _ (List.mem_of_getElem? (i := 35) rfl), rfl⟩
theorem tw_36 : (Cond.fieldLink "CommitSites$Network" 42 "CommitSites$Network" "lost" "I") ∈ lw_B := List.mem_filter.mpr ⟨it_tables_1_1 _ (List.mem_of_getElem? (i := 36) rfl), rfl⟩
theorem tw_37 : (Cond.fieldLink "CommitSites" 133 "CommitSites$Network" "lost" "I") ∈ lw_B := List.mem_filter.mpr ⟨it_tables_1_1 _ (List.mem_of_getElem? (i := 37) rfl), rfl⟩
theorem tw_38 : (Cond.fieldLink "CommitSites$Network" 45 "CommitSites$Network" "onWay" "I") ∈ lw_B := List.mem_filter.mpr ⟨it_tables_1_1 _ (List.mem_of_getElem? (i := 38) rfl), rfl⟩
theorem tw_39 : (Cond.fieldLink "CommitSites" 136 "CommitSites$Network" "onWay" "I") ∈ lw_B := List.mem_filter.mpr ⟨it_tables_1_1 _ (List.mem_of_getElem? (i := 39) rfl), rfl⟩
theorem tw_40 : (Cond.arrayClass (.int)) ∈ lw_B := List.mem_filter.mpr ⟨it_tables_1_1 _ (List.mem_of_getElem? (i := 59) rfl), rfl⟩
theorem tw_41 : (Cond.methodLink "CommitSites" 30 yX3_shareQuorums) ∈ lw_B := List.mem_filter.mpr ⟨it_tables_1_1 _ (List.mem_of_getElem? (i := 60) rfl), rfl⟩
theorem tw_42 : (Cond.instanceMethod yX3_shareQuorums) ∈ lw_B := List.mem_filter.mpr ⟨it_tables_1_1 _ (List.mem_of_getElem? (i := 62) rfl), rfl⟩
theorem tw_43 : (Cond.code yX3_shareQuorums cX3_shareQuorums 1 none) ∈ lw_B := List.mem_filter.mpr ⟨it_tables_1_1 _ (List.mem_of_getElem? (i := 63) rfl), rfl⟩
theorem tw_44 : (Cond.methodLink "CommitSites" 33 yX3_note) ∈ lw_B := List.mem_filter.mpr ⟨it_tables_1_1 _ (List.mem_of_getElem? (i := 64) rfl), rfl⟩
theorem tw_45 : (Cond.instanceMethod yX3_note) ∈ lw_B := List.mem_filter.mpr ⟨it_tables_1_1 _ (List.mem_of_getElem? (i := 66) rfl), rfl⟩
theorem tw_46 : (Cond.code yX3_note cX3_note 6 none) ∈ lw_B := List.mem_filter.mpr ⟨it_tables_1_1 _ (List.mem_of_getElem? (i := 67) rfl), rfl⟩
theorem tw_47 : (Cond.fieldLink "CommitSites" 11 "CommitSites" "sites" "[LCommitSites$Site;") ∈ lw_B := List.mem_filter.mpr ⟨it_tables_1_1 _ (List.mem_of_getElem? (i := 68) rfl), rfl⟩
theorem tw_48 : (Cond.fieldLink "CommitSites" 18 "CommitSites" "network" "LCommitSites$Network;") ∈ lw_B := List.mem_filter.mpr ⟨it_tables_1_1 _ (List.mem_of_getElem? (i := 69) rfl), rfl⟩
theorem tw_49 : (Cond.fieldLink "CommitSites" 22 "CommitSites" "latestEvent" "[I") ∈ lw_B := List.mem_filter.mpr ⟨it_tables_1_1 _ (List.mem_of_getElem? (i := 70) rfl), rfl⟩
theorem tw_50 : (Cond.fieldLink "CommitSites" 41 "CommitSites" "siteCount" "I") ∈ lw_B := List.mem_filter.mpr ⟨it_tables_1_1 _ (List.mem_of_getElem? (i := 71) rfl), rfl⟩
theorem tw_51 : (Cond.fieldLink "CommitSites" 47 "CommitSites" "allWeight" "I") ∈ lw_B := List.mem_filter.mpr ⟨it_tables_1_1 _ (List.mem_of_getElem? (i := 72) rfl), rfl⟩
theorem tw_52 : (Cond.fieldLink "CommitSites" 50 "CommitSites" "commitQuorum" "I") ∈ lw_B := List.mem_filter.mpr ⟨it_tables_1_1 _ (List.mem_of_getElem? (i := 73) rfl), rfl⟩
theorem tw_53 : (Cond.fieldLink "CommitSites" 53 "CommitSites" "abortQuorum" "I") ∈ lw_B := List.mem_filter.mpr ⟨it_tables_1_1 _ (List.mem_of_getElem? (i := 74) rfl), rfl⟩
theorem tw_54 : (Cond.fieldLink "CommitSites" 26 "CommitSites" "patienceTicks" "I") ∈ lw_B := List.mem_filter.mpr ⟨it_tables_1_1 _ (List.mem_of_getElem? (i := 75) rfl), rfl⟩
theorem tw_55 : (Cond.fieldLink "CommitSites" 37 "CommitSites" "begun" "Z") ∈ lw_B := List.mem_filter.mpr ⟨it_tables_1_1 _ (List.mem_of_getElem? (i := 76) rfl), rfl⟩
theorem tw_56 : (Cond.fieldLink "CommitSites" 74 "CommitSites" "yesVotes" "I") ∈ lw_B := List.mem_filter.mpr ⟨it_tables_1_1 _ (List.mem_of_getElem? (i := 77) rfl), rfl⟩
theorem tw_57 : (Cond.fieldLink "CommitSites" 112 "CommitSites" "messagesCome" "I") ∈ lw_B := List.mem_filter.mpr ⟨it_tables_1_1 _ (List.mem_of_getElem? (i := 78) rfl), rfl⟩
theorem tw_58 : (Cond.fieldLink "CommitSites" 115 "CommitSites" "timersRunOut" "I") ∈ lw_B := List.mem_filter.mpr ⟨it_tables_1_1 _ (List.mem_of_getElem? (i := 79) rfl), rfl⟩
theorem tw_59 : (Cond.methodLink "CommitSitesLaw" 13 yX3_site) ∈ lw_B := List.mem_filter.mpr ⟨it_tables_1_1 _ (List.mem_of_getElem? (i := 105) rfl), rfl⟩
theorem tw_60 : (Cond.instanceMethod yX3_site) ∈ lw_B := List.mem_filter.mpr ⟨it_tables_1_1 _ (List.mem_of_getElem? (i := 106) rfl), rfl⟩
theorem tw_61 : (Cond.selects "CommitSites" yX3_site yX3_site) ∈ lw_B := List.mem_filter.mpr ⟨it_tables_1_1 _ (List.mem_of_getElem? (i := 107) rfl), rfl⟩
theorem tw_62 : (Cond.code yX3_site cX3_site 2 (some .int)) ∈ lw_B := List.mem_filter.mpr ⟨it_tables_1_1 _ (List.mem_of_getElem? (i := 108) rfl), rfl⟩
theorem tw_63 : (Cond.instantiable "CommitSites$Site" 10) ∈ lw_B := List.mem_filter.mpr ⟨it_tables_1_1 _ (List.mem_of_getElem? (i := 109) rfl), rfl⟩
theorem tw_64 : (Cond.methodLink "CommitSites" 44 yX2_init) ∈ lw_B := List.mem_filter.mpr ⟨it_tables_1_1 _ (List.mem_of_getElem? (i := 110) rfl), rfl⟩
theorem tw_65 : (Cond.instanceMethod yX2_init) ∈ lw_B := List.mem_filter.mpr ⟨it_tables_1_1 _ (List.mem_of_getElem? (i := 111) rfl), rfl⟩
theorem tw_66 : (Cond.code yX2_init cX2_init 2 none) ∈ lw_B := List.mem_filter.mpr ⟨it_tables_1_1 _ (List.mem_of_getElem? (i := 112) rfl), rfl⟩
theorem tw_67 : (Cond.methodLink "CommitSites$Site" 3 objectInit) ∈ lw_B := List.mem_filter.mpr ⟨it_tables_1_1 _ (List.mem_of_getElem? (i := 113) rfl), rfl⟩
theorem tw_68 : (Cond.methodLink "CommitSites$Site" 19 yX2_startAnew) ∈ lw_B := List.mem_filter.mpr ⟨it_tables_1_1 _ (List.mem_of_getElem? (i := 114) rfl), rfl⟩
theorem tw_69 : (Cond.instanceMethod yX2_startAnew) ∈ lw_B := List.mem_filter.mpr ⟨it_tables_1_1 _ (List.mem_of_getElem? (i := 115) rfl), rfl⟩
theorem tw_70 : (Cond.selects "CommitSites$Site" yX2_startAnew yX2_startAnew) ∈ lw_B := List.mem_filter.mpr ⟨it_tables_1_1 _ (List.mem_of_getElem? (i := 116) rfl), rfl⟩
theorem tw_71 : (Cond.code yX2_startAnew cX2_startAnew 1 none) ∈ lw_B := List.mem_filter.mpr ⟨it_tables_1_1 _ (List.mem_of_getElem? (i := 117) rfl), rfl⟩
theorem tw_72 : (Cond.fieldLink "CommitSites$Site" 15 "CommitSites$Site" "weight" "I") ∈ lw_B := List.mem_filter.mpr ⟨it_tables_1_1 _ (List.mem_of_getElem? (i := 118) rfl), rfl⟩
theorem tw_73 : (Cond.fieldLink "CommitSites" 124 "CommitSites$Site" "weight" "I") ∈ lw_B := List.mem_filter.mpr ⟨it_tables_1_1 _ (List.mem_of_getElem? (i := 119) rfl), rfl⟩
theorem tw_74 : (Cond.fieldLink "CommitSites$Site" 9 "CommitSites$Site" "stateOf" "[I") ∈ lw_B := List.mem_filter.mpr ⟨it_tables_1_1 _ (List.mem_of_getElem? (i := 120) rfl), rfl⟩
theorem tw_75 : (Cond.fieldLink "CommitSites" 228 "CommitSites$Site" "stateOf" "[I") ∈ lw_B := List.mem_filter.mpr ⟨it_tables_1_1 _ (List.mem_of_getElem? (i := 121) rfl), rfl⟩
theorem tw_76 : (Cond.fieldLink "CommitSites$Site" 22 "CommitSites$Site" "there" "I") ∈ lw_B := List.mem_filter.mpr ⟨it_tables_1_1 _ (List.mem_of_getElem? (i := 122) rfl), rfl⟩
theorem tw_77 : (Cond.fieldLink "CommitSites" 219 "CommitSites$Site" "there" "I") ∈ lw_B := List.mem_filter.mpr ⟨it_tables_1_1 _ (List.mem_of_getElem? (i := 123) rfl), rfl⟩
theorem tw_78 : (Cond.fieldLink "CommitSites$Site" 25 "CommitSites$Site" "up" "Z") ∈ lw_B := List.mem_filter.mpr ⟨it_tables_1_1 _ (List.mem_of_getElem? (i := 124) rfl), rfl⟩
theorem tw_79 : (Cond.fieldLink "CommitSites" 71 "CommitSites$Site" "up" "Z") ∈ lw_B := List.mem_filter.mpr ⟨it_tables_1_1 _ (List.mem_of_getElem? (i := 125) rfl), rfl⟩
theorem tw_80 : (Cond.fieldLink "CommitSites$Site" 29 "CommitSites$Site" "state" "I") ∈ lw_B := List.mem_filter.mpr ⟨it_tables_1_1 _ (List.mem_of_getElem? (i := 126) rfl), rfl⟩
theorem tw_81 : (Cond.fieldLink "CommitSites" 90 "CommitSites$Site" "state" "I") ∈ lw_B := List.mem_filter.mpr ⟨it_tables_1_1 _ (List.mem_of_getElem? (i := 127) rfl), rfl⟩
theorem tw_82 : (Cond.fieldLink "CommitSites$Site" 32 "CommitSites$Site" "since" "I") ∈ lw_B := List.mem_filter.mpr ⟨it_tables_1_1 _ (List.mem_of_getElem? (i := 128) rfl), rfl⟩
theorem tw_83 : (Cond.fieldLink "CommitSites" 127 "CommitSites$Site" "since" "I") ∈ lw_B := List.mem_filter.mpr ⟨it_tables_1_1 _ (List.mem_of_getElem? (i := 129) rfl), rfl⟩
theorem tw_84 : (Cond.fieldLink "CommitSites$Site" 35 "CommitSites$Site" "does" "I") ∈ lw_B := List.mem_filter.mpr ⟨it_tables_1_1 _ (List.mem_of_getElem? (i := 130) rfl), rfl⟩
theorem tw_85 : (Cond.fieldLink "CommitSites" 84 "CommitSites$Site" "does" "I") ∈ lw_B := List.mem_filter.mpr ⟨it_tables_1_1 _ (List.mem_of_getElem? (i := 131) rfl), rfl⟩
theorem tw_86 : (Cond.fieldLink "CommitSites$Site" 38 "CommitSites$Site" "attempt" "I") ∈ lw_B := List.mem_filter.mpr ⟨it_tables_1_1 _ (List.mem_of_getElem? (i := 132) rfl), rfl⟩
theorem tw_87 : (Cond.fieldLink "CommitSites" 122 "CommitSites$Site" "attempt" "I") ∈ lw_B := List.mem_filter.mpr ⟨it_tables_1_1 _ (List.mem_of_getElem? (i := 133) rfl), rfl⟩
theorem tw_88 : (Cond.fieldLink "CommitSites$Site" 41 "CommitSites$Site" "timer" "I") ∈ lw_B := List.mem_filter.mpr ⟨it_tables_1_1 _ (List.mem_of_getElem? (i := 134) rfl), rfl⟩
theorem tw_89 : (Cond.fieldLink "CommitSites" 87 "CommitSites$Site" "timer" "I") ∈ lw_B := List.mem_filter.mpr ⟨it_tables_1_1 _ (List.mem_of_getElem? (i := 135) rfl), rfl⟩
theorem tw_90 : (Cond.fieldLink "CommitSites$Site" 44 "CommitSites$Site" "timerOrder" "I") ∈ lw_B := List.mem_filter.mpr ⟨it_tables_1_1 _ (List.mem_of_getElem? (i := 136) rfl), rfl⟩
theorem tw_91 : (Cond.fieldLink "CommitSites" 250 "CommitSites$Site" "timerOrder" "I") ∈ lw_B := List.mem_filter.mpr ⟨it_tables_1_1 _ (List.mem_of_getElem? (i := 137) rfl), rfl⟩
theorem tw_92 : (Cond.methodLink "CommitSitesLaw" 18 yX3_quorums) ∈ lw_B := List.mem_filter.mpr ⟨it_tables_1_1 _ (List.mem_of_getElem? (i := 159) rfl), rfl⟩
theorem tw_93 : (Cond.instanceMethod yX3_quorums) ∈ lw_B := List.mem_filter.mpr ⟨it_tables_1_1 _ (List.mem_of_getElem? (i := 160) rfl), rfl⟩
theorem tw_94 : (Cond.selects "CommitSites" yX3_quorums yX3_quorums) ∈ lw_B := List.mem_filter.mpr ⟨it_tables_1_1 _ (List.mem_of_getElem? (i := 161) rfl), rfl⟩
theorem tw_95 : (Cond.code yX3_quorums cX3_quorums 4 (some .int)) ∈ lw_B := List.mem_filter.mpr ⟨it_tables_1_1 _ (List.mem_of_getElem? (i := 162) rfl), rfl⟩
theorem tw_96 : (Cond.methodLink "CommitSitesLaw" 23 yX3_link) ∈ lw_B := List.mem_filter.mpr ⟨it_tables_1_1 _ (List.mem_of_getElem? (i := 163) rfl), rfl⟩
theorem tw_97 : (Cond.instanceMethod yX3_link) ∈ lw_B := List.mem_filter.mpr ⟨it_tables_1_1 _ (List.mem_of_getElem? (i := 164) rfl), rfl⟩
theorem tw_98 : (Cond.selects "CommitSites" yX3_link yX3_link) ∈ lw_B := List.mem_filter.mpr ⟨it_tables_1_1 _ (List.mem_of_getElem? (i := 165) rfl), rfl⟩
theorem tw_99 : (Cond.code yX3_link cX3_link 4 (some .int)) ∈ lw_B := List.mem_filter.mpr ⟨it_tables_1_1 _ (List.mem_of_getElem? (i := 166) rfl), rfl⟩
theorem tw_100 : (Cond.methodLink "CommitSites" 56 yX3_isLink) ∈ lw_B := List.mem_filter.mpr ⟨it_tables_1_1 _ (List.mem_of_getElem? (i := 167) rfl), rfl⟩
theorem tw_101 : (Cond.instanceMethod yX3_isLink) ∈ lw_B := List.mem_filter.mpr ⟨it_tables_1_1 _ (List.mem_of_getElem? (i := 169) rfl), rfl⟩
theorem tw_102 : (Cond.code yX3_isLink cX3_isLink 3 (some .boolean)) ∈ lw_B := List.mem_filter.mpr ⟨it_tables_1_1 _ (List.mem_of_getElem? (i := 170) rfl), rfl⟩
theorem tw_103 : (Cond.methodLink "CommitSites" 67 yX3_isSite) ∈ lw_B := List.mem_filter.mpr ⟨it_tables_1_1 _ (List.mem_of_getElem? (i := 171) rfl), rfl⟩
theorem tw_104 : (Cond.instanceMethod yX3_isSite) ∈ lw_B := List.mem_filter.mpr ⟨it_tables_1_1 _ (List.mem_of_getElem? (i := 173) rfl), rfl⟩
theorem tw_105 : (Cond.code yX3_isSite cX3_isSite 2 (some .boolean)) ∈ lw_B := List.mem_filter.mpr ⟨it_tables_1_1 _ (List.mem_of_getElem? (i := 174) rfl), rfl⟩
theorem tw_106 : (Cond.methodLink "CommitSitesLaw" 28 yX3_part) ∈ lw_B := List.mem_filter.mpr ⟨it_tables_1_1 _ (List.mem_of_getElem? (i := 175) rfl), rfl⟩
theorem tw_107 : (Cond.instanceMethod yX3_part) ∈ lw_B := List.mem_filter.mpr ⟨it_tables_1_1 _ (List.mem_of_getElem? (i := 176) rfl), rfl⟩
theorem tw_108 : (Cond.selects "CommitSites" yX3_part yX3_part) ∈ lw_B := List.mem_filter.mpr ⟨it_tables_1_1 _ (List.mem_of_getElem? (i := 177) rfl), rfl⟩
theorem tw_109 : (Cond.code yX3_part cX3_part 7 (some .int)) ∈ lw_B := List.mem_filter.mpr ⟨it_tables_1_1 _ (List.mem_of_getElem? (i := 178) rfl), rfl⟩
theorem tw_110 : (Cond.methodLink "CommitSites" 64 yX3_hasBit) ∈ lw_B := List.mem_filter.mpr ⟨it_tables_1_1 _ (List.mem_of_getElem? (i := 179) rfl), rfl⟩
theorem tw_111 : (Cond.static yX3_hasBit) ∈ lw_B := List.mem_filter.mpr ⟨it_tables_1_1 _ (List.mem_of_getElem? (i := 180) rfl), rfl⟩
theorem tw_112 : (Cond.code yX3_hasBit cX3_hasBit 2 (some .boolean)) ∈ lw_B := List.mem_filter.mpr ⟨it_tables_1_1 _ (List.mem_of_getElem? (i := 181) rfl), rfl⟩
theorem tw_113 : (Cond.methodLink "CommitSitesLaw" 32 yX3_patience) ∈ lw_B := List.mem_filter.mpr ⟨it_tables_1_1 _ (List.mem_of_getElem? (i := 182) rfl), rfl⟩
theorem tw_114 : (Cond.instanceMethod yX3_patience) ∈ lw_B := List.mem_filter.mpr ⟨it_tables_1_1 _ (List.mem_of_getElem? (i := 183) rfl), rfl⟩
theorem tw_115 : (Cond.selects "CommitSites" yX3_patience yX3_patience) ∈ lw_B := List.mem_filter.mpr ⟨it_tables_1_1 _ (List.mem_of_getElem? (i := 184) rfl), rfl⟩
theorem tw_116 : (Cond.code yX3_patience cX3_patience 2 (some .int)) ∈ lw_B := List.mem_filter.mpr ⟨it_tables_1_1 _ (List.mem_of_getElem? (i := 185) rfl), rfl⟩
theorem tw_117 : (Cond.methodLink "CommitSitesLaw" 36 yX3_begin) ∈ lw_B := List.mem_filter.mpr ⟨it_tables_1_1 _ (List.mem_of_getElem? (i := 186) rfl), rfl⟩
theorem tw_118 : (Cond.instanceMethod yX3_begin) ∈ lw_B := List.mem_filter.mpr ⟨it_tables_1_1 _ (List.mem_of_getElem? (i := 187) rfl), rfl⟩
theorem tw_119 : (Cond.selects "CommitSites" yX3_begin yX3_begin) ∈ lw_B := List.mem_filter.mpr ⟨it_tables_1_1 _ (List.mem_of_getElem? (i := 188) rfl), rfl⟩
theorem tw_120 : (Cond.code yX3_begin cX3_begin 3 (some .int)) ∈ lw_B := List.mem_filter.mpr ⟨it_tables_1_1 _ (List.mem_of_getElem? (i := 189) rfl), rfl⟩
theorem tw_121 : (Cond.methodLink "CommitSites" 77 yX3_askVotes) ∈ lw_B := List.mem_filter.mpr ⟨it_tables_1_1 _ (List.mem_of_getElem? (i := 190) rfl), rfl⟩
theorem tw_122 : (Cond.instanceMethod yX3_askVotes) ∈ lw_B := List.mem_filter.mpr ⟨it_tables_1_1 _ (List.mem_of_getElem? (i := 192) rfl), rfl⟩
theorem tw_123 : (Cond.code yX3_askVotes cX3_askVotes 3 none) ∈ lw_B := List.mem_filter.mpr ⟨it_tables_1_1 _ (List.mem_of_getElem? (i := 193) rfl), rfl⟩
theorem tw_124 : (Cond.methodLink "CommitSites" 93 yX3_become) ∈ lw_B := List.mem_filter.mpr ⟨it_tables_1_1 _ (List.mem_of_getElem? (i := 194) rfl), rfl⟩
theorem tw_125 : (Cond.instanceMethod yX3_become) ∈ lw_B := List.mem_filter.mpr ⟨it_tables_1_1 _ (List.mem_of_getElem? (i := 196) rfl), rfl⟩
theorem tw_126 : (Cond.code yX3_become cX3_become 3 none) ∈ lw_B := List.mem_filter.mpr ⟨it_tables_1_1 _ (List.mem_of_getElem? (i := 197) rfl), rfl⟩
theorem tw_127 : (Cond.methodLink "CommitSites" 97 yX2_isDecided) ∈ lw_B := List.mem_filter.mpr ⟨it_tables_1_1 _ (List.mem_of_getElem? (i := 198) rfl), rfl⟩
theorem tw_128 : (Cond.instanceMethod yX2_isDecided) ∈ lw_B := List.mem_filter.mpr ⟨it_tables_1_1 _ (List.mem_of_getElem? (i := 199) rfl), rfl⟩
theorem tw_129 : (Cond.selects "CommitSites$Site" yX2_isDecided yX2_isDecided) ∈ lw_B := List.mem_filter.mpr ⟨it_tables_1_1 _ (List.mem_of_getElem? (i := 200) rfl), rfl⟩
theorem tw_130 : (Cond.code yX2_isDecided cX2_isDecided 1 (some .boolean)) ∈ lw_B := List.mem_filter.mpr ⟨it_tables_1_1 _ (List.mem_of_getElem? (i := 201) rfl), rfl⟩
theorem tw_131 : (Cond.methodLink "CommitSites" 244 yX3_allBut) ∈ lw_B := List.mem_filter.mpr ⟨it_tables_1_1 _ (List.mem_of_getElem? (i := 202) rfl), rfl⟩
theorem tw_132 : (Cond.instanceMethod yX3_allBut) ∈ lw_B := List.mem_filter.mpr ⟨it_tables_1_1 _ (List.mem_of_getElem? (i := 204) rfl), rfl⟩
theorem tw_133 : (Cond.code yX3_allBut cX3_allBut 2 (some .int)) ∈ lw_B := List.mem_filter.mpr ⟨it_tables_1_1 _ (List.mem_of_getElem? (i := 205) rfl), rfl⟩
theorem tw_134 : (Cond.methodLink "CommitSites" 139 yX3_everyone) ∈ lw_B := List.mem_filter.mpr ⟨it_tables_1_1 _ (List.mem_of_getElem? (i := 206) rfl), rfl⟩
theorem tw_135 : (Cond.instanceMethod yX3_everyone) ∈ lw_B := List.mem_filter.mpr ⟨it_tables_1_1 _ (List.mem_of_getElem? (i := 208) rfl), rfl⟩
theorem tw_136 : (Cond.code yX3_everyone cX3_everyone 1 (some .int)) ∈ lw_B := List.mem_filter.mpr ⟨it_tables_1_1 _ (List.mem_of_getElem? (i := 209) rfl), rfl⟩
theorem tw_137 : (Cond.methodLink "CommitSites" 213 yX1_send) ∈ lw_B := List.mem_filter.mpr ⟨it_tables_1_1 _ (List.mem_of_getElem? (i := 210) rfl), rfl⟩
theorem tw_138 : (Cond.instanceMethod yX1_send) ∈ lw_B := List.mem_filter.mpr ⟨it_tables_1_1 _ (List.mem_of_getElem? (i := 211) rfl), rfl⟩
theorem tw_139 : (Cond.selects "CommitSites$Network" yX1_send yX1_send) ∈ lw_B := List.mem_filter.mpr ⟨it_tables_1_1 _ (List.mem_of_getElem? (i := 212) rfl), rfl⟩
theorem tw_140 : (Cond.code yX1_send cX1_send 8 none) ∈ lw_B := List.mem_filter.mpr ⟨it_tables_1_1 _ (List.mem_of_getElem? (i := 213) rfl), rfl⟩
theorem tw_141 : (Cond.methodLinkNest "CommitSites$Network" 48 yX3_hasBit "CommitSites") ∈ lw_tbl := it_tables_1_1 _ (List.mem_of_getElem? (i := 214) rfl)
theorem tw_142 : (Cond.instantiable "CommitSites$Message" 8) ∈ lw_B := List.mem_filter.mpr ⟨it_tables_1_1 _ (List.mem_of_getElem? (i := 215) rfl), rfl⟩
theorem tw_143 : (Cond.methodLinkNest "CommitSites$Network" 52 yX0_init "CommitSites") ∈ lw_tbl := it_tables_1_1 _ (List.mem_of_getElem? (i := 216) rfl)
theorem tw_144 : (Cond.instanceMethod yX0_init) ∈ lw_B := List.mem_filter.mpr ⟨it_tables_1_1 _ (List.mem_of_getElem? (i := 217) rfl), rfl⟩
theorem tw_145 : (Cond.code yX0_init cX0_init 1 none) ∈ lw_B := List.mem_filter.mpr ⟨it_tables_1_1 _ (List.mem_of_getElem? (i := 218) rfl), rfl⟩
theorem tw_146 : (Cond.methodLink "CommitSites$Message" 1 objectInit) ∈ lw_B := List.mem_filter.mpr ⟨it_tables_1_1 _ (List.mem_of_getElem? (i := 219) rfl), rfl⟩
theorem tw_147 : (Cond.fieldLink "CommitSites$Network" 72 "CommitSites$Message" "time" "I") ∈ lw_B := List.mem_filter.mpr ⟨it_tables_1_1 _ (List.mem_of_getElem? (i := 220) rfl), rfl⟩
theorem tw_148 : (Cond.fieldLink "CommitSites$Site" 47 "CommitSites$Message" "time" "I") ∈ lw_B := List.mem_filter.mpr ⟨it_tables_1_1 _ (List.mem_of_getElem? (i := 221) rfl), rfl⟩
theorem tw_149 : (Cond.fieldLink "CommitSites" 157 "CommitSites$Message" "time" "I") ∈ lw_B := List.mem_filter.mpr ⟨it_tables_1_1 _ (List.mem_of_getElem? (i := 222) rfl), rfl⟩
theorem tw_150 : (Cond.fieldLink "CommitSites$Network" 73 "CommitSites$Message" "order" "I") ∈ lw_B := List.mem_filter.mpr ⟨it_tables_1_1 _ (List.mem_of_getElem? (i := 223) rfl), rfl⟩
theorem tw_151 : (Cond.fieldLink "CommitSites$Site" 52 "CommitSites$Message" "order" "I") ∈ lw_B := List.mem_filter.mpr ⟨it_tables_1_1 _ (List.mem_of_getElem? (i := 224) rfl), rfl⟩
theorem tw_152 : (Cond.fieldLink "CommitSites$Network" 53 "CommitSites$Message" "kind" "I") ∈ lw_B := List.mem_filter.mpr ⟨it_tables_1_1 _ (List.mem_of_getElem? (i := 225) rfl), rfl⟩
theorem tw_153 : (Cond.fieldLink "CommitSites" 167 "CommitSites$Message" "kind" "I") ∈ lw_B := List.mem_filter.mpr ⟨it_tables_1_1 _ (List.mem_of_getElem? (i := 226) rfl), rfl⟩
theorem tw_154 : (Cond.fieldLink "CommitSites$Network" 56 "CommitSites$Message" "from" "I") ∈ lw_B := List.mem_filter.mpr ⟨it_tables_1_1 _ (List.mem_of_getElem? (i := 227) rfl), rfl⟩
theorem tw_155 : (Cond.fieldLink "CommitSites" 170 "CommitSites$Message" "from" "I") ∈ lw_B := List.mem_filter.mpr ⟨it_tables_1_1 _ (List.mem_of_getElem? (i := 228) rfl), rfl⟩
theorem tw_156 : (Cond.fieldLink "CommitSites$Network" 59 "CommitSites$Message" "to" "I") ∈ lw_B := List.mem_filter.mpr ⟨it_tables_1_1 _ (List.mem_of_getElem? (i := 229) rfl), rfl⟩
theorem tw_157 : (Cond.fieldLink "CommitSites" 164 "CommitSites$Message" "to" "I") ∈ lw_B := List.mem_filter.mpr ⟨it_tables_1_1 _ (List.mem_of_getElem? (i := 230) rfl), rfl⟩
theorem tw_158 : (Cond.fieldLink "CommitSites$Network" 62 "CommitSites$Message" "attempt" "I") ∈ lw_B := List.mem_filter.mpr ⟨it_tables_1_1 _ (List.mem_of_getElem? (i := 231) rfl), rfl⟩
theorem tw_159 : (Cond.fieldLink "CommitSites" 173 "CommitSites$Message" "attempt" "I") ∈ lw_B := List.mem_filter.mpr ⟨it_tables_1_1 _ (List.mem_of_getElem? (i := 232) rfl), rfl⟩
theorem tw_160 : (Cond.fieldLink "CommitSites$Network" 65 "CommitSites$Message" "told" "I") ∈ lw_B := List.mem_filter.mpr ⟨it_tables_1_1 _ (List.mem_of_getElem? (i := 233) rfl), rfl⟩
theorem tw_161 : (Cond.fieldLink "CommitSites" 174 "CommitSites$Message" "told" "I") ∈ lw_B := List.mem_filter.mpr ⟨it_tables_1_1 _ (List.mem_of_getElem? (i := 234) rfl), rfl⟩
theorem tw_162 : (Cond.fieldLink "CommitSites$Network" 29 "CommitSites$Message" "next" "LCommitSites$Message;") ∈ lw_B := List.mem_filter.mpr ⟨it_tables_1_1 _ (List.mem_of_getElem? (i := 235) rfl), rfl⟩
theorem tw_163 : (Cond.methodLink "CommitSites$Network" 68 yX1_putOn) ∈ lw_B := List.mem_filter.mpr ⟨it_tables_1_2 _ (List.mem_of_getElem? (i := 13) rfl), rfl⟩
theorem tw_164 : (Cond.instanceMethod yX1_putOn) ∈ lw_B := List.mem_filter.mpr ⟨it_tables_1_2 _ (List.mem_of_getElem? (i := 14) rfl), rfl⟩
theorem tw_165 : (Cond.selects "CommitSites$Network" yX1_putOn yX1_putOn) ∈ lw_B := List.mem_filter.mpr ⟨it_tables_1_2 _ (List.mem_of_getElem? (i := 15) rfl), rfl⟩
theorem tw_166 : (Cond.code yX1_putOn cX1_putOn 3 none) ∈ lw_B := List.mem_filter.mpr ⟨it_tables_1_2 _ (List.mem_of_getElem? (i := 16) rfl), rfl⟩
theorem tw_167 : (Cond.methodLink "CommitSites" 216 yX3_setTimer) ∈ lw_B := List.mem_filter.mpr ⟨it_tables_1_2 _ (List.mem_of_getElem? (i := 17) rfl), rfl⟩
theorem tw_168 : (Cond.instanceMethod yX3_setTimer) ∈ lw_B := List.mem_filter.mpr ⟨it_tables_1_2 _ (List.mem_of_getElem? (i := 19) rfl), rfl⟩
theorem tw_169 : (Cond.code yX3_setTimer cX3_setTimer 3 none) ∈ lw_B := List.mem_filter.mpr ⟨it_tables_1_2 _ (List.mem_of_getElem? (i := 20) rfl), rfl⟩
theorem tw_170 : (Cond.methodLink "CommitSites" 247 yX1_nextOrder) ∈ lw_B := List.mem_filter.mpr ⟨it_tables_1_2 _ (List.mem_of_getElem? (i := 21) rfl), rfl⟩
theorem tw_171 : (Cond.instanceMethod yX1_nextOrder) ∈ lw_B := List.mem_filter.mpr ⟨it_tables_1_2 _ (List.mem_of_getElem? (i := 22) rfl), rfl⟩
theorem tw_172 : (Cond.selects "CommitSites$Network" yX1_nextOrder yX1_nextOrder) ∈ lw_B := List.mem_filter.mpr ⟨it_tables_1_2 _ (List.mem_of_getElem? (i := 23) rfl), rfl⟩
theorem tw_173 : (Cond.code yX1_nextOrder cX1_nextOrder 1 (some .int)) ∈ lw_B := List.mem_filter.mpr ⟨it_tables_1_2 _ (List.mem_of_getElem? (i := 24) rfl), rfl⟩
theorem tw_174 : (Cond.methodLink "CommitSites" 222 yX3_lead) ∈ lw_B := List.mem_filter.mpr ⟨it_tables_1_2 _ (List.mem_of_getElem? (i := 25) rfl), rfl⟩
theorem tw_175 : (Cond.instanceMethod yX3_lead) ∈ lw_B := List.mem_filter.mpr ⟨it_tables_1_2 _ (List.mem_of_getElem? (i := 27) rfl), rfl⟩
theorem tw_176 : (Cond.code yX3_lead cX3_lead 5 none) ∈ lw_B := List.mem_filter.mpr ⟨it_tables_1_2 _ (List.mem_of_getElem? (i := 28) rfl), rfl⟩
theorem tw_177 : (Cond.methodLink "CommitSites" 237 yX3_hasQuorum) ∈ lw_B := List.mem_filter.mpr ⟨it_tables_1_2 _ (List.mem_of_getElem? (i := 29) rfl), rfl⟩
theorem tw_178 : (Cond.instanceMethod yX3_hasQuorum) ∈ lw_B := List.mem_filter.mpr ⟨it_tables_1_2 _ (List.mem_of_getElem? (i := 31) rfl), rfl⟩
theorem tw_179 : (Cond.code yX3_hasQuorum cX3_hasQuorum 4 (some .boolean)) ∈ lw_B := List.mem_filter.mpr ⟨it_tables_1_2 _ (List.mem_of_getElem? (i := 32) rfl), rfl⟩
theorem tw_180 : (Cond.methodLink "CommitSites" 80 yX3_decide) ∈ lw_B := List.mem_filter.mpr ⟨it_tables_1_2 _ (List.mem_of_getElem? (i := 33) rfl), rfl⟩
theorem tw_181 : (Cond.instanceMethod yX3_decide) ∈ lw_B := List.mem_filter.mpr ⟨it_tables_1_2 _ (List.mem_of_getElem? (i := 35) rfl), rfl⟩
theorem tw_182 : (Cond.code yX3_decide cX3_decide 4 none) ∈ lw_B := List.mem_filter.mpr ⟨it_tables_1_2 _ (List.mem_of_getElem? (i := 36) rfl), rfl⟩
theorem tw_183 : (Cond.methodLink "CommitSites" 231 yX3_tidingsOf) ∈ lw_B := List.mem_filter.mpr ⟨it_tables_1_2 _ (List.mem_of_getElem? (i := 37) rfl), rfl⟩
theorem tw_184 : (Cond.static yX3_tidingsOf) ∈ lw_B := List.mem_filter.mpr ⟨it_tables_1_2 _ (List.mem_of_getElem? (i := 38) rfl), rfl⟩
theorem tw_185 : (Cond.code yX3_tidingsOf cX3_tidingsOf 1 (some .int)) ∈ lw_B := List.mem_filter.mpr ⟨it_tables_1_2 _ (List.mem_of_getElem? (i := 39) rfl), rfl⟩
theorem tw_186 : (Cond.methodLink "CommitSitesLaw" 40 yX3_crash) ∈ lw_B := List.mem_filter.mpr ⟨it_tables_1_2 _ (List.mem_of_getElem? (i := 40) rfl), rfl⟩
theorem tw_187 : (Cond.instanceMethod yX3_crash) ∈ lw_B := List.mem_filter.mpr ⟨it_tables_1_2 _ (List.mem_of_getElem? (i := 41) rfl), rfl⟩
theorem tw_188 : (Cond.selects "CommitSites" yX3_crash yX3_crash) ∈ lw_B := List.mem_filter.mpr ⟨it_tables_1_2 _ (List.mem_of_getElem? (i := 42) rfl), rfl⟩
theorem tw_189 : (Cond.code yX3_crash cX3_crash 3 (some .int)) ∈ lw_B := List.mem_filter.mpr ⟨it_tables_1_2 _ (List.mem_of_getElem? (i := 43) rfl), rfl⟩
theorem tw_190 : (Cond.methodLink "CommitSitesLaw" 44 yX3_recover) ∈ lw_B := List.mem_filter.mpr ⟨it_tables_1_2 _ (List.mem_of_getElem? (i := 44) rfl), rfl⟩
theorem tw_191 : (Cond.instanceMethod yX3_recover) ∈ lw_B := List.mem_filter.mpr ⟨it_tables_1_2 _ (List.mem_of_getElem? (i := 45) rfl), rfl⟩
theorem tw_192 : (Cond.selects "CommitSites" yX3_recover yX3_recover) ∈ lw_B := List.mem_filter.mpr ⟨it_tables_1_2 _ (List.mem_of_getElem? (i := 46) rfl), rfl⟩
theorem tw_193 : (Cond.code yX3_recover cX3_recover 3 (some .int)) ∈ lw_B := List.mem_filter.mpr ⟨it_tables_1_2 _ (List.mem_of_getElem? (i := 47) rfl), rfl⟩
theorem tw_194 : (Cond.methodLink "CommitSites" 101 yX3_attempt) ∈ lw_B := List.mem_filter.mpr ⟨it_tables_1_2 _ (List.mem_of_getElem? (i := 48) rfl), rfl⟩
theorem tw_195 : (Cond.instanceMethod yX3_attempt) ∈ lw_B := List.mem_filter.mpr ⟨it_tables_1_2 _ (List.mem_of_getElem? (i := 50) rfl), rfl⟩
theorem tw_196 : (Cond.code yX3_attempt cX3_attempt 3 none) ∈ lw_B := List.mem_filter.mpr ⟨it_tables_1_2 _ (List.mem_of_getElem? (i := 51) rfl), rfl⟩
theorem tw_197 : (Cond.methodLink "CommitSitesLaw" 48 yX3_run) ∈ lw_B := List.mem_filter.mpr ⟨it_tables_1_2 _ (List.mem_of_getElem? (i := 52) rfl), rfl⟩
theorem tw_198 : (Cond.instanceMethod yX3_run) ∈ lw_B := List.mem_filter.mpr ⟨it_tables_1_2 _ (List.mem_of_getElem? (i := 53) rfl), rfl⟩
theorem tw_199 : (Cond.selects "CommitSites" yX3_run yX3_run) ∈ lw_B := List.mem_filter.mpr ⟨it_tables_1_2 _ (List.mem_of_getElem? (i := 54) rfl), rfl⟩
theorem tw_200 : (Cond.code yX3_run cX3_run 6 (some .int)) ∈ lw_B := List.mem_filter.mpr ⟨it_tables_1_2 _ (List.mem_of_getElem? (i := 55) rfl), rfl⟩
theorem tw_201 : (Cond.constant "CommitSites" 107 1000000) ∈ lw_B := List.mem_filter.mpr ⟨it_tables_1_2 _ (List.mem_of_getElem? (i := 56) rfl), rfl⟩
theorem tw_202 : (Cond.methodLink "CommitSites" 108 yX3_takeNext) ∈ lw_B := List.mem_filter.mpr ⟨it_tables_1_2 _ (List.mem_of_getElem? (i := 57) rfl), rfl⟩
theorem tw_203 : (Cond.instanceMethod yX3_takeNext) ∈ lw_B := List.mem_filter.mpr ⟨it_tables_1_2 _ (List.mem_of_getElem? (i := 59) rfl), rfl⟩
theorem tw_204 : (Cond.code yX3_takeNext cX3_takeNext 5 (some .int)) ∈ lw_B := List.mem_filter.mpr ⟨it_tables_1_2 _ (List.mem_of_getElem? (i := 60) rfl), rfl⟩
theorem tw_205 : (Cond.methodLink "CommitSites" 143 yX1_first) ∈ lw_B := List.mem_filter.mpr ⟨it_tables_1_2 _ (List.mem_of_getElem? (i := 61) rfl), rfl⟩
theorem tw_206 : (Cond.instanceMethod yX1_first) ∈ lw_B := List.mem_filter.mpr ⟨it_tables_1_2 _ (List.mem_of_getElem? (i := 62) rfl), rfl⟩
theorem tw_207 : (Cond.selects "CommitSites$Network" yX1_first yX1_first) ∈ lw_B := List.mem_filter.mpr ⟨it_tables_1_2 _ (List.mem_of_getElem? (i := 63) rfl), rfl⟩
theorem tw_208 : (Cond.code yX1_first cX1_first 2 (some (.object "CommitSites$Message"))) ∈ lw_B := List.mem_filter.mpr ⟨it_tables_1_2 _ (List.mem_of_getElem? (i := 64) rfl), rfl⟩
theorem tw_209 : (Cond.methodLink "CommitSites" 147 yX3_firstTimer) ∈ lw_B := List.mem_filter.mpr ⟨it_tables_1_2 _ (List.mem_of_getElem? (i := 65) rfl), rfl⟩
theorem tw_210 : (Cond.instanceMethod yX3_firstTimer) ∈ lw_B := List.mem_filter.mpr ⟨it_tables_1_2 _ (List.mem_of_getElem? (i := 67) rfl), rfl⟩
theorem tw_211 : (Cond.code yX3_firstTimer cX3_firstTimer 3 (some .int)) ∈ lw_B := List.mem_filter.mpr ⟨it_tables_1_2 _ (List.mem_of_getElem? (i := 68) rfl), rfl⟩
theorem tw_212 : (Cond.methodLink "CommitSites" 183 yX2_runsOutEarlier) ∈ lw_B := List.mem_filter.mpr ⟨it_tables_1_2 _ (List.mem_of_getElem? (i := 69) rfl), rfl⟩
theorem tw_213 : (Cond.instanceMethod yX2_runsOutEarlier) ∈ lw_B := List.mem_filter.mpr ⟨it_tables_1_2 _ (List.mem_of_getElem? (i := 70) rfl), rfl⟩
theorem tw_214 : (Cond.selects "CommitSites$Site" yX2_runsOutEarlier yX2_runsOutEarlier) ∈ lw_B := List.mem_filter.mpr ⟨it_tables_1_2 _ (List.mem_of_getElem? (i := 71) rfl), rfl⟩
theorem tw_215 : (Cond.code yX2_runsOutEarlier cX2_runsOutEarlier 2 (some .boolean)) ∈ lw_B := List.mem_filter.mpr ⟨it_tables_1_2 _ (List.mem_of_getElem? (i := 72) rfl), rfl⟩
theorem tw_216 : (Cond.methodLink "CommitSites" 150 yX2_runsOutBefore) ∈ lw_B := List.mem_filter.mpr ⟨it_tables_1_2 _ (List.mem_of_getElem? (i := 73) rfl), rfl⟩
theorem tw_217 : (Cond.instanceMethod yX2_runsOutBefore) ∈ lw_B := List.mem_filter.mpr ⟨it_tables_1_2 _ (List.mem_of_getElem? (i := 74) rfl), rfl⟩
theorem tw_218 : (Cond.selects "CommitSites$Site" yX2_runsOutBefore yX2_runsOutBefore) ∈ lw_B := List.mem_filter.mpr ⟨it_tables_1_2 _ (List.mem_of_getElem? (i := 75) rfl), rfl⟩
theorem tw_219 : (Cond.code yX2_runsOutBefore cX2_runsOutBefore 2 (some .boolean)) ∈ lw_B := List.mem_filter.mpr ⟨it_tables_1_2 _ (List.mem_of_getElem? (i := 76) rfl), rfl⟩
theorem tw_220 : (Cond.methodLink "CommitSites" 154 yX3_runOut) ∈ lw_B := List.mem_filter.mpr ⟨it_tables_1_2 _ (List.mem_of_getElem? (i := 77) rfl), rfl⟩
theorem tw_221 : (Cond.instanceMethod yX3_runOut) ∈ lw_B := List.mem_filter.mpr ⟨it_tables_1_2 _ (List.mem_of_getElem? (i := 79) rfl), rfl⟩
theorem tw_222 : (Cond.code yX3_runOut cX3_runOut 3 none) ∈ lw_B := List.mem_filter.mpr ⟨it_tables_1_2 _ (List.mem_of_getElem? (i := 80) rfl), rfl⟩
theorem tw_223 : (Cond.methodLink "CommitSites" 240 yX3_toldWeight) ∈ lw_B := List.mem_filter.mpr ⟨it_tables_1_2 _ (List.mem_of_getElem? (i := 81) rfl), rfl⟩
theorem tw_224 : (Cond.instanceMethod yX3_toldWeight) ∈ lw_B := List.mem_filter.mpr ⟨it_tables_1_2 _ (List.mem_of_getElem? (i := 83) rfl), rfl⟩
theorem tw_225 : (Cond.code yX3_toldWeight cX3_toldWeight 5 (some .int)) ∈ lw_B := List.mem_filter.mpr ⟨it_tables_1_2 _ (List.mem_of_getElem? (i := 84) rfl), rfl⟩
theorem tw_226 : (Cond.methodLink "CommitSites" 160 yX1_takeOff) ∈ lw_B := List.mem_filter.mpr ⟨it_tables_1_2 _ (List.mem_of_getElem? (i := 85) rfl), rfl⟩
theorem tw_227 : (Cond.instanceMethod yX1_takeOff) ∈ lw_B := List.mem_filter.mpr ⟨it_tables_1_2 _ (List.mem_of_getElem? (i := 86) rfl), rfl⟩
theorem tw_228 : (Cond.selects "CommitSites$Network" yX1_takeOff yX1_takeOff) ∈ lw_B := List.mem_filter.mpr ⟨it_tables_1_2 _ (List.mem_of_getElem? (i := 87) rfl), rfl⟩
theorem tw_229 : (Cond.code yX1_takeOff cX1_takeOff 3 none) ∈ lw_B := List.mem_filter.mpr ⟨it_tables_1_2 _ (List.mem_of_getElem? (i := 88) rfl), rfl⟩
theorem tw_230 : (Cond.methodLink "CommitSites" 177 yX3_receive) ∈ lw_B := List.mem_filter.mpr ⟨it_tables_1_2 _ (List.mem_of_getElem? (i := 89) rfl), rfl⟩
theorem tw_231 : (Cond.instanceMethod yX3_receive) ∈ lw_B := List.mem_filter.mpr ⟨it_tables_1_2 _ (List.mem_of_getElem? (i := 91) rfl), rfl⟩
theorem tw_232 : (Cond.code yX3_receive cX3_receive 2 none) ∈ lw_B := List.mem_filter.mpr ⟨it_tables_1_2 _ (List.mem_of_getElem? (i := 92) rfl), rfl⟩
theorem tw_233 : (Cond.methodLink "CommitSites" 187 yX3_onAskVote) ∈ lw_B := List.mem_filter.mpr ⟨it_tables_1_2 _ (List.mem_of_getElem? (i := 93) rfl), rfl⟩
theorem tw_234 : (Cond.instanceMethod yX3_onAskVote) ∈ lw_B := List.mem_filter.mpr ⟨it_tables_1_2 _ (List.mem_of_getElem? (i := 95) rfl), rfl⟩
theorem tw_235 : (Cond.code yX3_onAskVote cX3_onAskVote 4 none) ∈ lw_B := List.mem_filter.mpr ⟨it_tables_1_2 _ (List.mem_of_getElem? (i := 96) rfl), rfl⟩
theorem tw_236 : (Cond.methodLink "CommitSites" 190 yX3_onYes) ∈ lw_B := List.mem_filter.mpr ⟨it_tables_1_2 _ (List.mem_of_getElem? (i := 97) rfl), rfl⟩
theorem tw_237 : (Cond.instanceMethod yX3_onYes) ∈ lw_B := List.mem_filter.mpr ⟨it_tables_1_2 _ (List.mem_of_getElem? (i := 99) rfl), rfl⟩
theorem tw_238 : (Cond.code yX3_onYes cX3_onYes 4 none) ∈ lw_B := List.mem_filter.mpr ⟨it_tables_1_2 _ (List.mem_of_getElem? (i := 100) rfl), rfl⟩
theorem tw_239 : (Cond.methodLink "CommitSites" 193 yX3_onNo) ∈ lw_B := List.mem_filter.mpr ⟨it_tables_1_2 _ (List.mem_of_getElem? (i := 101) rfl), rfl⟩
theorem tw_240 : (Cond.instanceMethod yX3_onNo) ∈ lw_B := List.mem_filter.mpr ⟨it_tables_1_2 _ (List.mem_of_getElem? (i := 103) rfl), rfl⟩
theorem tw_241 : (Cond.code yX3_onNo cX3_onNo 2 none) ∈ lw_B := List.mem_filter.mpr ⟨it_tables_1_2 _ (List.mem_of_getElem? (i := 104) rfl), rfl⟩
theorem tw_242 : (Cond.methodLink "CommitSites" 196 yX3_onAskState) ∈ lw_B := List.mem_filter.mpr ⟨it_tables_1_2 _ (List.mem_of_getElem? (i := 105) rfl), rfl⟩
theorem tw_243 : (Cond.instanceMethod yX3_onAskState) ∈ lw_B := List.mem_filter.mpr ⟨it_tables_1_2 _ (List.mem_of_getElem? (i := 107) rfl), rfl⟩
theorem tw_244 : (Cond.code yX3_onAskState cX3_onAskState 5 none) ∈ lw_B := List.mem_filter.mpr ⟨it_tables_1_2 _ (List.mem_of_getElem? (i := 108) rfl), rfl⟩
theorem tw_245 : (Cond.methodLink "CommitSites" 225 yX3_yieldTo) ∈ lw_B := List.mem_filter.mpr ⟨it_tables_1_2 _ (List.mem_of_getElem? (i := 109) rfl), rfl⟩
theorem tw_246 : (Cond.instanceMethod yX3_yieldTo) ∈ lw_B := List.mem_filter.mpr ⟨it_tables_1_2 _ (List.mem_of_getElem? (i := 111) rfl), rfl⟩
theorem tw_247 : (Cond.code yX3_yieldTo cX3_yieldTo 5 none) ∈ lw_B := List.mem_filter.mpr ⟨it_tables_1_2 _ (List.mem_of_getElem? (i := 112) rfl), rfl⟩
theorem tw_248 : (Cond.methodLink "CommitSites" 200 yX3_onState) ∈ lw_B := List.mem_filter.mpr ⟨it_tables_1_2 _ (List.mem_of_getElem? (i := 113) rfl), rfl⟩
theorem tw_249 : (Cond.instanceMethod yX3_onState) ∈ lw_B := List.mem_filter.mpr ⟨it_tables_1_2 _ (List.mem_of_getElem? (i := 115) rfl), rfl⟩
theorem tw_250 : (Cond.code yX3_onState cX3_onState 6 none) ∈ lw_B := List.mem_filter.mpr ⟨it_tables_1_2 _ (List.mem_of_getElem? (i := 116) rfl), rfl⟩
theorem tw_251 : (Cond.methodLink "CommitSites" 204 yX3_onAskReady) ∈ lw_B := List.mem_filter.mpr ⟨it_tables_1_2 _ (List.mem_of_getElem? (i := 117) rfl), rfl⟩
theorem tw_252 : (Cond.instanceMethod yX3_onAskReady) ∈ lw_B := List.mem_filter.mpr ⟨it_tables_1_2 _ (List.mem_of_getElem? (i := 119) rfl), rfl⟩
theorem tw_253 : (Cond.code yX3_onAskReady cX3_onAskReady 6 none) ∈ lw_B := List.mem_filter.mpr ⟨it_tables_1_2 _ (List.mem_of_getElem? (i := 120) rfl), rfl⟩
theorem tw_254 : (Cond.methodLink "CommitSites" 207 yX3_onAcknowledge) ∈ lw_B := List.mem_filter.mpr ⟨it_tables_1_2 _ (List.mem_of_getElem? (i := 121) rfl), rfl⟩
theorem tw_255 : (Cond.instanceMethod yX3_onAcknowledge) ∈ lw_B := List.mem_filter.mpr ⟨it_tables_1_2 _ (List.mem_of_getElem? (i := 123) rfl), rfl⟩
theorem tw_256 : (Cond.code yX3_onAcknowledge cX3_onAcknowledge 5 none) ∈ lw_B := List.mem_filter.mpr ⟨it_tables_1_2 _ (List.mem_of_getElem? (i := 124) rfl), rfl⟩
theorem tw_257 : (Cond.methodLink "CommitSites" 234 yX2_collectsAcks) ∈ lw_B := List.mem_filter.mpr ⟨it_tables_1_2 _ (List.mem_of_getElem? (i := 125) rfl), rfl⟩
theorem tw_258 : (Cond.instanceMethod yX2_collectsAcks) ∈ lw_B := List.mem_filter.mpr ⟨it_tables_1_2 _ (List.mem_of_getElem? (i := 126) rfl), rfl⟩
theorem tw_259 : (Cond.selects "CommitSites$Site" yX2_collectsAcks yX2_collectsAcks) ∈ lw_B := List.mem_filter.mpr ⟨it_tables_1_2 _ (List.mem_of_getElem? (i := 127) rfl), rfl⟩
theorem tw_260 : (Cond.code yX2_collectsAcks cX2_collectsAcks 1 (some .boolean)) ∈ lw_B := List.mem_filter.mpr ⟨it_tables_1_2 _ (List.mem_of_getElem? (i := 128) rfl), rfl⟩
theorem tw_261 : (Cond.methodLink "CommitSites" 210 yX3_onDecision) ∈ lw_B := List.mem_filter.mpr ⟨it_tables_1_2 _ (List.mem_of_getElem? (i := 129) rfl), rfl⟩
theorem tw_262 : (Cond.instanceMethod yX3_onDecision) ∈ lw_B := List.mem_filter.mpr ⟨it_tables_1_2 _ (List.mem_of_getElem? (i := 131) rfl), rfl⟩
theorem tw_263 : (Cond.code yX3_onDecision cX3_onDecision 4 none) ∈ lw_B := List.mem_filter.mpr ⟨it_tables_1_2 _ (List.mem_of_getElem? (i := 132) rfl), rfl⟩
theorem tw_264 : (Cond.methodLink "CommitSites" 180 yX1_keepSpare) ∈ lw_B := List.mem_filter.mpr ⟨it_tables_1_2 _ (List.mem_of_getElem? (i := 133) rfl), rfl⟩
theorem tw_265 : (Cond.instanceMethod yX1_keepSpare) ∈ lw_B := List.mem_filter.mpr ⟨it_tables_1_2 _ (List.mem_of_getElem? (i := 134) rfl), rfl⟩
theorem tw_266 : (Cond.selects "CommitSites$Network" yX1_keepSpare yX1_keepSpare) ∈ lw_B := List.mem_filter.mpr ⟨it_tables_1_2 _ (List.mem_of_getElem? (i := 135) rfl), rfl⟩
theorem tw_267 : (Cond.code yX1_keepSpare cX1_keepSpare 2 none) ∈ lw_B := List.mem_filter.mpr ⟨it_tables_1_2 _ (List.mem_of_getElem? (i := 136) rfl), rfl⟩
theorem tw_268 : (Cond.methodLink "CommitSitesLaw" 52 yX3_step) ∈ lw_B := List.mem_filter.mpr ⟨it_tables_1_2 _ (List.mem_of_getElem? (i := 137) rfl), rfl⟩
theorem tw_269 : (Cond.instanceMethod yX3_step) ∈ lw_B := List.mem_filter.mpr ⟨it_tables_1_2 _ (List.mem_of_getElem? (i := 138) rfl), rfl⟩
theorem tw_270 : (Cond.selects "CommitSites" yX3_step yX3_step) ∈ lw_B := List.mem_filter.mpr ⟨it_tables_1_2 _ (List.mem_of_getElem? (i := 139) rfl), rfl⟩
theorem tw_271 : (Cond.code yX3_step cX3_step 3 (some .int)) ∈ lw_B := List.mem_filter.mpr ⟨it_tables_1_2 _ (List.mem_of_getElem? (i := 140) rfl), rfl⟩
theorem tw_272 : (Cond.methodLink "CommitSitesLaw" 57 yX3_reset) ∈ lw_B := List.mem_filter.mpr ⟨it_tables_1_2 _ (List.mem_of_getElem? (i := 141) rfl), rfl⟩
theorem tw_273 : (Cond.instanceMethod yX3_reset) ∈ lw_B := List.mem_filter.mpr ⟨it_tables_1_2 _ (List.mem_of_getElem? (i := 142) rfl), rfl⟩
theorem tw_274 : (Cond.selects "CommitSites" yX3_reset yX3_reset) ∈ lw_B := List.mem_filter.mpr ⟨it_tables_1_2 _ (List.mem_of_getElem? (i := 143) rfl), rfl⟩
theorem tw_275 : (Cond.code yX3_reset cX3_reset 2 (some .int)) ∈ lw_B := List.mem_filter.mpr ⟨it_tables_1_2 _ (List.mem_of_getElem? (i := 144) rfl), rfl⟩
theorem tw_276 : (Cond.methodLink "CommitSites" 118 yX1_startAnew) ∈ lw_B := List.mem_filter.mpr ⟨it_tables_1_2 _ (List.mem_of_getElem? (i := 145) rfl), rfl⟩
theorem tw_277 : (Cond.instanceMethod yX1_startAnew) ∈ lw_B := List.mem_filter.mpr ⟨it_tables_1_2 _ (List.mem_of_getElem? (i := 146) rfl), rfl⟩
theorem tw_278 : (Cond.selects "CommitSites$Network" yX1_startAnew yX1_startAnew) ∈ lw_B := List.mem_filter.mpr ⟨it_tables_1_2 _ (List.mem_of_getElem? (i := 147) rfl), rfl⟩
theorem tw_279 : (Cond.code yX1_startAnew cX1_startAnew 2 none) ∈ lw_B := List.mem_filter.mpr ⟨it_tables_1_2 _ (List.mem_of_getElem? (i := 148) rfl), rfl⟩
theorem tw_280 : (Cond.methodLink "CommitSites" 121 yX2_startAnew) ∈ lw_B := List.mem_filter.mpr ⟨it_tables_1_2 _ (List.mem_of_getElem? (i := 149) rfl), rfl⟩
theorem tw_281 : (Cond.methodLink "CommitSitesLaw" 61 yX3_of) ∈ lw_B := List.mem_filter.mpr ⟨it_tables_1_2 _ (List.mem_of_getElem? (i := 150) rfl), rfl⟩
theorem tw_282 : (Cond.instanceMethod yX3_of) ∈ lw_B := List.mem_filter.mpr ⟨it_tables_1_2 _ (List.mem_of_getElem? (i := 151) rfl), rfl⟩
theorem tw_283 : (Cond.selects "CommitSites" yX3_of yX3_of) ∈ lw_B := List.mem_filter.mpr ⟨it_tables_1_2 _ (List.mem_of_getElem? (i := 152) rfl), rfl⟩
theorem tw_284 : (Cond.code yX3_of cX3_of 4 (some .int)) ∈ lw_B := List.mem_filter.mpr ⟨it_tables_1_2 _ (List.mem_of_getElem? (i := 153) rfl), rfl⟩
theorem tw_285 : (Cond.methodLink "CommitSitesLaw" 65 yX3_count) ∈ lw_B := List.mem_filter.mpr ⟨it_tables_1_2 _ (List.mem_of_getElem? (i := 154) rfl), rfl⟩
theorem tw_286 : (Cond.instanceMethod yX3_count) ∈ lw_B := List.mem_filter.mpr ⟨it_tables_1_2 _ (List.mem_of_getElem? (i := 155) rfl), rfl⟩
theorem tw_287 : (Cond.selects "CommitSites" yX3_count yX3_count) ∈ lw_B := List.mem_filter.mpr ⟨it_tables_1_2 _ (List.mem_of_getElem? (i := 156) rfl), rfl⟩
theorem tw_288 : (Cond.code yX3_count cX3_count 2 (some .int)) ∈ lw_B := List.mem_filter.mpr ⟨it_tables_1_2 _ (List.mem_of_getElem? (i := 157) rfl), rfl⟩
theorem tw_289 : (Cond.methodLink "CommitSitesLaw" 69 yX3_delay) ∈ lw_B := List.mem_filter.mpr ⟨it_tables_1_2 _ (List.mem_of_getElem? (i := 158) rfl), rfl⟩
theorem tw_290 : (Cond.instanceMethod yX3_delay) ∈ lw_B := List.mem_filter.mpr ⟨it_tables_1_2 _ (List.mem_of_getElem? (i := 159) rfl), rfl⟩
theorem tw_291 : (Cond.selects "CommitSites" yX3_delay yX3_delay) ∈ lw_B := List.mem_filter.mpr ⟨it_tables_1_2 _ (List.mem_of_getElem? (i := 160) rfl), rfl⟩
theorem tw_292 : (Cond.code yX3_delay cX3_delay 3 (some .int)) ∈ lw_B := List.mem_filter.mpr ⟨it_tables_1_2 _ (List.mem_of_getElem? (i := 161) rfl), rfl⟩
theorem tw_293 : (Cond.methodLink "CommitSitesLaw" 73 yX3_weight) ∈ lw_B := List.mem_filter.mpr ⟨it_tables_1_2 _ (List.mem_of_getElem? (i := 162) rfl), rfl⟩
theorem tw_294 : (Cond.instanceMethod yX3_weight) ∈ lw_B := List.mem_filter.mpr ⟨it_tables_1_2 _ (List.mem_of_getElem? (i := 163) rfl), rfl⟩
theorem tw_295 : (Cond.selects "CommitSites" yX3_weight yX3_weight) ∈ lw_B := List.mem_filter.mpr ⟨it_tables_1_2 _ (List.mem_of_getElem? (i := 164) rfl), rfl⟩
theorem tw_296 : (Cond.code yX3_weight cX3_weight 4 (some .int)) ∈ lw_B := List.mem_filter.mpr ⟨it_tables_1_2 _ (List.mem_of_getElem? (i := 165) rfl), rfl⟩
theorem tw_297 : (Cond.methodLink "CommitSitesLaw" 77 yX3_latest) ∈ lw_B := List.mem_filter.mpr ⟨it_tables_1_2 _ (List.mem_of_getElem? (i := 166) rfl), rfl⟩
theorem tw_298 : (Cond.instanceMethod yX3_latest) ∈ lw_B := List.mem_filter.mpr ⟨it_tables_1_2 _ (List.mem_of_getElem? (i := 167) rfl), rfl⟩
theorem tw_299 : (Cond.selects "CommitSites" yX3_latest yX3_latest) ∈ lw_B := List.mem_filter.mpr ⟨it_tables_1_2 _ (List.mem_of_getElem? (i := 168) rfl), rfl⟩
theorem tw_300 : (Cond.code yX3_latest cX3_latest 2 (some .int)) ∈ lw_B := List.mem_filter.mpr ⟨it_tables_1_2 _ (List.mem_of_getElem? (i := 169) rfl), rfl⟩
theorem tw_301 : (Cond.methodLink "CommitSitesLaw" 81 yX3_check) ∈ lw_B := List.mem_filter.mpr ⟨it_tables_1_2 _ (List.mem_of_getElem? (i := 170) rfl), rfl⟩
theorem tw_302 : (Cond.instanceMethod yX3_check) ∈ lw_B := List.mem_filter.mpr ⟨it_tables_1_2 _ (List.mem_of_getElem? (i := 171) rfl), rfl⟩
theorem tw_303 : (Cond.selects "CommitSites" yX3_check yX3_check) ∈ lw_B := List.mem_filter.mpr ⟨it_tables_1_2 _ (List.mem_of_getElem? (i := 172) rfl), rfl⟩
theorem tw_304 : (Cond.code yX3_check cX3_check 5 (some .int)) ∈ lw_B := List.mem_filter.mpr ⟨it_tables_1_2 _ (List.mem_of_getElem? (i := 173) rfl), rfl⟩
theorem tw_305 : (Cond.classLink "CommitSitesLaw" 10 "CommitSitesModel") ∈ lw_B := List.mem_filter.mpr ⟨it_tables_1_2 _ (List.mem_of_getElem? (i := 174) rfl), rfl⟩
theorem tw_306 : (Cond.instantiable "CommitSitesModel" 34) ∈ lw_B := List.mem_filter.mpr ⟨it_tables_1_2 _ (List.mem_of_getElem? (i := 175) rfl), rfl⟩
theorem tw_307 : (Cond.methodLink "CommitSitesLaw" 12 yX4_init) ∈ lw_B := List.mem_filter.mpr ⟨it_tables_1_2 _ (List.mem_of_getElem? (i := 176) rfl), rfl⟩
theorem tw_308 : (Cond.instanceMethod yX4_init) ∈ lw_B := List.mem_filter.mpr ⟨it_tables_1_2 _ (List.mem_of_getElem? (i := 177) rfl), rfl⟩
theorem tw_309 : (Cond.code yX4_init cX4_init 1 none) ∈ lw_B := List.mem_filter.mpr ⟨it_tables_1_2 _ (List.mem_of_getElem? (i := 178) rfl), rfl⟩
theorem tw_310 : (Cond.methodLink "CommitSitesModel" 1 objectInit) ∈ lw_B := List.mem_filter.mpr ⟨it_tables_1_2 _ (List.mem_of_getElem? (i := 179) rfl), rfl⟩
theorem tw_311 : (Cond.constant "CommitSitesModel" 48 60000) ∈ lw_B := List.mem_filter.mpr ⟨it_tables_1_2 _ (List.mem_of_getElem? (i := 180) rfl), rfl⟩
theorem tw_312 : (Cond.fieldLink "CommitSitesModel" 73 "CommitSitesModel" "thrown" "I") ∈ lw_B := List.mem_filter.mpr ⟨it_tables_1_2 _ (List.mem_of_getElem? (i := 181) rfl), rfl⟩
theorem tw_313 : (Cond.fieldLink "CommitSitesModel" 76 "CommitSitesModel" "sites" "I") ∈ lw_B := List.mem_filter.mpr ⟨it_tables_1_2 _ (List.mem_of_getElem? (i := 182) rfl), rfl⟩
theorem tw_314 : (Cond.fieldLink "CommitSitesModel" 7 "CommitSitesModel" "weights" "[I") ∈ lw_B := List.mem_filter.mpr ⟨it_tables_1_2 _ (List.mem_of_getElem? (i := 183) rfl), rfl⟩
theorem tw_315 : (Cond.fieldLink "CommitSitesModel" 87 "CommitSitesModel" "commitQuorum" "I") ∈ lw_B := List.mem_filter.mpr ⟨it_tables_1_2 _ (List.mem_of_getElem? (i := 184) rfl), rfl⟩
theorem tw_316 : (Cond.fieldLink "CommitSitesModel" 90 "CommitSitesModel" "abortQuorum" "I") ∈ lw_B := List.mem_filter.mpr ⟨it_tables_1_2 _ (List.mem_of_getElem? (i := 185) rfl), rfl⟩
theorem tw_317 : (Cond.fieldLink "CommitSitesModel" 13 "CommitSitesModel" "patience" "I") ∈ lw_B := List.mem_filter.mpr ⟨it_tables_1_2 _ (List.mem_of_getElem? (i := 186) rfl), rfl⟩
theorem tw_318 : (Cond.fieldLink "CommitSitesModel" 17 "CommitSitesModel" "delays" "[I") ∈ lw_B := List.mem_filter.mpr ⟨it_tables_1_2 _ (List.mem_of_getElem? (i := 187) rfl), rfl⟩
theorem tw_319 : (Cond.fieldLink "CommitSitesModel" 79 "CommitSitesModel" "begun" "Z") ∈ lw_B := List.mem_filter.mpr ⟨it_tables_1_2 _ (List.mem_of_getElem? (i := 188) rfl), rfl⟩
theorem tw_320 : (Cond.fieldLink "CommitSitesModel" 106 "CommitSitesModel" "now" "I") ∈ lw_B := List.mem_filter.mpr ⟨it_tables_1_2 _ (List.mem_of_getElem? (i := 189) rfl), rfl⟩
theorem tw_321 : (Cond.fieldLink "CommitSitesModel" 109 "CommitSitesModel" "numbers" "I") ∈ lw_B := List.mem_filter.mpr ⟨it_tables_1_2 _ (List.mem_of_getElem? (i := 190) rfl), rfl⟩
theorem tw_322 : (Cond.fieldLink "CommitSitesModel" 97 "CommitSitesModel" "sent" "I") ∈ lw_B := List.mem_filter.mpr ⟨it_tables_1_2 _ (List.mem_of_getElem? (i := 191) rfl), rfl⟩
theorem tw_323 : (Cond.fieldLink "CommitSitesModel" 179 "CommitSitesModel" "come" "I") ∈ lw_B := List.mem_filter.mpr ⟨it_tables_1_2 _ (List.mem_of_getElem? (i := 192) rfl), rfl⟩
theorem tw_324 : (Cond.fieldLink "CommitSitesModel" 100 "CommitSitesModel" "lost" "I") ∈ lw_B := List.mem_filter.mpr ⟨it_tables_1_2 _ (List.mem_of_getElem? (i := 193) rfl), rfl⟩
theorem tw_325 : (Cond.fieldLink "CommitSitesModel" 170 "CommitSitesModel" "rang" "I") ∈ lw_B := List.mem_filter.mpr ⟨it_tables_1_2 _ (List.mem_of_getElem? (i := 194) rfl), rfl⟩
theorem tw_326 : (Cond.fieldLink "CommitSitesModel" 20 "CommitSitesModel" "states" "[I") ∈ lw_B := List.mem_filter.mpr ⟨it_tables_1_2 _ (List.mem_of_getElem? (i := 195) rfl), rfl⟩
theorem tw_327 : (Cond.fieldLink "CommitSitesModel" 23 "CommitSitesModel" "since" "[I") ∈ lw_B := List.mem_filter.mpr ⟨it_tables_1_2 _ (List.mem_of_getElem? (i := 196) rfl), rfl⟩
theorem tw_328 : (Cond.fieldLink "CommitSitesModel" 26 "CommitSitesModel" "down" "[Z") ∈ lw_B := List.mem_filter.mpr ⟨it_tables_1_2 _ (List.mem_of_getElem? (i := 197) rfl), rfl⟩
theorem tw_329 : (Cond.fieldLink "CommitSitesModel" 30 "CommitSitesModel" "votes" "[Z") ∈ lw_B := List.mem_filter.mpr ⟨it_tables_1_2 _ (List.mem_of_getElem? (i := 198) rfl), rfl⟩
theorem tw_330 : (Cond.fieldLink "CommitSitesModel" 33 "CommitSitesModel" "doing" "[I") ∈ lw_B := List.mem_filter.mpr ⟨it_tables_1_2 _ (List.mem_of_getElem? (i := 199) rfl), rfl⟩
theorem tw_331 : (Cond.fieldLink "CommitSitesModel" 36 "CommitSitesModel" "attempts" "[I") ∈ lw_B := List.mem_filter.mpr ⟨it_tables_1_2 _ (List.mem_of_getElem? (i := 200) rfl), rfl⟩
theorem tw_332 : (Cond.fieldLink "CommitSitesModel" 39 "CommitSitesModel" "there" "[I") ∈ lw_B := List.mem_filter.mpr ⟨it_tables_1_2 _ (List.mem_of_getElem? (i := 201) rfl), rfl⟩
theorem tw_333 : (Cond.fieldLink "CommitSitesModel" 42 "CommitSitesModel" "timers" "[I") ∈ lw_B := List.mem_filter.mpr ⟨it_tables_1_2 _ (List.mem_of_getElem? (i := 202) rfl), rfl⟩
theorem tw_334 : (Cond.fieldLink "CommitSitesModel" 45 "CommitSitesModel" "timerNumbers" "[I") ∈ lw_B := List.mem_filter.mpr ⟨it_tables_1_2 _ (List.mem_of_getElem? (i := 203) rfl), rfl⟩
theorem tw_335 : (Cond.fieldLink "CommitSitesModel" 49 "CommitSitesModel" "kinds" "[I") ∈ lw_B := List.mem_filter.mpr ⟨it_tables_1_2 _ (List.mem_of_getElem? (i := 204) rfl), rfl⟩
theorem tw_336 : (Cond.fieldLink "CommitSitesModel" 52 "CommitSitesModel" "froms" "[I") ∈ lw_B := List.mem_filter.mpr ⟨it_tables_1_2 _ (List.mem_of_getElem? (i := 205) rfl), rfl⟩
theorem tw_337 : (Cond.fieldLink "CommitSitesModel" 55 "CommitSitesModel" "tos" "[I") ∈ lw_B := List.mem_filter.mpr ⟨it_tables_1_2 _ (List.mem_of_getElem? (i := 206) rfl), rfl⟩
theorem tw_338 : (Cond.fieldLink "CommitSitesModel" 58 "CommitSitesModel" "attemptsTold" "[I") ∈ lw_B := List.mem_filter.mpr ⟨it_tables_1_2 _ (List.mem_of_getElem? (i := 207) rfl), rfl⟩
theorem tw_339 : (Cond.fieldLink "CommitSitesModel" 61 "CommitSitesModel" "statesTold" "[I") ∈ lw_B := List.mem_filter.mpr ⟨it_tables_1_2 _ (List.mem_of_getElem? (i := 208) rfl), rfl⟩
theorem tw_340 : (Cond.fieldLink "CommitSitesModel" 64 "CommitSitesModel" "times" "[I") ∈ lw_B := List.mem_filter.mpr ⟨it_tables_1_2 _ (List.mem_of_getElem? (i := 209) rfl), rfl⟩
theorem tw_341 : (Cond.fieldLink "CommitSitesModel" 67 "CommitSitesModel" "order" "[I") ∈ lw_B := List.mem_filter.mpr ⟨it_tables_1_2 _ (List.mem_of_getElem? (i := 210) rfl), rfl⟩
theorem tw_342 : (Cond.fieldLink "CommitSitesModel" 103 "CommitSitesModel" "messages" "I") ∈ lw_B := List.mem_filter.mpr ⟨it_tables_1_2 _ (List.mem_of_getElem? (i := 211) rfl), rfl⟩
theorem tw_343 : (Cond.fieldLink "CommitSitesModel" 70 "CommitSitesModel" "latest" "[I") ∈ lw_B := List.mem_filter.mpr ⟨it_tables_1_2 _ (List.mem_of_getElem? (i := 212) rfl), rfl⟩
theorem tw_344 : (Cond.fieldLink "CommitSitesModel" 164 "CommitSitesModel" "nextWhat" "I") ∈ lw_B := List.mem_filter.mpr ⟨it_tables_1_2 _ (List.mem_of_getElem? (i := 213) rfl), rfl⟩
theorem tw_345 : (Cond.fieldLink "CommitSitesModel" 167 "CommitSitesModel" "nextTime" "I") ∈ lw_B := List.mem_filter.mpr ⟨it_tables_1_2 _ (List.mem_of_getElem? (i := 214) rfl), rfl⟩
theorem tw_346 : (Cond.arrayClass (.boolean)) ∈ lw_B := List.mem_filter.mpr ⟨it_tables_1_3 _ (List.mem_of_getElem? (i := 44) rfl), rfl⟩
theorem tw_347 : (Cond.methodLink "CommitSitesLaw" 17 yX4_site) ∈ lw_B := List.mem_filter.mpr ⟨it_tables_1_3 _ (List.mem_of_getElem? (i := 45) rfl), rfl⟩
theorem tw_348 : (Cond.instanceMethod yX4_site) ∈ lw_B := List.mem_filter.mpr ⟨it_tables_1_3 _ (List.mem_of_getElem? (i := 46) rfl), rfl⟩
theorem tw_349 : (Cond.selects "CommitSitesModel" yX4_site yX4_site) ∈ lw_B := List.mem_filter.mpr ⟨it_tables_1_3 _ (List.mem_of_getElem? (i := 47) rfl), rfl⟩
theorem tw_350 : (Cond.code yX4_site cX4_site 3 (some .int)) ∈ lw_B := List.mem_filter.mpr ⟨it_tables_1_3 _ (List.mem_of_getElem? (i := 48) rfl), rfl⟩
theorem tw_351 : (Cond.methodLink "CommitSitesModel" 83 yX4_all) ∈ lw_B := List.mem_filter.mpr ⟨it_tables_1_3 _ (List.mem_of_getElem? (i := 49) rfl), rfl⟩
theorem tw_352 : (Cond.instanceMethod yX4_all) ∈ lw_B := List.mem_filter.mpr ⟨it_tables_1_3 _ (List.mem_of_getElem? (i := 51) rfl), rfl⟩
theorem tw_353 : (Cond.code yX4_all cX4_all 3 (some .int)) ∈ lw_B := List.mem_filter.mpr ⟨it_tables_1_3 _ (List.mem_of_getElem? (i := 52) rfl), rfl⟩
theorem tw_354 : (Cond.methodLink "CommitSitesLaw" 22 yX4_quorums) ∈ lw_B := List.mem_filter.mpr ⟨it_tables_1_3 _ (List.mem_of_getElem? (i := 53) rfl), rfl⟩
theorem tw_355 : (Cond.instanceMethod yX4_quorums) ∈ lw_B := List.mem_filter.mpr ⟨it_tables_1_3 _ (List.mem_of_getElem? (i := 54) rfl), rfl⟩
theorem tw_356 : (Cond.selects "CommitSitesModel" yX4_quorums yX4_quorums) ∈ lw_B := List.mem_filter.mpr ⟨it_tables_1_3 _ (List.mem_of_getElem? (i := 55) rfl), rfl⟩
theorem tw_357 : (Cond.code yX4_quorums cX4_quorums 4 (some .int)) ∈ lw_B := List.mem_filter.mpr ⟨it_tables_1_3 _ (List.mem_of_getElem? (i := 56) rfl), rfl⟩
theorem tw_358 : (Cond.methodLink "CommitSitesLaw" 27 yX4_link) ∈ lw_B := List.mem_filter.mpr ⟨it_tables_1_3 _ (List.mem_of_getElem? (i := 57) rfl), rfl⟩
theorem tw_359 : (Cond.instanceMethod yX4_link) ∈ lw_B := List.mem_filter.mpr ⟨it_tables_1_3 _ (List.mem_of_getElem? (i := 58) rfl), rfl⟩
theorem tw_360 : (Cond.selects "CommitSitesModel" yX4_link yX4_link) ∈ lw_B := List.mem_filter.mpr ⟨it_tables_1_3 _ (List.mem_of_getElem? (i := 59) rfl), rfl⟩
theorem tw_361 : (Cond.code yX4_link cX4_link 4 (some .int)) ∈ lw_B := List.mem_filter.mpr ⟨it_tables_1_3 _ (List.mem_of_getElem? (i := 60) rfl), rfl⟩
theorem tw_362 : (Cond.methodLink "CommitSitesModel" 93 yX4_isSite) ∈ lw_B := List.mem_filter.mpr ⟨it_tables_1_3 _ (List.mem_of_getElem? (i := 61) rfl), rfl⟩
theorem tw_363 : (Cond.instanceMethod yX4_isSite) ∈ lw_B := List.mem_filter.mpr ⟨it_tables_1_3 _ (List.mem_of_getElem? (i := 63) rfl), rfl⟩
theorem tw_364 : (Cond.code yX4_isSite cX4_isSite 2 (some .boolean)) ∈ lw_B := List.mem_filter.mpr ⟨it_tables_1_3 _ (List.mem_of_getElem? (i := 64) rfl), rfl⟩
theorem tw_365 : (Cond.methodLink "CommitSitesLaw" 31 yX4_part) ∈ lw_B := List.mem_filter.mpr ⟨it_tables_1_3 _ (List.mem_of_getElem? (i := 65) rfl), rfl⟩
theorem tw_366 : (Cond.instanceMethod yX4_part) ∈ lw_B := List.mem_filter.mpr ⟨it_tables_1_3 _ (List.mem_of_getElem? (i := 66) rfl), rfl⟩
theorem tw_367 : (Cond.selects "CommitSitesModel" yX4_part yX4_part) ∈ lw_B := List.mem_filter.mpr ⟨it_tables_1_3 _ (List.mem_of_getElem? (i := 67) rfl), rfl⟩
theorem tw_368 : (Cond.code yX4_part cX4_part 6 (some .int)) ∈ lw_B := List.mem_filter.mpr ⟨it_tables_1_3 _ (List.mem_of_getElem? (i := 68) rfl), rfl⟩
theorem tw_369 : (Cond.methodLink "CommitSitesLaw" 35 yX4_patience) ∈ lw_B := List.mem_filter.mpr ⟨it_tables_1_3 _ (List.mem_of_getElem? (i := 69) rfl), rfl⟩
theorem tw_370 : (Cond.instanceMethod yX4_patience) ∈ lw_B := List.mem_filter.mpr ⟨it_tables_1_3 _ (List.mem_of_getElem? (i := 70) rfl), rfl⟩
theorem tw_371 : (Cond.selects "CommitSitesModel" yX4_patience yX4_patience) ∈ lw_B := List.mem_filter.mpr ⟨it_tables_1_3 _ (List.mem_of_getElem? (i := 71) rfl), rfl⟩
theorem tw_372 : (Cond.code yX4_patience cX4_patience 2 (some .int)) ∈ lw_B := List.mem_filter.mpr ⟨it_tables_1_3 _ (List.mem_of_getElem? (i := 72) rfl), rfl⟩
theorem tw_373 : (Cond.methodLink "CommitSitesLaw" 39 yX4_begin) ∈ lw_B := List.mem_filter.mpr ⟨it_tables_1_3 _ (List.mem_of_getElem? (i := 73) rfl), rfl⟩
theorem tw_374 : (Cond.instanceMethod yX4_begin) ∈ lw_B := List.mem_filter.mpr ⟨it_tables_1_3 _ (List.mem_of_getElem? (i := 74) rfl), rfl⟩
theorem tw_375 : (Cond.selects "CommitSitesModel" yX4_begin yX4_begin) ∈ lw_B := List.mem_filter.mpr ⟨it_tables_1_3 _ (List.mem_of_getElem? (i := 75) rfl), rfl⟩
theorem tw_376 : (Cond.code yX4_begin cX4_begin 4 (some .int)) ∈ lw_B := List.mem_filter.mpr ⟨it_tables_1_3 _ (List.mem_of_getElem? (i := 76) rfl), rfl⟩
theorem tw_377 : (Cond.methodLink "CommitSitesModel" 141 yX4_decide) ∈ lw_B := List.mem_filter.mpr ⟨it_tables_1_3 _ (List.mem_of_getElem? (i := 77) rfl), rfl⟩
theorem tw_378 : (Cond.instanceMethod yX4_decide) ∈ lw_B := List.mem_filter.mpr ⟨it_tables_1_3 _ (List.mem_of_getElem? (i := 79) rfl), rfl⟩
theorem tw_379 : (Cond.code yX4_decide cX4_decide 3 none) ∈ lw_B := List.mem_filter.mpr ⟨it_tables_1_3 _ (List.mem_of_getElem? (i := 80) rfl), rfl⟩
theorem tw_380 : (Cond.methodLink "CommitSitesModel" 116 yX4_become) ∈ lw_B := List.mem_filter.mpr ⟨it_tables_1_3 _ (List.mem_of_getElem? (i := 81) rfl), rfl⟩
theorem tw_381 : (Cond.instanceMethod yX4_become) ∈ lw_B := List.mem_filter.mpr ⟨it_tables_1_3 _ (List.mem_of_getElem? (i := 83) rfl), rfl⟩
theorem tw_382 : (Cond.code yX4_become cX4_become 3 none) ∈ lw_B := List.mem_filter.mpr ⟨it_tables_1_3 _ (List.mem_of_getElem? (i := 84) rfl), rfl⟩
theorem tw_383 : (Cond.methodLink "CommitSitesModel" 120 yX4_sendAll) ∈ lw_B := List.mem_filter.mpr ⟨it_tables_1_3 _ (List.mem_of_getElem? (i := 85) rfl), rfl⟩
theorem tw_384 : (Cond.instanceMethod yX4_sendAll) ∈ lw_B := List.mem_filter.mpr ⟨it_tables_1_3 _ (List.mem_of_getElem? (i := 87) rfl), rfl⟩
theorem tw_385 : (Cond.code yX4_sendAll cX4_sendAll 5 none) ∈ lw_B := List.mem_filter.mpr ⟨it_tables_1_3 _ (List.mem_of_getElem? (i := 88) rfl), rfl⟩
theorem tw_386 : (Cond.methodLink "CommitSitesModel" 112 yX4_send) ∈ lw_B := List.mem_filter.mpr ⟨it_tables_1_3 _ (List.mem_of_getElem? (i := 89) rfl), rfl⟩
theorem tw_387 : (Cond.instanceMethod yX4_send) ∈ lw_B := List.mem_filter.mpr ⟨it_tables_1_3 _ (List.mem_of_getElem? (i := 91) rfl), rfl⟩
theorem tw_388 : (Cond.code yX4_send cX4_send 7 none) ∈ lw_B := List.mem_filter.mpr ⟨it_tables_1_3 _ (List.mem_of_getElem? (i := 92) rfl), rfl⟩
theorem tw_389 : (Cond.methodLink "CommitSitesModel" 127 yX4_clearThere) ∈ lw_B := List.mem_filter.mpr ⟨it_tables_1_3 _ (List.mem_of_getElem? (i := 93) rfl), rfl⟩
theorem tw_390 : (Cond.instanceMethod yX4_clearThere) ∈ lw_B := List.mem_filter.mpr ⟨it_tables_1_3 _ (List.mem_of_getElem? (i := 95) rfl), rfl⟩
theorem tw_391 : (Cond.code yX4_clearThere cX4_clearThere 4 none) ∈ lw_B := List.mem_filter.mpr ⟨it_tables_1_3 _ (List.mem_of_getElem? (i := 96) rfl), rfl⟩
theorem tw_392 : (Cond.methodLink "CommitSitesModel" 130 yX4_setTimer) ∈ lw_B := List.mem_filter.mpr ⟨it_tables_1_3 _ (List.mem_of_getElem? (i := 97) rfl), rfl⟩
theorem tw_393 : (Cond.instanceMethod yX4_setTimer) ∈ lw_B := List.mem_filter.mpr ⟨it_tables_1_3 _ (List.mem_of_getElem? (i := 99) rfl), rfl⟩
theorem tw_394 : (Cond.code yX4_setTimer cX4_setTimer 3 none) ∈ lw_B := List.mem_filter.mpr ⟨it_tables_1_3 _ (List.mem_of_getElem? (i := 100) rfl), rfl⟩
theorem tw_395 : (Cond.methodLink "CommitSitesModel" 144 yX4_checkVotes) ∈ lw_B := List.mem_filter.mpr ⟨it_tables_1_3 _ (List.mem_of_getElem? (i := 101) rfl), rfl⟩
theorem tw_396 : (Cond.instanceMethod yX4_checkVotes) ∈ lw_B := List.mem_filter.mpr ⟨it_tables_1_3 _ (List.mem_of_getElem? (i := 103) rfl), rfl⟩
theorem tw_397 : (Cond.code yX4_checkVotes cX4_checkVotes 4 none) ∈ lw_B := List.mem_filter.mpr ⟨it_tables_1_3 _ (List.mem_of_getElem? (i := 104) rfl), rfl⟩
theorem tw_398 : (Cond.methodLink "CommitSitesModel" 124 yX4_lead) ∈ lw_B := List.mem_filter.mpr ⟨it_tables_1_3 _ (List.mem_of_getElem? (i := 105) rfl), rfl⟩
theorem tw_399 : (Cond.instanceMethod yX4_lead) ∈ lw_B := List.mem_filter.mpr ⟨it_tables_1_3 _ (List.mem_of_getElem? (i := 107) rfl), rfl⟩
theorem tw_400 : (Cond.code yX4_lead cX4_lead 3 none) ∈ lw_B := List.mem_filter.mpr ⟨it_tables_1_3 _ (List.mem_of_getElem? (i := 108) rfl), rfl⟩
theorem tw_401 : (Cond.methodLink "CommitSitesModel" 133 yX4_checkQuorum) ∈ lw_B := List.mem_filter.mpr ⟨it_tables_1_3 _ (List.mem_of_getElem? (i := 109) rfl), rfl⟩
theorem tw_402 : (Cond.instanceMethod yX4_checkQuorum) ∈ lw_B := List.mem_filter.mpr ⟨it_tables_1_3 _ (List.mem_of_getElem? (i := 111) rfl), rfl⟩
theorem tw_403 : (Cond.code yX4_checkQuorum cX4_checkQuorum 3 none) ∈ lw_B := List.mem_filter.mpr ⟨it_tables_1_3 _ (List.mem_of_getElem? (i := 112) rfl), rfl⟩
theorem tw_404 : (Cond.methodLink "CommitSitesModel" 137 yX4_weightThere) ∈ lw_B := List.mem_filter.mpr ⟨it_tables_1_3 _ (List.mem_of_getElem? (i := 113) rfl), rfl⟩
theorem tw_405 : (Cond.instanceMethod yX4_weightThere) ∈ lw_B := List.mem_filter.mpr ⟨it_tables_1_3 _ (List.mem_of_getElem? (i := 115) rfl), rfl⟩
theorem tw_406 : (Cond.code yX4_weightThere cX4_weightThere 4 (some .int)) ∈ lw_B := List.mem_filter.mpr ⟨it_tables_1_3 _ (List.mem_of_getElem? (i := 116) rfl), rfl⟩
theorem tw_407 : (Cond.methodLink "CommitSitesLaw" 43 yX4_crash) ∈ lw_B := List.mem_filter.mpr ⟨it_tables_1_3 _ (List.mem_of_getElem? (i := 117) rfl), rfl⟩
theorem tw_408 : (Cond.instanceMethod yX4_crash) ∈ lw_B := List.mem_filter.mpr ⟨it_tables_1_3 _ (List.mem_of_getElem? (i := 118) rfl), rfl⟩
theorem tw_409 : (Cond.selects "CommitSitesModel" yX4_crash yX4_crash) ∈ lw_B := List.mem_filter.mpr ⟨it_tables_1_3 _ (List.mem_of_getElem? (i := 119) rfl), rfl⟩
theorem tw_410 : (Cond.code yX4_crash cX4_crash 2 (some .int)) ∈ lw_B := List.mem_filter.mpr ⟨it_tables_1_3 _ (List.mem_of_getElem? (i := 120) rfl), rfl⟩
theorem tw_411 : (Cond.methodLink "CommitSitesLaw" 47 yX4_recover) ∈ lw_B := List.mem_filter.mpr ⟨it_tables_1_3 _ (List.mem_of_getElem? (i := 121) rfl), rfl⟩
theorem tw_412 : (Cond.instanceMethod yX4_recover) ∈ lw_B := List.mem_filter.mpr ⟨it_tables_1_3 _ (List.mem_of_getElem? (i := 122) rfl), rfl⟩
theorem tw_413 : (Cond.selects "CommitSitesModel" yX4_recover yX4_recover) ∈ lw_B := List.mem_filter.mpr ⟨it_tables_1_3 _ (List.mem_of_getElem? (i := 123) rfl), rfl⟩
theorem tw_414 : (Cond.code yX4_recover cX4_recover 2 (some .int)) ∈ lw_B := List.mem_filter.mpr ⟨it_tables_1_3 _ (List.mem_of_getElem? (i := 124) rfl), rfl⟩
theorem tw_415 : (Cond.methodLink "CommitSitesModel" 147 yX4_isDecided) ∈ lw_B := List.mem_filter.mpr ⟨it_tables_1_3 _ (List.mem_of_getElem? (i := 125) rfl), rfl⟩
theorem tw_416 : (Cond.instanceMethod yX4_isDecided) ∈ lw_B := List.mem_filter.mpr ⟨it_tables_1_3 _ (List.mem_of_getElem? (i := 127) rfl), rfl⟩
theorem tw_417 : (Cond.code yX4_isDecided cX4_isDecided 2 (some .boolean)) ∈ lw_B := List.mem_filter.mpr ⟨it_tables_1_3 _ (List.mem_of_getElem? (i := 128) rfl), rfl⟩
theorem tw_418 : (Cond.methodLink "CommitSitesModel" 150 yX4_attempt) ∈ lw_B := List.mem_filter.mpr ⟨it_tables_1_3 _ (List.mem_of_getElem? (i := 129) rfl), rfl⟩
theorem tw_419 : (Cond.instanceMethod yX4_attempt) ∈ lw_B := List.mem_filter.mpr ⟨it_tables_1_3 _ (List.mem_of_getElem? (i := 131) rfl), rfl⟩
theorem tw_420 : (Cond.code yX4_attempt cX4_attempt 2 none) ∈ lw_B := List.mem_filter.mpr ⟨it_tables_1_3 _ (List.mem_of_getElem? (i := 132) rfl), rfl⟩
theorem tw_421 : (Cond.methodLink "CommitSitesLaw" 51 yX4_run) ∈ lw_B := List.mem_filter.mpr ⟨it_tables_1_3 _ (List.mem_of_getElem? (i := 133) rfl), rfl⟩
theorem tw_422 : (Cond.instanceMethod yX4_run) ∈ lw_B := List.mem_filter.mpr ⟨it_tables_1_3 _ (List.mem_of_getElem? (i := 134) rfl), rfl⟩
theorem tw_423 : (Cond.selects "CommitSitesModel" yX4_run yX4_run) ∈ lw_B := List.mem_filter.mpr ⟨it_tables_1_3 _ (List.mem_of_getElem? (i := 135) rfl), rfl⟩
theorem tw_424 : (Cond.code yX4_run cX4_run 4 (some .int)) ∈ lw_B := List.mem_filter.mpr ⟨it_tables_1_3 _ (List.mem_of_getElem? (i := 136) rfl), rfl⟩
theorem tw_425 : (Cond.methodLink "CommitSitesModel" 185 yX4_findNext) ∈ lw_B := List.mem_filter.mpr ⟨it_tables_1_3 _ (List.mem_of_getElem? (i := 137) rfl), rfl⟩
theorem tw_426 : (Cond.instanceMethod yX4_findNext) ∈ lw_B := List.mem_filter.mpr ⟨it_tables_1_3 _ (List.mem_of_getElem? (i := 139) rfl), rfl⟩
theorem tw_427 : (Cond.code yX4_findNext cX4_findNext 4 none) ∈ lw_B := List.mem_filter.mpr ⟨it_tables_1_3 _ (List.mem_of_getElem? (i := 140) rfl), rfl⟩
theorem tw_428 : (Cond.methodLink "CommitSitesModel" 188 yX4_take) ∈ lw_B := List.mem_filter.mpr ⟨it_tables_1_3 _ (List.mem_of_getElem? (i := 141) rfl), rfl⟩
theorem tw_429 : (Cond.instanceMethod yX4_take) ∈ lw_B := List.mem_filter.mpr ⟨it_tables_1_3 _ (List.mem_of_getElem? (i := 143) rfl), rfl⟩
theorem tw_430 : (Cond.code yX4_take cX4_take 7 (some .boolean)) ∈ lw_B := List.mem_filter.mpr ⟨it_tables_1_3 _ (List.mem_of_getElem? (i := 144) rfl), rfl⟩
theorem tw_431 : (Cond.methodLink "CommitSitesModel" 173 yX4_tell) ∈ lw_B := List.mem_filter.mpr ⟨it_tables_1_3 _ (List.mem_of_getElem? (i := 145) rfl), rfl⟩
theorem tw_432 : (Cond.instanceMethod yX4_tell) ∈ lw_B := List.mem_filter.mpr ⟨it_tables_1_3 _ (List.mem_of_getElem? (i := 147) rfl), rfl⟩
theorem tw_433 : (Cond.code yX4_tell cX4_tell 6 none) ∈ lw_B := List.mem_filter.mpr ⟨it_tables_1_3 _ (List.mem_of_getElem? (i := 148) rfl), rfl⟩
theorem tw_434 : (Cond.methodLink "CommitSitesModel" 176 yX4_ring) ∈ lw_B := List.mem_filter.mpr ⟨it_tables_1_3 _ (List.mem_of_getElem? (i := 149) rfl), rfl⟩
theorem tw_435 : (Cond.instanceMethod yX4_ring) ∈ lw_B := List.mem_filter.mpr ⟨it_tables_1_3 _ (List.mem_of_getElem? (i := 151) rfl), rfl⟩
theorem tw_436 : (Cond.code yX4_ring cX4_ring 4 none) ∈ lw_B := List.mem_filter.mpr ⟨it_tables_1_3 _ (List.mem_of_getElem? (i := 152) rfl), rfl⟩
theorem tw_437 : (Cond.methodLink "CommitSitesModel" 160 yX4_weightOf) ∈ lw_B := List.mem_filter.mpr ⟨it_tables_1_3 _ (List.mem_of_getElem? (i := 153) rfl), rfl⟩
theorem tw_438 : (Cond.instanceMethod yX4_weightOf) ∈ lw_B := List.mem_filter.mpr ⟨it_tables_1_3 _ (List.mem_of_getElem? (i := 155) rfl), rfl⟩
theorem tw_439 : (Cond.code yX4_weightOf cX4_weightOf 6 (some .int)) ∈ lw_B := List.mem_filter.mpr ⟨it_tables_1_3 _ (List.mem_of_getElem? (i := 156) rfl), rfl⟩
theorem tw_440 : (Cond.methodLink "CommitSitesModel" 182 yX4_handle) ∈ lw_B := List.mem_filter.mpr ⟨it_tables_1_3 _ (List.mem_of_getElem? (i := 157) rfl), rfl⟩
theorem tw_441 : (Cond.instanceMethod yX4_handle) ∈ lw_B := List.mem_filter.mpr ⟨it_tables_1_3 _ (List.mem_of_getElem? (i := 159) rfl), rfl⟩
theorem tw_442 : (Cond.code yX4_handle cX4_handle 6 none) ∈ lw_B := List.mem_filter.mpr ⟨it_tables_1_3 _ (List.mem_of_getElem? (i := 160) rfl), rfl⟩
theorem tw_443 : (Cond.methodLink "CommitSitesModel" 153 yX4_yieldTo) ∈ lw_B := List.mem_filter.mpr ⟨it_tables_1_3 _ (List.mem_of_getElem? (i := 161) rfl), rfl⟩
theorem tw_444 : (Cond.instanceMethod yX4_yieldTo) ∈ lw_B := List.mem_filter.mpr ⟨it_tables_1_3 _ (List.mem_of_getElem? (i := 163) rfl), rfl⟩
theorem tw_445 : (Cond.code yX4_yieldTo cX4_yieldTo 4 none) ∈ lw_B := List.mem_filter.mpr ⟨it_tables_1_3 _ (List.mem_of_getElem? (i := 164) rfl), rfl⟩
theorem tw_446 : (Cond.methodLink "CommitSitesModel" 156 yX4_prepare) ∈ lw_B := List.mem_filter.mpr ⟨it_tables_1_3 _ (List.mem_of_getElem? (i := 165) rfl), rfl⟩
theorem tw_447 : (Cond.instanceMethod yX4_prepare) ∈ lw_B := List.mem_filter.mpr ⟨it_tables_1_3 _ (List.mem_of_getElem? (i := 167) rfl), rfl⟩
theorem tw_448 : (Cond.code yX4_prepare cX4_prepare 5 none) ∈ lw_B := List.mem_filter.mpr ⟨it_tables_1_3 _ (List.mem_of_getElem? (i := 168) rfl), rfl⟩
theorem tw_449 : (Cond.methodLink "CommitSitesLaw" 56 yX4_step) ∈ lw_B := List.mem_filter.mpr ⟨it_tables_1_3 _ (List.mem_of_getElem? (i := 169) rfl), rfl⟩
theorem tw_450 : (Cond.instanceMethod yX4_step) ∈ lw_B := List.mem_filter.mpr ⟨it_tables_1_3 _ (List.mem_of_getElem? (i := 170) rfl), rfl⟩
theorem tw_451 : (Cond.selects "CommitSitesModel" yX4_step yX4_step) ∈ lw_B := List.mem_filter.mpr ⟨it_tables_1_3 _ (List.mem_of_getElem? (i := 171) rfl), rfl⟩
theorem tw_452 : (Cond.code yX4_step cX4_step 1 (some .int)) ∈ lw_B := List.mem_filter.mpr ⟨it_tables_1_3 _ (List.mem_of_getElem? (i := 172) rfl), rfl⟩
theorem tw_453 : (Cond.methodLink "CommitSitesLaw" 60 yX4_reset) ∈ lw_B := List.mem_filter.mpr ⟨it_tables_1_3 _ (List.mem_of_getElem? (i := 173) rfl), rfl⟩
theorem tw_454 : (Cond.instanceMethod yX4_reset) ∈ lw_B := List.mem_filter.mpr ⟨it_tables_1_3 _ (List.mem_of_getElem? (i := 174) rfl), rfl⟩
theorem tw_455 : (Cond.selects "CommitSitesModel" yX4_reset yX4_reset) ∈ lw_B := List.mem_filter.mpr ⟨it_tables_1_3 _ (List.mem_of_getElem? (i := 175) rfl), rfl⟩
theorem tw_456 : (Cond.code yX4_reset cX4_reset 2 (some .int)) ∈ lw_B := List.mem_filter.mpr ⟨it_tables_1_3 _ (List.mem_of_getElem? (i := 176) rfl), rfl⟩
theorem tw_457 : (Cond.methodLink "CommitSitesLaw" 64 yX4_of) ∈ lw_B := List.mem_filter.mpr ⟨it_tables_1_3 _ (List.mem_of_getElem? (i := 177) rfl), rfl⟩
theorem tw_458 : (Cond.instanceMethod yX4_of) ∈ lw_B := List.mem_filter.mpr ⟨it_tables_1_3 _ (List.mem_of_getElem? (i := 178) rfl), rfl⟩
theorem tw_459 : (Cond.selects "CommitSitesModel" yX4_of yX4_of) ∈ lw_B := List.mem_filter.mpr ⟨it_tables_1_3 _ (List.mem_of_getElem? (i := 179) rfl), rfl⟩
theorem tw_460 : (Cond.code yX4_of cX4_of 3 (some .int)) ∈ lw_B := List.mem_filter.mpr ⟨it_tables_1_3 _ (List.mem_of_getElem? (i := 180) rfl), rfl⟩
theorem tw_461 : (Cond.methodLink "CommitSitesLaw" 68 yX4_count) ∈ lw_B := List.mem_filter.mpr ⟨it_tables_1_3 _ (List.mem_of_getElem? (i := 181) rfl), rfl⟩
theorem tw_462 : (Cond.instanceMethod yX4_count) ∈ lw_B := List.mem_filter.mpr ⟨it_tables_1_3 _ (List.mem_of_getElem? (i := 182) rfl), rfl⟩
theorem tw_463 : (Cond.selects "CommitSitesModel" yX4_count yX4_count) ∈ lw_B := List.mem_filter.mpr ⟨it_tables_1_3 _ (List.mem_of_getElem? (i := 183) rfl), rfl⟩
theorem tw_464 : (Cond.code yX4_count cX4_count 2 (some .int)) ∈ lw_B := List.mem_filter.mpr ⟨it_tables_1_3 _ (List.mem_of_getElem? (i := 184) rfl), rfl⟩
theorem tw_465 : (Cond.methodLink "CommitSitesLaw" 72 yX4_delay) ∈ lw_B := List.mem_filter.mpr ⟨it_tables_1_3 _ (List.mem_of_getElem? (i := 185) rfl), rfl⟩
theorem tw_466 : (Cond.instanceMethod yX4_delay) ∈ lw_B := List.mem_filter.mpr ⟨it_tables_1_3 _ (List.mem_of_getElem? (i := 186) rfl), rfl⟩
theorem tw_467 : (Cond.selects "CommitSitesModel" yX4_delay yX4_delay) ∈ lw_B := List.mem_filter.mpr ⟨it_tables_1_3 _ (List.mem_of_getElem? (i := 187) rfl), rfl⟩
theorem tw_468 : (Cond.code yX4_delay cX4_delay 3 (some .int)) ∈ lw_B := List.mem_filter.mpr ⟨it_tables_1_3 _ (List.mem_of_getElem? (i := 188) rfl), rfl⟩
theorem tw_469 : (Cond.methodLink "CommitSitesLaw" 76 yX4_weight) ∈ lw_B := List.mem_filter.mpr ⟨it_tables_1_3 _ (List.mem_of_getElem? (i := 189) rfl), rfl⟩
theorem tw_470 : (Cond.instanceMethod yX4_weight) ∈ lw_B := List.mem_filter.mpr ⟨it_tables_1_3 _ (List.mem_of_getElem? (i := 190) rfl), rfl⟩
theorem tw_471 : (Cond.selects "CommitSitesModel" yX4_weight yX4_weight) ∈ lw_B := List.mem_filter.mpr ⟨it_tables_1_3 _ (List.mem_of_getElem? (i := 191) rfl), rfl⟩
theorem tw_472 : (Cond.code yX4_weight cX4_weight 4 (some .int)) ∈ lw_B := List.mem_filter.mpr ⟨it_tables_1_3 _ (List.mem_of_getElem? (i := 192) rfl), rfl⟩
theorem tw_473 : (Cond.methodLink "CommitSitesLaw" 80 yX4_latest) ∈ lw_B := List.mem_filter.mpr ⟨it_tables_1_3 _ (List.mem_of_getElem? (i := 193) rfl), rfl⟩
theorem tw_474 : (Cond.instanceMethod yX4_latest) ∈ lw_B := List.mem_filter.mpr ⟨it_tables_1_3 _ (List.mem_of_getElem? (i := 194) rfl), rfl⟩
theorem tw_475 : (Cond.selects "CommitSitesModel" yX4_latest yX4_latest) ∈ lw_B := List.mem_filter.mpr ⟨it_tables_1_3 _ (List.mem_of_getElem? (i := 195) rfl), rfl⟩
theorem tw_476 : (Cond.code yX4_latest cX4_latest 2 (some .int)) ∈ lw_B := List.mem_filter.mpr ⟨it_tables_1_3 _ (List.mem_of_getElem? (i := 196) rfl), rfl⟩
theorem tw_477 : (Cond.methodLink "CommitSitesLaw" 84 yX4_check) ∈ lw_B := List.mem_filter.mpr ⟨it_tables_1_3 _ (List.mem_of_getElem? (i := 197) rfl), rfl⟩
theorem tw_478 : (Cond.instanceMethod yX4_check) ∈ lw_B := List.mem_filter.mpr ⟨it_tables_1_3 _ (List.mem_of_getElem? (i := 198) rfl), rfl⟩
theorem tw_479 : (Cond.selects "CommitSitesModel" yX4_check yX4_check) ∈ lw_B := List.mem_filter.mpr ⟨it_tables_1_3 _ (List.mem_of_getElem? (i := 199) rfl), rfl⟩
theorem tw_480 : (Cond.code yX4_check cX4_check 1 (some .int)) ∈ lw_B := List.mem_filter.mpr ⟨it_tables_1_3 _ (List.mem_of_getElem? (i := 200) rfl), rfl⟩
theorem tw_481 : (Cond.selects "CommitSites" yX3_shareQuorums yX3_shareQuorums) ∈ lw_B := List.mem_filter.mpr ⟨List.mem_append_left _ (List.mem_map.mpr ⟨(⟨"CommitSites", "shareQuorums", "()V"⟩, 12), (List.mem_append_left _ (List.mem_of_getElem? (i := 0) rfl)), rfl⟩), rfl⟩
theorem tw_482 : (Cond.selects "CommitSites" yX3_note yX3_note) ∈ lw_B := List.mem_filter.mpr ⟨List.mem_append_left _ (List.mem_map.mpr ⟨(⟨"CommitSites", "note", "(IIIII)V"⟩, 12), (List.mem_append_left _ (List.mem_of_getElem? (i := 1) rfl)), rfl⟩), rfl⟩
theorem tw_483 : (Cond.selects "CommitSites" yX3_isLink yX3_isLink) ∈ lw_B := List.mem_filter.mpr ⟨List.mem_append_left _ (List.mem_map.mpr ⟨(⟨"CommitSites", "isLink", "(II)Z"⟩, 12), (List.mem_append_left _ (List.mem_of_getElem? (i := 2) rfl)), rfl⟩), rfl⟩
theorem tw_484 : (Cond.selects "CommitSites" yX3_isSite yX3_isSite) ∈ lw_B := List.mem_filter.mpr ⟨List.mem_append_left _ (List.mem_map.mpr ⟨(⟨"CommitSites", "isSite", "(I)Z"⟩, 12), (List.mem_append_left _ (List.mem_of_getElem? (i := 3) rfl)), rfl⟩), rfl⟩
theorem tw_485 : (Cond.selects "CommitSites" yX3_askVotes yX3_askVotes) ∈ lw_B := List.mem_filter.mpr ⟨List.mem_append_left _ (List.mem_map.mpr ⟨(⟨"CommitSites", "askVotes", "(I)V"⟩, 12), (List.mem_append_left _ (List.mem_of_getElem? (i := 4) rfl)), rfl⟩), rfl⟩
theorem tw_486 : (Cond.selects "CommitSites" yX3_become yX3_become) ∈ lw_B := List.mem_filter.mpr ⟨List.mem_append_left _ (List.mem_map.mpr ⟨(⟨"CommitSites", "become", "(LCommitSites$Site;I)V"⟩, 12), (List.mem_append_left _ (List.mem_of_getElem? (i := 5) rfl)), rfl⟩), rfl⟩
theorem tw_487 : (Cond.selects "CommitSites" yX3_allBut yX3_allBut) ∈ lw_B := List.mem_filter.mpr ⟨List.mem_append_left _ (List.mem_map.mpr ⟨(⟨"CommitSites", "allBut", "(I)I"⟩, 12), (List.mem_append_left _ (List.mem_of_getElem? (i := 6) rfl)), rfl⟩), rfl⟩
theorem tw_488 : (Cond.selects "CommitSites" yX3_everyone yX3_everyone) ∈ lw_B := List.mem_filter.mpr ⟨List.mem_append_left _ (List.mem_map.mpr ⟨(⟨"CommitSites", "everyone", "()I"⟩, 12), (List.mem_append_left _ (List.mem_of_getElem? (i := 7) rfl)), rfl⟩), rfl⟩
theorem tw_489 : (Cond.selects "CommitSites" yX3_setTimer yX3_setTimer) ∈ lw_B := List.mem_filter.mpr ⟨List.mem_append_left _ (List.mem_map.mpr ⟨(⟨"CommitSites", "setTimer", "(LCommitSites$Site;I)V"⟩, 12), (List.mem_append_left _ (List.mem_of_getElem? (i := 8) rfl)), rfl⟩), rfl⟩
theorem tw_490 : (Cond.selects "CommitSites" yX3_lead yX3_lead) ∈ lw_B := List.mem_filter.mpr ⟨List.mem_append_left _ (List.mem_map.mpr ⟨(⟨"CommitSites", "lead", "(II)V"⟩, 12), (List.mem_append_left _ (List.mem_of_getElem? (i := 9) rfl)), rfl⟩), rfl⟩
theorem tw_491 : (Cond.selects "CommitSites" yX3_hasQuorum yX3_hasQuorum) ∈ lw_B := List.mem_filter.mpr ⟨List.mem_append_left _ (List.mem_map.mpr ⟨(⟨"CommitSites", "hasQuorum", "(LCommitSites$Site;)Z"⟩, 12), (List.mem_append_left _ (List.mem_of_getElem? (i := 10) rfl)), rfl⟩), rfl⟩
theorem tw_492 : (Cond.selects "CommitSites" yX3_decide yX3_decide) ∈ lw_B := List.mem_filter.mpr ⟨List.mem_append_left _ (List.mem_map.mpr ⟨(⟨"CommitSites", "decide", "(II)V"⟩, 12), (List.mem_append_left _ (List.mem_of_getElem? (i := 11) rfl)), rfl⟩), rfl⟩
theorem tw_493 : (Cond.selects "CommitSites" yX3_attempt yX3_attempt) ∈ lw_B := List.mem_filter.mpr ⟨List.mem_append_left _ (List.mem_map.mpr ⟨(⟨"CommitSites", "attempt", "(I)V"⟩, 12), (List.mem_append_left _ (List.mem_of_getElem? (i := 12) rfl)), rfl⟩), rfl⟩
theorem tw_494 : (Cond.selects "CommitSites" yX3_takeNext yX3_takeNext) ∈ lw_B := List.mem_filter.mpr ⟨List.mem_append_left _ (List.mem_map.mpr ⟨(⟨"CommitSites", "takeNext", "(I)I"⟩, 12), (List.mem_append_left _ (List.mem_of_getElem? (i := 13) rfl)), rfl⟩), rfl⟩
theorem tw_495 : (Cond.selects "CommitSites" yX3_firstTimer yX3_firstTimer) ∈ lw_B := List.mem_filter.mpr ⟨List.mem_append_left _ (List.mem_map.mpr ⟨(⟨"CommitSites", "firstTimer", "()I"⟩, 12), (List.mem_append_left _ (List.mem_of_getElem? (i := 14) rfl)), rfl⟩), rfl⟩
theorem tw_496 : (Cond.selects "CommitSites" yX3_runOut yX3_runOut) ∈ lw_B := List.mem_filter.mpr ⟨List.mem_append_left _ (List.mem_map.mpr ⟨(⟨"CommitSites", "runOut", "(I)V"⟩, 12), (List.mem_append_left _ (List.mem_of_getElem? (i := 15) rfl)), rfl⟩), rfl⟩
theorem tw_497 : (Cond.selects "CommitSites" yX3_toldWeight yX3_toldWeight) ∈ lw_B := List.mem_filter.mpr ⟨List.mem_append_left _ (List.mem_map.mpr ⟨(⟨"CommitSites", "toldWeight", "(LCommitSites$Site;I)I"⟩, 12), (List.mem_append_right _ (List.mem_append_left _ (List.mem_of_getElem? (i := 0) rfl))), rfl⟩), rfl⟩
theorem tw_498 : (Cond.selects "CommitSites" yX3_receive yX3_receive) ∈ lw_B := List.mem_filter.mpr ⟨List.mem_append_left _ (List.mem_map.mpr ⟨(⟨"CommitSites", "receive", "(LCommitSites$Message;)V"⟩, 12), (List.mem_append_right _ (List.mem_append_left _ (List.mem_of_getElem? (i := 1) rfl))), rfl⟩), rfl⟩
theorem tw_499 : (Cond.selects "CommitSites" yX3_onAskVote yX3_onAskVote) ∈ lw_B := List.mem_filter.mpr ⟨List.mem_append_left _ (List.mem_map.mpr ⟨(⟨"CommitSites", "onAskVote", "(II)V"⟩, 12), (List.mem_append_right _ (List.mem_append_left _ (List.mem_of_getElem? (i := 2) rfl))), rfl⟩), rfl⟩
theorem tw_500 : (Cond.selects "CommitSites" yX3_onYes yX3_onYes) ∈ lw_B := List.mem_filter.mpr ⟨List.mem_append_left _ (List.mem_map.mpr ⟨(⟨"CommitSites", "onYes", "(II)V"⟩, 12), (List.mem_append_right _ (List.mem_append_left _ (List.mem_of_getElem? (i := 3) rfl))), rfl⟩), rfl⟩
theorem tw_501 : (Cond.selects "CommitSites" yX3_onNo yX3_onNo) ∈ lw_B := List.mem_filter.mpr ⟨List.mem_append_left _ (List.mem_map.mpr ⟨(⟨"CommitSites", "onNo", "(I)V"⟩, 12), (List.mem_append_right _ (List.mem_append_left _ (List.mem_of_getElem? (i := 4) rfl))), rfl⟩), rfl⟩
theorem tw_502 : (Cond.selects "CommitSites" yX3_onAskState yX3_onAskState) ∈ lw_B := List.mem_filter.mpr ⟨List.mem_append_left _ (List.mem_map.mpr ⟨(⟨"CommitSites", "onAskState", "(III)V"⟩, 12), (List.mem_append_right _ (List.mem_append_left _ (List.mem_of_getElem? (i := 5) rfl))), rfl⟩), rfl⟩
theorem tw_503 : (Cond.selects "CommitSites" yX3_yieldTo yX3_yieldTo) ∈ lw_B := List.mem_filter.mpr ⟨List.mem_append_left _ (List.mem_map.mpr ⟨(⟨"CommitSites", "yieldTo", "(II)V"⟩, 12), (List.mem_append_right _ (List.mem_append_left _ (List.mem_of_getElem? (i := 6) rfl))), rfl⟩), rfl⟩
theorem tw_504 : (Cond.selects "CommitSites" yX3_onState yX3_onState) ∈ lw_B := List.mem_filter.mpr ⟨List.mem_append_left _ (List.mem_map.mpr ⟨(⟨"CommitSites", "onState", "(IIII)V"⟩, 12), (List.mem_append_right _ (List.mem_append_left _ (List.mem_of_getElem? (i := 7) rfl))), rfl⟩), rfl⟩
theorem tw_505 : (Cond.selects "CommitSites" yX3_onAskReady yX3_onAskReady) ∈ lw_B := List.mem_filter.mpr ⟨List.mem_append_left _ (List.mem_map.mpr ⟨(⟨"CommitSites", "onAskReady", "(IIII)V"⟩, 12), (List.mem_append_right _ (List.mem_append_left _ (List.mem_of_getElem? (i := 8) rfl))), rfl⟩), rfl⟩
theorem tw_506 : (Cond.selects "CommitSites" yX3_onAcknowledge yX3_onAcknowledge) ∈ lw_B := List.mem_filter.mpr ⟨List.mem_append_left _ (List.mem_map.mpr ⟨(⟨"CommitSites", "onAcknowledge", "(III)V"⟩, 12), (List.mem_append_right _ (List.mem_append_left _ (List.mem_of_getElem? (i := 9) rfl))), rfl⟩), rfl⟩
theorem tw_507 : (Cond.selects "CommitSites" yX3_onDecision yX3_onDecision) ∈ lw_B := List.mem_filter.mpr ⟨List.mem_append_left _ (List.mem_map.mpr ⟨(⟨"CommitSites", "onDecision", "(II)V"⟩, 12), (List.mem_append_right _ (List.mem_append_left _ (List.mem_of_getElem? (i := 10) rfl))), rfl⟩), rfl⟩
theorem tw_508 : (Cond.selects "CommitSitesModel" yX4_all yX4_all) ∈ lw_B := List.mem_filter.mpr ⟨List.mem_append_left _ (List.mem_map.mpr ⟨(⟨"CommitSitesModel", "all", "()I"⟩, 34), (List.mem_append_right _ (List.mem_append_left _ (List.mem_of_getElem? (i := 11) rfl))), rfl⟩), rfl⟩
theorem tw_509 : (Cond.selects "CommitSitesModel" yX4_isSite yX4_isSite) ∈ lw_B := List.mem_filter.mpr ⟨List.mem_append_left _ (List.mem_map.mpr ⟨(⟨"CommitSitesModel", "isSite", "(I)Z"⟩, 34), (List.mem_append_right _ (List.mem_append_left _ (List.mem_of_getElem? (i := 12) rfl))), rfl⟩), rfl⟩
theorem tw_510 : (Cond.selects "CommitSitesModel" yX4_decide yX4_decide) ∈ lw_B := List.mem_filter.mpr ⟨List.mem_append_left _ (List.mem_map.mpr ⟨(⟨"CommitSitesModel", "decide", "(II)V"⟩, 34), (List.mem_append_right _ (List.mem_append_left _ (List.mem_of_getElem? (i := 13) rfl))), rfl⟩), rfl⟩
theorem tw_511 : (Cond.selects "CommitSitesModel" yX4_become yX4_become) ∈ lw_B := List.mem_filter.mpr ⟨List.mem_append_left _ (List.mem_map.mpr ⟨(⟨"CommitSitesModel", "become", "(II)V"⟩, 34), (List.mem_append_right _ (List.mem_append_left _ (List.mem_of_getElem? (i := 14) rfl))), rfl⟩), rfl⟩
theorem tw_512 : (Cond.selects "CommitSitesModel" yX4_sendAll yX4_sendAll) ∈ lw_B := List.mem_filter.mpr ⟨List.mem_append_left _ (List.mem_map.mpr ⟨(⟨"CommitSitesModel", "sendAll", "(III)V"⟩, 34), (List.mem_append_right _ (List.mem_append_left _ (List.mem_of_getElem? (i := 15) rfl))), rfl⟩), rfl⟩
theorem tw_513 : (Cond.selects "CommitSitesModel" yX4_send yX4_send) ∈ lw_B := List.mem_filter.mpr ⟨List.mem_append_left _ (List.mem_map.mpr ⟨(⟨"CommitSitesModel", "send", "(IIIII)V"⟩, 34), (List.mem_append_right _ (List.mem_append_right _ (List.mem_append_left _ (List.mem_of_getElem? (i := 0) rfl)))), rfl⟩), rfl⟩
theorem tw_514 : (Cond.selects "CommitSitesModel" yX4_clearThere yX4_clearThere) ∈ lw_B := List.mem_filter.mpr ⟨List.mem_append_left _ (List.mem_map.mpr ⟨(⟨"CommitSitesModel", "clearThere", "(II)V"⟩, 34), (List.mem_append_right _ (List.mem_append_right _ (List.mem_append_left _ (List.mem_of_getElem? (i := 1) rfl)))), rfl⟩), rfl⟩
theorem tw_515 : (Cond.selects "CommitSitesModel" yX4_setTimer yX4_setTimer) ∈ lw_B := List.mem_filter.mpr ⟨List.mem_append_left _ (List.mem_map.mpr ⟨(⟨"CommitSitesModel", "setTimer", "(II)V"⟩, 34), (List.mem_append_right _ (List.mem_append_right _ (List.mem_append_left _ (List.mem_of_getElem? (i := 2) rfl)))), rfl⟩), rfl⟩
theorem tw_516 : (Cond.selects "CommitSitesModel" yX4_checkVotes yX4_checkVotes) ∈ lw_B := List.mem_filter.mpr ⟨List.mem_append_left _ (List.mem_map.mpr ⟨(⟨"CommitSitesModel", "checkVotes", "(I)V"⟩, 34), (List.mem_append_right _ (List.mem_append_right _ (List.mem_append_left _ (List.mem_of_getElem? (i := 3) rfl)))), rfl⟩), rfl⟩
theorem tw_517 : (Cond.selects "CommitSitesModel" yX4_lead yX4_lead) ∈ lw_B := List.mem_filter.mpr ⟨List.mem_append_left _ (List.mem_map.mpr ⟨(⟨"CommitSitesModel", "lead", "(II)V"⟩, 34), (List.mem_append_right _ (List.mem_append_right _ (List.mem_append_left _ (List.mem_of_getElem? (i := 4) rfl)))), rfl⟩), rfl⟩
theorem tw_518 : (Cond.selects "CommitSitesModel" yX4_checkQuorum yX4_checkQuorum) ∈ lw_B := List.mem_filter.mpr ⟨List.mem_append_left _ (List.mem_map.mpr ⟨(⟨"CommitSitesModel", "checkQuorum", "(I)V"⟩, 34), (List.mem_append_right _ (List.mem_append_right _ (List.mem_append_left _ (List.mem_of_getElem? (i := 5) rfl)))), rfl⟩), rfl⟩
theorem tw_519 : (Cond.selects "CommitSitesModel" yX4_weightThere yX4_weightThere) ∈ lw_B := List.mem_filter.mpr ⟨List.mem_append_left _ (List.mem_map.mpr ⟨(⟨"CommitSitesModel", "weightThere", "(I)I"⟩, 34), (List.mem_append_right _ (List.mem_append_right _ (List.mem_append_left _ (List.mem_of_getElem? (i := 6) rfl)))), rfl⟩), rfl⟩
theorem tw_520 : (Cond.selects "CommitSitesModel" yX4_isDecided yX4_isDecided) ∈ lw_B := List.mem_filter.mpr ⟨List.mem_append_left _ (List.mem_map.mpr ⟨(⟨"CommitSitesModel", "isDecided", "(I)Z"⟩, 34), (List.mem_append_right _ (List.mem_append_right _ (List.mem_append_left _ (List.mem_of_getElem? (i := 7) rfl)))), rfl⟩), rfl⟩
theorem tw_521 : (Cond.selects "CommitSitesModel" yX4_attempt yX4_attempt) ∈ lw_B := List.mem_filter.mpr ⟨List.mem_append_left _ (List.mem_map.mpr ⟨(⟨"CommitSitesModel", "attempt", "(I)V"⟩, 34), (List.mem_append_right _ (List.mem_append_right _ (List.mem_append_left _ (List.mem_of_getElem? (i := 8) rfl)))), rfl⟩), rfl⟩
theorem tw_522 : (Cond.selects "CommitSitesModel" yX4_findNext yX4_findNext) ∈ lw_B := List.mem_filter.mpr ⟨List.mem_append_left _ (List.mem_map.mpr ⟨(⟨"CommitSitesModel", "findNext", "()V"⟩, 34), (List.mem_append_right _ (List.mem_append_right _ (List.mem_append_left _ (List.mem_of_getElem? (i := 9) rfl)))), rfl⟩), rfl⟩
theorem tw_523 : (Cond.selects "CommitSitesModel" yX4_take yX4_take) ∈ lw_B := List.mem_filter.mpr ⟨List.mem_append_left _ (List.mem_map.mpr ⟨(⟨"CommitSitesModel", "take", "()Z"⟩, 34), (List.mem_append_right _ (List.mem_append_right _ (List.mem_append_left _ (List.mem_of_getElem? (i := 10) rfl)))), rfl⟩), rfl⟩
theorem tw_524 : (Cond.selects "CommitSitesModel" yX4_tell yX4_tell) ∈ lw_B := List.mem_filter.mpr ⟨List.mem_append_left _ (List.mem_map.mpr ⟨(⟨"CommitSitesModel", "tell", "(IIIII)V"⟩, 34), (List.mem_append_right _ (List.mem_append_right _ (List.mem_append_left _ (List.mem_of_getElem? (i := 11) rfl)))), rfl⟩), rfl⟩
theorem tw_525 : (Cond.selects "CommitSitesModel" yX4_ring yX4_ring) ∈ lw_B := List.mem_filter.mpr ⟨List.mem_append_left _ (List.mem_map.mpr ⟨(⟨"CommitSitesModel", "ring", "(I)V"⟩, 34), (List.mem_append_right _ (List.mem_append_right _ (List.mem_append_left _ (List.mem_of_getElem? (i := 12) rfl)))), rfl⟩), rfl⟩
theorem tw_526 : (Cond.selects "CommitSitesModel" yX4_weightOf yX4_weightOf) ∈ lw_B := List.mem_filter.mpr ⟨List.mem_append_left _ (List.mem_map.mpr ⟨(⟨"CommitSitesModel", "weightOf", "(II)I"⟩, 34), (List.mem_append_right _ (List.mem_append_right _ (List.mem_append_left _ (List.mem_of_getElem? (i := 13) rfl)))), rfl⟩), rfl⟩
theorem tw_527 : (Cond.selects "CommitSitesModel" yX4_handle yX4_handle) ∈ lw_B := List.mem_filter.mpr ⟨List.mem_append_left _ (List.mem_map.mpr ⟨(⟨"CommitSitesModel", "handle", "(IIIII)V"⟩, 34), (List.mem_append_right _ (List.mem_append_right _ (List.mem_append_left _ (List.mem_of_getElem? (i := 14) rfl)))), rfl⟩), rfl⟩
theorem tw_528 : (Cond.selects "CommitSitesModel" yX4_yieldTo yX4_yieldTo) ∈ lw_B := List.mem_filter.mpr ⟨List.mem_append_left _ (List.mem_map.mpr ⟨(⟨"CommitSitesModel", "yieldTo", "(II)V"⟩, 34), (List.mem_append_right _ (List.mem_append_right _ (List.mem_append_left _ (List.mem_of_getElem? (i := 15) rfl)))), rfl⟩), rfl⟩
theorem tw_529 : (Cond.selects "CommitSitesModel" yX4_prepare yX4_prepare) ∈ lw_B := List.mem_filter.mpr ⟨List.mem_append_left _ (List.mem_map.mpr ⟨(⟨"CommitSitesModel", "prepare", "(IIII)V"⟩, 34), (List.mem_append_right _ (List.mem_append_right _ (List.mem_append_right _ (List.mem_of_getElem? (i := 0) rfl)))), rfl⟩), rfl⟩
theorem tl_X0_0 : u_lay RX0 TX0 0 ∈ lw_B := List.mem_filter.mpr ⟨it_tables_1_1 _ (List.mem_of_getElem? (i := 236) rfl), rfl⟩
theorem tl_X0_1 : u_lay RX0 TX0 1 ∈ lw_B := List.mem_filter.mpr ⟨it_tables_1_1 _ (List.mem_of_getElem? (i := 238) rfl), rfl⟩
theorem tl_X0_2 : u_lay RX0 TX0 2 ∈ lw_B := List.mem_filter.mpr ⟨it_tables_1_2 _ (List.mem_of_getElem? (i := 0) rfl), rfl⟩
theorem tl_X0_3 : u_lay RX0 TX0 3 ∈ lw_B := List.mem_filter.mpr ⟨it_tables_1_2 _ (List.mem_of_getElem? (i := 2) rfl), rfl⟩
theorem tl_X0_4 : u_lay RX0 TX0 4 ∈ lw_B := List.mem_filter.mpr ⟨it_tables_1_2 _ (List.mem_of_getElem? (i := 4) rfl), rfl⟩
theorem tl_X0_5 : u_lay RX0 TX0 5 ∈ lw_B := List.mem_filter.mpr ⟨it_tables_1_2 _ (List.mem_of_getElem? (i := 6) rfl), rfl⟩
theorem tl_X0_6 : u_lay RX0 TX0 6 ∈ lw_B := List.mem_filter.mpr ⟨it_tables_1_2 _ (List.mem_of_getElem? (i := 8) rfl), rfl⟩
theorem tl_X0_7 : u_lay RX0 TX0 7 ∈ lw_B := List.mem_filter.mpr ⟨it_tables_1_2 _ (List.mem_of_getElem? (i := 10) rfl), rfl⟩
theorem tl_X0 : ∀ k, k < 8 → u_lay RX0 TX0 k ∈ lw_B := fun k hk => match k, hk with | 0, _ => tl_X0_0 | 1, _ => tl_X0_1 | 2, _ => tl_X0_2 | 3, _ => tl_X0_3 | 4, _ => tl_X0_4 | 5, _ => tl_X0_5 | 6, _ => tl_X0_6 | 7, _ => tl_X0_7 | n + 8, h => absurd h (by omega)
theorem in_X0 : ∀ w ∈ u_ws RX0 TX0 8, w ∈ lw_B := fun w h => by obtain ⟨k, hk, rfl⟩ := List.mem_map.mp h; exact tl_X0 k (List.mem_range.mp hk)
theorem tl_X1_0 : u_lay RX1 TX1 0 ∈ lw_B := List.mem_filter.mpr ⟨it_tables_1_1 _ (List.mem_of_getElem? (i := 40) rfl), rfl⟩
theorem tl_X1_1 : u_lay RX1 TX1 1 ∈ lw_B := List.mem_filter.mpr ⟨it_tables_1_1 _ (List.mem_of_getElem? (i := 42) rfl), rfl⟩
theorem tl_X1_2 : u_lay RX1 TX1 2 ∈ lw_B := List.mem_filter.mpr ⟨it_tables_1_1 _ (List.mem_of_getElem? (i := 44) rfl), rfl⟩
theorem tl_X1_3 : u_lay RX1 TX1 3 ∈ lw_B := List.mem_filter.mpr ⟨it_tables_1_1 _ (List.mem_of_getElem? (i := 46) rfl), rfl⟩
theorem tl_X1_4 : u_lay RX1 TX1 4 ∈ lw_B := List.mem_filter.mpr ⟨it_tables_1_1 _ (List.mem_of_getElem? (i := 48) rfl), rfl⟩
theorem tl_X1_5 : u_lay RX1 TX1 5 ∈ lw_B := List.mem_filter.mpr ⟨it_tables_1_1 _ (List.mem_of_getElem? (i := 50) rfl), rfl⟩
theorem tl_X1_6 : u_lay RX1 TX1 6 ∈ lw_B := List.mem_filter.mpr ⟨it_tables_1_1 _ (List.mem_of_getElem? (i := 52) rfl), rfl⟩
theorem tl_X1_7 : u_lay RX1 TX1 7 ∈ lw_B := List.mem_filter.mpr ⟨it_tables_1_1 _ (List.mem_of_getElem? (i := 54) rfl), rfl⟩
theorem tl_X1_8 : u_lay RX1 TX1 8 ∈ lw_B := List.mem_filter.mpr ⟨it_tables_1_1 _ (List.mem_of_getElem? (i := 56) rfl), rfl⟩
theorem tl_X1 : ∀ k, k < 9 → u_lay RX1 TX1 k ∈ lw_B := fun k hk => match k, hk with | 0, _ => tl_X1_0 | 1, _ => tl_X1_1 | 2, _ => tl_X1_2 | 3, _ => tl_X1_3 | 4, _ => tl_X1_4 | 5, _ => tl_X1_5 | 6, _ => tl_X1_6 | 7, _ => tl_X1_7 | 8, _ => tl_X1_8 | n + 9, h => absurd h (by omega)
theorem in_X1 : ∀ w ∈ u_ws RX1 TX1 9, w ∈ lw_B := fun w h => by obtain ⟨k, hk, rfl⟩ := List.mem_map.mp h; exact tl_X1 k (List.mem_range.mp hk)
theorem tl_X2_0 : u_lay RX2 TX2 0 ∈ lw_B := List.mem_filter.mpr ⟨it_tables_1_1 _ (List.mem_of_getElem? (i := 138) rfl), rfl⟩
theorem tl_X2_1 : u_lay RX2 TX2 1 ∈ lw_B := List.mem_filter.mpr ⟨it_tables_1_1 _ (List.mem_of_getElem? (i := 140) rfl), rfl⟩
theorem tl_X2_2 : u_lay RX2 TX2 2 ∈ lw_B := List.mem_filter.mpr ⟨it_tables_1_1 _ (List.mem_of_getElem? (i := 142) rfl), rfl⟩
theorem tl_X2_3 : u_lay RX2 TX2 3 ∈ lw_B := List.mem_filter.mpr ⟨it_tables_1_1 _ (List.mem_of_getElem? (i := 144) rfl), rfl⟩
theorem tl_X2_4 : u_lay RX2 TX2 4 ∈ lw_B := List.mem_filter.mpr ⟨it_tables_1_1 _ (List.mem_of_getElem? (i := 146) rfl), rfl⟩
theorem tl_X2_5 : u_lay RX2 TX2 5 ∈ lw_B := List.mem_filter.mpr ⟨it_tables_1_1 _ (List.mem_of_getElem? (i := 148) rfl), rfl⟩
theorem tl_X2_6 : u_lay RX2 TX2 6 ∈ lw_B := List.mem_filter.mpr ⟨it_tables_1_1 _ (List.mem_of_getElem? (i := 150) rfl), rfl⟩
theorem tl_X2_7 : u_lay RX2 TX2 7 ∈ lw_B := List.mem_filter.mpr ⟨it_tables_1_1 _ (List.mem_of_getElem? (i := 152) rfl), rfl⟩
theorem tl_X2_8 : u_lay RX2 TX2 8 ∈ lw_B := List.mem_filter.mpr ⟨it_tables_1_1 _ (List.mem_of_getElem? (i := 154) rfl), rfl⟩
theorem tl_X2_9 : u_lay RX2 TX2 9 ∈ lw_B := List.mem_filter.mpr ⟨it_tables_1_1 _ (List.mem_of_getElem? (i := 156) rfl), rfl⟩
theorem tl_X2 : ∀ k, k < 10 → u_lay RX2 TX2 k ∈ lw_B := fun k hk => match k, hk with | 0, _ => tl_X2_0 | 1, _ => tl_X2_1 | 2, _ => tl_X2_2 | 3, _ => tl_X2_3 | 4, _ => tl_X2_4 | 5, _ => tl_X2_5 | 6, _ => tl_X2_6 | 7, _ => tl_X2_7 | 8, _ => tl_X2_8 | 9, _ => tl_X2_9 | n + 10, h => absurd h (by omega)
theorem in_X2 : ∀ w ∈ u_ws RX2 TX2 10, w ∈ lw_B := fun w h => by obtain ⟨k, hk, rfl⟩ := List.mem_map.mp h; exact tl_X2 k (List.mem_range.mp hk)
theorem tl_X3_0 : u_lay RX3 TX3 0 ∈ lw_B := List.mem_filter.mpr ⟨it_tables_1_1 _ (List.mem_of_getElem? (i := 80) rfl), rfl⟩
theorem tl_X3_1 : u_lay RX3 TX3 1 ∈ lw_B := List.mem_filter.mpr ⟨it_tables_1_1 _ (List.mem_of_getElem? (i := 82) rfl), rfl⟩
theorem tl_X3_2 : u_lay RX3 TX3 2 ∈ lw_B := List.mem_filter.mpr ⟨it_tables_1_1 _ (List.mem_of_getElem? (i := 84) rfl), rfl⟩
theorem tl_X3_3 : u_lay RX3 TX3 3 ∈ lw_B := List.mem_filter.mpr ⟨it_tables_1_1 _ (List.mem_of_getElem? (i := 86) rfl), rfl⟩
theorem tl_X3_4 : u_lay RX3 TX3 4 ∈ lw_B := List.mem_filter.mpr ⟨it_tables_1_1 _ (List.mem_of_getElem? (i := 88) rfl), rfl⟩
theorem tl_X3_5 : u_lay RX3 TX3 5 ∈ lw_B := List.mem_filter.mpr ⟨it_tables_1_1 _ (List.mem_of_getElem? (i := 90) rfl), rfl⟩
theorem tl_X3_6 : u_lay RX3 TX3 6 ∈ lw_B := List.mem_filter.mpr ⟨it_tables_1_1 _ (List.mem_of_getElem? (i := 92) rfl), rfl⟩
theorem tl_X3_7 : u_lay RX3 TX3 7 ∈ lw_B := List.mem_filter.mpr ⟨it_tables_1_1 _ (List.mem_of_getElem? (i := 94) rfl), rfl⟩
theorem tl_X3_8 : u_lay RX3 TX3 8 ∈ lw_B := List.mem_filter.mpr ⟨it_tables_1_1 _ (List.mem_of_getElem? (i := 96) rfl), rfl⟩
theorem tl_X3_9 : u_lay RX3 TX3 9 ∈ lw_B := List.mem_filter.mpr ⟨it_tables_1_1 _ (List.mem_of_getElem? (i := 98) rfl), rfl⟩
theorem tl_X3_10 : u_lay RX3 TX3 10 ∈ lw_B := List.mem_filter.mpr ⟨it_tables_1_1 _ (List.mem_of_getElem? (i := 100) rfl), rfl⟩
theorem tl_X3_11 : u_lay RX3 TX3 11 ∈ lw_B := List.mem_filter.mpr ⟨it_tables_1_1 _ (List.mem_of_getElem? (i := 102) rfl), rfl⟩
theorem tl_X3 : ∀ k, k < 12 → u_lay RX3 TX3 k ∈ lw_B := fun k hk => match k, hk with | 0, _ => tl_X3_0 | 1, _ => tl_X3_1 | 2, _ => tl_X3_2 | 3, _ => tl_X3_3 | 4, _ => tl_X3_4 | 5, _ => tl_X3_5 | 6, _ => tl_X3_6 | 7, _ => tl_X3_7 | 8, _ => tl_X3_8 | 9, _ => tl_X3_9 | 10, _ => tl_X3_10 | 11, _ => tl_X3_11 | n + 12, h => absurd h (by omega)
theorem in_X3 : ∀ w ∈ u_ws RX3 TX3 12, w ∈ lw_B := fun w h => by obtain ⟨k, hk, rfl⟩ := List.mem_map.mp h; exact tl_X3 k (List.mem_range.mp hk)
theorem tl_X4_0 : u_lay RX4 TX4 0 ∈ lw_B := List.mem_filter.mpr ⟨it_tables_1_2 _ (List.mem_of_getElem? (i := 215) rfl), rfl⟩
theorem tl_X4_1 : u_lay RX4 TX4 1 ∈ lw_B := List.mem_filter.mpr ⟨it_tables_1_2 _ (List.mem_of_getElem? (i := 217) rfl), rfl⟩
theorem tl_X4_2 : u_lay RX4 TX4 2 ∈ lw_B := List.mem_filter.mpr ⟨it_tables_1_2 _ (List.mem_of_getElem? (i := 219) rfl), rfl⟩
theorem tl_X4_3 : u_lay RX4 TX4 3 ∈ lw_B := List.mem_filter.mpr ⟨it_tables_1_2 _ (List.mem_of_getElem? (i := 221) rfl), rfl⟩
theorem tl_X4_4 : u_lay RX4 TX4 4 ∈ lw_B := List.mem_filter.mpr ⟨it_tables_1_2 _ (List.mem_of_getElem? (i := 223) rfl), rfl⟩
theorem tl_X4_5 : u_lay RX4 TX4 5 ∈ lw_B := List.mem_filter.mpr ⟨it_tables_1_2 _ (List.mem_of_getElem? (i := 225) rfl), rfl⟩
theorem tl_X4_6 : u_lay RX4 TX4 6 ∈ lw_B := List.mem_filter.mpr ⟨it_tables_1_2 _ (List.mem_of_getElem? (i := 227) rfl), rfl⟩
theorem tl_X4_7 : u_lay RX4 TX4 7 ∈ lw_B := List.mem_filter.mpr ⟨it_tables_1_2 _ (List.mem_of_getElem? (i := 229) rfl), rfl⟩
theorem tl_X4_8 : u_lay RX4 TX4 8 ∈ lw_B := List.mem_filter.mpr ⟨it_tables_1_2 _ (List.mem_of_getElem? (i := 231) rfl), rfl⟩
theorem tl_X4_9 : u_lay RX4 TX4 9 ∈ lw_B := List.mem_filter.mpr ⟨it_tables_1_2 _ (List.mem_of_getElem? (i := 233) rfl), rfl⟩
theorem tl_X4_10 : u_lay RX4 TX4 10 ∈ lw_B := List.mem_filter.mpr ⟨it_tables_1_2 _ (List.mem_of_getElem? (i := 235) rfl), rfl⟩
theorem tl_X4_11 : u_lay RX4 TX4 11 ∈ lw_B := List.mem_filter.mpr ⟨it_tables_1_2 _ (List.mem_of_getElem? (i := 237) rfl), rfl⟩
theorem tl_X4_12 : u_lay RX4 TX4 12 ∈ lw_B := List.mem_filter.mpr ⟨it_tables_1_2 _ (List.mem_of_getElem? (i := 239) rfl), rfl⟩
theorem tl_X4_13 : u_lay RX4 TX4 13 ∈ lw_B := List.mem_filter.mpr ⟨it_tables_1_3 _ (List.mem_of_getElem? (i := 1) rfl), rfl⟩
theorem tl_X4_14 : u_lay RX4 TX4 14 ∈ lw_B := List.mem_filter.mpr ⟨it_tables_1_3 _ (List.mem_of_getElem? (i := 3) rfl), rfl⟩
theorem tl_X4_15 : u_lay RX4 TX4 15 ∈ lw_B := List.mem_filter.mpr ⟨it_tables_1_3 _ (List.mem_of_getElem? (i := 5) rfl), rfl⟩
theorem tl_X4_16 : u_lay RX4 TX4 16 ∈ lw_B := List.mem_filter.mpr ⟨it_tables_1_3 _ (List.mem_of_getElem? (i := 7) rfl), rfl⟩
theorem tl_X4_17 : u_lay RX4 TX4 17 ∈ lw_B := List.mem_filter.mpr ⟨it_tables_1_3 _ (List.mem_of_getElem? (i := 9) rfl), rfl⟩
theorem tl_X4_18 : u_lay RX4 TX4 18 ∈ lw_B := List.mem_filter.mpr ⟨it_tables_1_3 _ (List.mem_of_getElem? (i := 11) rfl), rfl⟩
theorem tl_X4_19 : u_lay RX4 TX4 19 ∈ lw_B := List.mem_filter.mpr ⟨it_tables_1_3 _ (List.mem_of_getElem? (i := 13) rfl), rfl⟩
theorem tl_X4_20 : u_lay RX4 TX4 20 ∈ lw_B := List.mem_filter.mpr ⟨it_tables_1_3 _ (List.mem_of_getElem? (i := 15) rfl), rfl⟩
theorem tl_X4_21 : u_lay RX4 TX4 21 ∈ lw_B := List.mem_filter.mpr ⟨it_tables_1_3 _ (List.mem_of_getElem? (i := 17) rfl), rfl⟩
theorem tl_X4_22 : u_lay RX4 TX4 22 ∈ lw_B := List.mem_filter.mpr ⟨it_tables_1_3 _ (List.mem_of_getElem? (i := 19) rfl), rfl⟩
theorem tl_X4_23 : u_lay RX4 TX4 23 ∈ lw_B := List.mem_filter.mpr ⟨it_tables_1_3 _ (List.mem_of_getElem? (i := 21) rfl), rfl⟩
theorem tl_X4_24 : u_lay RX4 TX4 24 ∈ lw_B := List.mem_filter.mpr ⟨it_tables_1_3 _ (List.mem_of_getElem? (i := 23) rfl), rfl⟩
theorem tl_X4_25 : u_lay RX4 TX4 25 ∈ lw_B := List.mem_filter.mpr ⟨it_tables_1_3 _ (List.mem_of_getElem? (i := 25) rfl), rfl⟩
theorem tl_X4_26 : u_lay RX4 TX4 26 ∈ lw_B := List.mem_filter.mpr ⟨it_tables_1_3 _ (List.mem_of_getElem? (i := 27) rfl), rfl⟩
theorem tl_X4_27 : u_lay RX4 TX4 27 ∈ lw_B := List.mem_filter.mpr ⟨it_tables_1_3 _ (List.mem_of_getElem? (i := 29) rfl), rfl⟩
theorem tl_X4_28 : u_lay RX4 TX4 28 ∈ lw_B := List.mem_filter.mpr ⟨it_tables_1_3 _ (List.mem_of_getElem? (i := 31) rfl), rfl⟩
theorem tl_X4_29 : u_lay RX4 TX4 29 ∈ lw_B := List.mem_filter.mpr ⟨it_tables_1_3 _ (List.mem_of_getElem? (i := 33) rfl), rfl⟩
theorem tl_X4_30 : u_lay RX4 TX4 30 ∈ lw_B := List.mem_filter.mpr ⟨it_tables_1_3 _ (List.mem_of_getElem? (i := 35) rfl), rfl⟩
theorem tl_X4_31 : u_lay RX4 TX4 31 ∈ lw_B := List.mem_filter.mpr ⟨it_tables_1_3 _ (List.mem_of_getElem? (i := 37) rfl), rfl⟩
theorem tl_X4_32 : u_lay RX4 TX4 32 ∈ lw_B := List.mem_filter.mpr ⟨it_tables_1_3 _ (List.mem_of_getElem? (i := 39) rfl), rfl⟩
theorem tl_X4_33 : u_lay RX4 TX4 33 ∈ lw_B := List.mem_filter.mpr ⟨it_tables_1_3 _ (List.mem_of_getElem? (i := 41) rfl), rfl⟩
theorem tl_X4 : ∀ k, k < 34 → u_lay RX4 TX4 k ∈ lw_B := fun k hk => match k, hk with | 0, _ => tl_X4_0 | 1, _ => tl_X4_1 | 2, _ => tl_X4_2 | 3, _ => tl_X4_3 | 4, _ => tl_X4_4 | 5, _ => tl_X4_5 | 6, _ => tl_X4_6 | 7, _ => tl_X4_7 | 8, _ => tl_X4_8 | 9, _ => tl_X4_9 | 10, _ => tl_X4_10 | 11, _ => tl_X4_11 | 12, _ => tl_X4_12 | 13, _ => tl_X4_13 | 14, _ => tl_X4_14 | 15, _ => tl_X4_15 | 16, _ => tl_X4_16 | 17, _ => tl_X4_17 | 18, _ => tl_X4_18 | 19, _ => tl_X4_19 | 20, _ => tl_X4_20 | 21, _ => tl_X4_21 | 22, _ => tl_X4_22 | 23, _ => tl_X4_23 | 24, _ => tl_X4_24 | 25, _ => tl_X4_25 | 26, _ => tl_X4_26 | 27, _ => tl_X4_27 | 28, _ => tl_X4_28 | 29, _ => tl_X4_29 | 30, _ => tl_X4_30 | 31, _ => tl_X4_31 | 32, _ => tl_X4_32 | 33, _ => tl_X4_33 | n + 34, h => absurd h (by omega)
theorem in_X4 : ∀ w ∈ u_ws RX4 TX4 34, w ∈ lw_B := fun w h => by obtain ⟨k, hk, rfl⟩ := List.mem_map.mp h; exact tl_X4 k (List.mem_range.mp hk)
theorem tw_in : ∀ w ∈ lw_B, w ∈ lw_tbl := fun w h => (List.mem_filter.mp h).1
theorem tw_good : ∀ w ∈ lw_B, (w.onTables && w.keeps) = true ∨ ∃ ty, w = .arrayClass ty := fun w h => good_of_word (List.mem_filter.mp h).2
theorem tw_V {c1 cn : Cond} {own C : String} {idx : Nat} {y : MethodName} (h1 : Cond.methodLink own idx y ∈ lw_B) (h2 : Cond.instanceMethod y ∈ lw_B) (h3 : Cond.selects C y y ∈ lw_B) (h4 : Cond.initialized C ∈ lw_B) (h5 : cn ∈ lw_B) : GoodIn (c1 :: lw_B) (wsV own idx C y (cn :: lw_B)) := by
  have key : ∀ w, w ∈ lw_B → w ∈ c1 :: lw_B ∧ ((w.onTables && w.keeps) = true ∨ ∃ ty, w = .arrayClass ty) := fun w h => ⟨List.mem_cons_of_mem _ h, tw_good w h⟩
  intro w hw
  rcases List.mem_append.mp hw with hw | hw
  · rcases List.mem_cons.mp hw with rfl | hw
    · exact key _ h1
    · rcases List.mem_cons.mp hw with rfl | hw
      · exact key _ h2
      · rcases List.mem_cons.mp hw with rfl | hw
        · exact key _ h3
        · rcases List.mem_cons.mp hw with rfl | hw
          · exact key _ h4
          · cases hw
  · rcases List.mem_cons.mp hw with rfl | hw
    · exact key _ h5
    · exact key _ hw
theorem tw_I {c1 cn : Cond} (h5 : cn ∈ lw_B) : GoodIn (c1 :: lw_B) (cn :: lw_B) := by
  intro w hw
  rcases List.mem_cons.mp hw with rfl | hw
  · exact ⟨List.mem_cons_of_mem _ h5, tw_good _ h5⟩
  · exact ⟨List.mem_cons_of_mem _ hw, tw_good _ hw⟩
theorem tw_S {c1 cn : Cond} {own : String} {idx : Nat} {y : MethodName} (h1 : Cond.methodLink own idx y ∈ lw_B) (h2 : Cond.static y ∈ lw_B) (h4 : Cond.initialized y.cls ∈ lw_B) (h5 : cn ∈ lw_B) : GoodIn (c1 :: lw_B) (va_wsS own idx y (cn :: lw_B)) := by
  have key : ∀ w, w ∈ lw_B → w ∈ c1 :: lw_B ∧ ((w.onTables && w.keeps) = true ∨ ∃ ty, w = .arrayClass ty) := fun w h => ⟨List.mem_cons_of_mem _ h, tw_good w h⟩
  intro w hw
  rcases List.mem_append.mp hw with hw | hw
  · rcases List.mem_cons.mp hw with rfl | hw
    · exact key _ h1
    · rcases List.mem_cons.mp hw with rfl | hw
      · exact key _ h2
      · rcases List.mem_cons.mp hw with rfl | hw
        · exact key _ h4
        · cases hw
  · rcases List.mem_cons.mp hw with rfl | hw
    · exact key _ h5
    · exact key _ hw
end
section
theorem dX0_init_0 : decode cX0_init 0 = .ok (.aload_n 0, 1) := by decide +kernel
theorem dX0_init_1 : decode cX0_init 1 = .ok (.invokespecial 1, 3) := by decide +kernel
theorem dX0_init_4 : decode cX0_init 4 = .ok (.return_, 1) := by decide +kernel
theorem dX1_init_0 : decode cX1_init 0 = .ok (.aload_n 0, 1) := by decide +kernel
theorem dX1_init_1 : decode cX1_init 1 = .ok (.invokespecial 3, 3) := by decide +kernel
theorem dX1_init_4 : decode cX1_init 4 = .ok (.aload_n 0, 1) := by decide +kernel
theorem dX1_init_5 : decode cX1_init 5 = .ok (.bipush 8, 2) := by decide +kernel
theorem dX1_init_7 : decode cX1_init 7 = .ok (.bipush 8, 2) := by decide +kernel
theorem dX1_init_9 : decode cX1_init 9 = .ok (.multianewarray 9 2, 4) := by decide +kernel
theorem dX1_init_13 : decode cX1_init 13 = .ok (.putfield 11, 3) := by decide +kernel
theorem dX1_init_16 : decode cX1_init 16 = .ok (.aload_n 0, 1) := by decide +kernel
theorem dX1_init_17 : decode cX1_init 17 = .ok (.bipush 32, 2) := by decide +kernel
theorem dX1_init_19 : decode cX1_init 19 = .ok (.anewarray 16, 3) := by decide +kernel
theorem dX1_init_22 : decode cX1_init 22 = .ok (.putfield 18, 3) := by decide +kernel
theorem dX1_init_25 : decode cX1_init 25 = .ok (.aload_n 0, 1) := by decide +kernel
theorem dX1_init_26 : decode cX1_init 26 = .ok (.bipush 32, 2) := by decide +kernel
theorem dX1_init_28 : decode cX1_init 28 = .ok (.anewarray 16, 3) := by decide +kernel
theorem dX1_init_31 : decode cX1_init 31 = .ok (.putfield 22, 3) := by decide +kernel
theorem dX1_init_34 : decode cX1_init 34 = .ok (.iconst 0, 1) := by decide +kernel
theorem dX1_init_35 : decode cX1_init 35 = .ok (.istore_n 1, 1) := by decide +kernel
theorem dX1_init_36 : decode cX1_init 36 = .ok (.iload_n 1, 1) := by decide +kernel
theorem dX1_init_37 : decode cX1_init 37 = .ok (.bipush 8, 2) := by decide +kernel
theorem dX1_init_39 : decode cX1_init 39 = .ok (.if_icmp .ge 32, 3) := by decide +kernel
theorem dX1_init_42 : decode cX1_init 42 = .ok (.iconst 0, 1) := by decide +kernel
theorem dX1_init_43 : decode cX1_init 43 = .ok (.istore_n 2, 1) := by decide +kernel
theorem dX1_init_44 : decode cX1_init 44 = .ok (.iload_n 2, 1) := by decide +kernel
theorem dX1_init_45 : decode cX1_init 45 = .ok (.bipush 8, 2) := by decide +kernel
theorem dX1_init_47 : decode cX1_init 47 = .ok (.if_icmp .ge 18, 3) := by decide +kernel
theorem dX1_init_50 : decode cX1_init 50 = .ok (.aload_n 0, 1) := by decide +kernel
theorem dX1_init_51 : decode cX1_init 51 = .ok (.getfield 11, 3) := by decide +kernel
theorem dX1_init_54 : decode cX1_init 54 = .ok (.iload_n 1, 1) := by decide +kernel
theorem dX1_init_55 : decode cX1_init 55 = .ok (.aaload, 1) := by decide +kernel
theorem dX1_init_56 : decode cX1_init 56 = .ok (.iload_n 2, 1) := by decide +kernel
theorem dX1_init_57 : decode cX1_init 57 = .ok (.iconst 1, 1) := by decide +kernel
theorem dX1_init_58 : decode cX1_init 58 = .ok (.iastore, 1) := by decide +kernel
theorem dX1_init_59 : decode cX1_init 59 = .ok (.iinc 2 1, 3) := by decide +kernel
theorem dX1_init_62 : decode cX1_init 62 = .ok (.goto (-18), 3) := by decide +kernel
theorem dX1_init_65 : decode cX1_init 65 = .ok (.iinc 1 1, 3) := by decide +kernel
theorem dX1_init_68 : decode cX1_init 68 = .ok (.goto (-32), 3) := by decide +kernel
theorem dX1_init_71 : decode cX1_init 71 = .ok (.return_, 1) := by decide +kernel
theorem dX1_startAnew_0 : decode cX1_startAnew 0 = .ok (.iconst 0, 1) := by decide +kernel
theorem dX1_startAnew_1 : decode cX1_startAnew 1 = .ok (.istore_n 1, 1) := by decide +kernel
theorem dX1_startAnew_2 : decode cX1_startAnew 2 = .ok (.iload_n 1, 1) := by decide +kernel
theorem dX1_startAnew_3 : decode cX1_startAnew 3 = .ok (.bipush 32, 2) := by decide +kernel
theorem dX1_startAnew_5 : decode cX1_startAnew 5 = .ok (.if_icmp .ge 55, 3) := by decide +kernel
theorem dX1_startAnew_8 : decode cX1_startAnew 8 = .ok (.aload_n 0, 1) := by decide +kernel
theorem dX1_startAnew_9 : decode cX1_startAnew 9 = .ok (.getfield 22, 3) := by decide +kernel
theorem dX1_startAnew_12 : decode cX1_startAnew 12 = .ok (.iload_n 1, 1) := by decide +kernel
theorem dX1_startAnew_13 : decode cX1_startAnew 13 = .ok (.aaload, 1) := by decide +kernel
theorem dX1_startAnew_14 : decode cX1_startAnew 14 = .ok (.ifnull 26, 3) := by decide +kernel
theorem dX1_startAnew_17 : decode cX1_startAnew 17 = .ok (.aload_n 0, 1) := by decide +kernel
theorem dX1_startAnew_18 : decode cX1_startAnew 18 = .ok (.getfield 22, 3) := by decide +kernel
theorem dX1_startAnew_21 : decode cX1_startAnew 21 = .ok (.iload_n 1, 1) := by decide +kernel
theorem dX1_startAnew_22 : decode cX1_startAnew 22 = .ok (.aaload, 1) := by decide +kernel
theorem dX1_startAnew_23 : decode cX1_startAnew 23 = .ok (.aload_n 0, 1) := by decide +kernel
theorem dX1_startAnew_24 : decode cX1_startAnew 24 = .ok (.getfield 25, 3) := by decide +kernel
theorem dX1_startAnew_27 : decode cX1_startAnew 27 = .ok (.putfield 29, 3) := by decide +kernel
theorem dX1_startAnew_30 : decode cX1_startAnew 30 = .ok (.aload_n 0, 1) := by decide +kernel
theorem dX1_startAnew_31 : decode cX1_startAnew 31 = .ok (.aload_n 0, 1) := by decide +kernel
theorem dX1_startAnew_32 : decode cX1_startAnew 32 = .ok (.getfield 18, 3) := by decide +kernel
theorem dX1_startAnew_35 : decode cX1_startAnew 35 = .ok (.iload_n 1, 1) := by decide +kernel
theorem dX1_startAnew_36 : decode cX1_startAnew 36 = .ok (.aaload, 1) := by decide +kernel
theorem dX1_startAnew_37 : decode cX1_startAnew 37 = .ok (.putfield 25, 3) := by decide +kernel
theorem dX1_startAnew_40 : decode cX1_startAnew 40 = .ok (.aload_n 0, 1) := by decide +kernel
theorem dX1_startAnew_41 : decode cX1_startAnew 41 = .ok (.getfield 18, 3) := by decide +kernel
theorem dX1_startAnew_44 : decode cX1_startAnew 44 = .ok (.iload_n 1, 1) := by decide +kernel
theorem dX1_startAnew_45 : decode cX1_startAnew 45 = .ok (.aconst_null, 1) := by decide +kernel
theorem dX1_startAnew_46 : decode cX1_startAnew 46 = .ok (.aastore, 1) := by decide +kernel
theorem dX1_startAnew_47 : decode cX1_startAnew 47 = .ok (.aload_n 0, 1) := by decide +kernel
theorem dX1_startAnew_48 : decode cX1_startAnew 48 = .ok (.getfield 22, 3) := by decide +kernel
theorem dX1_startAnew_51 : decode cX1_startAnew 51 = .ok (.iload_n 1, 1) := by decide +kernel
theorem dX1_startAnew_52 : decode cX1_startAnew 52 = .ok (.aconst_null, 1) := by decide +kernel
theorem dX1_startAnew_53 : decode cX1_startAnew 53 = .ok (.aastore, 1) := by decide +kernel
theorem dX1_startAnew_54 : decode cX1_startAnew 54 = .ok (.iinc 1 1, 3) := by decide +kernel
theorem dX1_startAnew_57 : decode cX1_startAnew 57 = .ok (.goto (-55), 3) := by decide +kernel
theorem dX1_startAnew_60 : decode cX1_startAnew 60 = .ok (.aload_n 0, 1) := by decide +kernel
theorem dX1_startAnew_61 : decode cX1_startAnew 61 = .ok (.iconst 0, 1) := by decide +kernel
theorem dX1_startAnew_62 : decode cX1_startAnew 62 = .ok (.putfield 32, 3) := by decide +kernel
theorem dX1_startAnew_65 : decode cX1_startAnew 65 = .ok (.aload_n 0, 1) := by decide +kernel
theorem dX1_startAnew_66 : decode cX1_startAnew 66 = .ok (.iconst 0, 1) := by decide +kernel
theorem dX1_startAnew_67 : decode cX1_startAnew 67 = .ok (.putfield 36, 3) := by decide +kernel
theorem dX1_startAnew_70 : decode cX1_startAnew 70 = .ok (.aload_n 0, 1) := by decide +kernel
theorem dX1_startAnew_71 : decode cX1_startAnew 71 = .ok (.iconst 0, 1) := by decide +kernel
theorem dX1_startAnew_72 : decode cX1_startAnew 72 = .ok (.putfield 39, 3) := by decide +kernel
theorem dX1_startAnew_75 : decode cX1_startAnew 75 = .ok (.aload_n 0, 1) := by decide +kernel
theorem dX1_startAnew_76 : decode cX1_startAnew 76 = .ok (.iconst 0, 1) := by decide +kernel
theorem dX1_startAnew_77 : decode cX1_startAnew 77 = .ok (.putfield 42, 3) := by decide +kernel
theorem dX1_startAnew_80 : decode cX1_startAnew 80 = .ok (.aload_n 0, 1) := by decide +kernel
theorem dX1_startAnew_81 : decode cX1_startAnew 81 = .ok (.iconst 0, 1) := by decide +kernel
theorem dX1_startAnew_82 : decode cX1_startAnew 82 = .ok (.putfield 45, 3) := by decide +kernel
theorem dX1_startAnew_85 : decode cX1_startAnew 85 = .ok (.return_, 1) := by decide +kernel
theorem dX1_nextOrder_0 : decode cX1_nextOrder 0 = .ok (.aload_n 0, 1) := by decide +kernel
theorem dX1_nextOrder_1 : decode cX1_nextOrder 1 = .ok (.dup, 1) := by decide +kernel
theorem dX1_nextOrder_2 : decode cX1_nextOrder 2 = .ok (.getfield 36, 3) := by decide +kernel
theorem dX1_nextOrder_5 : decode cX1_nextOrder 5 = .ok (.dup_x1, 1) := by decide +kernel
theorem dX1_nextOrder_6 : decode cX1_nextOrder 6 = .ok (.iconst 1, 1) := by decide +kernel
theorem dX1_nextOrder_7 : decode cX1_nextOrder 7 = .ok (.iadd, 1) := by decide +kernel
theorem dX1_nextOrder_8 : decode cX1_nextOrder 8 = .ok (.putfield 36, 3) := by decide +kernel
theorem dX1_nextOrder_11 : decode cX1_nextOrder 11 = .ok (.ireturn, 1) := by decide +kernel
theorem dX1_send_0 : decode cX1_send 0 = .ok (.iconst 0, 1) := by decide +kernel
theorem dX1_send_1 : decode cX1_send 1 = .ok (.istore 6, 2) := by decide +kernel
theorem dX1_send_3 : decode cX1_send 3 = .ok (.iload 6, 2) := by decide +kernel
theorem dX1_send_5 : decode cX1_send 5 = .ok (.bipush 8, 2) := by decide +kernel
theorem dX1_send_7 : decode cX1_send 7 = .ok (.if_icmp .ge 137, 3) := by decide +kernel
theorem dX1_send_10 : decode cX1_send 10 = .ok (.iload_n 2, 1) := by decide +kernel
theorem dX1_send_11 : decode cX1_send 11 = .ok (.iload 6, 2) := by decide +kernel
theorem dX1_send_13 : decode cX1_send 13 = .ok (.invokestatic 48, 3) := by decide +kernel
theorem dX1_send_16 : decode cX1_send 16 = .ok (.ifCond .ne 6, 3) := by decide +kernel
theorem dX1_send_19 : decode cX1_send 19 = .ok (.goto 119, 3) := by decide +kernel
theorem dX1_send_22 : decode cX1_send 22 = .ok (.aload_n 0, 1) := by decide +kernel
theorem dX1_send_23 : decode cX1_send 23 = .ok (.dup, 1) := by decide +kernel
theorem dX1_send_24 : decode cX1_send 24 = .ok (.getfield 39, 3) := by decide +kernel
theorem dX1_send_27 : decode cX1_send 27 = .ok (.iconst 1, 1) := by decide +kernel
theorem dX1_send_28 : decode cX1_send 28 = .ok (.iadd, 1) := by decide +kernel
theorem dX1_send_29 : decode cX1_send 29 = .ok (.putfield 39, 3) := by decide +kernel
theorem dX1_send_32 : decode cX1_send 32 = .ok (.aload_n 0, 1) := by decide +kernel
theorem dX1_send_33 : decode cX1_send 33 = .ok (.getfield 11, 3) := by decide +kernel
theorem dX1_send_36 : decode cX1_send 36 = .ok (.iload_n 1, 1) := by decide +kernel
theorem dX1_send_37 : decode cX1_send 37 = .ok (.aaload, 1) := by decide +kernel
theorem dX1_send_38 : decode cX1_send 38 = .ok (.iload 6, 2) := by decide +kernel
theorem dX1_send_40 : decode cX1_send 40 = .ok (.iaload, 1) := by decide +kernel
theorem dX1_send_41 : decode cX1_send 41 = .ok (.ifCond .eq 13, 3) := by decide +kernel
theorem dX1_send_44 : decode cX1_send 44 = .ok (.aload_n 0, 1) := by decide +kernel
theorem dX1_send_45 : decode cX1_send 45 = .ok (.getfield 45, 3) := by decide +kernel
theorem dX1_send_48 : decode cX1_send 48 = .ok (.sipush 4096, 3) := by decide +kernel
theorem dX1_send_51 : decode cX1_send 51 = .ok (.if_icmp .lt 16, 3) := by decide +kernel
theorem dX1_send_54 : decode cX1_send 54 = .ok (.aload_n 0, 1) := by decide +kernel
theorem dX1_send_55 : decode cX1_send 55 = .ok (.dup, 1) := by decide +kernel
theorem dX1_send_56 : decode cX1_send 56 = .ok (.getfield 42, 3) := by decide +kernel
theorem dX1_send_59 : decode cX1_send 59 = .ok (.iconst 1, 1) := by decide +kernel
theorem dX1_send_60 : decode cX1_send 60 = .ok (.iadd, 1) := by decide +kernel
theorem dX1_send_61 : decode cX1_send 61 = .ok (.putfield 42, 3) := by decide +kernel
theorem dX1_send_64 : decode cX1_send 64 = .ok (.goto 74, 3) := by decide +kernel
theorem dX1_send_67 : decode cX1_send 67 = .ok (.aload_n 0, 1) := by decide +kernel
theorem dX1_send_68 : decode cX1_send 68 = .ok (.getfield 25, 3) := by decide +kernel
theorem dX1_send_71 : decode cX1_send 71 = .ok (.astore 7, 2) := by decide +kernel
theorem dX1_send_73 : decode cX1_send 73 = .ok (.aload 7, 2) := by decide +kernel
theorem dX1_send_75 : decode cX1_send 75 = .ok (.ifnonnull 15, 3) := by decide +kernel
theorem dX1_send_78 : decode cX1_send 78 = .ok (.new 16, 3) := by decide +kernel
theorem dX1_send_81 : decode cX1_send 81 = .ok (.dup, 1) := by decide +kernel
theorem dX1_send_82 : decode cX1_send 82 = .ok (.invokespecial 52, 3) := by decide +kernel
theorem dX1_send_85 : decode cX1_send 85 = .ok (.astore 7, 2) := by decide +kernel
theorem dX1_send_87 : decode cX1_send 87 = .ok (.goto 12, 3) := by decide +kernel
theorem dX1_send_90 : decode cX1_send 90 = .ok (.aload_n 0, 1) := by decide +kernel
theorem dX1_send_91 : decode cX1_send 91 = .ok (.aload 7, 2) := by decide +kernel
theorem dX1_send_93 : decode cX1_send 93 = .ok (.getfield 29, 3) := by decide +kernel
theorem dX1_send_96 : decode cX1_send 96 = .ok (.putfield 25, 3) := by decide +kernel
theorem dX1_send_99 : decode cX1_send 99 = .ok (.aload 7, 2) := by decide +kernel
theorem dX1_send_101 : decode cX1_send 101 = .ok (.iload_n 3, 1) := by decide +kernel
theorem dX1_send_102 : decode cX1_send 102 = .ok (.putfield 53, 3) := by decide +kernel
theorem dX1_send_105 : decode cX1_send 105 = .ok (.aload 7, 2) := by decide +kernel
theorem dX1_send_107 : decode cX1_send 107 = .ok (.iload_n 1, 1) := by decide +kernel
theorem dX1_send_108 : decode cX1_send 108 = .ok (.putfield 56, 3) := by decide +kernel
theorem dX1_send_111 : decode cX1_send 111 = .ok (.aload 7, 2) := by decide +kernel
theorem dX1_send_113 : decode cX1_send 113 = .ok (.iload 6, 2) := by decide +kernel
theorem dX1_send_115 : decode cX1_send 115 = .ok (.putfield 59, 3) := by decide +kernel
theorem dX1_send_118 : decode cX1_send 118 = .ok (.aload 7, 2) := by decide +kernel
theorem dX1_send_120 : decode cX1_send 120 = .ok (.iload 4, 2) := by decide +kernel
theorem dX1_send_122 : decode cX1_send 122 = .ok (.putfield 62, 3) := by decide +kernel
theorem dX1_send_125 : decode cX1_send 125 = .ok (.aload 7, 2) := by decide +kernel
theorem dX1_send_127 : decode cX1_send 127 = .ok (.iload 5, 2) := by decide +kernel
theorem dX1_send_129 : decode cX1_send 129 = .ok (.putfield 65, 3) := by decide +kernel
theorem dX1_send_132 : decode cX1_send 132 = .ok (.aload_n 0, 1) := by decide +kernel
theorem dX1_send_133 : decode cX1_send 133 = .ok (.aload 7, 2) := by decide +kernel
theorem dX1_send_135 : decode cX1_send 135 = .ok (.invokevirtual 68, 3) := by decide +kernel
theorem dX1_send_138 : decode cX1_send 138 = .ok (.iinc 6 1, 3) := by decide +kernel
theorem dX1_send_141 : decode cX1_send 141 = .ok (.goto (-138), 3) := by decide +kernel
theorem dX1_send_144 : decode cX1_send 144 = .ok (.return_, 1) := by decide +kernel
theorem dX1_putOn_0 : decode cX1_putOn 0 = .ok (.aload_n 1, 1) := by decide +kernel
theorem dX1_putOn_1 : decode cX1_putOn 1 = .ok (.aload_n 0, 1) := by decide +kernel
theorem dX1_putOn_2 : decode cX1_putOn 2 = .ok (.getfield 32, 3) := by decide +kernel
theorem dX1_putOn_5 : decode cX1_putOn 5 = .ok (.aload_n 0, 1) := by decide +kernel
theorem dX1_putOn_6 : decode cX1_putOn 6 = .ok (.getfield 11, 3) := by decide +kernel
theorem dX1_putOn_9 : decode cX1_putOn 9 = .ok (.aload_n 1, 1) := by decide +kernel
theorem dX1_putOn_10 : decode cX1_putOn 10 = .ok (.getfield 56, 3) := by decide +kernel
theorem dX1_putOn_13 : decode cX1_putOn 13 = .ok (.aaload, 1) := by decide +kernel
theorem dX1_putOn_14 : decode cX1_putOn 14 = .ok (.aload_n 1, 1) := by decide +kernel
theorem dX1_putOn_15 : decode cX1_putOn 15 = .ok (.getfield 59, 3) := by decide +kernel
theorem dX1_putOn_18 : decode cX1_putOn 18 = .ok (.iaload, 1) := by decide +kernel
theorem dX1_putOn_19 : decode cX1_putOn 19 = .ok (.iadd, 1) := by decide +kernel
theorem dX1_putOn_20 : decode cX1_putOn 20 = .ok (.putfield 72, 3) := by decide +kernel
theorem dX1_putOn_23 : decode cX1_putOn 23 = .ok (.aload_n 1, 1) := by decide +kernel
theorem dX1_putOn_24 : decode cX1_putOn 24 = .ok (.aload_n 0, 1) := by decide +kernel
theorem dX1_putOn_25 : decode cX1_putOn 25 = .ok (.dup, 1) := by decide +kernel
theorem dX1_putOn_26 : decode cX1_putOn 26 = .ok (.getfield 36, 3) := by decide +kernel
theorem dX1_putOn_29 : decode cX1_putOn 29 = .ok (.dup_x1, 1) := by decide +kernel
theorem dX1_putOn_30 : decode cX1_putOn 30 = .ok (.iconst 1, 1) := by decide +kernel
theorem dX1_putOn_31 : decode cX1_putOn 31 = .ok (.iadd, 1) := by decide +kernel
theorem dX1_putOn_32 : decode cX1_putOn 32 = .ok (.putfield 36, 3) := by decide +kernel
theorem dX1_putOn_35 : decode cX1_putOn 35 = .ok (.putfield 73, 3) := by decide +kernel
theorem dX1_putOn_38 : decode cX1_putOn 38 = .ok (.aload_n 1, 1) := by decide +kernel
theorem dX1_putOn_39 : decode cX1_putOn 39 = .ok (.aconst_null, 1) := by decide +kernel
theorem dX1_putOn_40 : decode cX1_putOn 40 = .ok (.putfield 29, 3) := by decide +kernel
theorem dX1_putOn_43 : decode cX1_putOn 43 = .ok (.aload_n 1, 1) := by decide +kernel
theorem dX1_putOn_44 : decode cX1_putOn 44 = .ok (.getfield 72, 3) := by decide +kernel
theorem dX1_putOn_47 : decode cX1_putOn 47 = .ok (.bipush 32, 2) := by decide +kernel
theorem dX1_putOn_49 : decode cX1_putOn 49 = .ok (.irem, 1) := by decide +kernel
theorem dX1_putOn_50 : decode cX1_putOn 50 = .ok (.istore_n 2, 1) := by decide +kernel
theorem dX1_putOn_51 : decode cX1_putOn 51 = .ok (.aload_n 0, 1) := by decide +kernel
theorem dX1_putOn_52 : decode cX1_putOn 52 = .ok (.getfield 22, 3) := by decide +kernel
theorem dX1_putOn_55 : decode cX1_putOn 55 = .ok (.iload_n 2, 1) := by decide +kernel
theorem dX1_putOn_56 : decode cX1_putOn 56 = .ok (.aaload, 1) := by decide +kernel
theorem dX1_putOn_57 : decode cX1_putOn 57 = .ok (.ifnonnull 13, 3) := by decide +kernel
theorem dX1_putOn_60 : decode cX1_putOn 60 = .ok (.aload_n 0, 1) := by decide +kernel
theorem dX1_putOn_61 : decode cX1_putOn 61 = .ok (.getfield 18, 3) := by decide +kernel
theorem dX1_putOn_64 : decode cX1_putOn 64 = .ok (.iload_n 2, 1) := by decide +kernel
theorem dX1_putOn_65 : decode cX1_putOn 65 = .ok (.aload_n 1, 1) := by decide +kernel
theorem dX1_putOn_66 : decode cX1_putOn 66 = .ok (.aastore, 1) := by decide +kernel
theorem dX1_putOn_67 : decode cX1_putOn 67 = .ok (.goto 13, 3) := by decide +kernel
theorem dX1_putOn_70 : decode cX1_putOn 70 = .ok (.aload_n 0, 1) := by decide +kernel
theorem dX1_putOn_71 : decode cX1_putOn 71 = .ok (.getfield 22, 3) := by decide +kernel
theorem dX1_putOn_74 : decode cX1_putOn 74 = .ok (.iload_n 2, 1) := by decide +kernel
theorem dX1_putOn_75 : decode cX1_putOn 75 = .ok (.aaload, 1) := by decide +kernel
theorem dX1_putOn_76 : decode cX1_putOn 76 = .ok (.aload_n 1, 1) := by decide +kernel
theorem dX1_putOn_77 : decode cX1_putOn 77 = .ok (.putfield 29, 3) := by decide +kernel
theorem dX1_putOn_80 : decode cX1_putOn 80 = .ok (.aload_n 0, 1) := by decide +kernel
theorem dX1_putOn_81 : decode cX1_putOn 81 = .ok (.getfield 22, 3) := by decide +kernel
theorem dX1_putOn_84 : decode cX1_putOn 84 = .ok (.iload_n 2, 1) := by decide +kernel
theorem dX1_putOn_85 : decode cX1_putOn 85 = .ok (.aload_n 1, 1) := by decide +kernel
theorem dX1_putOn_86 : decode cX1_putOn 86 = .ok (.aastore, 1) := by decide +kernel
theorem dX1_putOn_87 : decode cX1_putOn 87 = .ok (.aload_n 0, 1) := by decide +kernel
theorem dX1_putOn_88 : decode cX1_putOn 88 = .ok (.dup, 1) := by decide +kernel
theorem dX1_putOn_89 : decode cX1_putOn 89 = .ok (.getfield 45, 3) := by decide +kernel
theorem dX1_putOn_92 : decode cX1_putOn 92 = .ok (.iconst 1, 1) := by decide +kernel
theorem dX1_putOn_93 : decode cX1_putOn 93 = .ok (.iadd, 1) := by decide +kernel
theorem dX1_putOn_94 : decode cX1_putOn 94 = .ok (.putfield 45, 3) := by decide +kernel
theorem dX1_putOn_97 : decode cX1_putOn 97 = .ok (.return_, 1) := by decide +kernel
theorem dX1_first_0 : decode cX1_first 0 = .ok (.aload_n 0, 1) := by decide +kernel
theorem dX1_first_1 : decode cX1_first 1 = .ok (.getfield 45, 3) := by decide +kernel
theorem dX1_first_4 : decode cX1_first 4 = .ok (.ifCond .ne 5, 3) := by decide +kernel
theorem dX1_first_7 : decode cX1_first 7 = .ok (.aconst_null, 1) := by decide +kernel
theorem dX1_first_8 : decode cX1_first 8 = .ok (.areturn, 1) := by decide +kernel
theorem dX1_first_9 : decode cX1_first 9 = .ok (.aload_n 0, 1) := by decide +kernel
theorem dX1_first_10 : decode cX1_first 10 = .ok (.getfield 32, 3) := by decide +kernel
theorem dX1_first_13 : decode cX1_first 13 = .ok (.istore_n 1, 1) := by decide +kernel
theorem dX1_first_14 : decode cX1_first 14 = .ok (.iload_n 1, 1) := by decide +kernel
theorem dX1_first_15 : decode cX1_first 15 = .ok (.aload_n 0, 1) := by decide +kernel
theorem dX1_first_16 : decode cX1_first 16 = .ok (.getfield 32, 3) := by decide +kernel
theorem dX1_first_19 : decode cX1_first 19 = .ok (.bipush 20, 2) := by decide +kernel
theorem dX1_first_21 : decode cX1_first 21 = .ok (.iadd, 1) := by decide +kernel
theorem dX1_first_22 : decode cX1_first 22 = .ok (.if_icmp .gt 31, 3) := by decide +kernel
theorem dX1_first_25 : decode cX1_first 25 = .ok (.aload_n 0, 1) := by decide +kernel
theorem dX1_first_26 : decode cX1_first 26 = .ok (.getfield 18, 3) := by decide +kernel
theorem dX1_first_29 : decode cX1_first 29 = .ok (.iload_n 1, 1) := by decide +kernel
theorem dX1_first_30 : decode cX1_first 30 = .ok (.bipush 32, 2) := by decide +kernel
theorem dX1_first_32 : decode cX1_first 32 = .ok (.irem, 1) := by decide +kernel
theorem dX1_first_33 : decode cX1_first 33 = .ok (.aaload, 1) := by decide +kernel
theorem dX1_first_34 : decode cX1_first 34 = .ok (.ifnull 13, 3) := by decide +kernel
theorem dX1_first_37 : decode cX1_first 37 = .ok (.aload_n 0, 1) := by decide +kernel
theorem dX1_first_38 : decode cX1_first 38 = .ok (.getfield 18, 3) := by decide +kernel
theorem dX1_first_41 : decode cX1_first 41 = .ok (.iload_n 1, 1) := by decide +kernel
theorem dX1_first_42 : decode cX1_first 42 = .ok (.bipush 32, 2) := by decide +kernel
theorem dX1_first_44 : decode cX1_first 44 = .ok (.irem, 1) := by decide +kernel
theorem dX1_first_45 : decode cX1_first 45 = .ok (.aaload, 1) := by decide +kernel
theorem dX1_first_46 : decode cX1_first 46 = .ok (.areturn, 1) := by decide +kernel
theorem dX1_first_47 : decode cX1_first 47 = .ok (.iinc 1 1, 3) := by decide +kernel
theorem dX1_first_50 : decode cX1_first 50 = .ok (.goto (-36), 3) := by decide +kernel
theorem dX1_first_53 : decode cX1_first 53 = .ok (.aconst_null, 1) := by decide +kernel
theorem dX1_first_54 : decode cX1_first 54 = .ok (.areturn, 1) := by decide +kernel
theorem dX1_takeOff_0 : decode cX1_takeOff 0 = .ok (.aload_n 1, 1) := by decide +kernel
theorem dX1_takeOff_1 : decode cX1_takeOff 1 = .ok (.getfield 72, 3) := by decide +kernel
theorem dX1_takeOff_4 : decode cX1_takeOff 4 = .ok (.bipush 32, 2) := by decide +kernel
theorem dX1_takeOff_6 : decode cX1_takeOff 6 = .ok (.irem, 1) := by decide +kernel
theorem dX1_takeOff_7 : decode cX1_takeOff 7 = .ok (.istore_n 2, 1) := by decide +kernel
theorem dX1_takeOff_8 : decode cX1_takeOff 8 = .ok (.aload_n 0, 1) := by decide +kernel
theorem dX1_takeOff_9 : decode cX1_takeOff 9 = .ok (.getfield 18, 3) := by decide +kernel
theorem dX1_takeOff_12 : decode cX1_takeOff 12 = .ok (.iload_n 2, 1) := by decide +kernel
theorem dX1_takeOff_13 : decode cX1_takeOff 13 = .ok (.aload_n 1, 1) := by decide +kernel
theorem dX1_takeOff_14 : decode cX1_takeOff 14 = .ok (.getfield 29, 3) := by decide +kernel
theorem dX1_takeOff_17 : decode cX1_takeOff 17 = .ok (.aastore, 1) := by decide +kernel
theorem dX1_takeOff_18 : decode cX1_takeOff 18 = .ok (.aload_n 1, 1) := by decide +kernel
theorem dX1_takeOff_19 : decode cX1_takeOff 19 = .ok (.getfield 29, 3) := by decide +kernel
theorem dX1_takeOff_22 : decode cX1_takeOff 22 = .ok (.ifnonnull 10, 3) := by decide +kernel
theorem dX1_takeOff_25 : decode cX1_takeOff 25 = .ok (.aload_n 0, 1) := by decide +kernel
theorem dX1_takeOff_26 : decode cX1_takeOff 26 = .ok (.getfield 22, 3) := by decide +kernel
theorem dX1_takeOff_29 : decode cX1_takeOff 29 = .ok (.iload_n 2, 1) := by decide +kernel
theorem dX1_takeOff_30 : decode cX1_takeOff 30 = .ok (.aconst_null, 1) := by decide +kernel
theorem dX1_takeOff_31 : decode cX1_takeOff 31 = .ok (.aastore, 1) := by decide +kernel
theorem dX1_takeOff_32 : decode cX1_takeOff 32 = .ok (.aload_n 0, 1) := by decide +kernel
theorem dX1_takeOff_33 : decode cX1_takeOff 33 = .ok (.dup, 1) := by decide +kernel
theorem dX1_takeOff_34 : decode cX1_takeOff 34 = .ok (.getfield 45, 3) := by decide +kernel
theorem dX1_takeOff_37 : decode cX1_takeOff 37 = .ok (.iconst 1, 1) := by decide +kernel
theorem dX1_takeOff_38 : decode cX1_takeOff 38 = .ok (.isub, 1) := by decide +kernel
theorem dX1_takeOff_39 : decode cX1_takeOff 39 = .ok (.putfield 45, 3) := by decide +kernel
theorem dX1_takeOff_42 : decode cX1_takeOff 42 = .ok (.return_, 1) := by decide +kernel
theorem dX1_keepSpare_0 : decode cX1_keepSpare 0 = .ok (.aload_n 1, 1) := by decide +kernel
theorem dX1_keepSpare_1 : decode cX1_keepSpare 1 = .ok (.aload_n 0, 1) := by decide +kernel
theorem dX1_keepSpare_2 : decode cX1_keepSpare 2 = .ok (.getfield 25, 3) := by decide +kernel
theorem dX1_keepSpare_5 : decode cX1_keepSpare 5 = .ok (.putfield 29, 3) := by decide +kernel
theorem dX1_keepSpare_8 : decode cX1_keepSpare 8 = .ok (.aload_n 0, 1) := by decide +kernel
theorem dX1_keepSpare_9 : decode cX1_keepSpare 9 = .ok (.aload_n 1, 1) := by decide +kernel
theorem dX1_keepSpare_10 : decode cX1_keepSpare 10 = .ok (.putfield 25, 3) := by decide +kernel
theorem dX1_keepSpare_13 : decode cX1_keepSpare 13 = .ok (.return_, 1) := by decide +kernel
theorem dX2_init_0 : decode cX2_init 0 = .ok (.aload_n 0, 1) := by decide +kernel
theorem dX2_init_1 : decode cX2_init 1 = .ok (.invokespecial 3, 3) := by decide +kernel
theorem dX2_init_4 : decode cX2_init 4 = .ok (.aload_n 0, 1) := by decide +kernel
theorem dX2_init_5 : decode cX2_init 5 = .ok (.bipush 8, 2) := by decide +kernel
theorem dX2_init_7 : decode cX2_init 7 = .ok (.newarray .int, 2) := by decide +kernel
theorem dX2_init_9 : decode cX2_init 9 = .ok (.putfield 9, 3) := by decide +kernel
theorem dX2_init_12 : decode cX2_init 12 = .ok (.aload_n 0, 1) := by decide +kernel
theorem dX2_init_13 : decode cX2_init 13 = .ok (.iload_n 1, 1) := by decide +kernel
theorem dX2_init_14 : decode cX2_init 14 = .ok (.putfield 15, 3) := by decide +kernel
theorem dX2_init_17 : decode cX2_init 17 = .ok (.aload_n 0, 1) := by decide +kernel
theorem dX2_init_18 : decode cX2_init 18 = .ok (.invokevirtual 19, 3) := by decide +kernel
theorem dX2_init_21 : decode cX2_init 21 = .ok (.return_, 1) := by decide +kernel
theorem dX2_startAnew_0 : decode cX2_startAnew 0 = .ok (.aload_n 0, 1) := by decide +kernel
theorem dX2_startAnew_1 : decode cX2_startAnew 1 = .ok (.iconst 0, 1) := by decide +kernel
theorem dX2_startAnew_2 : decode cX2_startAnew 2 = .ok (.putfield 22, 3) := by decide +kernel
theorem dX2_startAnew_5 : decode cX2_startAnew 5 = .ok (.aload_n 0, 1) := by decide +kernel
theorem dX2_startAnew_6 : decode cX2_startAnew 6 = .ok (.iconst 1, 1) := by decide +kernel
theorem dX2_startAnew_7 : decode cX2_startAnew 7 = .ok (.putfield 25, 3) := by decide +kernel
theorem dX2_startAnew_10 : decode cX2_startAnew 10 = .ok (.aload_n 0, 1) := by decide +kernel
theorem dX2_startAnew_11 : decode cX2_startAnew 11 = .ok (.iconst 0, 1) := by decide +kernel
theorem dX2_startAnew_12 : decode cX2_startAnew 12 = .ok (.putfield 29, 3) := by decide +kernel
theorem dX2_startAnew_15 : decode cX2_startAnew 15 = .ok (.aload_n 0, 1) := by decide +kernel
theorem dX2_startAnew_16 : decode cX2_startAnew 16 = .ok (.iconst 0, 1) := by decide +kernel
theorem dX2_startAnew_17 : decode cX2_startAnew 17 = .ok (.putfield 32, 3) := by decide +kernel
theorem dX2_startAnew_20 : decode cX2_startAnew 20 = .ok (.aload_n 0, 1) := by decide +kernel
theorem dX2_startAnew_21 : decode cX2_startAnew 21 = .ok (.iconst 0, 1) := by decide +kernel
theorem dX2_startAnew_22 : decode cX2_startAnew 22 = .ok (.putfield 35, 3) := by decide +kernel
theorem dX2_startAnew_25 : decode cX2_startAnew 25 = .ok (.aload_n 0, 1) := by decide +kernel
theorem dX2_startAnew_26 : decode cX2_startAnew 26 = .ok (.iconst 0, 1) := by decide +kernel
theorem dX2_startAnew_27 : decode cX2_startAnew 27 = .ok (.putfield 38, 3) := by decide +kernel
theorem dX2_startAnew_30 : decode cX2_startAnew 30 = .ok (.aload_n 0, 1) := by decide +kernel
theorem dX2_startAnew_31 : decode cX2_startAnew 31 = .ok (.iconst (-1), 1) := by decide +kernel
theorem dX2_startAnew_32 : decode cX2_startAnew 32 = .ok (.putfield 41, 3) := by decide +kernel
theorem dX2_startAnew_35 : decode cX2_startAnew 35 = .ok (.aload_n 0, 1) := by decide +kernel
theorem dX2_startAnew_36 : decode cX2_startAnew 36 = .ok (.iconst 0, 1) := by decide +kernel
theorem dX2_startAnew_37 : decode cX2_startAnew 37 = .ok (.putfield 44, 3) := by decide +kernel
theorem dX2_startAnew_40 : decode cX2_startAnew 40 = .ok (.return_, 1) := by decide +kernel
theorem dX2_isDecided_0 : decode cX2_isDecided 0 = .ok (.aload_n 0, 1) := by decide +kernel
theorem dX2_isDecided_1 : decode cX2_isDecided 1 = .ok (.getfield 29, 3) := by decide +kernel
theorem dX2_isDecided_4 : decode cX2_isDecided 4 = .ok (.iconst 4, 1) := by decide +kernel
theorem dX2_isDecided_5 : decode cX2_isDecided 5 = .ok (.if_icmp .eq 11, 3) := by decide +kernel
theorem dX2_isDecided_8 : decode cX2_isDecided 8 = .ok (.aload_n 0, 1) := by decide +kernel
theorem dX2_isDecided_9 : decode cX2_isDecided 9 = .ok (.getfield 29, 3) := by decide +kernel
theorem dX2_isDecided_12 : decode cX2_isDecided 12 = .ok (.iconst 5, 1) := by decide +kernel
theorem dX2_isDecided_13 : decode cX2_isDecided 13 = .ok (.if_icmp .ne 7, 3) := by decide +kernel
theorem dX2_isDecided_16 : decode cX2_isDecided 16 = .ok (.iconst 1, 1) := by decide +kernel
theorem dX2_isDecided_17 : decode cX2_isDecided 17 = .ok (.goto 4, 3) := by decide +kernel
theorem dX2_isDecided_20 : decode cX2_isDecided 20 = .ok (.iconst 0, 1) := by decide +kernel
theorem dX2_isDecided_21 : decode cX2_isDecided 21 = .ok (.ireturn, 1) := by decide +kernel
theorem dX2_collectsAcks_0 : decode cX2_collectsAcks 0 = .ok (.aload_n 0, 1) := by decide +kernel
theorem dX2_collectsAcks_1 : decode cX2_collectsAcks 1 = .ok (.getfield 35, 3) := by decide +kernel
theorem dX2_collectsAcks_4 : decode cX2_collectsAcks 4 = .ok (.iconst 2, 1) := by decide +kernel
theorem dX2_collectsAcks_5 : decode cX2_collectsAcks 5 = .ok (.if_icmp .eq 11, 3) := by decide +kernel
theorem dX2_collectsAcks_8 : decode cX2_collectsAcks 8 = .ok (.aload_n 0, 1) := by decide +kernel
theorem dX2_collectsAcks_9 : decode cX2_collectsAcks 9 = .ok (.getfield 35, 3) := by decide +kernel
theorem dX2_collectsAcks_12 : decode cX2_collectsAcks 12 = .ok (.iconst 4, 1) := by decide +kernel
theorem dX2_collectsAcks_13 : decode cX2_collectsAcks 13 = .ok (.if_icmp .ne 7, 3) := by decide +kernel
theorem dX2_collectsAcks_16 : decode cX2_collectsAcks 16 = .ok (.iconst 1, 1) := by decide +kernel
theorem dX2_collectsAcks_17 : decode cX2_collectsAcks 17 = .ok (.goto 4, 3) := by decide +kernel
theorem dX2_collectsAcks_20 : decode cX2_collectsAcks 20 = .ok (.iconst 0, 1) := by decide +kernel
theorem dX2_collectsAcks_21 : decode cX2_collectsAcks 21 = .ok (.ireturn, 1) := by decide +kernel
theorem dX2_runsOutEarlier_0 : decode cX2_runsOutEarlier 0 = .ok (.aload_n 0, 1) := by decide +kernel
theorem dX2_runsOutEarlier_1 : decode cX2_runsOutEarlier 1 = .ok (.getfield 41, 3) := by decide +kernel
theorem dX2_runsOutEarlier_4 : decode cX2_runsOutEarlier 4 = .ok (.aload_n 1, 1) := by decide +kernel
theorem dX2_runsOutEarlier_5 : decode cX2_runsOutEarlier 5 = .ok (.getfield 41, 3) := by decide +kernel
theorem dX2_runsOutEarlier_8 : decode cX2_runsOutEarlier 8 = .ok (.if_icmp .lt 25, 3) := by decide +kernel
theorem dX2_runsOutEarlier_11 : decode cX2_runsOutEarlier 11 = .ok (.aload_n 0, 1) := by decide +kernel
theorem dX2_runsOutEarlier_12 : decode cX2_runsOutEarlier 12 = .ok (.getfield 41, 3) := by decide +kernel
theorem dX2_runsOutEarlier_15 : decode cX2_runsOutEarlier 15 = .ok (.aload_n 1, 1) := by decide +kernel
theorem dX2_runsOutEarlier_16 : decode cX2_runsOutEarlier 16 = .ok (.getfield 41, 3) := by decide +kernel
theorem dX2_runsOutEarlier_19 : decode cX2_runsOutEarlier 19 = .ok (.if_icmp .ne 18, 3) := by decide +kernel
theorem dX2_runsOutEarlier_22 : decode cX2_runsOutEarlier 22 = .ok (.aload_n 0, 1) := by decide +kernel
theorem dX2_runsOutEarlier_23 : decode cX2_runsOutEarlier 23 = .ok (.getfield 44, 3) := by decide +kernel
theorem dX2_runsOutEarlier_26 : decode cX2_runsOutEarlier 26 = .ok (.aload_n 1, 1) := by decide +kernel
theorem dX2_runsOutEarlier_27 : decode cX2_runsOutEarlier 27 = .ok (.getfield 44, 3) := by decide +kernel
theorem dX2_runsOutEarlier_30 : decode cX2_runsOutEarlier 30 = .ok (.if_icmp .ge 7, 3) := by decide +kernel
theorem dX2_runsOutEarlier_33 : decode cX2_runsOutEarlier 33 = .ok (.iconst 1, 1) := by decide +kernel
theorem dX2_runsOutEarlier_34 : decode cX2_runsOutEarlier 34 = .ok (.goto 4, 3) := by decide +kernel
theorem dX2_runsOutEarlier_37 : decode cX2_runsOutEarlier 37 = .ok (.iconst 0, 1) := by decide +kernel
theorem dX2_runsOutEarlier_38 : decode cX2_runsOutEarlier 38 = .ok (.ireturn, 1) := by decide +kernel
theorem dX2_runsOutBefore_0 : decode cX2_runsOutBefore 0 = .ok (.aload_n 1, 1) := by decide +kernel
theorem dX2_runsOutBefore_1 : decode cX2_runsOutBefore 1 = .ok (.ifnull 36, 3) := by decide +kernel
theorem dX2_runsOutBefore_4 : decode cX2_runsOutBefore 4 = .ok (.aload_n 0, 1) := by decide +kernel
theorem dX2_runsOutBefore_5 : decode cX2_runsOutBefore 5 = .ok (.getfield 41, 3) := by decide +kernel
theorem dX2_runsOutBefore_8 : decode cX2_runsOutBefore 8 = .ok (.aload_n 1, 1) := by decide +kernel
theorem dX2_runsOutBefore_9 : decode cX2_runsOutBefore 9 = .ok (.getfield 47, 3) := by decide +kernel
theorem dX2_runsOutBefore_12 : decode cX2_runsOutBefore 12 = .ok (.if_icmp .lt 25, 3) := by decide +kernel
theorem dX2_runsOutBefore_15 : decode cX2_runsOutBefore 15 = .ok (.aload_n 0, 1) := by decide +kernel
theorem dX2_runsOutBefore_16 : decode cX2_runsOutBefore 16 = .ok (.getfield 41, 3) := by decide +kernel
theorem dX2_runsOutBefore_19 : decode cX2_runsOutBefore 19 = .ok (.aload_n 1, 1) := by decide +kernel
theorem dX2_runsOutBefore_20 : decode cX2_runsOutBefore 20 = .ok (.getfield 47, 3) := by decide +kernel
theorem dX2_runsOutBefore_23 : decode cX2_runsOutBefore 23 = .ok (.if_icmp .ne 18, 3) := by decide +kernel
theorem dX2_runsOutBefore_26 : decode cX2_runsOutBefore 26 = .ok (.aload_n 0, 1) := by decide +kernel
theorem dX2_runsOutBefore_27 : decode cX2_runsOutBefore 27 = .ok (.getfield 44, 3) := by decide +kernel
theorem dX2_runsOutBefore_30 : decode cX2_runsOutBefore 30 = .ok (.aload_n 1, 1) := by decide +kernel
theorem dX2_runsOutBefore_31 : decode cX2_runsOutBefore 31 = .ok (.getfield 52, 3) := by decide +kernel
theorem dX2_runsOutBefore_34 : decode cX2_runsOutBefore 34 = .ok (.if_icmp .ge 7, 3) := by decide +kernel
theorem dX2_runsOutBefore_37 : decode cX2_runsOutBefore 37 = .ok (.iconst 1, 1) := by decide +kernel
theorem dX2_runsOutBefore_38 : decode cX2_runsOutBefore 38 = .ok (.goto 4, 3) := by decide +kernel
theorem dX2_runsOutBefore_41 : decode cX2_runsOutBefore 41 = .ok (.iconst 0, 1) := by decide +kernel
theorem dX2_runsOutBefore_42 : decode cX2_runsOutBefore 42 = .ok (.ireturn, 1) := by decide +kernel
theorem dX3_init_0 : decode cX3_init 0 = .ok (.aload_n 0, 1) := by decide +kernel
theorem dX3_init_1 : decode cX3_init 1 = .ok (.invokespecial 1, 3) := by decide +kernel
theorem dX3_init_4 : decode cX3_init 4 = .ok (.aload_n 0, 1) := by decide +kernel
theorem dX3_init_5 : decode cX3_init 5 = .ok (.bipush 8, 2) := by decide +kernel
theorem dX3_init_7 : decode cX3_init 7 = .ok (.anewarray 9, 3) := by decide +kernel
theorem dX3_init_10 : decode cX3_init 10 = .ok (.putfield 11, 3) := by decide +kernel
theorem dX3_init_13 : decode cX3_init 13 = .ok (.aload_n 0, 1) := by decide +kernel
theorem dX3_init_14 : decode cX3_init 14 = .ok (.new 15, 3) := by decide +kernel
theorem dX3_init_17 : decode cX3_init 17 = .ok (.dup, 1) := by decide +kernel
theorem dX3_init_18 : decode cX3_init 18 = .ok (.invokespecial 17, 3) := by decide +kernel
theorem dX3_init_21 : decode cX3_init 21 = .ok (.putfield 18, 3) := by decide +kernel
theorem dX3_init_24 : decode cX3_init 24 = .ok (.aload_n 0, 1) := by decide +kernel
theorem dX3_init_25 : decode cX3_init 25 = .ok (.iconst 5, 1) := by decide +kernel
theorem dX3_init_26 : decode cX3_init 26 = .ok (.newarray .int, 2) := by decide +kernel
theorem dX3_init_28 : decode cX3_init 28 = .ok (.putfield 22, 3) := by decide +kernel
theorem dX3_init_31 : decode cX3_init 31 = .ok (.aload_n 0, 1) := by decide +kernel
theorem dX3_init_32 : decode cX3_init 32 = .ok (.bipush 10, 2) := by decide +kernel
theorem dX3_init_34 : decode cX3_init 34 = .ok (.putfield 26, 3) := by decide +kernel
theorem dX3_init_37 : decode cX3_init 37 = .ok (.aload_n 0, 1) := by decide +kernel
theorem dX3_init_38 : decode cX3_init 38 = .ok (.invokevirtual 30, 3) := by decide +kernel
theorem dX3_init_41 : decode cX3_init 41 = .ok (.aload_n 0, 1) := by decide +kernel
theorem dX3_init_42 : decode cX3_init 42 = .ok (.iconst 0, 1) := by decide +kernel
theorem dX3_init_43 : decode cX3_init 43 = .ok (.iconst (-1), 1) := by decide +kernel
theorem dX3_init_44 : decode cX3_init 44 = .ok (.iconst (-1), 1) := by decide +kernel
theorem dX3_init_45 : decode cX3_init 45 = .ok (.iconst 0, 1) := by decide +kernel
theorem dX3_init_46 : decode cX3_init 46 = .ok (.iconst 0, 1) := by decide +kernel
theorem dX3_init_47 : decode cX3_init 47 = .ok (.invokevirtual 33, 3) := by decide +kernel
theorem dX3_init_50 : decode cX3_init 50 = .ok (.return_, 1) := by decide +kernel
theorem dX3_site_0 : decode cX3_site 0 = .ok (.iload_n 1, 1) := by decide +kernel
theorem dX3_site_1 : decode cX3_site 1 = .ok (.iconst 1, 1) := by decide +kernel
theorem dX3_site_2 : decode cX3_site 2 = .ok (.if_icmp .lt 25, 3) := by decide +kernel
theorem dX3_site_5 : decode cX3_site 5 = .ok (.iload_n 1, 1) := by decide +kernel
theorem dX3_site_6 : decode cX3_site 6 = .ok (.bipush 9, 2) := by decide +kernel
theorem dX3_site_8 : decode cX3_site 8 = .ok (.if_icmp .gt 19, 3) := by decide +kernel
theorem dX3_site_11 : decode cX3_site 11 = .ok (.aload_n 0, 1) := by decide +kernel
theorem dX3_site_12 : decode cX3_site 12 = .ok (.getfield 37, 3) := by decide +kernel
theorem dX3_site_15 : decode cX3_site 15 = .ok (.ifCond .ne 12, 3) := by decide +kernel
theorem dX3_site_18 : decode cX3_site 18 = .ok (.aload_n 0, 1) := by decide +kernel
theorem dX3_site_19 : decode cX3_site 19 = .ok (.getfield 41, 3) := by decide +kernel
theorem dX3_site_22 : decode cX3_site 22 = .ok (.bipush 8, 2) := by decide +kernel
theorem dX3_site_24 : decode cX3_site 24 = .ok (.if_icmp .lt 5, 3) := by decide +kernel
theorem dX3_site_27 : decode cX3_site 27 = .ok (.iconst (-1), 1) := by decide +kernel
theorem dX3_site_28 : decode cX3_site 28 = .ok (.ireturn, 1) := by decide +kernel
theorem dX3_site_29 : decode cX3_site 29 = .ok (.aload_n 0, 1) := by decide +kernel
theorem dX3_site_30 : decode cX3_site 30 = .ok (.getfield 11, 3) := by decide +kernel
theorem dX3_site_33 : decode cX3_site 33 = .ok (.aload_n 0, 1) := by decide +kernel
theorem dX3_site_34 : decode cX3_site 34 = .ok (.getfield 41, 3) := by decide +kernel
theorem dX3_site_37 : decode cX3_site 37 = .ok (.new 9, 3) := by decide +kernel
theorem dX3_site_40 : decode cX3_site 40 = .ok (.dup, 1) := by decide +kernel
theorem dX3_site_41 : decode cX3_site 41 = .ok (.iload_n 1, 1) := by decide +kernel
theorem dX3_site_42 : decode cX3_site 42 = .ok (.invokespecial 44, 3) := by decide +kernel
theorem dX3_site_45 : decode cX3_site 45 = .ok (.aastore, 1) := by decide +kernel
theorem dX3_site_46 : decode cX3_site 46 = .ok (.aload_n 0, 1) := by decide +kernel
theorem dX3_site_47 : decode cX3_site 47 = .ok (.dup, 1) := by decide +kernel
theorem dX3_site_48 : decode cX3_site 48 = .ok (.getfield 47, 3) := by decide +kernel
theorem dX3_site_51 : decode cX3_site 51 = .ok (.iload_n 1, 1) := by decide +kernel
theorem dX3_site_52 : decode cX3_site 52 = .ok (.iadd, 1) := by decide +kernel
theorem dX3_site_53 : decode cX3_site 53 = .ok (.putfield 47, 3) := by decide +kernel
theorem dX3_site_56 : decode cX3_site 56 = .ok (.aload_n 0, 1) := by decide +kernel
theorem dX3_site_57 : decode cX3_site 57 = .ok (.invokevirtual 30, 3) := by decide +kernel
theorem dX3_site_60 : decode cX3_site 60 = .ok (.aload_n 0, 1) := by decide +kernel
theorem dX3_site_61 : decode cX3_site 61 = .ok (.dup, 1) := by decide +kernel
theorem dX3_site_62 : decode cX3_site 62 = .ok (.getfield 41, 3) := by decide +kernel
theorem dX3_site_65 : decode cX3_site 65 = .ok (.dup_x1, 1) := by decide +kernel
theorem dX3_site_66 : decode cX3_site 66 = .ok (.iconst 1, 1) := by decide +kernel
theorem dX3_site_67 : decode cX3_site 67 = .ok (.iadd, 1) := by decide +kernel
theorem dX3_site_68 : decode cX3_site 68 = .ok (.putfield 41, 3) := by decide +kernel
theorem dX3_site_71 : decode cX3_site 71 = .ok (.ireturn, 1) := by decide +kernel
theorem dX3_quorums_0 : decode cX3_quorums 0 = .ok (.iload_n 1, 1) := by decide +kernel
theorem dX3_quorums_1 : decode cX3_quorums 1 = .ok (.iconst 1, 1) := by decide +kernel
theorem dX3_quorums_2 : decode cX3_quorums 2 = .ok (.if_icmp .lt 28, 3) := by decide +kernel
theorem dX3_quorums_5 : decode cX3_quorums 5 = .ok (.iload_n 1, 1) := by decide +kernel
theorem dX3_quorums_6 : decode cX3_quorums 6 = .ok (.aload_n 0, 1) := by decide +kernel
theorem dX3_quorums_7 : decode cX3_quorums 7 = .ok (.getfield 47, 3) := by decide +kernel
theorem dX3_quorums_10 : decode cX3_quorums 10 = .ok (.if_icmp .gt 20, 3) := by decide +kernel
theorem dX3_quorums_13 : decode cX3_quorums 13 = .ok (.iload_n 2, 1) := by decide +kernel
theorem dX3_quorums_14 : decode cX3_quorums 14 = .ok (.iconst 1, 1) := by decide +kernel
theorem dX3_quorums_15 : decode cX3_quorums 15 = .ok (.if_icmp .lt 15, 3) := by decide +kernel
theorem dX3_quorums_18 : decode cX3_quorums 18 = .ok (.iload_n 2, 1) := by decide +kernel
theorem dX3_quorums_19 : decode cX3_quorums 19 = .ok (.aload_n 0, 1) := by decide +kernel
theorem dX3_quorums_20 : decode cX3_quorums 20 = .ok (.getfield 47, 3) := by decide +kernel
theorem dX3_quorums_23 : decode cX3_quorums 23 = .ok (.if_icmp .gt 7, 3) := by decide +kernel
theorem dX3_quorums_26 : decode cX3_quorums 26 = .ok (.iconst 1, 1) := by decide +kernel
theorem dX3_quorums_27 : decode cX3_quorums 27 = .ok (.goto 4, 3) := by decide +kernel
theorem dX3_quorums_30 : decode cX3_quorums 30 = .ok (.iconst 0, 1) := by decide +kernel
theorem dX3_quorums_31 : decode cX3_quorums 31 = .ok (.istore_n 3, 1) := by decide +kernel
theorem dX3_quorums_32 : decode cX3_quorums 32 = .ok (.aload_n 0, 1) := by decide +kernel
theorem dX3_quorums_33 : decode cX3_quorums 33 = .ok (.getfield 37, 3) := by decide +kernel
theorem dX3_quorums_36 : decode cX3_quorums 36 = .ok (.ifCond .ne 17, 3) := by decide +kernel
theorem dX3_quorums_39 : decode cX3_quorums 39 = .ok (.iload_n 3, 1) := by decide +kernel
theorem dX3_quorums_40 : decode cX3_quorums 40 = .ok (.ifCond .eq 13, 3) := by decide +kernel
theorem dX3_quorums_43 : decode cX3_quorums 43 = .ok (.iload_n 1, 1) := by decide +kernel
theorem dX3_quorums_44 : decode cX3_quorums 44 = .ok (.iload_n 2, 1) := by decide +kernel
theorem dX3_quorums_45 : decode cX3_quorums 45 = .ok (.iadd, 1) := by decide +kernel
theorem dX3_quorums_46 : decode cX3_quorums 46 = .ok (.aload_n 0, 1) := by decide +kernel
theorem dX3_quorums_47 : decode cX3_quorums 47 = .ok (.getfield 47, 3) := by decide +kernel
theorem dX3_quorums_50 : decode cX3_quorums 50 = .ok (.if_icmp .gt 5, 3) := by decide +kernel
theorem dX3_quorums_53 : decode cX3_quorums 53 = .ok (.iconst 0, 1) := by decide +kernel
theorem dX3_quorums_54 : decode cX3_quorums 54 = .ok (.ireturn, 1) := by decide +kernel
theorem dX3_quorums_55 : decode cX3_quorums 55 = .ok (.aload_n 0, 1) := by decide +kernel
theorem dX3_quorums_56 : decode cX3_quorums 56 = .ok (.iload_n 1, 1) := by decide +kernel
theorem dX3_quorums_57 : decode cX3_quorums 57 = .ok (.putfield 50, 3) := by decide +kernel
theorem dX3_quorums_60 : decode cX3_quorums 60 = .ok (.aload_n 0, 1) := by decide +kernel
theorem dX3_quorums_61 : decode cX3_quorums 61 = .ok (.iload_n 2, 1) := by decide +kernel
theorem dX3_quorums_62 : decode cX3_quorums 62 = .ok (.putfield 53, 3) := by decide +kernel
theorem dX3_quorums_65 : decode cX3_quorums 65 = .ok (.iconst 1, 1) := by decide +kernel
theorem dX3_quorums_66 : decode cX3_quorums 66 = .ok (.ireturn, 1) := by decide +kernel
theorem dX3_link_0 : decode cX3_link 0 = .ok (.aload_n 0, 1) := by decide +kernel
theorem dX3_link_1 : decode cX3_link 1 = .ok (.iload_n 1, 1) := by decide +kernel
theorem dX3_link_2 : decode cX3_link 2 = .ok (.iload_n 2, 1) := by decide +kernel
theorem dX3_link_3 : decode cX3_link 3 = .ok (.invokevirtual 56, 3) := by decide +kernel
theorem dX3_link_6 : decode cX3_link 6 = .ok (.ifCond .eq 13, 3) := by decide +kernel
theorem dX3_link_9 : decode cX3_link 9 = .ok (.iload_n 3, 1) := by decide +kernel
theorem dX3_link_10 : decode cX3_link 10 = .ok (.ifCond .lt 9, 3) := by decide +kernel
theorem dX3_link_13 : decode cX3_link 13 = .ok (.iload_n 3, 1) := by decide +kernel
theorem dX3_link_14 : decode cX3_link 14 = .ok (.bipush 20, 2) := by decide +kernel
theorem dX3_link_16 : decode cX3_link 16 = .ok (.if_icmp .le 5, 3) := by decide +kernel
theorem dX3_link_19 : decode cX3_link 19 = .ok (.iconst 0, 1) := by decide +kernel
theorem dX3_link_20 : decode cX3_link 20 = .ok (.ireturn, 1) := by decide +kernel
theorem dX3_link_21 : decode cX3_link 21 = .ok (.aload_n 0, 1) := by decide +kernel
theorem dX3_link_22 : decode cX3_link 22 = .ok (.getfield 18, 3) := by decide +kernel
theorem dX3_link_25 : decode cX3_link 25 = .ok (.getfield 60, 3) := by decide +kernel
theorem dX3_link_28 : decode cX3_link 28 = .ok (.iload_n 1, 1) := by decide +kernel
theorem dX3_link_29 : decode cX3_link 29 = .ok (.aaload, 1) := by decide +kernel
theorem dX3_link_30 : decode cX3_link 30 = .ok (.iload_n 2, 1) := by decide +kernel
theorem dX3_link_31 : decode cX3_link 31 = .ok (.iload_n 3, 1) := by decide +kernel
theorem dX3_link_32 : decode cX3_link 32 = .ok (.iastore, 1) := by decide +kernel
theorem dX3_link_33 : decode cX3_link 33 = .ok (.iconst 1, 1) := by decide +kernel
theorem dX3_link_34 : decode cX3_link 34 = .ok (.ireturn, 1) := by decide +kernel
theorem dX3_part_0 : decode cX3_part 0 = .ok (.iload_n 2, 1) := by decide +kernel
theorem dX3_part_1 : decode cX3_part 1 = .ok (.iconst 1, 1) := by decide +kernel
theorem dX3_part_2 : decode cX3_part 2 = .ok (.if_icmp .lt 9, 3) := by decide +kernel
theorem dX3_part_5 : decode cX3_part 5 = .ok (.iload_n 2, 1) := by decide +kernel
theorem dX3_part_6 : decode cX3_part 6 = .ok (.bipush 20, 2) := by decide +kernel
theorem dX3_part_8 : decode cX3_part 8 = .ok (.if_icmp .le 5, 3) := by decide +kernel
theorem dX3_part_11 : decode cX3_part 11 = .ok (.iconst (-1), 1) := by decide +kernel
theorem dX3_part_12 : decode cX3_part 12 = .ok (.ireturn, 1) := by decide +kernel
theorem dX3_part_13 : decode cX3_part 13 = .ok (.iconst 0, 1) := by decide +kernel
theorem dX3_part_14 : decode cX3_part 14 = .ok (.istore_n 3, 1) := by decide +kernel
theorem dX3_part_15 : decode cX3_part 15 = .ok (.iconst 0, 1) := by decide +kernel
theorem dX3_part_16 : decode cX3_part 16 = .ok (.istore 4, 2) := by decide +kernel
theorem dX3_part_18 : decode cX3_part 18 = .ok (.iload 4, 2) := by decide +kernel
theorem dX3_part_20 : decode cX3_part 20 = .ok (.aload_n 0, 1) := by decide +kernel
theorem dX3_part_21 : decode cX3_part 21 = .ok (.getfield 41, 3) := by decide +kernel
theorem dX3_part_24 : decode cX3_part 24 = .ok (.if_icmp .ge 82, 3) := by decide +kernel
theorem dX3_part_27 : decode cX3_part 27 = .ok (.iconst 0, 1) := by decide +kernel
theorem dX3_part_28 : decode cX3_part 28 = .ok (.istore 5, 2) := by decide +kernel
theorem dX3_part_30 : decode cX3_part 30 = .ok (.iload 5, 2) := by decide +kernel
theorem dX3_part_32 : decode cX3_part 32 = .ok (.aload_n 0, 1) := by decide +kernel
theorem dX3_part_33 : decode cX3_part 33 = .ok (.getfield 41, 3) := by decide +kernel
theorem dX3_part_36 : decode cX3_part 36 = .ok (.if_icmp .ge 64, 3) := by decide +kernel
theorem dX3_part_39 : decode cX3_part 39 = .ok (.iload 4, 2) := by decide +kernel
theorem dX3_part_41 : decode cX3_part 41 = .ok (.iload 5, 2) := by decide +kernel
theorem dX3_part_43 : decode cX3_part 43 = .ok (.if_icmp .eq 51, 3) := by decide +kernel
theorem dX3_part_46 : decode cX3_part 46 = .ok (.iload_n 1, 1) := by decide +kernel
theorem dX3_part_47 : decode cX3_part 47 = .ok (.iload 4, 2) := by decide +kernel
theorem dX3_part_49 : decode cX3_part 49 = .ok (.invokestatic 64, 3) := by decide +kernel
theorem dX3_part_52 : decode cX3_part 52 = .ok (.iload_n 1, 1) := by decide +kernel
theorem dX3_part_53 : decode cX3_part 53 = .ok (.iload 5, 2) := by decide +kernel
theorem dX3_part_55 : decode cX3_part 55 = .ok (.invokestatic 64, 3) := by decide +kernel
theorem dX3_part_58 : decode cX3_part 58 = .ok (.if_icmp .ne 7, 3) := by decide +kernel
theorem dX3_part_61 : decode cX3_part 61 = .ok (.iconst 1, 1) := by decide +kernel
theorem dX3_part_62 : decode cX3_part 62 = .ok (.goto 4, 3) := by decide +kernel
theorem dX3_part_65 : decode cX3_part 65 = .ok (.iconst 0, 1) := by decide +kernel
theorem dX3_part_66 : decode cX3_part 66 = .ok (.istore 6, 2) := by decide +kernel
theorem dX3_part_68 : decode cX3_part 68 = .ok (.aload_n 0, 1) := by decide +kernel
theorem dX3_part_69 : decode cX3_part 69 = .ok (.getfield 18, 3) := by decide +kernel
theorem dX3_part_72 : decode cX3_part 72 = .ok (.getfield 60, 3) := by decide +kernel
theorem dX3_part_75 : decode cX3_part 75 = .ok (.iload 4, 2) := by decide +kernel
theorem dX3_part_77 : decode cX3_part 77 = .ok (.aaload, 1) := by decide +kernel
theorem dX3_part_78 : decode cX3_part 78 = .ok (.iload 5, 2) := by decide +kernel
theorem dX3_part_80 : decode cX3_part 80 = .ok (.iload 6, 2) := by decide +kernel
theorem dX3_part_82 : decode cX3_part 82 = .ok (.ifCond .eq 7, 3) := by decide +kernel
theorem dX3_part_85 : decode cX3_part 85 = .ok (.iload_n 2, 1) := by decide +kernel
theorem dX3_part_86 : decode cX3_part 86 = .ok (.goto 4, 3) := by decide +kernel
theorem dX3_part_89 : decode cX3_part 89 = .ok (.iconst 0, 1) := by decide +kernel
theorem dX3_part_90 : decode cX3_part 90 = .ok (.iastore, 1) := by decide +kernel
theorem dX3_part_91 : decode cX3_part 91 = .ok (.iinc 3 1, 3) := by decide +kernel
theorem dX3_part_94 : decode cX3_part 94 = .ok (.iinc 5 1, 3) := by decide +kernel
theorem dX3_part_97 : decode cX3_part 97 = .ok (.goto (-67), 3) := by decide +kernel
theorem dX3_part_100 : decode cX3_part 100 = .ok (.iinc 4 1, 3) := by decide +kernel
theorem dX3_part_103 : decode cX3_part 103 = .ok (.goto (-85), 3) := by decide +kernel
theorem dX3_part_106 : decode cX3_part 106 = .ok (.iload_n 3, 1) := by decide +kernel
theorem dX3_part_107 : decode cX3_part 107 = .ok (.ireturn, 1) := by decide +kernel
theorem dX3_patience_0 : decode cX3_patience 0 = .ok (.iload_n 1, 1) := by decide +kernel
theorem dX3_patience_1 : decode cX3_patience 1 = .ok (.iconst 5, 1) := by decide +kernel
theorem dX3_patience_2 : decode cX3_patience 2 = .ok (.if_icmp .lt 16, 3) := by decide +kernel
theorem dX3_patience_5 : decode cX3_patience 5 = .ok (.iload_n 1, 1) := by decide +kernel
theorem dX3_patience_6 : decode cX3_patience 6 = .ok (.bipush 100, 2) := by decide +kernel
theorem dX3_patience_8 : decode cX3_patience 8 = .ok (.if_icmp .gt 10, 3) := by decide +kernel
theorem dX3_patience_11 : decode cX3_patience 11 = .ok (.aload_n 0, 1) := by decide +kernel
theorem dX3_patience_12 : decode cX3_patience 12 = .ok (.getfield 37, 3) := by decide +kernel
theorem dX3_patience_15 : decode cX3_patience 15 = .ok (.ifCond .eq 5, 3) := by decide +kernel
theorem dX3_patience_18 : decode cX3_patience 18 = .ok (.iconst 0, 1) := by decide +kernel
theorem dX3_patience_19 : decode cX3_patience 19 = .ok (.ireturn, 1) := by decide +kernel
theorem dX3_patience_20 : decode cX3_patience 20 = .ok (.aload_n 0, 1) := by decide +kernel
theorem dX3_patience_21 : decode cX3_patience 21 = .ok (.iload_n 1, 1) := by decide +kernel
theorem dX3_patience_22 : decode cX3_patience 22 = .ok (.putfield 26, 3) := by decide +kernel
theorem dX3_patience_25 : decode cX3_patience 25 = .ok (.iconst 1, 1) := by decide +kernel
theorem dX3_patience_26 : decode cX3_patience 26 = .ok (.ireturn, 1) := by decide +kernel
theorem dX3_begin_0 : decode cX3_begin 0 = .ok (.aload_n 0, 1) := by decide +kernel
theorem dX3_begin_1 : decode cX3_begin 1 = .ok (.iload_n 1, 1) := by decide +kernel
theorem dX3_begin_2 : decode cX3_begin 2 = .ok (.invokevirtual 67, 3) := by decide +kernel
theorem dX3_begin_5 : decode cX3_begin 5 = .ok (.ifCond .eq 22, 3) := by decide +kernel
theorem dX3_begin_8 : decode cX3_begin 8 = .ok (.aload_n 0, 1) := by decide +kernel
theorem dX3_begin_9 : decode cX3_begin 9 = .ok (.getfield 11, 3) := by decide +kernel
theorem dX3_begin_12 : decode cX3_begin 12 = .ok (.iload_n 1, 1) := by decide +kernel
theorem dX3_begin_13 : decode cX3_begin 13 = .ok (.aaload, 1) := by decide +kernel
theorem dX3_begin_14 : decode cX3_begin 14 = .ok (.getfield 71, 3) := by decide +kernel
theorem dX3_begin_17 : decode cX3_begin 17 = .ok (.ifCond .eq 10, 3) := by decide +kernel
theorem dX3_begin_20 : decode cX3_begin 20 = .ok (.aload_n 0, 1) := by decide +kernel
theorem dX3_begin_21 : decode cX3_begin 21 = .ok (.getfield 37, 3) := by decide +kernel
theorem dX3_begin_24 : decode cX3_begin 24 = .ok (.ifCond .eq 5, 3) := by decide +kernel
theorem dX3_begin_27 : decode cX3_begin 27 = .ok (.iconst 0, 1) := by decide +kernel
theorem dX3_begin_28 : decode cX3_begin 28 = .ok (.ireturn, 1) := by decide +kernel
theorem dX3_begin_29 : decode cX3_begin 29 = .ok (.aload_n 0, 1) := by decide +kernel
theorem dX3_begin_30 : decode cX3_begin 30 = .ok (.iconst 1, 1) := by decide +kernel
theorem dX3_begin_31 : decode cX3_begin 31 = .ok (.putfield 37, 3) := by decide +kernel
theorem dX3_begin_34 : decode cX3_begin 34 = .ok (.aload_n 0, 1) := by decide +kernel
theorem dX3_begin_35 : decode cX3_begin 35 = .ok (.iload_n 2, 1) := by decide +kernel
theorem dX3_begin_36 : decode cX3_begin 36 = .ok (.putfield 74, 3) := by decide +kernel
theorem dX3_begin_39 : decode cX3_begin 39 = .ok (.iload_n 2, 1) := by decide +kernel
theorem dX3_begin_40 : decode cX3_begin 40 = .ok (.iload_n 1, 1) := by decide +kernel
theorem dX3_begin_41 : decode cX3_begin 41 = .ok (.invokestatic 64, 3) := by decide +kernel
theorem dX3_begin_44 : decode cX3_begin 44 = .ok (.ifCond .eq 11, 3) := by decide +kernel
theorem dX3_begin_47 : decode cX3_begin 47 = .ok (.aload_n 0, 1) := by decide +kernel
theorem dX3_begin_48 : decode cX3_begin 48 = .ok (.iload_n 1, 1) := by decide +kernel
theorem dX3_begin_49 : decode cX3_begin 49 = .ok (.invokevirtual 77, 3) := by decide +kernel
theorem dX3_begin_52 : decode cX3_begin 52 = .ok (.goto 9, 3) := by decide +kernel
theorem dX3_begin_55 : decode cX3_begin 55 = .ok (.aload_n 0, 1) := by decide +kernel
theorem dX3_begin_56 : decode cX3_begin 56 = .ok (.iload_n 1, 1) := by decide +kernel
theorem dX3_begin_57 : decode cX3_begin 57 = .ok (.iconst 5, 1) := by decide +kernel
theorem dX3_begin_58 : decode cX3_begin 58 = .ok (.invokevirtual 80, 3) := by decide +kernel
theorem dX3_begin_61 : decode cX3_begin 61 = .ok (.iconst 1, 1) := by decide +kernel
theorem dX3_begin_62 : decode cX3_begin 62 = .ok (.ireturn, 1) := by decide +kernel
theorem dX3_crash_0 : decode cX3_crash 0 = .ok (.aload_n 0, 1) := by decide +kernel
theorem dX3_crash_1 : decode cX3_crash 1 = .ok (.iload_n 1, 1) := by decide +kernel
theorem dX3_crash_2 : decode cX3_crash 2 = .ok (.invokevirtual 67, 3) := by decide +kernel
theorem dX3_crash_5 : decode cX3_crash 5 = .ok (.ifCond .eq 15, 3) := by decide +kernel
theorem dX3_crash_8 : decode cX3_crash 8 = .ok (.aload_n 0, 1) := by decide +kernel
theorem dX3_crash_9 : decode cX3_crash 9 = .ok (.getfield 11, 3) := by decide +kernel
theorem dX3_crash_12 : decode cX3_crash 12 = .ok (.iload_n 1, 1) := by decide +kernel
theorem dX3_crash_13 : decode cX3_crash 13 = .ok (.aaload, 1) := by decide +kernel
theorem dX3_crash_14 : decode cX3_crash 14 = .ok (.getfield 71, 3) := by decide +kernel
theorem dX3_crash_17 : decode cX3_crash 17 = .ok (.ifCond .ne 5, 3) := by decide +kernel
theorem dX3_crash_20 : decode cX3_crash 20 = .ok (.iconst 0, 1) := by decide +kernel
theorem dX3_crash_21 : decode cX3_crash 21 = .ok (.ireturn, 1) := by decide +kernel
theorem dX3_crash_22 : decode cX3_crash 22 = .ok (.aload_n 0, 1) := by decide +kernel
theorem dX3_crash_23 : decode cX3_crash 23 = .ok (.getfield 11, 3) := by decide +kernel
theorem dX3_crash_26 : decode cX3_crash 26 = .ok (.iload_n 1, 1) := by decide +kernel
theorem dX3_crash_27 : decode cX3_crash 27 = .ok (.aaload, 1) := by decide +kernel
theorem dX3_crash_28 : decode cX3_crash 28 = .ok (.astore_n 2, 1) := by decide +kernel
theorem dX3_crash_29 : decode cX3_crash 29 = .ok (.aload_n 2, 1) := by decide +kernel
theorem dX3_crash_30 : decode cX3_crash 30 = .ok (.iconst 0, 1) := by decide +kernel
theorem dX3_crash_31 : decode cX3_crash 31 = .ok (.putfield 71, 3) := by decide +kernel
theorem dX3_crash_34 : decode cX3_crash 34 = .ok (.aload_n 2, 1) := by decide +kernel
theorem dX3_crash_35 : decode cX3_crash 35 = .ok (.iconst 0, 1) := by decide +kernel
theorem dX3_crash_36 : decode cX3_crash 36 = .ok (.putfield 84, 3) := by decide +kernel
theorem dX3_crash_39 : decode cX3_crash 39 = .ok (.aload_n 2, 1) := by decide +kernel
theorem dX3_crash_40 : decode cX3_crash 40 = .ok (.iconst (-1), 1) := by decide +kernel
theorem dX3_crash_41 : decode cX3_crash 41 = .ok (.putfield 87, 3) := by decide +kernel
theorem dX3_crash_44 : decode cX3_crash 44 = .ok (.iconst 1, 1) := by decide +kernel
theorem dX3_crash_45 : decode cX3_crash 45 = .ok (.ireturn, 1) := by decide +kernel
theorem dX3_recover_0 : decode cX3_recover 0 = .ok (.aload_n 0, 1) := by decide +kernel
theorem dX3_recover_1 : decode cX3_recover 1 = .ok (.iload_n 1, 1) := by decide +kernel
theorem dX3_recover_2 : decode cX3_recover 2 = .ok (.invokevirtual 67, 3) := by decide +kernel
theorem dX3_recover_5 : decode cX3_recover 5 = .ok (.ifCond .eq 15, 3) := by decide +kernel
theorem dX3_recover_8 : decode cX3_recover 8 = .ok (.aload_n 0, 1) := by decide +kernel
theorem dX3_recover_9 : decode cX3_recover 9 = .ok (.getfield 11, 3) := by decide +kernel
theorem dX3_recover_12 : decode cX3_recover 12 = .ok (.iload_n 1, 1) := by decide +kernel
theorem dX3_recover_13 : decode cX3_recover 13 = .ok (.aaload, 1) := by decide +kernel
theorem dX3_recover_14 : decode cX3_recover 14 = .ok (.getfield 71, 3) := by decide +kernel
theorem dX3_recover_17 : decode cX3_recover 17 = .ok (.ifCond .eq 5, 3) := by decide +kernel
theorem dX3_recover_20 : decode cX3_recover 20 = .ok (.iconst 0, 1) := by decide +kernel
theorem dX3_recover_21 : decode cX3_recover 21 = .ok (.ireturn, 1) := by decide +kernel
theorem dX3_recover_22 : decode cX3_recover 22 = .ok (.aload_n 0, 1) := by decide +kernel
theorem dX3_recover_23 : decode cX3_recover 23 = .ok (.getfield 11, 3) := by decide +kernel
theorem dX3_recover_26 : decode cX3_recover 26 = .ok (.iload_n 1, 1) := by decide +kernel
theorem dX3_recover_27 : decode cX3_recover 27 = .ok (.aaload, 1) := by decide +kernel
theorem dX3_recover_28 : decode cX3_recover 28 = .ok (.astore_n 2, 1) := by decide +kernel
theorem dX3_recover_29 : decode cX3_recover 29 = .ok (.aload_n 2, 1) := by decide +kernel
theorem dX3_recover_30 : decode cX3_recover 30 = .ok (.iconst 1, 1) := by decide +kernel
theorem dX3_recover_31 : decode cX3_recover 31 = .ok (.putfield 71, 3) := by decide +kernel
theorem dX3_recover_34 : decode cX3_recover 34 = .ok (.aload_n 0, 1) := by decide +kernel
theorem dX3_recover_35 : decode cX3_recover 35 = .ok (.getfield 37, 3) := by decide +kernel
theorem dX3_recover_38 : decode cX3_recover 38 = .ok (.ifCond .eq 19, 3) := by decide +kernel
theorem dX3_recover_41 : decode cX3_recover 41 = .ok (.aload_n 2, 1) := by decide +kernel
theorem dX3_recover_42 : decode cX3_recover 42 = .ok (.getfield 90, 3) := by decide +kernel
theorem dX3_recover_45 : decode cX3_recover 45 = .ok (.ifCond .ne 12, 3) := by decide +kernel
theorem dX3_recover_48 : decode cX3_recover 48 = .ok (.aload_n 0, 1) := by decide +kernel
theorem dX3_recover_49 : decode cX3_recover 49 = .ok (.aload_n 2, 1) := by decide +kernel
theorem dX3_recover_50 : decode cX3_recover 50 = .ok (.iconst 5, 1) := by decide +kernel
theorem dX3_recover_51 : decode cX3_recover 51 = .ok (.invokevirtual 93, 3) := by decide +kernel
theorem dX3_recover_54 : decode cX3_recover 54 = .ok (.goto 22, 3) := by decide +kernel
theorem dX3_recover_57 : decode cX3_recover 57 = .ok (.aload_n 0, 1) := by decide +kernel
theorem dX3_recover_58 : decode cX3_recover 58 = .ok (.getfield 37, 3) := by decide +kernel
theorem dX3_recover_61 : decode cX3_recover 61 = .ok (.ifCond .eq 15, 3) := by decide +kernel
theorem dX3_recover_64 : decode cX3_recover 64 = .ok (.aload_n 2, 1) := by decide +kernel
theorem dX3_recover_65 : decode cX3_recover 65 = .ok (.invokevirtual 97, 3) := by decide +kernel
theorem dX3_recover_68 : decode cX3_recover 68 = .ok (.ifCond .ne 8, 3) := by decide +kernel
theorem dX3_recover_71 : decode cX3_recover 71 = .ok (.aload_n 0, 1) := by decide +kernel
theorem dX3_recover_72 : decode cX3_recover 72 = .ok (.iload_n 1, 1) := by decide +kernel
theorem dX3_recover_73 : decode cX3_recover 73 = .ok (.invokevirtual 101, 3) := by decide +kernel
theorem dX3_recover_76 : decode cX3_recover 76 = .ok (.iconst 1, 1) := by decide +kernel
theorem dX3_recover_77 : decode cX3_recover 77 = .ok (.ireturn, 1) := by decide +kernel
theorem dX3_run_0 : decode cX3_run 0 = .ok (.iload_n 1, 1) := by decide +kernel
theorem dX3_run_1 : decode cX3_run 1 = .ok (.ifCond .lt 25, 3) := by decide +kernel
theorem dX3_run_4 : decode cX3_run 4 = .ok (.iload_n 1, 1) := by decide +kernel
theorem dX3_run_5 : decode cX3_run 5 = .ok (.sipush 500, 3) := by decide +kernel
theorem dX3_run_8 : decode cX3_run 8 = .ok (.if_icmp .gt 18, 3) := by decide +kernel
theorem dX3_run_11 : decode cX3_run 11 = .ok (.aload_n 0, 1) := by decide +kernel
theorem dX3_run_12 : decode cX3_run 12 = .ok (.getfield 18, 3) := by decide +kernel
theorem dX3_run_15 : decode cX3_run 15 = .ok (.getfield 104, 3) := by decide +kernel
theorem dX3_run_18 : decode cX3_run 18 = .ok (.iload_n 1, 1) := by decide +kernel
theorem dX3_run_19 : decode cX3_run 19 = .ok (.iadd, 1) := by decide +kernel
theorem dX3_run_20 : decode cX3_run 20 = .ok (.sipush 4000, 3) := by decide +kernel
theorem dX3_run_23 : decode cX3_run 23 = .ok (.if_icmp .le 5, 3) := by decide +kernel
theorem dX3_run_26 : decode cX3_run 26 = .ok (.iconst (-1), 1) := by decide +kernel
theorem dX3_run_27 : decode cX3_run 27 = .ok (.ireturn, 1) := by decide +kernel
theorem dX3_run_28 : decode cX3_run 28 = .ok (.aload_n 0, 1) := by decide +kernel
theorem dX3_run_29 : decode cX3_run 29 = .ok (.getfield 18, 3) := by decide +kernel
theorem dX3_run_32 : decode cX3_run 32 = .ok (.getfield 104, 3) := by decide +kernel
theorem dX3_run_35 : decode cX3_run 35 = .ok (.iload_n 1, 1) := by decide +kernel
theorem dX3_run_36 : decode cX3_run 36 = .ok (.iadd, 1) := by decide +kernel
theorem dX3_run_37 : decode cX3_run 37 = .ok (.istore_n 2, 1) := by decide +kernel
theorem dX3_run_38 : decode cX3_run 38 = .ok (.iconst 0, 1) := by decide +kernel
theorem dX3_run_39 : decode cX3_run 39 = .ok (.istore_n 3, 1) := by decide +kernel
theorem dX3_run_40 : decode cX3_run 40 = .ok (.iconst 0, 1) := by decide +kernel
theorem dX3_run_41 : decode cX3_run 41 = .ok (.istore 4, 2) := by decide +kernel
theorem dX3_run_43 : decode cX3_run 43 = .ok (.iload 4, 2) := by decide +kernel
theorem dX3_run_45 : decode cX3_run 45 = .ok (.ldc 107, 2) := by decide +kernel
theorem dX3_run_47 : decode cX3_run 47 = .ok (.if_icmp .ge 33, 3) := by decide +kernel
theorem dX3_run_50 : decode cX3_run 50 = .ok (.aload_n 0, 1) := by decide +kernel
theorem dX3_run_51 : decode cX3_run 51 = .ok (.iload_n 2, 1) := by decide +kernel
theorem dX3_run_52 : decode cX3_run 52 = .ok (.invokevirtual 108, 3) := by decide +kernel
theorem dX3_run_55 : decode cX3_run 55 = .ok (.istore 5, 2) := by decide +kernel
theorem dX3_run_57 : decode cX3_run 57 = .ok (.iload 5, 2) := by decide +kernel
theorem dX3_run_59 : decode cX3_run 59 = .ok (.ifCond .ne 6, 3) := by decide +kernel
theorem dX3_run_62 : decode cX3_run 62 = .ok (.goto 18, 3) := by decide +kernel
theorem dX3_run_65 : decode cX3_run 65 = .ok (.iload 5, 2) := by decide +kernel
theorem dX3_run_67 : decode cX3_run 67 = .ok (.iconst 2, 1) := by decide +kernel
theorem dX3_run_68 : decode cX3_run 68 = .ok (.if_icmp .ne 6, 3) := by decide +kernel
theorem dX3_run_71 : decode cX3_run 71 = .ok (.iinc 3 1, 3) := by decide +kernel
theorem dX3_run_74 : decode cX3_run 74 = .ok (.iinc 4 1, 3) := by decide +kernel
theorem dX3_run_77 : decode cX3_run 77 = .ok (.goto (-34), 3) := by decide +kernel
theorem dX3_run_80 : decode cX3_run 80 = .ok (.aload_n 0, 1) := by decide +kernel
theorem dX3_run_81 : decode cX3_run 81 = .ok (.getfield 18, 3) := by decide +kernel
theorem dX3_run_84 : decode cX3_run 84 = .ok (.iload_n 2, 1) := by decide +kernel
theorem dX3_run_85 : decode cX3_run 85 = .ok (.putfield 104, 3) := by decide +kernel
theorem dX3_run_88 : decode cX3_run 88 = .ok (.iload_n 3, 1) := by decide +kernel
theorem dX3_run_89 : decode cX3_run 89 = .ok (.ireturn, 1) := by decide +kernel
theorem dX3_step_0 : decode cX3_step 0 = .ok (.iconst 0, 1) := by decide +kernel
theorem dX3_step_1 : decode cX3_step 1 = .ok (.istore_n 1, 1) := by decide +kernel
theorem dX3_step_2 : decode cX3_step 2 = .ok (.iload_n 1, 1) := by decide +kernel
theorem dX3_step_3 : decode cX3_step 3 = .ok (.ldc 107, 2) := by decide +kernel
theorem dX3_step_5 : decode cX3_step 5 = .ok (.if_icmp .ge 37, 3) := by decide +kernel
theorem dX3_step_8 : decode cX3_step 8 = .ok (.aload_n 0, 1) := by decide +kernel
theorem dX3_step_9 : decode cX3_step 9 = .ok (.sipush 4000, 3) := by decide +kernel
theorem dX3_step_12 : decode cX3_step 12 = .ok (.invokevirtual 108, 3) := by decide +kernel
theorem dX3_step_15 : decode cX3_step 15 = .ok (.istore_n 2, 1) := by decide +kernel
theorem dX3_step_16 : decode cX3_step 16 = .ok (.iload_n 2, 1) := by decide +kernel
theorem dX3_step_17 : decode cX3_step 17 = .ok (.iconst 2, 1) := by decide +kernel
theorem dX3_step_18 : decode cX3_step 18 = .ok (.if_icmp .ne 11, 3) := by decide +kernel
theorem dX3_step_21 : decode cX3_step 21 = .ok (.aload_n 0, 1) := by decide +kernel
theorem dX3_step_22 : decode cX3_step 22 = .ok (.getfield 18, 3) := by decide +kernel
theorem dX3_step_25 : decode cX3_step 25 = .ok (.getfield 104, 3) := by decide +kernel
theorem dX3_step_28 : decode cX3_step 28 = .ok (.ireturn, 1) := by decide +kernel
theorem dX3_step_29 : decode cX3_step 29 = .ok (.iload_n 2, 1) := by decide +kernel
theorem dX3_step_30 : decode cX3_step 30 = .ok (.ifCond .ne 6, 3) := by decide +kernel
theorem dX3_step_33 : decode cX3_step 33 = .ok (.goto 9, 3) := by decide +kernel
theorem dX3_step_36 : decode cX3_step 36 = .ok (.iinc 1 1, 3) := by decide +kernel
theorem dX3_step_39 : decode cX3_step 39 = .ok (.goto (-37), 3) := by decide +kernel
theorem dX3_step_42 : decode cX3_step 42 = .ok (.iconst (-1), 1) := by decide +kernel
theorem dX3_step_43 : decode cX3_step 43 = .ok (.ireturn, 1) := by decide +kernel
theorem dX3_reset_0 : decode cX3_reset 0 = .ok (.aload_n 0, 1) := by decide +kernel
theorem dX3_reset_1 : decode cX3_reset 1 = .ok (.iconst 0, 1) := by decide +kernel
theorem dX3_reset_2 : decode cX3_reset 2 = .ok (.putfield 37, 3) := by decide +kernel
theorem dX3_reset_5 : decode cX3_reset 5 = .ok (.aload_n 0, 1) := by decide +kernel
theorem dX3_reset_6 : decode cX3_reset 6 = .ok (.iconst 0, 1) := by decide +kernel
theorem dX3_reset_7 : decode cX3_reset 7 = .ok (.putfield 74, 3) := by decide +kernel
theorem dX3_reset_10 : decode cX3_reset 10 = .ok (.aload_n 0, 1) := by decide +kernel
theorem dX3_reset_11 : decode cX3_reset 11 = .ok (.iconst 0, 1) := by decide +kernel
theorem dX3_reset_12 : decode cX3_reset 12 = .ok (.putfield 112, 3) := by decide +kernel
theorem dX3_reset_15 : decode cX3_reset 15 = .ok (.aload_n 0, 1) := by decide +kernel
theorem dX3_reset_16 : decode cX3_reset 16 = .ok (.iconst 0, 1) := by decide +kernel
theorem dX3_reset_17 : decode cX3_reset 17 = .ok (.putfield 115, 3) := by decide +kernel
theorem dX3_reset_20 : decode cX3_reset 20 = .ok (.aload_n 0, 1) := by decide +kernel
theorem dX3_reset_21 : decode cX3_reset 21 = .ok (.iconst 0, 1) := by decide +kernel
theorem dX3_reset_22 : decode cX3_reset 22 = .ok (.iconst (-1), 1) := by decide +kernel
theorem dX3_reset_23 : decode cX3_reset 23 = .ok (.iconst (-1), 1) := by decide +kernel
theorem dX3_reset_24 : decode cX3_reset 24 = .ok (.iconst 0, 1) := by decide +kernel
theorem dX3_reset_25 : decode cX3_reset 25 = .ok (.iconst 0, 1) := by decide +kernel
theorem dX3_reset_26 : decode cX3_reset 26 = .ok (.invokevirtual 33, 3) := by decide +kernel
theorem dX3_reset_29 : decode cX3_reset 29 = .ok (.aload_n 0, 1) := by decide +kernel
theorem dX3_reset_30 : decode cX3_reset 30 = .ok (.getfield 18, 3) := by decide +kernel
theorem dX3_reset_33 : decode cX3_reset 33 = .ok (.invokevirtual 118, 3) := by decide +kernel
theorem dX3_reset_36 : decode cX3_reset 36 = .ok (.iconst 0, 1) := by decide +kernel
theorem dX3_reset_37 : decode cX3_reset 37 = .ok (.istore_n 1, 1) := by decide +kernel
theorem dX3_reset_38 : decode cX3_reset 38 = .ok (.iload_n 1, 1) := by decide +kernel
theorem dX3_reset_39 : decode cX3_reset 39 = .ok (.aload_n 0, 1) := by decide +kernel
theorem dX3_reset_40 : decode cX3_reset 40 = .ok (.getfield 41, 3) := by decide +kernel
theorem dX3_reset_43 : decode cX3_reset 43 = .ok (.if_icmp .ge 18, 3) := by decide +kernel
theorem dX3_reset_46 : decode cX3_reset 46 = .ok (.aload_n 0, 1) := by decide +kernel
theorem dX3_reset_47 : decode cX3_reset 47 = .ok (.getfield 11, 3) := by decide +kernel
theorem dX3_reset_50 : decode cX3_reset 50 = .ok (.iload_n 1, 1) := by decide +kernel
theorem dX3_reset_51 : decode cX3_reset 51 = .ok (.aaload, 1) := by decide +kernel
theorem dX3_reset_52 : decode cX3_reset 52 = .ok (.invokevirtual 121, 3) := by decide +kernel
theorem dX3_reset_55 : decode cX3_reset 55 = .ok (.iinc 1 1, 3) := by decide +kernel
theorem dX3_reset_58 : decode cX3_reset 58 = .ok (.goto (-20), 3) := by decide +kernel
theorem dX3_reset_61 : decode cX3_reset 61 = .ok (.iconst 1, 1) := by decide +kernel
theorem dX3_reset_62 : decode cX3_reset 62 = .ok (.ireturn, 1) := by decide +kernel
theorem dX3_of_0 : decode cX3_of 0 = .ok (.aload_n 0, 1) := by decide +kernel
theorem dX3_of_1 : decode cX3_of 1 = .ok (.iload_n 1, 1) := by decide +kernel
theorem dX3_of_2 : decode cX3_of 2 = .ok (.invokevirtual 67, 3) := by decide +kernel
theorem dX3_of_5 : decode cX3_of 5 = .ok (.ifCond .ne 5, 3) := by decide +kernel
theorem dX3_of_8 : decode cX3_of 8 = .ok (.iconst (-1), 1) := by decide +kernel
theorem dX3_of_9 : decode cX3_of 9 = .ok (.ireturn, 1) := by decide +kernel
theorem dX3_of_10 : decode cX3_of 10 = .ok (.aload_n 0, 1) := by decide +kernel
theorem dX3_of_11 : decode cX3_of 11 = .ok (.getfield 11, 3) := by decide +kernel
theorem dX3_of_14 : decode cX3_of 14 = .ok (.iload_n 1, 1) := by decide +kernel
theorem dX3_of_15 : decode cX3_of 15 = .ok (.aaload, 1) := by decide +kernel
theorem dX3_of_16 : decode cX3_of 16 = .ok (.astore_n 3, 1) := by decide +kernel
theorem dX3_of_17 : decode cX3_of 17 = .ok (.iload_n 2, 1) := by decide +kernel
theorem dX3_of_18 : decode cX3_of 18 = .ok (.tableswitch 85 0 6 #[42, 47, 60, 65, 70, 75, 80], 42) := by decide +kernel
theorem dX3_of_60 : decode cX3_of 60 = .ok (.aload_n 3, 1) := by decide +kernel
theorem dX3_of_61 : decode cX3_of 61 = .ok (.getfield 90, 3) := by decide +kernel
theorem dX3_of_64 : decode cX3_of 64 = .ok (.ireturn, 1) := by decide +kernel
theorem dX3_of_65 : decode cX3_of 65 = .ok (.aload_n 3, 1) := by decide +kernel
theorem dX3_of_66 : decode cX3_of 66 = .ok (.getfield 71, 3) := by decide +kernel
theorem dX3_of_69 : decode cX3_of 69 = .ok (.ifCond .eq 7, 3) := by decide +kernel
theorem dX3_of_72 : decode cX3_of 72 = .ok (.iconst 1, 1) := by decide +kernel
theorem dX3_of_73 : decode cX3_of 73 = .ok (.goto 4, 3) := by decide +kernel
theorem dX3_of_76 : decode cX3_of 76 = .ok (.iconst 0, 1) := by decide +kernel
theorem dX3_of_77 : decode cX3_of 77 = .ok (.ireturn, 1) := by decide +kernel
theorem dX3_of_78 : decode cX3_of 78 = .ok (.aload_n 3, 1) := by decide +kernel
theorem dX3_of_79 : decode cX3_of 79 = .ok (.getfield 84, 3) := by decide +kernel
theorem dX3_of_82 : decode cX3_of 82 = .ok (.ireturn, 1) := by decide +kernel
theorem dX3_of_83 : decode cX3_of 83 = .ok (.aload_n 3, 1) := by decide +kernel
theorem dX3_of_84 : decode cX3_of 84 = .ok (.getfield 122, 3) := by decide +kernel
theorem dX3_of_87 : decode cX3_of 87 = .ok (.ireturn, 1) := by decide +kernel
theorem dX3_of_88 : decode cX3_of 88 = .ok (.aload_n 3, 1) := by decide +kernel
theorem dX3_of_89 : decode cX3_of 89 = .ok (.getfield 124, 3) := by decide +kernel
theorem dX3_of_92 : decode cX3_of 92 = .ok (.ireturn, 1) := by decide +kernel
theorem dX3_of_93 : decode cX3_of 93 = .ok (.aload_n 3, 1) := by decide +kernel
theorem dX3_of_94 : decode cX3_of 94 = .ok (.getfield 87, 3) := by decide +kernel
theorem dX3_of_97 : decode cX3_of 97 = .ok (.ireturn, 1) := by decide +kernel
theorem dX3_of_98 : decode cX3_of 98 = .ok (.aload_n 3, 1) := by decide +kernel
theorem dX3_of_99 : decode cX3_of 99 = .ok (.getfield 127, 3) := by decide +kernel
theorem dX3_of_102 : decode cX3_of 102 = .ok (.ireturn, 1) := by decide +kernel
theorem dX3_of_103 : decode cX3_of 103 = .ok (.iconst (-1), 1) := by decide +kernel
theorem dX3_of_104 : decode cX3_of 104 = .ok (.ireturn, 1) := by decide +kernel
theorem dX3_count_0 : decode cX3_count 0 = .ok (.iload_n 1, 1) := by decide +kernel
theorem dX3_count_1 : decode cX3_count 1 = .ok (.tableswitch 117 0 9 #[55, 63, 71, 76, 84, 89, 94, 99, 104, 109], 55) := by decide +kernel
theorem dX3_count_56 : decode cX3_count 56 = .ok (.aload_n 0, 1) := by decide +kernel
theorem dX3_count_57 : decode cX3_count 57 = .ok (.getfield 18, 3) := by decide +kernel
theorem dX3_count_60 : decode cX3_count 60 = .ok (.getfield 104, 3) := by decide +kernel
theorem dX3_count_63 : decode cX3_count 63 = .ok (.ireturn, 1) := by decide +kernel
theorem dX3_count_64 : decode cX3_count 64 = .ok (.aload_n 0, 1) := by decide +kernel
theorem dX3_count_65 : decode cX3_count 65 = .ok (.getfield 18, 3) := by decide +kernel
theorem dX3_count_68 : decode cX3_count 68 = .ok (.getfield 130, 3) := by decide +kernel
theorem dX3_count_71 : decode cX3_count 71 = .ok (.ireturn, 1) := by decide +kernel
theorem dX3_count_72 : decode cX3_count 72 = .ok (.aload_n 0, 1) := by decide +kernel
theorem dX3_count_73 : decode cX3_count 73 = .ok (.getfield 112, 3) := by decide +kernel
theorem dX3_count_76 : decode cX3_count 76 = .ok (.ireturn, 1) := by decide +kernel
theorem dX3_count_77 : decode cX3_count 77 = .ok (.aload_n 0, 1) := by decide +kernel
theorem dX3_count_78 : decode cX3_count 78 = .ok (.getfield 18, 3) := by decide +kernel
theorem dX3_count_81 : decode cX3_count 81 = .ok (.getfield 133, 3) := by decide +kernel
theorem dX3_count_84 : decode cX3_count 84 = .ok (.ireturn, 1) := by decide +kernel
theorem dX3_count_85 : decode cX3_count 85 = .ok (.aload_n 0, 1) := by decide +kernel
theorem dX3_count_86 : decode cX3_count 86 = .ok (.getfield 115, 3) := by decide +kernel
theorem dX3_count_89 : decode cX3_count 89 = .ok (.ireturn, 1) := by decide +kernel
theorem dX3_count_90 : decode cX3_count 90 = .ok (.aload_n 0, 1) := by decide +kernel
theorem dX3_count_91 : decode cX3_count 91 = .ok (.getfield 41, 3) := by decide +kernel
theorem dX3_count_94 : decode cX3_count 94 = .ok (.ireturn, 1) := by decide +kernel
theorem dX3_count_95 : decode cX3_count 95 = .ok (.aload_n 0, 1) := by decide +kernel
theorem dX3_count_96 : decode cX3_count 96 = .ok (.getfield 50, 3) := by decide +kernel
theorem dX3_count_99 : decode cX3_count 99 = .ok (.ireturn, 1) := by decide +kernel
theorem dX3_count_100 : decode cX3_count 100 = .ok (.aload_n 0, 1) := by decide +kernel
theorem dX3_count_101 : decode cX3_count 101 = .ok (.getfield 53, 3) := by decide +kernel
theorem dX3_count_104 : decode cX3_count 104 = .ok (.ireturn, 1) := by decide +kernel
theorem dX3_count_105 : decode cX3_count 105 = .ok (.aload_n 0, 1) := by decide +kernel
theorem dX3_count_106 : decode cX3_count 106 = .ok (.getfield 26, 3) := by decide +kernel
theorem dX3_count_109 : decode cX3_count 109 = .ok (.ireturn, 1) := by decide +kernel
theorem dX3_count_110 : decode cX3_count 110 = .ok (.aload_n 0, 1) := by decide +kernel
theorem dX3_count_111 : decode cX3_count 111 = .ok (.getfield 18, 3) := by decide +kernel
theorem dX3_count_114 : decode cX3_count 114 = .ok (.getfield 136, 3) := by decide +kernel
theorem dX3_count_117 : decode cX3_count 117 = .ok (.ireturn, 1) := by decide +kernel
theorem dX3_count_118 : decode cX3_count 118 = .ok (.iconst (-1), 1) := by decide +kernel
theorem dX3_count_119 : decode cX3_count 119 = .ok (.ireturn, 1) := by decide +kernel
theorem dX3_delay_0 : decode cX3_delay 0 = .ok (.aload_n 0, 1) := by decide +kernel
theorem dX3_delay_1 : decode cX3_delay 1 = .ok (.iload_n 1, 1) := by decide +kernel
theorem dX3_delay_2 : decode cX3_delay 2 = .ok (.iload_n 2, 1) := by decide +kernel
theorem dX3_delay_3 : decode cX3_delay 3 = .ok (.invokevirtual 56, 3) := by decide +kernel
theorem dX3_delay_6 : decode cX3_delay 6 = .ok (.ifCond .eq 17, 3) := by decide +kernel
theorem dX3_delay_9 : decode cX3_delay 9 = .ok (.aload_n 0, 1) := by decide +kernel
theorem dX3_delay_10 : decode cX3_delay 10 = .ok (.getfield 18, 3) := by decide +kernel
theorem dX3_delay_13 : decode cX3_delay 13 = .ok (.getfield 60, 3) := by decide +kernel
theorem dX3_delay_16 : decode cX3_delay 16 = .ok (.iload_n 1, 1) := by decide +kernel
theorem dX3_delay_17 : decode cX3_delay 17 = .ok (.aaload, 1) := by decide +kernel
theorem dX3_delay_18 : decode cX3_delay 18 = .ok (.iload_n 2, 1) := by decide +kernel
theorem dX3_delay_19 : decode cX3_delay 19 = .ok (.iaload, 1) := by decide +kernel
theorem dX3_delay_20 : decode cX3_delay 20 = .ok (.goto 4, 3) := by decide +kernel
theorem dX3_delay_23 : decode cX3_delay 23 = .ok (.iconst (-1), 1) := by decide +kernel
theorem dX3_delay_24 : decode cX3_delay 24 = .ok (.ireturn, 1) := by decide +kernel
theorem dX3_weight_0 : decode cX3_weight 0 = .ok (.iconst 0, 1) := by decide +kernel
theorem dX3_weight_1 : decode cX3_weight 1 = .ok (.istore_n 2, 1) := by decide +kernel
end
section
theorem dX3_weight_2 : decode cX3_weight 2 = .ok (.iconst 0, 1) := by decide +kernel
theorem dX3_weight_3 : decode cX3_weight 3 = .ok (.istore_n 3, 1) := by decide +kernel
theorem dX3_weight_4 : decode cX3_weight 4 = .ok (.iload_n 3, 1) := by decide +kernel
theorem dX3_weight_5 : decode cX3_weight 5 = .ok (.aload_n 0, 1) := by decide +kernel
theorem dX3_weight_6 : decode cX3_weight 6 = .ok (.getfield 41, 3) := by decide +kernel
theorem dX3_weight_9 : decode cX3_weight 9 = .ok (.if_icmp .ge 34, 3) := by decide +kernel
theorem dX3_weight_12 : decode cX3_weight 12 = .ok (.aload_n 0, 1) := by decide +kernel
theorem dX3_weight_13 : decode cX3_weight 13 = .ok (.getfield 11, 3) := by decide +kernel
theorem dX3_weight_16 : decode cX3_weight 16 = .ok (.iload_n 3, 1) := by decide +kernel
theorem dX3_weight_17 : decode cX3_weight 17 = .ok (.aaload, 1) := by decide +kernel
theorem dX3_weight_18 : decode cX3_weight 18 = .ok (.getfield 90, 3) := by decide +kernel
theorem dX3_weight_21 : decode cX3_weight 21 = .ok (.iload_n 1, 1) := by decide +kernel
theorem dX3_weight_22 : decode cX3_weight 22 = .ok (.if_icmp .ne 15, 3) := by decide +kernel
theorem dX3_weight_25 : decode cX3_weight 25 = .ok (.iload_n 2, 1) := by decide +kernel
theorem dX3_weight_26 : decode cX3_weight 26 = .ok (.aload_n 0, 1) := by decide +kernel
theorem dX3_weight_27 : decode cX3_weight 27 = .ok (.getfield 11, 3) := by decide +kernel
theorem dX3_weight_30 : decode cX3_weight 30 = .ok (.iload_n 3, 1) := by decide +kernel
theorem dX3_weight_31 : decode cX3_weight 31 = .ok (.aaload, 1) := by decide +kernel
theorem dX3_weight_32 : decode cX3_weight 32 = .ok (.getfield 124, 3) := by decide +kernel
theorem dX3_weight_35 : decode cX3_weight 35 = .ok (.iadd, 1) := by decide +kernel
theorem dX3_weight_36 : decode cX3_weight 36 = .ok (.istore_n 2, 1) := by decide +kernel
theorem dX3_weight_37 : decode cX3_weight 37 = .ok (.iinc 3 1, 3) := by decide +kernel
theorem dX3_weight_40 : decode cX3_weight 40 = .ok (.goto (-36), 3) := by decide +kernel
theorem dX3_weight_43 : decode cX3_weight 43 = .ok (.iload_n 2, 1) := by decide +kernel
theorem dX3_weight_44 : decode cX3_weight 44 = .ok (.ireturn, 1) := by decide +kernel
theorem dX3_latest_0 : decode cX3_latest 0 = .ok (.iload_n 1, 1) := by decide +kernel
theorem dX3_latest_1 : decode cX3_latest 1 = .ok (.ifCond .lt 17, 3) := by decide +kernel
theorem dX3_latest_4 : decode cX3_latest 4 = .ok (.iload_n 1, 1) := by decide +kernel
theorem dX3_latest_5 : decode cX3_latest 5 = .ok (.iconst 5, 1) := by decide +kernel
theorem dX3_latest_6 : decode cX3_latest 6 = .ok (.if_icmp .ge 12, 3) := by decide +kernel
theorem dX3_latest_9 : decode cX3_latest 9 = .ok (.aload_n 0, 1) := by decide +kernel
theorem dX3_latest_10 : decode cX3_latest 10 = .ok (.getfield 22, 3) := by decide +kernel
theorem dX3_latest_13 : decode cX3_latest 13 = .ok (.iload_n 1, 1) := by decide +kernel
theorem dX3_latest_14 : decode cX3_latest 14 = .ok (.iaload, 1) := by decide +kernel
theorem dX3_latest_15 : decode cX3_latest 15 = .ok (.goto 4, 3) := by decide +kernel
theorem dX3_latest_18 : decode cX3_latest 18 = .ok (.iconst (-1), 1) := by decide +kernel
theorem dX3_latest_19 : decode cX3_latest 19 = .ok (.ireturn, 1) := by decide +kernel
theorem dX3_check_0 : decode cX3_check 0 = .ok (.iconst 0, 1) := by decide +kernel
theorem dX3_check_1 : decode cX3_check 1 = .ok (.istore_n 1, 1) := by decide +kernel
theorem dX3_check_2 : decode cX3_check 2 = .ok (.iconst 0, 1) := by decide +kernel
theorem dX3_check_3 : decode cX3_check 3 = .ok (.istore_n 2, 1) := by decide +kernel
theorem dX3_check_4 : decode cX3_check 4 = .ok (.iconst 0, 1) := by decide +kernel
theorem dX3_check_5 : decode cX3_check 5 = .ok (.istore_n 3, 1) := by decide +kernel
theorem dX3_check_6 : decode cX3_check 6 = .ok (.iload_n 3, 1) := by decide +kernel
theorem dX3_check_7 : decode cX3_check 7 = .ok (.aload_n 0, 1) := by decide +kernel
theorem dX3_check_8 : decode cX3_check 8 = .ok (.getfield 41, 3) := by decide +kernel
theorem dX3_check_11 : decode cX3_check 11 = .ok (.if_icmp .ge 85, 3) := by decide +kernel
theorem dX3_check_14 : decode cX3_check 14 = .ok (.aload_n 0, 1) := by decide +kernel
theorem dX3_check_15 : decode cX3_check 15 = .ok (.getfield 37, 3) := by decide +kernel
theorem dX3_check_18 : decode cX3_check 18 = .ok (.ifCond .eq 18, 3) := by decide +kernel
theorem dX3_check_21 : decode cX3_check 21 = .ok (.aload_n 0, 1) := by decide +kernel
theorem dX3_check_22 : decode cX3_check 22 = .ok (.getfield 74, 3) := by decide +kernel
theorem dX3_check_25 : decode cX3_check 25 = .ok (.iload_n 3, 1) := by decide +kernel
theorem dX3_check_26 : decode cX3_check 26 = .ok (.invokestatic 64, 3) := by decide +kernel
theorem dX3_check_29 : decode cX3_check 29 = .ok (.ifCond .ne 7, 3) := by decide +kernel
theorem dX3_check_32 : decode cX3_check 32 = .ok (.iconst 1, 1) := by decide +kernel
theorem dX3_check_33 : decode cX3_check 33 = .ok (.goto 4, 3) := by decide +kernel
theorem dX3_check_36 : decode cX3_check 36 = .ok (.iconst 0, 1) := by decide +kernel
theorem dX3_check_37 : decode cX3_check 37 = .ok (.istore 4, 2) := by decide +kernel
theorem dX3_check_39 : decode cX3_check 39 = .ok (.iload_n 1, 1) := by decide +kernel
theorem dX3_check_40 : decode cX3_check 40 = .ok (.ifCond .ne 16, 3) := by decide +kernel
theorem dX3_check_43 : decode cX3_check 43 = .ok (.aload_n 0, 1) := by decide +kernel
theorem dX3_check_44 : decode cX3_check 44 = .ok (.getfield 11, 3) := by decide +kernel
theorem dX3_check_47 : decode cX3_check 47 = .ok (.iload_n 3, 1) := by decide +kernel
theorem dX3_check_48 : decode cX3_check 48 = .ok (.aaload, 1) := by decide +kernel
theorem dX3_check_49 : decode cX3_check 49 = .ok (.getfield 90, 3) := by decide +kernel
theorem dX3_check_52 : decode cX3_check 52 = .ok (.iconst 4, 1) := by decide +kernel
theorem dX3_check_53 : decode cX3_check 53 = .ok (.if_icmp .ne 7, 3) := by decide +kernel
theorem dX3_check_56 : decode cX3_check 56 = .ok (.iconst 1, 1) := by decide +kernel
theorem dX3_check_57 : decode cX3_check 57 = .ok (.goto 4, 3) := by decide +kernel
theorem dX3_check_60 : decode cX3_check 60 = .ok (.iconst 0, 1) := by decide +kernel
theorem dX3_check_61 : decode cX3_check 61 = .ok (.istore_n 1, 1) := by decide +kernel
theorem dX3_check_62 : decode cX3_check 62 = .ok (.iload_n 2, 1) := by decide +kernel
theorem dX3_check_63 : decode cX3_check 63 = .ok (.ifCond .ne 21, 3) := by decide +kernel
theorem dX3_check_66 : decode cX3_check 66 = .ok (.iload 4, 2) := by decide +kernel
theorem dX3_check_68 : decode cX3_check 68 = .ok (.ifCond .ne 16, 3) := by decide +kernel
theorem dX3_check_71 : decode cX3_check 71 = .ok (.aload_n 0, 1) := by decide +kernel
theorem dX3_check_72 : decode cX3_check 72 = .ok (.getfield 11, 3) := by decide +kernel
theorem dX3_check_75 : decode cX3_check 75 = .ok (.iload_n 3, 1) := by decide +kernel
theorem dX3_check_76 : decode cX3_check 76 = .ok (.aaload, 1) := by decide +kernel
theorem dX3_check_77 : decode cX3_check 77 = .ok (.getfield 90, 3) := by decide +kernel
theorem dX3_check_80 : decode cX3_check 80 = .ok (.iconst 5, 1) := by decide +kernel
theorem dX3_check_81 : decode cX3_check 81 = .ok (.if_icmp .ne 7, 3) := by decide +kernel
theorem dX3_check_84 : decode cX3_check 84 = .ok (.iconst 1, 1) := by decide +kernel
theorem dX3_check_85 : decode cX3_check 85 = .ok (.goto 4, 3) := by decide +kernel
theorem dX3_check_88 : decode cX3_check 88 = .ok (.iconst 0, 1) := by decide +kernel
theorem dX3_check_89 : decode cX3_check 89 = .ok (.istore_n 2, 1) := by decide +kernel
theorem dX3_check_90 : decode cX3_check 90 = .ok (.iinc 3 1, 3) := by decide +kernel
theorem dX3_check_93 : decode cX3_check 93 = .ok (.goto (-87), 3) := by decide +kernel
theorem dX3_check_96 : decode cX3_check 96 = .ok (.iload_n 1, 1) := by decide +kernel
theorem dX3_check_97 : decode cX3_check 97 = .ok (.ifCond .eq 11, 3) := by decide +kernel
theorem dX3_check_100 : decode cX3_check 100 = .ok (.iload_n 2, 1) := by decide +kernel
theorem dX3_check_101 : decode cX3_check 101 = .ok (.ifCond .eq 7, 3) := by decide +kernel
theorem dX3_check_104 : decode cX3_check 104 = .ok (.iconst 0, 1) := by decide +kernel
theorem dX3_check_105 : decode cX3_check 105 = .ok (.goto 4, 3) := by decide +kernel
theorem dX3_check_108 : decode cX3_check 108 = .ok (.iconst 1, 1) := by decide +kernel
theorem dX3_check_109 : decode cX3_check 109 = .ok (.ireturn, 1) := by decide +kernel
theorem dX3_isSite_0 : decode cX3_isSite 0 = .ok (.iload_n 1, 1) := by decide +kernel
theorem dX3_isSite_1 : decode cX3_isSite 1 = .ok (.ifCond .lt 15, 3) := by decide +kernel
theorem dX3_isSite_4 : decode cX3_isSite 4 = .ok (.iload_n 1, 1) := by decide +kernel
theorem dX3_isSite_5 : decode cX3_isSite 5 = .ok (.aload_n 0, 1) := by decide +kernel
theorem dX3_isSite_6 : decode cX3_isSite 6 = .ok (.getfield 41, 3) := by decide +kernel
theorem dX3_isSite_9 : decode cX3_isSite 9 = .ok (.if_icmp .ge 7, 3) := by decide +kernel
theorem dX3_isSite_12 : decode cX3_isSite 12 = .ok (.iconst 1, 1) := by decide +kernel
theorem dX3_isSite_13 : decode cX3_isSite 13 = .ok (.goto 4, 3) := by decide +kernel
theorem dX3_isSite_16 : decode cX3_isSite 16 = .ok (.iconst 0, 1) := by decide +kernel
theorem dX3_isSite_17 : decode cX3_isSite 17 = .ok (.ireturn, 1) := by decide +kernel
theorem dX3_isLink_0 : decode cX3_isLink 0 = .ok (.aload_n 0, 1) := by decide +kernel
theorem dX3_isLink_1 : decode cX3_isLink 1 = .ok (.iload_n 1, 1) := by decide +kernel
theorem dX3_isLink_2 : decode cX3_isLink 2 = .ok (.invokevirtual 67, 3) := by decide +kernel
theorem dX3_isLink_5 : decode cX3_isLink 5 = .ok (.ifCond .eq 20, 3) := by decide +kernel
theorem dX3_isLink_8 : decode cX3_isLink 8 = .ok (.aload_n 0, 1) := by decide +kernel
theorem dX3_isLink_9 : decode cX3_isLink 9 = .ok (.iload_n 2, 1) := by decide +kernel
theorem dX3_isLink_10 : decode cX3_isLink 10 = .ok (.invokevirtual 67, 3) := by decide +kernel
theorem dX3_isLink_13 : decode cX3_isLink 13 = .ok (.ifCond .eq 12, 3) := by decide +kernel
theorem dX3_isLink_16 : decode cX3_isLink 16 = .ok (.iload_n 1, 1) := by decide +kernel
theorem dX3_isLink_17 : decode cX3_isLink 17 = .ok (.iload_n 2, 1) := by decide +kernel
theorem dX3_isLink_18 : decode cX3_isLink 18 = .ok (.if_icmp .eq 7, 3) := by decide +kernel
theorem dX3_isLink_21 : decode cX3_isLink 21 = .ok (.iconst 1, 1) := by decide +kernel
theorem dX3_isLink_22 : decode cX3_isLink 22 = .ok (.goto 4, 3) := by decide +kernel
theorem dX3_isLink_25 : decode cX3_isLink 25 = .ok (.iconst 0, 1) := by decide +kernel
theorem dX3_isLink_26 : decode cX3_isLink 26 = .ok (.ireturn, 1) := by decide +kernel
theorem dX3_hasBit_0 : decode cX3_hasBit 0 = .ok (.iload_n 0, 1) := by decide +kernel
theorem dX3_hasBit_1 : decode cX3_hasBit 1 = .ok (.iload_n 1, 1) := by decide +kernel
theorem dX3_hasBit_2 : decode cX3_hasBit 2 = .ok (.ishr, 1) := by decide +kernel
theorem dX3_hasBit_3 : decode cX3_hasBit 3 = .ok (.iconst 1, 1) := by decide +kernel
theorem dX3_hasBit_4 : decode cX3_hasBit 4 = .ok (.iand, 1) := by decide +kernel
theorem dX3_hasBit_5 : decode cX3_hasBit 5 = .ok (.ifCond .eq 7, 3) := by decide +kernel
theorem dX3_hasBit_8 : decode cX3_hasBit 8 = .ok (.iconst 1, 1) := by decide +kernel
theorem dX3_hasBit_9 : decode cX3_hasBit 9 = .ok (.goto 4, 3) := by decide +kernel
theorem dX3_hasBit_12 : decode cX3_hasBit 12 = .ok (.iconst 0, 1) := by decide +kernel
theorem dX3_hasBit_13 : decode cX3_hasBit 13 = .ok (.ireturn, 1) := by decide +kernel
theorem dX3_everyone_0 : decode cX3_everyone 0 = .ok (.iconst 1, 1) := by decide +kernel
theorem dX3_everyone_1 : decode cX3_everyone 1 = .ok (.aload_n 0, 1) := by decide +kernel
theorem dX3_everyone_2 : decode cX3_everyone 2 = .ok (.getfield 41, 3) := by decide +kernel
theorem dX3_everyone_5 : decode cX3_everyone 5 = .ok (.ishl, 1) := by decide +kernel
theorem dX3_everyone_6 : decode cX3_everyone 6 = .ok (.iconst 1, 1) := by decide +kernel
theorem dX3_everyone_7 : decode cX3_everyone 7 = .ok (.isub, 1) := by decide +kernel
theorem dX3_everyone_8 : decode cX3_everyone 8 = .ok (.ireturn, 1) := by decide +kernel
theorem dX3_allBut_0 : decode cX3_allBut 0 = .ok (.aload_n 0, 1) := by decide +kernel
theorem dX3_allBut_1 : decode cX3_allBut 1 = .ok (.invokevirtual 139, 3) := by decide +kernel
theorem dX3_allBut_4 : decode cX3_allBut 4 = .ok (.iconst 1, 1) := by decide +kernel
theorem dX3_allBut_5 : decode cX3_allBut 5 = .ok (.iload_n 1, 1) := by decide +kernel
theorem dX3_allBut_6 : decode cX3_allBut 6 = .ok (.ishl, 1) := by decide +kernel
theorem dX3_allBut_7 : decode cX3_allBut 7 = .ok (.iconst (-1), 1) := by decide +kernel
theorem dX3_allBut_8 : decode cX3_allBut 8 = .ok (.ixor, 1) := by decide +kernel
theorem dX3_allBut_9 : decode cX3_allBut 9 = .ok (.iand, 1) := by decide +kernel
theorem dX3_allBut_10 : decode cX3_allBut 10 = .ok (.ireturn, 1) := by decide +kernel
theorem dX3_shareQuorums_0 : decode cX3_shareQuorums 0 = .ok (.aload_n 0, 1) := by decide +kernel
theorem dX3_shareQuorums_1 : decode cX3_shareQuorums 1 = .ok (.aload_n 0, 1) := by decide +kernel
theorem dX3_shareQuorums_2 : decode cX3_shareQuorums 2 = .ok (.getfield 47, 3) := by decide +kernel
theorem dX3_shareQuorums_5 : decode cX3_shareQuorums 5 = .ok (.iconst 2, 1) := by decide +kernel
theorem dX3_shareQuorums_6 : decode cX3_shareQuorums 6 = .ok (.idiv, 1) := by decide +kernel
theorem dX3_shareQuorums_7 : decode cX3_shareQuorums 7 = .ok (.iconst 1, 1) := by decide +kernel
theorem dX3_shareQuorums_8 : decode cX3_shareQuorums 8 = .ok (.iadd, 1) := by decide +kernel
theorem dX3_shareQuorums_9 : decode cX3_shareQuorums 9 = .ok (.putfield 50, 3) := by decide +kernel
theorem dX3_shareQuorums_12 : decode cX3_shareQuorums 12 = .ok (.aload_n 0, 1) := by decide +kernel
theorem dX3_shareQuorums_13 : decode cX3_shareQuorums 13 = .ok (.aload_n 0, 1) := by decide +kernel
theorem dX3_shareQuorums_14 : decode cX3_shareQuorums 14 = .ok (.getfield 47, 3) := by decide +kernel
theorem dX3_shareQuorums_17 : decode cX3_shareQuorums 17 = .ok (.iconst 2, 1) := by decide +kernel
theorem dX3_shareQuorums_18 : decode cX3_shareQuorums 18 = .ok (.idiv, 1) := by decide +kernel
theorem dX3_shareQuorums_19 : decode cX3_shareQuorums 19 = .ok (.iconst 1, 1) := by decide +kernel
theorem dX3_shareQuorums_20 : decode cX3_shareQuorums 20 = .ok (.iadd, 1) := by decide +kernel
theorem dX3_shareQuorums_21 : decode cX3_shareQuorums 21 = .ok (.putfield 53, 3) := by decide +kernel
theorem dX3_shareQuorums_24 : decode cX3_shareQuorums 24 = .ok (.return_, 1) := by decide +kernel
theorem dX3_note_0 : decode cX3_note 0 = .ok (.aload_n 0, 1) := by decide +kernel
theorem dX3_note_1 : decode cX3_note 1 = .ok (.getfield 22, 3) := by decide +kernel
theorem dX3_note_4 : decode cX3_note 4 = .ok (.iconst 0, 1) := by decide +kernel
theorem dX3_note_5 : decode cX3_note 5 = .ok (.iload_n 1, 1) := by decide +kernel
theorem dX3_note_6 : decode cX3_note 6 = .ok (.iastore, 1) := by decide +kernel
theorem dX3_note_7 : decode cX3_note 7 = .ok (.aload_n 0, 1) := by decide +kernel
theorem dX3_note_8 : decode cX3_note 8 = .ok (.getfield 22, 3) := by decide +kernel
theorem dX3_note_11 : decode cX3_note 11 = .ok (.iconst 1, 1) := by decide +kernel
theorem dX3_note_12 : decode cX3_note 12 = .ok (.iload_n 2, 1) := by decide +kernel
theorem dX3_note_13 : decode cX3_note 13 = .ok (.iastore, 1) := by decide +kernel
theorem dX3_note_14 : decode cX3_note 14 = .ok (.aload_n 0, 1) := by decide +kernel
theorem dX3_note_15 : decode cX3_note 15 = .ok (.getfield 22, 3) := by decide +kernel
theorem dX3_note_18 : decode cX3_note 18 = .ok (.iconst 2, 1) := by decide +kernel
theorem dX3_note_19 : decode cX3_note 19 = .ok (.iload_n 3, 1) := by decide +kernel
theorem dX3_note_20 : decode cX3_note 20 = .ok (.iastore, 1) := by decide +kernel
theorem dX3_note_21 : decode cX3_note 21 = .ok (.aload_n 0, 1) := by decide +kernel
theorem dX3_note_22 : decode cX3_note 22 = .ok (.getfield 22, 3) := by decide +kernel
theorem dX3_note_25 : decode cX3_note 25 = .ok (.iconst 3, 1) := by decide +kernel
theorem dX3_note_26 : decode cX3_note 26 = .ok (.iload 4, 2) := by decide +kernel
theorem dX3_note_28 : decode cX3_note 28 = .ok (.iastore, 1) := by decide +kernel
theorem dX3_note_29 : decode cX3_note 29 = .ok (.aload_n 0, 1) := by decide +kernel
theorem dX3_note_30 : decode cX3_note 30 = .ok (.getfield 22, 3) := by decide +kernel
theorem dX3_note_33 : decode cX3_note 33 = .ok (.iconst 4, 1) := by decide +kernel
theorem dX3_note_34 : decode cX3_note 34 = .ok (.iload 5, 2) := by decide +kernel
theorem dX3_note_36 : decode cX3_note 36 = .ok (.iastore, 1) := by decide +kernel
theorem dX3_note_37 : decode cX3_note 37 = .ok (.return_, 1) := by decide +kernel
theorem dX3_takeNext_0 : decode cX3_takeNext 0 = .ok (.aload_n 0, 1) := by decide +kernel
theorem dX3_takeNext_1 : decode cX3_takeNext 1 = .ok (.getfield 18, 3) := by decide +kernel
theorem dX3_takeNext_4 : decode cX3_takeNext 4 = .ok (.invokevirtual 143, 3) := by decide +kernel
theorem dX3_takeNext_7 : decode cX3_takeNext 7 = .ok (.astore_n 2, 1) := by decide +kernel
theorem dX3_takeNext_8 : decode cX3_takeNext 8 = .ok (.aload_n 0, 1) := by decide +kernel
theorem dX3_takeNext_9 : decode cX3_takeNext 9 = .ok (.invokevirtual 147, 3) := by decide +kernel
theorem dX3_takeNext_12 : decode cX3_takeNext 12 = .ok (.istore_n 3, 1) := by decide +kernel
theorem dX3_takeNext_13 : decode cX3_takeNext 13 = .ok (.iload_n 3, 1) := by decide +kernel
theorem dX3_takeNext_14 : decode cX3_takeNext 14 = .ok (.iconst (-1), 1) := by decide +kernel
theorem dX3_takeNext_15 : decode cX3_takeNext 15 = .ok (.if_icmp .eq 84, 3) := by decide +kernel
theorem dX3_takeNext_18 : decode cX3_takeNext 18 = .ok (.aload_n 0, 1) := by decide +kernel
theorem dX3_takeNext_19 : decode cX3_takeNext 19 = .ok (.getfield 11, 3) := by decide +kernel
theorem dX3_takeNext_22 : decode cX3_takeNext 22 = .ok (.iload_n 3, 1) := by decide +kernel
theorem dX3_takeNext_23 : decode cX3_takeNext 23 = .ok (.aaload, 1) := by decide +kernel
theorem dX3_takeNext_24 : decode cX3_takeNext 24 = .ok (.aload_n 2, 1) := by decide +kernel
theorem dX3_takeNext_25 : decode cX3_takeNext 25 = .ok (.invokevirtual 150, 3) := by decide +kernel
theorem dX3_takeNext_28 : decode cX3_takeNext 28 = .ok (.ifCond .eq 71, 3) := by decide +kernel
theorem dX3_takeNext_31 : decode cX3_takeNext 31 = .ok (.aload_n 0, 1) := by decide +kernel
theorem dX3_takeNext_32 : decode cX3_takeNext 32 = .ok (.getfield 11, 3) := by decide +kernel
theorem dX3_takeNext_35 : decode cX3_takeNext 35 = .ok (.iload_n 3, 1) := by decide +kernel
theorem dX3_takeNext_36 : decode cX3_takeNext 36 = .ok (.aaload, 1) := by decide +kernel
theorem dX3_takeNext_37 : decode cX3_takeNext 37 = .ok (.getfield 87, 3) := by decide +kernel
theorem dX3_takeNext_40 : decode cX3_takeNext 40 = .ok (.iload_n 1, 1) := by decide +kernel
theorem dX3_takeNext_41 : decode cX3_takeNext 41 = .ok (.if_icmp .le 5, 3) := by decide +kernel
theorem dX3_takeNext_44 : decode cX3_takeNext 44 = .ok (.iconst 0, 1) := by decide +kernel
theorem dX3_takeNext_45 : decode cX3_takeNext 45 = .ok (.ireturn, 1) := by decide +kernel
theorem dX3_takeNext_46 : decode cX3_takeNext 46 = .ok (.aload_n 0, 1) := by decide +kernel
theorem dX3_takeNext_47 : decode cX3_takeNext 47 = .ok (.getfield 18, 3) := by decide +kernel
theorem dX3_takeNext_50 : decode cX3_takeNext 50 = .ok (.aload_n 0, 1) := by decide +kernel
theorem dX3_takeNext_51 : decode cX3_takeNext 51 = .ok (.getfield 11, 3) := by decide +kernel
theorem dX3_takeNext_54 : decode cX3_takeNext 54 = .ok (.iload_n 3, 1) := by decide +kernel
theorem dX3_takeNext_55 : decode cX3_takeNext 55 = .ok (.aaload, 1) := by decide +kernel
theorem dX3_takeNext_56 : decode cX3_takeNext 56 = .ok (.getfield 87, 3) := by decide +kernel
theorem dX3_takeNext_59 : decode cX3_takeNext 59 = .ok (.putfield 104, 3) := by decide +kernel
theorem dX3_takeNext_62 : decode cX3_takeNext 62 = .ok (.aload_n 0, 1) := by decide +kernel
theorem dX3_takeNext_63 : decode cX3_takeNext 63 = .ok (.getfield 11, 3) := by decide +kernel
theorem dX3_takeNext_66 : decode cX3_takeNext 66 = .ok (.iload_n 3, 1) := by decide +kernel
theorem dX3_takeNext_67 : decode cX3_takeNext 67 = .ok (.aaload, 1) := by decide +kernel
theorem dX3_takeNext_68 : decode cX3_takeNext 68 = .ok (.iconst (-1), 1) := by decide +kernel
theorem dX3_takeNext_69 : decode cX3_takeNext 69 = .ok (.putfield 87, 3) := by decide +kernel
theorem dX3_takeNext_72 : decode cX3_takeNext 72 = .ok (.aload_n 0, 1) := by decide +kernel
theorem dX3_takeNext_73 : decode cX3_takeNext 73 = .ok (.dup, 1) := by decide +kernel
theorem dX3_takeNext_74 : decode cX3_takeNext 74 = .ok (.getfield 115, 3) := by decide +kernel
theorem dX3_takeNext_77 : decode cX3_takeNext 77 = .ok (.iconst 1, 1) := by decide +kernel
theorem dX3_takeNext_78 : decode cX3_takeNext 78 = .ok (.iadd, 1) := by decide +kernel
theorem dX3_takeNext_79 : decode cX3_takeNext 79 = .ok (.putfield 115, 3) := by decide +kernel
theorem dX3_takeNext_82 : decode cX3_takeNext 82 = .ok (.aload_n 0, 1) := by decide +kernel
theorem dX3_takeNext_83 : decode cX3_takeNext 83 = .ok (.bipush 11, 2) := by decide +kernel
theorem dX3_takeNext_85 : decode cX3_takeNext 85 = .ok (.iload_n 3, 1) := by decide +kernel
theorem dX3_takeNext_86 : decode cX3_takeNext 86 = .ok (.iload_n 3, 1) := by decide +kernel
theorem dX3_takeNext_87 : decode cX3_takeNext 87 = .ok (.iconst 0, 1) := by decide +kernel
theorem dX3_takeNext_88 : decode cX3_takeNext 88 = .ok (.iconst 0, 1) := by decide +kernel
theorem dX3_takeNext_89 : decode cX3_takeNext 89 = .ok (.invokevirtual 33, 3) := by decide +kernel
theorem dX3_takeNext_92 : decode cX3_takeNext 92 = .ok (.aload_n 0, 1) := by decide +kernel
theorem dX3_takeNext_93 : decode cX3_takeNext 93 = .ok (.iload_n 3, 1) := by decide +kernel
theorem dX3_takeNext_94 : decode cX3_takeNext 94 = .ok (.invokevirtual 154, 3) := by decide +kernel
theorem dX3_takeNext_97 : decode cX3_takeNext 97 = .ok (.iconst 2, 1) := by decide +kernel
theorem dX3_takeNext_98 : decode cX3_takeNext 98 = .ok (.ireturn, 1) := by decide +kernel
theorem dX3_takeNext_99 : decode cX3_takeNext 99 = .ok (.aload_n 2, 1) := by decide +kernel
theorem dX3_takeNext_100 : decode cX3_takeNext 100 = .ok (.ifnull 11, 3) := by decide +kernel
theorem dX3_takeNext_103 : decode cX3_takeNext 103 = .ok (.aload_n 2, 1) := by decide +kernel
theorem dX3_takeNext_104 : decode cX3_takeNext 104 = .ok (.getfield 157, 3) := by decide +kernel
theorem dX3_takeNext_107 : decode cX3_takeNext 107 = .ok (.iload_n 1, 1) := by decide +kernel
theorem dX3_takeNext_108 : decode cX3_takeNext 108 = .ok (.if_icmp .le 5, 3) := by decide +kernel
theorem dX3_takeNext_111 : decode cX3_takeNext 111 = .ok (.iconst 0, 1) := by decide +kernel
theorem dX3_takeNext_112 : decode cX3_takeNext 112 = .ok (.ireturn, 1) := by decide +kernel
theorem dX3_takeNext_113 : decode cX3_takeNext 113 = .ok (.aload_n 0, 1) := by decide +kernel
theorem dX3_takeNext_114 : decode cX3_takeNext 114 = .ok (.getfield 18, 3) := by decide +kernel
theorem dX3_takeNext_117 : decode cX3_takeNext 117 = .ok (.aload_n 2, 1) := by decide +kernel
theorem dX3_takeNext_118 : decode cX3_takeNext 118 = .ok (.getfield 157, 3) := by decide +kernel
theorem dX3_takeNext_121 : decode cX3_takeNext 121 = .ok (.putfield 104, 3) := by decide +kernel
theorem dX3_takeNext_124 : decode cX3_takeNext 124 = .ok (.aload_n 0, 1) := by decide +kernel
theorem dX3_takeNext_125 : decode cX3_takeNext 125 = .ok (.getfield 18, 3) := by decide +kernel
theorem dX3_takeNext_128 : decode cX3_takeNext 128 = .ok (.aload_n 2, 1) := by decide +kernel
theorem dX3_takeNext_129 : decode cX3_takeNext 129 = .ok (.invokevirtual 160, 3) := by decide +kernel
theorem dX3_takeNext_132 : decode cX3_takeNext 132 = .ok (.aload_n 0, 1) := by decide +kernel
theorem dX3_takeNext_133 : decode cX3_takeNext 133 = .ok (.getfield 11, 3) := by decide +kernel
theorem dX3_takeNext_136 : decode cX3_takeNext 136 = .ok (.aload_n 2, 1) := by decide +kernel
theorem dX3_takeNext_137 : decode cX3_takeNext 137 = .ok (.getfield 164, 3) := by decide +kernel
theorem dX3_takeNext_140 : decode cX3_takeNext 140 = .ok (.aaload, 1) := by decide +kernel
theorem dX3_takeNext_141 : decode cX3_takeNext 141 = .ok (.getfield 71, 3) := by decide +kernel
theorem dX3_takeNext_144 : decode cX3_takeNext 144 = .ok (.istore 4, 2) := by decide +kernel
theorem dX3_takeNext_146 : decode cX3_takeNext 146 = .ok (.iload 4, 2) := by decide +kernel
theorem dX3_takeNext_148 : decode cX3_takeNext 148 = .ok (.ifCond .eq 45, 3) := by decide +kernel
theorem dX3_takeNext_151 : decode cX3_takeNext 151 = .ok (.aload_n 0, 1) := by decide +kernel
theorem dX3_takeNext_152 : decode cX3_takeNext 152 = .ok (.dup, 1) := by decide +kernel
theorem dX3_takeNext_153 : decode cX3_takeNext 153 = .ok (.getfield 112, 3) := by decide +kernel
theorem dX3_takeNext_156 : decode cX3_takeNext 156 = .ok (.iconst 1, 1) := by decide +kernel
theorem dX3_takeNext_157 : decode cX3_takeNext 157 = .ok (.iadd, 1) := by decide +kernel
theorem dX3_takeNext_158 : decode cX3_takeNext 158 = .ok (.putfield 112, 3) := by decide +kernel
theorem dX3_takeNext_161 : decode cX3_takeNext 161 = .ok (.aload_n 0, 1) := by decide +kernel
theorem dX3_takeNext_162 : decode cX3_takeNext 162 = .ok (.aload_n 2, 1) := by decide +kernel
theorem dX3_takeNext_163 : decode cX3_takeNext 163 = .ok (.getfield 167, 3) := by decide +kernel
theorem dX3_takeNext_166 : decode cX3_takeNext 166 = .ok (.aload_n 2, 1) := by decide +kernel
theorem dX3_takeNext_167 : decode cX3_takeNext 167 = .ok (.getfield 164, 3) := by decide +kernel
theorem dX3_takeNext_170 : decode cX3_takeNext 170 = .ok (.aload_n 2, 1) := by decide +kernel
theorem dX3_takeNext_171 : decode cX3_takeNext 171 = .ok (.getfield 170, 3) := by decide +kernel
theorem dX3_takeNext_174 : decode cX3_takeNext 174 = .ok (.aload_n 2, 1) := by decide +kernel
theorem dX3_takeNext_175 : decode cX3_takeNext 175 = .ok (.getfield 173, 3) := by decide +kernel
theorem dX3_takeNext_178 : decode cX3_takeNext 178 = .ok (.aload_n 2, 1) := by decide +kernel
theorem dX3_takeNext_179 : decode cX3_takeNext 179 = .ok (.getfield 174, 3) := by decide +kernel
theorem dX3_takeNext_182 : decode cX3_takeNext 182 = .ok (.invokevirtual 33, 3) := by decide +kernel
theorem dX3_takeNext_185 : decode cX3_takeNext 185 = .ok (.aload_n 0, 1) := by decide +kernel
theorem dX3_takeNext_186 : decode cX3_takeNext 186 = .ok (.aload_n 2, 1) := by decide +kernel
theorem dX3_takeNext_187 : decode cX3_takeNext 187 = .ok (.invokevirtual 177, 3) := by decide +kernel
theorem dX3_takeNext_190 : decode cX3_takeNext 190 = .ok (.goto 16, 3) := by decide +kernel
theorem dX3_takeNext_193 : decode cX3_takeNext 193 = .ok (.aload_n 0, 1) := by decide +kernel
theorem dX3_takeNext_194 : decode cX3_takeNext 194 = .ok (.getfield 18, 3) := by decide +kernel
theorem dX3_takeNext_197 : decode cX3_takeNext 197 = .ok (.dup, 1) := by decide +kernel
theorem dX3_takeNext_198 : decode cX3_takeNext 198 = .ok (.getfield 133, 3) := by decide +kernel
theorem dX3_takeNext_201 : decode cX3_takeNext 201 = .ok (.iconst 1, 1) := by decide +kernel
theorem dX3_takeNext_202 : decode cX3_takeNext 202 = .ok (.iadd, 1) := by decide +kernel
theorem dX3_takeNext_203 : decode cX3_takeNext 203 = .ok (.putfield 133, 3) := by decide +kernel
theorem dX3_takeNext_206 : decode cX3_takeNext 206 = .ok (.aload_n 0, 1) := by decide +kernel
theorem dX3_takeNext_207 : decode cX3_takeNext 207 = .ok (.getfield 18, 3) := by decide +kernel
theorem dX3_takeNext_210 : decode cX3_takeNext 210 = .ok (.aload_n 2, 1) := by decide +kernel
theorem dX3_takeNext_211 : decode cX3_takeNext 211 = .ok (.invokevirtual 180, 3) := by decide +kernel
theorem dX3_takeNext_214 : decode cX3_takeNext 214 = .ok (.iload 4, 2) := by decide +kernel
theorem dX3_takeNext_216 : decode cX3_takeNext 216 = .ok (.ifCond .eq 7, 3) := by decide +kernel
theorem dX3_takeNext_219 : decode cX3_takeNext 219 = .ok (.iconst 2, 1) := by decide +kernel
theorem dX3_takeNext_220 : decode cX3_takeNext 220 = .ok (.goto 4, 3) := by decide +kernel
theorem dX3_takeNext_223 : decode cX3_takeNext 223 = .ok (.iconst 1, 1) := by decide +kernel
theorem dX3_takeNext_224 : decode cX3_takeNext 224 = .ok (.ireturn, 1) := by decide +kernel
theorem dX3_firstTimer_0 : decode cX3_firstTimer 0 = .ok (.iconst (-1), 1) := by decide +kernel
theorem dX3_firstTimer_1 : decode cX3_firstTimer 1 = .ok (.istore_n 1, 1) := by decide +kernel
theorem dX3_firstTimer_2 : decode cX3_firstTimer 2 = .ok (.iconst 0, 1) := by decide +kernel
theorem dX3_firstTimer_3 : decode cX3_firstTimer 3 = .ok (.istore_n 2, 1) := by decide +kernel
theorem dX3_firstTimer_4 : decode cX3_firstTimer 4 = .ok (.iload_n 2, 1) := by decide +kernel
theorem dX3_firstTimer_5 : decode cX3_firstTimer 5 = .ok (.aload_n 0, 1) := by decide +kernel
theorem dX3_firstTimer_6 : decode cX3_firstTimer 6 = .ok (.getfield 41, 3) := by decide +kernel
theorem dX3_firstTimer_9 : decode cX3_firstTimer 9 = .ok (.if_icmp .ge 47, 3) := by decide +kernel
theorem dX3_firstTimer_12 : decode cX3_firstTimer 12 = .ok (.aload_n 0, 1) := by decide +kernel
theorem dX3_firstTimer_13 : decode cX3_firstTimer 13 = .ok (.getfield 11, 3) := by decide +kernel
theorem dX3_firstTimer_16 : decode cX3_firstTimer 16 = .ok (.iload_n 2, 1) := by decide +kernel
theorem dX3_firstTimer_17 : decode cX3_firstTimer 17 = .ok (.aaload, 1) := by decide +kernel
theorem dX3_firstTimer_18 : decode cX3_firstTimer 18 = .ok (.getfield 87, 3) := by decide +kernel
theorem dX3_firstTimer_21 : decode cX3_firstTimer 21 = .ok (.iconst (-1), 1) := by decide +kernel
theorem dX3_firstTimer_22 : decode cX3_firstTimer 22 = .ok (.if_icmp .eq 28, 3) := by decide +kernel
theorem dX3_firstTimer_25 : decode cX3_firstTimer 25 = .ok (.iload_n 1, 1) := by decide +kernel
theorem dX3_firstTimer_26 : decode cX3_firstTimer 26 = .ok (.iconst (-1), 1) := by decide +kernel
theorem dX3_firstTimer_27 : decode cX3_firstTimer 27 = .ok (.if_icmp .eq 21, 3) := by decide +kernel
theorem dX3_firstTimer_30 : decode cX3_firstTimer 30 = .ok (.aload_n 0, 1) := by decide +kernel
theorem dX3_firstTimer_31 : decode cX3_firstTimer 31 = .ok (.getfield 11, 3) := by decide +kernel
theorem dX3_firstTimer_34 : decode cX3_firstTimer 34 = .ok (.iload_n 2, 1) := by decide +kernel
theorem dX3_firstTimer_35 : decode cX3_firstTimer 35 = .ok (.aaload, 1) := by decide +kernel
theorem dX3_firstTimer_36 : decode cX3_firstTimer 36 = .ok (.aload_n 0, 1) := by decide +kernel
theorem dX3_firstTimer_37 : decode cX3_firstTimer 37 = .ok (.getfield 11, 3) := by decide +kernel
theorem dX3_firstTimer_40 : decode cX3_firstTimer 40 = .ok (.iload_n 1, 1) := by decide +kernel
theorem dX3_firstTimer_41 : decode cX3_firstTimer 41 = .ok (.aaload, 1) := by decide +kernel
theorem dX3_firstTimer_42 : decode cX3_firstTimer 42 = .ok (.invokevirtual 183, 3) := by decide +kernel
theorem dX3_firstTimer_45 : decode cX3_firstTimer 45 = .ok (.ifCond .eq 5, 3) := by decide +kernel
theorem dX3_firstTimer_48 : decode cX3_firstTimer 48 = .ok (.iload_n 2, 1) := by decide +kernel
theorem dX3_firstTimer_49 : decode cX3_firstTimer 49 = .ok (.istore_n 1, 1) := by decide +kernel
theorem dX3_firstTimer_50 : decode cX3_firstTimer 50 = .ok (.iinc 2 1, 3) := by decide +kernel
theorem dX3_firstTimer_53 : decode cX3_firstTimer 53 = .ok (.goto (-49), 3) := by decide +kernel
theorem dX3_firstTimer_56 : decode cX3_firstTimer 56 = .ok (.iload_n 1, 1) := by decide +kernel
theorem dX3_firstTimer_57 : decode cX3_firstTimer 57 = .ok (.ireturn, 1) := by decide +kernel
theorem dX3_receive_0 : decode cX3_receive 0 = .ok (.aload_n 1, 1) := by decide +kernel
theorem dX3_receive_1 : decode cX3_receive 1 = .ok (.getfield 167, 3) := by decide +kernel
theorem dX3_receive_4 : decode cX3_receive 4 = .ok (.tableswitch 222 1 10 #[56, 71, 86, 97, 116, 139, 159, 179, 198, 210], 56) := by decide +kernel
theorem dX3_receive_60 : decode cX3_receive 60 = .ok (.aload_n 0, 1) := by decide +kernel
theorem dX3_receive_61 : decode cX3_receive 61 = .ok (.aload_n 1, 1) := by decide +kernel
theorem dX3_receive_62 : decode cX3_receive 62 = .ok (.getfield 164, 3) := by decide +kernel
theorem dX3_receive_65 : decode cX3_receive 65 = .ok (.aload_n 1, 1) := by decide +kernel
theorem dX3_receive_66 : decode cX3_receive 66 = .ok (.getfield 170, 3) := by decide +kernel
theorem dX3_receive_69 : decode cX3_receive 69 = .ok (.invokevirtual 187, 3) := by decide +kernel
theorem dX3_receive_72 : decode cX3_receive 72 = .ok (.goto 154, 3) := by decide +kernel
theorem dX3_receive_75 : decode cX3_receive 75 = .ok (.aload_n 0, 1) := by decide +kernel
theorem dX3_receive_76 : decode cX3_receive 76 = .ok (.aload_n 1, 1) := by decide +kernel
theorem dX3_receive_77 : decode cX3_receive 77 = .ok (.getfield 164, 3) := by decide +kernel
theorem dX3_receive_80 : decode cX3_receive 80 = .ok (.aload_n 1, 1) := by decide +kernel
theorem dX3_receive_81 : decode cX3_receive 81 = .ok (.getfield 170, 3) := by decide +kernel
theorem dX3_receive_84 : decode cX3_receive 84 = .ok (.invokevirtual 190, 3) := by decide +kernel
theorem dX3_receive_87 : decode cX3_receive 87 = .ok (.goto 139, 3) := by decide +kernel
theorem dX3_receive_90 : decode cX3_receive 90 = .ok (.aload_n 0, 1) := by decide +kernel
theorem dX3_receive_91 : decode cX3_receive 91 = .ok (.aload_n 1, 1) := by decide +kernel
theorem dX3_receive_92 : decode cX3_receive 92 = .ok (.getfield 164, 3) := by decide +kernel
theorem dX3_receive_95 : decode cX3_receive 95 = .ok (.invokevirtual 193, 3) := by decide +kernel
theorem dX3_receive_98 : decode cX3_receive 98 = .ok (.goto 128, 3) := by decide +kernel
theorem dX3_receive_101 : decode cX3_receive 101 = .ok (.aload_n 0, 1) := by decide +kernel
theorem dX3_receive_102 : decode cX3_receive 102 = .ok (.aload_n 1, 1) := by decide +kernel
theorem dX3_receive_103 : decode cX3_receive 103 = .ok (.getfield 164, 3) := by decide +kernel
theorem dX3_receive_106 : decode cX3_receive 106 = .ok (.aload_n 1, 1) := by decide +kernel
theorem dX3_receive_107 : decode cX3_receive 107 = .ok (.getfield 170, 3) := by decide +kernel
theorem dX3_receive_110 : decode cX3_receive 110 = .ok (.aload_n 1, 1) := by decide +kernel
theorem dX3_receive_111 : decode cX3_receive 111 = .ok (.getfield 173, 3) := by decide +kernel
theorem dX3_receive_114 : decode cX3_receive 114 = .ok (.invokevirtual 196, 3) := by decide +kernel
theorem dX3_receive_117 : decode cX3_receive 117 = .ok (.goto 109, 3) := by decide +kernel
theorem dX3_receive_120 : decode cX3_receive 120 = .ok (.aload_n 0, 1) := by decide +kernel
theorem dX3_receive_121 : decode cX3_receive 121 = .ok (.aload_n 1, 1) := by decide +kernel
theorem dX3_receive_122 : decode cX3_receive 122 = .ok (.getfield 164, 3) := by decide +kernel
theorem dX3_receive_125 : decode cX3_receive 125 = .ok (.aload_n 1, 1) := by decide +kernel
theorem dX3_receive_126 : decode cX3_receive 126 = .ok (.getfield 170, 3) := by decide +kernel
theorem dX3_receive_129 : decode cX3_receive 129 = .ok (.aload_n 1, 1) := by decide +kernel
theorem dX3_receive_130 : decode cX3_receive 130 = .ok (.getfield 173, 3) := by decide +kernel
theorem dX3_receive_133 : decode cX3_receive 133 = .ok (.aload_n 1, 1) := by decide +kernel
theorem dX3_receive_134 : decode cX3_receive 134 = .ok (.getfield 174, 3) := by decide +kernel
theorem dX3_receive_137 : decode cX3_receive 137 = .ok (.invokevirtual 200, 3) := by decide +kernel
theorem dX3_receive_140 : decode cX3_receive 140 = .ok (.goto 86, 3) := by decide +kernel
theorem dX3_receive_143 : decode cX3_receive 143 = .ok (.aload_n 0, 1) := by decide +kernel
theorem dX3_receive_144 : decode cX3_receive 144 = .ok (.aload_n 1, 1) := by decide +kernel
theorem dX3_receive_145 : decode cX3_receive 145 = .ok (.getfield 164, 3) := by decide +kernel
theorem dX3_receive_148 : decode cX3_receive 148 = .ok (.aload_n 1, 1) := by decide +kernel
theorem dX3_receive_149 : decode cX3_receive 149 = .ok (.getfield 170, 3) := by decide +kernel
theorem dX3_receive_152 : decode cX3_receive 152 = .ok (.aload_n 1, 1) := by decide +kernel
theorem dX3_receive_153 : decode cX3_receive 153 = .ok (.getfield 173, 3) := by decide +kernel
theorem dX3_receive_156 : decode cX3_receive 156 = .ok (.iconst 2, 1) := by decide +kernel
theorem dX3_receive_157 : decode cX3_receive 157 = .ok (.invokevirtual 204, 3) := by decide +kernel
theorem dX3_receive_160 : decode cX3_receive 160 = .ok (.goto 66, 3) := by decide +kernel
theorem dX3_receive_163 : decode cX3_receive 163 = .ok (.aload_n 0, 1) := by decide +kernel
theorem dX3_receive_164 : decode cX3_receive 164 = .ok (.aload_n 1, 1) := by decide +kernel
theorem dX3_receive_165 : decode cX3_receive 165 = .ok (.getfield 164, 3) := by decide +kernel
theorem dX3_receive_168 : decode cX3_receive 168 = .ok (.aload_n 1, 1) := by decide +kernel
theorem dX3_receive_169 : decode cX3_receive 169 = .ok (.getfield 170, 3) := by decide +kernel
theorem dX3_receive_172 : decode cX3_receive 172 = .ok (.aload_n 1, 1) := by decide +kernel
theorem dX3_receive_173 : decode cX3_receive 173 = .ok (.getfield 173, 3) := by decide +kernel
theorem dX3_receive_176 : decode cX3_receive 176 = .ok (.iconst 3, 1) := by decide +kernel
theorem dX3_receive_177 : decode cX3_receive 177 = .ok (.invokevirtual 204, 3) := by decide +kernel
theorem dX3_receive_180 : decode cX3_receive 180 = .ok (.goto 46, 3) := by decide +kernel
theorem dX3_receive_183 : decode cX3_receive 183 = .ok (.aload_n 0, 1) := by decide +kernel
theorem dX3_receive_184 : decode cX3_receive 184 = .ok (.aload_n 1, 1) := by decide +kernel
theorem dX3_receive_185 : decode cX3_receive 185 = .ok (.getfield 164, 3) := by decide +kernel
theorem dX3_receive_188 : decode cX3_receive 188 = .ok (.aload_n 1, 1) := by decide +kernel
theorem dX3_receive_189 : decode cX3_receive 189 = .ok (.getfield 170, 3) := by decide +kernel
theorem dX3_receive_192 : decode cX3_receive 192 = .ok (.aload_n 1, 1) := by decide +kernel
theorem dX3_receive_193 : decode cX3_receive 193 = .ok (.getfield 173, 3) := by decide +kernel
theorem dX3_receive_196 : decode cX3_receive 196 = .ok (.invokevirtual 207, 3) := by decide +kernel
theorem dX3_receive_199 : decode cX3_receive 199 = .ok (.goto 27, 3) := by decide +kernel
theorem dX3_receive_202 : decode cX3_receive 202 = .ok (.aload_n 0, 1) := by decide +kernel
theorem dX3_receive_203 : decode cX3_receive 203 = .ok (.aload_n 1, 1) := by decide +kernel
theorem dX3_receive_204 : decode cX3_receive 204 = .ok (.getfield 164, 3) := by decide +kernel
theorem dX3_receive_207 : decode cX3_receive 207 = .ok (.iconst 4, 1) := by decide +kernel
theorem dX3_receive_208 : decode cX3_receive 208 = .ok (.invokevirtual 210, 3) := by decide +kernel
theorem dX3_receive_211 : decode cX3_receive 211 = .ok (.goto 15, 3) := by decide +kernel
theorem dX3_receive_214 : decode cX3_receive 214 = .ok (.aload_n 0, 1) := by decide +kernel
theorem dX3_receive_215 : decode cX3_receive 215 = .ok (.aload_n 1, 1) := by decide +kernel
theorem dX3_receive_216 : decode cX3_receive 216 = .ok (.getfield 164, 3) := by decide +kernel
theorem dX3_receive_219 : decode cX3_receive 219 = .ok (.iconst 5, 1) := by decide +kernel
theorem dX3_receive_220 : decode cX3_receive 220 = .ok (.invokevirtual 210, 3) := by decide +kernel
theorem dX3_receive_223 : decode cX3_receive 223 = .ok (.goto 3, 3) := by decide +kernel
theorem dX3_receive_226 : decode cX3_receive 226 = .ok (.return_, 1) := by decide +kernel
theorem dX3_onAskVote_0 : decode cX3_onAskVote 0 = .ok (.aload_n 0, 1) := by decide +kernel
theorem dX3_onAskVote_1 : decode cX3_onAskVote 1 = .ok (.getfield 11, 3) := by decide +kernel
theorem dX3_onAskVote_4 : decode cX3_onAskVote 4 = .ok (.iload_n 1, 1) := by decide +kernel
theorem dX3_onAskVote_5 : decode cX3_onAskVote 5 = .ok (.aaload, 1) := by decide +kernel
theorem dX3_onAskVote_6 : decode cX3_onAskVote 6 = .ok (.astore_n 3, 1) := by decide +kernel
theorem dX3_onAskVote_7 : decode cX3_onAskVote 7 = .ok (.aload_n 3, 1) := by decide +kernel
theorem dX3_onAskVote_8 : decode cX3_onAskVote 8 = .ok (.getfield 90, 3) := by decide +kernel
theorem dX3_onAskVote_11 : decode cX3_onAskVote 11 = .ok (.ifCond .eq 4, 3) := by decide +kernel
theorem dX3_onAskVote_14 : decode cX3_onAskVote 14 = .ok (.return_, 1) := by decide +kernel
theorem dX3_onAskVote_15 : decode cX3_onAskVote 15 = .ok (.aload_n 0, 1) := by decide +kernel
theorem dX3_onAskVote_16 : decode cX3_onAskVote 16 = .ok (.getfield 74, 3) := by decide +kernel
theorem dX3_onAskVote_19 : decode cX3_onAskVote 19 = .ok (.iload_n 1, 1) := by decide +kernel
theorem dX3_onAskVote_20 : decode cX3_onAskVote 20 = .ok (.invokestatic 64, 3) := by decide +kernel
theorem dX3_onAskVote_23 : decode cX3_onAskVote 23 = .ok (.ifCond .eq 37, 3) := by decide +kernel
theorem dX3_onAskVote_26 : decode cX3_onAskVote 26 = .ok (.aload_n 0, 1) := by decide +kernel
theorem dX3_onAskVote_27 : decode cX3_onAskVote 27 = .ok (.aload_n 3, 1) := by decide +kernel
theorem dX3_onAskVote_28 : decode cX3_onAskVote 28 = .ok (.iconst 1, 1) := by decide +kernel
theorem dX3_onAskVote_29 : decode cX3_onAskVote 29 = .ok (.invokevirtual 93, 3) := by decide +kernel
theorem dX3_onAskVote_32 : decode cX3_onAskVote 32 = .ok (.aload_n 0, 1) := by decide +kernel
theorem dX3_onAskVote_33 : decode cX3_onAskVote 33 = .ok (.getfield 18, 3) := by decide +kernel
theorem dX3_onAskVote_36 : decode cX3_onAskVote 36 = .ok (.iload_n 1, 1) := by decide +kernel
theorem dX3_onAskVote_37 : decode cX3_onAskVote 37 = .ok (.iconst 1, 1) := by decide +kernel
theorem dX3_onAskVote_38 : decode cX3_onAskVote 38 = .ok (.iload_n 2, 1) := by decide +kernel
theorem dX3_onAskVote_39 : decode cX3_onAskVote 39 = .ok (.ishl, 1) := by decide +kernel
theorem dX3_onAskVote_40 : decode cX3_onAskVote 40 = .ok (.iconst 2, 1) := by decide +kernel
theorem dX3_onAskVote_41 : decode cX3_onAskVote 41 = .ok (.iconst 0, 1) := by decide +kernel
theorem dX3_onAskVote_42 : decode cX3_onAskVote 42 = .ok (.iconst 0, 1) := by decide +kernel
theorem dX3_onAskVote_43 : decode cX3_onAskVote 43 = .ok (.invokevirtual 213, 3) := by decide +kernel
theorem dX3_onAskVote_46 : decode cX3_onAskVote 46 = .ok (.aload_n 0, 1) := by decide +kernel
theorem dX3_onAskVote_47 : decode cX3_onAskVote 47 = .ok (.aload_n 3, 1) := by decide +kernel
theorem dX3_onAskVote_48 : decode cX3_onAskVote 48 = .ok (.aload_n 0, 1) := by decide +kernel
theorem dX3_onAskVote_49 : decode cX3_onAskVote 49 = .ok (.getfield 26, 3) := by decide +kernel
theorem dX3_onAskVote_52 : decode cX3_onAskVote 52 = .ok (.iload_n 1, 1) := by decide +kernel
theorem dX3_onAskVote_53 : decode cX3_onAskVote 53 = .ok (.iadd, 1) := by decide +kernel
theorem dX3_onAskVote_54 : decode cX3_onAskVote 54 = .ok (.invokevirtual 216, 3) := by decide +kernel
theorem dX3_onAskVote_57 : decode cX3_onAskVote 57 = .ok (.goto 23, 3) := by decide +kernel
theorem dX3_onAskVote_60 : decode cX3_onAskVote 60 = .ok (.aload_n 0, 1) := by decide +kernel
theorem dX3_onAskVote_61 : decode cX3_onAskVote 61 = .ok (.aload_n 3, 1) := by decide +kernel
theorem dX3_onAskVote_62 : decode cX3_onAskVote 62 = .ok (.iconst 5, 1) := by decide +kernel
theorem dX3_onAskVote_63 : decode cX3_onAskVote 63 = .ok (.invokevirtual 93, 3) := by decide +kernel
theorem dX3_onAskVote_66 : decode cX3_onAskVote 66 = .ok (.aload_n 0, 1) := by decide +kernel
theorem dX3_onAskVote_67 : decode cX3_onAskVote 67 = .ok (.getfield 18, 3) := by decide +kernel
theorem dX3_onAskVote_70 : decode cX3_onAskVote 70 = .ok (.iload_n 1, 1) := by decide +kernel
theorem dX3_onAskVote_71 : decode cX3_onAskVote 71 = .ok (.iconst 1, 1) := by decide +kernel
theorem dX3_onAskVote_72 : decode cX3_onAskVote 72 = .ok (.iload_n 2, 1) := by decide +kernel
theorem dX3_onAskVote_73 : decode cX3_onAskVote 73 = .ok (.ishl, 1) := by decide +kernel
theorem dX3_onAskVote_74 : decode cX3_onAskVote 74 = .ok (.iconst 3, 1) := by decide +kernel
theorem dX3_onAskVote_75 : decode cX3_onAskVote 75 = .ok (.iconst 0, 1) := by decide +kernel
theorem dX3_onAskVote_76 : decode cX3_onAskVote 76 = .ok (.iconst 0, 1) := by decide +kernel
theorem dX3_onAskVote_77 : decode cX3_onAskVote 77 = .ok (.invokevirtual 213, 3) := by decide +kernel
theorem dX3_onAskVote_80 : decode cX3_onAskVote 80 = .ok (.return_, 1) := by decide +kernel
theorem dX3_onYes_0 : decode cX3_onYes 0 = .ok (.aload_n 0, 1) := by decide +kernel
theorem dX3_onYes_1 : decode cX3_onYes 1 = .ok (.getfield 11, 3) := by decide +kernel
theorem dX3_onYes_4 : decode cX3_onYes 4 = .ok (.iload_n 1, 1) := by decide +kernel
theorem dX3_onYes_5 : decode cX3_onYes 5 = .ok (.aaload, 1) := by decide +kernel
theorem dX3_onYes_6 : decode cX3_onYes 6 = .ok (.astore_n 3, 1) := by decide +kernel
theorem dX3_onYes_7 : decode cX3_onYes 7 = .ok (.aload_n 3, 1) := by decide +kernel
theorem dX3_onYes_8 : decode cX3_onYes 8 = .ok (.getfield 84, 3) := by decide +kernel
theorem dX3_onYes_11 : decode cX3_onYes 11 = .ok (.iconst 1, 1) := by decide +kernel
theorem dX3_onYes_12 : decode cX3_onYes 12 = .ok (.if_icmp .eq 4, 3) := by decide +kernel
theorem dX3_onYes_15 : decode cX3_onYes 15 = .ok (.return_, 1) := by decide +kernel
theorem dX3_onYes_16 : decode cX3_onYes 16 = .ok (.aload_n 3, 1) := by decide +kernel
theorem dX3_onYes_17 : decode cX3_onYes 17 = .ok (.dup, 1) := by decide +kernel
theorem dX3_onYes_18 : decode cX3_onYes 18 = .ok (.getfield 219, 3) := by decide +kernel
theorem dX3_onYes_21 : decode cX3_onYes 21 = .ok (.iconst 1, 1) := by decide +kernel
theorem dX3_onYes_22 : decode cX3_onYes 22 = .ok (.iload_n 2, 1) := by decide +kernel
theorem dX3_onYes_23 : decode cX3_onYes 23 = .ok (.ishl, 1) := by decide +kernel
theorem dX3_onYes_24 : decode cX3_onYes 24 = .ok (.ior, 1) := by decide +kernel
theorem dX3_onYes_25 : decode cX3_onYes 25 = .ok (.putfield 219, 3) := by decide +kernel
theorem dX3_onYes_28 : decode cX3_onYes 28 = .ok (.aload_n 3, 1) := by decide +kernel
theorem dX3_onYes_29 : decode cX3_onYes 29 = .ok (.getfield 219, 3) := by decide +kernel
theorem dX3_onYes_32 : decode cX3_onYes 32 = .ok (.aload_n 0, 1) := by decide +kernel
theorem dX3_onYes_33 : decode cX3_onYes 33 = .ok (.invokevirtual 139, 3) := by decide +kernel
theorem dX3_onYes_36 : decode cX3_onYes 36 = .ok (.if_icmp .ne 19, 3) := by decide +kernel
theorem dX3_onYes_39 : decode cX3_onYes 39 = .ok (.aload_n 3, 1) := by decide +kernel
theorem dX3_onYes_40 : decode cX3_onYes 40 = .ok (.dup, 1) := by decide +kernel
theorem dX3_onYes_41 : decode cX3_onYes 41 = .ok (.getfield 122, 3) := by decide +kernel
theorem dX3_onYes_44 : decode cX3_onYes 44 = .ok (.iconst 1, 1) := by decide +kernel
theorem dX3_onYes_45 : decode cX3_onYes 45 = .ok (.iadd, 1) := by decide +kernel
theorem dX3_onYes_46 : decode cX3_onYes 46 = .ok (.putfield 122, 3) := by decide +kernel
theorem dX3_onYes_49 : decode cX3_onYes 49 = .ok (.aload_n 0, 1) := by decide +kernel
theorem dX3_onYes_50 : decode cX3_onYes 50 = .ok (.iload_n 1, 1) := by decide +kernel
theorem dX3_onYes_51 : decode cX3_onYes 51 = .ok (.iconst 2, 1) := by decide +kernel
theorem dX3_onYes_52 : decode cX3_onYes 52 = .ok (.invokevirtual 222, 3) := by decide +kernel
theorem dX3_onYes_55 : decode cX3_onYes 55 = .ok (.return_, 1) := by decide +kernel
theorem dX3_onNo_0 : decode cX3_onNo 0 = .ok (.aload_n 0, 1) := by decide +kernel
theorem dX3_onNo_1 : decode cX3_onNo 1 = .ok (.getfield 11, 3) := by decide +kernel
theorem dX3_onNo_4 : decode cX3_onNo 4 = .ok (.iload_n 1, 1) := by decide +kernel
theorem dX3_onNo_5 : decode cX3_onNo 5 = .ok (.aaload, 1) := by decide +kernel
theorem dX3_onNo_6 : decode cX3_onNo 6 = .ok (.getfield 84, 3) := by decide +kernel
theorem dX3_onNo_9 : decode cX3_onNo 9 = .ok (.iconst 1, 1) := by decide +kernel
theorem dX3_onNo_10 : decode cX3_onNo 10 = .ok (.if_icmp .ne 9, 3) := by decide +kernel
theorem dX3_onNo_13 : decode cX3_onNo 13 = .ok (.aload_n 0, 1) := by decide +kernel
theorem dX3_onNo_14 : decode cX3_onNo 14 = .ok (.iload_n 1, 1) := by decide +kernel
theorem dX3_onNo_15 : decode cX3_onNo 15 = .ok (.iconst 5, 1) := by decide +kernel
theorem dX3_onNo_16 : decode cX3_onNo 16 = .ok (.invokevirtual 80, 3) := by decide +kernel
theorem dX3_onNo_19 : decode cX3_onNo 19 = .ok (.return_, 1) := by decide +kernel
theorem dX3_onAskState_0 : decode cX3_onAskState 0 = .ok (.aload_n 0, 1) := by decide +kernel
theorem dX3_onAskState_1 : decode cX3_onAskState 1 = .ok (.getfield 11, 3) := by decide +kernel
theorem dX3_onAskState_4 : decode cX3_onAskState 4 = .ok (.iload_n 1, 1) := by decide +kernel
theorem dX3_onAskState_5 : decode cX3_onAskState 5 = .ok (.aaload, 1) := by decide +kernel
theorem dX3_onAskState_6 : decode cX3_onAskState 6 = .ok (.astore 4, 2) := by decide +kernel
theorem dX3_onAskState_8 : decode cX3_onAskState 8 = .ok (.aload 4, 2) := by decide +kernel
theorem dX3_onAskState_10 : decode cX3_onAskState 10 = .ok (.getfield 90, 3) := by decide +kernel
theorem dX3_onAskState_13 : decode cX3_onAskState 13 = .ok (.ifCond .ne 10, 3) := by decide +kernel
theorem dX3_onAskState_16 : decode cX3_onAskState 16 = .ok (.aload_n 0, 1) := by decide +kernel
theorem dX3_onAskState_17 : decode cX3_onAskState 17 = .ok (.aload 4, 2) := by decide +kernel
theorem dX3_onAskState_19 : decode cX3_onAskState 19 = .ok (.iconst 5, 1) := by decide +kernel
theorem dX3_onAskState_20 : decode cX3_onAskState 20 = .ok (.invokevirtual 93, 3) := by decide +kernel
theorem dX3_onAskState_23 : decode cX3_onAskState 23 = .ok (.aload_n 0, 1) := by decide +kernel
theorem dX3_onAskState_24 : decode cX3_onAskState 24 = .ok (.iload_n 1, 1) := by decide +kernel
theorem dX3_onAskState_25 : decode cX3_onAskState 25 = .ok (.iload_n 2, 1) := by decide +kernel
theorem dX3_onAskState_26 : decode cX3_onAskState 26 = .ok (.invokevirtual 225, 3) := by decide +kernel
theorem dX3_onAskState_29 : decode cX3_onAskState 29 = .ok (.aload_n 0, 1) := by decide +kernel
theorem dX3_onAskState_30 : decode cX3_onAskState 30 = .ok (.getfield 18, 3) := by decide +kernel
theorem dX3_onAskState_33 : decode cX3_onAskState 33 = .ok (.iload_n 1, 1) := by decide +kernel
theorem dX3_onAskState_34 : decode cX3_onAskState 34 = .ok (.iconst 1, 1) := by decide +kernel
theorem dX3_onAskState_35 : decode cX3_onAskState 35 = .ok (.iload_n 2, 1) := by decide +kernel
theorem dX3_onAskState_36 : decode cX3_onAskState 36 = .ok (.ishl, 1) := by decide +kernel
theorem dX3_onAskState_37 : decode cX3_onAskState 37 = .ok (.iconst 5, 1) := by decide +kernel
theorem dX3_onAskState_38 : decode cX3_onAskState 38 = .ok (.iload_n 3, 1) := by decide +kernel
theorem dX3_onAskState_39 : decode cX3_onAskState 39 = .ok (.aload 4, 2) := by decide +kernel
theorem dX3_onAskState_41 : decode cX3_onAskState 41 = .ok (.getfield 90, 3) := by decide +kernel
theorem dX3_onAskState_44 : decode cX3_onAskState 44 = .ok (.invokevirtual 213, 3) := by decide +kernel
theorem dX3_onAskState_47 : decode cX3_onAskState 47 = .ok (.return_, 1) := by decide +kernel
theorem dX3_onState_0 : decode cX3_onState 0 = .ok (.aload_n 0, 1) := by decide +kernel
theorem dX3_onState_1 : decode cX3_onState 1 = .ok (.getfield 11, 3) := by decide +kernel
theorem dX3_onState_4 : decode cX3_onState 4 = .ok (.iload_n 1, 1) := by decide +kernel
theorem dX3_onState_5 : decode cX3_onState 5 = .ok (.aaload, 1) := by decide +kernel
theorem dX3_onState_6 : decode cX3_onState 6 = .ok (.astore 5, 2) := by decide +kernel
theorem dX3_onState_8 : decode cX3_onState 8 = .ok (.aload 5, 2) := by decide +kernel
theorem dX3_onState_10 : decode cX3_onState 10 = .ok (.getfield 84, 3) := by decide +kernel
theorem dX3_onState_13 : decode cX3_onState 13 = .ok (.iconst 3, 1) := by decide +kernel
theorem dX3_onState_14 : decode cX3_onState 14 = .ok (.if_icmp .ne 12, 3) := by decide +kernel
theorem dX3_onState_17 : decode cX3_onState 17 = .ok (.aload 5, 2) := by decide +kernel
theorem dX3_onState_19 : decode cX3_onState 19 = .ok (.getfield 122, 3) := by decide +kernel
theorem dX3_onState_22 : decode cX3_onState 22 = .ok (.iload_n 3, 1) := by decide +kernel
theorem dX3_onState_23 : decode cX3_onState 23 = .ok (.if_icmp .eq 4, 3) := by decide +kernel
theorem dX3_onState_26 : decode cX3_onState 26 = .ok (.return_, 1) := by decide +kernel
theorem dX3_onState_27 : decode cX3_onState 27 = .ok (.iload 4, 2) := by decide +kernel
theorem dX3_onState_29 : decode cX3_onState 29 = .ok (.iconst 4, 1) := by decide +kernel
theorem dX3_onState_30 : decode cX3_onState 30 = .ok (.if_icmp .eq 9, 3) := by decide +kernel
theorem dX3_onState_33 : decode cX3_onState 33 = .ok (.iload 4, 2) := by decide +kernel
theorem dX3_onState_35 : decode cX3_onState 35 = .ok (.iconst 5, 1) := by decide +kernel
theorem dX3_onState_36 : decode cX3_onState 36 = .ok (.if_icmp .ne 13, 3) := by decide +kernel
theorem dX3_onState_39 : decode cX3_onState 39 = .ok (.aload_n 0, 1) := by decide +kernel
theorem dX3_onState_40 : decode cX3_onState 40 = .ok (.iload_n 1, 1) := by decide +kernel
theorem dX3_onState_41 : decode cX3_onState 41 = .ok (.iload 4, 2) := by decide +kernel
theorem dX3_onState_43 : decode cX3_onState 43 = .ok (.invokevirtual 80, 3) := by decide +kernel
theorem dX3_onState_46 : decode cX3_onState 46 = .ok (.goto 25, 3) := by decide +kernel
theorem dX3_onState_49 : decode cX3_onState 49 = .ok (.aload 5, 2) := by decide +kernel
theorem dX3_onState_51 : decode cX3_onState 51 = .ok (.dup, 1) := by decide +kernel
theorem dX3_onState_52 : decode cX3_onState 52 = .ok (.getfield 219, 3) := by decide +kernel
theorem dX3_onState_55 : decode cX3_onState 55 = .ok (.iconst 1, 1) := by decide +kernel
theorem dX3_onState_56 : decode cX3_onState 56 = .ok (.iload_n 2, 1) := by decide +kernel
theorem dX3_onState_57 : decode cX3_onState 57 = .ok (.ishl, 1) := by decide +kernel
theorem dX3_onState_58 : decode cX3_onState 58 = .ok (.ior, 1) := by decide +kernel
theorem dX3_onState_59 : decode cX3_onState 59 = .ok (.putfield 219, 3) := by decide +kernel
theorem dX3_onState_62 : decode cX3_onState 62 = .ok (.aload 5, 2) := by decide +kernel
theorem dX3_onState_64 : decode cX3_onState 64 = .ok (.getfield 228, 3) := by decide +kernel
theorem dX3_onState_67 : decode cX3_onState 67 = .ok (.iload_n 2, 1) := by decide +kernel
theorem dX3_onState_68 : decode cX3_onState 68 = .ok (.iload 4, 2) := by decide +kernel
theorem dX3_onState_70 : decode cX3_onState 70 = .ok (.iastore, 1) := by decide +kernel
theorem dX3_onState_71 : decode cX3_onState 71 = .ok (.return_, 1) := by decide +kernel
theorem dX3_onAskReady_0 : decode cX3_onAskReady 0 = .ok (.aload_n 0, 1) := by decide +kernel
theorem dX3_onAskReady_1 : decode cX3_onAskReady 1 = .ok (.getfield 11, 3) := by decide +kernel
theorem dX3_onAskReady_4 : decode cX3_onAskReady 4 = .ok (.iload_n 1, 1) := by decide +kernel
theorem dX3_onAskReady_5 : decode cX3_onAskReady 5 = .ok (.aaload, 1) := by decide +kernel
theorem dX3_onAskReady_6 : decode cX3_onAskReady 6 = .ok (.astore 5, 2) := by decide +kernel
theorem dX3_onAskReady_8 : decode cX3_onAskReady 8 = .ok (.aload 5, 2) := by decide +kernel
theorem dX3_onAskReady_10 : decode cX3_onAskReady 10 = .ok (.invokevirtual 97, 3) := by decide +kernel
theorem dX3_onAskReady_13 : decode cX3_onAskReady 13 = .ok (.ifCond .eq 25, 3) := by decide +kernel
theorem dX3_onAskReady_16 : decode cX3_onAskReady 16 = .ok (.aload_n 0, 1) := by decide +kernel
theorem dX3_onAskReady_17 : decode cX3_onAskReady 17 = .ok (.getfield 18, 3) := by decide +kernel
theorem dX3_onAskReady_20 : decode cX3_onAskReady 20 = .ok (.iload_n 1, 1) := by decide +kernel
theorem dX3_onAskReady_21 : decode cX3_onAskReady 21 = .ok (.iconst 1, 1) := by decide +kernel
theorem dX3_onAskReady_22 : decode cX3_onAskReady 22 = .ok (.iload_n 2, 1) := by decide +kernel
theorem dX3_onAskReady_23 : decode cX3_onAskReady 23 = .ok (.ishl, 1) := by decide +kernel
theorem dX3_onAskReady_24 : decode cX3_onAskReady 24 = .ok (.aload 5, 2) := by decide +kernel
theorem dX3_onAskReady_26 : decode cX3_onAskReady 26 = .ok (.getfield 90, 3) := by decide +kernel
theorem dX3_onAskReady_29 : decode cX3_onAskReady 29 = .ok (.invokestatic 231, 3) := by decide +kernel
theorem dX3_onAskReady_32 : decode cX3_onAskReady 32 = .ok (.iconst 0, 1) := by decide +kernel
theorem dX3_onAskReady_33 : decode cX3_onAskReady 33 = .ok (.iconst 0, 1) := by decide +kernel
theorem dX3_onAskReady_34 : decode cX3_onAskReady 34 = .ok (.invokevirtual 213, 3) := by decide +kernel
theorem dX3_onAskReady_37 : decode cX3_onAskReady 37 = .ok (.return_, 1) := by decide +kernel
theorem dX3_onAskReady_38 : decode cX3_onAskReady 38 = .ok (.aload_n 0, 1) := by decide +kernel
theorem dX3_onAskReady_39 : decode cX3_onAskReady 39 = .ok (.iload_n 1, 1) := by decide +kernel
theorem dX3_onAskReady_40 : decode cX3_onAskReady 40 = .ok (.iload_n 2, 1) := by decide +kernel
theorem dX3_onAskReady_41 : decode cX3_onAskReady 41 = .ok (.invokevirtual 225, 3) := by decide +kernel
theorem dX3_onAskReady_44 : decode cX3_onAskReady 44 = .ok (.aload 5, 2) := by decide +kernel
theorem dX3_onAskReady_46 : decode cX3_onAskReady 46 = .ok (.getfield 90, 3) := by decide +kernel
theorem dX3_onAskReady_49 : decode cX3_onAskReady 49 = .ok (.iconst 1, 1) := by decide +kernel
theorem dX3_onAskReady_50 : decode cX3_onAskReady 50 = .ok (.if_icmp .ne 11, 3) := by decide +kernel
theorem dX3_onAskReady_53 : decode cX3_onAskReady 53 = .ok (.aload_n 0, 1) := by decide +kernel
theorem dX3_onAskReady_54 : decode cX3_onAskReady 54 = .ok (.aload 5, 2) := by decide +kernel
theorem dX3_onAskReady_56 : decode cX3_onAskReady 56 = .ok (.iload 4, 2) := by decide +kernel
theorem dX3_onAskReady_58 : decode cX3_onAskReady 58 = .ok (.invokevirtual 93, 3) := by decide +kernel
theorem dX3_onAskReady_61 : decode cX3_onAskReady 61 = .ok (.aload 5, 2) := by decide +kernel
theorem dX3_onAskReady_63 : decode cX3_onAskReady 63 = .ok (.getfield 90, 3) := by decide +kernel
theorem dX3_onAskReady_66 : decode cX3_onAskReady 66 = .ok (.iload 4, 2) := by decide +kernel
theorem dX3_onAskReady_68 : decode cX3_onAskReady 68 = .ok (.if_icmp .ne 18, 3) := by decide +kernel
theorem dX3_onAskReady_71 : decode cX3_onAskReady 71 = .ok (.aload_n 0, 1) := by decide +kernel
theorem dX3_onAskReady_72 : decode cX3_onAskReady 72 = .ok (.getfield 18, 3) := by decide +kernel
theorem dX3_onAskReady_75 : decode cX3_onAskReady 75 = .ok (.iload_n 1, 1) := by decide +kernel
theorem dX3_onAskReady_76 : decode cX3_onAskReady 76 = .ok (.iconst 1, 1) := by decide +kernel
theorem dX3_onAskReady_77 : decode cX3_onAskReady 77 = .ok (.iload_n 2, 1) := by decide +kernel
theorem dX3_onAskReady_78 : decode cX3_onAskReady 78 = .ok (.ishl, 1) := by decide +kernel
theorem dX3_onAskReady_79 : decode cX3_onAskReady 79 = .ok (.bipush 8, 2) := by decide +kernel
theorem dX3_onAskReady_81 : decode cX3_onAskReady 81 = .ok (.iload_n 3, 1) := by decide +kernel
theorem dX3_onAskReady_82 : decode cX3_onAskReady 82 = .ok (.iconst 0, 1) := by decide +kernel
theorem dX3_onAskReady_83 : decode cX3_onAskReady 83 = .ok (.invokevirtual 213, 3) := by decide +kernel
theorem dX3_onAskReady_86 : decode cX3_onAskReady 86 = .ok (.return_, 1) := by decide +kernel
theorem dX3_onAcknowledge_0 : decode cX3_onAcknowledge 0 = .ok (.aload_n 0, 1) := by decide +kernel
theorem dX3_onAcknowledge_1 : decode cX3_onAcknowledge 1 = .ok (.getfield 11, 3) := by decide +kernel
theorem dX3_onAcknowledge_4 : decode cX3_onAcknowledge 4 = .ok (.iload_n 1, 1) := by decide +kernel
theorem dX3_onAcknowledge_5 : decode cX3_onAcknowledge 5 = .ok (.aaload, 1) := by decide +kernel
theorem dX3_onAcknowledge_6 : decode cX3_onAcknowledge 6 = .ok (.astore 4, 2) := by decide +kernel
theorem dX3_onAcknowledge_8 : decode cX3_onAcknowledge 8 = .ok (.aload 4, 2) := by decide +kernel
theorem dX3_onAcknowledge_10 : decode cX3_onAcknowledge 10 = .ok (.invokevirtual 234, 3) := by decide +kernel
theorem dX3_onAcknowledge_13 : decode cX3_onAcknowledge 13 = .ok (.ifCond .eq 12, 3) := by decide +kernel
theorem dX3_onAcknowledge_16 : decode cX3_onAcknowledge 16 = .ok (.aload 4, 2) := by decide +kernel
theorem dX3_onAcknowledge_18 : decode cX3_onAcknowledge 18 = .ok (.getfield 122, 3) := by decide +kernel
theorem dX3_onAcknowledge_21 : decode cX3_onAcknowledge 21 = .ok (.iload_n 3, 1) := by decide +kernel
theorem dX3_onAcknowledge_22 : decode cX3_onAcknowledge 22 = .ok (.if_icmp .eq 4, 3) := by decide +kernel
theorem dX3_onAcknowledge_25 : decode cX3_onAcknowledge 25 = .ok (.return_, 1) := by decide +kernel
theorem dX3_onAcknowledge_26 : decode cX3_onAcknowledge 26 = .ok (.aload 4, 2) := by decide +kernel
theorem dX3_onAcknowledge_28 : decode cX3_onAcknowledge 28 = .ok (.dup, 1) := by decide +kernel
theorem dX3_onAcknowledge_29 : decode cX3_onAcknowledge 29 = .ok (.getfield 219, 3) := by decide +kernel
theorem dX3_onAcknowledge_32 : decode cX3_onAcknowledge 32 = .ok (.iconst 1, 1) := by decide +kernel
theorem dX3_onAcknowledge_33 : decode cX3_onAcknowledge 33 = .ok (.iload_n 2, 1) := by decide +kernel
theorem dX3_onAcknowledge_34 : decode cX3_onAcknowledge 34 = .ok (.ishl, 1) := by decide +kernel
theorem dX3_onAcknowledge_35 : decode cX3_onAcknowledge 35 = .ok (.ior, 1) := by decide +kernel
theorem dX3_onAcknowledge_36 : decode cX3_onAcknowledge 36 = .ok (.putfield 219, 3) := by decide +kernel
theorem dX3_onAcknowledge_39 : decode cX3_onAcknowledge 39 = .ok (.aload_n 0, 1) := by decide +kernel
theorem dX3_onAcknowledge_40 : decode cX3_onAcknowledge 40 = .ok (.aload 4, 2) := by decide +kernel
theorem dX3_onAcknowledge_42 : decode cX3_onAcknowledge 42 = .ok (.invokevirtual 237, 3) := by decide +kernel
theorem dX3_onAcknowledge_45 : decode cX3_onAcknowledge 45 = .ok (.ifCond .eq 22, 3) := by decide +kernel
theorem dX3_onAcknowledge_48 : decode cX3_onAcknowledge 48 = .ok (.aload_n 0, 1) := by decide +kernel
theorem dX3_onAcknowledge_49 : decode cX3_onAcknowledge 49 = .ok (.iload_n 1, 1) := by decide +kernel
theorem dX3_onAcknowledge_50 : decode cX3_onAcknowledge 50 = .ok (.aload 4, 2) := by decide +kernel
theorem dX3_onAcknowledge_52 : decode cX3_onAcknowledge 52 = .ok (.getfield 84, 3) := by decide +kernel
theorem dX3_onAcknowledge_55 : decode cX3_onAcknowledge 55 = .ok (.iconst 2, 1) := by decide +kernel
theorem dX3_onAcknowledge_56 : decode cX3_onAcknowledge 56 = .ok (.if_icmp .ne 7, 3) := by decide +kernel
theorem dX3_onAcknowledge_59 : decode cX3_onAcknowledge 59 = .ok (.iconst 4, 1) := by decide +kernel
theorem dX3_onAcknowledge_60 : decode cX3_onAcknowledge 60 = .ok (.goto 4, 3) := by decide +kernel
theorem dX3_onAcknowledge_63 : decode cX3_onAcknowledge 63 = .ok (.iconst 5, 1) := by decide +kernel
theorem dX3_onAcknowledge_64 : decode cX3_onAcknowledge 64 = .ok (.invokevirtual 80, 3) := by decide +kernel
theorem dX3_onAcknowledge_67 : decode cX3_onAcknowledge 67 = .ok (.return_, 1) := by decide +kernel
theorem dX3_onDecision_0 : decode cX3_onDecision 0 = .ok (.aload_n 0, 1) := by decide +kernel
theorem dX3_onDecision_1 : decode cX3_onDecision 1 = .ok (.getfield 11, 3) := by decide +kernel
theorem dX3_onDecision_4 : decode cX3_onDecision 4 = .ok (.iload_n 1, 1) := by decide +kernel
theorem dX3_onDecision_5 : decode cX3_onDecision 5 = .ok (.aaload, 1) := by decide +kernel
theorem dX3_onDecision_6 : decode cX3_onDecision 6 = .ok (.astore_n 3, 1) := by decide +kernel
theorem dX3_onDecision_7 : decode cX3_onDecision 7 = .ok (.aload_n 3, 1) := by decide +kernel
theorem dX3_onDecision_8 : decode cX3_onDecision 8 = .ok (.invokevirtual 97, 3) := by decide +kernel
theorem dX3_onDecision_11 : decode cX3_onDecision 11 = .ok (.ifCond .ne 14, 3) := by decide +kernel
theorem dX3_onDecision_14 : decode cX3_onDecision 14 = .ok (.aload_n 0, 1) := by decide +kernel
theorem dX3_onDecision_15 : decode cX3_onDecision 15 = .ok (.aload_n 3, 1) := by decide +kernel
theorem dX3_onDecision_16 : decode cX3_onDecision 16 = .ok (.iload_n 2, 1) := by decide +kernel
theorem dX3_onDecision_17 : decode cX3_onDecision 17 = .ok (.invokevirtual 93, 3) := by decide +kernel
theorem dX3_onDecision_20 : decode cX3_onDecision 20 = .ok (.aload_n 3, 1) := by decide +kernel
theorem dX3_onDecision_21 : decode cX3_onDecision 21 = .ok (.iconst 0, 1) := by decide +kernel
theorem dX3_onDecision_22 : decode cX3_onDecision 22 = .ok (.putfield 84, 3) := by decide +kernel
theorem dX3_onDecision_25 : decode cX3_onDecision 25 = .ok (.return_, 1) := by decide +kernel
theorem dX3_runOut_0 : decode cX3_runOut 0 = .ok (.aload_n 0, 1) := by decide +kernel
theorem dX3_runOut_1 : decode cX3_runOut 1 = .ok (.getfield 11, 3) := by decide +kernel
theorem dX3_runOut_4 : decode cX3_runOut 4 = .ok (.iload_n 1, 1) := by decide +kernel
theorem dX3_runOut_5 : decode cX3_runOut 5 = .ok (.aaload, 1) := by decide +kernel
theorem dX3_runOut_6 : decode cX3_runOut 6 = .ok (.astore_n 2, 1) := by decide +kernel
theorem dX3_runOut_7 : decode cX3_runOut 7 = .ok (.aload_n 2, 1) := by decide +kernel
theorem dX3_runOut_8 : decode cX3_runOut 8 = .ok (.getfield 84, 3) := by decide +kernel
theorem dX3_runOut_11 : decode cX3_runOut 11 = .ok (.iconst 1, 1) := by decide +kernel
theorem dX3_runOut_12 : decode cX3_runOut 12 = .ok (.if_icmp .ne 12, 3) := by decide +kernel
theorem dX3_runOut_15 : decode cX3_runOut 15 = .ok (.aload_n 0, 1) := by decide +kernel
theorem dX3_runOut_16 : decode cX3_runOut 16 = .ok (.iload_n 1, 1) := by decide +kernel
theorem dX3_runOut_17 : decode cX3_runOut 17 = .ok (.iconst 5, 1) := by decide +kernel
theorem dX3_runOut_18 : decode cX3_runOut 18 = .ok (.invokevirtual 80, 3) := by decide +kernel
theorem dX3_runOut_21 : decode cX3_runOut 21 = .ok (.goto 102, 3) := by decide +kernel
theorem dX3_runOut_24 : decode cX3_runOut 24 = .ok (.aload_n 2, 1) := by decide +kernel
theorem dX3_runOut_25 : decode cX3_runOut 25 = .ok (.getfield 84, 3) := by decide +kernel
theorem dX3_runOut_28 : decode cX3_runOut 28 = .ok (.iconst 3, 1) := by decide +kernel
theorem dX3_runOut_29 : decode cX3_runOut 29 = .ok (.if_icmp .eq 11, 3) := by decide +kernel
theorem dX3_runOut_32 : decode cX3_runOut 32 = .ok (.aload_n 0, 1) := by decide +kernel
theorem dX3_runOut_33 : decode cX3_runOut 33 = .ok (.iload_n 1, 1) := by decide +kernel
theorem dX3_runOut_34 : decode cX3_runOut 34 = .ok (.invokevirtual 101, 3) := by decide +kernel
theorem dX3_runOut_37 : decode cX3_runOut 37 = .ok (.goto 86, 3) := by decide +kernel
theorem dX3_runOut_40 : decode cX3_runOut 40 = .ok (.aload_n 0, 1) := by decide +kernel
theorem dX3_runOut_41 : decode cX3_runOut 41 = .ok (.aload_n 2, 1) := by decide +kernel
theorem dX3_runOut_42 : decode cX3_runOut 42 = .ok (.iconst 2, 1) := by decide +kernel
theorem dX3_runOut_43 : decode cX3_runOut 43 = .ok (.invokevirtual 240, 3) := by decide +kernel
theorem dX3_runOut_46 : decode cX3_runOut 46 = .ok (.ifCond .le 32, 3) := by decide +kernel
theorem dX3_runOut_49 : decode cX3_runOut 49 = .ok (.aload_n 0, 1) := by decide +kernel
theorem dX3_runOut_50 : decode cX3_runOut 50 = .ok (.aload_n 2, 1) := by decide +kernel
theorem dX3_runOut_51 : decode cX3_runOut 51 = .ok (.iconst 1, 1) := by decide +kernel
theorem dX3_runOut_52 : decode cX3_runOut 52 = .ok (.invokevirtual 240, 3) := by decide +kernel
theorem dX3_runOut_55 : decode cX3_runOut 55 = .ok (.aload_n 0, 1) := by decide +kernel
theorem dX3_runOut_56 : decode cX3_runOut 56 = .ok (.aload_n 2, 1) := by decide +kernel
theorem dX3_runOut_57 : decode cX3_runOut 57 = .ok (.iconst 2, 1) := by decide +kernel
theorem dX3_runOut_58 : decode cX3_runOut 58 = .ok (.invokevirtual 240, 3) := by decide +kernel
theorem dX3_runOut_61 : decode cX3_runOut 61 = .ok (.iadd, 1) := by decide +kernel
theorem dX3_runOut_62 : decode cX3_runOut 62 = .ok (.aload_n 0, 1) := by decide +kernel
theorem dX3_runOut_63 : decode cX3_runOut 63 = .ok (.getfield 50, 3) := by decide +kernel
theorem dX3_runOut_66 : decode cX3_runOut 66 = .ok (.if_icmp .lt 12, 3) := by decide +kernel
theorem dX3_runOut_69 : decode cX3_runOut 69 = .ok (.aload_n 0, 1) := by decide +kernel
theorem dX3_runOut_70 : decode cX3_runOut 70 = .ok (.iload_n 1, 1) := by decide +kernel
theorem dX3_runOut_71 : decode cX3_runOut 71 = .ok (.iconst 2, 1) := by decide +kernel
theorem dX3_runOut_72 : decode cX3_runOut 72 = .ok (.invokevirtual 222, 3) := by decide +kernel
theorem dX3_runOut_75 : decode cX3_runOut 75 = .ok (.goto 48, 3) := by decide +kernel
theorem dX3_runOut_78 : decode cX3_runOut 78 = .ok (.aload_n 0, 1) := by decide +kernel
theorem dX3_runOut_79 : decode cX3_runOut 79 = .ok (.aload_n 2, 1) := by decide +kernel
theorem dX3_runOut_80 : decode cX3_runOut 80 = .ok (.iconst 1, 1) := by decide +kernel
theorem dX3_runOut_81 : decode cX3_runOut 81 = .ok (.invokevirtual 240, 3) := by decide +kernel
theorem dX3_runOut_84 : decode cX3_runOut 84 = .ok (.aload_n 0, 1) := by decide +kernel
theorem dX3_runOut_85 : decode cX3_runOut 85 = .ok (.aload_n 2, 1) := by decide +kernel
theorem dX3_runOut_86 : decode cX3_runOut 86 = .ok (.iconst 3, 1) := by decide +kernel
theorem dX3_runOut_87 : decode cX3_runOut 87 = .ok (.invokevirtual 240, 3) := by decide +kernel
theorem dX3_runOut_90 : decode cX3_runOut 90 = .ok (.iadd, 1) := by decide +kernel
theorem dX3_runOut_91 : decode cX3_runOut 91 = .ok (.aload_n 0, 1) := by decide +kernel
theorem dX3_runOut_92 : decode cX3_runOut 92 = .ok (.getfield 53, 3) := by decide +kernel
theorem dX3_runOut_95 : decode cX3_runOut 95 = .ok (.if_icmp .lt 12, 3) := by decide +kernel
theorem dX3_runOut_98 : decode cX3_runOut 98 = .ok (.aload_n 0, 1) := by decide +kernel
theorem dX3_runOut_99 : decode cX3_runOut 99 = .ok (.iload_n 1, 1) := by decide +kernel
theorem dX3_runOut_100 : decode cX3_runOut 100 = .ok (.iconst 3, 1) := by decide +kernel
theorem dX3_runOut_101 : decode cX3_runOut 101 = .ok (.invokevirtual 222, 3) := by decide +kernel
theorem dX3_runOut_104 : decode cX3_runOut 104 = .ok (.goto 19, 3) := by decide +kernel
theorem dX3_runOut_107 : decode cX3_runOut 107 = .ok (.aload_n 2, 1) := by decide +kernel
theorem dX3_runOut_108 : decode cX3_runOut 108 = .ok (.iconst 0, 1) := by decide +kernel
theorem dX3_runOut_109 : decode cX3_runOut 109 = .ok (.putfield 84, 3) := by decide +kernel
theorem dX3_runOut_112 : decode cX3_runOut 112 = .ok (.aload_n 0, 1) := by decide +kernel
theorem dX3_runOut_113 : decode cX3_runOut 113 = .ok (.aload_n 2, 1) := by decide +kernel
theorem dX3_runOut_114 : decode cX3_runOut 114 = .ok (.aload_n 0, 1) := by decide +kernel
theorem dX3_runOut_115 : decode cX3_runOut 115 = .ok (.getfield 26, 3) := by decide +kernel
theorem dX3_runOut_118 : decode cX3_runOut 118 = .ok (.iload_n 1, 1) := by decide +kernel
theorem dX3_runOut_119 : decode cX3_runOut 119 = .ok (.iadd, 1) := by decide +kernel
theorem dX3_runOut_120 : decode cX3_runOut 120 = .ok (.invokevirtual 216, 3) := by decide +kernel
theorem dX3_runOut_123 : decode cX3_runOut 123 = .ok (.return_, 1) := by decide +kernel
theorem dX3_askVotes_0 : decode cX3_askVotes 0 = .ok (.aload_n 0, 1) := by decide +kernel
theorem dX3_askVotes_1 : decode cX3_askVotes 1 = .ok (.getfield 11, 3) := by decide +kernel
theorem dX3_askVotes_4 : decode cX3_askVotes 4 = .ok (.iload_n 1, 1) := by decide +kernel
theorem dX3_askVotes_5 : decode cX3_askVotes 5 = .ok (.aaload, 1) := by decide +kernel
theorem dX3_askVotes_6 : decode cX3_askVotes 6 = .ok (.astore_n 2, 1) := by decide +kernel
theorem dX3_askVotes_7 : decode cX3_askVotes 7 = .ok (.aload_n 0, 1) := by decide +kernel
theorem dX3_askVotes_8 : decode cX3_askVotes 8 = .ok (.aload_n 2, 1) := by decide +kernel
theorem dX3_askVotes_9 : decode cX3_askVotes 9 = .ok (.iconst 1, 1) := by decide +kernel
theorem dX3_askVotes_10 : decode cX3_askVotes 10 = .ok (.invokevirtual 93, 3) := by decide +kernel
theorem dX3_askVotes_13 : decode cX3_askVotes 13 = .ok (.aload_n 2, 1) := by decide +kernel
theorem dX3_askVotes_14 : decode cX3_askVotes 14 = .ok (.iconst 1, 1) := by decide +kernel
theorem dX3_askVotes_15 : decode cX3_askVotes 15 = .ok (.putfield 84, 3) := by decide +kernel
theorem dX3_askVotes_18 : decode cX3_askVotes 18 = .ok (.aload_n 2, 1) := by decide +kernel
theorem dX3_askVotes_19 : decode cX3_askVotes 19 = .ok (.iconst 1, 1) := by decide +kernel
theorem dX3_askVotes_20 : decode cX3_askVotes 20 = .ok (.iload_n 1, 1) := by decide +kernel
theorem dX3_askVotes_21 : decode cX3_askVotes 21 = .ok (.ishl, 1) := by decide +kernel
theorem dX3_askVotes_22 : decode cX3_askVotes 22 = .ok (.putfield 219, 3) := by decide +kernel
theorem dX3_askVotes_25 : decode cX3_askVotes 25 = .ok (.aload_n 0, 1) := by decide +kernel
theorem dX3_askVotes_26 : decode cX3_askVotes 26 = .ok (.getfield 18, 3) := by decide +kernel
theorem dX3_askVotes_29 : decode cX3_askVotes 29 = .ok (.iload_n 1, 1) := by decide +kernel
theorem dX3_askVotes_30 : decode cX3_askVotes 30 = .ok (.aload_n 0, 1) := by decide +kernel
theorem dX3_askVotes_31 : decode cX3_askVotes 31 = .ok (.iload_n 1, 1) := by decide +kernel
theorem dX3_askVotes_32 : decode cX3_askVotes 32 = .ok (.invokevirtual 244, 3) := by decide +kernel
theorem dX3_askVotes_35 : decode cX3_askVotes 35 = .ok (.iconst 1, 1) := by decide +kernel
theorem dX3_askVotes_36 : decode cX3_askVotes 36 = .ok (.iconst 0, 1) := by decide +kernel
theorem dX3_askVotes_37 : decode cX3_askVotes 37 = .ok (.iconst 0, 1) := by decide +kernel
theorem dX3_askVotes_38 : decode cX3_askVotes 38 = .ok (.invokevirtual 213, 3) := by decide +kernel
theorem dX3_askVotes_41 : decode cX3_askVotes 41 = .ok (.aload_n 0, 1) := by decide +kernel
theorem dX3_askVotes_42 : decode cX3_askVotes 42 = .ok (.aload_n 2, 1) := by decide +kernel
theorem dX3_askVotes_43 : decode cX3_askVotes 43 = .ok (.aload_n 0, 1) := by decide +kernel
theorem dX3_askVotes_44 : decode cX3_askVotes 44 = .ok (.getfield 26, 3) := by decide +kernel
theorem dX3_askVotes_47 : decode cX3_askVotes 47 = .ok (.invokevirtual 216, 3) := by decide +kernel
theorem dX3_askVotes_50 : decode cX3_askVotes 50 = .ok (.aload_n 2, 1) := by decide +kernel
theorem dX3_askVotes_51 : decode cX3_askVotes 51 = .ok (.getfield 219, 3) := by decide +kernel
theorem dX3_askVotes_54 : decode cX3_askVotes 54 = .ok (.aload_n 0, 1) := by decide +kernel
theorem dX3_askVotes_55 : decode cX3_askVotes 55 = .ok (.invokevirtual 139, 3) := by decide +kernel
theorem dX3_askVotes_58 : decode cX3_askVotes 58 = .ok (.if_icmp .ne 19, 3) := by decide +kernel
theorem dX3_askVotes_61 : decode cX3_askVotes 61 = .ok (.aload_n 2, 1) := by decide +kernel
theorem dX3_askVotes_62 : decode cX3_askVotes 62 = .ok (.dup, 1) := by decide +kernel
theorem dX3_askVotes_63 : decode cX3_askVotes 63 = .ok (.getfield 122, 3) := by decide +kernel
theorem dX3_askVotes_66 : decode cX3_askVotes 66 = .ok (.iconst 1, 1) := by decide +kernel
theorem dX3_askVotes_67 : decode cX3_askVotes 67 = .ok (.iadd, 1) := by decide +kernel
theorem dX3_askVotes_68 : decode cX3_askVotes 68 = .ok (.putfield 122, 3) := by decide +kernel
theorem dX3_askVotes_71 : decode cX3_askVotes 71 = .ok (.aload_n 0, 1) := by decide +kernel
theorem dX3_askVotes_72 : decode cX3_askVotes 72 = .ok (.iload_n 1, 1) := by decide +kernel
theorem dX3_askVotes_73 : decode cX3_askVotes 73 = .ok (.iconst 2, 1) := by decide +kernel
theorem dX3_askVotes_74 : decode cX3_askVotes 74 = .ok (.invokevirtual 222, 3) := by decide +kernel
theorem dX3_askVotes_77 : decode cX3_askVotes 77 = .ok (.return_, 1) := by decide +kernel
theorem dX3_attempt_0 : decode cX3_attempt 0 = .ok (.aload_n 0, 1) := by decide +kernel
theorem dX3_attempt_1 : decode cX3_attempt 1 = .ok (.getfield 11, 3) := by decide +kernel
theorem dX3_attempt_4 : decode cX3_attempt 4 = .ok (.iload_n 1, 1) := by decide +kernel
theorem dX3_attempt_5 : decode cX3_attempt 5 = .ok (.aaload, 1) := by decide +kernel
theorem dX3_attempt_6 : decode cX3_attempt 6 = .ok (.astore_n 2, 1) := by decide +kernel
theorem dX3_attempt_7 : decode cX3_attempt 7 = .ok (.aload_n 2, 1) := by decide +kernel
theorem dX3_attempt_8 : decode cX3_attempt 8 = .ok (.dup, 1) := by decide +kernel
theorem dX3_attempt_9 : decode cX3_attempt 9 = .ok (.getfield 122, 3) := by decide +kernel
theorem dX3_attempt_12 : decode cX3_attempt 12 = .ok (.iconst 1, 1) := by decide +kernel
theorem dX3_attempt_13 : decode cX3_attempt 13 = .ok (.iadd, 1) := by decide +kernel
theorem dX3_attempt_14 : decode cX3_attempt 14 = .ok (.putfield 122, 3) := by decide +kernel
theorem dX3_attempt_17 : decode cX3_attempt 17 = .ok (.aload_n 2, 1) := by decide +kernel
theorem dX3_attempt_18 : decode cX3_attempt 18 = .ok (.iconst 3, 1) := by decide +kernel
theorem dX3_attempt_19 : decode cX3_attempt 19 = .ok (.putfield 84, 3) := by decide +kernel
theorem dX3_attempt_22 : decode cX3_attempt 22 = .ok (.aload_n 2, 1) := by decide +kernel
theorem dX3_attempt_23 : decode cX3_attempt 23 = .ok (.iconst 1, 1) := by decide +kernel
theorem dX3_attempt_24 : decode cX3_attempt 24 = .ok (.iload_n 1, 1) := by decide +kernel
theorem dX3_attempt_25 : decode cX3_attempt 25 = .ok (.ishl, 1) := by decide +kernel
theorem dX3_attempt_26 : decode cX3_attempt 26 = .ok (.putfield 219, 3) := by decide +kernel
theorem dX3_attempt_29 : decode cX3_attempt 29 = .ok (.aload_n 2, 1) := by decide +kernel
theorem dX3_attempt_30 : decode cX3_attempt 30 = .ok (.getfield 228, 3) := by decide +kernel
theorem dX3_attempt_33 : decode cX3_attempt 33 = .ok (.iload_n 1, 1) := by decide +kernel
theorem dX3_attempt_34 : decode cX3_attempt 34 = .ok (.aload_n 2, 1) := by decide +kernel
theorem dX3_attempt_35 : decode cX3_attempt 35 = .ok (.getfield 90, 3) := by decide +kernel
theorem dX3_attempt_38 : decode cX3_attempt 38 = .ok (.iastore, 1) := by decide +kernel
theorem dX3_attempt_39 : decode cX3_attempt 39 = .ok (.aload_n 0, 1) := by decide +kernel
theorem dX3_attempt_40 : decode cX3_attempt 40 = .ok (.getfield 18, 3) := by decide +kernel
theorem dX3_attempt_43 : decode cX3_attempt 43 = .ok (.iload_n 1, 1) := by decide +kernel
theorem dX3_attempt_44 : decode cX3_attempt 44 = .ok (.aload_n 0, 1) := by decide +kernel
theorem dX3_attempt_45 : decode cX3_attempt 45 = .ok (.iload_n 1, 1) := by decide +kernel
theorem dX3_attempt_46 : decode cX3_attempt 46 = .ok (.invokevirtual 244, 3) := by decide +kernel
theorem dX3_attempt_49 : decode cX3_attempt 49 = .ok (.iconst 4, 1) := by decide +kernel
theorem dX3_attempt_50 : decode cX3_attempt 50 = .ok (.aload_n 2, 1) := by decide +kernel
theorem dX3_attempt_51 : decode cX3_attempt 51 = .ok (.getfield 122, 3) := by decide +kernel
theorem dX3_attempt_54 : decode cX3_attempt 54 = .ok (.iconst 0, 1) := by decide +kernel
theorem dX3_attempt_55 : decode cX3_attempt 55 = .ok (.invokevirtual 213, 3) := by decide +kernel
theorem dX3_attempt_58 : decode cX3_attempt 58 = .ok (.aload_n 0, 1) := by decide +kernel
theorem dX3_attempt_59 : decode cX3_attempt 59 = .ok (.aload_n 2, 1) := by decide +kernel
theorem dX3_attempt_60 : decode cX3_attempt 60 = .ok (.aload_n 0, 1) := by decide +kernel
theorem dX3_attempt_61 : decode cX3_attempt 61 = .ok (.getfield 26, 3) := by decide +kernel
theorem dX3_attempt_64 : decode cX3_attempt 64 = .ok (.invokevirtual 216, 3) := by decide +kernel
theorem dX3_attempt_67 : decode cX3_attempt 67 = .ok (.return_, 1) := by decide +kernel
theorem dX3_lead_0 : decode cX3_lead 0 = .ok (.aload_n 0, 1) := by decide +kernel
theorem dX3_lead_1 : decode cX3_lead 1 = .ok (.getfield 11, 3) := by decide +kernel
theorem dX3_lead_4 : decode cX3_lead 4 = .ok (.iload_n 1, 1) := by decide +kernel
theorem dX3_lead_5 : decode cX3_lead 5 = .ok (.aaload, 1) := by decide +kernel
theorem dX3_lead_6 : decode cX3_lead 6 = .ok (.astore_n 3, 1) := by decide +kernel
theorem dX3_lead_7 : decode cX3_lead 7 = .ok (.iload_n 2, 1) := by decide +kernel
theorem dX3_lead_8 : decode cX3_lead 8 = .ok (.iconst 2, 1) := by decide +kernel
theorem dX3_lead_9 : decode cX3_lead 9 = .ok (.if_icmp .ne 7, 3) := by decide +kernel
theorem dX3_lead_12 : decode cX3_lead 12 = .ok (.iconst 1, 1) := by decide +kernel
theorem dX3_lead_13 : decode cX3_lead 13 = .ok (.goto 4, 3) := by decide +kernel
theorem dX3_lead_16 : decode cX3_lead 16 = .ok (.iconst 0, 1) := by decide +kernel
theorem dX3_lead_17 : decode cX3_lead 17 = .ok (.istore 4, 2) := by decide +kernel
theorem dX3_lead_19 : decode cX3_lead 19 = .ok (.aload_n 3, 1) := by decide +kernel
theorem dX3_lead_20 : decode cX3_lead 20 = .ok (.getfield 90, 3) := by decide +kernel
theorem dX3_lead_23 : decode cX3_lead 23 = .ok (.iconst 1, 1) := by decide +kernel
theorem dX3_lead_24 : decode cX3_lead 24 = .ok (.if_icmp .ne 9, 3) := by decide +kernel
theorem dX3_lead_27 : decode cX3_lead 27 = .ok (.aload_n 0, 1) := by decide +kernel
theorem dX3_lead_28 : decode cX3_lead 28 = .ok (.aload_n 3, 1) := by decide +kernel
theorem dX3_lead_29 : decode cX3_lead 29 = .ok (.iload_n 2, 1) := by decide +kernel
theorem dX3_lead_30 : decode cX3_lead 30 = .ok (.invokevirtual 93, 3) := by decide +kernel
theorem dX3_lead_33 : decode cX3_lead 33 = .ok (.aload_n 3, 1) := by decide +kernel
theorem dX3_lead_34 : decode cX3_lead 34 = .ok (.iload 4, 2) := by decide +kernel
theorem dX3_lead_36 : decode cX3_lead 36 = .ok (.ifCond .eq 7, 3) := by decide +kernel
theorem dX3_lead_39 : decode cX3_lead 39 = .ok (.iconst 2, 1) := by decide +kernel
theorem dX3_lead_40 : decode cX3_lead 40 = .ok (.goto 4, 3) := by decide +kernel
theorem dX3_lead_43 : decode cX3_lead 43 = .ok (.iconst 4, 1) := by decide +kernel
theorem dX3_lead_44 : decode cX3_lead 44 = .ok (.putfield 84, 3) := by decide +kernel
theorem dX3_lead_47 : decode cX3_lead 47 = .ok (.aload_n 3, 1) := by decide +kernel
theorem dX3_lead_48 : decode cX3_lead 48 = .ok (.aload_n 3, 1) := by decide +kernel
theorem dX3_lead_49 : decode cX3_lead 49 = .ok (.getfield 90, 3) := by decide +kernel
theorem dX3_lead_52 : decode cX3_lead 52 = .ok (.iload_n 2, 1) := by decide +kernel
theorem dX3_lead_53 : decode cX3_lead 53 = .ok (.if_icmp .ne 9, 3) := by decide +kernel
theorem dX3_lead_56 : decode cX3_lead 56 = .ok (.iconst 1, 1) := by decide +kernel
theorem dX3_lead_57 : decode cX3_lead 57 = .ok (.iload_n 1, 1) := by decide +kernel
theorem dX3_lead_58 : decode cX3_lead 58 = .ok (.ishl, 1) := by decide +kernel
theorem dX3_lead_59 : decode cX3_lead 59 = .ok (.goto 4, 3) := by decide +kernel
theorem dX3_lead_62 : decode cX3_lead 62 = .ok (.iconst 0, 1) := by decide +kernel
theorem dX3_lead_63 : decode cX3_lead 63 = .ok (.putfield 219, 3) := by decide +kernel
theorem dX3_lead_66 : decode cX3_lead 66 = .ok (.aload_n 0, 1) := by decide +kernel
theorem dX3_lead_67 : decode cX3_lead 67 = .ok (.getfield 18, 3) := by decide +kernel
theorem dX3_lead_70 : decode cX3_lead 70 = .ok (.iload_n 1, 1) := by decide +kernel
theorem dX3_lead_71 : decode cX3_lead 71 = .ok (.aload_n 0, 1) := by decide +kernel
end
section
theorem dX3_lead_72 : decode cX3_lead 72 = .ok (.iload_n 1, 1) := by decide +kernel
theorem dX3_lead_73 : decode cX3_lead 73 = .ok (.invokevirtual 244, 3) := by decide +kernel
theorem dX3_lead_76 : decode cX3_lead 76 = .ok (.iload 4, 2) := by decide +kernel
theorem dX3_lead_78 : decode cX3_lead 78 = .ok (.ifCond .eq 8, 3) := by decide +kernel
theorem dX3_lead_81 : decode cX3_lead 81 = .ok (.bipush 6, 2) := by decide +kernel
theorem dX3_lead_83 : decode cX3_lead 83 = .ok (.goto 5, 3) := by decide +kernel
theorem dX3_lead_86 : decode cX3_lead 86 = .ok (.bipush 7, 2) := by decide +kernel
theorem dX3_lead_88 : decode cX3_lead 88 = .ok (.aload_n 3, 1) := by decide +kernel
theorem dX3_lead_89 : decode cX3_lead 89 = .ok (.getfield 122, 3) := by decide +kernel
theorem dX3_lead_92 : decode cX3_lead 92 = .ok (.iconst 0, 1) := by decide +kernel
theorem dX3_lead_93 : decode cX3_lead 93 = .ok (.invokevirtual 213, 3) := by decide +kernel
theorem dX3_lead_96 : decode cX3_lead 96 = .ok (.aload_n 0, 1) := by decide +kernel
theorem dX3_lead_97 : decode cX3_lead 97 = .ok (.aload_n 3, 1) := by decide +kernel
theorem dX3_lead_98 : decode cX3_lead 98 = .ok (.aload_n 0, 1) := by decide +kernel
theorem dX3_lead_99 : decode cX3_lead 99 = .ok (.getfield 26, 3) := by decide +kernel
theorem dX3_lead_102 : decode cX3_lead 102 = .ok (.invokevirtual 216, 3) := by decide +kernel
theorem dX3_lead_105 : decode cX3_lead 105 = .ok (.aload_n 0, 1) := by decide +kernel
theorem dX3_lead_106 : decode cX3_lead 106 = .ok (.aload_n 3, 1) := by decide +kernel
theorem dX3_lead_107 : decode cX3_lead 107 = .ok (.invokevirtual 237, 3) := by decide +kernel
theorem dX3_lead_110 : decode cX3_lead 110 = .ok (.ifCond .eq 18, 3) := by decide +kernel
theorem dX3_lead_113 : decode cX3_lead 113 = .ok (.aload_n 0, 1) := by decide +kernel
theorem dX3_lead_114 : decode cX3_lead 114 = .ok (.iload_n 1, 1) := by decide +kernel
theorem dX3_lead_115 : decode cX3_lead 115 = .ok (.iload 4, 2) := by decide +kernel
theorem dX3_lead_117 : decode cX3_lead 117 = .ok (.ifCond .eq 7, 3) := by decide +kernel
theorem dX3_lead_120 : decode cX3_lead 120 = .ok (.iconst 4, 1) := by decide +kernel
theorem dX3_lead_121 : decode cX3_lead 121 = .ok (.goto 4, 3) := by decide +kernel
theorem dX3_lead_124 : decode cX3_lead 124 = .ok (.iconst 5, 1) := by decide +kernel
theorem dX3_lead_125 : decode cX3_lead 125 = .ok (.invokevirtual 80, 3) := by decide +kernel
theorem dX3_lead_128 : decode cX3_lead 128 = .ok (.return_, 1) := by decide +kernel
theorem dX3_decide_0 : decode cX3_decide 0 = .ok (.aload_n 0, 1) := by decide +kernel
theorem dX3_decide_1 : decode cX3_decide 1 = .ok (.getfield 11, 3) := by decide +kernel
theorem dX3_decide_4 : decode cX3_decide 4 = .ok (.iload_n 1, 1) := by decide +kernel
theorem dX3_decide_5 : decode cX3_decide 5 = .ok (.aaload, 1) := by decide +kernel
theorem dX3_decide_6 : decode cX3_decide 6 = .ok (.astore_n 3, 1) := by decide +kernel
theorem dX3_decide_7 : decode cX3_decide 7 = .ok (.aload_n 0, 1) := by decide +kernel
theorem dX3_decide_8 : decode cX3_decide 8 = .ok (.aload_n 3, 1) := by decide +kernel
theorem dX3_decide_9 : decode cX3_decide 9 = .ok (.iload_n 2, 1) := by decide +kernel
theorem dX3_decide_10 : decode cX3_decide 10 = .ok (.invokevirtual 93, 3) := by decide +kernel
theorem dX3_decide_13 : decode cX3_decide 13 = .ok (.aload_n 3, 1) := by decide +kernel
theorem dX3_decide_14 : decode cX3_decide 14 = .ok (.iconst 0, 1) := by decide +kernel
theorem dX3_decide_15 : decode cX3_decide 15 = .ok (.putfield 84, 3) := by decide +kernel
theorem dX3_decide_18 : decode cX3_decide 18 = .ok (.aload_n 0, 1) := by decide +kernel
theorem dX3_decide_19 : decode cX3_decide 19 = .ok (.getfield 18, 3) := by decide +kernel
theorem dX3_decide_22 : decode cX3_decide 22 = .ok (.iload_n 1, 1) := by decide +kernel
theorem dX3_decide_23 : decode cX3_decide 23 = .ok (.aload_n 0, 1) := by decide +kernel
theorem dX3_decide_24 : decode cX3_decide 24 = .ok (.iload_n 1, 1) := by decide +kernel
theorem dX3_decide_25 : decode cX3_decide 25 = .ok (.invokevirtual 244, 3) := by decide +kernel
theorem dX3_decide_28 : decode cX3_decide 28 = .ok (.iload_n 2, 1) := by decide +kernel
theorem dX3_decide_29 : decode cX3_decide 29 = .ok (.invokestatic 231, 3) := by decide +kernel
theorem dX3_decide_32 : decode cX3_decide 32 = .ok (.iconst 0, 1) := by decide +kernel
theorem dX3_decide_33 : decode cX3_decide 33 = .ok (.iconst 0, 1) := by decide +kernel
theorem dX3_decide_34 : decode cX3_decide 34 = .ok (.invokevirtual 213, 3) := by decide +kernel
theorem dX3_decide_37 : decode cX3_decide 37 = .ok (.return_, 1) := by decide +kernel
theorem dX3_tidingsOf_0 : decode cX3_tidingsOf 0 = .ok (.iload_n 0, 1) := by decide +kernel
theorem dX3_tidingsOf_1 : decode cX3_tidingsOf 1 = .ok (.iconst 4, 1) := by decide +kernel
theorem dX3_tidingsOf_2 : decode cX3_tidingsOf 2 = .ok (.if_icmp .ne 8, 3) := by decide +kernel
theorem dX3_tidingsOf_5 : decode cX3_tidingsOf 5 = .ok (.bipush 9, 2) := by decide +kernel
theorem dX3_tidingsOf_7 : decode cX3_tidingsOf 7 = .ok (.goto 5, 3) := by decide +kernel
theorem dX3_tidingsOf_10 : decode cX3_tidingsOf 10 = .ok (.bipush 10, 2) := by decide +kernel
theorem dX3_tidingsOf_12 : decode cX3_tidingsOf 12 = .ok (.ireturn, 1) := by decide +kernel
theorem dX3_yieldTo_0 : decode cX3_yieldTo 0 = .ok (.aload_n 0, 1) := by decide +kernel
theorem dX3_yieldTo_1 : decode cX3_yieldTo 1 = .ok (.getfield 11, 3) := by decide +kernel
theorem dX3_yieldTo_4 : decode cX3_yieldTo 4 = .ok (.iload_n 1, 1) := by decide +kernel
theorem dX3_yieldTo_5 : decode cX3_yieldTo 5 = .ok (.aaload, 1) := by decide +kernel
theorem dX3_yieldTo_6 : decode cX3_yieldTo 6 = .ok (.astore_n 3, 1) := by decide +kernel
theorem dX3_yieldTo_7 : decode cX3_yieldTo 7 = .ok (.aload_n 3, 1) := by decide +kernel
theorem dX3_yieldTo_8 : decode cX3_yieldTo 8 = .ok (.getfield 84, 3) := by decide +kernel
theorem dX3_yieldTo_11 : decode cX3_yieldTo 11 = .ok (.iconst 2, 1) := by decide +kernel
theorem dX3_yieldTo_12 : decode cX3_yieldTo 12 = .ok (.if_icmp .lt 12, 3) := by decide +kernel
theorem dX3_yieldTo_15 : decode cX3_yieldTo 15 = .ok (.iload_n 2, 1) := by decide +kernel
theorem dX3_yieldTo_16 : decode cX3_yieldTo 16 = .ok (.iload_n 1, 1) := by decide +kernel
theorem dX3_yieldTo_17 : decode cX3_yieldTo 17 = .ok (.if_icmp .le 7, 3) := by decide +kernel
theorem dX3_yieldTo_20 : decode cX3_yieldTo 20 = .ok (.iconst 1, 1) := by decide +kernel
theorem dX3_yieldTo_21 : decode cX3_yieldTo 21 = .ok (.goto 4, 3) := by decide +kernel
theorem dX3_yieldTo_24 : decode cX3_yieldTo 24 = .ok (.iconst 0, 1) := by decide +kernel
theorem dX3_yieldTo_25 : decode cX3_yieldTo 25 = .ok (.istore 4, 2) := by decide +kernel
theorem dX3_yieldTo_27 : decode cX3_yieldTo 27 = .ok (.aload_n 3, 1) := by decide +kernel
theorem dX3_yieldTo_28 : decode cX3_yieldTo 28 = .ok (.invokevirtual 97, 3) := by decide +kernel
theorem dX3_yieldTo_31 : decode cX3_yieldTo 31 = .ok (.ifCond .ne 16, 3) := by decide +kernel
theorem dX3_yieldTo_34 : decode cX3_yieldTo 34 = .ok (.aload_n 3, 1) := by decide +kernel
theorem dX3_yieldTo_35 : decode cX3_yieldTo 35 = .ok (.getfield 84, 3) := by decide +kernel
theorem dX3_yieldTo_38 : decode cX3_yieldTo 38 = .ok (.iconst 1, 1) := by decide +kernel
theorem dX3_yieldTo_39 : decode cX3_yieldTo 39 = .ok (.if_icmp .eq 8, 3) := by decide +kernel
theorem dX3_yieldTo_42 : decode cX3_yieldTo 42 = .ok (.iload 4, 2) := by decide +kernel
theorem dX3_yieldTo_44 : decode cX3_yieldTo 44 = .ok (.ifCond .eq 4, 3) := by decide +kernel
theorem dX3_yieldTo_47 : decode cX3_yieldTo 47 = .ok (.return_, 1) := by decide +kernel
theorem dX3_yieldTo_48 : decode cX3_yieldTo 48 = .ok (.aload_n 3, 1) := by decide +kernel
theorem dX3_yieldTo_49 : decode cX3_yieldTo 49 = .ok (.iconst 0, 1) := by decide +kernel
theorem dX3_yieldTo_50 : decode cX3_yieldTo 50 = .ok (.putfield 84, 3) := by decide +kernel
theorem dX3_yieldTo_53 : decode cX3_yieldTo 53 = .ok (.aload_n 0, 1) := by decide +kernel
theorem dX3_yieldTo_54 : decode cX3_yieldTo 54 = .ok (.aload_n 3, 1) := by decide +kernel
theorem dX3_yieldTo_55 : decode cX3_yieldTo 55 = .ok (.aload_n 0, 1) := by decide +kernel
theorem dX3_yieldTo_56 : decode cX3_yieldTo 56 = .ok (.getfield 26, 3) := by decide +kernel
theorem dX3_yieldTo_59 : decode cX3_yieldTo 59 = .ok (.iload_n 1, 1) := by decide +kernel
theorem dX3_yieldTo_60 : decode cX3_yieldTo 60 = .ok (.iadd, 1) := by decide +kernel
theorem dX3_yieldTo_61 : decode cX3_yieldTo 61 = .ok (.invokevirtual 216, 3) := by decide +kernel
theorem dX3_yieldTo_64 : decode cX3_yieldTo 64 = .ok (.return_, 1) := by decide +kernel
theorem dX3_become_0 : decode cX3_become 0 = .ok (.aload_n 1, 1) := by decide +kernel
theorem dX3_become_1 : decode cX3_become 1 = .ok (.getfield 90, 3) := by decide +kernel
theorem dX3_become_4 : decode cX3_become 4 = .ok (.iload_n 2, 1) := by decide +kernel
theorem dX3_become_5 : decode cX3_become 5 = .ok (.if_icmp .eq 19, 3) := by decide +kernel
theorem dX3_become_8 : decode cX3_become 8 = .ok (.aload_n 1, 1) := by decide +kernel
theorem dX3_become_9 : decode cX3_become 9 = .ok (.iload_n 2, 1) := by decide +kernel
theorem dX3_become_10 : decode cX3_become 10 = .ok (.putfield 90, 3) := by decide +kernel
theorem dX3_become_13 : decode cX3_become 13 = .ok (.aload_n 1, 1) := by decide +kernel
theorem dX3_become_14 : decode cX3_become 14 = .ok (.aload_n 0, 1) := by decide +kernel
theorem dX3_become_15 : decode cX3_become 15 = .ok (.getfield 18, 3) := by decide +kernel
theorem dX3_become_18 : decode cX3_become 18 = .ok (.getfield 104, 3) := by decide +kernel
theorem dX3_become_21 : decode cX3_become 21 = .ok (.putfield 127, 3) := by decide +kernel
theorem dX3_become_24 : decode cX3_become 24 = .ok (.aload_n 1, 1) := by decide +kernel
theorem dX3_become_25 : decode cX3_become 25 = .ok (.invokevirtual 97, 3) := by decide +kernel
theorem dX3_become_28 : decode cX3_become 28 = .ok (.ifCond .eq 8, 3) := by decide +kernel
theorem dX3_become_31 : decode cX3_become 31 = .ok (.aload_n 1, 1) := by decide +kernel
theorem dX3_become_32 : decode cX3_become 32 = .ok (.iconst (-1), 1) := by decide +kernel
theorem dX3_become_33 : decode cX3_become 33 = .ok (.putfield 87, 3) := by decide +kernel
theorem dX3_become_36 : decode cX3_become 36 = .ok (.return_, 1) := by decide +kernel
theorem dX3_setTimer_0 : decode cX3_setTimer 0 = .ok (.aload_n 1, 1) := by decide +kernel
theorem dX3_setTimer_1 : decode cX3_setTimer 1 = .ok (.aload_n 0, 1) := by decide +kernel
theorem dX3_setTimer_2 : decode cX3_setTimer 2 = .ok (.getfield 18, 3) := by decide +kernel
theorem dX3_setTimer_5 : decode cX3_setTimer 5 = .ok (.getfield 104, 3) := by decide +kernel
theorem dX3_setTimer_8 : decode cX3_setTimer 8 = .ok (.iload_n 2, 1) := by decide +kernel
theorem dX3_setTimer_9 : decode cX3_setTimer 9 = .ok (.iadd, 1) := by decide +kernel
theorem dX3_setTimer_10 : decode cX3_setTimer 10 = .ok (.putfield 87, 3) := by decide +kernel
theorem dX3_setTimer_13 : decode cX3_setTimer 13 = .ok (.aload_n 1, 1) := by decide +kernel
theorem dX3_setTimer_14 : decode cX3_setTimer 14 = .ok (.aload_n 0, 1) := by decide +kernel
theorem dX3_setTimer_15 : decode cX3_setTimer 15 = .ok (.getfield 18, 3) := by decide +kernel
theorem dX3_setTimer_18 : decode cX3_setTimer 18 = .ok (.invokevirtual 247, 3) := by decide +kernel
theorem dX3_setTimer_21 : decode cX3_setTimer 21 = .ok (.putfield 250, 3) := by decide +kernel
theorem dX3_setTimer_24 : decode cX3_setTimer 24 = .ok (.return_, 1) := by decide +kernel
theorem dX3_hasQuorum_0 : decode cX3_hasQuorum 0 = .ok (.iconst 0, 1) := by decide +kernel
theorem dX3_hasQuorum_1 : decode cX3_hasQuorum 1 = .ok (.istore_n 2, 1) := by decide +kernel
theorem dX3_hasQuorum_2 : decode cX3_hasQuorum 2 = .ok (.iconst 0, 1) := by decide +kernel
theorem dX3_hasQuorum_3 : decode cX3_hasQuorum 3 = .ok (.istore_n 3, 1) := by decide +kernel
theorem dX3_hasQuorum_4 : decode cX3_hasQuorum 4 = .ok (.iload_n 3, 1) := by decide +kernel
theorem dX3_hasQuorum_5 : decode cX3_hasQuorum 5 = .ok (.aload_n 0, 1) := by decide +kernel
theorem dX3_hasQuorum_6 : decode cX3_hasQuorum 6 = .ok (.getfield 41, 3) := by decide +kernel
theorem dX3_hasQuorum_9 : decode cX3_hasQuorum 9 = .ok (.if_icmp .ge 32, 3) := by decide +kernel
theorem dX3_hasQuorum_12 : decode cX3_hasQuorum 12 = .ok (.aload_n 1, 1) := by decide +kernel
theorem dX3_hasQuorum_13 : decode cX3_hasQuorum 13 = .ok (.getfield 219, 3) := by decide +kernel
theorem dX3_hasQuorum_16 : decode cX3_hasQuorum 16 = .ok (.iload_n 3, 1) := by decide +kernel
theorem dX3_hasQuorum_17 : decode cX3_hasQuorum 17 = .ok (.invokestatic 64, 3) := by decide +kernel
theorem dX3_hasQuorum_20 : decode cX3_hasQuorum 20 = .ok (.ifCond .eq 15, 3) := by decide +kernel
theorem dX3_hasQuorum_23 : decode cX3_hasQuorum 23 = .ok (.iload_n 2, 1) := by decide +kernel
theorem dX3_hasQuorum_24 : decode cX3_hasQuorum 24 = .ok (.aload_n 0, 1) := by decide +kernel
theorem dX3_hasQuorum_25 : decode cX3_hasQuorum 25 = .ok (.getfield 11, 3) := by decide +kernel
theorem dX3_hasQuorum_28 : decode cX3_hasQuorum 28 = .ok (.iload_n 3, 1) := by decide +kernel
theorem dX3_hasQuorum_29 : decode cX3_hasQuorum 29 = .ok (.aaload, 1) := by decide +kernel
theorem dX3_hasQuorum_30 : decode cX3_hasQuorum 30 = .ok (.getfield 124, 3) := by decide +kernel
theorem dX3_hasQuorum_33 : decode cX3_hasQuorum 33 = .ok (.iadd, 1) := by decide +kernel
theorem dX3_hasQuorum_34 : decode cX3_hasQuorum 34 = .ok (.istore_n 2, 1) := by decide +kernel
theorem dX3_hasQuorum_35 : decode cX3_hasQuorum 35 = .ok (.iinc 3 1, 3) := by decide +kernel
theorem dX3_hasQuorum_38 : decode cX3_hasQuorum 38 = .ok (.goto (-34), 3) := by decide +kernel
theorem dX3_hasQuorum_41 : decode cX3_hasQuorum 41 = .ok (.iload_n 2, 1) := by decide +kernel
theorem dX3_hasQuorum_42 : decode cX3_hasQuorum 42 = .ok (.aload_n 1, 1) := by decide +kernel
theorem dX3_hasQuorum_43 : decode cX3_hasQuorum 43 = .ok (.getfield 84, 3) := by decide +kernel
theorem dX3_hasQuorum_46 : decode cX3_hasQuorum 46 = .ok (.iconst 2, 1) := by decide +kernel
theorem dX3_hasQuorum_47 : decode cX3_hasQuorum 47 = .ok (.if_icmp .ne 10, 3) := by decide +kernel
theorem dX3_hasQuorum_50 : decode cX3_hasQuorum 50 = .ok (.aload_n 0, 1) := by decide +kernel
theorem dX3_hasQuorum_51 : decode cX3_hasQuorum 51 = .ok (.getfield 50, 3) := by decide +kernel
theorem dX3_hasQuorum_54 : decode cX3_hasQuorum 54 = .ok (.goto 7, 3) := by decide +kernel
theorem dX3_hasQuorum_57 : decode cX3_hasQuorum 57 = .ok (.aload_n 0, 1) := by decide +kernel
theorem dX3_hasQuorum_58 : decode cX3_hasQuorum 58 = .ok (.getfield 53, 3) := by decide +kernel
theorem dX3_hasQuorum_61 : decode cX3_hasQuorum 61 = .ok (.if_icmp .lt 7, 3) := by decide +kernel
theorem dX3_hasQuorum_64 : decode cX3_hasQuorum 64 = .ok (.iconst 1, 1) := by decide +kernel
theorem dX3_hasQuorum_65 : decode cX3_hasQuorum 65 = .ok (.goto 4, 3) := by decide +kernel
theorem dX3_hasQuorum_68 : decode cX3_hasQuorum 68 = .ok (.iconst 0, 1) := by decide +kernel
theorem dX3_hasQuorum_69 : decode cX3_hasQuorum 69 = .ok (.ireturn, 1) := by decide +kernel
theorem dX3_toldWeight_0 : decode cX3_toldWeight 0 = .ok (.iconst 0, 1) := by decide +kernel
theorem dX3_toldWeight_1 : decode cX3_toldWeight 1 = .ok (.istore_n 3, 1) := by decide +kernel
theorem dX3_toldWeight_2 : decode cX3_toldWeight 2 = .ok (.iconst 0, 1) := by decide +kernel
theorem dX3_toldWeight_3 : decode cX3_toldWeight 3 = .ok (.istore 4, 2) := by decide +kernel
theorem dX3_toldWeight_5 : decode cX3_toldWeight 5 = .ok (.iload 4, 2) := by decide +kernel
theorem dX3_toldWeight_7 : decode cX3_toldWeight 7 = .ok (.aload_n 0, 1) := by decide +kernel
theorem dX3_toldWeight_8 : decode cX3_toldWeight 8 = .ok (.getfield 41, 3) := by decide +kernel
theorem dX3_toldWeight_11 : decode cX3_toldWeight 11 = .ok (.if_icmp .ge 45, 3) := by decide +kernel
theorem dX3_toldWeight_14 : decode cX3_toldWeight 14 = .ok (.aload_n 1, 1) := by decide +kernel
theorem dX3_toldWeight_15 : decode cX3_toldWeight 15 = .ok (.getfield 219, 3) := by decide +kernel
theorem dX3_toldWeight_18 : decode cX3_toldWeight 18 = .ok (.iload 4, 2) := by decide +kernel
theorem dX3_toldWeight_20 : decode cX3_toldWeight 20 = .ok (.invokestatic 64, 3) := by decide +kernel
theorem dX3_toldWeight_23 : decode cX3_toldWeight 23 = .ok (.ifCond .eq 27, 3) := by decide +kernel
theorem dX3_toldWeight_26 : decode cX3_toldWeight 26 = .ok (.aload_n 1, 1) := by decide +kernel
theorem dX3_toldWeight_27 : decode cX3_toldWeight 27 = .ok (.getfield 228, 3) := by decide +kernel
theorem dX3_toldWeight_30 : decode cX3_toldWeight 30 = .ok (.iload 4, 2) := by decide +kernel
theorem dX3_toldWeight_32 : decode cX3_toldWeight 32 = .ok (.iaload, 1) := by decide +kernel
theorem dX3_toldWeight_33 : decode cX3_toldWeight 33 = .ok (.iload_n 2, 1) := by decide +kernel
theorem dX3_toldWeight_34 : decode cX3_toldWeight 34 = .ok (.if_icmp .ne 16, 3) := by decide +kernel
theorem dX3_toldWeight_37 : decode cX3_toldWeight 37 = .ok (.iload_n 3, 1) := by decide +kernel
theorem dX3_toldWeight_38 : decode cX3_toldWeight 38 = .ok (.aload_n 0, 1) := by decide +kernel
theorem dX3_toldWeight_39 : decode cX3_toldWeight 39 = .ok (.getfield 11, 3) := by decide +kernel
theorem dX3_toldWeight_42 : decode cX3_toldWeight 42 = .ok (.iload 4, 2) := by decide +kernel
theorem dX3_toldWeight_44 : decode cX3_toldWeight 44 = .ok (.aaload, 1) := by decide +kernel
theorem dX3_toldWeight_45 : decode cX3_toldWeight 45 = .ok (.getfield 124, 3) := by decide +kernel
theorem dX3_toldWeight_48 : decode cX3_toldWeight 48 = .ok (.iadd, 1) := by decide +kernel
theorem dX3_toldWeight_49 : decode cX3_toldWeight 49 = .ok (.istore_n 3, 1) := by decide +kernel
theorem dX3_toldWeight_50 : decode cX3_toldWeight 50 = .ok (.iinc 4 1, 3) := by decide +kernel
theorem dX3_toldWeight_53 : decode cX3_toldWeight 53 = .ok (.goto (-48), 3) := by decide +kernel
theorem dX3_toldWeight_56 : decode cX3_toldWeight 56 = .ok (.iload_n 3, 1) := by decide +kernel
theorem dX3_toldWeight_57 : decode cX3_toldWeight 57 = .ok (.ireturn, 1) := by decide +kernel
theorem dX4_init_0 : decode cX4_init 0 = .ok (.aload_n 0, 1) := by decide +kernel
theorem dX4_init_1 : decode cX4_init 1 = .ok (.invokespecial 1, 3) := by decide +kernel
theorem dX4_init_4 : decode cX4_init 4 = .ok (.aload_n 0, 1) := by decide +kernel
theorem dX4_init_5 : decode cX4_init 5 = .ok (.bipush 8, 2) := by decide +kernel
theorem dX4_init_7 : decode cX4_init 7 = .ok (.newarray .int, 2) := by decide +kernel
theorem dX4_init_9 : decode cX4_init 9 = .ok (.putfield 7, 3) := by decide +kernel
theorem dX4_init_12 : decode cX4_init 12 = .ok (.aload_n 0, 1) := by decide +kernel
theorem dX4_init_13 : decode cX4_init 13 = .ok (.bipush 10, 2) := by decide +kernel
theorem dX4_init_15 : decode cX4_init 15 = .ok (.putfield 13, 3) := by decide +kernel
theorem dX4_init_18 : decode cX4_init 18 = .ok (.aload_n 0, 1) := by decide +kernel
theorem dX4_init_19 : decode cX4_init 19 = .ok (.bipush 64, 2) := by decide +kernel
theorem dX4_init_21 : decode cX4_init 21 = .ok (.newarray .int, 2) := by decide +kernel
theorem dX4_init_23 : decode cX4_init 23 = .ok (.putfield 17, 3) := by decide +kernel
theorem dX4_init_26 : decode cX4_init 26 = .ok (.aload_n 0, 1) := by decide +kernel
theorem dX4_init_27 : decode cX4_init 27 = .ok (.bipush 8, 2) := by decide +kernel
theorem dX4_init_29 : decode cX4_init 29 = .ok (.newarray .int, 2) := by decide +kernel
theorem dX4_init_31 : decode cX4_init 31 = .ok (.putfield 20, 3) := by decide +kernel
theorem dX4_init_34 : decode cX4_init 34 = .ok (.aload_n 0, 1) := by decide +kernel
theorem dX4_init_35 : decode cX4_init 35 = .ok (.bipush 8, 2) := by decide +kernel
theorem dX4_init_37 : decode cX4_init 37 = .ok (.newarray .int, 2) := by decide +kernel
theorem dX4_init_39 : decode cX4_init 39 = .ok (.putfield 23, 3) := by decide +kernel
theorem dX4_init_42 : decode cX4_init 42 = .ok (.aload_n 0, 1) := by decide +kernel
theorem dX4_init_43 : decode cX4_init 43 = .ok (.bipush 8, 2) := by decide +kernel
theorem dX4_init_45 : decode cX4_init 45 = .ok (.newarray .boolean, 2) := by decide +kernel
theorem dX4_init_47 : decode cX4_init 47 = .ok (.putfield 26, 3) := by decide +kernel
theorem dX4_init_50 : decode cX4_init 50 = .ok (.aload_n 0, 1) := by decide +kernel
theorem dX4_init_51 : decode cX4_init 51 = .ok (.bipush 8, 2) := by decide +kernel
theorem dX4_init_53 : decode cX4_init 53 = .ok (.newarray .boolean, 2) := by decide +kernel
theorem dX4_init_55 : decode cX4_init 55 = .ok (.putfield 30, 3) := by decide +kernel
theorem dX4_init_58 : decode cX4_init 58 = .ok (.aload_n 0, 1) := by decide +kernel
theorem dX4_init_59 : decode cX4_init 59 = .ok (.bipush 8, 2) := by decide +kernel
theorem dX4_init_61 : decode cX4_init 61 = .ok (.newarray .int, 2) := by decide +kernel
theorem dX4_init_63 : decode cX4_init 63 = .ok (.putfield 33, 3) := by decide +kernel
theorem dX4_init_66 : decode cX4_init 66 = .ok (.aload_n 0, 1) := by decide +kernel
theorem dX4_init_67 : decode cX4_init 67 = .ok (.bipush 8, 2) := by decide +kernel
theorem dX4_init_69 : decode cX4_init 69 = .ok (.newarray .int, 2) := by decide +kernel
theorem dX4_init_71 : decode cX4_init 71 = .ok (.putfield 36, 3) := by decide +kernel
theorem dX4_init_74 : decode cX4_init 74 = .ok (.aload_n 0, 1) := by decide +kernel
theorem dX4_init_75 : decode cX4_init 75 = .ok (.bipush 64, 2) := by decide +kernel
theorem dX4_init_77 : decode cX4_init 77 = .ok (.newarray .int, 2) := by decide +kernel
theorem dX4_init_79 : decode cX4_init 79 = .ok (.putfield 39, 3) := by decide +kernel
theorem dX4_init_82 : decode cX4_init 82 = .ok (.aload_n 0, 1) := by decide +kernel
theorem dX4_init_83 : decode cX4_init 83 = .ok (.bipush 8, 2) := by decide +kernel
theorem dX4_init_85 : decode cX4_init 85 = .ok (.newarray .int, 2) := by decide +kernel
theorem dX4_init_87 : decode cX4_init 87 = .ok (.putfield 42, 3) := by decide +kernel
theorem dX4_init_90 : decode cX4_init 90 = .ok (.aload_n 0, 1) := by decide +kernel
theorem dX4_init_91 : decode cX4_init 91 = .ok (.bipush 8, 2) := by decide +kernel
theorem dX4_init_93 : decode cX4_init 93 = .ok (.newarray .int, 2) := by decide +kernel
theorem dX4_init_95 : decode cX4_init 95 = .ok (.putfield 45, 3) := by decide +kernel
theorem dX4_init_98 : decode cX4_init 98 = .ok (.aload_n 0, 1) := by decide +kernel
theorem dX4_init_99 : decode cX4_init 99 = .ok (.ldc 48, 2) := by decide +kernel
theorem dX4_init_101 : decode cX4_init 101 = .ok (.newarray .int, 2) := by decide +kernel
theorem dX4_init_103 : decode cX4_init 103 = .ok (.putfield 49, 3) := by decide +kernel
theorem dX4_init_106 : decode cX4_init 106 = .ok (.aload_n 0, 1) := by decide +kernel
theorem dX4_init_107 : decode cX4_init 107 = .ok (.ldc 48, 2) := by decide +kernel
theorem dX4_init_109 : decode cX4_init 109 = .ok (.newarray .int, 2) := by decide +kernel
theorem dX4_init_111 : decode cX4_init 111 = .ok (.putfield 52, 3) := by decide +kernel
theorem dX4_init_114 : decode cX4_init 114 = .ok (.aload_n 0, 1) := by decide +kernel
theorem dX4_init_115 : decode cX4_init 115 = .ok (.ldc 48, 2) := by decide +kernel
theorem dX4_init_117 : decode cX4_init 117 = .ok (.newarray .int, 2) := by decide +kernel
theorem dX4_init_119 : decode cX4_init 119 = .ok (.putfield 55, 3) := by decide +kernel
theorem dX4_init_122 : decode cX4_init 122 = .ok (.aload_n 0, 1) := by decide +kernel
theorem dX4_init_123 : decode cX4_init 123 = .ok (.ldc 48, 2) := by decide +kernel
theorem dX4_init_125 : decode cX4_init 125 = .ok (.newarray .int, 2) := by decide +kernel
theorem dX4_init_127 : decode cX4_init 127 = .ok (.putfield 58, 3) := by decide +kernel
theorem dX4_init_130 : decode cX4_init 130 = .ok (.aload_n 0, 1) := by decide +kernel
theorem dX4_init_131 : decode cX4_init 131 = .ok (.ldc 48, 2) := by decide +kernel
theorem dX4_init_133 : decode cX4_init 133 = .ok (.newarray .int, 2) := by decide +kernel
theorem dX4_init_135 : decode cX4_init 135 = .ok (.putfield 61, 3) := by decide +kernel
theorem dX4_init_138 : decode cX4_init 138 = .ok (.aload_n 0, 1) := by decide +kernel
theorem dX4_init_139 : decode cX4_init 139 = .ok (.ldc 48, 2) := by decide +kernel
theorem dX4_init_141 : decode cX4_init 141 = .ok (.newarray .int, 2) := by decide +kernel
theorem dX4_init_143 : decode cX4_init 143 = .ok (.putfield 64, 3) := by decide +kernel
theorem dX4_init_146 : decode cX4_init 146 = .ok (.aload_n 0, 1) := by decide +kernel
theorem dX4_init_147 : decode cX4_init 147 = .ok (.ldc 48, 2) := by decide +kernel
theorem dX4_init_149 : decode cX4_init 149 = .ok (.newarray .int, 2) := by decide +kernel
theorem dX4_init_151 : decode cX4_init 151 = .ok (.putfield 67, 3) := by decide +kernel
theorem dX4_init_154 : decode cX4_init 154 = .ok (.aload_n 0, 1) := by decide +kernel
theorem dX4_init_155 : decode cX4_init 155 = .ok (.iconst 5, 1) := by decide +kernel
theorem dX4_init_156 : decode cX4_init 156 = .ok (.newarray .int, 2) := by decide +kernel
theorem dX4_init_158 : decode cX4_init 158 = .ok (.putfield 70, 3) := by decide +kernel
theorem dX4_init_161 : decode cX4_init 161 = .ok (.return_, 1) := by decide +kernel
theorem dX4_isSite_0 : decode cX4_isSite 0 = .ok (.iload_n 1, 1) := by decide +kernel
theorem dX4_isSite_1 : decode cX4_isSite 1 = .ok (.ifCond .lt 15, 3) := by decide +kernel
theorem dX4_isSite_4 : decode cX4_isSite 4 = .ok (.iload_n 1, 1) := by decide +kernel
theorem dX4_isSite_5 : decode cX4_isSite 5 = .ok (.aload_n 0, 1) := by decide +kernel
theorem dX4_isSite_6 : decode cX4_isSite 6 = .ok (.getfield 76, 3) := by decide +kernel
theorem dX4_isSite_9 : decode cX4_isSite 9 = .ok (.if_icmp .ge 7, 3) := by decide +kernel
theorem dX4_isSite_12 : decode cX4_isSite 12 = .ok (.iconst 1, 1) := by decide +kernel
theorem dX4_isSite_13 : decode cX4_isSite 13 = .ok (.goto 4, 3) := by decide +kernel
theorem dX4_isSite_16 : decode cX4_isSite 16 = .ok (.iconst 0, 1) := by decide +kernel
theorem dX4_isSite_17 : decode cX4_isSite 17 = .ok (.ireturn, 1) := by decide +kernel
theorem dX4_all_0 : decode cX4_all 0 = .ok (.iconst 0, 1) := by decide +kernel
theorem dX4_all_1 : decode cX4_all 1 = .ok (.istore_n 1, 1) := by decide +kernel
theorem dX4_all_2 : decode cX4_all 2 = .ok (.iconst 0, 1) := by decide +kernel
theorem dX4_all_3 : decode cX4_all 3 = .ok (.istore_n 2, 1) := by decide +kernel
theorem dX4_all_4 : decode cX4_all 4 = .ok (.iload_n 2, 1) := by decide +kernel
theorem dX4_all_5 : decode cX4_all 5 = .ok (.aload_n 0, 1) := by decide +kernel
theorem dX4_all_6 : decode cX4_all 6 = .ok (.getfield 76, 3) := by decide +kernel
theorem dX4_all_9 : decode cX4_all 9 = .ok (.if_icmp .ge 18, 3) := by decide +kernel
theorem dX4_all_12 : decode cX4_all 12 = .ok (.iload_n 1, 1) := by decide +kernel
theorem dX4_all_13 : decode cX4_all 13 = .ok (.aload_n 0, 1) := by decide +kernel
theorem dX4_all_14 : decode cX4_all 14 = .ok (.getfield 7, 3) := by decide +kernel
theorem dX4_all_17 : decode cX4_all 17 = .ok (.iload_n 2, 1) := by decide +kernel
theorem dX4_all_18 : decode cX4_all 18 = .ok (.iaload, 1) := by decide +kernel
theorem dX4_all_19 : decode cX4_all 19 = .ok (.iadd, 1) := by decide +kernel
theorem dX4_all_20 : decode cX4_all 20 = .ok (.istore_n 1, 1) := by decide +kernel
theorem dX4_all_21 : decode cX4_all 21 = .ok (.iinc 2 1, 3) := by decide +kernel
theorem dX4_all_24 : decode cX4_all 24 = .ok (.goto (-20), 3) := by decide +kernel
theorem dX4_all_27 : decode cX4_all 27 = .ok (.iload_n 1, 1) := by decide +kernel
theorem dX4_all_28 : decode cX4_all 28 = .ok (.ireturn, 1) := by decide +kernel
theorem dX4_site_0 : decode cX4_site 0 = .ok (.aload_n 0, 1) := by decide +kernel
theorem dX4_site_1 : decode cX4_site 1 = .ok (.iconst 0, 1) := by decide +kernel
theorem dX4_site_2 : decode cX4_site 2 = .ok (.putfield 73, 3) := by decide +kernel
theorem dX4_site_5 : decode cX4_site 5 = .ok (.iload_n 1, 1) := by decide +kernel
theorem dX4_site_6 : decode cX4_site 6 = .ok (.iconst 1, 1) := by decide +kernel
theorem dX4_site_7 : decode cX4_site 7 = .ok (.if_icmp .lt 25, 3) := by decide +kernel
theorem dX4_site_10 : decode cX4_site 10 = .ok (.iload_n 1, 1) := by decide +kernel
theorem dX4_site_11 : decode cX4_site 11 = .ok (.bipush 9, 2) := by decide +kernel
theorem dX4_site_13 : decode cX4_site 13 = .ok (.if_icmp .gt 19, 3) := by decide +kernel
theorem dX4_site_16 : decode cX4_site 16 = .ok (.aload_n 0, 1) := by decide +kernel
theorem dX4_site_17 : decode cX4_site 17 = .ok (.getfield 79, 3) := by decide +kernel
theorem dX4_site_20 : decode cX4_site 20 = .ok (.ifCond .ne 12, 3) := by decide +kernel
theorem dX4_site_23 : decode cX4_site 23 = .ok (.aload_n 0, 1) := by decide +kernel
theorem dX4_site_24 : decode cX4_site 24 = .ok (.getfield 76, 3) := by decide +kernel
theorem dX4_site_27 : decode cX4_site 27 = .ok (.bipush 8, 2) := by decide +kernel
theorem dX4_site_29 : decode cX4_site 29 = .ok (.if_icmp .ne 5, 3) := by decide +kernel
theorem dX4_site_32 : decode cX4_site 32 = .ok (.iconst (-1), 1) := by decide +kernel
theorem dX4_site_33 : decode cX4_site 33 = .ok (.ireturn, 1) := by decide +kernel
theorem dX4_site_34 : decode cX4_site 34 = .ok (.aload_n 0, 1) := by decide +kernel
theorem dX4_site_35 : decode cX4_site 35 = .ok (.getfield 7, 3) := by decide +kernel
theorem dX4_site_38 : decode cX4_site 38 = .ok (.aload_n 0, 1) := by decide +kernel
theorem dX4_site_39 : decode cX4_site 39 = .ok (.getfield 76, 3) := by decide +kernel
theorem dX4_site_42 : decode cX4_site 42 = .ok (.iload_n 1, 1) := by decide +kernel
theorem dX4_site_43 : decode cX4_site 43 = .ok (.iastore, 1) := by decide +kernel
theorem dX4_site_44 : decode cX4_site 44 = .ok (.aload_n 0, 1) := by decide +kernel
theorem dX4_site_45 : decode cX4_site 45 = .ok (.getfield 42, 3) := by decide +kernel
theorem dX4_site_48 : decode cX4_site 48 = .ok (.aload_n 0, 1) := by decide +kernel
theorem dX4_site_49 : decode cX4_site 49 = .ok (.getfield 76, 3) := by decide +kernel
theorem dX4_site_52 : decode cX4_site 52 = .ok (.iconst (-1), 1) := by decide +kernel
theorem dX4_site_53 : decode cX4_site 53 = .ok (.iastore, 1) := by decide +kernel
theorem dX4_site_54 : decode cX4_site 54 = .ok (.iconst 0, 1) := by decide +kernel
theorem dX4_site_55 : decode cX4_site 55 = .ok (.istore_n 2, 1) := by decide +kernel
theorem dX4_site_56 : decode cX4_site 56 = .ok (.iload_n 2, 1) := by decide +kernel
theorem dX4_site_57 : decode cX4_site 57 = .ok (.aload_n 0, 1) := by decide +kernel
theorem dX4_site_58 : decode cX4_site 58 = .ok (.getfield 76, 3) := by decide +kernel
theorem dX4_site_61 : decode cX4_site 61 = .ok (.if_icmp .ge 39, 3) := by decide +kernel
theorem dX4_site_64 : decode cX4_site 64 = .ok (.aload_n 0, 1) := by decide +kernel
theorem dX4_site_65 : decode cX4_site 65 = .ok (.getfield 17, 3) := by decide +kernel
theorem dX4_site_68 : decode cX4_site 68 = .ok (.bipush 8, 2) := by decide +kernel
theorem dX4_site_70 : decode cX4_site 70 = .ok (.iload_n 2, 1) := by decide +kernel
theorem dX4_site_71 : decode cX4_site 71 = .ok (.imul, 1) := by decide +kernel
theorem dX4_site_72 : decode cX4_site 72 = .ok (.aload_n 0, 1) := by decide +kernel
theorem dX4_site_73 : decode cX4_site 73 = .ok (.getfield 76, 3) := by decide +kernel
theorem dX4_site_76 : decode cX4_site 76 = .ok (.iadd, 1) := by decide +kernel
theorem dX4_site_77 : decode cX4_site 77 = .ok (.iconst 1, 1) := by decide +kernel
theorem dX4_site_78 : decode cX4_site 78 = .ok (.iastore, 1) := by decide +kernel
theorem dX4_site_79 : decode cX4_site 79 = .ok (.aload_n 0, 1) := by decide +kernel
theorem dX4_site_80 : decode cX4_site 80 = .ok (.getfield 17, 3) := by decide +kernel
theorem dX4_site_83 : decode cX4_site 83 = .ok (.bipush 8, 2) := by decide +kernel
theorem dX4_site_85 : decode cX4_site 85 = .ok (.aload_n 0, 1) := by decide +kernel
theorem dX4_site_86 : decode cX4_site 86 = .ok (.getfield 76, 3) := by decide +kernel
theorem dX4_site_89 : decode cX4_site 89 = .ok (.imul, 1) := by decide +kernel
theorem dX4_site_90 : decode cX4_site 90 = .ok (.iload_n 2, 1) := by decide +kernel
theorem dX4_site_91 : decode cX4_site 91 = .ok (.iadd, 1) := by decide +kernel
theorem dX4_site_92 : decode cX4_site 92 = .ok (.iconst 1, 1) := by decide +kernel
theorem dX4_site_93 : decode cX4_site 93 = .ok (.iastore, 1) := by decide +kernel
theorem dX4_site_94 : decode cX4_site 94 = .ok (.iinc 2 1, 3) := by decide +kernel
theorem dX4_site_97 : decode cX4_site 97 = .ok (.goto (-41), 3) := by decide +kernel
theorem dX4_site_100 : decode cX4_site 100 = .ok (.aload_n 0, 1) := by decide +kernel
theorem dX4_site_101 : decode cX4_site 101 = .ok (.dup, 1) := by decide +kernel
theorem dX4_site_102 : decode cX4_site 102 = .ok (.getfield 76, 3) := by decide +kernel
theorem dX4_site_105 : decode cX4_site 105 = .ok (.iconst 1, 1) := by decide +kernel
theorem dX4_site_106 : decode cX4_site 106 = .ok (.iadd, 1) := by decide +kernel
theorem dX4_site_107 : decode cX4_site 107 = .ok (.putfield 76, 3) := by decide +kernel
theorem dX4_site_110 : decode cX4_site 110 = .ok (.aload_n 0, 1) := by decide +kernel
theorem dX4_site_111 : decode cX4_site 111 = .ok (.aload_n 0, 1) := by decide +kernel
theorem dX4_site_112 : decode cX4_site 112 = .ok (.invokevirtual 83, 3) := by decide +kernel
theorem dX4_site_115 : decode cX4_site 115 = .ok (.iconst 2, 1) := by decide +kernel
theorem dX4_site_116 : decode cX4_site 116 = .ok (.idiv, 1) := by decide +kernel
theorem dX4_site_117 : decode cX4_site 117 = .ok (.iconst 1, 1) := by decide +kernel
theorem dX4_site_118 : decode cX4_site 118 = .ok (.iadd, 1) := by decide +kernel
theorem dX4_site_119 : decode cX4_site 119 = .ok (.putfield 87, 3) := by decide +kernel
theorem dX4_site_122 : decode cX4_site 122 = .ok (.aload_n 0, 1) := by decide +kernel
theorem dX4_site_123 : decode cX4_site 123 = .ok (.aload_n 0, 1) := by decide +kernel
theorem dX4_site_124 : decode cX4_site 124 = .ok (.getfield 87, 3) := by decide +kernel
theorem dX4_site_127 : decode cX4_site 127 = .ok (.putfield 90, 3) := by decide +kernel
theorem dX4_site_130 : decode cX4_site 130 = .ok (.aload_n 0, 1) := by decide +kernel
theorem dX4_site_131 : decode cX4_site 131 = .ok (.getfield 76, 3) := by decide +kernel
theorem dX4_site_134 : decode cX4_site 134 = .ok (.iconst 1, 1) := by decide +kernel
theorem dX4_site_135 : decode cX4_site 135 = .ok (.isub, 1) := by decide +kernel
theorem dX4_site_136 : decode cX4_site 136 = .ok (.ireturn, 1) := by decide +kernel
theorem dX4_quorums_0 : decode cX4_quorums 0 = .ok (.aload_n 0, 1) := by decide +kernel
theorem dX4_quorums_1 : decode cX4_quorums 1 = .ok (.iconst 0, 1) := by decide +kernel
theorem dX4_quorums_2 : decode cX4_quorums 2 = .ok (.putfield 73, 3) := by decide +kernel
theorem dX4_quorums_5 : decode cX4_quorums 5 = .ok (.aload_n 0, 1) := by decide +kernel
theorem dX4_quorums_6 : decode cX4_quorums 6 = .ok (.invokevirtual 83, 3) := by decide +kernel
theorem dX4_quorums_9 : decode cX4_quorums 9 = .ok (.istore_n 3, 1) := by decide +kernel
theorem dX4_quorums_10 : decode cX4_quorums 10 = .ok (.aload_n 0, 1) := by decide +kernel
theorem dX4_quorums_11 : decode cX4_quorums 11 = .ok (.getfield 79, 3) := by decide +kernel
theorem dX4_quorums_14 : decode cX4_quorums 14 = .ok (.ifCond .ne 30, 3) := by decide +kernel
theorem dX4_quorums_17 : decode cX4_quorums 17 = .ok (.iload_n 1, 1) := by decide +kernel
theorem dX4_quorums_18 : decode cX4_quorums 18 = .ok (.iconst 1, 1) := by decide +kernel
theorem dX4_quorums_19 : decode cX4_quorums 19 = .ok (.if_icmp .lt 25, 3) := by decide +kernel
theorem dX4_quorums_22 : decode cX4_quorums 22 = .ok (.iload_n 1, 1) := by decide +kernel
theorem dX4_quorums_23 : decode cX4_quorums 23 = .ok (.iload_n 3, 1) := by decide +kernel
theorem dX4_quorums_24 : decode cX4_quorums 24 = .ok (.if_icmp .gt 20, 3) := by decide +kernel
theorem dX4_quorums_27 : decode cX4_quorums 27 = .ok (.iload_n 2, 1) := by decide +kernel
theorem dX4_quorums_28 : decode cX4_quorums 28 = .ok (.iconst 1, 1) := by decide +kernel
theorem dX4_quorums_29 : decode cX4_quorums 29 = .ok (.if_icmp .lt 15, 3) := by decide +kernel
theorem dX4_quorums_32 : decode cX4_quorums 32 = .ok (.iload_n 2, 1) := by decide +kernel
theorem dX4_quorums_33 : decode cX4_quorums 33 = .ok (.iload_n 3, 1) := by decide +kernel
theorem dX4_quorums_34 : decode cX4_quorums 34 = .ok (.if_icmp .gt 10, 3) := by decide +kernel
theorem dX4_quorums_37 : decode cX4_quorums 37 = .ok (.iload_n 1, 1) := by decide +kernel
theorem dX4_quorums_38 : decode cX4_quorums 38 = .ok (.iload_n 2, 1) := by decide +kernel
theorem dX4_quorums_39 : decode cX4_quorums 39 = .ok (.iadd, 1) := by decide +kernel
theorem dX4_quorums_40 : decode cX4_quorums 40 = .ok (.iload_n 3, 1) := by decide +kernel
theorem dX4_quorums_41 : decode cX4_quorums 41 = .ok (.if_icmp .gt 5, 3) := by decide +kernel
theorem dX4_quorums_44 : decode cX4_quorums 44 = .ok (.iconst 0, 1) := by decide +kernel
theorem dX4_quorums_45 : decode cX4_quorums 45 = .ok (.ireturn, 1) := by decide +kernel
theorem dX4_quorums_46 : decode cX4_quorums 46 = .ok (.aload_n 0, 1) := by decide +kernel
theorem dX4_quorums_47 : decode cX4_quorums 47 = .ok (.iload_n 1, 1) := by decide +kernel
theorem dX4_quorums_48 : decode cX4_quorums 48 = .ok (.putfield 87, 3) := by decide +kernel
theorem dX4_quorums_51 : decode cX4_quorums 51 = .ok (.aload_n 0, 1) := by decide +kernel
theorem dX4_quorums_52 : decode cX4_quorums 52 = .ok (.iload_n 2, 1) := by decide +kernel
theorem dX4_quorums_53 : decode cX4_quorums 53 = .ok (.putfield 90, 3) := by decide +kernel
theorem dX4_quorums_56 : decode cX4_quorums 56 = .ok (.iconst 1, 1) := by decide +kernel
theorem dX4_quorums_57 : decode cX4_quorums 57 = .ok (.ireturn, 1) := by decide +kernel
theorem dX4_link_0 : decode cX4_link 0 = .ok (.aload_n 0, 1) := by decide +kernel
theorem dX4_link_1 : decode cX4_link 1 = .ok (.iconst 0, 1) := by decide +kernel
theorem dX4_link_2 : decode cX4_link 2 = .ok (.putfield 73, 3) := by decide +kernel
theorem dX4_link_5 : decode cX4_link 5 = .ok (.aload_n 0, 1) := by decide +kernel
theorem dX4_link_6 : decode cX4_link 6 = .ok (.iload_n 1, 1) := by decide +kernel
theorem dX4_link_7 : decode cX4_link 7 = .ok (.invokevirtual 93, 3) := by decide +kernel
theorem dX4_link_10 : decode cX4_link 10 = .ok (.ifCond .eq 26, 3) := by decide +kernel
theorem dX4_link_13 : decode cX4_link 13 = .ok (.aload_n 0, 1) := by decide +kernel
theorem dX4_link_14 : decode cX4_link 14 = .ok (.iload_n 2, 1) := by decide +kernel
theorem dX4_link_15 : decode cX4_link 15 = .ok (.invokevirtual 93, 3) := by decide +kernel
theorem dX4_link_18 : decode cX4_link 18 = .ok (.ifCond .eq 18, 3) := by decide +kernel
theorem dX4_link_21 : decode cX4_link 21 = .ok (.iload_n 1, 1) := by decide +kernel
theorem dX4_link_22 : decode cX4_link 22 = .ok (.iload_n 2, 1) := by decide +kernel
theorem dX4_link_23 : decode cX4_link 23 = .ok (.if_icmp .eq 13, 3) := by decide +kernel
theorem dX4_link_26 : decode cX4_link 26 = .ok (.iload_n 3, 1) := by decide +kernel
theorem dX4_link_27 : decode cX4_link 27 = .ok (.ifCond .lt 9, 3) := by decide +kernel
theorem dX4_link_30 : decode cX4_link 30 = .ok (.iload_n 3, 1) := by decide +kernel
theorem dX4_link_31 : decode cX4_link 31 = .ok (.bipush 20, 2) := by decide +kernel
theorem dX4_link_33 : decode cX4_link 33 = .ok (.if_icmp .le 5, 3) := by decide +kernel
theorem dX4_link_36 : decode cX4_link 36 = .ok (.iconst 0, 1) := by decide +kernel
theorem dX4_link_37 : decode cX4_link 37 = .ok (.ireturn, 1) := by decide +kernel
theorem dX4_link_38 : decode cX4_link 38 = .ok (.aload_n 0, 1) := by decide +kernel
theorem dX4_link_39 : decode cX4_link 39 = .ok (.getfield 17, 3) := by decide +kernel
theorem dX4_link_42 : decode cX4_link 42 = .ok (.bipush 8, 2) := by decide +kernel
theorem dX4_link_44 : decode cX4_link 44 = .ok (.iload_n 1, 1) := by decide +kernel
theorem dX4_link_45 : decode cX4_link 45 = .ok (.imul, 1) := by decide +kernel
theorem dX4_link_46 : decode cX4_link 46 = .ok (.iload_n 2, 1) := by decide +kernel
theorem dX4_link_47 : decode cX4_link 47 = .ok (.iadd, 1) := by decide +kernel
theorem dX4_link_48 : decode cX4_link 48 = .ok (.iload_n 3, 1) := by decide +kernel
theorem dX4_link_49 : decode cX4_link 49 = .ok (.iastore, 1) := by decide +kernel
theorem dX4_link_50 : decode cX4_link 50 = .ok (.iconst 1, 1) := by decide +kernel
theorem dX4_link_51 : decode cX4_link 51 = .ok (.ireturn, 1) := by decide +kernel
theorem dX4_part_0 : decode cX4_part 0 = .ok (.aload_n 0, 1) := by decide +kernel
theorem dX4_part_1 : decode cX4_part 1 = .ok (.iconst 0, 1) := by decide +kernel
theorem dX4_part_2 : decode cX4_part 2 = .ok (.putfield 73, 3) := by decide +kernel
theorem dX4_part_5 : decode cX4_part 5 = .ok (.iload_n 2, 1) := by decide +kernel
theorem dX4_part_6 : decode cX4_part 6 = .ok (.iconst 1, 1) := by decide +kernel
theorem dX4_part_7 : decode cX4_part 7 = .ok (.if_icmp .lt 9, 3) := by decide +kernel
theorem dX4_part_10 : decode cX4_part 10 = .ok (.iload_n 2, 1) := by decide +kernel
theorem dX4_part_11 : decode cX4_part 11 = .ok (.bipush 20, 2) := by decide +kernel
theorem dX4_part_13 : decode cX4_part 13 = .ok (.if_icmp .le 5, 3) := by decide +kernel
theorem dX4_part_16 : decode cX4_part 16 = .ok (.iconst (-1), 1) := by decide +kernel
theorem dX4_part_17 : decode cX4_part 17 = .ok (.ireturn, 1) := by decide +kernel
theorem dX4_part_18 : decode cX4_part 18 = .ok (.iconst 0, 1) := by decide +kernel
theorem dX4_part_19 : decode cX4_part 19 = .ok (.istore_n 3, 1) := by decide +kernel
theorem dX4_part_20 : decode cX4_part 20 = .ok (.iload_n 3, 1) := by decide +kernel
theorem dX4_part_21 : decode cX4_part 21 = .ok (.aload_n 0, 1) := by decide +kernel
theorem dX4_part_22 : decode cX4_part 22 = .ok (.getfield 76, 3) := by decide +kernel
theorem dX4_part_25 : decode cX4_part 25 = .ok (.if_icmp .ge 76, 3) := by decide +kernel
theorem dX4_part_28 : decode cX4_part 28 = .ok (.iconst 0, 1) := by decide +kernel
theorem dX4_part_29 : decode cX4_part 29 = .ok (.istore 4, 2) := by decide +kernel
theorem dX4_part_31 : decode cX4_part 31 = .ok (.iload 4, 2) := by decide +kernel
theorem dX4_part_33 : decode cX4_part 33 = .ok (.aload_n 0, 1) := by decide +kernel
theorem dX4_part_34 : decode cX4_part 34 = .ok (.getfield 76, 3) := by decide +kernel
theorem dX4_part_37 : decode cX4_part 37 = .ok (.if_icmp .ge 58, 3) := by decide +kernel
theorem dX4_part_40 : decode cX4_part 40 = .ok (.iload_n 1, 1) := by decide +kernel
theorem dX4_part_41 : decode cX4_part 41 = .ok (.iload_n 3, 1) := by decide +kernel
theorem dX4_part_42 : decode cX4_part 42 = .ok (.ishr, 1) := by decide +kernel
theorem dX4_part_43 : decode cX4_part 43 = .ok (.iconst 1, 1) := by decide +kernel
theorem dX4_part_44 : decode cX4_part 44 = .ok (.iand, 1) := by decide +kernel
theorem dX4_part_45 : decode cX4_part 45 = .ok (.iload_n 1, 1) := by decide +kernel
theorem dX4_part_46 : decode cX4_part 46 = .ok (.iload 4, 2) := by decide +kernel
theorem dX4_part_48 : decode cX4_part 48 = .ok (.ishr, 1) := by decide +kernel
theorem dX4_part_49 : decode cX4_part 49 = .ok (.iconst 1, 1) := by decide +kernel
theorem dX4_part_50 : decode cX4_part 50 = .ok (.iand, 1) := by decide +kernel
theorem dX4_part_51 : decode cX4_part 51 = .ok (.if_icmp .eq 7, 3) := by decide +kernel
theorem dX4_part_54 : decode cX4_part 54 = .ok (.iconst 1, 1) := by decide +kernel
theorem dX4_part_55 : decode cX4_part 55 = .ok (.goto 4, 3) := by decide +kernel
theorem dX4_part_58 : decode cX4_part 58 = .ok (.iconst 0, 1) := by decide +kernel
theorem dX4_part_59 : decode cX4_part 59 = .ok (.istore 5, 2) := by decide +kernel
theorem dX4_part_61 : decode cX4_part 61 = .ok (.aload_n 0, 1) := by decide +kernel
theorem dX4_part_62 : decode cX4_part 62 = .ok (.getfield 17, 3) := by decide +kernel
theorem dX4_part_65 : decode cX4_part 65 = .ok (.bipush 8, 2) := by decide +kernel
theorem dX4_part_67 : decode cX4_part 67 = .ok (.iload_n 3, 1) := by decide +kernel
theorem dX4_part_68 : decode cX4_part 68 = .ok (.imul, 1) := by decide +kernel
theorem dX4_part_69 : decode cX4_part 69 = .ok (.iload 4, 2) := by decide +kernel
theorem dX4_part_71 : decode cX4_part 71 = .ok (.iadd, 1) := by decide +kernel
theorem dX4_part_72 : decode cX4_part 72 = .ok (.iload_n 3, 1) := by decide +kernel
theorem dX4_part_73 : decode cX4_part 73 = .ok (.iload 4, 2) := by decide +kernel
theorem dX4_part_75 : decode cX4_part 75 = .ok (.if_icmp .eq 8, 3) := by decide +kernel
theorem dX4_part_78 : decode cX4_part 78 = .ok (.iload 5, 2) := by decide +kernel
theorem dX4_part_80 : decode cX4_part 80 = .ok (.ifCond .eq 7, 3) := by decide +kernel
theorem dX4_part_83 : decode cX4_part 83 = .ok (.iconst 0, 1) := by decide +kernel
theorem dX4_part_84 : decode cX4_part 84 = .ok (.goto 4, 3) := by decide +kernel
theorem dX4_part_87 : decode cX4_part 87 = .ok (.iload_n 2, 1) := by decide +kernel
theorem dX4_part_88 : decode cX4_part 88 = .ok (.iastore, 1) := by decide +kernel
theorem dX4_part_89 : decode cX4_part 89 = .ok (.iinc 4 1, 3) := by decide +kernel
theorem dX4_part_92 : decode cX4_part 92 = .ok (.goto (-61), 3) := by decide +kernel
theorem dX4_part_95 : decode cX4_part 95 = .ok (.iinc 3 1, 3) := by decide +kernel
theorem dX4_part_98 : decode cX4_part 98 = .ok (.goto (-78), 3) := by decide +kernel
theorem dX4_part_101 : decode cX4_part 101 = .ok (.aload_n 0, 1) := by decide +kernel
theorem dX4_part_102 : decode cX4_part 102 = .ok (.getfield 76, 3) := by decide +kernel
theorem dX4_part_105 : decode cX4_part 105 = .ok (.aload_n 0, 1) := by decide +kernel
theorem dX4_part_106 : decode cX4_part 106 = .ok (.getfield 76, 3) := by decide +kernel
theorem dX4_part_109 : decode cX4_part 109 = .ok (.iconst 1, 1) := by decide +kernel
theorem dX4_part_110 : decode cX4_part 110 = .ok (.isub, 1) := by decide +kernel
theorem dX4_part_111 : decode cX4_part 111 = .ok (.imul, 1) := by decide +kernel
theorem dX4_part_112 : decode cX4_part 112 = .ok (.ireturn, 1) := by decide +kernel
theorem dX4_patience_0 : decode cX4_patience 0 = .ok (.aload_n 0, 1) := by decide +kernel
theorem dX4_patience_1 : decode cX4_patience 1 = .ok (.iconst 0, 1) := by decide +kernel
theorem dX4_patience_2 : decode cX4_patience 2 = .ok (.putfield 73, 3) := by decide +kernel
theorem dX4_patience_5 : decode cX4_patience 5 = .ok (.iload_n 1, 1) := by decide +kernel
theorem dX4_patience_6 : decode cX4_patience 6 = .ok (.iconst 5, 1) := by decide +kernel
theorem dX4_patience_7 : decode cX4_patience 7 = .ok (.if_icmp .lt 16, 3) := by decide +kernel
theorem dX4_patience_10 : decode cX4_patience 10 = .ok (.iload_n 1, 1) := by decide +kernel
theorem dX4_patience_11 : decode cX4_patience 11 = .ok (.bipush 100, 2) := by decide +kernel
theorem dX4_patience_13 : decode cX4_patience 13 = .ok (.if_icmp .gt 10, 3) := by decide +kernel
theorem dX4_patience_16 : decode cX4_patience 16 = .ok (.aload_n 0, 1) := by decide +kernel
theorem dX4_patience_17 : decode cX4_patience 17 = .ok (.getfield 79, 3) := by decide +kernel
theorem dX4_patience_20 : decode cX4_patience 20 = .ok (.ifCond .eq 5, 3) := by decide +kernel
theorem dX4_patience_23 : decode cX4_patience 23 = .ok (.iconst 0, 1) := by decide +kernel
theorem dX4_patience_24 : decode cX4_patience 24 = .ok (.ireturn, 1) := by decide +kernel
theorem dX4_patience_25 : decode cX4_patience 25 = .ok (.aload_n 0, 1) := by decide +kernel
theorem dX4_patience_26 : decode cX4_patience 26 = .ok (.iload_n 1, 1) := by decide +kernel
theorem dX4_patience_27 : decode cX4_patience 27 = .ok (.putfield 13, 3) := by decide +kernel
theorem dX4_patience_30 : decode cX4_patience 30 = .ok (.iconst 1, 1) := by decide +kernel
theorem dX4_patience_31 : decode cX4_patience 31 = .ok (.ireturn, 1) := by decide +kernel
theorem dX4_send_0 : decode cX4_send 0 = .ok (.aload_n 0, 1) := by decide +kernel
theorem dX4_send_1 : decode cX4_send 1 = .ok (.dup, 1) := by decide +kernel
theorem dX4_send_2 : decode cX4_send 2 = .ok (.getfield 97, 3) := by decide +kernel
theorem dX4_send_5 : decode cX4_send 5 = .ok (.iconst 1, 1) := by decide +kernel
theorem dX4_send_6 : decode cX4_send 6 = .ok (.iadd, 1) := by decide +kernel
theorem dX4_send_7 : decode cX4_send 7 = .ok (.putfield 97, 3) := by decide +kernel
theorem dX4_send_10 : decode cX4_send 10 = .ok (.aload_n 0, 1) := by decide +kernel
theorem dX4_send_11 : decode cX4_send 11 = .ok (.getfield 17, 3) := by decide +kernel
theorem dX4_send_14 : decode cX4_send 14 = .ok (.bipush 8, 2) := by decide +kernel
theorem dX4_send_16 : decode cX4_send 16 = .ok (.iload_n 2, 1) := by decide +kernel
theorem dX4_send_17 : decode cX4_send 17 = .ok (.imul, 1) := by decide +kernel
theorem dX4_send_18 : decode cX4_send 18 = .ok (.iload_n 3, 1) := by decide +kernel
theorem dX4_send_19 : decode cX4_send 19 = .ok (.iadd, 1) := by decide +kernel
theorem dX4_send_20 : decode cX4_send 20 = .ok (.iaload, 1) := by decide +kernel
theorem dX4_send_21 : decode cX4_send 21 = .ok (.istore 6, 2) := by decide +kernel
theorem dX4_send_23 : decode cX4_send 23 = .ok (.iload 6, 2) := by decide +kernel
theorem dX4_send_25 : decode cX4_send 25 = .ok (.ifCond .ne 14, 3) := by decide +kernel
theorem dX4_send_28 : decode cX4_send 28 = .ok (.aload_n 0, 1) := by decide +kernel
theorem dX4_send_29 : decode cX4_send 29 = .ok (.dup, 1) := by decide +kernel
theorem dX4_send_30 : decode cX4_send 30 = .ok (.getfield 100, 3) := by decide +kernel
theorem dX4_send_33 : decode cX4_send 33 = .ok (.iconst 1, 1) := by decide +kernel
theorem dX4_send_34 : decode cX4_send 34 = .ok (.iadd, 1) := by decide +kernel
theorem dX4_send_35 : decode cX4_send 35 = .ok (.putfield 100, 3) := by decide +kernel
theorem dX4_send_38 : decode cX4_send 38 = .ok (.return_, 1) := by decide +kernel
theorem dX4_send_39 : decode cX4_send 39 = .ok (.aload_n 0, 1) := by decide +kernel
theorem dX4_send_40 : decode cX4_send 40 = .ok (.getfield 49, 3) := by decide +kernel
theorem dX4_send_43 : decode cX4_send 43 = .ok (.aload_n 0, 1) := by decide +kernel
theorem dX4_send_44 : decode cX4_send 44 = .ok (.getfield 103, 3) := by decide +kernel
theorem dX4_send_47 : decode cX4_send 47 = .ok (.iload_n 1, 1) := by decide +kernel
theorem dX4_send_48 : decode cX4_send 48 = .ok (.iastore, 1) := by decide +kernel
theorem dX4_send_49 : decode cX4_send 49 = .ok (.aload_n 0, 1) := by decide +kernel
theorem dX4_send_50 : decode cX4_send 50 = .ok (.getfield 52, 3) := by decide +kernel
theorem dX4_send_53 : decode cX4_send 53 = .ok (.aload_n 0, 1) := by decide +kernel
theorem dX4_send_54 : decode cX4_send 54 = .ok (.getfield 103, 3) := by decide +kernel
theorem dX4_send_57 : decode cX4_send 57 = .ok (.iload_n 2, 1) := by decide +kernel
theorem dX4_send_58 : decode cX4_send 58 = .ok (.iastore, 1) := by decide +kernel
theorem dX4_send_59 : decode cX4_send 59 = .ok (.aload_n 0, 1) := by decide +kernel
theorem dX4_send_60 : decode cX4_send 60 = .ok (.getfield 55, 3) := by decide +kernel
theorem dX4_send_63 : decode cX4_send 63 = .ok (.aload_n 0, 1) := by decide +kernel
theorem dX4_send_64 : decode cX4_send 64 = .ok (.getfield 103, 3) := by decide +kernel
theorem dX4_send_67 : decode cX4_send 67 = .ok (.iload_n 3, 1) := by decide +kernel
theorem dX4_send_68 : decode cX4_send 68 = .ok (.iastore, 1) := by decide +kernel
theorem dX4_send_69 : decode cX4_send 69 = .ok (.aload_n 0, 1) := by decide +kernel
theorem dX4_send_70 : decode cX4_send 70 = .ok (.getfield 58, 3) := by decide +kernel
theorem dX4_send_73 : decode cX4_send 73 = .ok (.aload_n 0, 1) := by decide +kernel
theorem dX4_send_74 : decode cX4_send 74 = .ok (.getfield 103, 3) := by decide +kernel
theorem dX4_send_77 : decode cX4_send 77 = .ok (.iload 4, 2) := by decide +kernel
theorem dX4_send_79 : decode cX4_send 79 = .ok (.iastore, 1) := by decide +kernel
theorem dX4_send_80 : decode cX4_send 80 = .ok (.aload_n 0, 1) := by decide +kernel
theorem dX4_send_81 : decode cX4_send 81 = .ok (.getfield 61, 3) := by decide +kernel
theorem dX4_send_84 : decode cX4_send 84 = .ok (.aload_n 0, 1) := by decide +kernel
theorem dX4_send_85 : decode cX4_send 85 = .ok (.getfield 103, 3) := by decide +kernel
theorem dX4_send_88 : decode cX4_send 88 = .ok (.iload 5, 2) := by decide +kernel
theorem dX4_send_90 : decode cX4_send 90 = .ok (.iastore, 1) := by decide +kernel
theorem dX4_send_91 : decode cX4_send 91 = .ok (.aload_n 0, 1) := by decide +kernel
theorem dX4_send_92 : decode cX4_send 92 = .ok (.getfield 64, 3) := by decide +kernel
theorem dX4_send_95 : decode cX4_send 95 = .ok (.aload_n 0, 1) := by decide +kernel
theorem dX4_send_96 : decode cX4_send 96 = .ok (.getfield 103, 3) := by decide +kernel
theorem dX4_send_99 : decode cX4_send 99 = .ok (.aload_n 0, 1) := by decide +kernel
theorem dX4_send_100 : decode cX4_send 100 = .ok (.getfield 106, 3) := by decide +kernel
theorem dX4_send_103 : decode cX4_send 103 = .ok (.iload 6, 2) := by decide +kernel
theorem dX4_send_105 : decode cX4_send 105 = .ok (.iadd, 1) := by decide +kernel
theorem dX4_send_106 : decode cX4_send 106 = .ok (.iastore, 1) := by decide +kernel
theorem dX4_send_107 : decode cX4_send 107 = .ok (.aload_n 0, 1) := by decide +kernel
theorem dX4_send_108 : decode cX4_send 108 = .ok (.getfield 67, 3) := by decide +kernel
theorem dX4_send_111 : decode cX4_send 111 = .ok (.aload_n 0, 1) := by decide +kernel
theorem dX4_send_112 : decode cX4_send 112 = .ok (.getfield 103, 3) := by decide +kernel
theorem dX4_send_115 : decode cX4_send 115 = .ok (.aload_n 0, 1) := by decide +kernel
theorem dX4_send_116 : decode cX4_send 116 = .ok (.getfield 109, 3) := by decide +kernel
theorem dX4_send_119 : decode cX4_send 119 = .ok (.iastore, 1) := by decide +kernel
theorem dX4_send_120 : decode cX4_send 120 = .ok (.aload_n 0, 1) := by decide +kernel
theorem dX4_send_121 : decode cX4_send 121 = .ok (.dup, 1) := by decide +kernel
theorem dX4_send_122 : decode cX4_send 122 = .ok (.getfield 109, 3) := by decide +kernel
theorem dX4_send_125 : decode cX4_send 125 = .ok (.iconst 1, 1) := by decide +kernel
theorem dX4_send_126 : decode cX4_send 126 = .ok (.iadd, 1) := by decide +kernel
theorem dX4_send_127 : decode cX4_send 127 = .ok (.putfield 109, 3) := by decide +kernel
theorem dX4_send_130 : decode cX4_send 130 = .ok (.aload_n 0, 1) := by decide +kernel
theorem dX4_send_131 : decode cX4_send 131 = .ok (.dup, 1) := by decide +kernel
theorem dX4_send_132 : decode cX4_send 132 = .ok (.getfield 103, 3) := by decide +kernel
theorem dX4_send_135 : decode cX4_send 135 = .ok (.iconst 1, 1) := by decide +kernel
theorem dX4_send_136 : decode cX4_send 136 = .ok (.iadd, 1) := by decide +kernel
theorem dX4_send_137 : decode cX4_send 137 = .ok (.putfield 103, 3) := by decide +kernel
theorem dX4_send_140 : decode cX4_send 140 = .ok (.return_, 1) := by decide +kernel
theorem dX4_sendAll_0 : decode cX4_sendAll 0 = .ok (.iconst 0, 1) := by decide +kernel
theorem dX4_sendAll_1 : decode cX4_sendAll 1 = .ok (.istore 4, 2) := by decide +kernel
theorem dX4_sendAll_3 : decode cX4_sendAll 3 = .ok (.iload 4, 2) := by decide +kernel
theorem dX4_sendAll_5 : decode cX4_sendAll 5 = .ok (.aload_n 0, 1) := by decide +kernel
theorem dX4_sendAll_6 : decode cX4_sendAll 6 = .ok (.getfield 76, 3) := by decide +kernel
theorem dX4_sendAll_9 : decode cX4_sendAll 9 = .ok (.if_icmp .ge 25, 3) := by decide +kernel
theorem dX4_sendAll_12 : decode cX4_sendAll 12 = .ok (.iload 4, 2) := by decide +kernel
theorem dX4_sendAll_14 : decode cX4_sendAll 14 = .ok (.iload_n 2, 1) := by decide +kernel
theorem dX4_sendAll_15 : decode cX4_sendAll 15 = .ok (.if_icmp .eq 13, 3) := by decide +kernel
theorem dX4_sendAll_18 : decode cX4_sendAll 18 = .ok (.aload_n 0, 1) := by decide +kernel
theorem dX4_sendAll_19 : decode cX4_sendAll 19 = .ok (.iload_n 1, 1) := by decide +kernel
theorem dX4_sendAll_20 : decode cX4_sendAll 20 = .ok (.iload_n 2, 1) := by decide +kernel
theorem dX4_sendAll_21 : decode cX4_sendAll 21 = .ok (.iload 4, 2) := by decide +kernel
theorem dX4_sendAll_23 : decode cX4_sendAll 23 = .ok (.iload_n 3, 1) := by decide +kernel
theorem dX4_sendAll_24 : decode cX4_sendAll 24 = .ok (.iconst 0, 1) := by decide +kernel
theorem dX4_sendAll_25 : decode cX4_sendAll 25 = .ok (.invokevirtual 112, 3) := by decide +kernel
theorem dX4_sendAll_28 : decode cX4_sendAll 28 = .ok (.iinc 4 1, 3) := by decide +kernel
theorem dX4_sendAll_31 : decode cX4_sendAll 31 = .ok (.goto (-28), 3) := by decide +kernel
theorem dX4_sendAll_34 : decode cX4_sendAll 34 = .ok (.return_, 1) := by decide +kernel
theorem dX4_setTimer_0 : decode cX4_setTimer 0 = .ok (.aload_n 0, 1) := by decide +kernel
theorem dX4_setTimer_1 : decode cX4_setTimer 1 = .ok (.getfield 42, 3) := by decide +kernel
theorem dX4_setTimer_4 : decode cX4_setTimer 4 = .ok (.iload_n 1, 1) := by decide +kernel
theorem dX4_setTimer_5 : decode cX4_setTimer 5 = .ok (.aload_n 0, 1) := by decide +kernel
theorem dX4_setTimer_6 : decode cX4_setTimer 6 = .ok (.getfield 106, 3) := by decide +kernel
theorem dX4_setTimer_9 : decode cX4_setTimer 9 = .ok (.iload_n 2, 1) := by decide +kernel
theorem dX4_setTimer_10 : decode cX4_setTimer 10 = .ok (.iadd, 1) := by decide +kernel
theorem dX4_setTimer_11 : decode cX4_setTimer 11 = .ok (.iastore, 1) := by decide +kernel
theorem dX4_setTimer_12 : decode cX4_setTimer 12 = .ok (.aload_n 0, 1) := by decide +kernel
theorem dX4_setTimer_13 : decode cX4_setTimer 13 = .ok (.getfield 45, 3) := by decide +kernel
theorem dX4_setTimer_16 : decode cX4_setTimer 16 = .ok (.iload_n 1, 1) := by decide +kernel
theorem dX4_setTimer_17 : decode cX4_setTimer 17 = .ok (.aload_n 0, 1) := by decide +kernel
theorem dX4_setTimer_18 : decode cX4_setTimer 18 = .ok (.getfield 109, 3) := by decide +kernel
theorem dX4_setTimer_21 : decode cX4_setTimer 21 = .ok (.iastore, 1) := by decide +kernel
theorem dX4_setTimer_22 : decode cX4_setTimer 22 = .ok (.aload_n 0, 1) := by decide +kernel
theorem dX4_setTimer_23 : decode cX4_setTimer 23 = .ok (.dup, 1) := by decide +kernel
theorem dX4_setTimer_24 : decode cX4_setTimer 24 = .ok (.getfield 109, 3) := by decide +kernel
theorem dX4_setTimer_27 : decode cX4_setTimer 27 = .ok (.iconst 1, 1) := by decide +kernel
theorem dX4_setTimer_28 : decode cX4_setTimer 28 = .ok (.iadd, 1) := by decide +kernel
theorem dX4_setTimer_29 : decode cX4_setTimer 29 = .ok (.putfield 109, 3) := by decide +kernel
theorem dX4_setTimer_32 : decode cX4_setTimer 32 = .ok (.return_, 1) := by decide +kernel
theorem dX4_isDecided_0 : decode cX4_isDecided 0 = .ok (.aload_n 0, 1) := by decide +kernel
theorem dX4_isDecided_1 : decode cX4_isDecided 1 = .ok (.getfield 20, 3) := by decide +kernel
theorem dX4_isDecided_4 : decode cX4_isDecided 4 = .ok (.iload_n 1, 1) := by decide +kernel
theorem dX4_isDecided_5 : decode cX4_isDecided 5 = .ok (.iaload, 1) := by decide +kernel
theorem dX4_isDecided_6 : decode cX4_isDecided 6 = .ok (.iconst 4, 1) := by decide +kernel
theorem dX4_isDecided_7 : decode cX4_isDecided 7 = .ok (.if_icmp .eq 13, 3) := by decide +kernel
theorem dX4_isDecided_10 : decode cX4_isDecided 10 = .ok (.aload_n 0, 1) := by decide +kernel
theorem dX4_isDecided_11 : decode cX4_isDecided 11 = .ok (.getfield 20, 3) := by decide +kernel
theorem dX4_isDecided_14 : decode cX4_isDecided 14 = .ok (.iload_n 1, 1) := by decide +kernel
theorem dX4_isDecided_15 : decode cX4_isDecided 15 = .ok (.iaload, 1) := by decide +kernel
theorem dX4_isDecided_16 : decode cX4_isDecided 16 = .ok (.iconst 5, 1) := by decide +kernel
theorem dX4_isDecided_17 : decode cX4_isDecided 17 = .ok (.if_icmp .ne 7, 3) := by decide +kernel
theorem dX4_isDecided_20 : decode cX4_isDecided 20 = .ok (.iconst 1, 1) := by decide +kernel
theorem dX4_isDecided_21 : decode cX4_isDecided 21 = .ok (.goto 4, 3) := by decide +kernel
theorem dX4_isDecided_24 : decode cX4_isDecided 24 = .ok (.iconst 0, 1) := by decide +kernel
theorem dX4_isDecided_25 : decode cX4_isDecided 25 = .ok (.ireturn, 1) := by decide +kernel
theorem dX4_become_0 : decode cX4_become 0 = .ok (.aload_n 0, 1) := by decide +kernel
theorem dX4_become_1 : decode cX4_become 1 = .ok (.getfield 20, 3) := by decide +kernel
theorem dX4_become_4 : decode cX4_become 4 = .ok (.iload_n 1, 1) := by decide +kernel
theorem dX4_become_5 : decode cX4_become 5 = .ok (.iload_n 2, 1) := by decide +kernel
theorem dX4_become_6 : decode cX4_become 6 = .ok (.iastore, 1) := by decide +kernel
theorem dX4_become_7 : decode cX4_become 7 = .ok (.aload_n 0, 1) := by decide +kernel
theorem dX4_become_8 : decode cX4_become 8 = .ok (.getfield 23, 3) := by decide +kernel
theorem dX4_become_11 : decode cX4_become 11 = .ok (.iload_n 1, 1) := by decide +kernel
theorem dX4_become_12 : decode cX4_become 12 = .ok (.aload_n 0, 1) := by decide +kernel
theorem dX4_become_13 : decode cX4_become 13 = .ok (.getfield 106, 3) := by decide +kernel
theorem dX4_become_16 : decode cX4_become 16 = .ok (.iastore, 1) := by decide +kernel
theorem dX4_become_17 : decode cX4_become 17 = .ok (.iload_n 2, 1) := by decide +kernel
theorem dX4_become_18 : decode cX4_become 18 = .ok (.iconst 4, 1) := by decide +kernel
theorem dX4_become_19 : decode cX4_become 19 = .ok (.if_icmp .lt 17, 3) := by decide +kernel
theorem dX4_become_22 : decode cX4_become 22 = .ok (.aload_n 0, 1) := by decide +kernel
theorem dX4_become_23 : decode cX4_become 23 = .ok (.getfield 33, 3) := by decide +kernel
theorem dX4_become_26 : decode cX4_become 26 = .ok (.iload_n 1, 1) := by decide +kernel
theorem dX4_become_27 : decode cX4_become 27 = .ok (.iconst 0, 1) := by decide +kernel
theorem dX4_become_28 : decode cX4_become 28 = .ok (.iastore, 1) := by decide +kernel
theorem dX4_become_29 : decode cX4_become 29 = .ok (.aload_n 0, 1) := by decide +kernel
theorem dX4_become_30 : decode cX4_become 30 = .ok (.getfield 42, 3) := by decide +kernel
theorem dX4_become_33 : decode cX4_become 33 = .ok (.iload_n 1, 1) := by decide +kernel
theorem dX4_become_34 : decode cX4_become 34 = .ok (.iconst (-1), 1) := by decide +kernel
theorem dX4_become_35 : decode cX4_become 35 = .ok (.iastore, 1) := by decide +kernel
theorem dX4_become_36 : decode cX4_become 36 = .ok (.return_, 1) := by decide +kernel
theorem dX4_decide_0 : decode cX4_decide 0 = .ok (.aload_n 0, 1) := by decide +kernel
theorem dX4_decide_1 : decode cX4_decide 1 = .ok (.iload_n 1, 1) := by decide +kernel
theorem dX4_decide_2 : decode cX4_decide 2 = .ok (.iload_n 2, 1) := by decide +kernel
theorem dX4_decide_3 : decode cX4_decide 3 = .ok (.invokevirtual 116, 3) := by decide +kernel
theorem dX4_decide_6 : decode cX4_decide 6 = .ok (.aload_n 0, 1) := by decide +kernel
theorem dX4_decide_7 : decode cX4_decide 7 = .ok (.iload_n 2, 1) := by decide +kernel
theorem dX4_decide_8 : decode cX4_decide 8 = .ok (.iconst 4, 1) := by decide +kernel
theorem dX4_decide_9 : decode cX4_decide 9 = .ok (.if_icmp .ne 8, 3) := by decide +kernel
theorem dX4_decide_12 : decode cX4_decide 12 = .ok (.bipush 9, 2) := by decide +kernel
theorem dX4_decide_14 : decode cX4_decide 14 = .ok (.goto 5, 3) := by decide +kernel
theorem dX4_decide_17 : decode cX4_decide 17 = .ok (.bipush 10, 2) := by decide +kernel
theorem dX4_decide_19 : decode cX4_decide 19 = .ok (.iload_n 1, 1) := by decide +kernel
theorem dX4_decide_20 : decode cX4_decide 20 = .ok (.iconst 0, 1) := by decide +kernel
theorem dX4_decide_21 : decode cX4_decide 21 = .ok (.invokevirtual 120, 3) := by decide +kernel
theorem dX4_decide_24 : decode cX4_decide 24 = .ok (.return_, 1) := by decide +kernel
theorem dX4_clearThere_0 : decode cX4_clearThere 0 = .ok (.iconst 0, 1) := by decide +kernel
theorem dX4_clearThere_1 : decode cX4_clearThere 1 = .ok (.istore_n 3, 1) := by decide +kernel
theorem dX4_clearThere_2 : decode cX4_clearThere 2 = .ok (.iload_n 3, 1) := by decide +kernel
theorem dX4_clearThere_3 : decode cX4_clearThere 3 = .ok (.bipush 8, 2) := by decide +kernel
theorem dX4_clearThere_5 : decode cX4_clearThere 5 = .ok (.if_icmp .ge 30, 3) := by decide +kernel
theorem dX4_clearThere_8 : decode cX4_clearThere 8 = .ok (.aload_n 0, 1) := by decide +kernel
theorem dX4_clearThere_9 : decode cX4_clearThere 9 = .ok (.getfield 39, 3) := by decide +kernel
theorem dX4_clearThere_12 : decode cX4_clearThere 12 = .ok (.bipush 8, 2) := by decide +kernel
theorem dX4_clearThere_14 : decode cX4_clearThere 14 = .ok (.iload_n 1, 1) := by decide +kernel
theorem dX4_clearThere_15 : decode cX4_clearThere 15 = .ok (.imul, 1) := by decide +kernel
theorem dX4_clearThere_16 : decode cX4_clearThere 16 = .ok (.iload_n 3, 1) := by decide +kernel
theorem dX4_clearThere_17 : decode cX4_clearThere 17 = .ok (.iadd, 1) := by decide +kernel
theorem dX4_clearThere_18 : decode cX4_clearThere 18 = .ok (.iload_n 3, 1) := by decide +kernel
theorem dX4_clearThere_19 : decode cX4_clearThere 19 = .ok (.iload_n 1, 1) := by decide +kernel
theorem dX4_clearThere_20 : decode cX4_clearThere 20 = .ok (.if_icmp .ne 7, 3) := by decide +kernel
theorem dX4_clearThere_23 : decode cX4_clearThere 23 = .ok (.iload_n 2, 1) := by decide +kernel
theorem dX4_clearThere_24 : decode cX4_clearThere 24 = .ok (.goto 4, 3) := by decide +kernel
theorem dX4_clearThere_27 : decode cX4_clearThere 27 = .ok (.iconst 0, 1) := by decide +kernel
theorem dX4_clearThere_28 : decode cX4_clearThere 28 = .ok (.iastore, 1) := by decide +kernel
theorem dX4_clearThere_29 : decode cX4_clearThere 29 = .ok (.iinc 3 1, 3) := by decide +kernel
theorem dX4_clearThere_32 : decode cX4_clearThere 32 = .ok (.goto (-30), 3) := by decide +kernel
theorem dX4_clearThere_35 : decode cX4_clearThere 35 = .ok (.return_, 1) := by decide +kernel
theorem dX4_weightThere_0 : decode cX4_weightThere 0 = .ok (.iconst 0, 1) := by decide +kernel
theorem dX4_weightThere_1 : decode cX4_weightThere 1 = .ok (.istore_n 2, 1) := by decide +kernel
theorem dX4_weightThere_2 : decode cX4_weightThere 2 = .ok (.iconst 0, 1) := by decide +kernel
theorem dX4_weightThere_3 : decode cX4_weightThere 3 = .ok (.istore_n 3, 1) := by decide +kernel
theorem dX4_weightThere_4 : decode cX4_weightThere 4 = .ok (.iload_n 3, 1) := by decide +kernel
theorem dX4_weightThere_5 : decode cX4_weightThere 5 = .ok (.aload_n 0, 1) := by decide +kernel
theorem dX4_weightThere_6 : decode cX4_weightThere 6 = .ok (.getfield 76, 3) := by decide +kernel
theorem dX4_weightThere_9 : decode cX4_weightThere 9 = .ok (.if_icmp .ge 36, 3) := by decide +kernel
theorem dX4_weightThere_12 : decode cX4_weightThere 12 = .ok (.aload_n 0, 1) := by decide +kernel
theorem dX4_weightThere_13 : decode cX4_weightThere 13 = .ok (.getfield 39, 3) := by decide +kernel
theorem dX4_weightThere_16 : decode cX4_weightThere 16 = .ok (.bipush 8, 2) := by decide +kernel
theorem dX4_weightThere_18 : decode cX4_weightThere 18 = .ok (.iload_n 1, 1) := by decide +kernel
theorem dX4_weightThere_19 : decode cX4_weightThere 19 = .ok (.imul, 1) := by decide +kernel
theorem dX4_weightThere_20 : decode cX4_weightThere 20 = .ok (.iload_n 3, 1) := by decide +kernel
theorem dX4_weightThere_21 : decode cX4_weightThere 21 = .ok (.iadd, 1) := by decide +kernel
theorem dX4_weightThere_22 : decode cX4_weightThere 22 = .ok (.iaload, 1) := by decide +kernel
theorem dX4_weightThere_23 : decode cX4_weightThere 23 = .ok (.ifCond .le 14, 3) := by decide +kernel
theorem dX4_weightThere_26 : decode cX4_weightThere 26 = .ok (.iload_n 2, 1) := by decide +kernel
theorem dX4_weightThere_27 : decode cX4_weightThere 27 = .ok (.aload_n 0, 1) := by decide +kernel
theorem dX4_weightThere_28 : decode cX4_weightThere 28 = .ok (.getfield 7, 3) := by decide +kernel
theorem dX4_weightThere_31 : decode cX4_weightThere 31 = .ok (.iload_n 3, 1) := by decide +kernel
theorem dX4_weightThere_32 : decode cX4_weightThere 32 = .ok (.iaload, 1) := by decide +kernel
theorem dX4_weightThere_33 : decode cX4_weightThere 33 = .ok (.iadd, 1) := by decide +kernel
theorem dX4_weightThere_34 : decode cX4_weightThere 34 = .ok (.goto 4, 3) := by decide +kernel
theorem dX4_weightThere_37 : decode cX4_weightThere 37 = .ok (.iload_n 2, 1) := by decide +kernel
theorem dX4_weightThere_38 : decode cX4_weightThere 38 = .ok (.istore_n 2, 1) := by decide +kernel
theorem dX4_weightThere_39 : decode cX4_weightThere 39 = .ok (.iinc 3 1, 3) := by decide +kernel
theorem dX4_weightThere_42 : decode cX4_weightThere 42 = .ok (.goto (-38), 3) := by decide +kernel
theorem dX4_weightThere_45 : decode cX4_weightThere 45 = .ok (.iload_n 2, 1) := by decide +kernel
theorem dX4_weightThere_46 : decode cX4_weightThere 46 = .ok (.ireturn, 1) := by decide +kernel
theorem dX4_checkVotes_0 : decode cX4_checkVotes 0 = .ok (.iconst 1, 1) := by decide +kernel
theorem dX4_checkVotes_1 : decode cX4_checkVotes 1 = .ok (.istore_n 2, 1) := by decide +kernel
theorem dX4_checkVotes_2 : decode cX4_checkVotes 2 = .ok (.iconst 0, 1) := by decide +kernel
theorem dX4_checkVotes_3 : decode cX4_checkVotes 3 = .ok (.istore_n 3, 1) := by decide +kernel
theorem dX4_checkVotes_4 : decode cX4_checkVotes 4 = .ok (.iload_n 3, 1) := by decide +kernel
theorem dX4_checkVotes_5 : decode cX4_checkVotes 5 = .ok (.aload_n 0, 1) := by decide +kernel
theorem dX4_checkVotes_6 : decode cX4_checkVotes 6 = .ok (.getfield 76, 3) := by decide +kernel
theorem dX4_checkVotes_9 : decode cX4_checkVotes 9 = .ok (.if_icmp .ge 33, 3) := by decide +kernel
theorem dX4_checkVotes_12 : decode cX4_checkVotes 12 = .ok (.iload_n 2, 1) := by decide +kernel
theorem dX4_checkVotes_13 : decode cX4_checkVotes 13 = .ok (.ifCond .eq 21, 3) := by decide +kernel
theorem dX4_checkVotes_16 : decode cX4_checkVotes 16 = .ok (.aload_n 0, 1) := by decide +kernel
theorem dX4_checkVotes_17 : decode cX4_checkVotes 17 = .ok (.getfield 39, 3) := by decide +kernel
theorem dX4_checkVotes_20 : decode cX4_checkVotes 20 = .ok (.bipush 8, 2) := by decide +kernel
theorem dX4_checkVotes_22 : decode cX4_checkVotes 22 = .ok (.iload_n 1, 1) := by decide +kernel
theorem dX4_checkVotes_23 : decode cX4_checkVotes 23 = .ok (.imul, 1) := by decide +kernel
theorem dX4_checkVotes_24 : decode cX4_checkVotes 24 = .ok (.iload_n 3, 1) := by decide +kernel
theorem dX4_checkVotes_25 : decode cX4_checkVotes 25 = .ok (.iadd, 1) := by decide +kernel
theorem dX4_checkVotes_26 : decode cX4_checkVotes 26 = .ok (.iaload, 1) := by decide +kernel
theorem dX4_checkVotes_27 : decode cX4_checkVotes 27 = .ok (.ifCond .le 7, 3) := by decide +kernel
theorem dX4_checkVotes_30 : decode cX4_checkVotes 30 = .ok (.iconst 1, 1) := by decide +kernel
theorem dX4_checkVotes_31 : decode cX4_checkVotes 31 = .ok (.goto 4, 3) := by decide +kernel
theorem dX4_checkVotes_34 : decode cX4_checkVotes 34 = .ok (.iconst 0, 1) := by decide +kernel
theorem dX4_checkVotes_35 : decode cX4_checkVotes 35 = .ok (.istore_n 2, 1) := by decide +kernel
theorem dX4_checkVotes_36 : decode cX4_checkVotes 36 = .ok (.iinc 3 1, 3) := by decide +kernel
theorem dX4_checkVotes_39 : decode cX4_checkVotes 39 = .ok (.goto (-35), 3) := by decide +kernel
theorem dX4_checkVotes_42 : decode cX4_checkVotes 42 = .ok (.iload_n 2, 1) := by decide +kernel
theorem dX4_checkVotes_43 : decode cX4_checkVotes 43 = .ok (.ifCond .eq 19, 3) := by decide +kernel
theorem dX4_checkVotes_46 : decode cX4_checkVotes 46 = .ok (.aload_n 0, 1) := by decide +kernel
theorem dX4_checkVotes_47 : decode cX4_checkVotes 47 = .ok (.getfield 36, 3) := by decide +kernel
theorem dX4_checkVotes_50 : decode cX4_checkVotes 50 = .ok (.iload_n 1, 1) := by decide +kernel
theorem dX4_checkVotes_51 : decode cX4_checkVotes 51 = .ok (.dup2, 1) := by decide +kernel
theorem dX4_checkVotes_52 : decode cX4_checkVotes 52 = .ok (.iaload, 1) := by decide +kernel
theorem dX4_checkVotes_53 : decode cX4_checkVotes 53 = .ok (.iconst 1, 1) := by decide +kernel
theorem dX4_checkVotes_54 : decode cX4_checkVotes 54 = .ok (.iadd, 1) := by decide +kernel
theorem dX4_checkVotes_55 : decode cX4_checkVotes 55 = .ok (.iastore, 1) := by decide +kernel
theorem dX4_checkVotes_56 : decode cX4_checkVotes 56 = .ok (.aload_n 0, 1) := by decide +kernel
theorem dX4_checkVotes_57 : decode cX4_checkVotes 57 = .ok (.iload_n 1, 1) := by decide +kernel
theorem dX4_checkVotes_58 : decode cX4_checkVotes 58 = .ok (.iconst 2, 1) := by decide +kernel
theorem dX4_checkVotes_59 : decode cX4_checkVotes 59 = .ok (.invokevirtual 124, 3) := by decide +kernel
theorem dX4_checkVotes_62 : decode cX4_checkVotes 62 = .ok (.return_, 1) := by decide +kernel
theorem dX4_lead_0 : decode cX4_lead 0 = .ok (.aload_n 0, 1) := by decide +kernel
theorem dX4_lead_1 : decode cX4_lead 1 = .ok (.getfield 20, 3) := by decide +kernel
theorem dX4_lead_4 : decode cX4_lead 4 = .ok (.iload_n 1, 1) := by decide +kernel
theorem dX4_lead_5 : decode cX4_lead 5 = .ok (.iaload, 1) := by decide +kernel
theorem dX4_lead_6 : decode cX4_lead 6 = .ok (.iconst 1, 1) := by decide +kernel
theorem dX4_lead_7 : decode cX4_lead 7 = .ok (.if_icmp .ne 9, 3) := by decide +kernel
theorem dX4_lead_10 : decode cX4_lead 10 = .ok (.aload_n 0, 1) := by decide +kernel
theorem dX4_lead_11 : decode cX4_lead 11 = .ok (.iload_n 1, 1) := by decide +kernel
theorem dX4_lead_12 : decode cX4_lead 12 = .ok (.iload_n 2, 1) := by decide +kernel
theorem dX4_lead_13 : decode cX4_lead 13 = .ok (.invokevirtual 116, 3) := by decide +kernel
theorem dX4_lead_16 : decode cX4_lead 16 = .ok (.aload_n 0, 1) := by decide +kernel
theorem dX4_lead_17 : decode cX4_lead 17 = .ok (.getfield 33, 3) := by decide +kernel
theorem dX4_lead_20 : decode cX4_lead 20 = .ok (.iload_n 1, 1) := by decide +kernel
theorem dX4_lead_21 : decode cX4_lead 21 = .ok (.iload_n 2, 1) := by decide +kernel
theorem dX4_lead_22 : decode cX4_lead 22 = .ok (.iconst 2, 1) := by decide +kernel
theorem dX4_lead_23 : decode cX4_lead 23 = .ok (.if_icmp .ne 7, 3) := by decide +kernel
theorem dX4_lead_26 : decode cX4_lead 26 = .ok (.iconst 2, 1) := by decide +kernel
theorem dX4_lead_27 : decode cX4_lead 27 = .ok (.goto 4, 3) := by decide +kernel
theorem dX4_lead_30 : decode cX4_lead 30 = .ok (.iconst 4, 1) := by decide +kernel
theorem dX4_lead_31 : decode cX4_lead 31 = .ok (.iastore, 1) := by decide +kernel
theorem dX4_lead_32 : decode cX4_lead 32 = .ok (.aload_n 0, 1) := by decide +kernel
theorem dX4_lead_33 : decode cX4_lead 33 = .ok (.iload_n 1, 1) := by decide +kernel
theorem dX4_lead_34 : decode cX4_lead 34 = .ok (.aload_n 0, 1) := by decide +kernel
theorem dX4_lead_35 : decode cX4_lead 35 = .ok (.getfield 20, 3) := by decide +kernel
theorem dX4_lead_38 : decode cX4_lead 38 = .ok (.iload_n 1, 1) := by decide +kernel
theorem dX4_lead_39 : decode cX4_lead 39 = .ok (.iaload, 1) := by decide +kernel
theorem dX4_lead_40 : decode cX4_lead 40 = .ok (.iload_n 2, 1) := by decide +kernel
theorem dX4_lead_41 : decode cX4_lead 41 = .ok (.if_icmp .ne 7, 3) := by decide +kernel
theorem dX4_lead_44 : decode cX4_lead 44 = .ok (.iconst 1, 1) := by decide +kernel
theorem dX4_lead_45 : decode cX4_lead 45 = .ok (.goto 4, 3) := by decide +kernel
theorem dX4_lead_48 : decode cX4_lead 48 = .ok (.iconst 0, 1) := by decide +kernel
theorem dX4_lead_49 : decode cX4_lead 49 = .ok (.invokevirtual 127, 3) := by decide +kernel
theorem dX4_lead_52 : decode cX4_lead 52 = .ok (.aload_n 0, 1) := by decide +kernel
theorem dX4_lead_53 : decode cX4_lead 53 = .ok (.iload_n 2, 1) := by decide +kernel
theorem dX4_lead_54 : decode cX4_lead 54 = .ok (.iconst 2, 1) := by decide +kernel
theorem dX4_lead_55 : decode cX4_lead 55 = .ok (.if_icmp .ne 8, 3) := by decide +kernel
theorem dX4_lead_58 : decode cX4_lead 58 = .ok (.bipush 6, 2) := by decide +kernel
theorem dX4_lead_60 : decode cX4_lead 60 = .ok (.goto 5, 3) := by decide +kernel
theorem dX4_lead_63 : decode cX4_lead 63 = .ok (.bipush 7, 2) := by decide +kernel
theorem dX4_lead_65 : decode cX4_lead 65 = .ok (.iload_n 1, 1) := by decide +kernel
theorem dX4_lead_66 : decode cX4_lead 66 = .ok (.aload_n 0, 1) := by decide +kernel
theorem dX4_lead_67 : decode cX4_lead 67 = .ok (.getfield 36, 3) := by decide +kernel
theorem dX4_lead_70 : decode cX4_lead 70 = .ok (.iload_n 1, 1) := by decide +kernel
theorem dX4_lead_71 : decode cX4_lead 71 = .ok (.iaload, 1) := by decide +kernel
theorem dX4_lead_72 : decode cX4_lead 72 = .ok (.invokevirtual 120, 3) := by decide +kernel
theorem dX4_lead_75 : decode cX4_lead 75 = .ok (.aload_n 0, 1) := by decide +kernel
theorem dX4_lead_76 : decode cX4_lead 76 = .ok (.iload_n 1, 1) := by decide +kernel
theorem dX4_lead_77 : decode cX4_lead 77 = .ok (.aload_n 0, 1) := by decide +kernel
theorem dX4_lead_78 : decode cX4_lead 78 = .ok (.getfield 13, 3) := by decide +kernel
theorem dX4_lead_81 : decode cX4_lead 81 = .ok (.invokevirtual 130, 3) := by decide +kernel
theorem dX4_lead_84 : decode cX4_lead 84 = .ok (.aload_n 0, 1) := by decide +kernel
theorem dX4_lead_85 : decode cX4_lead 85 = .ok (.iload_n 1, 1) := by decide +kernel
theorem dX4_lead_86 : decode cX4_lead 86 = .ok (.invokevirtual 133, 3) := by decide +kernel
theorem dX4_lead_89 : decode cX4_lead 89 = .ok (.return_, 1) := by decide +kernel
theorem dX4_checkQuorum_0 : decode cX4_checkQuorum 0 = .ok (.aload_n 0, 1) := by decide +kernel
theorem dX4_checkQuorum_1 : decode cX4_checkQuorum 1 = .ok (.iload_n 1, 1) := by decide +kernel
theorem dX4_checkQuorum_2 : decode cX4_checkQuorum 2 = .ok (.invokevirtual 137, 3) := by decide +kernel
theorem dX4_checkQuorum_5 : decode cX4_checkQuorum 5 = .ok (.istore_n 2, 1) := by decide +kernel
theorem dX4_checkQuorum_6 : decode cX4_checkQuorum 6 = .ok (.aload_n 0, 1) := by decide +kernel
theorem dX4_checkQuorum_7 : decode cX4_checkQuorum 7 = .ok (.getfield 33, 3) := by decide +kernel
theorem dX4_checkQuorum_10 : decode cX4_checkQuorum 10 = .ok (.iload_n 1, 1) := by decide +kernel
theorem dX4_checkQuorum_11 : decode cX4_checkQuorum 11 = .ok (.iaload, 1) := by decide +kernel
theorem dX4_checkQuorum_12 : decode cX4_checkQuorum 12 = .ok (.iconst 2, 1) := by decide +kernel
theorem dX4_checkQuorum_13 : decode cX4_checkQuorum 13 = .ok (.if_icmp .ne 20, 3) := by decide +kernel
theorem dX4_checkQuorum_16 : decode cX4_checkQuorum 16 = .ok (.iload_n 2, 1) := by decide +kernel
theorem dX4_checkQuorum_17 : decode cX4_checkQuorum 17 = .ok (.aload_n 0, 1) := by decide +kernel
theorem dX4_checkQuorum_18 : decode cX4_checkQuorum 18 = .ok (.getfield 87, 3) := by decide +kernel
theorem dX4_checkQuorum_21 : decode cX4_checkQuorum 21 = .ok (.if_icmp .lt 12, 3) := by decide +kernel
theorem dX4_checkQuorum_24 : decode cX4_checkQuorum 24 = .ok (.aload_n 0, 1) := by decide +kernel
theorem dX4_checkQuorum_25 : decode cX4_checkQuorum 25 = .ok (.iload_n 1, 1) := by decide +kernel
theorem dX4_checkQuorum_26 : decode cX4_checkQuorum 26 = .ok (.iconst 4, 1) := by decide +kernel
theorem dX4_checkQuorum_27 : decode cX4_checkQuorum 27 = .ok (.invokevirtual 141, 3) := by decide +kernel
theorem dX4_checkQuorum_30 : decode cX4_checkQuorum 30 = .ok (.goto 27, 3) := by decide +kernel
theorem dX4_checkQuorum_33 : decode cX4_checkQuorum 33 = .ok (.aload_n 0, 1) := by decide +kernel
theorem dX4_checkQuorum_34 : decode cX4_checkQuorum 34 = .ok (.getfield 33, 3) := by decide +kernel
theorem dX4_checkQuorum_37 : decode cX4_checkQuorum 37 = .ok (.iload_n 1, 1) := by decide +kernel
theorem dX4_checkQuorum_38 : decode cX4_checkQuorum 38 = .ok (.iaload, 1) := by decide +kernel
theorem dX4_checkQuorum_39 : decode cX4_checkQuorum 39 = .ok (.iconst 4, 1) := by decide +kernel
theorem dX4_checkQuorum_40 : decode cX4_checkQuorum 40 = .ok (.if_icmp .ne 17, 3) := by decide +kernel
theorem dX4_checkQuorum_43 : decode cX4_checkQuorum 43 = .ok (.iload_n 2, 1) := by decide +kernel
theorem dX4_checkQuorum_44 : decode cX4_checkQuorum 44 = .ok (.aload_n 0, 1) := by decide +kernel
theorem dX4_checkQuorum_45 : decode cX4_checkQuorum 45 = .ok (.getfield 90, 3) := by decide +kernel
theorem dX4_checkQuorum_48 : decode cX4_checkQuorum 48 = .ok (.if_icmp .lt 9, 3) := by decide +kernel
theorem dX4_checkQuorum_51 : decode cX4_checkQuorum 51 = .ok (.aload_n 0, 1) := by decide +kernel
theorem dX4_checkQuorum_52 : decode cX4_checkQuorum 52 = .ok (.iload_n 1, 1) := by decide +kernel
theorem dX4_checkQuorum_53 : decode cX4_checkQuorum 53 = .ok (.iconst 5, 1) := by decide +kernel
end
section
theorem dX4_checkQuorum_54 : decode cX4_checkQuorum 54 = .ok (.invokevirtual 141, 3) := by decide +kernel
theorem dX4_checkQuorum_57 : decode cX4_checkQuorum 57 = .ok (.return_, 1) := by decide +kernel
theorem dX4_attempt_0 : decode cX4_attempt 0 = .ok (.aload_n 0, 1) := by decide +kernel
theorem dX4_attempt_1 : decode cX4_attempt 1 = .ok (.getfield 36, 3) := by decide +kernel
theorem dX4_attempt_4 : decode cX4_attempt 4 = .ok (.iload_n 1, 1) := by decide +kernel
theorem dX4_attempt_5 : decode cX4_attempt 5 = .ok (.dup2, 1) := by decide +kernel
theorem dX4_attempt_6 : decode cX4_attempt 6 = .ok (.iaload, 1) := by decide +kernel
theorem dX4_attempt_7 : decode cX4_attempt 7 = .ok (.iconst 1, 1) := by decide +kernel
theorem dX4_attempt_8 : decode cX4_attempt 8 = .ok (.iadd, 1) := by decide +kernel
theorem dX4_attempt_9 : decode cX4_attempt 9 = .ok (.iastore, 1) := by decide +kernel
theorem dX4_attempt_10 : decode cX4_attempt 10 = .ok (.aload_n 0, 1) := by decide +kernel
theorem dX4_attempt_11 : decode cX4_attempt 11 = .ok (.getfield 33, 3) := by decide +kernel
theorem dX4_attempt_14 : decode cX4_attempt 14 = .ok (.iload_n 1, 1) := by decide +kernel
theorem dX4_attempt_15 : decode cX4_attempt 15 = .ok (.iconst 3, 1) := by decide +kernel
theorem dX4_attempt_16 : decode cX4_attempt 16 = .ok (.iastore, 1) := by decide +kernel
theorem dX4_attempt_17 : decode cX4_attempt 17 = .ok (.aload_n 0, 1) := by decide +kernel
theorem dX4_attempt_18 : decode cX4_attempt 18 = .ok (.iload_n 1, 1) := by decide +kernel
theorem dX4_attempt_19 : decode cX4_attempt 19 = .ok (.aload_n 0, 1) := by decide +kernel
theorem dX4_attempt_20 : decode cX4_attempt 20 = .ok (.getfield 20, 3) := by decide +kernel
theorem dX4_attempt_23 : decode cX4_attempt 23 = .ok (.iload_n 1, 1) := by decide +kernel
theorem dX4_attempt_24 : decode cX4_attempt 24 = .ok (.iaload, 1) := by decide +kernel
theorem dX4_attempt_25 : decode cX4_attempt 25 = .ok (.iconst 1, 1) := by decide +kernel
theorem dX4_attempt_26 : decode cX4_attempt 26 = .ok (.iadd, 1) := by decide +kernel
theorem dX4_attempt_27 : decode cX4_attempt 27 = .ok (.invokevirtual 127, 3) := by decide +kernel
theorem dX4_attempt_30 : decode cX4_attempt 30 = .ok (.aload_n 0, 1) := by decide +kernel
theorem dX4_attempt_31 : decode cX4_attempt 31 = .ok (.iconst 4, 1) := by decide +kernel
theorem dX4_attempt_32 : decode cX4_attempt 32 = .ok (.iload_n 1, 1) := by decide +kernel
theorem dX4_attempt_33 : decode cX4_attempt 33 = .ok (.aload_n 0, 1) := by decide +kernel
theorem dX4_attempt_34 : decode cX4_attempt 34 = .ok (.getfield 36, 3) := by decide +kernel
theorem dX4_attempt_37 : decode cX4_attempt 37 = .ok (.iload_n 1, 1) := by decide +kernel
theorem dX4_attempt_38 : decode cX4_attempt 38 = .ok (.iaload, 1) := by decide +kernel
theorem dX4_attempt_39 : decode cX4_attempt 39 = .ok (.invokevirtual 120, 3) := by decide +kernel
theorem dX4_attempt_42 : decode cX4_attempt 42 = .ok (.aload_n 0, 1) := by decide +kernel
theorem dX4_attempt_43 : decode cX4_attempt 43 = .ok (.iload_n 1, 1) := by decide +kernel
theorem dX4_attempt_44 : decode cX4_attempt 44 = .ok (.aload_n 0, 1) := by decide +kernel
theorem dX4_attempt_45 : decode cX4_attempt 45 = .ok (.getfield 13, 3) := by decide +kernel
theorem dX4_attempt_48 : decode cX4_attempt 48 = .ok (.invokevirtual 130, 3) := by decide +kernel
theorem dX4_attempt_51 : decode cX4_attempt 51 = .ok (.return_, 1) := by decide +kernel
theorem dX4_begin_0 : decode cX4_begin 0 = .ok (.aload_n 0, 1) := by decide +kernel
theorem dX4_begin_1 : decode cX4_begin 1 = .ok (.iconst 0, 1) := by decide +kernel
theorem dX4_begin_2 : decode cX4_begin 2 = .ok (.putfield 73, 3) := by decide +kernel
theorem dX4_begin_5 : decode cX4_begin 5 = .ok (.aload_n 0, 1) := by decide +kernel
theorem dX4_begin_6 : decode cX4_begin 6 = .ok (.iload_n 1, 1) := by decide +kernel
theorem dX4_begin_7 : decode cX4_begin 7 = .ok (.invokevirtual 93, 3) := by decide +kernel
theorem dX4_begin_10 : decode cX4_begin 10 = .ok (.ifCond .eq 19, 3) := by decide +kernel
theorem dX4_begin_13 : decode cX4_begin 13 = .ok (.aload_n 0, 1) := by decide +kernel
theorem dX4_begin_14 : decode cX4_begin 14 = .ok (.getfield 26, 3) := by decide +kernel
theorem dX4_begin_17 : decode cX4_begin 17 = .ok (.iload_n 1, 1) := by decide +kernel
theorem dX4_begin_18 : decode cX4_begin 18 = .ok (.baload, 1) := by decide +kernel
theorem dX4_begin_19 : decode cX4_begin 19 = .ok (.ifCond .ne 10, 3) := by decide +kernel
theorem dX4_begin_22 : decode cX4_begin 22 = .ok (.aload_n 0, 1) := by decide +kernel
theorem dX4_begin_23 : decode cX4_begin 23 = .ok (.getfield 79, 3) := by decide +kernel
theorem dX4_begin_26 : decode cX4_begin 26 = .ok (.ifCond .eq 5, 3) := by decide +kernel
theorem dX4_begin_29 : decode cX4_begin 29 = .ok (.iconst 0, 1) := by decide +kernel
theorem dX4_begin_30 : decode cX4_begin 30 = .ok (.ireturn, 1) := by decide +kernel
theorem dX4_begin_31 : decode cX4_begin 31 = .ok (.aload_n 0, 1) := by decide +kernel
theorem dX4_begin_32 : decode cX4_begin 32 = .ok (.iconst 1, 1) := by decide +kernel
theorem dX4_begin_33 : decode cX4_begin 33 = .ok (.putfield 79, 3) := by decide +kernel
theorem dX4_begin_36 : decode cX4_begin 36 = .ok (.iconst 0, 1) := by decide +kernel
theorem dX4_begin_37 : decode cX4_begin 37 = .ok (.istore_n 3, 1) := by decide +kernel
theorem dX4_begin_38 : decode cX4_begin 38 = .ok (.iload_n 3, 1) := by decide +kernel
theorem dX4_begin_39 : decode cX4_begin 39 = .ok (.aload_n 0, 1) := by decide +kernel
theorem dX4_begin_40 : decode cX4_begin 40 = .ok (.getfield 76, 3) := by decide +kernel
theorem dX4_begin_43 : decode cX4_begin 43 = .ok (.if_icmp .ge 29, 3) := by decide +kernel
theorem dX4_begin_46 : decode cX4_begin 46 = .ok (.aload_n 0, 1) := by decide +kernel
theorem dX4_begin_47 : decode cX4_begin 47 = .ok (.getfield 30, 3) := by decide +kernel
theorem dX4_begin_50 : decode cX4_begin 50 = .ok (.iload_n 3, 1) := by decide +kernel
theorem dX4_begin_51 : decode cX4_begin 51 = .ok (.iload_n 2, 1) := by decide +kernel
theorem dX4_begin_52 : decode cX4_begin 52 = .ok (.iload_n 3, 1) := by decide +kernel
theorem dX4_begin_53 : decode cX4_begin 53 = .ok (.ishr, 1) := by decide +kernel
theorem dX4_begin_54 : decode cX4_begin 54 = .ok (.iconst 1, 1) := by decide +kernel
theorem dX4_begin_55 : decode cX4_begin 55 = .ok (.iand, 1) := by decide +kernel
theorem dX4_begin_56 : decode cX4_begin 56 = .ok (.iconst 1, 1) := by decide +kernel
theorem dX4_begin_57 : decode cX4_begin 57 = .ok (.if_icmp .ne 7, 3) := by decide +kernel
theorem dX4_begin_60 : decode cX4_begin 60 = .ok (.iconst 1, 1) := by decide +kernel
theorem dX4_begin_61 : decode cX4_begin 61 = .ok (.goto 4, 3) := by decide +kernel
theorem dX4_begin_64 : decode cX4_begin 64 = .ok (.iconst 0, 1) := by decide +kernel
theorem dX4_begin_65 : decode cX4_begin 65 = .ok (.bastore, 1) := by decide +kernel
theorem dX4_begin_66 : decode cX4_begin 66 = .ok (.iinc 3 1, 3) := by decide +kernel
theorem dX4_begin_69 : decode cX4_begin 69 = .ok (.goto (-31), 3) := by decide +kernel
theorem dX4_begin_72 : decode cX4_begin 72 = .ok (.aload_n 0, 1) := by decide +kernel
theorem dX4_begin_73 : decode cX4_begin 73 = .ok (.getfield 30, 3) := by decide +kernel
theorem dX4_begin_76 : decode cX4_begin 76 = .ok (.iload_n 1, 1) := by decide +kernel
theorem dX4_begin_77 : decode cX4_begin 77 = .ok (.baload, 1) := by decide +kernel
theorem dX4_begin_78 : decode cX4_begin 78 = .ok (.ifCond .ne 11, 3) := by decide +kernel
theorem dX4_begin_81 : decode cX4_begin 81 = .ok (.aload_n 0, 1) := by decide +kernel
theorem dX4_begin_82 : decode cX4_begin 82 = .ok (.iload_n 1, 1) := by decide +kernel
theorem dX4_begin_83 : decode cX4_begin 83 = .ok (.iconst 5, 1) := by decide +kernel
theorem dX4_begin_84 : decode cX4_begin 84 = .ok (.invokevirtual 141, 3) := by decide +kernel
theorem dX4_begin_87 : decode cX4_begin 87 = .ok (.iconst 1, 1) := by decide +kernel
theorem dX4_begin_88 : decode cX4_begin 88 = .ok (.ireturn, 1) := by decide +kernel
theorem dX4_begin_89 : decode cX4_begin 89 = .ok (.aload_n 0, 1) := by decide +kernel
theorem dX4_begin_90 : decode cX4_begin 90 = .ok (.iload_n 1, 1) := by decide +kernel
theorem dX4_begin_91 : decode cX4_begin 91 = .ok (.iconst 1, 1) := by decide +kernel
theorem dX4_begin_92 : decode cX4_begin 92 = .ok (.invokevirtual 116, 3) := by decide +kernel
theorem dX4_begin_95 : decode cX4_begin 95 = .ok (.aload_n 0, 1) := by decide +kernel
theorem dX4_begin_96 : decode cX4_begin 96 = .ok (.getfield 33, 3) := by decide +kernel
theorem dX4_begin_99 : decode cX4_begin 99 = .ok (.iload_n 1, 1) := by decide +kernel
theorem dX4_begin_100 : decode cX4_begin 100 = .ok (.iconst 1, 1) := by decide +kernel
theorem dX4_begin_101 : decode cX4_begin 101 = .ok (.iastore, 1) := by decide +kernel
theorem dX4_begin_102 : decode cX4_begin 102 = .ok (.aload_n 0, 1) := by decide +kernel
theorem dX4_begin_103 : decode cX4_begin 103 = .ok (.iload_n 1, 1) := by decide +kernel
theorem dX4_begin_104 : decode cX4_begin 104 = .ok (.iconst 1, 1) := by decide +kernel
theorem dX4_begin_105 : decode cX4_begin 105 = .ok (.invokevirtual 127, 3) := by decide +kernel
theorem dX4_begin_108 : decode cX4_begin 108 = .ok (.aload_n 0, 1) := by decide +kernel
theorem dX4_begin_109 : decode cX4_begin 109 = .ok (.iconst 1, 1) := by decide +kernel
theorem dX4_begin_110 : decode cX4_begin 110 = .ok (.iload_n 1, 1) := by decide +kernel
theorem dX4_begin_111 : decode cX4_begin 111 = .ok (.iconst 0, 1) := by decide +kernel
theorem dX4_begin_112 : decode cX4_begin 112 = .ok (.invokevirtual 120, 3) := by decide +kernel
theorem dX4_begin_115 : decode cX4_begin 115 = .ok (.aload_n 0, 1) := by decide +kernel
theorem dX4_begin_116 : decode cX4_begin 116 = .ok (.iload_n 1, 1) := by decide +kernel
theorem dX4_begin_117 : decode cX4_begin 117 = .ok (.aload_n 0, 1) := by decide +kernel
theorem dX4_begin_118 : decode cX4_begin 118 = .ok (.getfield 13, 3) := by decide +kernel
theorem dX4_begin_121 : decode cX4_begin 121 = .ok (.invokevirtual 130, 3) := by decide +kernel
theorem dX4_begin_124 : decode cX4_begin 124 = .ok (.aload_n 0, 1) := by decide +kernel
theorem dX4_begin_125 : decode cX4_begin 125 = .ok (.iload_n 1, 1) := by decide +kernel
theorem dX4_begin_126 : decode cX4_begin 126 = .ok (.invokevirtual 144, 3) := by decide +kernel
theorem dX4_begin_129 : decode cX4_begin 129 = .ok (.iconst 1, 1) := by decide +kernel
theorem dX4_begin_130 : decode cX4_begin 130 = .ok (.ireturn, 1) := by decide +kernel
theorem dX4_crash_0 : decode cX4_crash 0 = .ok (.aload_n 0, 1) := by decide +kernel
theorem dX4_crash_1 : decode cX4_crash 1 = .ok (.iconst 0, 1) := by decide +kernel
theorem dX4_crash_2 : decode cX4_crash 2 = .ok (.putfield 73, 3) := by decide +kernel
theorem dX4_crash_5 : decode cX4_crash 5 = .ok (.aload_n 0, 1) := by decide +kernel
theorem dX4_crash_6 : decode cX4_crash 6 = .ok (.iload_n 1, 1) := by decide +kernel
theorem dX4_crash_7 : decode cX4_crash 7 = .ok (.invokevirtual 93, 3) := by decide +kernel
theorem dX4_crash_10 : decode cX4_crash 10 = .ok (.ifCond .eq 12, 3) := by decide +kernel
theorem dX4_crash_13 : decode cX4_crash 13 = .ok (.aload_n 0, 1) := by decide +kernel
theorem dX4_crash_14 : decode cX4_crash 14 = .ok (.getfield 26, 3) := by decide +kernel
theorem dX4_crash_17 : decode cX4_crash 17 = .ok (.iload_n 1, 1) := by decide +kernel
theorem dX4_crash_18 : decode cX4_crash 18 = .ok (.baload, 1) := by decide +kernel
theorem dX4_crash_19 : decode cX4_crash 19 = .ok (.ifCond .eq 5, 3) := by decide +kernel
theorem dX4_crash_22 : decode cX4_crash 22 = .ok (.iconst 0, 1) := by decide +kernel
theorem dX4_crash_23 : decode cX4_crash 23 = .ok (.ireturn, 1) := by decide +kernel
theorem dX4_crash_24 : decode cX4_crash 24 = .ok (.aload_n 0, 1) := by decide +kernel
theorem dX4_crash_25 : decode cX4_crash 25 = .ok (.getfield 26, 3) := by decide +kernel
theorem dX4_crash_28 : decode cX4_crash 28 = .ok (.iload_n 1, 1) := by decide +kernel
theorem dX4_crash_29 : decode cX4_crash 29 = .ok (.iconst 1, 1) := by decide +kernel
theorem dX4_crash_30 : decode cX4_crash 30 = .ok (.bastore, 1) := by decide +kernel
theorem dX4_crash_31 : decode cX4_crash 31 = .ok (.aload_n 0, 1) := by decide +kernel
theorem dX4_crash_32 : decode cX4_crash 32 = .ok (.getfield 33, 3) := by decide +kernel
theorem dX4_crash_35 : decode cX4_crash 35 = .ok (.iload_n 1, 1) := by decide +kernel
theorem dX4_crash_36 : decode cX4_crash 36 = .ok (.iconst 0, 1) := by decide +kernel
theorem dX4_crash_37 : decode cX4_crash 37 = .ok (.iastore, 1) := by decide +kernel
theorem dX4_crash_38 : decode cX4_crash 38 = .ok (.aload_n 0, 1) := by decide +kernel
theorem dX4_crash_39 : decode cX4_crash 39 = .ok (.getfield 42, 3) := by decide +kernel
theorem dX4_crash_42 : decode cX4_crash 42 = .ok (.iload_n 1, 1) := by decide +kernel
theorem dX4_crash_43 : decode cX4_crash 43 = .ok (.iconst (-1), 1) := by decide +kernel
theorem dX4_crash_44 : decode cX4_crash 44 = .ok (.iastore, 1) := by decide +kernel
theorem dX4_crash_45 : decode cX4_crash 45 = .ok (.iconst 1, 1) := by decide +kernel
theorem dX4_crash_46 : decode cX4_crash 46 = .ok (.ireturn, 1) := by decide +kernel
theorem dX4_recover_0 : decode cX4_recover 0 = .ok (.aload_n 0, 1) := by decide +kernel
theorem dX4_recover_1 : decode cX4_recover 1 = .ok (.iconst 0, 1) := by decide +kernel
theorem dX4_recover_2 : decode cX4_recover 2 = .ok (.putfield 73, 3) := by decide +kernel
theorem dX4_recover_5 : decode cX4_recover 5 = .ok (.aload_n 0, 1) := by decide +kernel
theorem dX4_recover_6 : decode cX4_recover 6 = .ok (.iload_n 1, 1) := by decide +kernel
theorem dX4_recover_7 : decode cX4_recover 7 = .ok (.invokevirtual 93, 3) := by decide +kernel
theorem dX4_recover_10 : decode cX4_recover 10 = .ok (.ifCond .eq 12, 3) := by decide +kernel
theorem dX4_recover_13 : decode cX4_recover 13 = .ok (.aload_n 0, 1) := by decide +kernel
theorem dX4_recover_14 : decode cX4_recover 14 = .ok (.getfield 26, 3) := by decide +kernel
theorem dX4_recover_17 : decode cX4_recover 17 = .ok (.iload_n 1, 1) := by decide +kernel
theorem dX4_recover_18 : decode cX4_recover 18 = .ok (.baload, 1) := by decide +kernel
theorem dX4_recover_19 : decode cX4_recover 19 = .ok (.ifCond .ne 5, 3) := by decide +kernel
theorem dX4_recover_22 : decode cX4_recover 22 = .ok (.iconst 0, 1) := by decide +kernel
theorem dX4_recover_23 : decode cX4_recover 23 = .ok (.ireturn, 1) := by decide +kernel
theorem dX4_recover_24 : decode cX4_recover 24 = .ok (.aload_n 0, 1) := by decide +kernel
theorem dX4_recover_25 : decode cX4_recover 25 = .ok (.getfield 26, 3) := by decide +kernel
theorem dX4_recover_28 : decode cX4_recover 28 = .ok (.iload_n 1, 1) := by decide +kernel
theorem dX4_recover_29 : decode cX4_recover 29 = .ok (.iconst 0, 1) := by decide +kernel
theorem dX4_recover_30 : decode cX4_recover 30 = .ok (.bastore, 1) := by decide +kernel
theorem dX4_recover_31 : decode cX4_recover 31 = .ok (.aload_n 0, 1) := by decide +kernel
theorem dX4_recover_32 : decode cX4_recover 32 = .ok (.getfield 79, 3) := by decide +kernel
theorem dX4_recover_35 : decode cX4_recover 35 = .ok (.ifCond .eq 21, 3) := by decide +kernel
theorem dX4_recover_38 : decode cX4_recover 38 = .ok (.aload_n 0, 1) := by decide +kernel
theorem dX4_recover_39 : decode cX4_recover 39 = .ok (.getfield 20, 3) := by decide +kernel
theorem dX4_recover_42 : decode cX4_recover 42 = .ok (.iload_n 1, 1) := by decide +kernel
theorem dX4_recover_43 : decode cX4_recover 43 = .ok (.iaload, 1) := by decide +kernel
theorem dX4_recover_44 : decode cX4_recover 44 = .ok (.ifCond .ne 12, 3) := by decide +kernel
theorem dX4_recover_47 : decode cX4_recover 47 = .ok (.aload_n 0, 1) := by decide +kernel
theorem dX4_recover_48 : decode cX4_recover 48 = .ok (.iload_n 1, 1) := by decide +kernel
theorem dX4_recover_49 : decode cX4_recover 49 = .ok (.iconst 5, 1) := by decide +kernel
theorem dX4_recover_50 : decode cX4_recover 50 = .ok (.invokevirtual 116, 3) := by decide +kernel
theorem dX4_recover_53 : decode cX4_recover 53 = .ok (.goto 23, 3) := by decide +kernel
theorem dX4_recover_56 : decode cX4_recover 56 = .ok (.aload_n 0, 1) := by decide +kernel
theorem dX4_recover_57 : decode cX4_recover 57 = .ok (.getfield 79, 3) := by decide +kernel
theorem dX4_recover_60 : decode cX4_recover 60 = .ok (.ifCond .eq 16, 3) := by decide +kernel
theorem dX4_recover_63 : decode cX4_recover 63 = .ok (.aload_n 0, 1) := by decide +kernel
theorem dX4_recover_64 : decode cX4_recover 64 = .ok (.iload_n 1, 1) := by decide +kernel
theorem dX4_recover_65 : decode cX4_recover 65 = .ok (.invokevirtual 147, 3) := by decide +kernel
theorem dX4_recover_68 : decode cX4_recover 68 = .ok (.ifCond .ne 8, 3) := by decide +kernel
theorem dX4_recover_71 : decode cX4_recover 71 = .ok (.aload_n 0, 1) := by decide +kernel
theorem dX4_recover_72 : decode cX4_recover 72 = .ok (.iload_n 1, 1) := by decide +kernel
theorem dX4_recover_73 : decode cX4_recover 73 = .ok (.invokevirtual 150, 3) := by decide +kernel
theorem dX4_recover_76 : decode cX4_recover 76 = .ok (.iconst 1, 1) := by decide +kernel
theorem dX4_recover_77 : decode cX4_recover 77 = .ok (.ireturn, 1) := by decide +kernel
theorem dX4_yieldTo_0 : decode cX4_yieldTo 0 = .ok (.aload_n 0, 1) := by decide +kernel
theorem dX4_yieldTo_1 : decode cX4_yieldTo 1 = .ok (.iload_n 1, 1) := by decide +kernel
theorem dX4_yieldTo_2 : decode cX4_yieldTo 2 = .ok (.invokevirtual 147, 3) := by decide +kernel
theorem dX4_yieldTo_5 : decode cX4_yieldTo 5 = .ok (.ifCond .ne 28, 3) := by decide +kernel
theorem dX4_yieldTo_8 : decode cX4_yieldTo 8 = .ok (.aload_n 0, 1) := by decide +kernel
theorem dX4_yieldTo_9 : decode cX4_yieldTo 9 = .ok (.getfield 33, 3) := by decide +kernel
theorem dX4_yieldTo_12 : decode cX4_yieldTo 12 = .ok (.iload_n 1, 1) := by decide +kernel
theorem dX4_yieldTo_13 : decode cX4_yieldTo 13 = .ok (.iaload, 1) := by decide +kernel
theorem dX4_yieldTo_14 : decode cX4_yieldTo 14 = .ok (.iconst 1, 1) := by decide +kernel
theorem dX4_yieldTo_15 : decode cX4_yieldTo 15 = .ok (.if_icmp .eq 18, 3) := by decide +kernel
theorem dX4_yieldTo_18 : decode cX4_yieldTo 18 = .ok (.aload_n 0, 1) := by decide +kernel
theorem dX4_yieldTo_19 : decode cX4_yieldTo 19 = .ok (.getfield 33, 3) := by decide +kernel
theorem dX4_yieldTo_22 : decode cX4_yieldTo 22 = .ok (.iload_n 1, 1) := by decide +kernel
theorem dX4_yieldTo_23 : decode cX4_yieldTo 23 = .ok (.iaload, 1) := by decide +kernel
theorem dX4_yieldTo_24 : decode cX4_yieldTo 24 = .ok (.iconst 2, 1) := by decide +kernel
theorem dX4_yieldTo_25 : decode cX4_yieldTo 25 = .ok (.if_icmp .lt 12, 3) := by decide +kernel
theorem dX4_yieldTo_28 : decode cX4_yieldTo 28 = .ok (.iload_n 2, 1) := by decide +kernel
theorem dX4_yieldTo_29 : decode cX4_yieldTo 29 = .ok (.iload_n 1, 1) := by decide +kernel
theorem dX4_yieldTo_30 : decode cX4_yieldTo 30 = .ok (.if_icmp .le 7, 3) := by decide +kernel
theorem dX4_yieldTo_33 : decode cX4_yieldTo 33 = .ok (.iconst 1, 1) := by decide +kernel
theorem dX4_yieldTo_34 : decode cX4_yieldTo 34 = .ok (.goto 4, 3) := by decide +kernel
theorem dX4_yieldTo_37 : decode cX4_yieldTo 37 = .ok (.iconst 0, 1) := by decide +kernel
theorem dX4_yieldTo_38 : decode cX4_yieldTo 38 = .ok (.istore_n 3, 1) := by decide +kernel
theorem dX4_yieldTo_39 : decode cX4_yieldTo 39 = .ok (.iload_n 3, 1) := by decide +kernel
theorem dX4_yieldTo_40 : decode cX4_yieldTo 40 = .ok (.ifCond .ne 21, 3) := by decide +kernel
theorem dX4_yieldTo_43 : decode cX4_yieldTo 43 = .ok (.aload_n 0, 1) := by decide +kernel
theorem dX4_yieldTo_44 : decode cX4_yieldTo 44 = .ok (.getfield 33, 3) := by decide +kernel
theorem dX4_yieldTo_47 : decode cX4_yieldTo 47 = .ok (.iload_n 1, 1) := by decide +kernel
theorem dX4_yieldTo_48 : decode cX4_yieldTo 48 = .ok (.iconst 0, 1) := by decide +kernel
theorem dX4_yieldTo_49 : decode cX4_yieldTo 49 = .ok (.iastore, 1) := by decide +kernel
theorem dX4_yieldTo_50 : decode cX4_yieldTo 50 = .ok (.aload_n 0, 1) := by decide +kernel
theorem dX4_yieldTo_51 : decode cX4_yieldTo 51 = .ok (.iload_n 1, 1) := by decide +kernel
theorem dX4_yieldTo_52 : decode cX4_yieldTo 52 = .ok (.aload_n 0, 1) := by decide +kernel
theorem dX4_yieldTo_53 : decode cX4_yieldTo 53 = .ok (.getfield 13, 3) := by decide +kernel
theorem dX4_yieldTo_56 : decode cX4_yieldTo 56 = .ok (.iload_n 1, 1) := by decide +kernel
theorem dX4_yieldTo_57 : decode cX4_yieldTo 57 = .ok (.iadd, 1) := by decide +kernel
theorem dX4_yieldTo_58 : decode cX4_yieldTo 58 = .ok (.invokevirtual 130, 3) := by decide +kernel
theorem dX4_yieldTo_61 : decode cX4_yieldTo 61 = .ok (.return_, 1) := by decide +kernel
theorem dX4_handle_0 : decode cX4_handle 0 = .ok (.iload_n 2, 1) := by decide +kernel
theorem dX4_handle_1 : decode cX4_handle 1 = .ok (.iconst 1, 1) := by decide +kernel
theorem dX4_handle_2 : decode cX4_handle 2 = .ok (.if_icmp .ne 76, 3) := by decide +kernel
theorem dX4_handle_5 : decode cX4_handle 5 = .ok (.aload_n 0, 1) := by decide +kernel
theorem dX4_handle_6 : decode cX4_handle 6 = .ok (.getfield 20, 3) := by decide +kernel
theorem dX4_handle_9 : decode cX4_handle 9 = .ok (.iload_n 1, 1) := by decide +kernel
theorem dX4_handle_10 : decode cX4_handle 10 = .ok (.iaload, 1) := by decide +kernel
theorem dX4_handle_11 : decode cX4_handle 11 = .ok (.ifCond .ne 357, 3) := by decide +kernel
theorem dX4_handle_14 : decode cX4_handle 14 = .ok (.aload_n 0, 1) := by decide +kernel
theorem dX4_handle_15 : decode cX4_handle 15 = .ok (.iload_n 1, 1) := by decide +kernel
theorem dX4_handle_16 : decode cX4_handle 16 = .ok (.aload_n 0, 1) := by decide +kernel
theorem dX4_handle_17 : decode cX4_handle 17 = .ok (.getfield 30, 3) := by decide +kernel
theorem dX4_handle_20 : decode cX4_handle 20 = .ok (.iload_n 1, 1) := by decide +kernel
theorem dX4_handle_21 : decode cX4_handle 21 = .ok (.baload, 1) := by decide +kernel
theorem dX4_handle_22 : decode cX4_handle 22 = .ok (.ifCond .eq 7, 3) := by decide +kernel
theorem dX4_handle_25 : decode cX4_handle 25 = .ok (.iconst 1, 1) := by decide +kernel
theorem dX4_handle_26 : decode cX4_handle 26 = .ok (.goto 4, 3) := by decide +kernel
theorem dX4_handle_29 : decode cX4_handle 29 = .ok (.iconst 5, 1) := by decide +kernel
theorem dX4_handle_30 : decode cX4_handle 30 = .ok (.invokevirtual 116, 3) := by decide +kernel
theorem dX4_handle_33 : decode cX4_handle 33 = .ok (.aload_n 0, 1) := by decide +kernel
theorem dX4_handle_34 : decode cX4_handle 34 = .ok (.aload_n 0, 1) := by decide +kernel
theorem dX4_handle_35 : decode cX4_handle 35 = .ok (.getfield 30, 3) := by decide +kernel
theorem dX4_handle_38 : decode cX4_handle 38 = .ok (.iload_n 1, 1) := by decide +kernel
theorem dX4_handle_39 : decode cX4_handle 39 = .ok (.baload, 1) := by decide +kernel
theorem dX4_handle_40 : decode cX4_handle 40 = .ok (.ifCond .eq 7, 3) := by decide +kernel
theorem dX4_handle_43 : decode cX4_handle 43 = .ok (.iconst 2, 1) := by decide +kernel
theorem dX4_handle_44 : decode cX4_handle 44 = .ok (.goto 4, 3) := by decide +kernel
theorem dX4_handle_47 : decode cX4_handle 47 = .ok (.iconst 3, 1) := by decide +kernel
theorem dX4_handle_48 : decode cX4_handle 48 = .ok (.iload_n 1, 1) := by decide +kernel
theorem dX4_handle_49 : decode cX4_handle 49 = .ok (.iload_n 3, 1) := by decide +kernel
theorem dX4_handle_50 : decode cX4_handle 50 = .ok (.iconst 0, 1) := by decide +kernel
theorem dX4_handle_51 : decode cX4_handle 51 = .ok (.iconst 0, 1) := by decide +kernel
theorem dX4_handle_52 : decode cX4_handle 52 = .ok (.invokevirtual 112, 3) := by decide +kernel
theorem dX4_handle_55 : decode cX4_handle 55 = .ok (.aload_n 0, 1) := by decide +kernel
theorem dX4_handle_56 : decode cX4_handle 56 = .ok (.getfield 30, 3) := by decide +kernel
theorem dX4_handle_59 : decode cX4_handle 59 = .ok (.iload_n 1, 1) := by decide +kernel
theorem dX4_handle_60 : decode cX4_handle 60 = .ok (.baload, 1) := by decide +kernel
theorem dX4_handle_61 : decode cX4_handle 61 = .ok (.ifCond .eq 307, 3) := by decide +kernel
theorem dX4_handle_64 : decode cX4_handle 64 = .ok (.aload_n 0, 1) := by decide +kernel
theorem dX4_handle_65 : decode cX4_handle 65 = .ok (.iload_n 1, 1) := by decide +kernel
theorem dX4_handle_66 : decode cX4_handle 66 = .ok (.aload_n 0, 1) := by decide +kernel
theorem dX4_handle_67 : decode cX4_handle 67 = .ok (.getfield 13, 3) := by decide +kernel
theorem dX4_handle_70 : decode cX4_handle 70 = .ok (.iload_n 1, 1) := by decide +kernel
theorem dX4_handle_71 : decode cX4_handle 71 = .ok (.iadd, 1) := by decide +kernel
theorem dX4_handle_72 : decode cX4_handle 72 = .ok (.invokevirtual 130, 3) := by decide +kernel
theorem dX4_handle_75 : decode cX4_handle 75 = .ok (.goto 293, 3) := by decide +kernel
theorem dX4_handle_78 : decode cX4_handle 78 = .ok (.iload_n 2, 1) := by decide +kernel
theorem dX4_handle_79 : decode cX4_handle 79 = .ok (.iconst 2, 1) := by decide +kernel
theorem dX4_handle_80 : decode cX4_handle 80 = .ok (.if_icmp .ne 33, 3) := by decide +kernel
theorem dX4_handle_83 : decode cX4_handle 83 = .ok (.aload_n 0, 1) := by decide +kernel
theorem dX4_handle_84 : decode cX4_handle 84 = .ok (.getfield 33, 3) := by decide +kernel
theorem dX4_handle_87 : decode cX4_handle 87 = .ok (.iload_n 1, 1) := by decide +kernel
theorem dX4_handle_88 : decode cX4_handle 88 = .ok (.iaload, 1) := by decide +kernel
theorem dX4_handle_89 : decode cX4_handle 89 = .ok (.iconst 1, 1) := by decide +kernel
theorem dX4_handle_90 : decode cX4_handle 90 = .ok (.if_icmp .ne 23, 3) := by decide +kernel
theorem dX4_handle_93 : decode cX4_handle 93 = .ok (.aload_n 0, 1) := by decide +kernel
theorem dX4_handle_94 : decode cX4_handle 94 = .ok (.getfield 39, 3) := by decide +kernel
theorem dX4_handle_97 : decode cX4_handle 97 = .ok (.bipush 8, 2) := by decide +kernel
theorem dX4_handle_99 : decode cX4_handle 99 = .ok (.iload_n 1, 1) := by decide +kernel
theorem dX4_handle_100 : decode cX4_handle 100 = .ok (.imul, 1) := by decide +kernel
theorem dX4_handle_101 : decode cX4_handle 101 = .ok (.iload_n 3, 1) := by decide +kernel
theorem dX4_handle_102 : decode cX4_handle 102 = .ok (.iadd, 1) := by decide +kernel
theorem dX4_handle_103 : decode cX4_handle 103 = .ok (.iconst 1, 1) := by decide +kernel
theorem dX4_handle_104 : decode cX4_handle 104 = .ok (.iastore, 1) := by decide +kernel
theorem dX4_handle_105 : decode cX4_handle 105 = .ok (.aload_n 0, 1) := by decide +kernel
theorem dX4_handle_106 : decode cX4_handle 106 = .ok (.iload_n 1, 1) := by decide +kernel
theorem dX4_handle_107 : decode cX4_handle 107 = .ok (.invokevirtual 144, 3) := by decide +kernel
theorem dX4_handle_110 : decode cX4_handle 110 = .ok (.goto 258, 3) := by decide +kernel
theorem dX4_handle_113 : decode cX4_handle 113 = .ok (.iload_n 2, 1) := by decide +kernel
theorem dX4_handle_114 : decode cX4_handle 114 = .ok (.iconst 3, 1) := by decide +kernel
theorem dX4_handle_115 : decode cX4_handle 115 = .ok (.if_icmp .ne 22, 3) := by decide +kernel
theorem dX4_handle_118 : decode cX4_handle 118 = .ok (.aload_n 0, 1) := by decide +kernel
theorem dX4_handle_119 : decode cX4_handle 119 = .ok (.getfield 33, 3) := by decide +kernel
theorem dX4_handle_122 : decode cX4_handle 122 = .ok (.iload_n 1, 1) := by decide +kernel
theorem dX4_handle_123 : decode cX4_handle 123 = .ok (.iaload, 1) := by decide +kernel
theorem dX4_handle_124 : decode cX4_handle 124 = .ok (.iconst 1, 1) := by decide +kernel
theorem dX4_handle_125 : decode cX4_handle 125 = .ok (.if_icmp .ne 12, 3) := by decide +kernel
theorem dX4_handle_128 : decode cX4_handle 128 = .ok (.aload_n 0, 1) := by decide +kernel
theorem dX4_handle_129 : decode cX4_handle 129 = .ok (.iload_n 1, 1) := by decide +kernel
theorem dX4_handle_130 : decode cX4_handle 130 = .ok (.iconst 5, 1) := by decide +kernel
theorem dX4_handle_131 : decode cX4_handle 131 = .ok (.invokevirtual 141, 3) := by decide +kernel
theorem dX4_handle_134 : decode cX4_handle 134 = .ok (.goto 234, 3) := by decide +kernel
theorem dX4_handle_137 : decode cX4_handle 137 = .ok (.iload_n 2, 1) := by decide +kernel
theorem dX4_handle_138 : decode cX4_handle 138 = .ok (.iconst 4, 1) := by decide +kernel
theorem dX4_handle_139 : decode cX4_handle 139 = .ok (.if_icmp .ne 42, 3) := by decide +kernel
theorem dX4_handle_142 : decode cX4_handle 142 = .ok (.aload_n 0, 1) := by decide +kernel
theorem dX4_handle_143 : decode cX4_handle 143 = .ok (.getfield 20, 3) := by decide +kernel
theorem dX4_handle_146 : decode cX4_handle 146 = .ok (.iload_n 1, 1) := by decide +kernel
theorem dX4_handle_147 : decode cX4_handle 147 = .ok (.iaload, 1) := by decide +kernel
theorem dX4_handle_148 : decode cX4_handle 148 = .ok (.ifCond .ne 9, 3) := by decide +kernel
theorem dX4_handle_151 : decode cX4_handle 151 = .ok (.aload_n 0, 1) := by decide +kernel
theorem dX4_handle_152 : decode cX4_handle 152 = .ok (.iload_n 1, 1) := by decide +kernel
theorem dX4_handle_153 : decode cX4_handle 153 = .ok (.iconst 5, 1) := by decide +kernel
theorem dX4_handle_154 : decode cX4_handle 154 = .ok (.invokevirtual 116, 3) := by decide +kernel
theorem dX4_handle_157 : decode cX4_handle 157 = .ok (.aload_n 0, 1) := by decide +kernel
theorem dX4_handle_158 : decode cX4_handle 158 = .ok (.iload_n 1, 1) := by decide +kernel
theorem dX4_handle_159 : decode cX4_handle 159 = .ok (.iload_n 3, 1) := by decide +kernel
theorem dX4_handle_160 : decode cX4_handle 160 = .ok (.invokevirtual 153, 3) := by decide +kernel
theorem dX4_handle_163 : decode cX4_handle 163 = .ok (.aload_n 0, 1) := by decide +kernel
theorem dX4_handle_164 : decode cX4_handle 164 = .ok (.iconst 5, 1) := by decide +kernel
theorem dX4_handle_165 : decode cX4_handle 165 = .ok (.iload_n 1, 1) := by decide +kernel
theorem dX4_handle_166 : decode cX4_handle 166 = .ok (.iload_n 3, 1) := by decide +kernel
theorem dX4_handle_167 : decode cX4_handle 167 = .ok (.iload 4, 2) := by decide +kernel
theorem dX4_handle_169 : decode cX4_handle 169 = .ok (.aload_n 0, 1) := by decide +kernel
theorem dX4_handle_170 : decode cX4_handle 170 = .ok (.getfield 20, 3) := by decide +kernel
theorem dX4_handle_173 : decode cX4_handle 173 = .ok (.iload_n 1, 1) := by decide +kernel
theorem dX4_handle_174 : decode cX4_handle 174 = .ok (.iaload, 1) := by decide +kernel
theorem dX4_handle_175 : decode cX4_handle 175 = .ok (.invokevirtual 112, 3) := by decide +kernel
theorem dX4_handle_178 : decode cX4_handle 178 = .ok (.goto 190, 3) := by decide +kernel
theorem dX4_handle_181 : decode cX4_handle 181 = .ok (.iload_n 2, 1) := by decide +kernel
theorem dX4_handle_182 : decode cX4_handle 182 = .ok (.iconst 5, 1) := by decide +kernel
theorem dX4_handle_183 : decode cX4_handle 183 = .ok (.if_icmp .ne 58, 3) := by decide +kernel
theorem dX4_handle_186 : decode cX4_handle 186 = .ok (.aload_n 0, 1) := by decide +kernel
theorem dX4_handle_187 : decode cX4_handle 187 = .ok (.getfield 33, 3) := by decide +kernel
theorem dX4_handle_190 : decode cX4_handle 190 = .ok (.iload_n 1, 1) := by decide +kernel
theorem dX4_handle_191 : decode cX4_handle 191 = .ok (.iaload, 1) := by decide +kernel
theorem dX4_handle_192 : decode cX4_handle 192 = .ok (.iconst 3, 1) := by decide +kernel
theorem dX4_handle_193 : decode cX4_handle 193 = .ok (.if_icmp .ne 48, 3) := by decide +kernel
theorem dX4_handle_196 : decode cX4_handle 196 = .ok (.iload 4, 2) := by decide +kernel
theorem dX4_handle_198 : decode cX4_handle 198 = .ok (.aload_n 0, 1) := by decide +kernel
theorem dX4_handle_199 : decode cX4_handle 199 = .ok (.getfield 36, 3) := by decide +kernel
theorem dX4_handle_202 : decode cX4_handle 202 = .ok (.iload_n 1, 1) := by decide +kernel
theorem dX4_handle_203 : decode cX4_handle 203 = .ok (.iaload, 1) := by decide +kernel
theorem dX4_handle_204 : decode cX4_handle 204 = .ok (.if_icmp .ne 37, 3) := by decide +kernel
theorem dX4_handle_207 : decode cX4_handle 207 = .ok (.iload 5, 2) := by decide +kernel
theorem dX4_handle_209 : decode cX4_handle 209 = .ok (.iconst 4, 1) := by decide +kernel
theorem dX4_handle_210 : decode cX4_handle 210 = .ok (.if_icmp .lt 13, 3) := by decide +kernel
theorem dX4_handle_213 : decode cX4_handle 213 = .ok (.aload_n 0, 1) := by decide +kernel
theorem dX4_handle_214 : decode cX4_handle 214 = .ok (.iload_n 1, 1) := by decide +kernel
theorem dX4_handle_215 : decode cX4_handle 215 = .ok (.iload 5, 2) := by decide +kernel
theorem dX4_handle_217 : decode cX4_handle 217 = .ok (.invokevirtual 141, 3) := by decide +kernel
theorem dX4_handle_220 : decode cX4_handle 220 = .ok (.goto 148, 3) := by decide +kernel
theorem dX4_handle_223 : decode cX4_handle 223 = .ok (.aload_n 0, 1) := by decide +kernel
theorem dX4_handle_224 : decode cX4_handle 224 = .ok (.getfield 39, 3) := by decide +kernel
theorem dX4_handle_227 : decode cX4_handle 227 = .ok (.bipush 8, 2) := by decide +kernel
theorem dX4_handle_229 : decode cX4_handle 229 = .ok (.iload_n 1, 1) := by decide +kernel
theorem dX4_handle_230 : decode cX4_handle 230 = .ok (.imul, 1) := by decide +kernel
theorem dX4_handle_231 : decode cX4_handle 231 = .ok (.iload_n 3, 1) := by decide +kernel
theorem dX4_handle_232 : decode cX4_handle 232 = .ok (.iadd, 1) := by decide +kernel
theorem dX4_handle_233 : decode cX4_handle 233 = .ok (.iload 5, 2) := by decide +kernel
theorem dX4_handle_235 : decode cX4_handle 235 = .ok (.iconst 1, 1) := by decide +kernel
theorem dX4_handle_236 : decode cX4_handle 236 = .ok (.iadd, 1) := by decide +kernel
theorem dX4_handle_237 : decode cX4_handle 237 = .ok (.iastore, 1) := by decide +kernel
theorem dX4_handle_238 : decode cX4_handle 238 = .ok (.goto 130, 3) := by decide +kernel
theorem dX4_handle_241 : decode cX4_handle 241 = .ok (.iload_n 2, 1) := by decide +kernel
theorem dX4_handle_242 : decode cX4_handle 242 = .ok (.bipush 6, 2) := by decide +kernel
theorem dX4_handle_244 : decode cX4_handle 244 = .ok (.if_icmp .eq 9, 3) := by decide +kernel
theorem dX4_handle_247 : decode cX4_handle 247 = .ok (.iload_n 2, 1) := by decide +kernel
theorem dX4_handle_248 : decode cX4_handle 248 = .ok (.bipush 7, 2) := by decide +kernel
theorem dX4_handle_250 : decode cX4_handle 250 = .ok (.if_icmp .ne 25, 3) := by decide +kernel
theorem dX4_handle_253 : decode cX4_handle 253 = .ok (.aload_n 0, 1) := by decide +kernel
theorem dX4_handle_254 : decode cX4_handle 254 = .ok (.iload_n 1, 1) := by decide +kernel
theorem dX4_handle_255 : decode cX4_handle 255 = .ok (.iload_n 3, 1) := by decide +kernel
theorem dX4_handle_256 : decode cX4_handle 256 = .ok (.iload 4, 2) := by decide +kernel
theorem dX4_handle_258 : decode cX4_handle 258 = .ok (.iload_n 2, 1) := by decide +kernel
theorem dX4_handle_259 : decode cX4_handle 259 = .ok (.bipush 6, 2) := by decide +kernel
theorem dX4_handle_261 : decode cX4_handle 261 = .ok (.if_icmp .ne 7, 3) := by decide +kernel
theorem dX4_handle_264 : decode cX4_handle 264 = .ok (.iconst 2, 1) := by decide +kernel
theorem dX4_handle_265 : decode cX4_handle 265 = .ok (.goto 4, 3) := by decide +kernel
theorem dX4_handle_268 : decode cX4_handle 268 = .ok (.iconst 3, 1) := by decide +kernel
theorem dX4_handle_269 : decode cX4_handle 269 = .ok (.invokevirtual 156, 3) := by decide +kernel
theorem dX4_handle_272 : decode cX4_handle 272 = .ok (.goto 96, 3) := by decide +kernel
theorem dX4_handle_275 : decode cX4_handle 275 = .ok (.iload_n 2, 1) := by decide +kernel
theorem dX4_handle_276 : decode cX4_handle 276 = .ok (.bipush 8, 2) := by decide +kernel
theorem dX4_handle_278 : decode cX4_handle 278 = .ok (.if_icmp .ne 54, 3) := by decide +kernel
theorem dX4_handle_281 : decode cX4_handle 281 = .ok (.aload_n 0, 1) := by decide +kernel
theorem dX4_handle_282 : decode cX4_handle 282 = .ok (.getfield 33, 3) := by decide +kernel
theorem dX4_handle_285 : decode cX4_handle 285 = .ok (.iload_n 1, 1) := by decide +kernel
theorem dX4_handle_286 : decode cX4_handle 286 = .ok (.iaload, 1) := by decide +kernel
theorem dX4_handle_287 : decode cX4_handle 287 = .ok (.iconst 2, 1) := by decide +kernel
theorem dX4_handle_288 : decode cX4_handle 288 = .ok (.if_icmp .eq 13, 3) := by decide +kernel
theorem dX4_handle_291 : decode cX4_handle 291 = .ok (.aload_n 0, 1) := by decide +kernel
theorem dX4_handle_292 : decode cX4_handle 292 = .ok (.getfield 33, 3) := by decide +kernel
theorem dX4_handle_295 : decode cX4_handle 295 = .ok (.iload_n 1, 1) := by decide +kernel
theorem dX4_handle_296 : decode cX4_handle 296 = .ok (.iaload, 1) := by decide +kernel
theorem dX4_handle_297 : decode cX4_handle 297 = .ok (.iconst 4, 1) := by decide +kernel
theorem dX4_handle_298 : decode cX4_handle 298 = .ok (.if_icmp .ne 34, 3) := by decide +kernel
theorem dX4_handle_301 : decode cX4_handle 301 = .ok (.iload 4, 2) := by decide +kernel
theorem dX4_handle_303 : decode cX4_handle 303 = .ok (.aload_n 0, 1) := by decide +kernel
theorem dX4_handle_304 : decode cX4_handle 304 = .ok (.getfield 36, 3) := by decide +kernel
theorem dX4_handle_307 : decode cX4_handle 307 = .ok (.iload_n 1, 1) := by decide +kernel
theorem dX4_handle_308 : decode cX4_handle 308 = .ok (.iaload, 1) := by decide +kernel
theorem dX4_handle_309 : decode cX4_handle 309 = .ok (.if_icmp .ne 23, 3) := by decide +kernel
theorem dX4_handle_312 : decode cX4_handle 312 = .ok (.aload_n 0, 1) := by decide +kernel
theorem dX4_handle_313 : decode cX4_handle 313 = .ok (.getfield 39, 3) := by decide +kernel
theorem dX4_handle_316 : decode cX4_handle 316 = .ok (.bipush 8, 2) := by decide +kernel
theorem dX4_handle_318 : decode cX4_handle 318 = .ok (.iload_n 1, 1) := by decide +kernel
theorem dX4_handle_319 : decode cX4_handle 319 = .ok (.imul, 1) := by decide +kernel
theorem dX4_handle_320 : decode cX4_handle 320 = .ok (.iload_n 3, 1) := by decide +kernel
theorem dX4_handle_321 : decode cX4_handle 321 = .ok (.iadd, 1) := by decide +kernel
theorem dX4_handle_322 : decode cX4_handle 322 = .ok (.iconst 1, 1) := by decide +kernel
theorem dX4_handle_323 : decode cX4_handle 323 = .ok (.iastore, 1) := by decide +kernel
theorem dX4_handle_324 : decode cX4_handle 324 = .ok (.aload_n 0, 1) := by decide +kernel
theorem dX4_handle_325 : decode cX4_handle 325 = .ok (.iload_n 1, 1) := by decide +kernel
theorem dX4_handle_326 : decode cX4_handle 326 = .ok (.invokevirtual 133, 3) := by decide +kernel
theorem dX4_handle_329 : decode cX4_handle 329 = .ok (.goto 39, 3) := by decide +kernel
theorem dX4_handle_332 : decode cX4_handle 332 = .ok (.iload_n 2, 1) := by decide +kernel
theorem dX4_handle_333 : decode cX4_handle 333 = .ok (.bipush 9, 2) := by decide +kernel
theorem dX4_handle_335 : decode cX4_handle 335 = .ok (.if_icmp .eq 9, 3) := by decide +kernel
theorem dX4_handle_338 : decode cX4_handle 338 = .ok (.iload_n 2, 1) := by decide +kernel
theorem dX4_handle_339 : decode cX4_handle 339 = .ok (.bipush 10, 2) := by decide +kernel
theorem dX4_handle_341 : decode cX4_handle 341 = .ok (.if_icmp .ne 27, 3) := by decide +kernel
theorem dX4_handle_344 : decode cX4_handle 344 = .ok (.aload_n 0, 1) := by decide +kernel
theorem dX4_handle_345 : decode cX4_handle 345 = .ok (.iload_n 1, 1) := by decide +kernel
theorem dX4_handle_346 : decode cX4_handle 346 = .ok (.invokevirtual 147, 3) := by decide +kernel
theorem dX4_handle_349 : decode cX4_handle 349 = .ok (.ifCond .ne 19, 3) := by decide +kernel
theorem dX4_handle_352 : decode cX4_handle 352 = .ok (.aload_n 0, 1) := by decide +kernel
theorem dX4_handle_353 : decode cX4_handle 353 = .ok (.iload_n 1, 1) := by decide +kernel
theorem dX4_handle_354 : decode cX4_handle 354 = .ok (.iload_n 2, 1) := by decide +kernel
theorem dX4_handle_355 : decode cX4_handle 355 = .ok (.bipush 9, 2) := by decide +kernel
theorem dX4_handle_357 : decode cX4_handle 357 = .ok (.if_icmp .ne 7, 3) := by decide +kernel
theorem dX4_handle_360 : decode cX4_handle 360 = .ok (.iconst 4, 1) := by decide +kernel
theorem dX4_handle_361 : decode cX4_handle 361 = .ok (.goto 4, 3) := by decide +kernel
theorem dX4_handle_364 : decode cX4_handle 364 = .ok (.iconst 5, 1) := by decide +kernel
theorem dX4_handle_365 : decode cX4_handle 365 = .ok (.invokevirtual 116, 3) := by decide +kernel
theorem dX4_handle_368 : decode cX4_handle 368 = .ok (.return_, 1) := by decide +kernel
theorem dX4_prepare_0 : decode cX4_prepare 0 = .ok (.aload_n 0, 1) := by decide +kernel
theorem dX4_prepare_1 : decode cX4_prepare 1 = .ok (.iload_n 1, 1) := by decide +kernel
theorem dX4_prepare_2 : decode cX4_prepare 2 = .ok (.invokevirtual 147, 3) := by decide +kernel
theorem dX4_prepare_5 : decode cX4_prepare 5 = .ok (.ifCond .eq 29, 3) := by decide +kernel
theorem dX4_prepare_8 : decode cX4_prepare 8 = .ok (.aload_n 0, 1) := by decide +kernel
theorem dX4_prepare_9 : decode cX4_prepare 9 = .ok (.aload_n 0, 1) := by decide +kernel
theorem dX4_prepare_10 : decode cX4_prepare 10 = .ok (.getfield 20, 3) := by decide +kernel
theorem dX4_prepare_13 : decode cX4_prepare 13 = .ok (.iload_n 1, 1) := by decide +kernel
theorem dX4_prepare_14 : decode cX4_prepare 14 = .ok (.iaload, 1) := by decide +kernel
theorem dX4_prepare_15 : decode cX4_prepare 15 = .ok (.iconst 4, 1) := by decide +kernel
theorem dX4_prepare_16 : decode cX4_prepare 16 = .ok (.if_icmp .ne 8, 3) := by decide +kernel
theorem dX4_prepare_19 : decode cX4_prepare 19 = .ok (.bipush 9, 2) := by decide +kernel
theorem dX4_prepare_21 : decode cX4_prepare 21 = .ok (.goto 5, 3) := by decide +kernel
theorem dX4_prepare_24 : decode cX4_prepare 24 = .ok (.bipush 10, 2) := by decide +kernel
theorem dX4_prepare_26 : decode cX4_prepare 26 = .ok (.iload_n 1, 1) := by decide +kernel
theorem dX4_prepare_27 : decode cX4_prepare 27 = .ok (.iload_n 2, 1) := by decide +kernel
theorem dX4_prepare_28 : decode cX4_prepare 28 = .ok (.iconst 0, 1) := by decide +kernel
theorem dX4_prepare_29 : decode cX4_prepare 29 = .ok (.iconst 0, 1) := by decide +kernel
theorem dX4_prepare_30 : decode cX4_prepare 30 = .ok (.invokevirtual 112, 3) := by decide +kernel
theorem dX4_prepare_33 : decode cX4_prepare 33 = .ok (.return_, 1) := by decide +kernel
theorem dX4_prepare_34 : decode cX4_prepare 34 = .ok (.aload_n 0, 1) := by decide +kernel
theorem dX4_prepare_35 : decode cX4_prepare 35 = .ok (.iload_n 1, 1) := by decide +kernel
theorem dX4_prepare_36 : decode cX4_prepare 36 = .ok (.iload_n 2, 1) := by decide +kernel
theorem dX4_prepare_37 : decode cX4_prepare 37 = .ok (.invokevirtual 153, 3) := by decide +kernel
theorem dX4_prepare_40 : decode cX4_prepare 40 = .ok (.aload_n 0, 1) := by decide +kernel
theorem dX4_prepare_41 : decode cX4_prepare 41 = .ok (.getfield 20, 3) := by decide +kernel
theorem dX4_prepare_44 : decode cX4_prepare 44 = .ok (.iload_n 1, 1) := by decide +kernel
theorem dX4_prepare_45 : decode cX4_prepare 45 = .ok (.iaload, 1) := by decide +kernel
theorem dX4_prepare_46 : decode cX4_prepare 46 = .ok (.iconst 1, 1) := by decide +kernel
theorem dX4_prepare_47 : decode cX4_prepare 47 = .ok (.if_icmp .ne 10, 3) := by decide +kernel
theorem dX4_prepare_50 : decode cX4_prepare 50 = .ok (.aload_n 0, 1) := by decide +kernel
theorem dX4_prepare_51 : decode cX4_prepare 51 = .ok (.iload_n 1, 1) := by decide +kernel
theorem dX4_prepare_52 : decode cX4_prepare 52 = .ok (.iload 4, 2) := by decide +kernel
theorem dX4_prepare_54 : decode cX4_prepare 54 = .ok (.invokevirtual 116, 3) := by decide +kernel
theorem dX4_prepare_57 : decode cX4_prepare 57 = .ok (.aload_n 0, 1) := by decide +kernel
theorem dX4_prepare_58 : decode cX4_prepare 58 = .ok (.getfield 20, 3) := by decide +kernel
theorem dX4_prepare_61 : decode cX4_prepare 61 = .ok (.iload_n 1, 1) := by decide +kernel
theorem dX4_prepare_62 : decode cX4_prepare 62 = .ok (.iaload, 1) := by decide +kernel
theorem dX4_prepare_63 : decode cX4_prepare 63 = .ok (.iload 4, 2) := by decide +kernel
theorem dX4_prepare_65 : decode cX4_prepare 65 = .ok (.if_icmp .ne 13, 3) := by decide +kernel
theorem dX4_prepare_68 : decode cX4_prepare 68 = .ok (.aload_n 0, 1) := by decide +kernel
theorem dX4_prepare_69 : decode cX4_prepare 69 = .ok (.bipush 8, 2) := by decide +kernel
theorem dX4_prepare_71 : decode cX4_prepare 71 = .ok (.iload_n 1, 1) := by decide +kernel
theorem dX4_prepare_72 : decode cX4_prepare 72 = .ok (.iload_n 2, 1) := by decide +kernel
theorem dX4_prepare_73 : decode cX4_prepare 73 = .ok (.iload_n 3, 1) := by decide +kernel
theorem dX4_prepare_74 : decode cX4_prepare 74 = .ok (.iconst 0, 1) := by decide +kernel
theorem dX4_prepare_75 : decode cX4_prepare 75 = .ok (.invokevirtual 112, 3) := by decide +kernel
theorem dX4_prepare_78 : decode cX4_prepare 78 = .ok (.return_, 1) := by decide +kernel
theorem dX4_weightOf_0 : decode cX4_weightOf 0 = .ok (.iconst 0, 1) := by decide +kernel
theorem dX4_weightOf_1 : decode cX4_weightOf 1 = .ok (.istore_n 3, 1) := by decide +kernel
theorem dX4_weightOf_2 : decode cX4_weightOf 2 = .ok (.iconst 0, 1) := by decide +kernel
theorem dX4_weightOf_3 : decode cX4_weightOf 3 = .ok (.istore 4, 2) := by decide +kernel
theorem dX4_weightOf_5 : decode cX4_weightOf 5 = .ok (.iload 4, 2) := by decide +kernel
theorem dX4_weightOf_7 : decode cX4_weightOf 7 = .ok (.aload_n 0, 1) := by decide +kernel
theorem dX4_weightOf_8 : decode cX4_weightOf 8 = .ok (.getfield 76, 3) := by decide +kernel
theorem dX4_weightOf_11 : decode cX4_weightOf 11 = .ok (.if_icmp .ge 51, 3) := by decide +kernel
theorem dX4_weightOf_14 : decode cX4_weightOf 14 = .ok (.aload_n 0, 1) := by decide +kernel
theorem dX4_weightOf_15 : decode cX4_weightOf 15 = .ok (.getfield 39, 3) := by decide +kernel
theorem dX4_weightOf_18 : decode cX4_weightOf 18 = .ok (.bipush 8, 2) := by decide +kernel
theorem dX4_weightOf_20 : decode cX4_weightOf 20 = .ok (.iload_n 1, 1) := by decide +kernel
theorem dX4_weightOf_21 : decode cX4_weightOf 21 = .ok (.imul, 1) := by decide +kernel
theorem dX4_weightOf_22 : decode cX4_weightOf 22 = .ok (.iload 4, 2) := by decide +kernel
theorem dX4_weightOf_24 : decode cX4_weightOf 24 = .ok (.iadd, 1) := by decide +kernel
theorem dX4_weightOf_25 : decode cX4_weightOf 25 = .ok (.iaload, 1) := by decide +kernel
theorem dX4_weightOf_26 : decode cX4_weightOf 26 = .ok (.iconst 1, 1) := by decide +kernel
theorem dX4_weightOf_27 : decode cX4_weightOf 27 = .ok (.isub, 1) := by decide +kernel
theorem dX4_weightOf_28 : decode cX4_weightOf 28 = .ok (.istore 5, 2) := by decide +kernel
theorem dX4_weightOf_30 : decode cX4_weightOf 30 = .ok (.iload 5, 2) := by decide +kernel
theorem dX4_weightOf_32 : decode cX4_weightOf 32 = .ok (.iconst 1, 1) := by decide +kernel
theorem dX4_weightOf_33 : decode cX4_weightOf 33 = .ok (.if_icmp .eq 9, 3) := by decide +kernel
theorem dX4_weightOf_36 : decode cX4_weightOf 36 = .ok (.iload 5, 2) := by decide +kernel
theorem dX4_weightOf_38 : decode cX4_weightOf 38 = .ok (.iload_n 2, 1) := by decide +kernel
theorem dX4_weightOf_39 : decode cX4_weightOf 39 = .ok (.if_icmp .ne 15, 3) := by decide +kernel
theorem dX4_weightOf_42 : decode cX4_weightOf 42 = .ok (.iload_n 3, 1) := by decide +kernel
theorem dX4_weightOf_43 : decode cX4_weightOf 43 = .ok (.aload_n 0, 1) := by decide +kernel
theorem dX4_weightOf_44 : decode cX4_weightOf 44 = .ok (.getfield 7, 3) := by decide +kernel
theorem dX4_weightOf_47 : decode cX4_weightOf 47 = .ok (.iload 4, 2) := by decide +kernel
theorem dX4_weightOf_49 : decode cX4_weightOf 49 = .ok (.iaload, 1) := by decide +kernel
theorem dX4_weightOf_50 : decode cX4_weightOf 50 = .ok (.iadd, 1) := by decide +kernel
theorem dX4_weightOf_51 : decode cX4_weightOf 51 = .ok (.goto 4, 3) := by decide +kernel
theorem dX4_weightOf_54 : decode cX4_weightOf 54 = .ok (.iload_n 3, 1) := by decide +kernel
theorem dX4_weightOf_55 : decode cX4_weightOf 55 = .ok (.istore_n 3, 1) := by decide +kernel
theorem dX4_weightOf_56 : decode cX4_weightOf 56 = .ok (.iinc 4 1, 3) := by decide +kernel
theorem dX4_weightOf_59 : decode cX4_weightOf 59 = .ok (.goto (-54), 3) := by decide +kernel
theorem dX4_weightOf_62 : decode cX4_weightOf 62 = .ok (.iload_n 3, 1) := by decide +kernel
theorem dX4_weightOf_63 : decode cX4_weightOf 63 = .ok (.ireturn, 1) := by decide +kernel
theorem dX4_ring_0 : decode cX4_ring 0 = .ok (.aload_n 0, 1) := by decide +kernel
theorem dX4_ring_1 : decode cX4_ring 1 = .ok (.getfield 42, 3) := by decide +kernel
theorem dX4_ring_4 : decode cX4_ring 4 = .ok (.iload_n 1, 1) := by decide +kernel
theorem dX4_ring_5 : decode cX4_ring 5 = .ok (.iconst (-1), 1) := by decide +kernel
theorem dX4_ring_6 : decode cX4_ring 6 = .ok (.iastore, 1) := by decide +kernel
theorem dX4_ring_7 : decode cX4_ring 7 = .ok (.aload_n 0, 1) := by decide +kernel
theorem dX4_ring_8 : decode cX4_ring 8 = .ok (.getfield 33, 3) := by decide +kernel
theorem dX4_ring_11 : decode cX4_ring 11 = .ok (.iload_n 1, 1) := by decide +kernel
theorem dX4_ring_12 : decode cX4_ring 12 = .ok (.iaload, 1) := by decide +kernel
theorem dX4_ring_13 : decode cX4_ring 13 = .ok (.iconst 1, 1) := by decide +kernel
theorem dX4_ring_14 : decode cX4_ring 14 = .ok (.if_icmp .ne 12, 3) := by decide +kernel
theorem dX4_ring_17 : decode cX4_ring 17 = .ok (.aload_n 0, 1) := by decide +kernel
theorem dX4_ring_18 : decode cX4_ring 18 = .ok (.iload_n 1, 1) := by decide +kernel
theorem dX4_ring_19 : decode cX4_ring 19 = .ok (.iconst 5, 1) := by decide +kernel
theorem dX4_ring_20 : decode cX4_ring 20 = .ok (.invokevirtual 141, 3) := by decide +kernel
theorem dX4_ring_23 : decode cX4_ring 23 = .ok (.goto 130, 3) := by decide +kernel
theorem dX4_ring_26 : decode cX4_ring 26 = .ok (.aload_n 0, 1) := by decide +kernel
theorem dX4_ring_27 : decode cX4_ring 27 = .ok (.getfield 33, 3) := by decide +kernel
theorem dX4_ring_30 : decode cX4_ring 30 = .ok (.iload_n 1, 1) := by decide +kernel
theorem dX4_ring_31 : decode cX4_ring 31 = .ok (.iaload, 1) := by decide +kernel
theorem dX4_ring_32 : decode cX4_ring 32 = .ok (.iconst 3, 1) := by decide +kernel
theorem dX4_ring_33 : decode cX4_ring 33 = .ok (.if_icmp .eq 11, 3) := by decide +kernel
theorem dX4_ring_36 : decode cX4_ring 36 = .ok (.aload_n 0, 1) := by decide +kernel
theorem dX4_ring_37 : decode cX4_ring 37 = .ok (.iload_n 1, 1) := by decide +kernel
theorem dX4_ring_38 : decode cX4_ring 38 = .ok (.invokevirtual 150, 3) := by decide +kernel
theorem dX4_ring_41 : decode cX4_ring 41 = .ok (.goto 112, 3) := by decide +kernel
theorem dX4_ring_44 : decode cX4_ring 44 = .ok (.iconst 0, 1) := by decide +kernel
theorem dX4_ring_45 : decode cX4_ring 45 = .ok (.istore_n 2, 1) := by decide +kernel
theorem dX4_ring_46 : decode cX4_ring 46 = .ok (.iconst 0, 1) := by decide +kernel
theorem dX4_ring_47 : decode cX4_ring 47 = .ok (.istore_n 3, 1) := by decide +kernel
theorem dX4_ring_48 : decode cX4_ring 48 = .ok (.iload_n 3, 1) := by decide +kernel
theorem dX4_ring_49 : decode cX4_ring 49 = .ok (.aload_n 0, 1) := by decide +kernel
theorem dX4_ring_50 : decode cX4_ring 50 = .ok (.getfield 76, 3) := by decide +kernel
theorem dX4_ring_53 : decode cX4_ring 53 = .ok (.if_icmp .ge 34, 3) := by decide +kernel
theorem dX4_ring_56 : decode cX4_ring 56 = .ok (.iload_n 2, 1) := by decide +kernel
theorem dX4_ring_57 : decode cX4_ring 57 = .ok (.ifCond .ne 18, 3) := by decide +kernel
theorem dX4_ring_60 : decode cX4_ring 60 = .ok (.aload_n 0, 1) := by decide +kernel
theorem dX4_ring_61 : decode cX4_ring 61 = .ok (.getfield 39, 3) := by decide +kernel
theorem dX4_ring_64 : decode cX4_ring 64 = .ok (.bipush 8, 2) := by decide +kernel
theorem dX4_ring_66 : decode cX4_ring 66 = .ok (.iload_n 1, 1) := by decide +kernel
theorem dX4_ring_67 : decode cX4_ring 67 = .ok (.imul, 1) := by decide +kernel
theorem dX4_ring_68 : decode cX4_ring 68 = .ok (.iload_n 3, 1) := by decide +kernel
theorem dX4_ring_69 : decode cX4_ring 69 = .ok (.iadd, 1) := by decide +kernel
theorem dX4_ring_70 : decode cX4_ring 70 = .ok (.iaload, 1) := by decide +kernel
theorem dX4_ring_71 : decode cX4_ring 71 = .ok (.iconst 3, 1) := by decide +kernel
theorem dX4_ring_72 : decode cX4_ring 72 = .ok (.if_icmp .ne 7, 3) := by decide +kernel
theorem dX4_ring_75 : decode cX4_ring 75 = .ok (.iconst 1, 1) := by decide +kernel
theorem dX4_ring_76 : decode cX4_ring 76 = .ok (.goto 4, 3) := by decide +kernel
theorem dX4_ring_79 : decode cX4_ring 79 = .ok (.iconst 0, 1) := by decide +kernel
theorem dX4_ring_80 : decode cX4_ring 80 = .ok (.istore_n 2, 1) := by decide +kernel
theorem dX4_ring_81 : decode cX4_ring 81 = .ok (.iinc 3 1, 3) := by decide +kernel
theorem dX4_ring_84 : decode cX4_ring 84 = .ok (.goto (-36), 3) := by decide +kernel
theorem dX4_ring_87 : decode cX4_ring 87 = .ok (.iload_n 2, 1) := by decide +kernel
theorem dX4_ring_88 : decode cX4_ring 88 = .ok (.ifCond .eq 25, 3) := by decide +kernel
theorem dX4_ring_91 : decode cX4_ring 91 = .ok (.aload_n 0, 1) := by decide +kernel
theorem dX4_ring_92 : decode cX4_ring 92 = .ok (.iload_n 1, 1) := by decide +kernel
theorem dX4_ring_93 : decode cX4_ring 93 = .ok (.iconst 2, 1) := by decide +kernel
theorem dX4_ring_94 : decode cX4_ring 94 = .ok (.invokevirtual 160, 3) := by decide +kernel
theorem dX4_ring_97 : decode cX4_ring 97 = .ok (.aload_n 0, 1) := by decide +kernel
theorem dX4_ring_98 : decode cX4_ring 98 = .ok (.getfield 87, 3) := by decide +kernel
theorem dX4_ring_101 : decode cX4_ring 101 = .ok (.if_icmp .lt 12, 3) := by decide +kernel
theorem dX4_ring_104 : decode cX4_ring 104 = .ok (.aload_n 0, 1) := by decide +kernel
theorem dX4_ring_105 : decode cX4_ring 105 = .ok (.iload_n 1, 1) := by decide +kernel
theorem dX4_ring_106 : decode cX4_ring 106 = .ok (.iconst 2, 1) := by decide +kernel
theorem dX4_ring_107 : decode cX4_ring 107 = .ok (.invokevirtual 124, 3) := by decide +kernel
theorem dX4_ring_110 : decode cX4_ring 110 = .ok (.goto 43, 3) := by decide +kernel
theorem dX4_ring_113 : decode cX4_ring 113 = .ok (.aload_n 0, 1) := by decide +kernel
theorem dX4_ring_114 : decode cX4_ring 114 = .ok (.iload_n 1, 1) := by decide +kernel
theorem dX4_ring_115 : decode cX4_ring 115 = .ok (.iconst 3, 1) := by decide +kernel
theorem dX4_ring_116 : decode cX4_ring 116 = .ok (.invokevirtual 160, 3) := by decide +kernel
theorem dX4_ring_119 : decode cX4_ring 119 = .ok (.aload_n 0, 1) := by decide +kernel
theorem dX4_ring_120 : decode cX4_ring 120 = .ok (.getfield 90, 3) := by decide +kernel
theorem dX4_ring_123 : decode cX4_ring 123 = .ok (.if_icmp .lt 12, 3) := by decide +kernel
theorem dX4_ring_126 : decode cX4_ring 126 = .ok (.aload_n 0, 1) := by decide +kernel
theorem dX4_ring_127 : decode cX4_ring 127 = .ok (.iload_n 1, 1) := by decide +kernel
theorem dX4_ring_128 : decode cX4_ring 128 = .ok (.iconst 3, 1) := by decide +kernel
theorem dX4_ring_129 : decode cX4_ring 129 = .ok (.invokevirtual 124, 3) := by decide +kernel
theorem dX4_ring_132 : decode cX4_ring 132 = .ok (.goto 21, 3) := by decide +kernel
theorem dX4_ring_135 : decode cX4_ring 135 = .ok (.aload_n 0, 1) := by decide +kernel
theorem dX4_ring_136 : decode cX4_ring 136 = .ok (.getfield 33, 3) := by decide +kernel
theorem dX4_ring_139 : decode cX4_ring 139 = .ok (.iload_n 1, 1) := by decide +kernel
theorem dX4_ring_140 : decode cX4_ring 140 = .ok (.iconst 0, 1) := by decide +kernel
theorem dX4_ring_141 : decode cX4_ring 141 = .ok (.iastore, 1) := by decide +kernel
theorem dX4_ring_142 : decode cX4_ring 142 = .ok (.aload_n 0, 1) := by decide +kernel
theorem dX4_ring_143 : decode cX4_ring 143 = .ok (.iload_n 1, 1) := by decide +kernel
theorem dX4_ring_144 : decode cX4_ring 144 = .ok (.aload_n 0, 1) := by decide +kernel
theorem dX4_ring_145 : decode cX4_ring 145 = .ok (.getfield 13, 3) := by decide +kernel
theorem dX4_ring_148 : decode cX4_ring 148 = .ok (.iload_n 1, 1) := by decide +kernel
theorem dX4_ring_149 : decode cX4_ring 149 = .ok (.iadd, 1) := by decide +kernel
theorem dX4_ring_150 : decode cX4_ring 150 = .ok (.invokevirtual 130, 3) := by decide +kernel
theorem dX4_ring_153 : decode cX4_ring 153 = .ok (.return_, 1) := by decide +kernel
theorem dX4_findNext_0 : decode cX4_findNext 0 = .ok (.aload_n 0, 1) := by decide +kernel
theorem dX4_findNext_1 : decode cX4_findNext 1 = .ok (.iconst (-1), 1) := by decide +kernel
theorem dX4_findNext_2 : decode cX4_findNext 2 = .ok (.putfield 164, 3) := by decide +kernel
theorem dX4_findNext_5 : decode cX4_findNext 5 = .ok (.aload_n 0, 1) := by decide +kernel
theorem dX4_findNext_6 : decode cX4_findNext 6 = .ok (.iconst 0, 1) := by decide +kernel
theorem dX4_findNext_7 : decode cX4_findNext 7 = .ok (.putfield 167, 3) := by decide +kernel
theorem dX4_findNext_10 : decode cX4_findNext 10 = .ok (.iconst 0, 1) := by decide +kernel
theorem dX4_findNext_11 : decode cX4_findNext 11 = .ok (.istore_n 1, 1) := by decide +kernel
theorem dX4_findNext_12 : decode cX4_findNext 12 = .ok (.iconst 0, 1) := by decide +kernel
theorem dX4_findNext_13 : decode cX4_findNext 13 = .ok (.istore_n 2, 1) := by decide +kernel
theorem dX4_findNext_14 : decode cX4_findNext 14 = .ok (.iload_n 2, 1) := by decide +kernel
theorem dX4_findNext_15 : decode cX4_findNext 15 = .ok (.aload_n 0, 1) := by decide +kernel
theorem dX4_findNext_16 : decode cX4_findNext 16 = .ok (.getfield 103, 3) := by decide +kernel
theorem dX4_findNext_19 : decode cX4_findNext 19 = .ok (.if_icmp .ge 75, 3) := by decide +kernel
theorem dX4_findNext_22 : decode cX4_findNext 22 = .ok (.aload_n 0, 1) := by decide +kernel
theorem dX4_findNext_23 : decode cX4_findNext 23 = .ok (.getfield 164, 3) := by decide +kernel
theorem dX4_findNext_26 : decode cX4_findNext 26 = .ok (.iconst (-1), 1) := by decide +kernel
theorem dX4_findNext_27 : decode cX4_findNext 27 = .ok (.if_icmp .eq 39, 3) := by decide +kernel
theorem dX4_findNext_30 : decode cX4_findNext 30 = .ok (.aload_n 0, 1) := by decide +kernel
theorem dX4_findNext_31 : decode cX4_findNext 31 = .ok (.getfield 64, 3) := by decide +kernel
theorem dX4_findNext_34 : decode cX4_findNext 34 = .ok (.iload_n 2, 1) := by decide +kernel
theorem dX4_findNext_35 : decode cX4_findNext 35 = .ok (.iaload, 1) := by decide +kernel
theorem dX4_findNext_36 : decode cX4_findNext 36 = .ok (.aload_n 0, 1) := by decide +kernel
theorem dX4_findNext_37 : decode cX4_findNext 37 = .ok (.getfield 167, 3) := by decide +kernel
theorem dX4_findNext_40 : decode cX4_findNext 40 = .ok (.if_icmp .lt 26, 3) := by decide +kernel
theorem dX4_findNext_43 : decode cX4_findNext 43 = .ok (.aload_n 0, 1) := by decide +kernel
theorem dX4_findNext_44 : decode cX4_findNext 44 = .ok (.getfield 64, 3) := by decide +kernel
theorem dX4_findNext_47 : decode cX4_findNext 47 = .ok (.iload_n 2, 1) := by decide +kernel
theorem dX4_findNext_48 : decode cX4_findNext 48 = .ok (.iaload, 1) := by decide +kernel
theorem dX4_findNext_49 : decode cX4_findNext 49 = .ok (.aload_n 0, 1) := by decide +kernel
theorem dX4_findNext_50 : decode cX4_findNext 50 = .ok (.getfield 167, 3) := by decide +kernel
theorem dX4_findNext_53 : decode cX4_findNext 53 = .ok (.if_icmp .ne 35, 3) := by decide +kernel
theorem dX4_findNext_56 : decode cX4_findNext 56 = .ok (.aload_n 0, 1) := by decide +kernel
theorem dX4_findNext_57 : decode cX4_findNext 57 = .ok (.getfield 67, 3) := by decide +kernel
theorem dX4_findNext_60 : decode cX4_findNext 60 = .ok (.iload_n 2, 1) := by decide +kernel
theorem dX4_findNext_61 : decode cX4_findNext 61 = .ok (.iaload, 1) := by decide +kernel
theorem dX4_findNext_62 : decode cX4_findNext 62 = .ok (.iload_n 1, 1) := by decide +kernel
theorem dX4_findNext_63 : decode cX4_findNext 63 = .ok (.if_icmp .ge 25, 3) := by decide +kernel
theorem dX4_findNext_66 : decode cX4_findNext 66 = .ok (.aload_n 0, 1) := by decide +kernel
theorem dX4_findNext_67 : decode cX4_findNext 67 = .ok (.iload_n 2, 1) := by decide +kernel
theorem dX4_findNext_68 : decode cX4_findNext 68 = .ok (.putfield 164, 3) := by decide +kernel
theorem dX4_findNext_71 : decode cX4_findNext 71 = .ok (.aload_n 0, 1) := by decide +kernel
theorem dX4_findNext_72 : decode cX4_findNext 72 = .ok (.aload_n 0, 1) := by decide +kernel
theorem dX4_findNext_73 : decode cX4_findNext 73 = .ok (.getfield 64, 3) := by decide +kernel
theorem dX4_findNext_76 : decode cX4_findNext 76 = .ok (.iload_n 2, 1) := by decide +kernel
theorem dX4_findNext_77 : decode cX4_findNext 77 = .ok (.iaload, 1) := by decide +kernel
theorem dX4_findNext_78 : decode cX4_findNext 78 = .ok (.putfield 167, 3) := by decide +kernel
theorem dX4_findNext_81 : decode cX4_findNext 81 = .ok (.aload_n 0, 1) := by decide +kernel
theorem dX4_findNext_82 : decode cX4_findNext 82 = .ok (.getfield 67, 3) := by decide +kernel
theorem dX4_findNext_85 : decode cX4_findNext 85 = .ok (.iload_n 2, 1) := by decide +kernel
theorem dX4_findNext_86 : decode cX4_findNext 86 = .ok (.iaload, 1) := by decide +kernel
theorem dX4_findNext_87 : decode cX4_findNext 87 = .ok (.istore_n 1, 1) := by decide +kernel
theorem dX4_findNext_88 : decode cX4_findNext 88 = .ok (.iinc 2 1, 3) := by decide +kernel
theorem dX4_findNext_91 : decode cX4_findNext 91 = .ok (.goto (-77), 3) := by decide +kernel
theorem dX4_findNext_94 : decode cX4_findNext 94 = .ok (.iconst 0, 1) := by decide +kernel
theorem dX4_findNext_95 : decode cX4_findNext 95 = .ok (.istore_n 2, 1) := by decide +kernel
theorem dX4_findNext_96 : decode cX4_findNext 96 = .ok (.iload_n 2, 1) := by decide +kernel
theorem dX4_findNext_97 : decode cX4_findNext 97 = .ok (.aload_n 0, 1) := by decide +kernel
theorem dX4_findNext_98 : decode cX4_findNext 98 = .ok (.getfield 76, 3) := by decide +kernel
theorem dX4_findNext_101 : decode cX4_findNext 101 = .ok (.if_icmp .ge 97, 3) := by decide +kernel
theorem dX4_findNext_104 : decode cX4_findNext 104 = .ok (.aload_n 0, 1) := by decide +kernel
theorem dX4_findNext_105 : decode cX4_findNext 105 = .ok (.getfield 164, 3) := by decide +kernel
theorem dX4_findNext_108 : decode cX4_findNext 108 = .ok (.iconst (-1), 1) := by decide +kernel
theorem dX4_findNext_109 : decode cX4_findNext 109 = .ok (.if_icmp .eq 39, 3) := by decide +kernel
theorem dX4_findNext_112 : decode cX4_findNext 112 = .ok (.aload_n 0, 1) := by decide +kernel
theorem dX4_findNext_113 : decode cX4_findNext 113 = .ok (.getfield 42, 3) := by decide +kernel
theorem dX4_findNext_116 : decode cX4_findNext 116 = .ok (.iload_n 2, 1) := by decide +kernel
theorem dX4_findNext_117 : decode cX4_findNext 117 = .ok (.iaload, 1) := by decide +kernel
theorem dX4_findNext_118 : decode cX4_findNext 118 = .ok (.aload_n 0, 1) := by decide +kernel
theorem dX4_findNext_119 : decode cX4_findNext 119 = .ok (.getfield 167, 3) := by decide +kernel
theorem dX4_findNext_122 : decode cX4_findNext 122 = .ok (.if_icmp .lt 26, 3) := by decide +kernel
theorem dX4_findNext_125 : decode cX4_findNext 125 = .ok (.aload_n 0, 1) := by decide +kernel
theorem dX4_findNext_126 : decode cX4_findNext 126 = .ok (.getfield 42, 3) := by decide +kernel
theorem dX4_findNext_129 : decode cX4_findNext 129 = .ok (.iload_n 2, 1) := by decide +kernel
theorem dX4_findNext_130 : decode cX4_findNext 130 = .ok (.iaload, 1) := by decide +kernel
theorem dX4_findNext_131 : decode cX4_findNext 131 = .ok (.aload_n 0, 1) := by decide +kernel
theorem dX4_findNext_132 : decode cX4_findNext 132 = .ok (.getfield 167, 3) := by decide +kernel
theorem dX4_findNext_135 : decode cX4_findNext 135 = .ok (.if_icmp .ne 17, 3) := by decide +kernel
theorem dX4_findNext_138 : decode cX4_findNext 138 = .ok (.aload_n 0, 1) := by decide +kernel
theorem dX4_findNext_139 : decode cX4_findNext 139 = .ok (.getfield 45, 3) := by decide +kernel
theorem dX4_findNext_142 : decode cX4_findNext 142 = .ok (.iload_n 2, 1) := by decide +kernel
theorem dX4_findNext_143 : decode cX4_findNext 143 = .ok (.iaload, 1) := by decide +kernel
theorem dX4_findNext_144 : decode cX4_findNext 144 = .ok (.iload_n 1, 1) := by decide +kernel
theorem dX4_findNext_145 : decode cX4_findNext 145 = .ok (.if_icmp .ge 7, 3) := by decide +kernel
theorem dX4_findNext_148 : decode cX4_findNext 148 = .ok (.iconst 1, 1) := by decide +kernel
theorem dX4_findNext_149 : decode cX4_findNext 149 = .ok (.goto 4, 3) := by decide +kernel
theorem dX4_findNext_152 : decode cX4_findNext 152 = .ok (.iconst 0, 1) := by decide +kernel
theorem dX4_findNext_153 : decode cX4_findNext 153 = .ok (.istore_n 3, 1) := by decide +kernel
theorem dX4_findNext_154 : decode cX4_findNext 154 = .ok (.aload_n 0, 1) := by decide +kernel
theorem dX4_findNext_155 : decode cX4_findNext 155 = .ok (.getfield 42, 3) := by decide +kernel
theorem dX4_findNext_158 : decode cX4_findNext 158 = .ok (.iload_n 2, 1) := by decide +kernel
theorem dX4_findNext_159 : decode cX4_findNext 159 = .ok (.iaload, 1) := by decide +kernel
theorem dX4_findNext_160 : decode cX4_findNext 160 = .ok (.ifCond .lt 32, 3) := by decide +kernel
theorem dX4_findNext_163 : decode cX4_findNext 163 = .ok (.iload_n 3, 1) := by decide +kernel
theorem dX4_findNext_164 : decode cX4_findNext 164 = .ok (.ifCond .eq 28, 3) := by decide +kernel
theorem dX4_findNext_167 : decode cX4_findNext 167 = .ok (.aload_n 0, 1) := by decide +kernel
theorem dX4_findNext_168 : decode cX4_findNext 168 = .ok (.bipush (-2), 2) := by decide +kernel
theorem dX4_findNext_170 : decode cX4_findNext 170 = .ok (.iload_n 2, 1) := by decide +kernel
theorem dX4_findNext_171 : decode cX4_findNext 171 = .ok (.isub, 1) := by decide +kernel
theorem dX4_findNext_172 : decode cX4_findNext 172 = .ok (.putfield 164, 3) := by decide +kernel
theorem dX4_findNext_175 : decode cX4_findNext 175 = .ok (.aload_n 0, 1) := by decide +kernel
theorem dX4_findNext_176 : decode cX4_findNext 176 = .ok (.aload_n 0, 1) := by decide +kernel
theorem dX4_findNext_177 : decode cX4_findNext 177 = .ok (.getfield 42, 3) := by decide +kernel
theorem dX4_findNext_180 : decode cX4_findNext 180 = .ok (.iload_n 2, 1) := by decide +kernel
theorem dX4_findNext_181 : decode cX4_findNext 181 = .ok (.iaload, 1) := by decide +kernel
theorem dX4_findNext_182 : decode cX4_findNext 182 = .ok (.putfield 167, 3) := by decide +kernel
theorem dX4_findNext_185 : decode cX4_findNext 185 = .ok (.aload_n 0, 1) := by decide +kernel
theorem dX4_findNext_186 : decode cX4_findNext 186 = .ok (.getfield 45, 3) := by decide +kernel
theorem dX4_findNext_189 : decode cX4_findNext 189 = .ok (.iload_n 2, 1) := by decide +kernel
theorem dX4_findNext_190 : decode cX4_findNext 190 = .ok (.iaload, 1) := by decide +kernel
theorem dX4_findNext_191 : decode cX4_findNext 191 = .ok (.istore_n 1, 1) := by decide +kernel
theorem dX4_findNext_192 : decode cX4_findNext 192 = .ok (.iinc 2 1, 3) := by decide +kernel
theorem dX4_findNext_195 : decode cX4_findNext 195 = .ok (.goto (-99), 3) := by decide +kernel
theorem dX4_findNext_198 : decode cX4_findNext 198 = .ok (.return_, 1) := by decide +kernel
theorem dX4_tell_0 : decode cX4_tell 0 = .ok (.aload_n 0, 1) := by decide +kernel
theorem dX4_tell_1 : decode cX4_tell 1 = .ok (.getfield 70, 3) := by decide +kernel
theorem dX4_tell_4 : decode cX4_tell 4 = .ok (.iconst 0, 1) := by decide +kernel
theorem dX4_tell_5 : decode cX4_tell 5 = .ok (.iload_n 1, 1) := by decide +kernel
theorem dX4_tell_6 : decode cX4_tell 6 = .ok (.iastore, 1) := by decide +kernel
theorem dX4_tell_7 : decode cX4_tell 7 = .ok (.aload_n 0, 1) := by decide +kernel
theorem dX4_tell_8 : decode cX4_tell 8 = .ok (.getfield 70, 3) := by decide +kernel
theorem dX4_tell_11 : decode cX4_tell 11 = .ok (.iconst 1, 1) := by decide +kernel
theorem dX4_tell_12 : decode cX4_tell 12 = .ok (.iload_n 2, 1) := by decide +kernel
theorem dX4_tell_13 : decode cX4_tell 13 = .ok (.iastore, 1) := by decide +kernel
theorem dX4_tell_14 : decode cX4_tell 14 = .ok (.aload_n 0, 1) := by decide +kernel
theorem dX4_tell_15 : decode cX4_tell 15 = .ok (.getfield 70, 3) := by decide +kernel
theorem dX4_tell_18 : decode cX4_tell 18 = .ok (.iconst 2, 1) := by decide +kernel
theorem dX4_tell_19 : decode cX4_tell 19 = .ok (.iload_n 3, 1) := by decide +kernel
theorem dX4_tell_20 : decode cX4_tell 20 = .ok (.iastore, 1) := by decide +kernel
theorem dX4_tell_21 : decode cX4_tell 21 = .ok (.aload_n 0, 1) := by decide +kernel
theorem dX4_tell_22 : decode cX4_tell 22 = .ok (.getfield 70, 3) := by decide +kernel
theorem dX4_tell_25 : decode cX4_tell 25 = .ok (.iconst 3, 1) := by decide +kernel
theorem dX4_tell_26 : decode cX4_tell 26 = .ok (.iload 4, 2) := by decide +kernel
theorem dX4_tell_28 : decode cX4_tell 28 = .ok (.iastore, 1) := by decide +kernel
theorem dX4_tell_29 : decode cX4_tell 29 = .ok (.aload_n 0, 1) := by decide +kernel
theorem dX4_tell_30 : decode cX4_tell 30 = .ok (.getfield 70, 3) := by decide +kernel
theorem dX4_tell_33 : decode cX4_tell 33 = .ok (.iconst 4, 1) := by decide +kernel
theorem dX4_tell_34 : decode cX4_tell 34 = .ok (.iload 5, 2) := by decide +kernel
theorem dX4_tell_36 : decode cX4_tell 36 = .ok (.iastore, 1) := by decide +kernel
theorem dX4_tell_37 : decode cX4_tell 37 = .ok (.return_, 1) := by decide +kernel
theorem dX4_take_0 : decode cX4_take 0 = .ok (.aload_n 0, 1) := by decide +kernel
theorem dX4_take_1 : decode cX4_take 1 = .ok (.aload_n 0, 1) := by decide +kernel
theorem dX4_take_2 : decode cX4_take 2 = .ok (.getfield 167, 3) := by decide +kernel
theorem dX4_take_5 : decode cX4_take 5 = .ok (.putfield 106, 3) := by decide +kernel
theorem dX4_take_8 : decode cX4_take 8 = .ok (.aload_n 0, 1) := by decide +kernel
theorem dX4_take_9 : decode cX4_take 9 = .ok (.getfield 164, 3) := by decide +kernel
theorem dX4_take_12 : decode cX4_take 12 = .ok (.ifCond .ge 38, 3) := by decide +kernel
theorem dX4_take_15 : decode cX4_take 15 = .ok (.bipush (-2), 2) := by decide +kernel
theorem dX4_take_17 : decode cX4_take 17 = .ok (.aload_n 0, 1) := by decide +kernel
theorem dX4_take_18 : decode cX4_take 18 = .ok (.getfield 164, 3) := by decide +kernel
theorem dX4_take_21 : decode cX4_take 21 = .ok (.isub, 1) := by decide +kernel
theorem dX4_take_22 : decode cX4_take 22 = .ok (.istore_n 1, 1) := by decide +kernel
theorem dX4_take_23 : decode cX4_take 23 = .ok (.aload_n 0, 1) := by decide +kernel
theorem dX4_take_24 : decode cX4_take 24 = .ok (.dup, 1) := by decide +kernel
theorem dX4_take_25 : decode cX4_take 25 = .ok (.getfield 170, 3) := by decide +kernel
theorem dX4_take_28 : decode cX4_take 28 = .ok (.iconst 1, 1) := by decide +kernel
theorem dX4_take_29 : decode cX4_take 29 = .ok (.iadd, 1) := by decide +kernel
theorem dX4_take_30 : decode cX4_take 30 = .ok (.putfield 170, 3) := by decide +kernel
theorem dX4_take_33 : decode cX4_take 33 = .ok (.aload_n 0, 1) := by decide +kernel
theorem dX4_take_34 : decode cX4_take 34 = .ok (.bipush 11, 2) := by decide +kernel
theorem dX4_take_36 : decode cX4_take 36 = .ok (.iload_n 1, 1) := by decide +kernel
theorem dX4_take_37 : decode cX4_take 37 = .ok (.iload_n 1, 1) := by decide +kernel
theorem dX4_take_38 : decode cX4_take 38 = .ok (.iconst 0, 1) := by decide +kernel
theorem dX4_take_39 : decode cX4_take 39 = .ok (.iconst 0, 1) := by decide +kernel
theorem dX4_take_40 : decode cX4_take 40 = .ok (.invokevirtual 173, 3) := by decide +kernel
theorem dX4_take_43 : decode cX4_take 43 = .ok (.aload_n 0, 1) := by decide +kernel
theorem dX4_take_44 : decode cX4_take 44 = .ok (.iload_n 1, 1) := by decide +kernel
theorem dX4_take_45 : decode cX4_take 45 = .ok (.invokevirtual 176, 3) := by decide +kernel
theorem dX4_take_48 : decode cX4_take 48 = .ok (.iconst 1, 1) := by decide +kernel
theorem dX4_take_49 : decode cX4_take 49 = .ok (.ireturn, 1) := by decide +kernel
theorem dX4_take_50 : decode cX4_take 50 = .ok (.aload_n 0, 1) := by decide +kernel
theorem dX4_take_51 : decode cX4_take 51 = .ok (.getfield 164, 3) := by decide +kernel
theorem dX4_take_54 : decode cX4_take 54 = .ok (.istore_n 1, 1) := by decide +kernel
theorem dX4_take_55 : decode cX4_take 55 = .ok (.aload_n 0, 1) := by decide +kernel
theorem dX4_take_56 : decode cX4_take 56 = .ok (.getfield 49, 3) := by decide +kernel
theorem dX4_take_59 : decode cX4_take 59 = .ok (.iload_n 1, 1) := by decide +kernel
theorem dX4_take_60 : decode cX4_take 60 = .ok (.iaload, 1) := by decide +kernel
theorem dX4_take_61 : decode cX4_take 61 = .ok (.istore_n 2, 1) := by decide +kernel
theorem dX4_take_62 : decode cX4_take 62 = .ok (.aload_n 0, 1) := by decide +kernel
theorem dX4_take_63 : decode cX4_take 63 = .ok (.getfield 52, 3) := by decide +kernel
theorem dX4_take_66 : decode cX4_take 66 = .ok (.iload_n 1, 1) := by decide +kernel
theorem dX4_take_67 : decode cX4_take 67 = .ok (.iaload, 1) := by decide +kernel
theorem dX4_take_68 : decode cX4_take 68 = .ok (.istore_n 3, 1) := by decide +kernel
theorem dX4_take_69 : decode cX4_take 69 = .ok (.aload_n 0, 1) := by decide +kernel
theorem dX4_take_70 : decode cX4_take 70 = .ok (.getfield 55, 3) := by decide +kernel
theorem dX4_take_73 : decode cX4_take 73 = .ok (.iload_n 1, 1) := by decide +kernel
theorem dX4_take_74 : decode cX4_take 74 = .ok (.iaload, 1) := by decide +kernel
theorem dX4_take_75 : decode cX4_take 75 = .ok (.istore 4, 2) := by decide +kernel
theorem dX4_take_77 : decode cX4_take 77 = .ok (.aload_n 0, 1) := by decide +kernel
theorem dX4_take_78 : decode cX4_take 78 = .ok (.getfield 58, 3) := by decide +kernel
theorem dX4_take_81 : decode cX4_take 81 = .ok (.iload_n 1, 1) := by decide +kernel
theorem dX4_take_82 : decode cX4_take 82 = .ok (.iaload, 1) := by decide +kernel
theorem dX4_take_83 : decode cX4_take 83 = .ok (.istore 5, 2) := by decide +kernel
theorem dX4_take_85 : decode cX4_take 85 = .ok (.aload_n 0, 1) := by decide +kernel
theorem dX4_take_86 : decode cX4_take 86 = .ok (.getfield 61, 3) := by decide +kernel
theorem dX4_take_89 : decode cX4_take 89 = .ok (.iload_n 1, 1) := by decide +kernel
theorem dX4_take_90 : decode cX4_take 90 = .ok (.iaload, 1) := by decide +kernel
theorem dX4_take_91 : decode cX4_take 91 = .ok (.istore 6, 2) := by decide +kernel
theorem dX4_take_93 : decode cX4_take 93 = .ok (.aload_n 0, 1) := by decide +kernel
theorem dX4_take_94 : decode cX4_take 94 = .ok (.dup, 1) := by decide +kernel
theorem dX4_take_95 : decode cX4_take 95 = .ok (.getfield 103, 3) := by decide +kernel
theorem dX4_take_98 : decode cX4_take 98 = .ok (.iconst 1, 1) := by decide +kernel
theorem dX4_take_99 : decode cX4_take 99 = .ok (.isub, 1) := by decide +kernel
theorem dX4_take_100 : decode cX4_take 100 = .ok (.putfield 103, 3) := by decide +kernel
theorem dX4_take_103 : decode cX4_take 103 = .ok (.aload_n 0, 1) := by decide +kernel
theorem dX4_take_104 : decode cX4_take 104 = .ok (.getfield 49, 3) := by decide +kernel
theorem dX4_take_107 : decode cX4_take 107 = .ok (.iload_n 1, 1) := by decide +kernel
theorem dX4_take_108 : decode cX4_take 108 = .ok (.aload_n 0, 1) := by decide +kernel
theorem dX4_take_109 : decode cX4_take 109 = .ok (.getfield 49, 3) := by decide +kernel
theorem dX4_take_112 : decode cX4_take 112 = .ok (.aload_n 0, 1) := by decide +kernel
theorem dX4_take_113 : decode cX4_take 113 = .ok (.getfield 103, 3) := by decide +kernel
theorem dX4_take_116 : decode cX4_take 116 = .ok (.iaload, 1) := by decide +kernel
theorem dX4_take_117 : decode cX4_take 117 = .ok (.iastore, 1) := by decide +kernel
theorem dX4_take_118 : decode cX4_take 118 = .ok (.aload_n 0, 1) := by decide +kernel
theorem dX4_take_119 : decode cX4_take 119 = .ok (.getfield 52, 3) := by decide +kernel
theorem dX4_take_122 : decode cX4_take 122 = .ok (.iload_n 1, 1) := by decide +kernel
theorem dX4_take_123 : decode cX4_take 123 = .ok (.aload_n 0, 1) := by decide +kernel
theorem dX4_take_124 : decode cX4_take 124 = .ok (.getfield 52, 3) := by decide +kernel
theorem dX4_take_127 : decode cX4_take 127 = .ok (.aload_n 0, 1) := by decide +kernel
theorem dX4_take_128 : decode cX4_take 128 = .ok (.getfield 103, 3) := by decide +kernel
theorem dX4_take_131 : decode cX4_take 131 = .ok (.iaload, 1) := by decide +kernel
theorem dX4_take_132 : decode cX4_take 132 = .ok (.iastore, 1) := by decide +kernel
theorem dX4_take_133 : decode cX4_take 133 = .ok (.aload_n 0, 1) := by decide +kernel
theorem dX4_take_134 : decode cX4_take 134 = .ok (.getfield 55, 3) := by decide +kernel
theorem dX4_take_137 : decode cX4_take 137 = .ok (.iload_n 1, 1) := by decide +kernel
theorem dX4_take_138 : decode cX4_take 138 = .ok (.aload_n 0, 1) := by decide +kernel
theorem dX4_take_139 : decode cX4_take 139 = .ok (.getfield 55, 3) := by decide +kernel
theorem dX4_take_142 : decode cX4_take 142 = .ok (.aload_n 0, 1) := by decide +kernel
theorem dX4_take_143 : decode cX4_take 143 = .ok (.getfield 103, 3) := by decide +kernel
theorem dX4_take_146 : decode cX4_take 146 = .ok (.iaload, 1) := by decide +kernel
theorem dX4_take_147 : decode cX4_take 147 = .ok (.iastore, 1) := by decide +kernel
theorem dX4_take_148 : decode cX4_take 148 = .ok (.aload_n 0, 1) := by decide +kernel
theorem dX4_take_149 : decode cX4_take 149 = .ok (.getfield 58, 3) := by decide +kernel
theorem dX4_take_152 : decode cX4_take 152 = .ok (.iload_n 1, 1) := by decide +kernel
theorem dX4_take_153 : decode cX4_take 153 = .ok (.aload_n 0, 1) := by decide +kernel
theorem dX4_take_154 : decode cX4_take 154 = .ok (.getfield 58, 3) := by decide +kernel
theorem dX4_take_157 : decode cX4_take 157 = .ok (.aload_n 0, 1) := by decide +kernel
theorem dX4_take_158 : decode cX4_take 158 = .ok (.getfield 103, 3) := by decide +kernel
theorem dX4_take_161 : decode cX4_take 161 = .ok (.iaload, 1) := by decide +kernel
theorem dX4_take_162 : decode cX4_take 162 = .ok (.iastore, 1) := by decide +kernel
theorem dX4_take_163 : decode cX4_take 163 = .ok (.aload_n 0, 1) := by decide +kernel
theorem dX4_take_164 : decode cX4_take 164 = .ok (.getfield 61, 3) := by decide +kernel
theorem dX4_take_167 : decode cX4_take 167 = .ok (.iload_n 1, 1) := by decide +kernel
theorem dX4_take_168 : decode cX4_take 168 = .ok (.aload_n 0, 1) := by decide +kernel
theorem dX4_take_169 : decode cX4_take 169 = .ok (.getfield 61, 3) := by decide +kernel
theorem dX4_take_172 : decode cX4_take 172 = .ok (.aload_n 0, 1) := by decide +kernel
theorem dX4_take_173 : decode cX4_take 173 = .ok (.getfield 103, 3) := by decide +kernel
theorem dX4_take_176 : decode cX4_take 176 = .ok (.iaload, 1) := by decide +kernel
theorem dX4_take_177 : decode cX4_take 177 = .ok (.iastore, 1) := by decide +kernel
theorem dX4_take_178 : decode cX4_take 178 = .ok (.aload_n 0, 1) := by decide +kernel
theorem dX4_take_179 : decode cX4_take 179 = .ok (.getfield 64, 3) := by decide +kernel
theorem dX4_take_182 : decode cX4_take 182 = .ok (.iload_n 1, 1) := by decide +kernel
theorem dX4_take_183 : decode cX4_take 183 = .ok (.aload_n 0, 1) := by decide +kernel
theorem dX4_take_184 : decode cX4_take 184 = .ok (.getfield 64, 3) := by decide +kernel
theorem dX4_take_187 : decode cX4_take 187 = .ok (.aload_n 0, 1) := by decide +kernel
theorem dX4_take_188 : decode cX4_take 188 = .ok (.getfield 103, 3) := by decide +kernel
theorem dX4_take_191 : decode cX4_take 191 = .ok (.iaload, 1) := by decide +kernel
theorem dX4_take_192 : decode cX4_take 192 = .ok (.iastore, 1) := by decide +kernel
theorem dX4_take_193 : decode cX4_take 193 = .ok (.aload_n 0, 1) := by decide +kernel
theorem dX4_take_194 : decode cX4_take 194 = .ok (.getfield 67, 3) := by decide +kernel
theorem dX4_take_197 : decode cX4_take 197 = .ok (.iload_n 1, 1) := by decide +kernel
theorem dX4_take_198 : decode cX4_take 198 = .ok (.aload_n 0, 1) := by decide +kernel
theorem dX4_take_199 : decode cX4_take 199 = .ok (.getfield 67, 3) := by decide +kernel
theorem dX4_take_202 : decode cX4_take 202 = .ok (.aload_n 0, 1) := by decide +kernel
theorem dX4_take_203 : decode cX4_take 203 = .ok (.getfield 103, 3) := by decide +kernel
theorem dX4_take_206 : decode cX4_take 206 = .ok (.iaload, 1) := by decide +kernel
theorem dX4_take_207 : decode cX4_take 207 = .ok (.iastore, 1) := by decide +kernel
theorem dX4_take_208 : decode cX4_take 208 = .ok (.aload_n 0, 1) := by decide +kernel
theorem dX4_take_209 : decode cX4_take 209 = .ok (.getfield 26, 3) := by decide +kernel
theorem dX4_take_212 : decode cX4_take 212 = .ok (.iload 4, 2) := by decide +kernel
theorem dX4_take_214 : decode cX4_take 214 = .ok (.baload, 1) := by decide +kernel
theorem dX4_take_215 : decode cX4_take 215 = .ok (.ifCond .eq 15, 3) := by decide +kernel
theorem dX4_take_218 : decode cX4_take 218 = .ok (.aload_n 0, 1) := by decide +kernel
theorem dX4_take_219 : decode cX4_take 219 = .ok (.dup, 1) := by decide +kernel
theorem dX4_take_220 : decode cX4_take 220 = .ok (.getfield 100, 3) := by decide +kernel
end
section
theorem dX4_take_223 : decode cX4_take 223 = .ok (.iconst 1, 1) := by decide +kernel
theorem dX4_take_224 : decode cX4_take 224 = .ok (.iadd, 1) := by decide +kernel
theorem dX4_take_225 : decode cX4_take 225 = .ok (.putfield 100, 3) := by decide +kernel
theorem dX4_take_228 : decode cX4_take 228 = .ok (.iconst 0, 1) := by decide +kernel
theorem dX4_take_229 : decode cX4_take 229 = .ok (.ireturn, 1) := by decide +kernel
theorem dX4_take_230 : decode cX4_take 230 = .ok (.aload_n 0, 1) := by decide +kernel
theorem dX4_take_231 : decode cX4_take 231 = .ok (.dup, 1) := by decide +kernel
theorem dX4_take_232 : decode cX4_take 232 = .ok (.getfield 179, 3) := by decide +kernel
theorem dX4_take_235 : decode cX4_take 235 = .ok (.iconst 1, 1) := by decide +kernel
theorem dX4_take_236 : decode cX4_take 236 = .ok (.iadd, 1) := by decide +kernel
theorem dX4_take_237 : decode cX4_take 237 = .ok (.putfield 179, 3) := by decide +kernel
theorem dX4_take_240 : decode cX4_take 240 = .ok (.aload_n 0, 1) := by decide +kernel
theorem dX4_take_241 : decode cX4_take 241 = .ok (.iload_n 2, 1) := by decide +kernel
theorem dX4_take_242 : decode cX4_take 242 = .ok (.iload 4, 2) := by decide +kernel
theorem dX4_take_244 : decode cX4_take 244 = .ok (.iload_n 3, 1) := by decide +kernel
theorem dX4_take_245 : decode cX4_take 245 = .ok (.iload 5, 2) := by decide +kernel
theorem dX4_take_247 : decode cX4_take 247 = .ok (.iload 6, 2) := by decide +kernel
theorem dX4_take_249 : decode cX4_take 249 = .ok (.invokevirtual 173, 3) := by decide +kernel
theorem dX4_take_252 : decode cX4_take 252 = .ok (.aload_n 0, 1) := by decide +kernel
theorem dX4_take_253 : decode cX4_take 253 = .ok (.iload 4, 2) := by decide +kernel
theorem dX4_take_255 : decode cX4_take 255 = .ok (.iload_n 2, 1) := by decide +kernel
theorem dX4_take_256 : decode cX4_take 256 = .ok (.iload_n 3, 1) := by decide +kernel
theorem dX4_take_257 : decode cX4_take 257 = .ok (.iload 5, 2) := by decide +kernel
theorem dX4_take_259 : decode cX4_take 259 = .ok (.iload 6, 2) := by decide +kernel
theorem dX4_take_261 : decode cX4_take 261 = .ok (.invokevirtual 182, 3) := by decide +kernel
theorem dX4_take_264 : decode cX4_take 264 = .ok (.iconst 1, 1) := by decide +kernel
theorem dX4_take_265 : decode cX4_take 265 = .ok (.ireturn, 1) := by decide +kernel
theorem dX4_run_0 : decode cX4_run 0 = .ok (.aload_n 0, 1) := by decide +kernel
theorem dX4_run_1 : decode cX4_run 1 = .ok (.iconst 0, 1) := by decide +kernel
theorem dX4_run_2 : decode cX4_run 2 = .ok (.putfield 73, 3) := by decide +kernel
theorem dX4_run_5 : decode cX4_run 5 = .ok (.iload_n 1, 1) := by decide +kernel
theorem dX4_run_6 : decode cX4_run 6 = .ok (.ifCond .lt 22, 3) := by decide +kernel
theorem dX4_run_9 : decode cX4_run 9 = .ok (.iload_n 1, 1) := by decide +kernel
theorem dX4_run_10 : decode cX4_run 10 = .ok (.sipush 500, 3) := by decide +kernel
theorem dX4_run_13 : decode cX4_run 13 = .ok (.if_icmp .gt 15, 3) := by decide +kernel
theorem dX4_run_16 : decode cX4_run 16 = .ok (.aload_n 0, 1) := by decide +kernel
theorem dX4_run_17 : decode cX4_run 17 = .ok (.getfield 106, 3) := by decide +kernel
theorem dX4_run_20 : decode cX4_run 20 = .ok (.iload_n 1, 1) := by decide +kernel
theorem dX4_run_21 : decode cX4_run 21 = .ok (.iadd, 1) := by decide +kernel
theorem dX4_run_22 : decode cX4_run 22 = .ok (.sipush 4000, 3) := by decide +kernel
theorem dX4_run_25 : decode cX4_run 25 = .ok (.if_icmp .le 5, 3) := by decide +kernel
theorem dX4_run_28 : decode cX4_run 28 = .ok (.iconst (-1), 1) := by decide +kernel
theorem dX4_run_29 : decode cX4_run 29 = .ok (.ireturn, 1) := by decide +kernel
theorem dX4_run_30 : decode cX4_run 30 = .ok (.aload_n 0, 1) := by decide +kernel
theorem dX4_run_31 : decode cX4_run 31 = .ok (.getfield 106, 3) := by decide +kernel
theorem dX4_run_34 : decode cX4_run 34 = .ok (.iload_n 1, 1) := by decide +kernel
theorem dX4_run_35 : decode cX4_run 35 = .ok (.iadd, 1) := by decide +kernel
theorem dX4_run_36 : decode cX4_run 36 = .ok (.istore_n 2, 1) := by decide +kernel
theorem dX4_run_37 : decode cX4_run 37 = .ok (.iconst 0, 1) := by decide +kernel
theorem dX4_run_38 : decode cX4_run 38 = .ok (.istore_n 3, 1) := by decide +kernel
theorem dX4_run_39 : decode cX4_run 39 = .ok (.aload_n 0, 1) := by decide +kernel
theorem dX4_run_40 : decode cX4_run 40 = .ok (.invokevirtual 185, 3) := by decide +kernel
theorem dX4_run_43 : decode cX4_run 43 = .ok (.aload_n 0, 1) := by decide +kernel
theorem dX4_run_44 : decode cX4_run 44 = .ok (.getfield 164, 3) := by decide +kernel
theorem dX4_run_47 : decode cX4_run 47 = .ok (.iconst (-1), 1) := by decide +kernel
theorem dX4_run_48 : decode cX4_run 48 = .ok (.if_icmp .eq 33, 3) := by decide +kernel
theorem dX4_run_51 : decode cX4_run 51 = .ok (.aload_n 0, 1) := by decide +kernel
theorem dX4_run_52 : decode cX4_run 52 = .ok (.getfield 167, 3) := by decide +kernel
theorem dX4_run_55 : decode cX4_run 55 = .ok (.iload_n 2, 1) := by decide +kernel
theorem dX4_run_56 : decode cX4_run 56 = .ok (.if_icmp .gt 25, 3) := by decide +kernel
theorem dX4_run_59 : decode cX4_run 59 = .ok (.aload_n 0, 1) := by decide +kernel
theorem dX4_run_60 : decode cX4_run 60 = .ok (.invokevirtual 188, 3) := by decide +kernel
theorem dX4_run_63 : decode cX4_run 63 = .ok (.ifCond .eq 9, 3) := by decide +kernel
theorem dX4_run_66 : decode cX4_run 66 = .ok (.iload_n 3, 1) := by decide +kernel
theorem dX4_run_67 : decode cX4_run 67 = .ok (.iconst 1, 1) := by decide +kernel
theorem dX4_run_68 : decode cX4_run 68 = .ok (.iadd, 1) := by decide +kernel
theorem dX4_run_69 : decode cX4_run 69 = .ok (.goto 4, 3) := by decide +kernel
theorem dX4_run_72 : decode cX4_run 72 = .ok (.iload_n 3, 1) := by decide +kernel
theorem dX4_run_73 : decode cX4_run 73 = .ok (.istore_n 3, 1) := by decide +kernel
theorem dX4_run_74 : decode cX4_run 74 = .ok (.aload_n 0, 1) := by decide +kernel
theorem dX4_run_75 : decode cX4_run 75 = .ok (.invokevirtual 185, 3) := by decide +kernel
theorem dX4_run_78 : decode cX4_run 78 = .ok (.goto (-35), 3) := by decide +kernel
theorem dX4_run_81 : decode cX4_run 81 = .ok (.aload_n 0, 1) := by decide +kernel
theorem dX4_run_82 : decode cX4_run 82 = .ok (.iload_n 2, 1) := by decide +kernel
theorem dX4_run_83 : decode cX4_run 83 = .ok (.putfield 106, 3) := by decide +kernel
theorem dX4_run_86 : decode cX4_run 86 = .ok (.iload_n 3, 1) := by decide +kernel
theorem dX4_run_87 : decode cX4_run 87 = .ok (.ireturn, 1) := by decide +kernel
theorem dX4_step_0 : decode cX4_step 0 = .ok (.aload_n 0, 1) := by decide +kernel
theorem dX4_step_1 : decode cX4_step 1 = .ok (.iconst 0, 1) := by decide +kernel
theorem dX4_step_2 : decode cX4_step 2 = .ok (.putfield 73, 3) := by decide +kernel
theorem dX4_step_5 : decode cX4_step 5 = .ok (.aload_n 0, 1) := by decide +kernel
theorem dX4_step_6 : decode cX4_step 6 = .ok (.invokevirtual 185, 3) := by decide +kernel
theorem dX4_step_9 : decode cX4_step 9 = .ok (.aload_n 0, 1) := by decide +kernel
theorem dX4_step_10 : decode cX4_step 10 = .ok (.getfield 164, 3) := by decide +kernel
theorem dX4_step_13 : decode cX4_step 13 = .ok (.iconst (-1), 1) := by decide +kernel
theorem dX4_step_14 : decode cX4_step 14 = .ok (.if_icmp .eq 32, 3) := by decide +kernel
theorem dX4_step_17 : decode cX4_step 17 = .ok (.aload_n 0, 1) := by decide +kernel
theorem dX4_step_18 : decode cX4_step 18 = .ok (.getfield 167, 3) := by decide +kernel
theorem dX4_step_21 : decode cX4_step 21 = .ok (.sipush 4000, 3) := by decide +kernel
theorem dX4_step_24 : decode cX4_step 24 = .ok (.if_icmp .gt 22, 3) := by decide +kernel
theorem dX4_step_27 : decode cX4_step 27 = .ok (.aload_n 0, 1) := by decide +kernel
theorem dX4_step_28 : decode cX4_step 28 = .ok (.invokevirtual 188, 3) := by decide +kernel
theorem dX4_step_31 : decode cX4_step 31 = .ok (.ifCond .eq 8, 3) := by decide +kernel
theorem dX4_step_34 : decode cX4_step 34 = .ok (.aload_n 0, 1) := by decide +kernel
theorem dX4_step_35 : decode cX4_step 35 = .ok (.getfield 106, 3) := by decide +kernel
theorem dX4_step_38 : decode cX4_step 38 = .ok (.ireturn, 1) := by decide +kernel
theorem dX4_step_39 : decode cX4_step 39 = .ok (.aload_n 0, 1) := by decide +kernel
theorem dX4_step_40 : decode cX4_step 40 = .ok (.invokevirtual 185, 3) := by decide +kernel
theorem dX4_step_43 : decode cX4_step 43 = .ok (.goto (-34), 3) := by decide +kernel
theorem dX4_step_46 : decode cX4_step 46 = .ok (.iconst (-1), 1) := by decide +kernel
theorem dX4_step_47 : decode cX4_step 47 = .ok (.ireturn, 1) := by decide +kernel
theorem dX4_reset_0 : decode cX4_reset 0 = .ok (.aload_n 0, 1) := by decide +kernel
theorem dX4_reset_1 : decode cX4_reset 1 = .ok (.iconst 0, 1) := by decide +kernel
theorem dX4_reset_2 : decode cX4_reset 2 = .ok (.putfield 73, 3) := by decide +kernel
theorem dX4_reset_5 : decode cX4_reset 5 = .ok (.aload_n 0, 1) := by decide +kernel
theorem dX4_reset_6 : decode cX4_reset 6 = .ok (.iconst 0, 1) := by decide +kernel
theorem dX4_reset_7 : decode cX4_reset 7 = .ok (.putfield 79, 3) := by decide +kernel
theorem dX4_reset_10 : decode cX4_reset 10 = .ok (.aload_n 0, 1) := by decide +kernel
theorem dX4_reset_11 : decode cX4_reset 11 = .ok (.iconst 0, 1) := by decide +kernel
theorem dX4_reset_12 : decode cX4_reset 12 = .ok (.putfield 106, 3) := by decide +kernel
theorem dX4_reset_15 : decode cX4_reset 15 = .ok (.aload_n 0, 1) := by decide +kernel
theorem dX4_reset_16 : decode cX4_reset 16 = .ok (.iconst 0, 1) := by decide +kernel
theorem dX4_reset_17 : decode cX4_reset 17 = .ok (.putfield 109, 3) := by decide +kernel
theorem dX4_reset_20 : decode cX4_reset 20 = .ok (.aload_n 0, 1) := by decide +kernel
theorem dX4_reset_21 : decode cX4_reset 21 = .ok (.iconst 0, 1) := by decide +kernel
theorem dX4_reset_22 : decode cX4_reset 22 = .ok (.putfield 97, 3) := by decide +kernel
theorem dX4_reset_25 : decode cX4_reset 25 = .ok (.aload_n 0, 1) := by decide +kernel
theorem dX4_reset_26 : decode cX4_reset 26 = .ok (.iconst 0, 1) := by decide +kernel
theorem dX4_reset_27 : decode cX4_reset 27 = .ok (.putfield 179, 3) := by decide +kernel
theorem dX4_reset_30 : decode cX4_reset 30 = .ok (.aload_n 0, 1) := by decide +kernel
theorem dX4_reset_31 : decode cX4_reset 31 = .ok (.iconst 0, 1) := by decide +kernel
theorem dX4_reset_32 : decode cX4_reset 32 = .ok (.putfield 100, 3) := by decide +kernel
theorem dX4_reset_35 : decode cX4_reset 35 = .ok (.aload_n 0, 1) := by decide +kernel
theorem dX4_reset_36 : decode cX4_reset 36 = .ok (.iconst 0, 1) := by decide +kernel
theorem dX4_reset_37 : decode cX4_reset 37 = .ok (.putfield 170, 3) := by decide +kernel
theorem dX4_reset_40 : decode cX4_reset 40 = .ok (.aload_n 0, 1) := by decide +kernel
theorem dX4_reset_41 : decode cX4_reset 41 = .ok (.iconst 0, 1) := by decide +kernel
theorem dX4_reset_42 : decode cX4_reset 42 = .ok (.putfield 103, 3) := by decide +kernel
theorem dX4_reset_45 : decode cX4_reset 45 = .ok (.aload_n 0, 1) := by decide +kernel
theorem dX4_reset_46 : decode cX4_reset 46 = .ok (.iconst 0, 1) := by decide +kernel
theorem dX4_reset_47 : decode cX4_reset 47 = .ok (.iconst 0, 1) := by decide +kernel
theorem dX4_reset_48 : decode cX4_reset 48 = .ok (.iconst 0, 1) := by decide +kernel
theorem dX4_reset_49 : decode cX4_reset 49 = .ok (.iconst 0, 1) := by decide +kernel
theorem dX4_reset_50 : decode cX4_reset 50 = .ok (.iconst 0, 1) := by decide +kernel
theorem dX4_reset_51 : decode cX4_reset 51 = .ok (.invokevirtual 173, 3) := by decide +kernel
theorem dX4_reset_54 : decode cX4_reset 54 = .ok (.iconst 0, 1) := by decide +kernel
theorem dX4_reset_55 : decode cX4_reset 55 = .ok (.istore_n 1, 1) := by decide +kernel
theorem dX4_reset_56 : decode cX4_reset 56 = .ok (.iload_n 1, 1) := by decide +kernel
theorem dX4_reset_57 : decode cX4_reset 57 = .ok (.bipush 8, 2) := by decide +kernel
theorem dX4_reset_59 : decode cX4_reset 59 = .ok (.if_icmp .ge 58, 3) := by decide +kernel
theorem dX4_reset_62 : decode cX4_reset 62 = .ok (.aload_n 0, 1) := by decide +kernel
theorem dX4_reset_63 : decode cX4_reset 63 = .ok (.getfield 20, 3) := by decide +kernel
theorem dX4_reset_66 : decode cX4_reset 66 = .ok (.iload_n 1, 1) := by decide +kernel
theorem dX4_reset_67 : decode cX4_reset 67 = .ok (.iconst 0, 1) := by decide +kernel
theorem dX4_reset_68 : decode cX4_reset 68 = .ok (.iastore, 1) := by decide +kernel
theorem dX4_reset_69 : decode cX4_reset 69 = .ok (.aload_n 0, 1) := by decide +kernel
theorem dX4_reset_70 : decode cX4_reset 70 = .ok (.getfield 23, 3) := by decide +kernel
theorem dX4_reset_73 : decode cX4_reset 73 = .ok (.iload_n 1, 1) := by decide +kernel
theorem dX4_reset_74 : decode cX4_reset 74 = .ok (.iconst 0, 1) := by decide +kernel
theorem dX4_reset_75 : decode cX4_reset 75 = .ok (.iastore, 1) := by decide +kernel
theorem dX4_reset_76 : decode cX4_reset 76 = .ok (.aload_n 0, 1) := by decide +kernel
theorem dX4_reset_77 : decode cX4_reset 77 = .ok (.getfield 26, 3) := by decide +kernel
theorem dX4_reset_80 : decode cX4_reset 80 = .ok (.iload_n 1, 1) := by decide +kernel
theorem dX4_reset_81 : decode cX4_reset 81 = .ok (.iconst 0, 1) := by decide +kernel
theorem dX4_reset_82 : decode cX4_reset 82 = .ok (.bastore, 1) := by decide +kernel
theorem dX4_reset_83 : decode cX4_reset 83 = .ok (.aload_n 0, 1) := by decide +kernel
theorem dX4_reset_84 : decode cX4_reset 84 = .ok (.getfield 30, 3) := by decide +kernel
theorem dX4_reset_87 : decode cX4_reset 87 = .ok (.iload_n 1, 1) := by decide +kernel
theorem dX4_reset_88 : decode cX4_reset 88 = .ok (.iconst 0, 1) := by decide +kernel
theorem dX4_reset_89 : decode cX4_reset 89 = .ok (.bastore, 1) := by decide +kernel
theorem dX4_reset_90 : decode cX4_reset 90 = .ok (.aload_n 0, 1) := by decide +kernel
theorem dX4_reset_91 : decode cX4_reset 91 = .ok (.getfield 33, 3) := by decide +kernel
theorem dX4_reset_94 : decode cX4_reset 94 = .ok (.iload_n 1, 1) := by decide +kernel
theorem dX4_reset_95 : decode cX4_reset 95 = .ok (.iconst 0, 1) := by decide +kernel
theorem dX4_reset_96 : decode cX4_reset 96 = .ok (.iastore, 1) := by decide +kernel
theorem dX4_reset_97 : decode cX4_reset 97 = .ok (.aload_n 0, 1) := by decide +kernel
theorem dX4_reset_98 : decode cX4_reset 98 = .ok (.getfield 36, 3) := by decide +kernel
theorem dX4_reset_101 : decode cX4_reset 101 = .ok (.iload_n 1, 1) := by decide +kernel
theorem dX4_reset_102 : decode cX4_reset 102 = .ok (.iconst 0, 1) := by decide +kernel
theorem dX4_reset_103 : decode cX4_reset 103 = .ok (.iastore, 1) := by decide +kernel
theorem dX4_reset_104 : decode cX4_reset 104 = .ok (.aload_n 0, 1) := by decide +kernel
theorem dX4_reset_105 : decode cX4_reset 105 = .ok (.getfield 42, 3) := by decide +kernel
theorem dX4_reset_108 : decode cX4_reset 108 = .ok (.iload_n 1, 1) := by decide +kernel
theorem dX4_reset_109 : decode cX4_reset 109 = .ok (.iconst (-1), 1) := by decide +kernel
theorem dX4_reset_110 : decode cX4_reset 110 = .ok (.iastore, 1) := by decide +kernel
theorem dX4_reset_111 : decode cX4_reset 111 = .ok (.iinc 1 1, 3) := by decide +kernel
theorem dX4_reset_114 : decode cX4_reset 114 = .ok (.goto (-58), 3) := by decide +kernel
theorem dX4_reset_117 : decode cX4_reset 117 = .ok (.iconst 1, 1) := by decide +kernel
theorem dX4_reset_118 : decode cX4_reset 118 = .ok (.ireturn, 1) := by decide +kernel
theorem dX4_of_0 : decode cX4_of 0 = .ok (.aload_n 0, 1) := by decide +kernel
theorem dX4_of_1 : decode cX4_of 1 = .ok (.iconst 0, 1) := by decide +kernel
theorem dX4_of_2 : decode cX4_of 2 = .ok (.putfield 73, 3) := by decide +kernel
theorem dX4_of_5 : decode cX4_of 5 = .ok (.aload_n 0, 1) := by decide +kernel
theorem dX4_of_6 : decode cX4_of 6 = .ok (.iload_n 1, 1) := by decide +kernel
theorem dX4_of_7 : decode cX4_of 7 = .ok (.invokevirtual 93, 3) := by decide +kernel
theorem dX4_of_10 : decode cX4_of 10 = .ok (.ifCond .ne 5, 3) := by decide +kernel
theorem dX4_of_13 : decode cX4_of 13 = .ok (.iconst (-1), 1) := by decide +kernel
theorem dX4_of_14 : decode cX4_of 14 = .ok (.ireturn, 1) := by decide +kernel
theorem dX4_of_15 : decode cX4_of 15 = .ok (.iload_n 2, 1) := by decide +kernel
theorem dX4_of_16 : decode cX4_of 16 = .ok (.ifCond .ne 12, 3) := by decide +kernel
theorem dX4_of_19 : decode cX4_of 19 = .ok (.aload_n 0, 1) := by decide +kernel
theorem dX4_of_20 : decode cX4_of 20 = .ok (.getfield 20, 3) := by decide +kernel
theorem dX4_of_23 : decode cX4_of 23 = .ok (.iload_n 1, 1) := by decide +kernel
theorem dX4_of_24 : decode cX4_of 24 = .ok (.iaload, 1) := by decide +kernel
theorem dX4_of_25 : decode cX4_of 25 = .ok (.goto 97, 3) := by decide +kernel
theorem dX4_of_28 : decode cX4_of 28 = .ok (.iload_n 2, 1) := by decide +kernel
theorem dX4_of_29 : decode cX4_of 29 = .ok (.iconst 1, 1) := by decide +kernel
theorem dX4_of_30 : decode cX4_of 30 = .ok (.if_icmp .ne 20, 3) := by decide +kernel
theorem dX4_of_33 : decode cX4_of 33 = .ok (.aload_n 0, 1) := by decide +kernel
theorem dX4_of_34 : decode cX4_of 34 = .ok (.getfield 26, 3) := by decide +kernel
theorem dX4_of_37 : decode cX4_of 37 = .ok (.iload_n 1, 1) := by decide +kernel
theorem dX4_of_38 : decode cX4_of 38 = .ok (.baload, 1) := by decide +kernel
theorem dX4_of_39 : decode cX4_of 39 = .ok (.ifCond .eq 7, 3) := by decide +kernel
theorem dX4_of_42 : decode cX4_of 42 = .ok (.iconst 0, 1) := by decide +kernel
theorem dX4_of_43 : decode cX4_of 43 = .ok (.goto 79, 3) := by decide +kernel
theorem dX4_of_46 : decode cX4_of 46 = .ok (.iconst 1, 1) := by decide +kernel
theorem dX4_of_47 : decode cX4_of 47 = .ok (.goto 75, 3) := by decide +kernel
theorem dX4_of_50 : decode cX4_of 50 = .ok (.iload_n 2, 1) := by decide +kernel
theorem dX4_of_51 : decode cX4_of 51 = .ok (.iconst 2, 1) := by decide +kernel
theorem dX4_of_52 : decode cX4_of 52 = .ok (.if_icmp .ne 12, 3) := by decide +kernel
theorem dX4_of_55 : decode cX4_of 55 = .ok (.aload_n 0, 1) := by decide +kernel
theorem dX4_of_56 : decode cX4_of 56 = .ok (.getfield 33, 3) := by decide +kernel
theorem dX4_of_59 : decode cX4_of 59 = .ok (.iload_n 1, 1) := by decide +kernel
theorem dX4_of_60 : decode cX4_of 60 = .ok (.iaload, 1) := by decide +kernel
theorem dX4_of_61 : decode cX4_of 61 = .ok (.goto 61, 3) := by decide +kernel
theorem dX4_of_64 : decode cX4_of 64 = .ok (.iload_n 2, 1) := by decide +kernel
theorem dX4_of_65 : decode cX4_of 65 = .ok (.iconst 3, 1) := by decide +kernel
theorem dX4_of_66 : decode cX4_of 66 = .ok (.if_icmp .ne 12, 3) := by decide +kernel
theorem dX4_of_69 : decode cX4_of 69 = .ok (.aload_n 0, 1) := by decide +kernel
theorem dX4_of_70 : decode cX4_of 70 = .ok (.getfield 36, 3) := by decide +kernel
theorem dX4_of_73 : decode cX4_of 73 = .ok (.iload_n 1, 1) := by decide +kernel
theorem dX4_of_74 : decode cX4_of 74 = .ok (.iaload, 1) := by decide +kernel
theorem dX4_of_75 : decode cX4_of 75 = .ok (.goto 47, 3) := by decide +kernel
theorem dX4_of_78 : decode cX4_of 78 = .ok (.iload_n 2, 1) := by decide +kernel
theorem dX4_of_79 : decode cX4_of 79 = .ok (.iconst 4, 1) := by decide +kernel
theorem dX4_of_80 : decode cX4_of 80 = .ok (.if_icmp .ne 12, 3) := by decide +kernel
theorem dX4_of_83 : decode cX4_of 83 = .ok (.aload_n 0, 1) := by decide +kernel
theorem dX4_of_84 : decode cX4_of 84 = .ok (.getfield 7, 3) := by decide +kernel
theorem dX4_of_87 : decode cX4_of 87 = .ok (.iload_n 1, 1) := by decide +kernel
theorem dX4_of_88 : decode cX4_of 88 = .ok (.iaload, 1) := by decide +kernel
theorem dX4_of_89 : decode cX4_of 89 = .ok (.goto 33, 3) := by decide +kernel
theorem dX4_of_92 : decode cX4_of 92 = .ok (.iload_n 2, 1) := by decide +kernel
theorem dX4_of_93 : decode cX4_of 93 = .ok (.iconst 5, 1) := by decide +kernel
theorem dX4_of_94 : decode cX4_of 94 = .ok (.if_icmp .ne 12, 3) := by decide +kernel
theorem dX4_of_97 : decode cX4_of 97 = .ok (.aload_n 0, 1) := by decide +kernel
theorem dX4_of_98 : decode cX4_of 98 = .ok (.getfield 42, 3) := by decide +kernel
theorem dX4_of_101 : decode cX4_of 101 = .ok (.iload_n 1, 1) := by decide +kernel
theorem dX4_of_102 : decode cX4_of 102 = .ok (.iaload, 1) := by decide +kernel
theorem dX4_of_103 : decode cX4_of 103 = .ok (.goto 19, 3) := by decide +kernel
theorem dX4_of_106 : decode cX4_of 106 = .ok (.iload_n 2, 1) := by decide +kernel
theorem dX4_of_107 : decode cX4_of 107 = .ok (.bipush 6, 2) := by decide +kernel
theorem dX4_of_109 : decode cX4_of 109 = .ok (.if_icmp .ne 12, 3) := by decide +kernel
theorem dX4_of_112 : decode cX4_of 112 = .ok (.aload_n 0, 1) := by decide +kernel
theorem dX4_of_113 : decode cX4_of 113 = .ok (.getfield 23, 3) := by decide +kernel
theorem dX4_of_116 : decode cX4_of 116 = .ok (.iload_n 1, 1) := by decide +kernel
theorem dX4_of_117 : decode cX4_of 117 = .ok (.iaload, 1) := by decide +kernel
theorem dX4_of_118 : decode cX4_of 118 = .ok (.goto 4, 3) := by decide +kernel
theorem dX4_of_121 : decode cX4_of 121 = .ok (.iconst (-1), 1) := by decide +kernel
theorem dX4_of_122 : decode cX4_of 122 = .ok (.ireturn, 1) := by decide +kernel
theorem dX4_count_0 : decode cX4_count 0 = .ok (.aload_n 0, 1) := by decide +kernel
theorem dX4_count_1 : decode cX4_count 1 = .ok (.iconst 0, 1) := by decide +kernel
theorem dX4_count_2 : decode cX4_count 2 = .ok (.putfield 73, 3) := by decide +kernel
theorem dX4_count_5 : decode cX4_count 5 = .ok (.iload_n 1, 1) := by decide +kernel
theorem dX4_count_6 : decode cX4_count 6 = .ok (.tableswitch 104 0 9 #[54, 59, 64, 69, 74, 79, 84, 89, 94, 99], 54) := by decide +kernel
theorem dX4_count_60 : decode cX4_count 60 = .ok (.aload_n 0, 1) := by decide +kernel
theorem dX4_count_61 : decode cX4_count 61 = .ok (.getfield 106, 3) := by decide +kernel
theorem dX4_count_64 : decode cX4_count 64 = .ok (.ireturn, 1) := by decide +kernel
theorem dX4_count_65 : decode cX4_count 65 = .ok (.aload_n 0, 1) := by decide +kernel
theorem dX4_count_66 : decode cX4_count 66 = .ok (.getfield 97, 3) := by decide +kernel
theorem dX4_count_69 : decode cX4_count 69 = .ok (.ireturn, 1) := by decide +kernel
theorem dX4_count_70 : decode cX4_count 70 = .ok (.aload_n 0, 1) := by decide +kernel
theorem dX4_count_71 : decode cX4_count 71 = .ok (.getfield 179, 3) := by decide +kernel
theorem dX4_count_74 : decode cX4_count 74 = .ok (.ireturn, 1) := by decide +kernel
theorem dX4_count_75 : decode cX4_count 75 = .ok (.aload_n 0, 1) := by decide +kernel
theorem dX4_count_76 : decode cX4_count 76 = .ok (.getfield 100, 3) := by decide +kernel
theorem dX4_count_79 : decode cX4_count 79 = .ok (.ireturn, 1) := by decide +kernel
theorem dX4_count_80 : decode cX4_count 80 = .ok (.aload_n 0, 1) := by decide +kernel
theorem dX4_count_81 : decode cX4_count 81 = .ok (.getfield 170, 3) := by decide +kernel
theorem dX4_count_84 : decode cX4_count 84 = .ok (.ireturn, 1) := by decide +kernel
theorem dX4_count_85 : decode cX4_count 85 = .ok (.aload_n 0, 1) := by decide +kernel
theorem dX4_count_86 : decode cX4_count 86 = .ok (.getfield 76, 3) := by decide +kernel
theorem dX4_count_89 : decode cX4_count 89 = .ok (.ireturn, 1) := by decide +kernel
theorem dX4_count_90 : decode cX4_count 90 = .ok (.aload_n 0, 1) := by decide +kernel
theorem dX4_count_91 : decode cX4_count 91 = .ok (.getfield 87, 3) := by decide +kernel
theorem dX4_count_94 : decode cX4_count 94 = .ok (.ireturn, 1) := by decide +kernel
theorem dX4_count_95 : decode cX4_count 95 = .ok (.aload_n 0, 1) := by decide +kernel
theorem dX4_count_96 : decode cX4_count 96 = .ok (.getfield 90, 3) := by decide +kernel
theorem dX4_count_99 : decode cX4_count 99 = .ok (.ireturn, 1) := by decide +kernel
theorem dX4_count_100 : decode cX4_count 100 = .ok (.aload_n 0, 1) := by decide +kernel
theorem dX4_count_101 : decode cX4_count 101 = .ok (.getfield 13, 3) := by decide +kernel
theorem dX4_count_104 : decode cX4_count 104 = .ok (.ireturn, 1) := by decide +kernel
theorem dX4_count_105 : decode cX4_count 105 = .ok (.aload_n 0, 1) := by decide +kernel
theorem dX4_count_106 : decode cX4_count 106 = .ok (.getfield 103, 3) := by decide +kernel
theorem dX4_count_109 : decode cX4_count 109 = .ok (.ireturn, 1) := by decide +kernel
theorem dX4_count_110 : decode cX4_count 110 = .ok (.iconst (-1), 1) := by decide +kernel
theorem dX4_count_111 : decode cX4_count 111 = .ok (.ireturn, 1) := by decide +kernel
theorem dX4_delay_0 : decode cX4_delay 0 = .ok (.aload_n 0, 1) := by decide +kernel
theorem dX4_delay_1 : decode cX4_delay 1 = .ok (.iconst 0, 1) := by decide +kernel
theorem dX4_delay_2 : decode cX4_delay 2 = .ok (.putfield 73, 3) := by decide +kernel
theorem dX4_delay_5 : decode cX4_delay 5 = .ok (.aload_n 0, 1) := by decide +kernel
theorem dX4_delay_6 : decode cX4_delay 6 = .ok (.iload_n 1, 1) := by decide +kernel
theorem dX4_delay_7 : decode cX4_delay 7 = .ok (.invokevirtual 93, 3) := by decide +kernel
theorem dX4_delay_10 : decode cX4_delay 10 = .ok (.ifCond .eq 30, 3) := by decide +kernel
theorem dX4_delay_13 : decode cX4_delay 13 = .ok (.aload_n 0, 1) := by decide +kernel
theorem dX4_delay_14 : decode cX4_delay 14 = .ok (.iload_n 2, 1) := by decide +kernel
theorem dX4_delay_15 : decode cX4_delay 15 = .ok (.invokevirtual 93, 3) := by decide +kernel
theorem dX4_delay_18 : decode cX4_delay 18 = .ok (.ifCond .eq 22, 3) := by decide +kernel
theorem dX4_delay_21 : decode cX4_delay 21 = .ok (.iload_n 1, 1) := by decide +kernel
theorem dX4_delay_22 : decode cX4_delay 22 = .ok (.iload_n 2, 1) := by decide +kernel
theorem dX4_delay_23 : decode cX4_delay 23 = .ok (.if_icmp .eq 17, 3) := by decide +kernel
theorem dX4_delay_26 : decode cX4_delay 26 = .ok (.aload_n 0, 1) := by decide +kernel
theorem dX4_delay_27 : decode cX4_delay 27 = .ok (.getfield 17, 3) := by decide +kernel
theorem dX4_delay_30 : decode cX4_delay 30 = .ok (.bipush 8, 2) := by decide +kernel
theorem dX4_delay_32 : decode cX4_delay 32 = .ok (.iload_n 1, 1) := by decide +kernel
theorem dX4_delay_33 : decode cX4_delay 33 = .ok (.imul, 1) := by decide +kernel
theorem dX4_delay_34 : decode cX4_delay 34 = .ok (.iload_n 2, 1) := by decide +kernel
theorem dX4_delay_35 : decode cX4_delay 35 = .ok (.iadd, 1) := by decide +kernel
theorem dX4_delay_36 : decode cX4_delay 36 = .ok (.iaload, 1) := by decide +kernel
theorem dX4_delay_37 : decode cX4_delay 37 = .ok (.goto 4, 3) := by decide +kernel
theorem dX4_delay_40 : decode cX4_delay 40 = .ok (.iconst (-1), 1) := by decide +kernel
theorem dX4_delay_41 : decode cX4_delay 41 = .ok (.ireturn, 1) := by decide +kernel
theorem dX4_weight_0 : decode cX4_weight 0 = .ok (.aload_n 0, 1) := by decide +kernel
theorem dX4_weight_1 : decode cX4_weight 1 = .ok (.iconst 0, 1) := by decide +kernel
theorem dX4_weight_2 : decode cX4_weight 2 = .ok (.putfield 73, 3) := by decide +kernel
theorem dX4_weight_5 : decode cX4_weight 5 = .ok (.iconst 0, 1) := by decide +kernel
theorem dX4_weight_6 : decode cX4_weight 6 = .ok (.istore_n 2, 1) := by decide +kernel
theorem dX4_weight_7 : decode cX4_weight 7 = .ok (.iconst 0, 1) := by decide +kernel
theorem dX4_weight_8 : decode cX4_weight 8 = .ok (.istore_n 3, 1) := by decide +kernel
theorem dX4_weight_9 : decode cX4_weight 9 = .ok (.iload_n 3, 1) := by decide +kernel
theorem dX4_weight_10 : decode cX4_weight 10 = .ok (.aload_n 0, 1) := by decide +kernel
theorem dX4_weight_11 : decode cX4_weight 11 = .ok (.getfield 76, 3) := by decide +kernel
theorem dX4_weight_14 : decode cX4_weight 14 = .ok (.if_icmp .ge 32, 3) := by decide +kernel
theorem dX4_weight_17 : decode cX4_weight 17 = .ok (.aload_n 0, 1) := by decide +kernel
theorem dX4_weight_18 : decode cX4_weight 18 = .ok (.getfield 20, 3) := by decide +kernel
theorem dX4_weight_21 : decode cX4_weight 21 = .ok (.iload_n 3, 1) := by decide +kernel
theorem dX4_weight_22 : decode cX4_weight 22 = .ok (.iaload, 1) := by decide +kernel
theorem dX4_weight_23 : decode cX4_weight 23 = .ok (.iload_n 1, 1) := by decide +kernel
theorem dX4_weight_24 : decode cX4_weight 24 = .ok (.if_icmp .ne 14, 3) := by decide +kernel
theorem dX4_weight_27 : decode cX4_weight 27 = .ok (.iload_n 2, 1) := by decide +kernel
theorem dX4_weight_28 : decode cX4_weight 28 = .ok (.aload_n 0, 1) := by decide +kernel
theorem dX4_weight_29 : decode cX4_weight 29 = .ok (.getfield 7, 3) := by decide +kernel
theorem dX4_weight_32 : decode cX4_weight 32 = .ok (.iload_n 3, 1) := by decide +kernel
theorem dX4_weight_33 : decode cX4_weight 33 = .ok (.iaload, 1) := by decide +kernel
theorem dX4_weight_34 : decode cX4_weight 34 = .ok (.iadd, 1) := by decide +kernel
theorem dX4_weight_35 : decode cX4_weight 35 = .ok (.goto 4, 3) := by decide +kernel
theorem dX4_weight_38 : decode cX4_weight 38 = .ok (.iload_n 2, 1) := by decide +kernel
theorem dX4_weight_39 : decode cX4_weight 39 = .ok (.istore_n 2, 1) := by decide +kernel
theorem dX4_weight_40 : decode cX4_weight 40 = .ok (.iinc 3 1, 3) := by decide +kernel
theorem dX4_weight_43 : decode cX4_weight 43 = .ok (.goto (-34), 3) := by decide +kernel
theorem dX4_weight_46 : decode cX4_weight 46 = .ok (.iload_n 2, 1) := by decide +kernel
theorem dX4_weight_47 : decode cX4_weight 47 = .ok (.ireturn, 1) := by decide +kernel
theorem dX4_latest_0 : decode cX4_latest 0 = .ok (.aload_n 0, 1) := by decide +kernel
theorem dX4_latest_1 : decode cX4_latest 1 = .ok (.iconst 0, 1) := by decide +kernel
theorem dX4_latest_2 : decode cX4_latest 2 = .ok (.putfield 73, 3) := by decide +kernel
theorem dX4_latest_5 : decode cX4_latest 5 = .ok (.iload_n 1, 1) := by decide +kernel
theorem dX4_latest_6 : decode cX4_latest 6 = .ok (.ifCond .lt 17, 3) := by decide +kernel
theorem dX4_latest_9 : decode cX4_latest 9 = .ok (.iload_n 1, 1) := by decide +kernel
theorem dX4_latest_10 : decode cX4_latest 10 = .ok (.iconst 4, 1) := by decide +kernel
theorem dX4_latest_11 : decode cX4_latest 11 = .ok (.if_icmp .gt 12, 3) := by decide +kernel
theorem dX4_latest_14 : decode cX4_latest 14 = .ok (.aload_n 0, 1) := by decide +kernel
theorem dX4_latest_15 : decode cX4_latest 15 = .ok (.getfield 70, 3) := by decide +kernel
theorem dX4_latest_18 : decode cX4_latest 18 = .ok (.iload_n 1, 1) := by decide +kernel
theorem dX4_latest_19 : decode cX4_latest 19 = .ok (.iaload, 1) := by decide +kernel
theorem dX4_latest_20 : decode cX4_latest 20 = .ok (.goto 4, 3) := by decide +kernel
theorem dX4_latest_23 : decode cX4_latest 23 = .ok (.iconst (-1), 1) := by decide +kernel
theorem dX4_latest_24 : decode cX4_latest 24 = .ok (.ireturn, 1) := by decide +kernel
theorem dX4_check_0 : decode cX4_check 0 = .ok (.aload_n 0, 1) := by decide +kernel
theorem dX4_check_1 : decode cX4_check 1 = .ok (.iconst 0, 1) := by decide +kernel
theorem dX4_check_2 : decode cX4_check 2 = .ok (.putfield 73, 3) := by decide +kernel
theorem dX4_check_5 : decode cX4_check 5 = .ok (.iconst 1, 1) := by decide +kernel
theorem dX4_check_6 : decode cX4_check 6 = .ok (.ireturn, 1) := by decide +kernel
theorem dL_law_0 : decode cL_law 0 = .ok (.new 7, 3) := by decide +kernel
theorem dL_law_3 : decode cL_law 3 = .ok (.dup, 1) := by decide +kernel
theorem dL_law_4 : decode cL_law 4 = .ok (.invokespecial 9, 3) := by decide +kernel
theorem dL_law_7 : decode cL_law 7 = .ok (.astore_n 1, 1) := by decide +kernel
theorem dL_law_8 : decode cL_law 8 = .ok (.new 10, 3) := by decide +kernel
theorem dL_law_11 : decode cL_law 11 = .ok (.dup, 1) := by decide +kernel
theorem dL_law_12 : decode cL_law 12 = .ok (.invokespecial 12, 3) := by decide +kernel
theorem dL_law_15 : decode cL_law 15 = .ok (.astore_n 2, 1) := by decide +kernel
theorem dL_law_16 : decode cL_law 16 = .ok (.iconst 0, 1) := by decide +kernel
theorem dL_law_17 : decode cL_law 17 = .ok (.istore_n 3, 1) := by decide +kernel
theorem dL_law_18 : decode cL_law 18 = .ok (.iload_n 3, 1) := by decide +kernel
theorem dL_law_19 : decode cL_law 19 = .ok (.aload_n 0, 1) := by decide +kernel
theorem dL_law_20 : decode cL_law 20 = .ok (.arraylength, 1) := by decide +kernel
theorem dL_law_21 : decode cL_law 21 = .ok (.iconst 4, 1) := by decide +kernel
theorem dL_law_22 : decode cL_law 22 = .ok (.isub, 1) := by decide +kernel
theorem dL_law_23 : decode cL_law 23 = .ok (.if_icmp .gt 530, 3) := by decide +kernel
theorem dL_law_26 : decode cL_law 26 = .ok (.aload_n 0, 1) := by decide +kernel
theorem dL_law_27 : decode cL_law 27 = .ok (.iload_n 3, 1) := by decide +kernel
theorem dL_law_28 : decode cL_law 28 = .ok (.iaload, 1) := by decide +kernel
theorem dL_law_29 : decode cL_law 29 = .ok (.bipush 31, 2) := by decide +kernel
theorem dL_law_31 : decode cL_law 31 = .ok (.iand, 1) := by decide +kernel
theorem dL_law_32 : decode cL_law 32 = .ok (.tableswitch 515 0 16 #[84, 107, 140, 183, 216, 239, 272, 295, 318, 341, 354, 367, 400, 423, 456, 479, 502], 84) := by decide +kernel
theorem dL_law_116 : decode cL_law 116 = .ok (.aload_n 1, 1) := by decide +kernel
theorem dL_law_117 : decode cL_law 117 = .ok (.aload_n 0, 1) := by decide +kernel
theorem dL_law_118 : decode cL_law 118 = .ok (.iload_n 3, 1) := by decide +kernel
theorem dL_law_119 : decode cL_law 119 = .ok (.iconst 1, 1) := by decide +kernel
theorem dL_law_120 : decode cL_law 120 = .ok (.iadd, 1) := by decide +kernel
theorem dL_law_121 : decode cL_law 121 = .ok (.iaload, 1) := by decide +kernel
theorem dL_law_122 : decode cL_law 122 = .ok (.invokevirtual 13, 3) := by decide +kernel
theorem dL_law_125 : decode cL_law 125 = .ok (.pop, 1) := by decide +kernel
theorem dL_law_126 : decode cL_law 126 = .ok (.aload_n 2, 1) := by decide +kernel
theorem dL_law_127 : decode cL_law 127 = .ok (.aload_n 0, 1) := by decide +kernel
theorem dL_law_128 : decode cL_law 128 = .ok (.iload_n 3, 1) := by decide +kernel
theorem dL_law_129 : decode cL_law 129 = .ok (.iconst 1, 1) := by decide +kernel
theorem dL_law_130 : decode cL_law 130 = .ok (.iadd, 1) := by decide +kernel
theorem dL_law_131 : decode cL_law 131 = .ok (.iaload, 1) := by decide +kernel
theorem dL_law_132 : decode cL_law 132 = .ok (.invokevirtual 17, 3) := by decide +kernel
theorem dL_law_135 : decode cL_law 135 = .ok (.pop, 1) := by decide +kernel
theorem dL_law_136 : decode cL_law 136 = .ok (.goto 411, 3) := by decide +kernel
theorem dL_law_139 : decode cL_law 139 = .ok (.aload_n 1, 1) := by decide +kernel
theorem dL_law_140 : decode cL_law 140 = .ok (.aload_n 0, 1) := by decide +kernel
theorem dL_law_141 : decode cL_law 141 = .ok (.iload_n 3, 1) := by decide +kernel
theorem dL_law_142 : decode cL_law 142 = .ok (.iconst 1, 1) := by decide +kernel
theorem dL_law_143 : decode cL_law 143 = .ok (.iadd, 1) := by decide +kernel
theorem dL_law_144 : decode cL_law 144 = .ok (.iaload, 1) := by decide +kernel
theorem dL_law_145 : decode cL_law 145 = .ok (.aload_n 0, 1) := by decide +kernel
theorem dL_law_146 : decode cL_law 146 = .ok (.iload_n 3, 1) := by decide +kernel
theorem dL_law_147 : decode cL_law 147 = .ok (.iconst 2, 1) := by decide +kernel
theorem dL_law_148 : decode cL_law 148 = .ok (.iadd, 1) := by decide +kernel
theorem dL_law_149 : decode cL_law 149 = .ok (.iaload, 1) := by decide +kernel
theorem dL_law_150 : decode cL_law 150 = .ok (.invokevirtual 18, 3) := by decide +kernel
theorem dL_law_153 : decode cL_law 153 = .ok (.pop, 1) := by decide +kernel
theorem dL_law_154 : decode cL_law 154 = .ok (.aload_n 2, 1) := by decide +kernel
theorem dL_law_155 : decode cL_law 155 = .ok (.aload_n 0, 1) := by decide +kernel
theorem dL_law_156 : decode cL_law 156 = .ok (.iload_n 3, 1) := by decide +kernel
theorem dL_law_157 : decode cL_law 157 = .ok (.iconst 1, 1) := by decide +kernel
theorem dL_law_158 : decode cL_law 158 = .ok (.iadd, 1) := by decide +kernel
theorem dL_law_159 : decode cL_law 159 = .ok (.iaload, 1) := by decide +kernel
theorem dL_law_160 : decode cL_law 160 = .ok (.aload_n 0, 1) := by decide +kernel
theorem dL_law_161 : decode cL_law 161 = .ok (.iload_n 3, 1) := by decide +kernel
theorem dL_law_162 : decode cL_law 162 = .ok (.iconst 2, 1) := by decide +kernel
theorem dL_law_163 : decode cL_law 163 = .ok (.iadd, 1) := by decide +kernel
theorem dL_law_164 : decode cL_law 164 = .ok (.iaload, 1) := by decide +kernel
theorem dL_law_165 : decode cL_law 165 = .ok (.invokevirtual 22, 3) := by decide +kernel
theorem dL_law_168 : decode cL_law 168 = .ok (.pop, 1) := by decide +kernel
theorem dL_law_169 : decode cL_law 169 = .ok (.goto 378, 3) := by decide +kernel
theorem dL_law_172 : decode cL_law 172 = .ok (.aload_n 1, 1) := by decide +kernel
theorem dL_law_173 : decode cL_law 173 = .ok (.aload_n 0, 1) := by decide +kernel
theorem dL_law_174 : decode cL_law 174 = .ok (.iload_n 3, 1) := by decide +kernel
theorem dL_law_175 : decode cL_law 175 = .ok (.iconst 1, 1) := by decide +kernel
theorem dL_law_176 : decode cL_law 176 = .ok (.iadd, 1) := by decide +kernel
theorem dL_law_177 : decode cL_law 177 = .ok (.iaload, 1) := by decide +kernel
theorem dL_law_178 : decode cL_law 178 = .ok (.aload_n 0, 1) := by decide +kernel
theorem dL_law_179 : decode cL_law 179 = .ok (.iload_n 3, 1) := by decide +kernel
theorem dL_law_180 : decode cL_law 180 = .ok (.iconst 2, 1) := by decide +kernel
theorem dL_law_181 : decode cL_law 181 = .ok (.iadd, 1) := by decide +kernel
theorem dL_law_182 : decode cL_law 182 = .ok (.iaload, 1) := by decide +kernel
theorem dL_law_183 : decode cL_law 183 = .ok (.aload_n 0, 1) := by decide +kernel
theorem dL_law_184 : decode cL_law 184 = .ok (.iload_n 3, 1) := by decide +kernel
theorem dL_law_185 : decode cL_law 185 = .ok (.iconst 3, 1) := by decide +kernel
theorem dL_law_186 : decode cL_law 186 = .ok (.iadd, 1) := by decide +kernel
theorem dL_law_187 : decode cL_law 187 = .ok (.iaload, 1) := by decide +kernel
theorem dL_law_188 : decode cL_law 188 = .ok (.invokevirtual 23, 3) := by decide +kernel
theorem dL_law_191 : decode cL_law 191 = .ok (.pop, 1) := by decide +kernel
theorem dL_law_192 : decode cL_law 192 = .ok (.aload_n 2, 1) := by decide +kernel
theorem dL_law_193 : decode cL_law 193 = .ok (.aload_n 0, 1) := by decide +kernel
theorem dL_law_194 : decode cL_law 194 = .ok (.iload_n 3, 1) := by decide +kernel
theorem dL_law_195 : decode cL_law 195 = .ok (.iconst 1, 1) := by decide +kernel
theorem dL_law_196 : decode cL_law 196 = .ok (.iadd, 1) := by decide +kernel
theorem dL_law_197 : decode cL_law 197 = .ok (.iaload, 1) := by decide +kernel
theorem dL_law_198 : decode cL_law 198 = .ok (.aload_n 0, 1) := by decide +kernel
theorem dL_law_199 : decode cL_law 199 = .ok (.iload_n 3, 1) := by decide +kernel
theorem dL_law_200 : decode cL_law 200 = .ok (.iconst 2, 1) := by decide +kernel
theorem dL_law_201 : decode cL_law 201 = .ok (.iadd, 1) := by decide +kernel
theorem dL_law_202 : decode cL_law 202 = .ok (.iaload, 1) := by decide +kernel
theorem dL_law_203 : decode cL_law 203 = .ok (.aload_n 0, 1) := by decide +kernel
theorem dL_law_204 : decode cL_law 204 = .ok (.iload_n 3, 1) := by decide +kernel
theorem dL_law_205 : decode cL_law 205 = .ok (.iconst 3, 1) := by decide +kernel
theorem dL_law_206 : decode cL_law 206 = .ok (.iadd, 1) := by decide +kernel
theorem dL_law_207 : decode cL_law 207 = .ok (.iaload, 1) := by decide +kernel
theorem dL_law_208 : decode cL_law 208 = .ok (.invokevirtual 27, 3) := by decide +kernel
theorem dL_law_211 : decode cL_law 211 = .ok (.pop, 1) := by decide +kernel
theorem dL_law_212 : decode cL_law 212 = .ok (.goto 335, 3) := by decide +kernel
theorem dL_law_215 : decode cL_law 215 = .ok (.aload_n 1, 1) := by decide +kernel
theorem dL_law_216 : decode cL_law 216 = .ok (.aload_n 0, 1) := by decide +kernel
theorem dL_law_217 : decode cL_law 217 = .ok (.iload_n 3, 1) := by decide +kernel
theorem dL_law_218 : decode cL_law 218 = .ok (.iconst 1, 1) := by decide +kernel
theorem dL_law_219 : decode cL_law 219 = .ok (.iadd, 1) := by decide +kernel
theorem dL_law_220 : decode cL_law 220 = .ok (.iaload, 1) := by decide +kernel
theorem dL_law_221 : decode cL_law 221 = .ok (.aload_n 0, 1) := by decide +kernel
theorem dL_law_222 : decode cL_law 222 = .ok (.iload_n 3, 1) := by decide +kernel
theorem dL_law_223 : decode cL_law 223 = .ok (.iconst 2, 1) := by decide +kernel
theorem dL_law_224 : decode cL_law 224 = .ok (.iadd, 1) := by decide +kernel
theorem dL_law_225 : decode cL_law 225 = .ok (.iaload, 1) := by decide +kernel
theorem dL_law_226 : decode cL_law 226 = .ok (.invokevirtual 28, 3) := by decide +kernel
theorem dL_law_229 : decode cL_law 229 = .ok (.pop, 1) := by decide +kernel
theorem dL_law_230 : decode cL_law 230 = .ok (.aload_n 2, 1) := by decide +kernel
theorem dL_law_231 : decode cL_law 231 = .ok (.aload_n 0, 1) := by decide +kernel
theorem dL_law_232 : decode cL_law 232 = .ok (.iload_n 3, 1) := by decide +kernel
theorem dL_law_233 : decode cL_law 233 = .ok (.iconst 1, 1) := by decide +kernel
theorem dL_law_234 : decode cL_law 234 = .ok (.iadd, 1) := by decide +kernel
theorem dL_law_235 : decode cL_law 235 = .ok (.iaload, 1) := by decide +kernel
theorem dL_law_236 : decode cL_law 236 = .ok (.aload_n 0, 1) := by decide +kernel
theorem dL_law_237 : decode cL_law 237 = .ok (.iload_n 3, 1) := by decide +kernel
theorem dL_law_238 : decode cL_law 238 = .ok (.iconst 2, 1) := by decide +kernel
theorem dL_law_239 : decode cL_law 239 = .ok (.iadd, 1) := by decide +kernel
theorem dL_law_240 : decode cL_law 240 = .ok (.iaload, 1) := by decide +kernel
theorem dL_law_241 : decode cL_law 241 = .ok (.invokevirtual 31, 3) := by decide +kernel
theorem dL_law_244 : decode cL_law 244 = .ok (.pop, 1) := by decide +kernel
theorem dL_law_245 : decode cL_law 245 = .ok (.goto 302, 3) := by decide +kernel
theorem dL_law_248 : decode cL_law 248 = .ok (.aload_n 1, 1) := by decide +kernel
theorem dL_law_249 : decode cL_law 249 = .ok (.aload_n 0, 1) := by decide +kernel
theorem dL_law_250 : decode cL_law 250 = .ok (.iload_n 3, 1) := by decide +kernel
theorem dL_law_251 : decode cL_law 251 = .ok (.iconst 1, 1) := by decide +kernel
theorem dL_law_252 : decode cL_law 252 = .ok (.iadd, 1) := by decide +kernel
theorem dL_law_253 : decode cL_law 253 = .ok (.iaload, 1) := by decide +kernel
theorem dL_law_254 : decode cL_law 254 = .ok (.invokevirtual 32, 3) := by decide +kernel
theorem dL_law_257 : decode cL_law 257 = .ok (.pop, 1) := by decide +kernel
theorem dL_law_258 : decode cL_law 258 = .ok (.aload_n 2, 1) := by decide +kernel
theorem dL_law_259 : decode cL_law 259 = .ok (.aload_n 0, 1) := by decide +kernel
theorem dL_law_260 : decode cL_law 260 = .ok (.iload_n 3, 1) := by decide +kernel
theorem dL_law_261 : decode cL_law 261 = .ok (.iconst 1, 1) := by decide +kernel
theorem dL_law_262 : decode cL_law 262 = .ok (.iadd, 1) := by decide +kernel
theorem dL_law_263 : decode cL_law 263 = .ok (.iaload, 1) := by decide +kernel
theorem dL_law_264 : decode cL_law 264 = .ok (.invokevirtual 35, 3) := by decide +kernel
theorem dL_law_267 : decode cL_law 267 = .ok (.pop, 1) := by decide +kernel
theorem dL_law_268 : decode cL_law 268 = .ok (.goto 279, 3) := by decide +kernel
theorem dL_law_271 : decode cL_law 271 = .ok (.aload_n 1, 1) := by decide +kernel
theorem dL_law_272 : decode cL_law 272 = .ok (.aload_n 0, 1) := by decide +kernel
theorem dL_law_273 : decode cL_law 273 = .ok (.iload_n 3, 1) := by decide +kernel
theorem dL_law_274 : decode cL_law 274 = .ok (.iconst 1, 1) := by decide +kernel
theorem dL_law_275 : decode cL_law 275 = .ok (.iadd, 1) := by decide +kernel
theorem dL_law_276 : decode cL_law 276 = .ok (.iaload, 1) := by decide +kernel
theorem dL_law_277 : decode cL_law 277 = .ok (.aload_n 0, 1) := by decide +kernel
theorem dL_law_278 : decode cL_law 278 = .ok (.iload_n 3, 1) := by decide +kernel
theorem dL_law_279 : decode cL_law 279 = .ok (.iconst 2, 1) := by decide +kernel
theorem dL_law_280 : decode cL_law 280 = .ok (.iadd, 1) := by decide +kernel
theorem dL_law_281 : decode cL_law 281 = .ok (.iaload, 1) := by decide +kernel
theorem dL_law_282 : decode cL_law 282 = .ok (.invokevirtual 36, 3) := by decide +kernel
theorem dL_law_285 : decode cL_law 285 = .ok (.pop, 1) := by decide +kernel
theorem dL_law_286 : decode cL_law 286 = .ok (.aload_n 2, 1) := by decide +kernel
theorem dL_law_287 : decode cL_law 287 = .ok (.aload_n 0, 1) := by decide +kernel
theorem dL_law_288 : decode cL_law 288 = .ok (.iload_n 3, 1) := by decide +kernel
theorem dL_law_289 : decode cL_law 289 = .ok (.iconst 1, 1) := by decide +kernel
theorem dL_law_290 : decode cL_law 290 = .ok (.iadd, 1) := by decide +kernel
theorem dL_law_291 : decode cL_law 291 = .ok (.iaload, 1) := by decide +kernel
theorem dL_law_292 : decode cL_law 292 = .ok (.aload_n 0, 1) := by decide +kernel
theorem dL_law_293 : decode cL_law 293 = .ok (.iload_n 3, 1) := by decide +kernel
theorem dL_law_294 : decode cL_law 294 = .ok (.iconst 2, 1) := by decide +kernel
theorem dL_law_295 : decode cL_law 295 = .ok (.iadd, 1) := by decide +kernel
theorem dL_law_296 : decode cL_law 296 = .ok (.iaload, 1) := by decide +kernel
theorem dL_law_297 : decode cL_law 297 = .ok (.invokevirtual 39, 3) := by decide +kernel
theorem dL_law_300 : decode cL_law 300 = .ok (.pop, 1) := by decide +kernel
theorem dL_law_301 : decode cL_law 301 = .ok (.goto 246, 3) := by decide +kernel
theorem dL_law_304 : decode cL_law 304 = .ok (.aload_n 1, 1) := by decide +kernel
theorem dL_law_305 : decode cL_law 305 = .ok (.aload_n 0, 1) := by decide +kernel
theorem dL_law_306 : decode cL_law 306 = .ok (.iload_n 3, 1) := by decide +kernel
theorem dL_law_307 : decode cL_law 307 = .ok (.iconst 1, 1) := by decide +kernel
theorem dL_law_308 : decode cL_law 308 = .ok (.iadd, 1) := by decide +kernel
theorem dL_law_309 : decode cL_law 309 = .ok (.iaload, 1) := by decide +kernel
theorem dL_law_310 : decode cL_law 310 = .ok (.invokevirtual 40, 3) := by decide +kernel
theorem dL_law_313 : decode cL_law 313 = .ok (.pop, 1) := by decide +kernel
theorem dL_law_314 : decode cL_law 314 = .ok (.aload_n 2, 1) := by decide +kernel
theorem dL_law_315 : decode cL_law 315 = .ok (.aload_n 0, 1) := by decide +kernel
theorem dL_law_316 : decode cL_law 316 = .ok (.iload_n 3, 1) := by decide +kernel
theorem dL_law_317 : decode cL_law 317 = .ok (.iconst 1, 1) := by decide +kernel
theorem dL_law_318 : decode cL_law 318 = .ok (.iadd, 1) := by decide +kernel
theorem dL_law_319 : decode cL_law 319 = .ok (.iaload, 1) := by decide +kernel
theorem dL_law_320 : decode cL_law 320 = .ok (.invokevirtual 43, 3) := by decide +kernel
theorem dL_law_323 : decode cL_law 323 = .ok (.pop, 1) := by decide +kernel
theorem dL_law_324 : decode cL_law 324 = .ok (.goto 223, 3) := by decide +kernel
theorem dL_law_327 : decode cL_law 327 = .ok (.aload_n 1, 1) := by decide +kernel
theorem dL_law_328 : decode cL_law 328 = .ok (.aload_n 0, 1) := by decide +kernel
theorem dL_law_329 : decode cL_law 329 = .ok (.iload_n 3, 1) := by decide +kernel
theorem dL_law_330 : decode cL_law 330 = .ok (.iconst 1, 1) := by decide +kernel
theorem dL_law_331 : decode cL_law 331 = .ok (.iadd, 1) := by decide +kernel
theorem dL_law_332 : decode cL_law 332 = .ok (.iaload, 1) := by decide +kernel
theorem dL_law_333 : decode cL_law 333 = .ok (.invokevirtual 44, 3) := by decide +kernel
theorem dL_law_336 : decode cL_law 336 = .ok (.pop, 1) := by decide +kernel
theorem dL_law_337 : decode cL_law 337 = .ok (.aload_n 2, 1) := by decide +kernel
theorem dL_law_338 : decode cL_law 338 = .ok (.aload_n 0, 1) := by decide +kernel
theorem dL_law_339 : decode cL_law 339 = .ok (.iload_n 3, 1) := by decide +kernel
theorem dL_law_340 : decode cL_law 340 = .ok (.iconst 1, 1) := by decide +kernel
theorem dL_law_341 : decode cL_law 341 = .ok (.iadd, 1) := by decide +kernel
theorem dL_law_342 : decode cL_law 342 = .ok (.iaload, 1) := by decide +kernel
theorem dL_law_343 : decode cL_law 343 = .ok (.invokevirtual 47, 3) := by decide +kernel
theorem dL_law_346 : decode cL_law 346 = .ok (.pop, 1) := by decide +kernel
theorem dL_law_347 : decode cL_law 347 = .ok (.goto 200, 3) := by decide +kernel
theorem dL_law_350 : decode cL_law 350 = .ok (.aload_n 1, 1) := by decide +kernel
theorem dL_law_351 : decode cL_law 351 = .ok (.aload_n 0, 1) := by decide +kernel
theorem dL_law_352 : decode cL_law 352 = .ok (.iload_n 3, 1) := by decide +kernel
theorem dL_law_353 : decode cL_law 353 = .ok (.iconst 1, 1) := by decide +kernel
theorem dL_law_354 : decode cL_law 354 = .ok (.iadd, 1) := by decide +kernel
theorem dL_law_355 : decode cL_law 355 = .ok (.iaload, 1) := by decide +kernel
theorem dL_law_356 : decode cL_law 356 = .ok (.invokevirtual 48, 3) := by decide +kernel
theorem dL_law_359 : decode cL_law 359 = .ok (.pop, 1) := by decide +kernel
theorem dL_law_360 : decode cL_law 360 = .ok (.aload_n 2, 1) := by decide +kernel
theorem dL_law_361 : decode cL_law 361 = .ok (.aload_n 0, 1) := by decide +kernel
theorem dL_law_362 : decode cL_law 362 = .ok (.iload_n 3, 1) := by decide +kernel
theorem dL_law_363 : decode cL_law 363 = .ok (.iconst 1, 1) := by decide +kernel
theorem dL_law_364 : decode cL_law 364 = .ok (.iadd, 1) := by decide +kernel
theorem dL_law_365 : decode cL_law 365 = .ok (.iaload, 1) := by decide +kernel
theorem dL_law_366 : decode cL_law 366 = .ok (.invokevirtual 51, 3) := by decide +kernel
theorem dL_law_369 : decode cL_law 369 = .ok (.pop, 1) := by decide +kernel
theorem dL_law_370 : decode cL_law 370 = .ok (.goto 177, 3) := by decide +kernel
theorem dL_law_373 : decode cL_law 373 = .ok (.aload_n 1, 1) := by decide +kernel
theorem dL_law_374 : decode cL_law 374 = .ok (.invokevirtual 52, 3) := by decide +kernel
theorem dL_law_377 : decode cL_law 377 = .ok (.pop, 1) := by decide +kernel
theorem dL_law_378 : decode cL_law 378 = .ok (.aload_n 2, 1) := by decide +kernel
theorem dL_law_379 : decode cL_law 379 = .ok (.invokevirtual 56, 3) := by decide +kernel
theorem dL_law_382 : decode cL_law 382 = .ok (.pop, 1) := by decide +kernel
theorem dL_law_383 : decode cL_law 383 = .ok (.goto 164, 3) := by decide +kernel
theorem dL_law_386 : decode cL_law 386 = .ok (.aload_n 1, 1) := by decide +kernel
theorem dL_law_387 : decode cL_law 387 = .ok (.invokevirtual 57, 3) := by decide +kernel
theorem dL_law_390 : decode cL_law 390 = .ok (.aload_n 2, 1) := by decide +kernel
theorem dL_law_391 : decode cL_law 391 = .ok (.invokevirtual 60, 3) := by decide +kernel
theorem dL_law_394 : decode cL_law 394 = .ok (.if_icmp .eq 153, 3) := by decide +kernel
theorem dL_law_397 : decode cL_law 397 = .ok (.iconst 0, 1) := by decide +kernel
theorem dL_law_398 : decode cL_law 398 = .ok (.ireturn, 1) := by decide +kernel
theorem dL_law_399 : decode cL_law 399 = .ok (.aload_n 1, 1) := by decide +kernel
theorem dL_law_400 : decode cL_law 400 = .ok (.aload_n 0, 1) := by decide +kernel
theorem dL_law_401 : decode cL_law 401 = .ok (.iload_n 3, 1) := by decide +kernel
theorem dL_law_402 : decode cL_law 402 = .ok (.iconst 1, 1) := by decide +kernel
theorem dL_law_403 : decode cL_law 403 = .ok (.iadd, 1) := by decide +kernel
theorem dL_law_404 : decode cL_law 404 = .ok (.iaload, 1) := by decide +kernel
theorem dL_law_405 : decode cL_law 405 = .ok (.aload_n 0, 1) := by decide +kernel
theorem dL_law_406 : decode cL_law 406 = .ok (.iload_n 3, 1) := by decide +kernel
theorem dL_law_407 : decode cL_law 407 = .ok (.iconst 2, 1) := by decide +kernel
theorem dL_law_408 : decode cL_law 408 = .ok (.iadd, 1) := by decide +kernel
theorem dL_law_409 : decode cL_law 409 = .ok (.iaload, 1) := by decide +kernel
theorem dL_law_410 : decode cL_law 410 = .ok (.invokevirtual 61, 3) := by decide +kernel
theorem dL_law_413 : decode cL_law 413 = .ok (.pop, 1) := by decide +kernel
theorem dL_law_414 : decode cL_law 414 = .ok (.aload_n 2, 1) := by decide +kernel
theorem dL_law_415 : decode cL_law 415 = .ok (.aload_n 0, 1) := by decide +kernel
theorem dL_law_416 : decode cL_law 416 = .ok (.iload_n 3, 1) := by decide +kernel
theorem dL_law_417 : decode cL_law 417 = .ok (.iconst 1, 1) := by decide +kernel
theorem dL_law_418 : decode cL_law 418 = .ok (.iadd, 1) := by decide +kernel
theorem dL_law_419 : decode cL_law 419 = .ok (.iaload, 1) := by decide +kernel
theorem dL_law_420 : decode cL_law 420 = .ok (.aload_n 0, 1) := by decide +kernel
theorem dL_law_421 : decode cL_law 421 = .ok (.iload_n 3, 1) := by decide +kernel
theorem dL_law_422 : decode cL_law 422 = .ok (.iconst 2, 1) := by decide +kernel
theorem dL_law_423 : decode cL_law 423 = .ok (.iadd, 1) := by decide +kernel
theorem dL_law_424 : decode cL_law 424 = .ok (.iaload, 1) := by decide +kernel
theorem dL_law_425 : decode cL_law 425 = .ok (.invokevirtual 64, 3) := by decide +kernel
theorem dL_law_428 : decode cL_law 428 = .ok (.pop, 1) := by decide +kernel
theorem dL_law_429 : decode cL_law 429 = .ok (.goto 118, 3) := by decide +kernel
theorem dL_law_432 : decode cL_law 432 = .ok (.aload_n 1, 1) := by decide +kernel
theorem dL_law_433 : decode cL_law 433 = .ok (.aload_n 0, 1) := by decide +kernel
theorem dL_law_434 : decode cL_law 434 = .ok (.iload_n 3, 1) := by decide +kernel
theorem dL_law_435 : decode cL_law 435 = .ok (.iconst 1, 1) := by decide +kernel
theorem dL_law_436 : decode cL_law 436 = .ok (.iadd, 1) := by decide +kernel
theorem dL_law_437 : decode cL_law 437 = .ok (.iaload, 1) := by decide +kernel
theorem dL_law_438 : decode cL_law 438 = .ok (.invokevirtual 65, 3) := by decide +kernel
theorem dL_law_441 : decode cL_law 441 = .ok (.pop, 1) := by decide +kernel
theorem dL_law_442 : decode cL_law 442 = .ok (.aload_n 2, 1) := by decide +kernel
theorem dL_law_443 : decode cL_law 443 = .ok (.aload_n 0, 1) := by decide +kernel
theorem dL_law_444 : decode cL_law 444 = .ok (.iload_n 3, 1) := by decide +kernel
theorem dL_law_445 : decode cL_law 445 = .ok (.iconst 1, 1) := by decide +kernel
theorem dL_law_446 : decode cL_law 446 = .ok (.iadd, 1) := by decide +kernel
theorem dL_law_447 : decode cL_law 447 = .ok (.iaload, 1) := by decide +kernel
theorem dL_law_448 : decode cL_law 448 = .ok (.invokevirtual 68, 3) := by decide +kernel
theorem dL_law_451 : decode cL_law 451 = .ok (.pop, 1) := by decide +kernel
theorem dL_law_452 : decode cL_law 452 = .ok (.goto 95, 3) := by decide +kernel
theorem dL_law_455 : decode cL_law 455 = .ok (.aload_n 1, 1) := by decide +kernel
theorem dL_law_456 : decode cL_law 456 = .ok (.aload_n 0, 1) := by decide +kernel
theorem dL_law_457 : decode cL_law 457 = .ok (.iload_n 3, 1) := by decide +kernel
theorem dL_law_458 : decode cL_law 458 = .ok (.iconst 1, 1) := by decide +kernel
theorem dL_law_459 : decode cL_law 459 = .ok (.iadd, 1) := by decide +kernel
theorem dL_law_460 : decode cL_law 460 = .ok (.iaload, 1) := by decide +kernel
theorem dL_law_461 : decode cL_law 461 = .ok (.aload_n 0, 1) := by decide +kernel
theorem dL_law_462 : decode cL_law 462 = .ok (.iload_n 3, 1) := by decide +kernel
theorem dL_law_463 : decode cL_law 463 = .ok (.iconst 2, 1) := by decide +kernel
theorem dL_law_464 : decode cL_law 464 = .ok (.iadd, 1) := by decide +kernel
theorem dL_law_465 : decode cL_law 465 = .ok (.iaload, 1) := by decide +kernel
theorem dL_law_466 : decode cL_law 466 = .ok (.invokevirtual 69, 3) := by decide +kernel
theorem dL_law_469 : decode cL_law 469 = .ok (.pop, 1) := by decide +kernel
theorem dL_law_470 : decode cL_law 470 = .ok (.aload_n 2, 1) := by decide +kernel
theorem dL_law_471 : decode cL_law 471 = .ok (.aload_n 0, 1) := by decide +kernel
theorem dL_law_472 : decode cL_law 472 = .ok (.iload_n 3, 1) := by decide +kernel
theorem dL_law_473 : decode cL_law 473 = .ok (.iconst 1, 1) := by decide +kernel
theorem dL_law_474 : decode cL_law 474 = .ok (.iadd, 1) := by decide +kernel
theorem dL_law_475 : decode cL_law 475 = .ok (.iaload, 1) := by decide +kernel
theorem dL_law_476 : decode cL_law 476 = .ok (.aload_n 0, 1) := by decide +kernel
theorem dL_law_477 : decode cL_law 477 = .ok (.iload_n 3, 1) := by decide +kernel
theorem dL_law_478 : decode cL_law 478 = .ok (.iconst 2, 1) := by decide +kernel
theorem dL_law_479 : decode cL_law 479 = .ok (.iadd, 1) := by decide +kernel
theorem dL_law_480 : decode cL_law 480 = .ok (.iaload, 1) := by decide +kernel
theorem dL_law_481 : decode cL_law 481 = .ok (.invokevirtual 72, 3) := by decide +kernel
theorem dL_law_484 : decode cL_law 484 = .ok (.pop, 1) := by decide +kernel
theorem dL_law_485 : decode cL_law 485 = .ok (.goto 62, 3) := by decide +kernel
theorem dL_law_488 : decode cL_law 488 = .ok (.aload_n 1, 1) := by decide +kernel
theorem dL_law_489 : decode cL_law 489 = .ok (.aload_n 0, 1) := by decide +kernel
theorem dL_law_490 : decode cL_law 490 = .ok (.iload_n 3, 1) := by decide +kernel
theorem dL_law_491 : decode cL_law 491 = .ok (.iconst 1, 1) := by decide +kernel
theorem dL_law_492 : decode cL_law 492 = .ok (.iadd, 1) := by decide +kernel
theorem dL_law_493 : decode cL_law 493 = .ok (.iaload, 1) := by decide +kernel
theorem dL_law_494 : decode cL_law 494 = .ok (.invokevirtual 73, 3) := by decide +kernel
theorem dL_law_497 : decode cL_law 497 = .ok (.pop, 1) := by decide +kernel
theorem dL_law_498 : decode cL_law 498 = .ok (.aload_n 2, 1) := by decide +kernel
theorem dL_law_499 : decode cL_law 499 = .ok (.aload_n 0, 1) := by decide +kernel
theorem dL_law_500 : decode cL_law 500 = .ok (.iload_n 3, 1) := by decide +kernel
theorem dL_law_501 : decode cL_law 501 = .ok (.iconst 1, 1) := by decide +kernel
theorem dL_law_502 : decode cL_law 502 = .ok (.iadd, 1) := by decide +kernel
theorem dL_law_503 : decode cL_law 503 = .ok (.iaload, 1) := by decide +kernel
theorem dL_law_504 : decode cL_law 504 = .ok (.invokevirtual 76, 3) := by decide +kernel
theorem dL_law_507 : decode cL_law 507 = .ok (.pop, 1) := by decide +kernel
theorem dL_law_508 : decode cL_law 508 = .ok (.goto 39, 3) := by decide +kernel
theorem dL_law_511 : decode cL_law 511 = .ok (.aload_n 1, 1) := by decide +kernel
theorem dL_law_512 : decode cL_law 512 = .ok (.aload_n 0, 1) := by decide +kernel
theorem dL_law_513 : decode cL_law 513 = .ok (.iload_n 3, 1) := by decide +kernel
theorem dL_law_514 : decode cL_law 514 = .ok (.iconst 1, 1) := by decide +kernel
theorem dL_law_515 : decode cL_law 515 = .ok (.iadd, 1) := by decide +kernel
theorem dL_law_516 : decode cL_law 516 = .ok (.iaload, 1) := by decide +kernel
theorem dL_law_517 : decode cL_law 517 = .ok (.invokevirtual 77, 3) := by decide +kernel
theorem dL_law_520 : decode cL_law 520 = .ok (.pop, 1) := by decide +kernel
theorem dL_law_521 : decode cL_law 521 = .ok (.aload_n 2, 1) := by decide +kernel
theorem dL_law_522 : decode cL_law 522 = .ok (.aload_n 0, 1) := by decide +kernel
theorem dL_law_523 : decode cL_law 523 = .ok (.iload_n 3, 1) := by decide +kernel
theorem dL_law_524 : decode cL_law 524 = .ok (.iconst 1, 1) := by decide +kernel
theorem dL_law_525 : decode cL_law 525 = .ok (.iadd, 1) := by decide +kernel
theorem dL_law_526 : decode cL_law 526 = .ok (.iaload, 1) := by decide +kernel
theorem dL_law_527 : decode cL_law 527 = .ok (.invokevirtual 80, 3) := by decide +kernel
theorem dL_law_530 : decode cL_law 530 = .ok (.pop, 1) := by decide +kernel
theorem dL_law_531 : decode cL_law 531 = .ok (.goto 16, 3) := by decide +kernel
theorem dL_law_534 : decode cL_law 534 = .ok (.aload_n 1, 1) := by decide +kernel
theorem dL_law_535 : decode cL_law 535 = .ok (.invokevirtual 81, 3) := by decide +kernel
theorem dL_law_538 : decode cL_law 538 = .ok (.pop, 1) := by decide +kernel
theorem dL_law_539 : decode cL_law 539 = .ok (.aload_n 2, 1) := by decide +kernel
theorem dL_law_540 : decode cL_law 540 = .ok (.invokevirtual 84, 3) := by decide +kernel
theorem dL_law_543 : decode cL_law 543 = .ok (.pop, 1) := by decide +kernel
theorem dL_law_544 : decode cL_law 544 = .ok (.goto 3, 3) := by decide +kernel
theorem dL_law_547 : decode cL_law 547 = .ok (.iinc 3 4, 3) := by decide +kernel
theorem dL_law_550 : decode cL_law 550 = .ok (.goto (-532), 3) := by decide +kernel
theorem dL_law_553 : decode cL_law 553 = .ok (.iconst 1, 1) := by decide +kernel
theorem dL_law_554 : decode cL_law 554 = .ok (.ireturn, 1) := by decide +kernel
end
section
/-- which fields hold references -/
def hv_R (ci k : Nat) : Bool := match ci with
  | 0 => k == 7
  | 1 => k < 4
  | 2 => k == 1
  | 3 => k < 3
  | _ => k == 2 || k == 6 || (14 ≤ k && k < 30) || k == 31
/-- the arrays' types -/
def hv_tys (tc : Nat → ClassId) : List (ClassId × FieldType) := [(tc 0, .int), (tc 1, .boolean), (tc 2, .object "CommitSites$Site"), (tc 3, .object "CommitSites$Message"), (tc 4, .array .int)]
/-! ===== a view of the heap: kinds of cells, int fields, reference fields, int elements, reference elements, number of cells, number of slots ===== -/
abbrev hv_V : Type := (Nat → Nat × Nat) × (Nat → Nat → Int32) × (Nat → Nat → Option Nat) × (Nat → Nat → Int32) × (Nat → Nat → Option Nat) × Nat × Nat
def hv_k (v : hv_V) (a : Nat) : Nat × Nat := v.1 a
def hv_i (v : hv_V) (f a : Nat) : Int32 := v.2.1 f a
def hv_p (v : hv_V) (f a : Nat) : Option Nat := v.2.2.1 f a
def hv_a (v : hv_V) (a j : Nat) : Int32 := v.2.2.2.1 a j
def hv_q (v : hv_V) (a j : Nat) : Option Nat := v.2.2.2.2.1 a j
def hv_n (v : hv_V) : Nat := v.2.2.2.2.2.1
def hv_t (v : hv_V) : Nat := v.2.2.2.2.2.2
def hv_u {α : Type} (m : Nat → Nat → α) (f a : Nat) (x : α) : Nat → Nat → α := fun g b => if g = f ∧ b = a then x else m g b
def hv_si (v : hv_V) (f a : Nat) (x : Int32) : hv_V := (v.1, hv_u v.2.1 f a x, v.2.2)
def hv_sp (v : hv_V) (f a : Nat) (x : Option Nat) : hv_V := (v.1, v.2.1, hv_u v.2.2.1 f a x, v.2.2.2)
def hv_sa (v : hv_V) (a j : Nat) (x : Int32) : hv_V := (v.1, v.2.1, v.2.2.1, hv_u v.2.2.2.1 a j x, v.2.2.2.2)
def hv_sq (v : hv_V) (a j : Nat) (x : Option Nat) : hv_V := (v.1, v.2.1, v.2.2.1, v.2.2.2.1, hv_u v.2.2.2.2.1 a j x, v.2.2.2.2.2)
/-- a new cell of kind kd, with w slots, at the heap's end -/
def hv_nw (v : hv_V) (kd : Nat × Nat) (w : Nat) : hv_V := (va_up v.1 (hv_n v) kd, (fun f a => if a = hv_n v then 0 else v.2.1 f a), (fun f a => if a = hv_n v then none else v.2.2.1 f a), (fun a j => if a = hv_n v then 0 else v.2.2.2.1 a j), (fun a j => if a = hv_n v then none else v.2.2.2.2.1 a j), hv_n v + 1, hv_t v + w)
/-- the same cells in a heap of another size -/
def hv_sz (v : hv_V) (n t : Nat) : hv_V := (v.1, v.2.1, v.2.2.1, v.2.2.2.1, v.2.2.2.2.1, n, t)
theorem hv_u_s {α : Type} (m : Nat → Nat → α) (f a : Nat) (x : α) : hv_u m f a x f a = x := by simp [hv_u]
theorem hv_u_n {α : Type} (m : Nat → Nat → α) {f a g b : Nat} (x : α) (h : ¬ (g = f ∧ b = a)) : hv_u m f a x g b = m g b := by simp [hv_u, h]
theorem hv_si_i (v : hv_V) (f a : Nat) (x : Int32) (g b : Nat) : hv_i (hv_si v f a x) g b = if g = f ∧ b = a then x else hv_i v g b := rfl
theorem hv_si_k (v : hv_V) (f a : Nat) (x : Int32) (b : Nat) : hv_k (hv_si v f a x) b = hv_k v b := rfl
theorem hv_si_p (v : hv_V) (f a : Nat) (x : Int32) (g b : Nat) : hv_p (hv_si v f a x) g b = hv_p v g b := rfl
theorem hv_si_a (v : hv_V) (f a : Nat) (x : Int32) (g b : Nat) : hv_a (hv_si v f a x) g b = hv_a v g b := rfl
theorem hv_si_q (v : hv_V) (f a : Nat) (x : Int32) (g b : Nat) : hv_q (hv_si v f a x) g b = hv_q v g b := rfl
theorem hv_si_n (v : hv_V) (f a : Nat) (x : Int32) : hv_n (hv_si v f a x) = hv_n v := rfl
theorem hv_si_t (v : hv_V) (f a : Nat) (x : Int32) : hv_t (hv_si v f a x) = hv_t v := rfl
theorem hv_sp_p (v : hv_V) (f a : Nat) (x : Option Nat) (g b : Nat) : hv_p (hv_sp v f a x) g b = if g = f ∧ b = a then x else hv_p v g b := rfl
theorem hv_sp_k (v : hv_V) (f a : Nat) (x : Option Nat) (b : Nat) : hv_k (hv_sp v f a x) b = hv_k v b := rfl
theorem hv_sp_i (v : hv_V) (f a : Nat) (x : Option Nat) (g b : Nat) : hv_i (hv_sp v f a x) g b = hv_i v g b := rfl
theorem hv_sp_a (v : hv_V) (f a : Nat) (x : Option Nat) (g b : Nat) : hv_a (hv_sp v f a x) g b = hv_a v g b := rfl
theorem hv_sp_q (v : hv_V) (f a : Nat) (x : Option Nat) (g b : Nat) : hv_q (hv_sp v f a x) g b = hv_q v g b := rfl
theorem hv_sp_n (v : hv_V) (f a : Nat) (x : Option Nat) : hv_n (hv_sp v f a x) = hv_n v := rfl
theorem hv_sp_t (v : hv_V) (f a : Nat) (x : Option Nat) : hv_t (hv_sp v f a x) = hv_t v := rfl
theorem hv_sa_a (v : hv_V) (a j : Nat) (x : Int32) (b i : Nat) : hv_a (hv_sa v a j x) b i = if b = a ∧ i = j then x else hv_a v b i := rfl
theorem hv_sa_k (v : hv_V) (a j : Nat) (x : Int32) (b : Nat) : hv_k (hv_sa v a j x) b = hv_k v b := rfl
theorem hv_sa_i (v : hv_V) (a j : Nat) (x : Int32) (g b : Nat) : hv_i (hv_sa v a j x) g b = hv_i v g b := rfl
theorem hv_sa_p (v : hv_V) (a j : Nat) (x : Int32) (g b : Nat) : hv_p (hv_sa v a j x) g b = hv_p v g b := rfl
theorem hv_sa_q (v : hv_V) (a j : Nat) (x : Int32) (g b : Nat) : hv_q (hv_sa v a j x) g b = hv_q v g b := rfl
theorem hv_sa_n (v : hv_V) (a j : Nat) (x : Int32) : hv_n (hv_sa v a j x) = hv_n v := rfl
theorem hv_sa_t (v : hv_V) (a j : Nat) (x : Int32) : hv_t (hv_sa v a j x) = hv_t v := rfl
theorem hv_sq_q (v : hv_V) (a j : Nat) (x : Option Nat) (b i : Nat) : hv_q (hv_sq v a j x) b i = if b = a ∧ i = j then x else hv_q v b i := rfl
theorem hv_sq_k (v : hv_V) (a j : Nat) (x : Option Nat) (b : Nat) : hv_k (hv_sq v a j x) b = hv_k v b := rfl
theorem hv_sq_i (v : hv_V) (a j : Nat) (x : Option Nat) (g b : Nat) : hv_i (hv_sq v a j x) g b = hv_i v g b := rfl
theorem hv_sq_p (v : hv_V) (a j : Nat) (x : Option Nat) (g b : Nat) : hv_p (hv_sq v a j x) g b = hv_p v g b := rfl
theorem hv_sq_a (v : hv_V) (a j : Nat) (x : Option Nat) (g b : Nat) : hv_a (hv_sq v a j x) g b = hv_a v g b := rfl
theorem hv_sq_n (v : hv_V) (a j : Nat) (x : Option Nat) : hv_n (hv_sq v a j x) = hv_n v := rfl
theorem hv_sq_t (v : hv_V) (a j : Nat) (x : Option Nat) : hv_t (hv_sq v a j x) = hv_t v := rfl
/-- all slots of a heap -/
def hv_tot (H : Heap) : Nat := H.foldl (fun n c => n + c.slots.size) 0
theorem hv_tot_list (H : Heap) : hv_tot H = (H.toList.map (fun c => c.slots.size)).foldl (fun n x => n + x) 0 := by
  unfold hv_tot
  rw [← Array.foldl_toList, List.foldl_map]
theorem hv_tot_eq {H H1 : Heap} (h : ∀ q : Nat, (H1[q]?).map (fun c => c.slots.size) = (H[q]?).map (fun c => c.slots.size)) : hv_tot H1 = hv_tot H := by
  rw [hv_tot_list, hv_tot_list]
  congr 1
  apply List.ext_getElem?
  intro q
  rw [List.getElem?_map, List.getElem?_map, Array.getElem?_toList, Array.getElem?_toList]
  exact h q
theorem hv_tot_set {H H1 : Heap} {a i : Nat} {cell : Cell} {x : Value} (h0 : H[a]? = some cell) (h1 : H1[a]? = some (cell.setSlot i x)) (ho : ∀ q, q ≠ a → H1[q]? = H[q]?) : hv_tot H1 = hv_tot H := by
  apply hv_tot_eq
  intro q
  by_cases hq : q = a
  · subst hq
    rw [h0, h1]
    simp [Cell.setSlot]
  · rw [ho q hq]
theorem hv_push_of {H H1 : Heap} {cell : Cell} (h1 : H1[H.size]? = some cell) (hz : H1.size = H.size + 1) (ho : ∀ q, q < H.size → H1[q]? = H[q]?) : H1 = H.push cell := by
  apply Array.ext_getElem?
  intro q
  rw [Array.getElem?_push]
  by_cases hq : q = H.size
  · rw [if_pos hq, hq, h1]
  · rw [if_neg hq]
    by_cases hl : q < H.size
    · exact ho q hl
    · rw [Array.getElem?_eq_none (by omega), Array.getElem?_eq_none (by omega)]
theorem hv_tot_push (H : Heap) (cell : Cell) : hv_tot (H.push cell) = hv_tot H + cell.slots.size := by
  unfold hv_tot
  rw [Array.foldl_push]
/-- what a cell of an object holds -/
def hv_val (v : hv_V) (ci a k : Nat) : Value := if hv_R ci k = true then va_rf (hv_p v (100 * ci + k) a) else .int (hv_i v (100 * ci + k) a)
/-- the heap holds at a what the view says -/
def hv_c (D : va_G) (tc : Nat → ClassId) (v : hv_V) (H : Heap) (a : Nat) : Prop :=
  (∀ ci : Nat, hv_k v a = (ci + 1, 0) → ci < 99 → ∃ r : vw_C, vwCl[ci]? = some r ∧ t_OB a (D.1 ci) r.2.2 (D.2 ci) H (hv_val v ci a)) ∧
  (∀ t n : Nat, hv_k v a = (100 + t, n) → t < 2 → H[a]? = some (arrV (tc t) n (fun j => .int (hv_a v a j)))) ∧
  (∀ t n : Nat, hv_k v a = (102 + t, n) → H[a]? = some (arrV (tc (2 + t)) n (fun j => va_rf (hv_q v a j))))
def hv_W (D : va_G) (tc : Nat → ClassId) (v : hv_V) (H : Heap) : Prop := (∀ a : Nat, hv_c D tc v H a) ∧ (∀ a : Nat, (hv_k v a).1 ≠ 0 → a < hv_n v) ∧ H.size = hv_n v ∧ hv_tot H = hv_t v
/-- what may be changed: the view's cells, and new ones -/
def hv_A (v : hv_V) : Nat → Prop := fun q => (hv_k v q).1 ≠ 0 ∨ hv_n v ≤ q
/-- where a walk stands: the view holds; its cells may be changed; nothing else has been -/
def hv_St (A : Nat → Prop) (s : State) (D : va_G) (tc : Nat → ClassId) (v : hv_V) (H : Heap) (locs : List Loc) : Prop :=
  hv_W D tc v H ∧ (∀ a : Nat, (hv_k v a).1 ≠ 0 → A a) ∧ va_S A s.heap H locs ∧ ∀ q : Nat, s.heap.size ≤ q → A q
/-- words that are no good words, for the few that need them -/
def hv_N (U : State) : Prop := va_Nw (.methodLinkNest "CommitSites$Network" 48 yX3_hasBit "CommitSites") U ∧ va_Nw (.methodLinkNest "CommitSites$Network" 52 yX0_init "CommitSites") U ∧ va_Nw (.arrayOver (.object "CommitSites$Site")) U ∧ va_Nw (.arrayOver (.object "CommitSites$Message")) U ∧ va_Nw (.arrayOver (.array .int)) U
theorem hv_over {a a' : Array Value} {U U' : State} (hal : U.vm.Alike U'.vm) (h : (Cond.arrayOver (.array .int)).before a U = true) : (Cond.arrayOver (.array .int)).before a' U' = true := by
  simp only [Cond.before, Cond.holds, Cond.value] at h ⊢
  rw [hal.findClass]
  cases hf : U.vm.findClass (FieldType.array .int).toString with
  | none => rw [hf] at h; simp at h
  | some comp =>
    rw [hf] at h
    simp only [Option.bind_some] at h ⊢
    rw [hal.findIdx_congr _ (fun _ _ _ _ => rfl)]
    generalize hF : (U.vm.classes.findIdx? fun (x : Class) => match x.kind with | .array component _ => component == comp | _ => false) = fi at h ⊢
    cases fi with
    | none => simp at h
    | some c =>
      simp only [Option.bind_some] at h ⊢
      cases hk : U.vm.classes[c]? with
      | none => rw [hk] at h; simp at h
      | some k =>
        obtain ⟨k', hk', ek⟩ := hal.2.2 _ _ hk
        rw [hk] at h
        rw [hk', hal.findClass]
        have ekind : k'.kind = k.kind := by rw [ek]
        simp only [Option.map_some] at h ⊢
        rw [ekind]
        exact h
def hv_K (D : va_G) (tc : Nat → ClassId) (U : State) : Prop := va_K D vwCl (hv_tys tc) U ∧ hv_N U
theorem hv_K.warm {D : va_G} {tc : Nat → ClassId} {s U : State} (hW : s.WarmedH U.vm) (h : hv_K D tc s) : hv_K D tc U := ⟨va_K.moved hW.alike h.1, va_Nw.warmM hW h.2.1, va_Nw.warmM hW h.2.2.1, Cond.arrayOver_alike hW.alike h.2.2.2.1, Cond.arrayOver_alike hW.alike h.2.2.2.2.1, hv_over hW.alike h.2.2.2.2.2⟩
theorem hv_K.same {D : va_G} {tc : Nat → ClassId} {s U : State} (hW : s.vm = U.vm) (h : hv_K D tc s) : hv_K D tc U := ⟨va_K.moved (by rw [hW]; exact Vm.Alike.refl _) h.1, va_Nw.same rfl hW h.2.1, va_Nw.same rfl hW h.2.2.1, Cond.arrayOver_alike (by rw [hW]; exact Vm.Alike.refl _) h.2.2.2.1, Cond.arrayOver_alike (by rw [hW]; exact Vm.Alike.refl _) h.2.2.2.2.1, hv_over (by rw [hW]; exact Vm.Alike.refl _) h.2.2.2.2.2⟩
def hv_Pre (D : va_G) (tc : Nat → ClassId) (v : hv_V) (U : State) : Prop := hv_K D tc U ∧ hv_W D tc v U.heap
def hv_Post (D : va_G) (tc : Nat → ClassId) (A : Nat → Prop) (v : hv_V) (t : State) : Prop := hv_K D tc t ∧ hv_W D tc v t.heap ∧ ∀ a : Nat, (hv_k v a).1 ≠ 0 → A a
theorem hv_c_kept {D : va_G} {tc : Nat → ClassId} {v v1 : hv_V} {H H1 : Heap} {a : Nat} (h : hv_c D tc v H a) (hq : H1[a]? = H[a]?) (hk : hv_k v1 a = hv_k v a) (hi : ∀ f, hv_i v1 f a = hv_i v f a) (hp : ∀ f, hv_p v1 f a = hv_p v f a) (ha : ∀ j, hv_a v1 a j = hv_a v a j) (hqq : ∀ j, hv_q v1 a j = hv_q v a j) : hv_c D tc v1 H1 a := by
  refine ⟨fun ci h1 h2 => ?_, fun t n h1 h2 => ?_, fun t n h1 => ?_⟩
  · obtain ⟨r, g1, g2⟩ := h.1 ci (hk ▸ h1) h2
    exact ⟨r, g1, (g2.kept hq).to (fun k _ => by unfold hv_val; rw [hi, hp])⟩
  · rw [hq, h.2.1 t n (hk ▸ h1) h2]
    simp only [ha]
  · rw [hq, h.2.2 t n (hk ▸ h1)]
    simp only [hqq]
/-- a view beside which others have worked -/
theorem hv_W_beside {D : va_G} {tc : Nat → ClassId} {v : hv_V} {H H1 : Heap} (h : hv_W D tc v H) (hle : H.size ≤ H1.size) (hq : ∀ a, (hv_k v a).1 ≠ 0 → H1[a]? = H[a]?) : hv_W D tc (hv_sz v H1.size (hv_tot H1)) H1 := by
  refine ⟨fun a => ?_, fun a ha => ?_, rfl, rfl⟩
  · by_cases h0 : (hv_k v a).1 = 0
    · refine ⟨fun ci h1 h2 => ?_, fun t n h1 h2 => ?_, fun t n h1 => ?_⟩
      · have h1 : hv_k v a = (ci + 1, 0) := h1
        rw [h1] at h0
        exact absurd h0 (Nat.succ_ne_zero ci)
      · have h1 : hv_k v a = (100 + t, n) := h1
        rw [h1] at h0
        exact absurd h0 (by show ¬ (100 + t = 0); omega)
      · have h1 : hv_k v a = (102 + t, n) := h1
        rw [h1] at h0
        exact absurd h0 (by show ¬ (102 + t = 0); omega)
    · exact hv_c_kept (h.1 a) (hq a h0) rfl (fun _ => rfl) (fun _ => rfl) (fun _ => rfl) (fun _ => rfl)
  · have h1 := h.2.1 a ha
    rw [← h.2.2.1] at h1
    exact Nat.lt_of_lt_of_le h1 hle
end
section
theorem hv_dom_ne {v : hv_V} {a ci : Nat} (h : hv_k v a = (ci + 1, 0)) : (hv_k v a).1 ≠ 0 := by rw [h]; exact Nat.succ_ne_zero ci
theorem hv_dom_nea {v : hv_V} {a t n : Nat} (h : hv_k v a = (100 + t, n)) : (hv_k v a).1 ≠ 0 := by rw [h]; show 100 + t ≠ 0; omega
theorem hv_dom_neq {v : hv_V} {a t n : Nat} (h : hv_k v a = (102 + t, n)) : (hv_k v a).1 ≠ 0 := by rw [h]; show 102 + t ≠ 0; omega
theorem hv_W_put {D : va_G} {tc : Nat → ClassId} {v v1 : hv_V} {H H1 : Heap} {a ci : Nat} {r : vw_C} (hW : hv_W D tc v H) (hk : hv_k v a = (ci + 1, 0)) (h99 : ci < 99) (hc : vwCl[ci]? = some r) (hk1 : ∀ b, hv_k v1 b = hv_k v b)
    (hb : ∀ b, b ≠ a → (∀ f, hv_i v1 f b = hv_i v f b) ∧ (∀ f, hv_p v1 f b = hv_p v f b) ∧ (∀ j, hv_a v1 b j = hv_a v b j) ∧ ∀ j, hv_q v1 b j = hv_q v b j) (hn : hv_n v1 = hv_n v) (ht : hv_t v1 = hv_t v) (hO : t_OB a (D.1 ci) r.2.2 (D.2 ci) H1 (hv_val v1 ci a)) (hz : H1.size = H.size) (htot : hv_tot H1 = hv_tot H) (ho : ∀ q, q ≠ a → H1[q]? = H[q]?) : hv_W D tc v1 H1 := by
  refine ⟨fun b => ?_, fun b h => ?_, by rw [hz, hn]; exact hW.2.2.1, by rw [htot, ht]; exact hW.2.2.2⟩
  · by_cases hba : b = a
    · subst hba
      refine ⟨fun ci' h1 h2 => ?_, fun t n h1 h2 => ?_, fun t n h1 => ?_⟩
      · rw [hk1, hk] at h1
        have : ci' = ci := by have := congrArg Prod.fst h1; simp at this; omega
        subst this
        exact ⟨r, hc, hO⟩
      · rw [hk1, hk] at h1
        have := congrArg Prod.fst h1
        simp at this
        omega
      · rw [hk1, hk] at h1
        have := congrArg Prod.fst h1
        simp at this
        omega
    · obtain ⟨g1, g2, g3, g4⟩ := hb b hba
      exact hv_c_kept (hW.1 b) (ho b hba) (hk1 b) g1 g2 g3 g4
  · rw [hk1] at h
    rw [hn]
    exact hW.2.1 b h
theorem hv_W_ast {D : va_G} {tc : Nat → ClassId} {v v1 : hv_V} {H H1 : Heap} {a t n : Nat} (hW : hv_W D tc v H) (hk : hv_k v a = (100 + t, n)) (hk1 : ∀ b, hv_k v1 b = hv_k v b)
    (hb : ∀ b, b ≠ a → (∀ f, hv_i v1 f b = hv_i v f b) ∧ (∀ f, hv_p v1 f b = hv_p v f b) ∧ (∀ j, hv_a v1 b j = hv_a v b j) ∧ ∀ j, hv_q v1 b j = hv_q v b j) (hn : hv_n v1 = hv_n v) (ht : hv_t v1 = hv_t v)
    (h2 : t < 2 → H1[a]? = some (arrV (tc t) n (fun j => .int (hv_a v1 a j)))) (h3 : ¬ t < 2 → H1[a]? = some (arrV (tc t) n (fun j => va_rf (hv_q v1 a j)))) (hz : H1.size = H.size) (htot : hv_tot H1 = hv_tot H) (ho : ∀ q, q ≠ a → H1[q]? = H[q]?) : hv_W D tc v1 H1 := by
  refine ⟨fun b => ?_, fun b h => ?_, by rw [hz, hn]; exact hW.2.2.1, by rw [htot, ht]; exact hW.2.2.2⟩
  · by_cases hba : b = a
    · subst hba
      refine ⟨fun ci' h1 h2 => ?_, fun t' n' h1 h2' => ?_, fun t' n' h1 => ?_⟩
      · rw [hk1, hk] at h1
        have := congrArg Prod.fst h1
        simp at this
        omega
      · rw [hk1, hk] at h1
        have e1 := congrArg Prod.fst h1
        have e2 := congrArg Prod.snd h1
        simp at e1 e2
        have e1 : t = t' := by omega
        subst e1
        subst e2
        exact h2 h2'
      · rw [hk1, hk] at h1
        have e1 := congrArg Prod.fst h1
        have e2 := congrArg Prod.snd h1
        simp at e1 e2
        have e1 : t = 2 + t' := by omega
        subst e1
        subst e2
        exact h3 (by omega)
    · obtain ⟨g1, g2, g3, g4⟩ := hb b hba
      exact hv_c_kept (hW.1 b) (ho b hba) (hk1 b) g1 g2 g3 g4
  · rw [hk1] at h
    rw [hn]
    exact hW.2.1 b h
theorem hv_St_put {A : Nat → Prop} {s : State} {D : va_G} {tc : Nat → ClassId} {v v1 : hv_V} {H H1 : Heap} {locs : List Loc} {a k : Nat} (hT : hv_St A s D tc v H locs) (hW1 : hv_W D tc v1 H1) (hk1 : ∀ b, hv_k v1 b = hv_k v b) (ha : (hv_k v a).1 ≠ 0) (hz : H1.size = H.size) (ho : ∀ q, q ≠ a → H1[q]? = H[q]?) : hv_St A s D tc v1 H1 (locs ++ [⟨a, k⟩]) :=
  ⟨hW1, fun b h => hT.2.1 b (by rw [hk1] at h; exact h), hT.2.2.1.put hz ho (hT.2.1 a ha), hT.2.2.2⟩
section HVR
variable {p : Program} {l : Launch} {e : Env} {R : Room} {s : State} {m : MethodId} {args : Array Value} {below : List Frame} {meth : Method} {c : Code} {H : Heap} {locs : List Loc} {cells slots : Nat} {Q : State → Prop}
variable {cc : ByteArray} {pc : Nat} {ls : Array Slot} {rest : List Value} {D : va_G} {tc : Nat → ClassId} {v : hv_V} {A : Nat → Prop} {a : Nat}
/-- getfield of an int (or boolean) field -/
theorem hv_geti (hexec : p.tables.exec = Jvm.exec) (hb : c.code = cc) {own C : String} {T : u_T} {N ci index : Nat} {Ts : List Cond} (hts : ∀ w ∈ Ts, w.before args s = true) (hin : ∀ w ∈ u_ws C T N, w ∈ Ts) (hown : s.vm.findClass own = some m.cls) (hK : hv_K D tc s) (hT : hv_St A s D tc v H locs) (hk : hv_k v a = (ci + 1, 0)) (h99 : ci < 99) (hc : vwCl[ci]? = some (C, T, N)) (k : Nat) (hkN : k < N) (hlink : (Cond.fieldLink own index (T k).1 (T k).2.1 (T k).2.2.1).before args s = true) (hR : hv_R ci k = false) (hdg : decode cc pc = .ok (.getfield index, 3))
    (kk : W p l e R s m args below meth c H locs cells slots Q (F0 m (pc + 3) ls (.int (hv_i v (100 * ci + k) a) :: rest))) : W p l e R s m args below meth c H locs cells slots Q (F0 m pc ls (.ref a :: rest)) := by
  obtain ⟨r, h1, cell, q1, q2, q3, q4⟩ := (hT.1.1 a).1 ci hk h99
  have hr : r = (C, T, N) := Option.some.inj (h1.symm.trans hc)
  subst hr
  obtain ⟨hS, hfc, kC, hkC, hkind⟩ := hK.1.1 ci _ hc
  obtain ⟨cf, kf, fi, f, hi, hsl⟩ := hS k hkN
  refine W.getf hexec hb hown hlink hi (u_facts hfc hkC (u_lays hts hin hkN) hi).1 q1 (by rw [q3]; exact fun h => by cases h) (v := .int (hv_i v (100 * ci + k) a)) ?_ rfl rfl hdg kk
  rw [hsl, q4 k hkN]
  simp [hv_val, hR]
/-- getfield of a reference field -/
theorem hv_getr (hexec : p.tables.exec = Jvm.exec) (hb : c.code = cc) {own C : String} {T : u_T} {N ci index : Nat} {Ts : List Cond} (hts : ∀ w ∈ Ts, w.before args s = true) (hin : ∀ w ∈ u_ws C T N, w ∈ Ts) (hown : s.vm.findClass own = some m.cls) (hK : hv_K D tc s) (hT : hv_St A s D tc v H locs) (hk : hv_k v a = (ci + 1, 0)) (h99 : ci < 99) (hc : vwCl[ci]? = some (C, T, N)) (k : Nat) (hkN : k < N) (hlink : (Cond.fieldLink own index (T k).1 (T k).2.1 (T k).2.2.1).before args s = true) (hR : hv_R ci k = true) {x : Option Nat} (hx : hv_p v (100 * ci + k) a = x) (hdg : decode cc pc = .ok (.getfield index, 3))
    (kk : W p l e R s m args below meth c H locs cells slots Q (F0 m (pc + 3) ls (va_rf x :: rest))) : W p l e R s m args below meth c H locs cells slots Q (F0 m pc ls (.ref a :: rest)) := by
  obtain ⟨r, h1, cell, q1, q2, q3, q4⟩ := (hT.1.1 a).1 ci hk h99
  have hr : r = (C, T, N) := Option.some.inj (h1.symm.trans hc)
  subst hr
  obtain ⟨hS, hfc, kC, hkC, hkind⟩ := hK.1.1 ci _ hc
  obtain ⟨cf, kf, fi, f, hi, hsl⟩ := hS k hkN
  refine W.getf hexec hb hown hlink hi (u_facts hfc hkC (u_lays hts hin hkN) hi).1 q1 (by rw [q3]; exact fun h => by cases h) (v := va_rf x) ?_ rfl rfl hdg kk
  rw [hsl, q4 k hkN]
  simp [hv_val, hR, hx]
/-- putfield of an int (or boolean) field -/
theorem hv_puti (hexec : p.tables.exec = Jvm.exec) (hb : c.code = cc) {own C : String} {T : u_T} {N ci index : Nat} {Ts : List Cond} (hts : ∀ w ∈ Ts, w.before args s = true) (hin : ∀ w ∈ u_ws C T N, w ∈ Ts) (ty0 : Nat → FieldType) (hty : ∀ k, k < N → parseFieldDescriptor (T k).2.2.1 = some (ty0 k)) (hnm : ∀ a, a < N → ∀ b, b < N → a ≠ b → (T a).2.1 ≠ (T b).2.1) (hown : s.vm.findClass own = some m.cls) (hK : hv_K D tc s) (hT : hv_St A s D tc v H locs) (hk : hv_k v a = (ci + 1, 0)) (h99 : ci < 99) (hc : vwCl[ci]? = some (C, T, N)) (k : Nat) (hkN : k < N) (hlink : (Cond.fieldLink own index (T k).1 (T k).2.1 (T k).2.2.1).before args s = true) (hR : hv_R ci k = false) (hfin : (T k).2.2.2 = false) {x : Int32} (hn : narrow (ty0 k) (.int x) = .int x) (hfit : fits (ty0 k) (.int x) = true) (hdg : decode cc pc = .ok (.putfield index, 3))
    (kk : ∀ (H1 : Heap) (locs1 : List Loc), hv_St A s D tc (hv_si v (100 * ci + k) a x) H1 locs1 → W p l e R s m args below meth c H1 locs1 cells slots Q (F0 m (pc + 3) ls rest)) : W p l e R s m args below meth c H locs cells slots Q (F0 m pc ls (.int x :: .ref a :: rest)) := by
  have hap := va_apart (own := own) hts hin ty0 hty hnm hK.1 hc
  obtain ⟨r, h1, cell, q1, q2, q3, q4⟩ := (hT.1.1 a).1 ci hk h99
  have hr : r = (C, T, N) := Option.some.inj (h1.symm.trans hc)
  subst hr
  obtain ⟨hS, hfc, kC, hkC, hkind⟩ := hK.1.1 ci _ hc
  obtain ⟨cf, kf, fi, f, hi, hsl⟩ := hS k hkN
  have hlay := hts _ (hin _ (u_in_lay hkN))
  unfold u_lay at hlay
  rw [if_neg (by rw [hfin]; decide)] at hlay
  have hst := (u_facts hfc hkC (u_lays hts hin hkN) hi).1
  have h6 := u_store hfc hkC hkind hlay hi (hty k hkN) hn hfit
  refine W.putK hexec hb (f := f) ⟨hown, hlink, ⟨_, _, _, hi⟩, hst⟩ (by rw [q2]; exact h6) q1 q3 (by rw [hsl]; exact k2_hasslot (q4 k hkN)) rfl rfl hdg fun H' e1 e2 e3 => ?_
  rw [hsl] at e1 ⊢
  have hO : t_OB a (D.1 ci) N (D.2 ci) H' (hv_val (hv_si v (100 * ci + k) a x) ci a) := by
    refine t_OB.to (V := updV (hv_val v ci a) k (.int x)) ⟨_, e1, q2, q3, t_set q4 hap hkN _⟩ (fun j _ => ?_)
    by_cases hj : j = k
    · subst hj
      simp [updV, hv_val, hR, hv_si_i]
    · simp [updV, hv_val, hj, hv_si_i, hv_si_p]
  exact kk H' _ (hv_St_put hT (hv_W_put hT.1 hk h99 hc (fun _ => rfl) (fun b hb => ⟨fun f => by simp [hv_si_i, hb], fun _ => rfl, fun _ => rfl, fun _ => rfl⟩) rfl rfl hO e2 (hv_tot_set q1 e1 e3) e3) (fun _ => rfl) (hv_dom_ne hk) e2 e3)
/-- putfield of a reference field -/
theorem hv_putr (hexec : p.tables.exec = Jvm.exec) (hb : c.code = cc) {own C : String} {T : u_T} {N ci index : Nat} {Ts : List Cond} (hts : ∀ w ∈ Ts, w.before args s = true) (hin : ∀ w ∈ u_ws C T N, w ∈ Ts) (ty0 : Nat → FieldType) (hty : ∀ k, k < N → parseFieldDescriptor (T k).2.2.1 = some (ty0 k)) (hnm : ∀ a, a < N → ∀ b, b < N → a ≠ b → (T a).2.1 ≠ (T b).2.1) (hown : s.vm.findClass own = some m.cls) (hK : hv_K D tc s) (hT : hv_St A s D tc v H locs) (hk : hv_k v a = (ci + 1, 0)) (h99 : ci < 99) (hc : vwCl[ci]? = some (C, T, N)) (k : Nat) (hkN : k < N) (hlink : (Cond.fieldLink own index (T k).1 (T k).2.1 (T k).2.2.1).before args s = true) (hR : hv_R ci k = true) (hfin : (T k).2.2.2 = false) {y : Value} (x : Option Nat) (hy : y = va_rf x) (hn : narrow (ty0 k) y = y) (hfit : fits (ty0 k) y = true) (hdg : decode cc pc = .ok (.putfield index, 3))
    (kk : ∀ (H1 : Heap) (locs1 : List Loc), hv_St A s D tc (hv_sp v (100 * ci + k) a x) H1 locs1 → W p l e R s m args below meth c H1 locs1 cells slots Q (F0 m (pc + 3) ls rest)) : W p l e R s m args below meth c H locs cells slots Q (F0 m pc ls (y :: .ref a :: rest)) := by
  have hap := va_apart (own := own) hts hin ty0 hty hnm hK.1 hc
  obtain ⟨r, h1, cell, q1, q2, q3, q4⟩ := (hT.1.1 a).1 ci hk h99
  have hr : r = (C, T, N) := Option.some.inj (h1.symm.trans hc)
  subst hr
  obtain ⟨hS, hfc, kC, hkC, hkind⟩ := hK.1.1 ci _ hc
  obtain ⟨cf, kf, fi, f, hi, hsl⟩ := hS k hkN
  have hlay := hts _ (hin _ (u_in_lay hkN))
  unfold u_lay at hlay
  rw [if_neg (by rw [hfin]; decide)] at hlay
  have hst := (u_facts hfc hkC (u_lays hts hin hkN) hi).1
  have h6 := u_store hfc hkC hkind hlay hi (hty k hkN) hn hfit
  refine W.putK hexec hb (f := f) ⟨hown, hlink, ⟨_, _, _, hi⟩, hst⟩ (by rw [q2]; exact h6) q1 q3 (by rw [hsl]; exact k2_hasslot (q4 k hkN)) rfl rfl hdg fun H' e1 e2 e3 => ?_
  rw [hsl] at e1 ⊢
  have hO : t_OB a (D.1 ci) N (D.2 ci) H' (hv_val (hv_sp v (100 * ci + k) a x) ci a) := by
    refine t_OB.to (V := updV (hv_val v ci a) k y) ⟨_, e1, q2, q3, t_set q4 hap hkN _⟩ (fun j _ => ?_)
    by_cases hj : j = k
    · subst hj
      simp [updV, hv_val, hR, hv_sp_p, hy]
    · simp [updV, hv_val, hj, hv_sp_i, hv_sp_p]
  exact kk H' _ (hv_St_put hT (hv_W_put hT.1 hk h99 hc (fun _ => rfl) (fun b hb => ⟨fun _ => rfl, fun f => by simp [hv_sp_p, hb], fun _ => rfl, fun _ => rfl⟩) rfl rfl hO e2 (hv_tot_set q1 e1 e3) e3) (fun _ => rfl) (hv_dom_ne hk) e2 e3)
/-- putfield of a final field in its class's constructor: int -/
theorem hv_putiF (hexec : p.tables.exec = Jvm.exec) (hb : c.code = cc) {own C : String} {T : u_T} {N ci index : Nat} {Ts : List Cond} (hts : ∀ w ∈ Ts, w.before args s = true) (hin : ∀ w ∈ u_ws C T N, w ∈ Ts) (ty0 : Nat → FieldType) (hty : ∀ k, k < N → parseFieldDescriptor (T k).2.2.1 = some (ty0 k)) (hnm : ∀ a, a < N → ∀ b, b < N → a ≠ b → (T a).2.1 ≠ (T b).2.1) (hown : s.vm.findClass own = some m.cls) (hK : hv_K D tc s) (hT : hv_St A s D tc v H locs) (hk : hv_k v a = (ci + 1, 0)) (h99 : ci < 99) (hc : vwCl[ci]? = some (C, T, N)) (k : Nat) (hkN : k < N) (hlink : (Cond.fieldLink own index (T k).1 (T k).2.1 (T k).2.2.1).before args s = true) (hR : hv_R ci k = false) (hfin : (T k).2.2.2 = true) (hin2 : meth.name = "<init>") (hdecl : (T k).1 = own) {x : Int32} (hn : narrow (ty0 k) (.int x) = .int x) (hfit : fits (ty0 k) (.int x) = true) (hdg : decode cc pc = .ok (.putfield index, 3))
    (kk : ∀ (H1 : Heap) (locs1 : List Loc), hv_St A s D tc (hv_si v (100 * ci + k) a x) H1 locs1 → W p l e R s m args below meth c H1 locs1 cells slots Q (F0 m (pc + 3) ls rest)) : W p l e R s m args below meth c H locs cells slots Q (F0 m pc ls (.int x :: .ref a :: rest)) := by
  have hap := va_apart (own := own) hts hin ty0 hty hnm hK.1 hc
  obtain ⟨r, h1, cell, q1, q2, q3, q4⟩ := (hT.1.1 a).1 ci hk h99
  have hr : r = (C, T, N) := Option.some.inj (h1.symm.trans hc)
  subst hr
  obtain ⟨hS, hfc, kC, hkC, hkind⟩ := hK.1.1 ci _ hc
  obtain ⟨cf, kf, fi, f, hi, hsl⟩ := hS k hkN
  have hlay := hts _ (hin _ (u_in_lay hkN))
  unfold u_lay at hlay
  rw [if_pos hfin] at hlay
  have hst := (u_facts hfc hkC (u_lays hts hin hkN) hi).1
  have hcf : m.cls = cf := by
    obtain ⟨_, _, c', _, _, _, -, -, hf', -, -, -, hown2, -⟩ := Cond.laysFinal_spec hlay
    have e1 : c' = cf := by have := hi.symm.trans hf'; simp at this; exact this.1.symm
    rw [hdecl] at hown2
    rw [← e1]; exact Option.some.inj (hown.symm.trans hown2)
  have h6 := u_fits hfc hkC hkind (Or.inr hlay) hi (hty k hkN) hn hfit
  refine W.putFinK hexec hb hown hlink hi hst hcf hin2 (by rw [q2]; exact h6) q1 q3 (by rw [hsl]; exact k2_hasslot (q4 k hkN)) rfl rfl hdg fun H' e1 e2 e3 => ?_
  rw [hsl] at e1 ⊢
  have hO : t_OB a (D.1 ci) N (D.2 ci) H' (hv_val (hv_si v (100 * ci + k) a x) ci a) := by
    refine t_OB.to (V := updV (hv_val v ci a) k (.int x)) ⟨_, e1, q2, q3, t_set q4 hap hkN _⟩ (fun j _ => ?_)
    by_cases hj : j = k
    · subst hj
      simp [updV, hv_val, hR, hv_si_i]
    · simp [updV, hv_val, hj, hv_si_i, hv_si_p]
  exact kk H' _ (hv_St_put hT (hv_W_put hT.1 hk h99 hc (fun _ => rfl) (fun b hb => ⟨fun f => by simp [hv_si_i, hb], fun _ => rfl, fun _ => rfl, fun _ => rfl⟩) rfl rfl hO e2 (hv_tot_set q1 e1 e3) e3) (fun _ => rfl) (hv_dom_ne hk) e2 e3)
/-- putfield of a final field in its class's constructor: reference -/
theorem hv_putrF (hexec : p.tables.exec = Jvm.exec) (hb : c.code = cc) {own C : String} {T : u_T} {N ci index : Nat} {Ts : List Cond} (hts : ∀ w ∈ Ts, w.before args s = true) (hin : ∀ w ∈ u_ws C T N, w ∈ Ts) (ty0 : Nat → FieldType) (hty : ∀ k, k < N → parseFieldDescriptor (T k).2.2.1 = some (ty0 k)) (hnm : ∀ a, a < N → ∀ b, b < N → a ≠ b → (T a).2.1 ≠ (T b).2.1) (hown : s.vm.findClass own = some m.cls) (hK : hv_K D tc s) (hT : hv_St A s D tc v H locs) (hk : hv_k v a = (ci + 1, 0)) (h99 : ci < 99) (hc : vwCl[ci]? = some (C, T, N)) (k : Nat) (hkN : k < N) (hlink : (Cond.fieldLink own index (T k).1 (T k).2.1 (T k).2.2.1).before args s = true) (hR : hv_R ci k = true) (hfin : (T k).2.2.2 = true) (hin2 : meth.name = "<init>") (hdecl : (T k).1 = own) {y : Value} (x : Option Nat) (hy : y = va_rf x) (hn : narrow (ty0 k) y = y) (hfit : fits (ty0 k) y = true) (hdg : decode cc pc = .ok (.putfield index, 3))
    (kk : ∀ (H1 : Heap) (locs1 : List Loc), hv_St A s D tc (hv_sp v (100 * ci + k) a x) H1 locs1 → W p l e R s m args below meth c H1 locs1 cells slots Q (F0 m (pc + 3) ls rest)) : W p l e R s m args below meth c H locs cells slots Q (F0 m pc ls (y :: .ref a :: rest)) := by
  have hap := va_apart (own := own) hts hin ty0 hty hnm hK.1 hc
  obtain ⟨r, h1, cell, q1, q2, q3, q4⟩ := (hT.1.1 a).1 ci hk h99
  have hr : r = (C, T, N) := Option.some.inj (h1.symm.trans hc)
  subst hr
  obtain ⟨hS, hfc, kC, hkC, hkind⟩ := hK.1.1 ci _ hc
  obtain ⟨cf, kf, fi, f, hi, hsl⟩ := hS k hkN
  have hlay := hts _ (hin _ (u_in_lay hkN))
  unfold u_lay at hlay
  rw [if_pos hfin] at hlay
  have hst := (u_facts hfc hkC (u_lays hts hin hkN) hi).1
  have hcf : m.cls = cf := by
    obtain ⟨_, _, c', _, _, _, -, -, hf', -, -, -, hown2, -⟩ := Cond.laysFinal_spec hlay
    have e1 : c' = cf := by have := hi.symm.trans hf'; simp at this; exact this.1.symm
    rw [hdecl] at hown2
    rw [← e1]; exact Option.some.inj (hown.symm.trans hown2)
  have h6 := u_fits hfc hkC hkind (Or.inr hlay) hi (hty k hkN) hn hfit
  refine W.putFinK hexec hb hown hlink hi hst hcf hin2 (by rw [q2]; exact h6) q1 q3 (by rw [hsl]; exact k2_hasslot (q4 k hkN)) rfl rfl hdg fun H' e1 e2 e3 => ?_
  rw [hsl] at e1 ⊢
  have hO : t_OB a (D.1 ci) N (D.2 ci) H' (hv_val (hv_sp v (100 * ci + k) a x) ci a) := by
    refine t_OB.to (V := updV (hv_val v ci a) k y) ⟨_, e1, q2, q3, t_set q4 hap hkN _⟩ (fun j _ => ?_)
    by_cases hj : j = k
    · subst hj
      simp [updV, hv_val, hR, hv_sp_p, hy]
    · simp [updV, hv_val, hj, hv_sp_i, hv_sp_p]
  exact kk H' _ (hv_St_put hT (hv_W_put hT.1 hk h99 hc (fun _ => rfl) (fun b hb => ⟨fun _ => rfl, fun f => by simp [hv_sp_p, hb], fun _ => rfl, fun _ => rfl⟩) rfl rfl hO e2 (hv_tot_set q1 e1 e3) e3) (fun _ => rfl) (hv_dom_ne hk) e2 e3)
/-- elements -/
theorem hv_iald (hexec : p.tables.exec = Jvm.exec) (hb : c.code = cc) (hK : hv_K D tc s) (hT : hv_St A s D tc v H locs) {n : Nat} (hk : hv_k v a = (100, n)) {i : Int32} (hin : vp_in i n) (hdg : decode cc pc = .ok (.iaload, 1))
    (kk : W p l e R s m args below meth c H locs cells slots Q (F0 m (pc + 1) ls (.int (hv_a v a i.toNatClampNeg) :: rest))) : W p l e R s m args below meth c H locs cells slots Q (F0 m pc ls (.int i :: .ref a :: rest)) := by
  have hlt : i.toNatClampNeg < n := Nat.not_le.mp fun q => hin (Or.inr q)
  exact W.iald (v := .int (hv_a v a i.toNatClampNeg)) hexec hb ((hT.1.1 a).2.1 0 n hk (by decide)) ((hK.1.2 0 _ rfl).1 n (fun j => .int (hv_a v a j))) (fun q => by cases q) (by rw [arrV_size]; exact hin) (by rw [arrV_read _ _ hlt]) rfl rfl hdg kk
theorem hv_zald (hexec : p.tables.exec = Jvm.exec) (hb : c.code = cc) (hK : hv_K D tc s) (hT : hv_St A s D tc v H locs) {n : Nat} (hk : hv_k v a = (101, n)) {i : Int32} (hin : vp_in i n) (hdg : decode cc pc = .ok (.baload, 1))
    (kk : W p l e R s m args below meth c H locs cells slots Q (F0 m (pc + 1) ls (.int (hv_a v a i.toNatClampNeg) :: rest))) : W p l e R s m args below meth c H locs cells slots Q (F0 m pc ls (.int i :: .ref a :: rest)) := by
  have hlt : i.toNatClampNeg < n := Nat.not_le.mp fun q => hin (Or.inr q)
  exact W.zald (v := .int (hv_a v a i.toNatClampNeg)) hexec hb ((hT.1.1 a).2.1 1 n hk (by decide)) ((hK.1.2 1 _ rfl).1 n (fun j => .int (hv_a v a j))) (fun q => by cases q) (by rw [arrV_size]; exact hin) (by rw [arrV_read _ _ hlt]) rfl rfl hdg kk
theorem hv_aald (hexec : p.tables.exec = Jvm.exec) (hb : c.code = cc) (hK : hv_K D tc s) (hT : hv_St A s D tc v H locs) {n t : Nat} (hk : hv_k v a = (102 + t, n)) {ty : FieldType} (hty : (hv_tys tc)[2 + t]? = some (tc (2 + t), ty)) (hr : ty.isReference = true) {i : Int32} (hin : vp_in i n) {x : Option Nat} (hx : hv_q v a i.toNatClampNeg = x) (hdg : decode cc pc = .ok (.aaload, 1))
    (kk : W p l e R s m args below meth c H locs cells slots Q (F0 m (pc + 1) ls (va_rf x :: rest))) : W p l e R s m args below meth c H locs cells slots Q (F0 m pc ls (.int i :: .ref a :: rest)) := by
  have hlt : i.toNatClampNeg < n := Nat.not_le.mp fun q => hin (Or.inr q)
  subst hx
  exact W.aald (v := va_rf (hv_q v a i.toNatClampNeg)) (ty := ty) hexec hb ((hT.1.1 a).2.2 t n hk) ((hK.1.2 (2 + t) _ hty).1 n (fun j => va_rf (hv_q v a j))) hr (fun q => by cases q) (by rw [arrV_size]; exact hin) (by rw [arrV_read _ _ hlt]) rfl rfl hdg kk
theorem hv_iast (hexec : p.tables.exec = Jvm.exec) (hb : c.code = cc) (hK : hv_K D tc s) (hT : hv_St A s D tc v H locs) {n : Nat} (hk : hv_k v a = (100, n)) {i x : Int32} (hin : vp_in i n) (hdg : decode cc pc = .ok (.iastore, 1))
    (kk : ∀ (H1 : Heap) (locs1 : List Loc), hv_St A s D tc (hv_sa v a i.toNatClampNeg x) H1 locs1 → W p l e R s m args below meth c H1 locs1 cells slots Q (F0 m (pc + 1) ls rest)) : W p l e R s m args below meth c H locs cells slots Q (F0 m pc ls (.int x :: .int i :: .ref a :: rest)) := by
  have hc0 := (hT.1.1 a).2.1 0 n hk (by decide)
  refine W.iast hexec hb hc0 ((hK.1.2 0 _ rfl).1 n (fun j => .int (hv_a v a j))) (fun q => by cases q) (by rw [arrV_size]; exact hin) rfl rfl hdg fun H1 e1 e2 e3 => ?_
  refine kk H1 _ (hv_St_put hT (hv_W_ast (t := 0) hT.1 hk (fun _ => rfl) (fun b hb => ⟨fun _ => rfl, fun _ => rfl, fun j => by simp [hv_sa_a, hb], fun _ => rfl⟩) rfl rfl (fun _ => ?_) (fun h => absurd (by decide) h) e2 (hv_tot_set hc0 e1 e3) e3) (fun _ => rfl) (hv_dom_nea (t := 0) hk) e2 e3)
  rw [e1, arrV_store]
  congr 2
  funext q
  by_cases hq : q = i.toNatClampNeg
  · subst hq
    simp [updV, hv_sa_a]
  · simp [updV, hv_sa_a, hq]
theorem hv_zast (hexec : p.tables.exec = Jvm.exec) (hb : c.code = cc) (hK : hv_K D tc s) (hT : hv_St A s D tc v H locs) {n : Nat} (hk : hv_k v a = (101, n)) {i x : Int32} (hin : vp_in i n) (hnx : narrow .boolean (.int x) = .int x) (hdg : decode cc pc = .ok (.bastore, 1))
    (kk : ∀ (H1 : Heap) (locs1 : List Loc), hv_St A s D tc (hv_sa v a i.toNatClampNeg x) H1 locs1 → W p l e R s m args below meth c H1 locs1 cells slots Q (F0 m (pc + 1) ls rest)) : W p l e R s m args below meth c H locs cells slots Q (F0 m pc ls (.int x :: .int i :: .ref a :: rest)) := by
  have hc0 := (hT.1.1 a).2.1 1 n hk (by decide)
  refine W.zast hexec hb hc0 ((hK.1.2 1 _ rfl).1 n (fun j => .int (hv_a v a j))) (fun q => by cases q) (by rw [arrV_size]; exact hin) rfl rfl hdg fun H1 e1 e2 e3 => ?_
  refine kk H1 _ (hv_St_put hT (hv_W_ast (t := 1) hT.1 hk (fun _ => rfl) (fun b hb => ⟨fun _ => rfl, fun _ => rfl, fun j => by simp [hv_sa_a, hb], fun _ => rfl⟩) rfl rfl (fun _ => ?_) (fun h => absurd (by decide) h) e2 (hv_tot_set hc0 e1 e3) e3) (fun _ => rfl) (hv_dom_nea (t := 1) hk) e2 e3)
  rw [e1, arrV_store, hnx]
  congr 2
  funext q
  by_cases hq : q = i.toNatClampNeg
  · subst hq
    simp [updV, hv_sa_a]
  · simp [updV, hv_sa_a, hq]
/-- a reference to an object of class ci goes into an array of that class -/
theorem hv_aast (hexec : p.tables.exec = Jvm.exec) (hb : c.code = cc) (hK : hv_K D tc s) (hT : hv_St A s D tc v H locs) {n t ci y : Nat} {r : vw_C} (hk : hv_k v a = (102 + t, n)) (hty : (hv_tys tc)[2 + t]? = some (tc (2 + t), .object r.1)) (hky : hv_k v y = (ci + 1, 0)) (h99 : ci < 99) (hc : vwCl[ci]? = some r) {i : Int32} (hin : vp_in i n) (hdg : decode cc pc = .ok (.aastore, 1))
    (kk : ∀ (H1 : Heap) (locs1 : List Loc), hv_St A s D tc (hv_sq v a i.toNatClampNeg (some y)) H1 locs1 → W p l e R s m args below meth c H1 locs1 cells slots Q (F0 m (pc + 1) ls rest)) : W p l e R s m args below meth c H locs cells slots Q (F0 m pc ls (.ref y :: .int i :: .ref a :: rest)) := by
  have hlt : i.toNatClampNeg < n := Nat.not_le.mp fun q => hin (Or.inr q)
  have h0 : ¬ i < 0 := fun q => hin (Or.inl q)
  obtain ⟨r', hr', cellV, g1, g2, g3, -⟩ := (hT.1.1 y).1 ci hky h99
  have hcls := (hK.1.1 ci r hc).2
  obtain ⟨kA, comp, k1, k2, k3, -⟩ := (hK.1.2 (2 + t) _ hty).2
  have hcomp : comp = D.1 ci := Option.some.inj (k3.symm.trans hcls.1)
  subst hcomp
  obtain ⟨kC, hkC, -⟩ := hcls.2
  have hc0 := (hT.1.1 a).2.2 t n hk
  refine W.aast hexec hb hc0 (fun q h => by cases h) (fun h => by cases h) k1 k2 rfl hkC ⟨h0, by rw [arrV_size]; exact hlt⟩ g1 (fun q h => by rw [g3] at h; cases h) (by rw [g2]; exact hkC) (by rw [g2]; exact va_assign hcls) rfl rfl hdg fun H1 e1 e2 e3 => ?_
  refine kk H1 _ (hv_St_put hT (hv_W_ast (t := 2 + t) hT.1 (by rw [hk, ← Nat.add_assoc]) (fun _ => rfl) (fun b hb => ⟨fun _ => rfl, fun _ => rfl, fun _ => rfl, fun j => by simp [hv_sq_q, hb]⟩) rfl rfl (fun h => absurd h (by omega)) (fun _ => ?_) e2 (hv_tot_set hc0 e1 e3) e3) (fun _ => rfl) (hv_dom_neq hk) e2 e3)
  rw [e1, arrV_store]
  congr 2
  funext q
  by_cases hq : q = i.toNatClampNeg
  · subst hq
    simp [updV, hv_sq_q, va_rf]
  · simp [updV, hv_sq_q, hq]
theorem hv_aastN (hexec : p.tables.exec = Jvm.exec) (hb : c.code = cc) (hK : hv_K D tc s) (hT : hv_St A s D tc v H locs) {n t : Nat} {C : String} (hk : hv_k v a = (102 + t, n)) (hty : (hv_tys tc)[2 + t]? = some (tc (2 + t), .object C)) {i : Int32} (hin : vp_in i n) (hdg : decode cc pc = .ok (.aastore, 1))
    (kk : ∀ (H1 : Heap) (locs1 : List Loc), hv_St A s D tc (hv_sq v a i.toNatClampNeg none) H1 locs1 → W p l e R s m args below meth c H1 locs1 cells slots Q (F0 m (pc + 1) ls rest)) : W p l e R s m args below meth c H locs cells slots Q (F0 m pc ls (.null :: .int i :: .ref a :: rest)) := by
  have hc0 := (hT.1.1 a).2.2 t n hk
  refine va_WaastN (C := C) hexec hb hc0 ((hK.1.2 (2 + t) _ hty).1 n (fun j => va_rf (hv_q v a j))) (fun h => by cases h) (by rw [arrV_size]; exact hin) rfl rfl hdg fun H1 e1 e2 e3 => ?_
  refine kk H1 _ (hv_St_put hT (hv_W_ast (t := 2 + t) hT.1 (by rw [hk, ← Nat.add_assoc]) (fun _ => rfl) (fun b hb => ⟨fun _ => rfl, fun _ => rfl, fun _ => rfl, fun j => by simp [hv_sq_q, hb]⟩) rfl rfl (fun h => absurd h (by omega)) (fun _ => ?_) e2 (hv_tot_set hc0 e1 e3) e3) (fun _ => rfl) (hv_dom_neq hk) e2 e3)
  rw [e1, arrV_store]
  congr 2
  funext q
  by_cases hq : q = i.toNatClampNeg
  · subst hq
    simp [updV, hv_sq_q, va_rf]
  · simp [updV, hv_sq_q, hq]
end HVR
end
section
theorem hv_c_zero {D : va_G} {tc : Nat → ClassId} {v : hv_V} {H : Heap} {a : Nat} (h0 : (hv_k v a).1 = 0) : hv_c D tc v H a := by
  refine ⟨fun ci h1 h2 => ?_, fun t n h1 h2 => ?_, fun t n h1 => ?_⟩
  · rw [h1] at h0
    exact absurd h0 (Nat.succ_ne_zero ci)
  · rw [h1] at h0
    exact absurd h0 (by show ¬ (100 + t = 0); omega)
  · rw [h1] at h0
    exact absurd h0 (by show ¬ (102 + t = 0); omega)
theorem hv_nw_k (v : hv_V) (kd : Nat × Nat) (w a : Nat) : hv_k (hv_nw v kd w) a = if a = hv_n v then kd else hv_k v a := rfl
theorem hv_nw_i (v : hv_V) (kd : Nat × Nat) (w f a : Nat) : hv_i (hv_nw v kd w) f a = if a = hv_n v then 0 else hv_i v f a := rfl
theorem hv_nw_p (v : hv_V) (kd : Nat × Nat) (w f a : Nat) : hv_p (hv_nw v kd w) f a = if a = hv_n v then none else hv_p v f a := rfl
theorem hv_nw_a (v : hv_V) (kd : Nat × Nat) (w a j : Nat) : hv_a (hv_nw v kd w) a j = if a = hv_n v then 0 else hv_a v a j := rfl
theorem hv_nw_q (v : hv_V) (kd : Nat × Nat) (w a j : Nat) : hv_q (hv_nw v kd w) a j = if a = hv_n v then none else hv_q v a j := rfl
theorem hv_nw_n (v : hv_V) (kd : Nat × Nat) (w : Nat) : hv_n (hv_nw v kd w) = hv_n v + 1 := rfl
theorem hv_nw_t (v : hv_V) (kd : Nat × Nat) (w : Nat) : hv_t (hv_nw v kd w) = hv_t v + w := rfl
theorem hv_W_nw {D : va_G} {tc : Nat → ClassId} {v : hv_V} {H : Heap} {cell : Cell} {kd : Nat × Nat} {w : Nat} (hW : hv_W D tc v H) (hw : cell.slots.size = w) (hc : hv_c D tc (hv_nw v kd w) (H.push cell) (hv_n v)) : hv_W D tc (hv_nw v kd w) (H.push cell) := by
  have hn : H.size = hv_n v := hW.2.2.1
  refine ⟨fun a => ?_, fun a ha => ?_, by rw [Array.size_push, hn]; rfl, by rw [hv_tot_push, hw, hW.2.2.2]; rfl⟩
  · by_cases h : a = hv_n v
    · rw [h]; exact hc
    · by_cases h0 : (hv_k v a).1 = 0
      · exact hv_c_zero (by rw [hv_nw_k, if_neg h]; exact h0)
      · have hl := hW.2.1 a h0
        refine hv_c_kept (hW.1 a) ?_ (by rw [hv_nw_k, if_neg h]) (fun f => by rw [hv_nw_i, if_neg h]) (fun f => by rw [hv_nw_p, if_neg h]) (fun f => by rw [hv_nw_a, if_neg h]) (fun f => by rw [hv_nw_q, if_neg h])
        rw [Array.getElem?_push, if_neg (by rw [hn]; exact h)]
  · by_cases h : a = hv_n v
    · rw [h]; exact Nat.lt_succ_self _
    · rw [hv_nw_k, if_neg h] at ha
      exact Nat.lt_succ_of_lt (hW.2.1 a ha)
theorem hv_St_nw {A : Nat → Prop} {s : State} {D : va_G} {tc : Nat → ClassId} {v : hv_V} {H : Heap} {locs : List Loc} {cell : Cell} {kd : Nat × Nat} {w : Nat} (hT : hv_St A s D tc v H locs) (hw : cell.slots.size = w) (hc : hv_c D tc (hv_nw v kd w) (H.push cell) (hv_n v)) : hv_St A s D tc (hv_nw v kd w) (H.push cell) locs := by
  have hn : H.size = hv_n v := hT.1.2.2.1
  refine ⟨hv_W_nw hT.1 hw hc, fun a ha => ?_, ⟨?_, fun q h1 h2 => ?_, hT.2.2.1.2.2⟩, hT.2.2.2⟩
  · by_cases h : a = hv_n v
    · rw [h, ← hn]; exact hT.2.2.2 _ hT.2.2.1.1
    · rw [hv_nw_k, if_neg h] at ha
      exact hT.2.1 a ha
  · rw [Array.size_push]; exact Nat.le_succ_of_le hT.2.2.1.1
  · rw [Array.getElem?_push, if_neg (by have := hT.2.2.1.1; omega)]
    exact hT.2.2.1.2.1 q h1 h2
section HVN
variable {p : Program} {l : Launch} {e : Env} {R : Room} {s : State} {m : MethodId} {args : Array Value} {below : List Frame} {meth : Method} {c : Code} {H : Heap} {locs : List Loc} {cells slots : Nat} {Q : State → Prop}
variable {cc : ByteArray} {pc : Nat} {ls : Array Slot} {rest : List Value} {D : va_G} {tc : Nat → ClassId} {v : hv_V} {A : Nat → Prop} {a : Nat}
/-- new, of an object -/
theorem hv_new (hexec : p.tables.exec = Jvm.exec) (hb : c.code = cc) {own C : String} {T : u_T} {N ci index : Nat} {Ts : List Cond} (hts : ∀ w ∈ Ts, w.before args s = true) (hin : ∀ w ∈ u_ws C T N, w ∈ Ts) (ty : Nat → FieldType) (hty : ∀ k, k < N → parseFieldDescriptor (T k).2.2.1 = some (ty k)) (hown : s.vm.findClass own = some m.cls) (hcl : (Cond.classLink own index C).before args s = true) (hinst : (Cond.instantiable C N).before args s = true) (hini : (Cond.initialized C).before args s = true)
    (hK : hv_K D tc s) (hT : hv_St A s D tc v H locs) (h99 : ci < 99) (hc : vwCl[ci]? = some (C, T, N)) (hfs : ∀ j, j < N → defaultValue (ty j) = if hv_R ci j = true then .null else .int 0) (hcells : cells + 1 ≤ R.cells) (hslots : slots + N ≤ R.slots) (hdg : decode cc pc = .ok (.new index, 3))
    (kk : ∀ (H1 : Heap), hv_St A s D tc (hv_nw v (ci + 1, 0) N) H1 locs → W p l e R s m args below meth c H1 locs (cells + 1) (slots + N) Q (F0 m (pc + 3) ls (.ref (hv_n v) :: rest))) : W p l e R s m args below meth c H locs cells slots Q (F0 m pc ls rest) := by
  have hKn := hK.1.1 ci _ hc
  have hn : H.size = hv_n v := hT.1.2.2.1
  refine W.newc hexec hb hown hcl hinst hini rfl hdg hcells hslots fun cC kC h1 h2 h3 h4 => ?_
  have hcC : cC = D.1 ci := Option.some.inj (h1.symm.trans hKn.2.1)
  subst hcC
  have hcell : (H.push (blank (D.1 ci) kC))[hv_n v]? = some (blank (D.1 ci) kC) := by rw [← hn]; simp
  have hO := (u_born ty hts hin hKn h2 hcell hty).to hfs
  have hk := kk (H.push (blank (D.1 ci) kC)) (hv_St_nw hT (by simp [blank, h4]) ⟨fun ci' g1 g2 => ?_, fun t n g1 g2 => ?_, fun t n g1 => ?_⟩)
  · show W p l e R s m args below meth c (H.push (blank (D.1 ci) kC)) locs (cells + 1) (slots + N) Q (F0 m (pc + 3) ls (.ref H.size :: rest))
    rw [hn]
    exact hk
  · rw [hv_nw_k, if_pos rfl] at g1
    have e1 : ci = ci' := by have := congrArg Prod.fst g1; simp at this; omega
    subst e1
    exact ⟨_, hc, hO.to (fun k _ => by unfold hv_val; rw [hv_nw_p, hv_nw_i, if_pos rfl, if_pos rfl]; rfl)⟩
  · rw [hv_nw_k, if_pos rfl] at g1
    have := congrArg Prod.fst g1
    simp at this
    omega
  · rw [hv_nw_k, if_pos rfl] at g1
    have := congrArg Prod.fst g1
    simp at this
    omega
/-- newarray, of ints or booleans -/
theorem hv_newa (hexec : p.tables.exec = Jvm.exec) (hb : c.code = cc) {atype : ArrayType} {t : Nat} (ht2 : t < 2) {ty : FieldType} (hty : newarray.typeOf atype = ty) (htt : (hv_tys tc)[t]? = some (tc t, ty)) (hnr : ty = .int ∨ ty = .boolean) (harr : (Cond.arrayClass (newarray.typeOf atype)).before args s = true) (hK : hv_K D tc s) (hT : hv_St A s D tc v H locs) {n : Int32} {N : Nat} (hn : ¬ n < 0) (hN : n.toNatClampNeg = N) (hbytes : N * componentBytes ty ≤ 536870912) (hcells : cells + 1 ≤ R.cells) (hslots : slots + N ≤ R.slots) (hdg : decode cc pc = .ok (.newarray atype, 2))
    (kk : ∀ (H1 : Heap), hv_St A s D tc (hv_nw v (100 + t, N) N) H1 locs → W p l e R s m args below meth c H1 locs (cells + 1) (slots + N) Q (F0 m (pc + 2) ls (.ref (hv_n v) :: rest))) : W p l e R s m args below meth c H locs cells slots Q (F0 m pc ls (.int n :: rest)) := by
  have hsz : H.size = hv_n v := hT.1.2.2.1
  subst hty
  refine va_newaK hexec hb harr rfl hdg rfl hn hN hbytes hcells hslots hsz fun H1 cA e1 z1 o1 hAr hNm => ?_
  have hcA : cA = tc t := by
    have h := (hK.1.2 t _ htt).2
    rcases hnr with h0 | h0
    · rw [h0] at h hNm
      exact Option.some.inj (hNm.symm.trans h)
    · rw [h0] at h hNm
      exact Option.some.inj (hNm.symm.trans h)
  subst hcA
  have hdv : defaultValue (newarray.typeOf atype) = .int 0 := by rcases hnr with h0 | h0 <;> rw [h0] <;> rfl
  rw [hdv] at e1
  have hpu : H1 = H.push (arrV (tc t) N (fun _ => .int 0)) := hv_push_of (by rw [hsz]; exact e1) (by rw [hsz]; exact z1) (fun q hq => o1 q (by rw [← hsz]; exact hq))
  subst hpu
  refine kk _ (hv_St_nw hT (by rw [arrV_size]) ⟨fun ci' g1 g2 => ?_, fun t' n' g1 g2 => ?_, fun t' n' g1 => ?_⟩)
  · rw [hv_nw_k, if_pos rfl] at g1
    have := congrArg Prod.fst g1
    simp at this
    omega
  · rw [hv_nw_k, if_pos rfl] at g1
    have e2 := congrArg Prod.fst g1
    have e3 := congrArg Prod.snd g1
    simp at e2 e3
    have e2 : t = t' := by omega
    subst e2
    subst e3
    rw [e1]
    congr 2
    funext j
    rw [hv_nw_a, if_pos rfl]
  · rw [hv_nw_k, if_pos rfl] at g1
    have := congrArg Prod.fst g1
    simp at this
    omega
/-- anewarray -/
theorem hv_newq (hexec : p.tables.exec = Jvm.exec) (hb : c.code = cc) {own C : String} {index t : Nat} (hown : s.vm.findClass own = some m.cls) (hclink : (Cond.classLink own index C).before args s = true) (hover : (Cond.arrayOver (.object C)).before args s = true) (htt : (hv_tys tc)[2 + t]? = some (tc (2 + t), .object C)) (hK : hv_K D tc s) (hT : hv_St A s D tc v H locs) {n : Int32} {N : Nat} (hn : ¬ n < 0) (hN : n.toNatClampNeg = N) (hbytes : N * 4 ≤ 536870912) (hcells : cells + 1 ≤ R.cells) (hslots : slots + N ≤ R.slots) (hdg : decode cc pc = .ok (.anewarray index, 3))
    (kk : ∀ (H1 : Heap), hv_St A s D tc (hv_nw v (102 + t, N) N) H1 locs → W p l e R s m args below meth c H1 locs (cells + 1) (slots + N) Q (F0 m (pc + 3) ls (.ref (hv_n v) :: rest))) : W p l e R s m args below meth c H locs cells slots Q (F0 m pc ls (.int n :: rest)) := by
  have hsz : H.size = hv_n v := hT.1.2.2.1
  subst hN
  refine W.anew hexec hb hown hclink hover rfl hdg rfl hn hbytes hcells hslots fun cA kA comp f1 f2 f3 f4 => ?_
  have hcA : cA = tc (2 + t) := by
    obtain ⟨_, _, _, _, _, h⟩ := (hK.1.2 (2 + t) _ htt).2
    exact Option.some.inj (f1.symm.trans h)
  subst hcA
  have hk := kk (H.push ({ cls := tc (2 + t), slots := Array.replicate n.toNatClampNeg .null, vm := .none } : Cell)) (hv_St_nw hT (by simp) ⟨fun ci' g1 g2 => ?_, fun t' n' g1 g2 => ?_, fun t' n' g1 => ?_⟩)
  · show W p l e R s m args below meth c _ locs (cells + 1) (slots + n.toNatClampNeg) Q (F0 m (pc + 3) ls (.ref H.size :: rest))
    rw [hsz]
    exact hk
  · rw [hv_nw_k, if_pos rfl] at g1
    have := congrArg Prod.fst g1
    simp at this
    omega
  · rw [hv_nw_k, if_pos rfl] at g1
    have := congrArg Prod.fst g1
    simp at this
    omega
  · rw [hv_nw_k, if_pos rfl] at g1
    have e2 := congrArg Prod.fst g1
    have e3 := congrArg Prod.snd g1
    simp at e2 e3
    subst e2
    subst e3
    rw [← hsz, Array.getElem?_push_size, arrV_new]
    congr 2
    funext j
    rw [hv_nw_q, hsz, if_pos rfl]
    rfl
/-- the room that was really used -/
theorem hv_tight {c1 n1 : Nat} {g : JFrame} (h1 : H.size ≤ s.heap.size + c1) (h2 : hv_tot H ≤ hv_tot s.heap + n1) (kk : W p l e R s m args below meth c H locs c1 n1 Q g) : W p l e R s m args below meth c H locs cells slots Q g := by
  intro T hT X
  subst hT
  refine kk T rfl { X with same := ?_ }
  obtain ⟨a1, a2, a3, a4, a5, a6⟩ := X.same
  have hb : T.slotsTrue = true := X.book
  have h0 : s.slotsTrue = true := by
    have h := X.room
    simp only [State.hasRoom, Bool.and_eq_true] at h
    exact h.2
  have e1 : T.slotsUsed = hv_tot T.heap := by simpa [State.slotsTrue, hv_tot] using hb
  have e0 : s.slotsUsed = hv_tot s.heap := by simpa [State.slotsTrue, hv_tot] using h0
  refine ⟨a1, a2, h1, a4, ?_, a6⟩
  have a4' : T.slotsUsed = s.slotsUsed + (((T.setVm s.vm).heap.toList.drop s.heap.size).map (·.slots.size)).sum := a4
  omega
end HVN
/-! calls and returns -/
theorem hv_blind {av : List Value} {D : va_G} {tc : Nat → ClassId} {v : hv_V} : FrameBlind (va_Pc av (hv_Pre D tc v)) := fun a U g mk q => ⟨q.1, hv_K.same (s := U) (U := U.calling g mk a) rfl q.2.1, q.2.2⟩
theorem hv_preS {s : State} {H : Heap} {As : List Value} {D : va_G} {tc : Nat → ClassId} {v : hv_V} (hK : hv_K D tc s) (hW : hv_W D tc v H) : PreS s H (va_Pc As (hv_Pre D tc v)) As := ⟨hv_blind, fun U hU hWm => ⟨rfl, hv_K.warm hWm hK, by rw [hU]; exact hW⟩⟩
theorem hv_preV {s : State} {H : Heap} {C : String} {b ci : Nat} {r : vw_C} {As : List Value} {D : va_G} {tc : Nat → ClassId} {v : hv_V} (hK : hv_K D tc s) (hW : hv_W D tc v H) (hk : hv_k v b = (ci + 1, 0)) (h99 : ci < 99) (hc : vwCl[ci]? = some r) (hC : r.1 = C) : PreV s H C b (va_Pc (.ref b :: As) (hv_Pre D tc v)) As := by
  subst hC
  refine ⟨hv_blind, ?_, fun U hU hWm => ⟨rfl, hv_K.warm hWm hK, by rw [hU]; exact hW⟩⟩
  obtain ⟨r', h1, cell, g1, g2, g3, -⟩ := (hW.1 b).1 ci hk h99
  exact ⟨cell, g1, by rw [g3]; rfl, by rw [g2]; exact (hK.1.1 ci r hc).2.1⟩
theorem hv_sub {A : Nat → Prop} {s : State} {D : va_G} {tc : Nat → ClassId} {v : hv_V} {H : Heap} {locs : List Loc} (hT : hv_St A s D tc v H locs) : ∀ q, hv_A v q → A q := by
  intro q h
  rcases h with h | h
  · exact hT.2.1 q h
  · refine hT.2.2.2 q (Nat.le_trans ?_ h)
    rw [← hT.1.2.2.1]
    exact hT.2.2.1.1
section HVC
variable {p : Program} {l : Launch} {e : Env} {R : Room} {s : State} {m : MethodId} {args : Array Value} {below : List Frame} {meth : Method} {c : Code} {H : Heap} {locs : List Loc} {cells slots : Nat} {Q : State → Prop}
variable {cc : ByteArray} {pc : Nat} {ls : Array Slot} {rest st0 : List Value} {D : va_G} {tc : Nat → ClassId} {v v0 : hv_V} {A : Nat → Prop} {a : Array Value} {mc ms : Nat}
theorem hv_calli {post : Int32 → hv_V → Prop} (hr : va_Run p l e R s m args below meth c H locs cells slots mc ms (F0 m pc ls st0) rest (va_Qi post (hv_Post D tc (hv_A v)) (hv_A v) a) (hv_A v)) (hT : hv_St A s D tc v H locs)
    (kk : ∀ (r : Int32) (v1 : hv_V) (H1 : Heap) (locs1 : List Loc), post r v1 → hv_St A s D tc v1 H1 locs1 → W p l e R s m args below meth c H1 locs1 (cells + mc) (slots + ms) Q (F0 m (pc + 3) ls (.int r :: rest))) : W p l e R s m args below meth c H locs cells slots Q (F0 m pc ls st0) := by
  refine va_calli hr hT.2.2.1 (fun q _ h => hv_sub hT q h) (hv_sub hT) fun r u t H1 locs1 ht hvm hp hB hz hk hS => ?_
  exact kk r u H1 locs1 hp ⟨by rw [← ht]; exact hB.2.1, fun b hb => hv_sub hT b (hB.2.2 b hb), hS, hT.2.2.2⟩
theorem hv_callv {post : hv_V → Prop} (hr : va_Run p l e R s m args below meth c H locs cells slots mc ms (F0 m pc ls st0) rest (va_Qv post (hv_Post D tc (hv_A v)) (hv_A v) a) (hv_A v)) (hT : hv_St A s D tc v H locs)
    (kk : ∀ (v1 : hv_V) (H1 : Heap) (locs1 : List Loc), post v1 → hv_St A s D tc v1 H1 locs1 → W p l e R s m args below meth c H1 locs1 (cells + mc) (slots + ms) Q (F0 m (pc + 3) ls rest)) : W p l e R s m args below meth c H locs cells slots Q (F0 m pc ls st0) := by
  refine va_callv hr hT.2.2.1 (fun q _ h => hv_sub hT q h) (hv_sub hT) fun u t H1 locs1 ht hvm hp hB hz hk hS => ?_
  exact kk u H1 locs1 hp ⟨by rw [← ht]; exact hB.2.1, fun b hb => hv_sub hT b (hB.2.2 b hb), hS, hT.2.2.2⟩
theorem hv_callq {post : Option Nat → hv_V → Prop} (hr : va_Run p l e R s m args below meth c H locs cells slots mc ms (F0 m pc ls st0) rest (va_Qq post (hv_Post D tc (hv_A v)) (hv_A v) a) (hv_A v)) (hT : hv_St A s D tc v H locs)
    (kk : ∀ (r : Option Nat) (v1 : hv_V) (H1 : Heap) (locs1 : List Loc), post r v1 → hv_St A s D tc v1 H1 locs1 → W p l e R s m args below meth c H1 locs1 (cells + mc) (slots + ms) Q (F0 m (pc + 3) ls (va_rf r :: rest))) : W p l e R s m args below meth c H locs cells slots Q (F0 m pc ls st0) := by
  refine va_callq hr hT.2.2.1 (fun q _ h => hv_sub hT q h) (hv_sub hT) fun r u t H1 locs1 ht hvm hp hB hz hk hS => ?_
  exact kk r u H1 locs1 hp ⟨by rw [← ht]; exact hB.2.1, fun b hb => hv_sub hT b (hB.2.2 b hb), hS, hT.2.2.2⟩
theorem hv_iret {post : Int32 → hv_V → Prop} {ty : FieldType} (hexec : p.tables.exec = Jvm.exec) (hb : c.code = cc) (hr : meth.sig.returnType = some ty) {x : Int32} (hn : narrow ty (.int x) = .int x) (hlocks : meth.locks = false) (hK : hv_K D tc s) (hT : hv_St (hv_A v0) s D tc v H locs) (hp : post x v) (hdg : decode cc pc = .ok (.ireturn, 1)) : W p l e R s m args below meth c H locs cells slots (MQ below (va_Qi post (hv_Post D tc (hv_A v0)) (hv_A v0)) args s cells slots (hv_A v0)) (F0 m pc ls [.int x]) :=
  W.zret hexec hb hr hn (fun t ht hW => ⟨⟨x, v, rfl, hp, hv_K.warm hW hK, by rw [ht]; exact hT.1, hT.2.1⟩, hT.2.2.1.F ht⟩) hT.2.2.1.2.2 hdg hlocks
theorem hv_vret {post : hv_V → Prop} (hexec : p.tables.exec = Jvm.exec) (hb : c.code = cc) (hr : meth.sig.returnType = none) (hlocks : meth.locks = false) (hK : hv_K D tc s) (hT : hv_St (hv_A v0) s D tc v H locs) (hp : post v) (hdg : decode cc pc = .ok (.return_, 1)) : W p l e R s m args below meth c H locs cells slots (MQ below (va_Qv post (hv_Post D tc (hv_A v0)) (hv_A v0)) args s cells slots (hv_A v0)) (F0 m pc ls []) :=
  W.vret hexec hb hr (fun t ht hW => ⟨⟨v, rfl, hp, hv_K.warm hW hK, by rw [ht]; exact hT.1, hT.2.1⟩, hT.2.2.1.F ht⟩) hT.2.2.1.2.2 hdg hlocks
theorem hv_qret {post : Option Nat → hv_V → Prop} {n : String} (hexec : p.tables.exec = Jvm.exec) (hb : c.code = cc) (hr : meth.sig.returnType = some (.object n)) {y : Value} (x : Option Nat) (hy : y = va_rf x) (hlocks : meth.locks = false) (hK : hv_K D tc s) (hT : hv_St (hv_A v0) s D tc v H locs) (hp : post x v) (hdg : decode cc pc = .ok (.areturn, 1)) : W p l e R s m args below meth c H locs cells slots (MQ below (va_Qq post (hv_Post D tc (hv_A v0)) (hv_A v0)) args s cells slots (hv_A v0)) (F0 m pc ls [y]) := by
  subst hy
  exact W.aret hexec hb hr (Or.inl ⟨n, rfl⟩) (va_rf_or x) (fun t ht hW => ⟨⟨x, v, rfl, hp, hv_K.warm hW hK, by rw [ht]; exact hT.1, hT.2.1⟩, hT.2.2.1.F ht⟩) hT.2.2.1.2.2 hdg hlocks
end HVC
/-- a method's start -/
theorem hv_start {D : va_G} {tc : Nat → ClassId} {v : hv_V} {s : State} (hW : hv_W D tc v s.heap) : hv_St (hv_A v) s D tc v s.heap [] := ⟨hW, fun _ h => Or.inl h, va_S.rf, fun q h => Or.inr (by rw [← hW.2.2.1]; exact h)⟩
end
section
/-- what a walk knows of its method -/
def hv_Cx (p : Program) (s : State) (m : MethodId) (args : Array Value) (meth : Method) (c : Code) (y : MethodName) (cc : ByteArray) (maxL : Nat) (ret : Option FieldType) : Prop :=
  p.tables.exec = Jvm.exec ∧ c.code = cc ∧ c.maxLocals = maxL ∧ (∀ w ∈ (Cond.code y cc maxL ret :: lw_B), w.before args s = true) ∧ s.vm.findClass y.cls = some m.cls ∧ meth.name = y.name
theorem hv_meti (l : Launch) {y : MethodName} {cc : ByteArray} {maxL : Nat} {ret : FieldType} {rm : Room} {mc ms : Nat} {D : va_G} {tc : Nat → ClassId} {v0 : hv_V} {av : List Value} {post : Int32 → hv_V → Prop} (hy : plainName y.cls = true) (hlen : (lg_sl av).length ≤ maxL)
    (body : ∀ (p : Program) (e : Env) (s : State) (m : MethodId) (args : Array Value) (below : List Frame) (meth : Method) (c : Code) (Q : State → Prop), hv_Cx p s m args meth c y cc maxL (some ret) →
      (∀ (pc : Nat) (x : Int32) (v : hv_V) (H : Heap) (locs : List Loc) (cells slots : Nat) (ls : Array Slot), decode cc pc = .ok (.ireturn, 1) → narrow ret (.int x) = .int x → hv_St (hv_A v0) s D tc v H locs → post x v → cells ≤ mc → slots ≤ ms → W p l e rm s m args below meth c H locs cells slots Q (F0 m pc ls [.int x])) →
      hv_K D tc s → ∀ (H : Heap) (locs : List Loc) (ls : Array Slot), hv_St (hv_A v0) s D tc v0 H locs → lv_has ls maxL (lv_args 0 av) → W p l e rm s m args below meth c H locs 0 0 Q (F0 m 0 ls [])) :
    Met l y (Cond.code y cc maxL (some ret) :: lw_B) rm (va_Pc av (hv_Pre D tc v0)) (va_Qi post (hv_Post D tc (hv_A v0)) (hv_A v0)) mc ms (hv_A v0) := by
  refine Met.ofW (cc := cc) (maxL := maxL) (ret := some ret) hy rfl ?_
  intro p e s m args below meth c s₁ B hml hv
  obtain ⟨hargs, hK, hW⟩ := hv
  have hl := lv_entry av hlen
  have e1 : entryFrame m args maxL = F0 m 0 ((lg_sl av ++ List.replicate (maxL - (lg_sl av).length) Slot.unset).toArray) [] := by rw [hargs]; exact lg_entry_eq ..
  rw [e1]
  exact body p e s m args below meth c _ ⟨B.exec, B.bytes, hml, atoms_spec (ws := Cond.code y cc maxL (some ret) :: lw_B) B.pre, findClass_of_methodNamed B.named, (name_of_methodNamed B.named B.method).1⟩
    (fun pc x v H locs cells slots ls hd hn hT hp h1 h2 => W.widen h1 h2 (hv_iret B.exec B.bytes B.returns hn B.notSynchronized hK hT hp hd)) hK s.heap [] _ (hv_start hW) hl
theorem hv_metv (l : Launch) {y : MethodName} {cc : ByteArray} {maxL : Nat} {rm : Room} {mc ms : Nat} {D : va_G} {tc : Nat → ClassId} {v0 : hv_V} {av : List Value} {post : hv_V → Prop} (hy : plainName y.cls = true) (hlen : (lg_sl av).length ≤ maxL)
    (body : ∀ (p : Program) (e : Env) (s : State) (m : MethodId) (args : Array Value) (below : List Frame) (meth : Method) (c : Code) (Q : State → Prop), hv_Cx p s m args meth c y cc maxL none →
      (∀ (pc : Nat) (v : hv_V) (H : Heap) (locs : List Loc) (cells slots : Nat) (ls : Array Slot), decode cc pc = .ok (.return_, 1) → hv_St (hv_A v0) s D tc v H locs → post v → cells ≤ mc → slots ≤ ms → W p l e rm s m args below meth c H locs cells slots Q (F0 m pc ls [])) →
      hv_K D tc s → ∀ (H : Heap) (locs : List Loc) (ls : Array Slot), hv_St (hv_A v0) s D tc v0 H locs → lv_has ls maxL (lv_args 0 av) → W p l e rm s m args below meth c H locs 0 0 Q (F0 m 0 ls [])) :
    Met l y (Cond.code y cc maxL none :: lw_B) rm (va_Pc av (hv_Pre D tc v0)) (va_Qv post (hv_Post D tc (hv_A v0)) (hv_A v0)) mc ms (hv_A v0) := by
  refine Met.ofW (cc := cc) (maxL := maxL) (ret := none) hy rfl ?_
  intro p e s m args below meth c s₁ B hml hv
  obtain ⟨hargs, hK, hW⟩ := hv
  have hl := lv_entry av hlen
  have e1 : entryFrame m args maxL = F0 m 0 ((lg_sl av ++ List.replicate (maxL - (lg_sl av).length) Slot.unset).toArray) [] := by rw [hargs]; exact lg_entry_eq ..
  rw [e1]
  exact body p e s m args below meth c _ ⟨B.exec, B.bytes, hml, atoms_spec (ws := Cond.code y cc maxL none :: lw_B) B.pre, findClass_of_methodNamed B.named, (name_of_methodNamed B.named B.method).1⟩
    (fun pc v H locs cells slots ls hd hT hp h1 h2 => W.widen h1 h2 (hv_vret B.exec B.bytes B.returns B.notSynchronized hK hT hp hd)) hK s.heap [] _ (hv_start hW) hl
theorem hv_metq (l : Launch) {y : MethodName} {cc : ByteArray} {maxL : Nat} {nm : String} {rm : Room} {mc ms : Nat} {D : va_G} {tc : Nat → ClassId} {v0 : hv_V} {av : List Value} {post : Option Nat → hv_V → Prop} (hy : plainName y.cls = true) (hlen : (lg_sl av).length ≤ maxL)
    (body : ∀ (p : Program) (e : Env) (s : State) (m : MethodId) (args : Array Value) (below : List Frame) (meth : Method) (c : Code) (Q : State → Prop), hv_Cx p s m args meth c y cc maxL (some (.object nm)) →
      (∀ (pc : Nat) (y : Value) (x : Option Nat) (v : hv_V) (H : Heap) (locs : List Loc) (cells slots : Nat) (ls : Array Slot), decode cc pc = .ok (.areturn, 1) → y = va_rf x → hv_St (hv_A v0) s D tc v H locs → post x v → cells ≤ mc → slots ≤ ms → W p l e rm s m args below meth c H locs cells slots Q (F0 m pc ls [y])) →
      hv_K D tc s → ∀ (H : Heap) (locs : List Loc) (ls : Array Slot), hv_St (hv_A v0) s D tc v0 H locs → lv_has ls maxL (lv_args 0 av) → W p l e rm s m args below meth c H locs 0 0 Q (F0 m 0 ls [])) :
    Met l y (Cond.code y cc maxL (some (.object nm)) :: lw_B) rm (va_Pc av (hv_Pre D tc v0)) (va_Qq post (hv_Post D tc (hv_A v0)) (hv_A v0)) mc ms (hv_A v0) := by
  refine Met.ofW (cc := cc) (maxL := maxL) (ret := some (.object nm)) hy rfl ?_
  intro p e s m args below meth c s₁ B hml hv
  obtain ⟨hargs, hK, hW⟩ := hv
  have hl := lv_entry av hlen
  have e1 : entryFrame m args maxL = F0 m 0 ((lg_sl av ++ List.replicate (maxL - (lg_sl av).length) Slot.unset).toArray) [] := by rw [hargs]; exact lg_entry_eq ..
  rw [e1]
  exact body p e s m args below meth c _ ⟨B.exec, B.bytes, hml, atoms_spec (ws := Cond.code y cc maxL (some (.object nm)) :: lw_B) B.pre, findClass_of_methodNamed B.named, (name_of_methodNamed B.named B.method).1⟩
    (fun pc y x v H locs cells slots ls hd hy hT hp h1 h2 => W.widen h1 h2 (hv_qret B.exec B.bytes B.returns x hy B.notSynchronized hK hT hp hd)) hK s.heap [] _ (hv_start hW) hl
/-- a reference field that is known -/
theorem hv_gets {p : Program} {l : Launch} {e : Env} {R : Room} {s : State} {m : MethodId} {args : Array Value} {below : List Frame} {meth : Method} {c : Code} {H : Heap} {locs : List Loc} {cells slots : Nat} {Q : State → Prop} {cc : ByteArray} {pc : Nat} {ls : Array Slot} {rest : List Value} {D : va_G} {tc : Nat → ClassId} {v : hv_V} {A : Nat → Prop} {a : Nat} (hexec : p.tables.exec = Jvm.exec) (hb : c.code = cc) {own C : String} {T : u_T} {N ci index : Nat} {Ts : List Cond} (hts : ∀ w ∈ Ts, w.before args s = true) (hin : ∀ w ∈ u_ws C T N, w ∈ Ts) (hown : s.vm.findClass own = some m.cls) (hK : hv_K D tc s) (hT : hv_St A s D tc v H locs) (hk : hv_k v a = (ci + 1, 0)) (h99 : ci < 99) (hc : vwCl[ci]? = some (C, T, N)) (k : Nat) (hkN : k < N) (hlink : (Cond.fieldLink own index (T k).1 (T k).2.1 (T k).2.2.1).before args s = true) (hR : hv_R ci k = true) {x : Nat} (hx : hv_p v (100 * ci + k) a = some x) (hdg : decode cc pc = .ok (.getfield index, 3))
    (kk : W p l e R s m args below meth c H locs cells slots Q (F0 m (pc + 3) ls (.ref x :: rest))) : W p l e R s m args below meth c H locs cells slots Q (F0 m pc ls (.ref a :: rest)) := hv_getr hexec hb hts hin hown hK hT hk h99 hc k hkN hlink hR hx hdg kk
theorem hv_alds {p : Program} {l : Launch} {e : Env} {R : Room} {s : State} {m : MethodId} {args : Array Value} {below : List Frame} {meth : Method} {c : Code} {H : Heap} {locs : List Loc} {cells slots : Nat} {Q : State → Prop} {cc : ByteArray} {pc : Nat} {ls : Array Slot} {rest : List Value} {D : va_G} {tc : Nat → ClassId} {v : hv_V} {A : Nat → Prop} {a : Nat} (hexec : p.tables.exec = Jvm.exec) (hb : c.code = cc) (hK : hv_K D tc s) (hT : hv_St A s D tc v H locs) {n t : Nat} (hk : hv_k v a = (102 + t, n)) {ty : FieldType} (hty : (hv_tys tc)[2 + t]? = some (tc (2 + t), ty)) (hr : ty.isReference = true) {i : Int32} (hin : vp_in i n) {x : Nat} (hx : hv_q v a i.toNatClampNeg = some x) (hdg : decode cc pc = .ok (.aaload, 1))
    (kk : W p l e R s m args below meth c H locs cells slots Q (F0 m (pc + 1) ls (.ref x :: rest))) : W p l e R s m args below meth c H locs cells slots Q (F0 m pc ls (.int i :: .ref a :: rest)) := hv_aald hexec hb hK hT hk hty hr hin hx hdg kk
/-- a reference field that is null -/
theorem hv_getn {p : Program} {l : Launch} {e : Env} {R : Room} {s : State} {m : MethodId} {args : Array Value} {below : List Frame} {meth : Method} {c : Code} {H : Heap} {locs : List Loc} {cells slots : Nat} {Q : State → Prop} {cc : ByteArray} {pc : Nat} {ls : Array Slot} {rest : List Value} {D : va_G} {tc : Nat → ClassId} {v : hv_V} {A : Nat → Prop} {a : Nat} (hexec : p.tables.exec = Jvm.exec) (hb : c.code = cc) {own C : String} {T : u_T} {N ci index : Nat} {Ts : List Cond} (hts : ∀ w ∈ Ts, w.before args s = true) (hin : ∀ w ∈ u_ws C T N, w ∈ Ts) (hown : s.vm.findClass own = some m.cls) (hK : hv_K D tc s) (hT : hv_St A s D tc v H locs) (hk : hv_k v a = (ci + 1, 0)) (h99 : ci < 99) (hc : vwCl[ci]? = some (C, T, N)) (k : Nat) (hkN : k < N) (hlink : (Cond.fieldLink own index (T k).1 (T k).2.1 (T k).2.2.1).before args s = true) (hR : hv_R ci k = true) (hx : hv_p v (100 * ci + k) a = none) (hdg : decode cc pc = .ok (.getfield index, 3))
    (kk : W p l e R s m args below meth c H locs cells slots Q (F0 m (pc + 3) ls (.null :: rest))) : W p l e R s m args below meth c H locs cells slots Q (F0 m pc ls (.ref a :: rest)) := hv_getr hexec hb hts hin hown hK hT hk h99 hc k hkN hlink hR hx hdg kk
theorem hv_aldn {p : Program} {l : Launch} {e : Env} {R : Room} {s : State} {m : MethodId} {args : Array Value} {below : List Frame} {meth : Method} {c : Code} {H : Heap} {locs : List Loc} {cells slots : Nat} {Q : State → Prop} {cc : ByteArray} {pc : Nat} {ls : Array Slot} {rest : List Value} {D : va_G} {tc : Nat → ClassId} {v : hv_V} {A : Nat → Prop} {a : Nat} (hexec : p.tables.exec = Jvm.exec) (hb : c.code = cc) (hK : hv_K D tc s) (hT : hv_St A s D tc v H locs) {n t : Nat} (hk : hv_k v a = (102 + t, n)) {ty : FieldType} (hty : (hv_tys tc)[2 + t]? = some (tc (2 + t), ty)) (hr : ty.isReference = true) {i : Int32} (hin : vp_in i n) (hx : hv_q v a i.toNatClampNeg = none) (hdg : decode cc pc = .ok (.aaload, 1))
    (kk : W p l e R s m args below meth c H locs cells slots Q (F0 m (pc + 1) ls (.null :: rest))) : W p l e R s m args below meth c H locs cells slots Q (F0 m pc ls (.int i :: .ref a :: rest)) := hv_aald hexec hb hK hT hk hty hr hin hx hdg kk
/-- the same field rows by a method's words: its code ahead of lw_B -/
theorem tw_c {c0 w : Cond} (h : w ∈ lw_B) : w ∈ c0 :: lw_B := List.mem_cons_of_mem _ h
theorem tw_cs {c0 : Cond} {ws : List Cond} (h : ∀ w ∈ ws, w ∈ lw_B) : ∀ w ∈ ws, w ∈ c0 :: lw_B := fun w hw => List.mem_cons_of_mem _ (h w hw)
end
section
theorem hv_nrf {n : String} (x : Option Nat) : narrow (.object n) (va_rf x) = va_rf x := by cases x <;> rfl
theorem hv_frf {n : String} (x : Option Nat) : fits (.object n) (va_rf x) = true := by cases x <;> rfl
theorem hv_as {p : Program} {l : Launch} {e : Env} {R : Room} {s : State} {m : MethodId} {args : Array Value} {below : List Frame} {meth : Method} {c : Code} {H : Heap} {locs : List Loc} {cells slots : Nat} {Q : State → Prop} {pc : Nat} {ls : Array Slot} {rest : List Value} {x y : Int32} (h : x = y) (k : W p l e R s m args below meth c H locs cells slots Q (F0 m pc ls (.int y :: rest))) : W p l e R s m args below meth c H locs cells slots Q (F0 m pc ls (.int x :: rest)) := by rw [h]; exact k
theorem hd_X0 : ∀ j, j < 8 → defaultValue (tyX0 j) = if hv_R 0 j = true then .null else .int 0 := by decide +kernel
theorem hd_X1 : ∀ j, j < 9 → defaultValue (tyX1 j) = if hv_R 1 j = true then .null else .int 0 := by decide +kernel
theorem hd_X2 : ∀ j, j < 10 → defaultValue (tyX2 j) = if hv_R 2 j = true then .null else .int 0 := by decide +kernel
theorem hd_X3 : ∀ j, j < 12 → defaultValue (tyX3 j) = if hv_R 3 j = true then .null else .int 0 := by decide +kernel
theorem hd_X4 : ∀ j, j < 34 → defaultValue (tyX4 j) = if hv_R 4 j = true then .null else .int 0 := by decide +kernel
/-- the class's places: 0 the object, 1 sites, 2 network, 3 latestEvent, 4 delays, 5 heads, 6 tails, 8 + i a row of delays, 16 + i a site, 24 + i its states -/
def cs_live (n i : Nat) : Prop := (i < 16 ∧ i ≠ 7) ∨ (16 ≤ i ∧ i < 16 + n) ∨ (24 ≤ i ∧ i < 24 + n)
def cs_S (fa : Nat → Nat) (n : Nat) (v : hv_V) : Prop :=
  n ≤ 8 ∧ hv_k v (fa 0) = (4, 0) ∧ hv_k v (fa 1) = (102, 8) ∧ hv_k v (fa 2) = (2, 0) ∧ hv_k v (fa 3) = (100, 5) ∧ hv_k v (fa 4) = (104, 8) ∧ hv_k v (fa 5) = (103, 32) ∧ hv_k v (fa 6) = (103, 32) ∧
  hv_p v 300 (fa 0) = some (fa 1) ∧ hv_p v 301 (fa 0) = some (fa 2) ∧ hv_p v 302 (fa 0) = some (fa 3) ∧ hv_p v 100 (fa 2) = some (fa 4) ∧ hv_p v 101 (fa 2) = some (fa 5) ∧ hv_p v 102 (fa 2) = some (fa 6) ∧
  (∀ i, i < 8 → hv_q v (fa 4) i = some (fa (8 + i)) ∧ hv_k v (fa (8 + i)) = (100, 8)) ∧
  (∀ i, i < n → hv_q v (fa 1) i = some (fa (16 + i)) ∧ hv_k v (fa (16 + i)) = (3, 0) ∧ hv_p v 201 (fa (16 + i)) = some (fa (24 + i)) ∧ hv_k v (fa (24 + i)) = (100, 8)) ∧
  ∀ i j, cs_live n i → cs_live n j → fa i = fa j → i = j
section CSS
variable {fa : Nat → Nat} {n : Nat} {v : hv_V}
theorem cs_n8 (h : cs_S fa n v) : n ≤ 8 := h.1
theorem cs_kX (h : cs_S fa n v) : hv_k v (fa 0) = (4, 0) := h.2.1
theorem cs_kS (h : cs_S fa n v) : hv_k v (fa 1) = (102, 8) := h.2.2.1
theorem cs_kN (h : cs_S fa n v) : hv_k v (fa 2) = (2, 0) := h.2.2.2.1
theorem cs_kL (h : cs_S fa n v) : hv_k v (fa 3) = (100, 5) := h.2.2.2.2.1
theorem cs_kD (h : cs_S fa n v) : hv_k v (fa 4) = (104, 8) := h.2.2.2.2.2.1
theorem cs_kH (h : cs_S fa n v) : hv_k v (fa 5) = (103, 32) := h.2.2.2.2.2.2.1
theorem cs_kT (h : cs_S fa n v) : hv_k v (fa 6) = (103, 32) := h.2.2.2.2.2.2.2.1
theorem cs_pS (h : cs_S fa n v) : hv_p v 300 (fa 0) = some (fa 1) := h.2.2.2.2.2.2.2.2.1
theorem cs_pN (h : cs_S fa n v) : hv_p v 301 (fa 0) = some (fa 2) := h.2.2.2.2.2.2.2.2.2.1
theorem cs_pL (h : cs_S fa n v) : hv_p v 302 (fa 0) = some (fa 3) := h.2.2.2.2.2.2.2.2.2.2.1
theorem cs_pD (h : cs_S fa n v) : hv_p v 100 (fa 2) = some (fa 4) := h.2.2.2.2.2.2.2.2.2.2.2.1
theorem cs_pH (h : cs_S fa n v) : hv_p v 101 (fa 2) = some (fa 5) := h.2.2.2.2.2.2.2.2.2.2.2.2.1
theorem cs_pT (h : cs_S fa n v) : hv_p v 102 (fa 2) = some (fa 6) := h.2.2.2.2.2.2.2.2.2.2.2.2.2.1
theorem cs_rows (h : cs_S fa n v) : ∀ i, i < 8 → hv_q v (fa 4) i = some (fa (8 + i)) ∧ hv_k v (fa (8 + i)) = (100, 8) := h.2.2.2.2.2.2.2.2.2.2.2.2.2.2.1
theorem cs_sites (h : cs_S fa n v) : ∀ i, i < n → hv_q v (fa 1) i = some (fa (16 + i)) ∧ hv_k v (fa (16 + i)) = (3, 0) ∧ hv_p v 201 (fa (16 + i)) = some (fa (24 + i)) ∧ hv_k v (fa (24 + i)) = (100, 8) := h.2.2.2.2.2.2.2.2.2.2.2.2.2.2.2.1
theorem cs_inj (h : cs_S fa n v) : ∀ i j, cs_live n i → cs_live n j → fa i = fa j → i = j := h.2.2.2.2.2.2.2.2.2.2.2.2.2.2.2.2
theorem cs_lt8 (h : cs_S fa n v) {i : Nat} (hi : i < n) : i < 8 := Nat.lt_of_lt_of_le hi (cs_n8 h)
theorem cs_cl {i : Nat} (hi : i < 8) : (nI i).toNatClampNeg = i := nI_clamp (by omega)
theorem cs_in8 {i : Nat} (hi : i < 8) : vp_in (nI i) 8 := vp_in_nI hi (by omega)
theorem cs_kR (h : cs_S fa n v) {i : Nat} (hi : i < 8) : hv_k v (fa (8 + i)) = (100, 8) := (cs_rows h i hi).2
theorem cs_qD (h : cs_S fa n v) {i : Nat} (hi : i < 8) : hv_q v (fa 4) (nI i).toNatClampNeg = some (fa (8 + i)) := by rw [cs_cl hi]; exact (cs_rows h i hi).1
theorem cs_ks (h : cs_S fa n v) {i : Nat} (hi : i < n) : hv_k v (fa (16 + i)) = (3, 0) := (cs_sites h i hi).2.1
theorem cs_qS (h : cs_S fa n v) {i : Nat} (hi : i < n) : hv_q v (fa 1) (nI i).toNatClampNeg = some (fa (16 + i)) := by rw [cs_cl (cs_lt8 h hi)]; exact (cs_sites h i hi).1
theorem cs_po (h : cs_S fa n v) {i : Nat} (hi : i < n) : hv_p v 201 (fa (16 + i)) = some (fa (24 + i)) := (cs_sites h i hi).2.2.1
theorem cs_ko (h : cs_S fa n v) {i : Nat} (hi : i < n) : hv_k v (fa (24 + i)) = (100, 8) := (cs_sites h i hi).2.2.2
end CSS
end
section
/-- sums of weights -/
def ci_sum (w : Nat → Nat) : Nat → Nat
  | 0 => 0
  | k + 1 => ci_sum w k + w k
/-- a timer: off, or set to a time that is not far -/
def ci_tm (x : Int32) : Prop := x = -1 ∨ ∃ t : Nat, t ≤ 5000 ∧ x = nI t
/-- the numbers of the class's state: sites n, weights w, up u, begun b, delays d -/
def ci_V (fa : Nat → Nat) (n : Nat) (w u : Nat → Nat) (b : Nat) (d : Nat → Nat → Nat) (v : hv_V) : Prop :=
  hv_i v 303 (fa 0) = nI n ∧ hv_i v 304 (fa 0) = nI (ci_sum w n) ∧ (hv_i v 308 (fa 0) = nI b ∧ b ≤ 1) ∧ (∃ q : Nat, 5 ≤ q ∧ q ≤ 100 ∧ hv_i v 307 (fa 0) = nI q) ∧ (∃ t : Nat, t ≤ 4000 ∧ hv_i v 104 (fa 2) = nI t) ∧
  (∀ i j, i < 8 → j < 8 → d i j ≤ 20 ∧ hv_a v (fa (8 + i)) j = nI (d i j)) ∧
  ∀ i, i < n → 1 ≤ w i ∧ w i ≤ 9 ∧ hv_i v 200 (fa (16 + i)) = nI (w i) ∧ u i ≤ 1 ∧ hv_i v 203 (fa (16 + i)) = nI (u i) ∧ ci_tm (hv_i v 208 (fa (16 + i)))
/-- a chain of messages -/
def ci_ch (v : hv_V) : Option Nat → List Nat → Prop
  | p, [] => p = none
  | p, a :: r => p = some a ∧ ci_ch v (hv_p v 7 a) r
/-- the messages of all slots -/
def ci_fl (N : Nat) (Sl : Nat → List Nat) : List Nat := (List.range N).flatMap Sl
/-- the messages: k were made; those in hd are in no chain now -/
def ci_L (fa : Nat → Nat) (n k : Nat) (hd : List Nat) (Sl : Nat → List Nat) (Sp : List Nat) (v : hv_V) : Prop :=
  (Sp ++ hd ++ ci_fl 32 Sl).Nodup ∧ (Sp ++ hd ++ ci_fl 32 Sl).length = k ∧ k ≤ 4097 ∧
    (∀ a, a ∈ Sp ++ hd ++ ci_fl 32 Sl → hv_k v a = (1, 0) ∧ ∃ f t : Nat, f < n ∧ t < n ∧ hv_i v 3 a = nI f ∧ hv_i v 4 a = nI t) ∧
    ci_ch v (hv_p v 103 (fa 2)) Sp ∧ ∀ s, s < 32 → ci_ch v (hv_q v (fa 5) s) (Sl s) ∧ hv_q v (fa 6) s = (Sl s).getLast? ∧ ∀ a, a ∈ Sl s → ∃ t : Nat, t ≤ 4020 ∧ t % 32 = s ∧ hv_i v 0 a = nI t
def ci_M (fa : Nat → Nat) (n k : Nat) (hd : List Nat) (v : hv_V) : Prop := ∃ (Sl : Nat → List Nat) (Sp : List Nat), ci_L fa n k hd Sl Sp v ∧ hv_i v 108 (fa 2) = nI (ci_fl 32 Sl).length
/-- the class's state: g tells the cells and slots that aren't messages' -/
def ci_I (fa : Nat → Nat) (n : Nat) (w u : Nat → Nat) (b : Nat) (d : Nat → Nat → Nat) (g : Nat × Nat) (k : Nat) (hd : List Nat) (v : hv_V) : Prop := cs_S fa n v ∧ ci_V fa n w u b d v ∧ ci_M fa n k hd v ∧ hv_n v = g.1 + k ∧ hv_t v = g.2 + 8 * k
/-- int fields of which the state's picture says nothing -/
def ci_free (f : Nat) : Bool := !([303, 304, 307, 308, 104, 200, 203, 208, 108, 0, 3, 4].contains f)
theorem ci_chE {v v1 : hv_V} (h : ∀ a, hv_p v1 7 a = hv_p v 7 a) : ∀ (r : List Nat) (p : Option Nat), ci_ch v p r → ci_ch v1 p r
  | [], _, q => q
  | a :: r, _, q => ⟨q.1, by rw [h]; exact ci_chE h r _ q.2⟩
section CII
variable {fa : Nat → Nat} {n : Nat} {w u : Nat → Nat} {b : Nat} {d : Nat → Nat → Nat} {g : Nat × Nat} {k : Nat} {hd : List Nat} {v v1 : hv_V}
theorem cs_S_of (h : cs_S fa n v) (hk : ∀ a, hv_k v1 a = hv_k v a) (hp : ∀ f a, f ≠ 103 → f ≠ 7 → hv_p v1 f a = hv_p v f a) (hq : ∀ a j, a ≠ fa 5 → a ≠ fa 6 → hv_q v1 a j = hv_q v a j) : cs_S fa n v1 := by
  obtain ⟨h1, h2, h3, h4, h5, h6, h7, h8, p1, p2, p3, p4, p5, p6, r, t, ij⟩ := h
  have n45 : fa 4 ≠ fa 5 := fun e => absurd (ij 4 5 (Or.inl ⟨by decide, by decide⟩) (Or.inl ⟨by decide, by decide⟩) e) (by decide)
  have n46 : fa 4 ≠ fa 6 := fun e => absurd (ij 4 6 (Or.inl ⟨by decide, by decide⟩) (Or.inl ⟨by decide, by decide⟩) e) (by decide)
  have n15 : fa 1 ≠ fa 5 := fun e => absurd (ij 1 5 (Or.inl ⟨by decide, by decide⟩) (Or.inl ⟨by decide, by decide⟩) e) (by decide)
  have n16 : fa 1 ≠ fa 6 := fun e => absurd (ij 1 6 (Or.inl ⟨by decide, by decide⟩) (Or.inl ⟨by decide, by decide⟩) e) (by decide)
  refine ⟨h1, by rw [hk]; exact h2, by rw [hk]; exact h3, by rw [hk]; exact h4, by rw [hk]; exact h5, by rw [hk]; exact h6, by rw [hk]; exact h7, by rw [hk]; exact h8, ?_, ?_, ?_, ?_, ?_, ?_, fun i hi => ?_, fun i hi => ?_, ij⟩
  · rw [hp _ _ (by decide) (by decide)]; exact p1
  · rw [hp _ _ (by decide) (by decide)]; exact p2
  · rw [hp _ _ (by decide) (by decide)]; exact p3
  · rw [hp _ _ (by decide) (by decide)]; exact p4
  · rw [hp _ _ (by decide) (by decide)]; exact p5
  · rw [hp _ _ (by decide) (by decide)]; exact p6
  · rw [hk, hq _ _ n45 n46]; exact r i hi
  · rw [hk, hk, hq _ _ n15 n16, hp _ _ (by decide) (by decide)]; exact t i hi
theorem ci_V_of (h : ci_V fa n w u b d v) (hi : ∀ f a, f ≠ 108 → f ≠ 0 → f ≠ 3 → f ≠ 4 → ci_free f = false → hv_i v1 f a = hv_i v f a) (ha : ∀ i j, i < 8 → hv_a v1 (fa (8 + i)) j = hv_a v (fa (8 + i)) j) : ci_V fa n w u b d v1 := by
  obtain ⟨h1, h2, h3, h4, h5, h6, h7⟩ := h
  refine ⟨?_, ?_, ?_, ?_, ?_, fun i j hi' hj => ?_, fun i hi' => ?_⟩
  · rw [hi _ _ (by decide) (by decide) (by decide) (by decide) rfl]; exact h1
  · rw [hi _ _ (by decide) (by decide) (by decide) (by decide) rfl]; exact h2
  · rw [hi _ _ (by decide) (by decide) (by decide) (by decide) rfl]; exact h3
  · rw [hi _ _ (by decide) (by decide) (by decide) (by decide) rfl]; exact h4
  · rw [hi _ _ (by decide) (by decide) (by decide) (by decide) rfl]; exact h5
  · rw [ha i j hi']; exact h6 i j hi' hj
  · rw [hi _ _ (by decide) (by decide) (by decide) (by decide) rfl, hi _ _ (by decide) (by decide) (by decide) (by decide) rfl, hi _ _ (by decide) (by decide) (by decide) (by decide) rfl]; exact h7 i hi'
theorem ci_L_of {Sl : Nat → List Nat} {Sp : List Nat} (h : ci_L fa n k hd Sl Sp v) (hk : ∀ a, hv_k v1 a = hv_k v a) (hi : ∀ f a, f = 0 ∨ f = 3 ∨ f = 4 → hv_i v1 f a = hv_i v f a) (hp : ∀ a, hv_p v1 7 a = hv_p v 7 a) (hs : hv_p v1 103 (fa 2) = hv_p v 103 (fa 2)) (hq : ∀ j, hv_q v1 (fa 5) j = hv_q v (fa 5) j ∧ hv_q v1 (fa 6) j = hv_q v (fa 6) j) : ci_L fa n k hd Sl Sp v1 := by
  obtain ⟨h1, h2, h2', h3, h4, h5⟩ := h
  refine ⟨h1, h2, h2', fun a ha => ?_, ?_, fun s hs' => ⟨?_, ?_, fun a ha => ?_⟩⟩
  · rw [hk, hi 3 a (by simp), hi 4 a (by simp)]; exact h3 a ha
  · rw [hs]; exact ci_chE hp _ _ h4
  · rw [(hq s).1]; exact ci_chE hp _ _ (h5 s hs').1
  · rw [(hq s).2]; exact (h5 s hs').2.1
  · rw [hi 0 a (by simp)]; exact (h5 s hs').2.2 a ha
theorem ci_M_of (h : ci_M fa n k hd v) (hk : ∀ a, hv_k v1 a = hv_k v a) (hi : ∀ f a, f = 108 ∨ f = 0 ∨ f = 3 ∨ f = 4 → hv_i v1 f a = hv_i v f a) (hp : ∀ a, hv_p v1 7 a = hv_p v 7 a) (hs : hv_p v1 103 (fa 2) = hv_p v 103 (fa 2)) (hq : ∀ j, hv_q v1 (fa 5) j = hv_q v (fa 5) j ∧ hv_q v1 (fa 6) j = hv_q v (fa 6) j) : ci_M fa n k hd v1 := by
  obtain ⟨Sl, Sp, h1, h2⟩ := h
  exact ⟨Sl, Sp, ci_L_of h1 hk (fun f a hf => hi f a (Or.inr hf)) hp hs hq, by rw [hi 108 _ (by simp)]; exact h2⟩
/-- an int field of which nothing is said -/
theorem ci_put {f a : Nat} {x : Int32} (hf : ci_free f = true) (h : ci_I fa n w u b d g k hd v) : ci_I fa n w u b d g k hd (hv_si v f a x) := by
  have ne : ∀ e, ci_free e = false → e ≠ f := fun e hg e1 => by rw [e1, hf] at hg; cases hg
  refine ⟨h.1, ci_V_of h.2.1 (fun e c _ _ _ _ hg => by rw [hv_si_i, if_neg (fun q => ne e hg q.1)]) (fun _ _ _ => rfl), ci_M_of h.2.2.1 (fun _ => rfl) (fun e c hg => ?_) (fun _ => rfl) rfl (fun _ => ⟨rfl, rfl⟩), h.2.2.2⟩
  rw [hv_si_i, if_neg (fun q => ne e (by rcases hg with rfl | rfl | rfl | rfl <;> rfl) q.1)]
/-- elements of an int array that isn't a row of delays -/
theorem ci_puta {a j : Nat} {x : Int32} (ha : ∀ i, i < 8 → fa (8 + i) ≠ a) (h : ci_I fa n w u b d g k hd v) : ci_I fa n w u b d g k hd (hv_sa v a j x) :=
  ⟨h.1, ci_V_of h.2.1 (fun _ _ _ _ _ _ _ => rfl) (fun i j' hi => by rw [hv_sa_a, if_neg (fun q => ha i hi q.1)]), ci_M_of h.2.2.1 (fun _ => rfl) (fun _ _ _ => rfl) (fun _ => rfl) rfl (fun _ => ⟨rfl, rfl⟩), h.2.2.2⟩
theorem cs_live_r {i : Nat} (hi : i < 8) : cs_live n (8 + i) := Or.inl ⟨by omega, by omega⟩
theorem cs_live_l {i : Nat} (hi : i < 7) : cs_live n i := Or.inl ⟨by omega, by omega⟩
theorem cs_live_s {i : Nat} (hi : i < n) : cs_live n (16 + i) := Or.inr (Or.inl ⟨by omega, by omega⟩)
theorem cs_live_o {i : Nat} (hi : i < n) : cs_live n (24 + i) := Or.inr (Or.inr ⟨by omega, by omega⟩)
theorem ci_putL {j : Nat} {x : Int32} (h : ci_I fa n w u b d g k hd v) : ci_I fa n w u b d g k hd (hv_sa v (fa 3) j x) := ci_puta (fun i hi e => absurd (cs_inj h.1 _ _ (cs_live_r hi) (cs_live_l (by decide)) e) (by omega)) h
theorem ci_puto {i j : Nat} {x : Int32} (hi : i < n) (h : ci_I fa n w u b d g k hd v) : ci_I fa n w u b d g k hd (hv_sa v (fa (24 + i)) j x) := ci_puta (fun i' hi' e => absurd (cs_inj h.1 _ _ (cs_live_r hi') (cs_live_o hi) e) (by have := cs_n8 h.1; omega)) h
/-- a site's timer -/
theorem ci_putT {i : Nat} {x : Int32} (hx : ci_tm x) (h : ci_I fa n w u b d g k hd v) (hi : i < n) : ci_I fa n w u b d g k hd (hv_si v 208 (fa (16 + i)) x) := by
  obtain ⟨hS, ⟨h1, h2, h3, h4, h5, h6, h7⟩, hM, hE⟩ := h
  refine ⟨hS, ⟨h1, h2, h3, h4, h5, h6, fun i' hi' => ?_⟩, ci_M_of hM (fun _ => rfl) (fun g c hg => ?_) (fun _ => rfl) rfl (fun _ => ⟨rfl, rfl⟩), hE⟩
  · obtain ⟨a1, a2, a3, a4, a5, a6⟩ := h7 i' hi'
    refine ⟨a1, a2, a3, a4, a5, ?_⟩
    rw [hv_si_i]
    split
    · exact hx
    · exact a6
  · rw [hv_si_i, if_neg (fun q => by rcases hg with rfl | rfl | rfl | rfl <;> exact absurd q.1 (by decide))]
/-- the time -/
theorem ci_putN {t : Nat} (ht : t ≤ 4000) (h : ci_I fa n w u b d g k hd v) : ci_I fa n w u b d g k hd (hv_si v 104 (fa 2) (nI t)) := by
  obtain ⟨hS, ⟨h1, h2, h3, h4, h5, h6, h7⟩, hM, hE⟩ := h
  refine ⟨hS, ⟨h1, h2, h3, h4, ⟨t, ht, by rw [hv_si_i, if_pos ⟨rfl, rfl⟩]⟩, h6, h7⟩, ci_M_of hM (fun _ => rfl) (fun g c hg => ?_) (fun _ => rfl) rfl (fun _ => ⟨rfl, rfl⟩), hE⟩
  rw [hv_si_i, if_neg (fun q => by rcases hg with rfl | rfl | rfl | rfl <;> exact absurd q.1 (by decide))]
end CII
end
section
theorem cs_is1 {x : Int32} {n : Nat} (h0 : ¬ x < 0) (h1 : ¬ nI n ≤ x) (hn : n ≤ 8 := by assumption) : ∃ i, i < n ∧ x = nI i := by
  rcases pk_ix x (n := n) (by omega) with h | h | h
  · exact absurd h h0
  · exact absurd h h1
  · exact h
theorem cs_is0 {x : Int32} {n : Nat} (h : x < 0 ∨ nI n ≤ x) (hn : n ≤ 8 := by assumption) : ¬ ∃ i, i < n ∧ x = nI i := by
  rintro ⟨i, hi, rfl⟩
  rcases h with h | h
  · exact nI_pos (by omega) h
  · exact nI_ge hi (by omega) h
/-- a bit, as hasBit answers -/
def hb_ (x i : Int32) : Int32 := if ((x >>> (i &&& 31)) &&& 1) = 0 then 0 else 1

set_option maxHeartbeats 4000000 in
set_option maxRecDepth 100000 in
theorem c_isSite (l : Launch) (D : va_G) (tc : Nat → ClassId) {fa : Nat → Nat} {n : Nat} {v : hv_V} (x : Int32) (hS : cs_S fa n v) (hn : hv_i v 303 (fa 0) = nI n) : Met l yX3_isSite (Cond.code yX3_isSite cX3_isSite 2 (some .boolean) :: lw_B) ({ frames := 0, cells := 0, slots := 0, locals := 0 }) (va_Pc [.ref (fa 0), .int x] (hv_Pre D tc v)) (va_Qi (fun (r : Int32) (v1 : hv_V) => v1 = v ∧ ((r = 1 ∧ ∃ i, i < n ∧ x = nI i) ∨ (r = 0 ∧ ¬ ∃ i, i < n ∧ x = nI i))) (hv_Post D tc (hv_A v)) (hv_A v)) (0) (0) (hv_A v) := by
  refine hv_meti l (by decide) (Nat.le_of_ble_eq_true rfl) ?_
  intro p e s m args below meth c Q X hret hK H locs ls hT hl
  obtain ⟨hx, hb, hml, hts, hown, hin0⟩ := X
  have hown : s.vm.findClass "CommitSites" = some m.cls := hown
  have hl : lv_has ls 2 [(0, .ref (fa 0)), (1, .int x)] := hl
  have hn8 := cs_n8 hS
  refine lv_iload_n hx hb dX3_isSite_0 rfl (lv_at hl 1 rfl) ?_
  refine lv_if_lt (tgt := 16) hx hb dX3_isSite_1 (by decide) (fun c1 => ?_) (fun c1 => ?_)
  · skip
    refine lv_iconst (v := 0) hx hb dX3_isSite_16 (by decide) ?_
    exact hret _ 0 v _ _ _ _ _ dX3_isSite_17 rfl hT ⟨rfl, Or.inr ⟨rfl, cs_is0 (Or.inl c1)⟩⟩ (by decide) (by decide)
  · skip
    refine lv_iload_n hx hb dX3_isSite_4 rfl (lv_at hl 1 rfl) ?_
    refine lv_aload_n hx hb dX3_isSite_5 rfl (lv_at hl 0 rfl) ?_
    refine hv_geti (ci := 3) (C := RX3) (T := TX3) (N := 12) hx hb hts (tw_cs in_X3) hown hK hT (cs_kX hS) (by decide) rfl 3 (by decide) (hts _ (tw_c tw_50)) rfl dX3_isSite_6 ?_
    refine lv_topi (fun g1 eg1 => ?_)
    refine lv_icmp_ge (tgt := 16) hx hb dX3_isSite_9 (by decide) (fun c9 => ?_) (fun c9 => ?_)
    · skip
      refine lv_iconst (v := 0) hx hb dX3_isSite_16 (by decide) ?_
      exact hret _ 0 v _ _ _ _ _ dX3_isSite_17 rfl hT ⟨rfl, Or.inr ⟨rfl, cs_is0 (Or.inr (by rw [← hn, ← eg1]; exact c9))⟩⟩ (by decide) (by decide)
    · skip
      refine lv_iconst (v := 1) hx hb dX3_isSite_12 (by decide) ?_
      refine lv_goto (tgt := 17) hx hb dX3_isSite_13 (by decide) ?_
      exact hret _ 1 v _ _ _ _ _ dX3_isSite_17 rfl hT ⟨rfl, Or.inl ⟨rfl, cs_is1 c1 (by rw [← hn, ← eg1]; exact c9)⟩⟩ (by decide) (by decide)

set_option maxHeartbeats 4000000 in
set_option maxRecDepth 100000 in
theorem c_isLink (l : Launch) (D : va_G) (tc : Nat → ClassId) {fa : Nat → Nat} {n : Nat} {v : hv_V} (x y : Int32) (hS : cs_S fa n v) (hn : hv_i v 303 (fa 0) = nI n) : Met l yX3_isLink (Cond.code yX3_isLink cX3_isLink 3 (some .boolean) :: lw_B) ({ frames := 1, cells := 0, slots := 0, locals := 21 }) (va_Pc [.ref (fa 0), .int x, .int y] (hv_Pre D tc v)) (va_Qi (fun (r : Int32) (v1 : hv_V) => v1 = v ∧ ((r = 1 ∧ ∃ i j, i < n ∧ j < n ∧ i ≠ j ∧ x = nI i ∧ y = nI j) ∨ (r = 0 ∧ ¬ ∃ i j, i < n ∧ j < n ∧ i ≠ j ∧ x = nI i ∧ y = nI j))) (hv_Post D tc (hv_A v)) (hv_A v)) (0) (0) (hv_A v) := by
  refine hv_meti l (by decide) (Nat.le_of_ble_eq_true rfl) ?_
  intro p e s m args below meth c Q X hret hK H locs ls hT hl
  obtain ⟨hx, hb, hml, hts, hown, hin0⟩ := X
  have hown : s.vm.findClass "CommitSites" = some m.cls := hown
  have hl : lv_has ls 3 [(0, .ref (fa 0)), (1, .int x), (2, .int y)] := hl
  refine lv_aload_n hx hb dX3_isLink_0 rfl (lv_at hl 0 rfl) ?_
  refine lv_iload_n hx hb dX3_isLink_1 rfl (lv_at hl 1 rfl) ?_
  refine hv_calli (va_runV (As := [.int x]) (rest := []) ⟨hx, hb, hml, hown, hts⟩ (c_isSite l D tc x hS hn) (cwV 1 hts (tw_V tw_103 tw_104 tw_484 tw_1 tw_105) rfl rfl rfl (by decide +kernel) ⟨Nat.le_of_ble_eq_true rfl, Nat.le_of_ble_eq_true rfl⟩) (hv_preV hK hT.1 (cs_kX hS) (by decide) rfl rfl) rfl rfl hl.1 rfl (lv_room (Nat.le_of_ble_eq_true rfl)) dX3_isLink_2 ⟨Nat.le_of_ble_eq_true rfl, Nat.le_of_ble_eq_true rfl⟩) hT (fun r3 v1 H locs hp2 hT => ?_)
  obtain ⟨evhp2, qhp2⟩ := hp2
  rw [evhp2] at hT
  refine lv_if_eq (tgt := 25) hx hb dX3_isLink_5 (by decide) (fun c5 => ?_) (fun c5 => ?_)
  · skip
    refine lv_iconst (v := 0) hx hb dX3_isLink_25 (by decide) ?_
    exact hret _ 0 v _ _ _ _ _ dX3_isLink_26 rfl hT ⟨rfl, Or.inr ⟨rfl, (fun ⟨i, j, hi, hj, hne, e1, e2⟩ => (qhp2.resolve_left (fun q => absurd (q.1.symm.trans c5) (by decide))).2 ⟨i, hi, e1⟩)⟩⟩ (by decide) (by decide)
  · skip
    refine lv_aload_n hx hb dX3_isLink_8 rfl (lv_at hl 0 rfl) ?_
    refine lv_iload_n hx hb dX3_isLink_9 rfl (lv_at hl 2 rfl) ?_
    refine hv_calli (va_runV (As := [.int y]) (rest := []) ⟨hx, hb, hml, hown, hts⟩ (c_isSite l D tc y hS hn) (cwV 1 hts (tw_V tw_103 tw_104 tw_484 tw_1 tw_105) rfl rfl rfl (by decide +kernel) ⟨Nat.le_of_ble_eq_true rfl, Nat.le_of_ble_eq_true rfl⟩) (hv_preV hK hT.1 (cs_kX hS) (by decide) rfl rfl) rfl rfl hl.1 rfl (lv_room (Nat.le_of_ble_eq_true rfl)) dX3_isLink_10 ⟨Nat.le_of_ble_eq_true rfl, Nat.le_of_ble_eq_true rfl⟩) hT (fun r6 v4 H locs hp5 hT => ?_)
    obtain ⟨evhp5, qhp5⟩ := hp5
    rw [evhp5] at hT
    refine lv_if_eq (tgt := 25) hx hb dX3_isLink_13 (by decide) (fun c13 => ?_) (fun c13 => ?_)
    · skip
      refine lv_iconst (v := 0) hx hb dX3_isLink_25 (by decide) ?_
      exact hret _ 0 v _ _ _ _ _ dX3_isLink_26 rfl hT ⟨rfl, Or.inr ⟨rfl, (fun ⟨i, j, hi, hj, hne, e1, e2⟩ => (qhp5.resolve_left (fun q => absurd (q.1.symm.trans c13) (by decide))).2 ⟨j, hj, e2⟩)⟩⟩ (by decide) (by decide)
    · skip
      refine lv_iload_n hx hb dX3_isLink_16 rfl (lv_at hl 1 rfl) ?_
      refine lv_iload_n hx hb dX3_isLink_17 rfl (lv_at hl 2 rfl) ?_
      refine lv_icmp_eq (tgt := 25) hx hb dX3_isLink_18 (by decide) (fun c18 => ?_) (fun c18 => ?_)
      · skip
        refine lv_iconst (v := 0) hx hb dX3_isLink_25 (by decide) ?_
        exact hret _ 0 v _ _ _ _ _ dX3_isLink_26 rfl hT ⟨rfl, Or.inr ⟨rfl, (fun ⟨i, j, hi, hj, hne, e1, e2⟩ => hne ((nI_eq (by have := cs_lt8 hS hi; omega) (by have := cs_lt8 hS hj; omega)).mp (by rw [← e1, ← e2]; exact c18)))⟩⟩ (by decide) (by decide)
      · skip
        refine lv_iconst (v := 1) hx hb dX3_isLink_21 (by decide) ?_
        refine lv_goto (tgt := 26) hx hb dX3_isLink_22 (by decide) ?_
        exact hret _ 1 v _ _ _ _ _ dX3_isLink_26 rfl hT (by obtain ⟨i, hi, e1⟩ := (qhp2.resolve_right (fun q => c5 q.1)).2; obtain ⟨j, hj, e2⟩ := (qhp5.resolve_right (fun q => c13 q.1)).2; exact ⟨rfl, Or.inl ⟨rfl, i, j, hi, hj, fun q => c18 (by rw [e1, e2, q]), e1, e2⟩⟩) (by decide) (by decide)

set_option maxHeartbeats 4000000 in
set_option maxRecDepth 100000 in
theorem c_hasBit (l : Launch) (D : va_G) (tc : Nat → ClassId) {v : hv_V} (x i : Int32) : Met l yX3_hasBit (Cond.code yX3_hasBit cX3_hasBit 2 (some .boolean) :: lw_B) ({ frames := 0, cells := 0, slots := 0, locals := 0 }) (va_Pc [.int x, .int i] (hv_Pre D tc v)) (va_Qi (fun (r : Int32) (v1 : hv_V) => v1 = v ∧ r = hb_ x i) (hv_Post D tc (hv_A v)) (hv_A v)) (0) (0) (hv_A v) := by
  refine hv_meti l (by decide) (Nat.le_of_ble_eq_true rfl) ?_
  intro p e s m args below meth c Q X hret hK H locs ls hT hl
  obtain ⟨hx, hb, hml, hts, hown, hin0⟩ := X
  have hown : s.vm.findClass "CommitSites" = some m.cls := hown
  have hl : lv_has ls 2 [(0, .int x), (1, .int i)] := hl
  refine lv_iload_n hx hb dX3_hasBit_0 rfl (lv_at hl 0 rfl) ?_
  refine lv_iload_n hx hb dX3_hasBit_1 rfl (lv_at hl 1 rfl) ?_
  refine lv_ishr hx hb dX3_hasBit_2 ?_
  refine lv_iconst (v := 1) hx hb dX3_hasBit_3 (by decide) ?_
  refine lv_iand hx hb dX3_hasBit_4 ?_
  refine lv_if_eq (tgt := 12) hx hb dX3_hasBit_5 (by decide) (fun c5 => ?_) (fun c5 => ?_)
  · skip
    refine lv_iconst (v := 0) hx hb dX3_hasBit_12 (by decide) ?_
    exact hret _ 0 v _ _ _ _ _ dX3_hasBit_13 rfl hT ⟨rfl, by unfold hb_; rw [if_pos c5]⟩ (by decide) (by decide)
  · skip
    refine lv_iconst (v := 1) hx hb dX3_hasBit_8 (by decide) ?_
    refine lv_goto (tgt := 13) hx hb dX3_hasBit_9 (by decide) ?_
    exact hret _ 1 v _ _ _ _ _ dX3_hasBit_13 rfl hT ⟨rfl, by unfold hb_; rw [if_neg c5]⟩ (by decide) (by decide)

set_option maxHeartbeats 4000000 in
set_option maxRecDepth 100000 in
theorem c_everyone (l : Launch) (D : va_G) (tc : Nat → ClassId) {fa : Nat → Nat} {n : Nat} {v : hv_V} (hS : cs_S fa n v) (hn : hv_i v 303 (fa 0) = nI n) : Met l yX3_everyone (Cond.code yX3_everyone cX3_everyone 1 (some .int) :: lw_B) ({ frames := 0, cells := 0, slots := 0, locals := 0 }) (va_Pc [.ref (fa 0)] (hv_Pre D tc v)) (va_Qi (fun (r : Int32) (v1 : hv_V) => v1 = v ∧ r = ((1 : Int32) <<< (nI n &&& 31)) - 1) (hv_Post D tc (hv_A v)) (hv_A v)) (0) (0) (hv_A v) := by
  refine hv_meti l (by decide) (Nat.le_of_ble_eq_true rfl) ?_
  intro p e s m args below meth c Q X hret hK H locs ls hT hl
  obtain ⟨hx, hb, hml, hts, hown, hin0⟩ := X
  have hown : s.vm.findClass "CommitSites" = some m.cls := hown
  have hl : lv_has ls 1 [(0, .ref (fa 0))] := hl
  refine lv_iconst (v := 1) hx hb dX3_everyone_0 (by decide) ?_
  refine lv_aload_n hx hb dX3_everyone_1 rfl (lv_at hl 0 rfl) ?_
  refine hv_geti (ci := 3) (C := RX3) (T := TX3) (N := 12) hx hb hts (tw_cs in_X3) hown hK hT (cs_kX hS) (by decide) rfl 3 (by decide) (hts _ (tw_c tw_50)) rfl dX3_everyone_2 ?_
  refine lv_topi (fun g1 eg1 => ?_)
  refine lv_ishl hx hb dX3_everyone_5 ?_
  refine lv_iconst (v := 1) hx hb dX3_everyone_6 (by decide) ?_
  refine lv_isub hx hb dX3_everyone_7 ?_
  exact hret _ ((1 <<< (g1 &&& 31)) - 1) v _ _ _ _ _ dX3_everyone_8 rfl hT ⟨rfl, by rw [← hn, ← eg1]⟩ (by decide) (by decide)

set_option maxHeartbeats 4000000 in
set_option maxRecDepth 100000 in
theorem c_allBut (l : Launch) (D : va_G) (tc : Nat → ClassId) {fa : Nat → Nat} {n : Nat} {v : hv_V} (hS : cs_S fa n v) (hn : hv_i v 303 (fa 0) = nI n) (x : Int32) : Met l yX3_allBut (Cond.code yX3_allBut cX3_allBut 2 (some .int) :: lw_B) ({ frames := 1, cells := 0, slots := 0, locals := 20 }) (va_Pc [.ref (fa 0), .int x] (hv_Pre D tc v)) (va_Qi (fun (r : Int32) (v1 : hv_V) => v1 = v ∧ r = (((1 : Int32) <<< (nI n &&& 31)) - 1) &&& (((1 : Int32) <<< (x &&& 31)) ^^^ (-1))) (hv_Post D tc (hv_A v)) (hv_A v)) (0) (0) (hv_A v) := by
  refine hv_meti l (by decide) (Nat.le_of_ble_eq_true rfl) ?_
  intro p e s m args below meth c Q X hret hK H locs ls hT hl
  obtain ⟨hx, hb, hml, hts, hown, hin0⟩ := X
  have hown : s.vm.findClass "CommitSites" = some m.cls := hown
  have hl : lv_has ls 2 [(0, .ref (fa 0)), (1, .int x)] := hl
  refine lv_aload_n hx hb dX3_allBut_0 rfl (lv_at hl 0 rfl) ?_
  refine hv_calli (va_runV (As := []) (rest := []) ⟨hx, hb, hml, hown, hts⟩ (c_everyone l D tc hS hn) (cwV 0 hts (tw_V tw_134 tw_135 tw_488 tw_1 tw_136) rfl rfl rfl (by decide +kernel) ⟨Nat.le_of_ble_eq_true rfl, Nat.le_of_ble_eq_true rfl⟩) (hv_preV hK hT.1 (cs_kX hS) (by decide) rfl rfl) rfl rfl hl.1 rfl (lv_room (Nat.le_of_ble_eq_true rfl)) dX3_allBut_1 ⟨Nat.le_of_ble_eq_true rfl, Nat.le_of_ble_eq_true rfl⟩) hT (fun r3 v1 H locs hp2 hT => ?_)
  obtain ⟨evhp2, qhp2⟩ := hp2
  rw [evhp2] at hT
  refine lv_iconst (v := 1) hx hb dX3_allBut_4 (by decide) ?_
  refine lv_iload_n hx hb dX3_allBut_5 rfl (lv_at hl 1 rfl) ?_
  refine lv_ishl hx hb dX3_allBut_6 ?_
  refine lv_iconst (v := (-1)) hx hb dX3_allBut_7 (by decide) ?_
  refine lv_ixor hx hb dX3_allBut_8 ?_
  refine lv_iand hx hb dX3_allBut_9 ?_
  exact hret _ (r3 &&& ((1 <<< (x &&& 31)) ^^^ (-1))) v _ _ _ _ _ dX3_allBut_10 rfl hT ⟨rfl, by rw [qhp2]⟩ (by decide) (by decide)

set_option maxHeartbeats 4000000 in
set_option maxRecDepth 100000 in
theorem c_shareQuorums (l : Launch) (D : va_G) (tc : Nat → ClassId) {fa : Nat → Nat} {n : Nat} {v : hv_V} (hS : cs_S fa n v) : Met l yX3_shareQuorums (Cond.code yX3_shareQuorums cX3_shareQuorums 1 none :: lw_B) ({ frames := 0, cells := 0, slots := 0, locals := 0 }) (va_Pc [.ref (fa 0)] (hv_Pre D tc v)) (va_Qv (fun (v1 : hv_V) => ∃ q1 q2 : Int32, v1 = hv_si (hv_si v 305 (fa 0) q1) 306 (fa 0) q2) (hv_Post D tc (hv_A v)) (hv_A v)) (0) (0) (hv_A v) := by
  refine hv_metv l (by decide) (Nat.le_of_ble_eq_true rfl) ?_
  intro p e s m args below meth c Q X hret hK H locs ls hT hl
  obtain ⟨hx, hb, hml, hts, hown, hin0⟩ := X
  have hown : s.vm.findClass "CommitSites" = some m.cls := hown
  have hl : lv_has ls 1 [(0, .ref (fa 0))] := hl
  refine lv_aload_n hx hb dX3_shareQuorums_0 rfl (lv_at hl 0 rfl) ?_
  refine lv_aload_n hx hb dX3_shareQuorums_1 rfl (lv_at hl 0 rfl) ?_
  refine hv_geti (ci := 3) (C := RX3) (T := TX3) (N := 12) hx hb hts (tw_cs in_X3) hown hK hT (cs_kX hS) (by decide) rfl 4 (by decide) (hts _ (tw_c tw_51)) rfl dX3_shareQuorums_2 ?_
  refine lv_topi (fun g1 eg1 => ?_)
  refine lv_iconst (v := 2) hx hb dX3_shareQuorums_5 (by decide) ?_
  refine lv_idiv hx hb dX3_shareQuorums_6 (by decide) ?_
  refine lv_iconst (v := 1) hx hb dX3_shareQuorums_7 (by decide) ?_
  refine lv_iadd hx hb dX3_shareQuorums_8 ?_
  refine hv_puti (ci := 3) (C := RX3) (T := TX3) (N := 12) hx hb hts (tw_cs in_X3) tyX3 tyX3_ok nmX3 hown hK hT (cs_kX hS) (by decide) rfl 5 (by decide) (hts _ (tw_c tw_52)) rfl rfl (x := ((g1 / 2) + 1)) rfl rfl dX3_shareQuorums_9 (fun H locs hT => ?_)
  refine lv_aload_n hx hb dX3_shareQuorums_12 rfl (lv_at hl 0 rfl) ?_
  refine lv_aload_n hx hb dX3_shareQuorums_13 rfl (lv_at hl 0 rfl) ?_
  refine hv_geti (ci := 3) (C := RX3) (T := TX3) (N := 12) hx hb hts (tw_cs in_X3) hown hK hT (cs_kX hS) (by decide) rfl 4 (by decide) (hts _ (tw_c tw_51)) rfl dX3_shareQuorums_14 ?_
  refine lv_topi (fun g2 eg2 => ?_)
  refine lv_iconst (v := 2) hx hb dX3_shareQuorums_17 (by decide) ?_
  refine lv_idiv hx hb dX3_shareQuorums_18 (by decide) ?_
  refine lv_iconst (v := 1) hx hb dX3_shareQuorums_19 (by decide) ?_
  refine lv_iadd hx hb dX3_shareQuorums_20 ?_
  refine hv_puti (ci := 3) (C := RX3) (T := TX3) (N := 12) hx hb hts (tw_cs in_X3) tyX3 tyX3_ok nmX3 hown hK hT (cs_kX hS) (by decide) rfl 6 (by decide) (hts _ (tw_c tw_53)) rfl rfl (x := ((g2 / 2) + 1)) rfl rfl dX3_shareQuorums_21 (fun H locs hT => ?_)
  exact hret _ (hv_si (hv_si v 305 (fa 0) ((g1 / 2) + 1)) 306 (fa 0) ((g2 / 2) + 1)) _ _ _ _ _ dX3_shareQuorums_24 hT ⟨_, _, rfl⟩ (by decide) (by decide)

set_option maxHeartbeats 4000000 in
set_option maxRecDepth 100000 in
theorem c_note (l : Launch) (D : va_G) (tc : Nat → ClassId) {fa : Nat → Nat} {n : Nat} {w u : Nat → Nat} {b : Nat} {d : Nat → Nat → Nat} {g : Nat × Nat} {k : Nat} {hd : List Nat} {v : hv_V} (hI : ci_I fa n w u b d g k hd v) (x1 x2 x3 x4 x5 : Int32) : Met l yX3_note (Cond.code yX3_note cX3_note 6 none :: lw_B) ({ frames := 0, cells := 0, slots := 0, locals := 0 }) (va_Pc [.ref (fa 0), .int x1, .int x2, .int x3, .int x4, .int x5] (hv_Pre D tc v)) (va_Qv (fun (v1 : hv_V) => ci_I fa n w u b d g k hd v1) (hv_Post D tc (hv_A v)) (hv_A v)) (0) (0) (hv_A v) := by
  refine hv_metv l (by decide) (Nat.le_of_ble_eq_true rfl) ?_
  intro p e s m args below meth c Q X hret hK H locs ls hT hl
  obtain ⟨hx, hb, hml, hts, hown, hin0⟩ := X
  have hown : s.vm.findClass "CommitSites" = some m.cls := hown
  have hl : lv_has ls 6 [(0, .ref (fa 0)), (1, .int x1), (2, .int x2), (3, .int x3), (4, .int x4), (5, .int x5)] := hl
  have hS := hI.1
  refine lv_aload_n hx hb dX3_note_0 rfl (lv_at hl 0 rfl) ?_
  refine hv_gets (ci := 3) (C := RX3) (T := TX3) (N := 12) hx hb hts (tw_cs in_X3) hown hK hT (cs_kX hS) (by decide) rfl 2 (by decide) (hts _ (tw_c tw_49)) rfl (x := (fa 3)) (cs_pL hS) dX3_note_1 ?_
  refine lv_iconst (v := 0) hx hb dX3_note_4 (by decide) ?_
  refine lv_iload_n hx hb dX3_note_5 rfl (lv_at hl 1 rfl) ?_
  refine hv_iast (x := x1) hx hb hK hT (cs_kL hS) (by unfold vp_in; decide) dX3_note_6 (fun H locs hT => ?_)
  have hI := ci_putL (j := (0 : Int32).toNatClampNeg) (x := x1) hI
  have hS := hI.1
  refine lv_aload_n hx hb dX3_note_7 rfl (lv_at hl 0 rfl) ?_
  refine hv_gets (ci := 3) (C := RX3) (T := TX3) (N := 12) hx hb hts (tw_cs in_X3) hown hK hT (cs_kX hS) (by decide) rfl 2 (by decide) (hts _ (tw_c tw_49)) rfl (x := (fa 3)) (cs_pL hS) dX3_note_8 ?_
  refine lv_iconst (v := 1) hx hb dX3_note_11 (by decide) ?_
  refine lv_iload_n hx hb dX3_note_12 rfl (lv_at hl 2 rfl) ?_
  refine hv_iast (x := x2) hx hb hK hT (cs_kL hS) (by unfold vp_in; decide) dX3_note_13 (fun H locs hT => ?_)
  have hI := ci_putL (j := (1 : Int32).toNatClampNeg) (x := x2) hI
  have hS := hI.1
  refine lv_aload_n hx hb dX3_note_14 rfl (lv_at hl 0 rfl) ?_
  refine hv_gets (ci := 3) (C := RX3) (T := TX3) (N := 12) hx hb hts (tw_cs in_X3) hown hK hT (cs_kX hS) (by decide) rfl 2 (by decide) (hts _ (tw_c tw_49)) rfl (x := (fa 3)) (cs_pL hS) dX3_note_15 ?_
  refine lv_iconst (v := 2) hx hb dX3_note_18 (by decide) ?_
  refine lv_iload_n hx hb dX3_note_19 rfl (lv_at hl 3 rfl) ?_
  refine hv_iast (x := x3) hx hb hK hT (cs_kL hS) (by unfold vp_in; decide) dX3_note_20 (fun H locs hT => ?_)
  have hI := ci_putL (j := (2 : Int32).toNatClampNeg) (x := x3) hI
  have hS := hI.1
  refine lv_aload_n hx hb dX3_note_21 rfl (lv_at hl 0 rfl) ?_
  refine hv_gets (ci := 3) (C := RX3) (T := TX3) (N := 12) hx hb hts (tw_cs in_X3) hown hK hT (cs_kX hS) (by decide) rfl 2 (by decide) (hts _ (tw_c tw_49)) rfl (x := (fa 3)) (cs_pL hS) dX3_note_22 ?_
  refine lv_iconst (v := 3) hx hb dX3_note_25 (by decide) ?_
  refine lv_iload hx hb dX3_note_26 (lv_at hl 4 rfl) ?_
  refine hv_iast (x := x4) hx hb hK hT (cs_kL hS) (by unfold vp_in; decide) dX3_note_28 (fun H locs hT => ?_)
  have hI := ci_putL (j := (3 : Int32).toNatClampNeg) (x := x4) hI
  have hS := hI.1
  refine lv_aload_n hx hb dX3_note_29 rfl (lv_at hl 0 rfl) ?_
  refine hv_gets (ci := 3) (C := RX3) (T := TX3) (N := 12) hx hb hts (tw_cs in_X3) hown hK hT (cs_kX hS) (by decide) rfl 2 (by decide) (hts _ (tw_c tw_49)) rfl (x := (fa 3)) (cs_pL hS) dX3_note_30 ?_
  refine lv_iconst (v := 4) hx hb dX3_note_33 (by decide) ?_
  refine lv_iload hx hb dX3_note_34 (lv_at hl 5 rfl) ?_
  refine hv_iast (x := x5) hx hb hK hT (cs_kL hS) (by unfold vp_in; decide) dX3_note_36 (fun H locs hT => ?_)
  have hI := ci_putL (j := (4 : Int32).toNatClampNeg) (x := x5) hI
  have hS := hI.1
  exact hret _ (hv_sa (hv_sa (hv_sa (hv_sa (hv_sa v (fa 3) (0 : Int32).toNatClampNeg x1) (fa 3) (1 : Int32).toNatClampNeg x2) (fa 3) (2 : Int32).toNatClampNeg x3) (fa 3) (3 : Int32).toNatClampNeg x4) (fa 3) (4 : Int32).toNatClampNeg x5) _ _ _ _ _ dX3_note_37 hT hI (by decide) (by decide)

set_option maxHeartbeats 4000000 in
set_option maxRecDepth 100000 in
theorem c_tidingsOf (l : Launch) (D : va_G) (tc : Nat → ClassId) {v : hv_V} (x : Int32) : Met l yX3_tidingsOf (Cond.code yX3_tidingsOf cX3_tidingsOf 1 (some .int) :: lw_B) ({ frames := 0, cells := 0, slots := 0, locals := 0 }) (va_Pc [.int x] (hv_Pre D tc v)) (va_Qi (fun (r : Int32) (v1 : hv_V) => v1 = v) (hv_Post D tc (hv_A v)) (hv_A v)) (0) (0) (hv_A v) := by
  refine hv_meti l (by decide) (Nat.le_of_ble_eq_true rfl) ?_
  intro p e s m args below meth c Q X hret hK H locs ls hT hl
  obtain ⟨hx, hb, hml, hts, hown, hin0⟩ := X
  have hown : s.vm.findClass "CommitSites" = some m.cls := hown
  have hl : lv_has ls 1 [(0, .int x)] := hl
  refine lv_iload_n hx hb dX3_tidingsOf_0 rfl (lv_at hl 0 rfl) ?_
  refine lv_iconst (v := 4) hx hb dX3_tidingsOf_1 (by decide) ?_
  refine lv_icmp_ne (tgt := 10) hx hb dX3_tidingsOf_2 (by decide) (fun c2 => ?_) (fun c2 => ?_)
  · skip
    refine lv_bipush (v := 10) hx hb dX3_tidingsOf_10 (by decide) ?_
    exact hret _ 10 v _ _ _ _ _ dX3_tidingsOf_12 rfl hT rfl (by decide) (by decide)
  · skip
    refine lv_bipush (v := 9) hx hb dX3_tidingsOf_5 (by decide) ?_
    refine lv_goto (tgt := 12) hx hb dX3_tidingsOf_7 (by decide) ?_
    exact hret _ 9 v _ _ _ _ _ dX3_tidingsOf_12 rfl hT rfl (by decide) (by decide)

set_option maxHeartbeats 4000000 in
set_option maxRecDepth 100000 in
theorem c_isDecided (l : Launch) (D : va_G) (tc : Nat → ClassId) {fa : Nat → Nat} {n : Nat} {v : hv_V} (hS : cs_S fa n v) {i : Nat} (hi : i < n) : Met l yX2_isDecided (Cond.code yX2_isDecided cX2_isDecided 1 (some .boolean) :: lw_B) ({ frames := 0, cells := 0, slots := 0, locals := 0 }) (va_Pc [.ref (fa (16 + i))] (hv_Pre D tc v)) (va_Qi (fun (r : Int32) (v1 : hv_V) => v1 = v) (hv_Post D tc (hv_A v)) (hv_A v)) (0) (0) (hv_A v) := by
  refine hv_meti l (by decide) (Nat.le_of_ble_eq_true rfl) ?_
  intro p e s m args below meth c Q X hret hK H locs ls hT hl
  obtain ⟨hx, hb, hml, hts, hown, hin0⟩ := X
  have hown : s.vm.findClass "CommitSites$Site" = some m.cls := hown
  have hl : lv_has ls 1 [(0, .ref (fa (16 + i)))] := hl
  refine lv_aload_n hx hb dX2_isDecided_0 rfl (lv_at hl 0 rfl) ?_
  refine hv_geti (ci := 2) (C := RX2) (T := TX2) (N := 10) hx hb hts (tw_cs in_X2) hown hK hT (cs_ks hS hi) (by decide) rfl 4 (by decide) (hts _ (tw_c tw_80)) rfl dX2_isDecided_1 ?_
  refine lv_topi (fun g1 eg1 => ?_)
  refine lv_iconst (v := 4) hx hb dX2_isDecided_4 (by decide) ?_
  refine lv_icmp_eq (tgt := 16) hx hb dX2_isDecided_5 (by decide) (fun c5 => ?_) (fun c5 => ?_)
  · skip
    refine lv_iconst (v := 1) hx hb dX2_isDecided_16 (by decide) ?_
    refine lv_goto (tgt := 21) hx hb dX2_isDecided_17 (by decide) ?_
    exact hret _ 1 v _ _ _ _ _ dX2_isDecided_21 rfl hT rfl (by decide) (by decide)
  · skip
    refine lv_aload_n hx hb dX2_isDecided_8 rfl (lv_at hl 0 rfl) ?_
    refine hv_geti (ci := 2) (C := RX2) (T := TX2) (N := 10) hx hb hts (tw_cs in_X2) hown hK hT (cs_ks hS hi) (by decide) rfl 4 (by decide) (hts _ (tw_c tw_80)) rfl dX2_isDecided_9 ?_
    refine lv_topi (fun g2 eg2 => ?_)
    refine lv_iconst (v := 5) hx hb dX2_isDecided_12 (by decide) ?_
    refine lv_icmp_ne (tgt := 20) hx hb dX2_isDecided_13 (by decide) (fun c13 => ?_) (fun c13 => ?_)
    · skip
      refine lv_iconst (v := 0) hx hb dX2_isDecided_20 (by decide) ?_
      exact hret _ 0 v _ _ _ _ _ dX2_isDecided_21 rfl hT rfl (by decide) (by decide)
    · skip
      refine lv_iconst (v := 1) hx hb dX2_isDecided_16 (by decide) ?_
      refine lv_goto (tgt := 21) hx hb dX2_isDecided_17 (by decide) ?_
      exact hret _ 1 v _ _ _ _ _ dX2_isDecided_21 rfl hT rfl (by decide) (by decide)

set_option maxHeartbeats 4000000 in
set_option maxRecDepth 100000 in
theorem c_collectsAcks (l : Launch) (D : va_G) (tc : Nat → ClassId) {fa : Nat → Nat} {n : Nat} {v : hv_V} (hS : cs_S fa n v) {i : Nat} (hi : i < n) : Met l yX2_collectsAcks (Cond.code yX2_collectsAcks cX2_collectsAcks 1 (some .boolean) :: lw_B) ({ frames := 0, cells := 0, slots := 0, locals := 0 }) (va_Pc [.ref (fa (16 + i))] (hv_Pre D tc v)) (va_Qi (fun (r : Int32) (v1 : hv_V) => v1 = v) (hv_Post D tc (hv_A v)) (hv_A v)) (0) (0) (hv_A v) := by
  refine hv_meti l (by decide) (Nat.le_of_ble_eq_true rfl) ?_
  intro p e s m args below meth c Q X hret hK H locs ls hT hl
  obtain ⟨hx, hb, hml, hts, hown, hin0⟩ := X
  have hown : s.vm.findClass "CommitSites$Site" = some m.cls := hown
  have hl : lv_has ls 1 [(0, .ref (fa (16 + i)))] := hl
  refine lv_aload_n hx hb dX2_collectsAcks_0 rfl (lv_at hl 0 rfl) ?_
  refine hv_geti (ci := 2) (C := RX2) (T := TX2) (N := 10) hx hb hts (tw_cs in_X2) hown hK hT (cs_ks hS hi) (by decide) rfl 6 (by decide) (hts _ (tw_c tw_84)) rfl dX2_collectsAcks_1 ?_
  refine lv_topi (fun g1 eg1 => ?_)
  refine lv_iconst (v := 2) hx hb dX2_collectsAcks_4 (by decide) ?_
  refine lv_icmp_eq (tgt := 16) hx hb dX2_collectsAcks_5 (by decide) (fun c5 => ?_) (fun c5 => ?_)
  · skip
    refine lv_iconst (v := 1) hx hb dX2_collectsAcks_16 (by decide) ?_
    refine lv_goto (tgt := 21) hx hb dX2_collectsAcks_17 (by decide) ?_
    exact hret _ 1 v _ _ _ _ _ dX2_collectsAcks_21 rfl hT rfl (by decide) (by decide)
  · skip
    refine lv_aload_n hx hb dX2_collectsAcks_8 rfl (lv_at hl 0 rfl) ?_
    refine hv_geti (ci := 2) (C := RX2) (T := TX2) (N := 10) hx hb hts (tw_cs in_X2) hown hK hT (cs_ks hS hi) (by decide) rfl 6 (by decide) (hts _ (tw_c tw_84)) rfl dX2_collectsAcks_9 ?_
    refine lv_topi (fun g2 eg2 => ?_)
    refine lv_iconst (v := 4) hx hb dX2_collectsAcks_12 (by decide) ?_
    refine lv_icmp_ne (tgt := 20) hx hb dX2_collectsAcks_13 (by decide) (fun c13 => ?_) (fun c13 => ?_)
    · skip
      refine lv_iconst (v := 0) hx hb dX2_collectsAcks_20 (by decide) ?_
      exact hret _ 0 v _ _ _ _ _ dX2_collectsAcks_21 rfl hT rfl (by decide) (by decide)
    · skip
      refine lv_iconst (v := 1) hx hb dX2_collectsAcks_16 (by decide) ?_
      refine lv_goto (tgt := 21) hx hb dX2_collectsAcks_17 (by decide) ?_
      exact hret _ 1 v _ _ _ _ _ dX2_collectsAcks_21 rfl hT rfl (by decide) (by decide)

set_option maxHeartbeats 4000000 in
set_option maxRecDepth 100000 in
theorem c_runsOutEarlier (l : Launch) (D : va_G) (tc : Nat → ClassId) {fa : Nat → Nat} {n : Nat} {v : hv_V} (hS : cs_S fa n v) {i : Nat} (hi : i < n) {j : Nat} (hj : j < n) : Met l yX2_runsOutEarlier (Cond.code yX2_runsOutEarlier cX2_runsOutEarlier 2 (some .boolean) :: lw_B) ({ frames := 0, cells := 0, slots := 0, locals := 0 }) (va_Pc [.ref (fa (16 + i)), .ref (fa (16 + j))] (hv_Pre D tc v)) (va_Qi (fun (r : Int32) (v1 : hv_V) => v1 = v) (hv_Post D tc (hv_A v)) (hv_A v)) (0) (0) (hv_A v) := by
  refine hv_meti l (by decide) (Nat.le_of_ble_eq_true rfl) ?_
  intro p e s m args below meth c Q X hret hK H locs ls hT hl
  obtain ⟨hx, hb, hml, hts, hown, hin0⟩ := X
  have hown : s.vm.findClass "CommitSites$Site" = some m.cls := hown
  have hl : lv_has ls 2 [(0, .ref (fa (16 + i))), (1, .ref (fa (16 + j)))] := hl
  refine lv_aload_n hx hb dX2_runsOutEarlier_0 rfl (lv_at hl 0 rfl) ?_
  refine hv_geti (ci := 2) (C := RX2) (T := TX2) (N := 10) hx hb hts (tw_cs in_X2) hown hK hT (cs_ks hS hi) (by decide) rfl 8 (by decide) (hts _ (tw_c tw_88)) rfl dX2_runsOutEarlier_1 ?_
  refine lv_topi (fun g1 eg1 => ?_)
  refine lv_aload_n hx hb dX2_runsOutEarlier_4 rfl (lv_at hl 1 rfl) ?_
  refine hv_geti (ci := 2) (C := RX2) (T := TX2) (N := 10) hx hb hts (tw_cs in_X2) hown hK hT (cs_ks hS hj) (by decide) rfl 8 (by decide) (hts _ (tw_c tw_88)) rfl dX2_runsOutEarlier_5 ?_
  refine lv_topi (fun g2 eg2 => ?_)
  refine lv_icmp_lt (tgt := 33) hx hb dX2_runsOutEarlier_8 (by decide) (fun c8 => ?_) (fun c8 => ?_)
  · skip
    refine lv_iconst (v := 1) hx hb dX2_runsOutEarlier_33 (by decide) ?_
    refine lv_goto (tgt := 38) hx hb dX2_runsOutEarlier_34 (by decide) ?_
    exact hret _ 1 v _ _ _ _ _ dX2_runsOutEarlier_38 rfl hT rfl (by decide) (by decide)
  · skip
    refine lv_aload_n hx hb dX2_runsOutEarlier_11 rfl (lv_at hl 0 rfl) ?_
    refine hv_geti (ci := 2) (C := RX2) (T := TX2) (N := 10) hx hb hts (tw_cs in_X2) hown hK hT (cs_ks hS hi) (by decide) rfl 8 (by decide) (hts _ (tw_c tw_88)) rfl dX2_runsOutEarlier_12 ?_
    refine lv_topi (fun g3 eg3 => ?_)
    refine lv_aload_n hx hb dX2_runsOutEarlier_15 rfl (lv_at hl 1 rfl) ?_
    refine hv_geti (ci := 2) (C := RX2) (T := TX2) (N := 10) hx hb hts (tw_cs in_X2) hown hK hT (cs_ks hS hj) (by decide) rfl 8 (by decide) (hts _ (tw_c tw_88)) rfl dX2_runsOutEarlier_16 ?_
    refine lv_topi (fun g4 eg4 => ?_)
    refine lv_icmp_ne (tgt := 37) hx hb dX2_runsOutEarlier_19 (by decide) (fun c19 => ?_) (fun c19 => ?_)
    · skip
      refine lv_iconst (v := 0) hx hb dX2_runsOutEarlier_37 (by decide) ?_
      exact hret _ 0 v _ _ _ _ _ dX2_runsOutEarlier_38 rfl hT rfl (by decide) (by decide)
    · skip
      refine lv_aload_n hx hb dX2_runsOutEarlier_22 rfl (lv_at hl 0 rfl) ?_
      refine hv_geti (ci := 2) (C := RX2) (T := TX2) (N := 10) hx hb hts (tw_cs in_X2) hown hK hT (cs_ks hS hi) (by decide) rfl 9 (by decide) (hts _ (tw_c tw_90)) rfl dX2_runsOutEarlier_23 ?_
      refine lv_topi (fun g5 eg5 => ?_)
      refine lv_aload_n hx hb dX2_runsOutEarlier_26 rfl (lv_at hl 1 rfl) ?_
      refine hv_geti (ci := 2) (C := RX2) (T := TX2) (N := 10) hx hb hts (tw_cs in_X2) hown hK hT (cs_ks hS hj) (by decide) rfl 9 (by decide) (hts _ (tw_c tw_90)) rfl dX2_runsOutEarlier_27 ?_
      refine lv_topi (fun g6 eg6 => ?_)
      refine lv_icmp_ge (tgt := 37) hx hb dX2_runsOutEarlier_30 (by decide) (fun c30 => ?_) (fun c30 => ?_)
      · skip
        refine lv_iconst (v := 0) hx hb dX2_runsOutEarlier_37 (by decide) ?_
        exact hret _ 0 v _ _ _ _ _ dX2_runsOutEarlier_38 rfl hT rfl (by decide) (by decide)
      · skip
        refine lv_iconst (v := 1) hx hb dX2_runsOutEarlier_33 (by decide) ?_
        refine lv_goto (tgt := 38) hx hb dX2_runsOutEarlier_34 (by decide) ?_
        exact hret _ 1 v _ _ _ _ _ dX2_runsOutEarlier_38 rfl hT rfl (by decide) (by decide)

set_option maxHeartbeats 4000000 in
set_option maxRecDepth 100000 in
theorem c_runsOutBefore (l : Launch) (D : va_G) (tc : Nat → ClassId) {fa : Nat → Nat} {n : Nat} {v : hv_V} (hS : cs_S fa n v) {i : Nat} (hi : i < n) {a : Nat} (ha : hv_k v a = (1, 0)) : Met l yX2_runsOutBefore (Cond.code yX2_runsOutBefore cX2_runsOutBefore 2 (some .boolean) :: lw_B) ({ frames := 0, cells := 0, slots := 0, locals := 0 }) (va_Pc [.ref (fa (16 + i)), .ref a] (hv_Pre D tc v)) (va_Qi (fun (r : Int32) (v1 : hv_V) => v1 = v) (hv_Post D tc (hv_A v)) (hv_A v)) (0) (0) (hv_A v) := by
  refine hv_meti l (by decide) (Nat.le_of_ble_eq_true rfl) ?_
  intro p e s m args below meth c Q X hret hK H locs ls hT hl
  obtain ⟨hx, hb, hml, hts, hown, hin0⟩ := X
  have hown : s.vm.findClass "CommitSites$Site" = some m.cls := hown
  have hl : lv_has ls 2 [(0, .ref (fa (16 + i))), (1, .ref a)] := hl
  refine lv_aload_n hx hb dX2_runsOutBefore_0 rfl (lv_at hl 1 rfl) ?_
  refine lv_ifnull hx hb dX2_runsOutBefore_1 ?_
  refine lv_aload_n hx hb dX2_runsOutBefore_4 rfl (lv_at hl 0 rfl) ?_
  refine hv_geti (ci := 2) (C := RX2) (T := TX2) (N := 10) hx hb hts (tw_cs in_X2) hown hK hT (cs_ks hS hi) (by decide) rfl 8 (by decide) (hts _ (tw_c tw_88)) rfl dX2_runsOutBefore_5 ?_
  refine lv_topi (fun g1 eg1 => ?_)
  refine lv_aload_n hx hb dX2_runsOutBefore_8 rfl (lv_at hl 1 rfl) ?_
  refine hv_geti (ci := 0) (C := RX0) (T := TX0) (N := 8) hx hb hts (tw_cs in_X0) hown hK hT ha (by decide) rfl 0 (by decide) (hts _ (tw_c tw_148)) rfl dX2_runsOutBefore_9 ?_
  refine lv_topi (fun g2 eg2 => ?_)
  refine lv_icmp_lt (tgt := 37) hx hb dX2_runsOutBefore_12 (by decide) (fun c12 => ?_) (fun c12 => ?_)
  · skip
    refine lv_iconst (v := 1) hx hb dX2_runsOutBefore_37 (by decide) ?_
    refine lv_goto (tgt := 42) hx hb dX2_runsOutBefore_38 (by decide) ?_
    exact hret _ 1 v _ _ _ _ _ dX2_runsOutBefore_42 rfl hT rfl (by decide) (by decide)
  · skip
    refine lv_aload_n hx hb dX2_runsOutBefore_15 rfl (lv_at hl 0 rfl) ?_
    refine hv_geti (ci := 2) (C := RX2) (T := TX2) (N := 10) hx hb hts (tw_cs in_X2) hown hK hT (cs_ks hS hi) (by decide) rfl 8 (by decide) (hts _ (tw_c tw_88)) rfl dX2_runsOutBefore_16 ?_
    refine lv_topi (fun g3 eg3 => ?_)
    refine lv_aload_n hx hb dX2_runsOutBefore_19 rfl (lv_at hl 1 rfl) ?_
    refine hv_geti (ci := 0) (C := RX0) (T := TX0) (N := 8) hx hb hts (tw_cs in_X0) hown hK hT ha (by decide) rfl 0 (by decide) (hts _ (tw_c tw_148)) rfl dX2_runsOutBefore_20 ?_
    refine lv_topi (fun g4 eg4 => ?_)
    refine lv_icmp_ne (tgt := 41) hx hb dX2_runsOutBefore_23 (by decide) (fun c23 => ?_) (fun c23 => ?_)
    · skip
      refine lv_iconst (v := 0) hx hb dX2_runsOutBefore_41 (by decide) ?_
      exact hret _ 0 v _ _ _ _ _ dX2_runsOutBefore_42 rfl hT rfl (by decide) (by decide)
    · skip
      refine lv_aload_n hx hb dX2_runsOutBefore_26 rfl (lv_at hl 0 rfl) ?_
      refine hv_geti (ci := 2) (C := RX2) (T := TX2) (N := 10) hx hb hts (tw_cs in_X2) hown hK hT (cs_ks hS hi) (by decide) rfl 9 (by decide) (hts _ (tw_c tw_90)) rfl dX2_runsOutBefore_27 ?_
      refine lv_topi (fun g5 eg5 => ?_)
      refine lv_aload_n hx hb dX2_runsOutBefore_30 rfl (lv_at hl 1 rfl) ?_
      refine hv_geti (ci := 0) (C := RX0) (T := TX0) (N := 8) hx hb hts (tw_cs in_X0) hown hK hT ha (by decide) rfl 1 (by decide) (hts _ (tw_c tw_151)) rfl dX2_runsOutBefore_31 ?_
      refine lv_topi (fun g6 eg6 => ?_)
      refine lv_icmp_ge (tgt := 41) hx hb dX2_runsOutBefore_34 (by decide) (fun c34 => ?_) (fun c34 => ?_)
      · skip
        refine lv_iconst (v := 0) hx hb dX2_runsOutBefore_41 (by decide) ?_
        exact hret _ 0 v _ _ _ _ _ dX2_runsOutBefore_42 rfl hT rfl (by decide) (by decide)
      · skip
        refine lv_iconst (v := 1) hx hb dX2_runsOutBefore_37 (by decide) ?_
        refine lv_goto (tgt := 42) hx hb dX2_runsOutBefore_38 (by decide) ?_
        exact hret _ 1 v _ _ _ _ _ dX2_runsOutBefore_42 rfl hT rfl (by decide) (by decide)

set_option maxHeartbeats 4000000 in
set_option maxRecDepth 100000 in
theorem c_runsOutBefore0 (l : Launch) (D : va_G) (tc : Nat → ClassId) {fa : Nat → Nat} {n : Nat} {v : hv_V} (hS : cs_S fa n v) {i : Nat} (hi : i < n) : Met l yX2_runsOutBefore (Cond.code yX2_runsOutBefore cX2_runsOutBefore 2 (some .boolean) :: lw_B) ({ frames := 0, cells := 0, slots := 0, locals := 0 }) (va_Pc [.ref (fa (16 + i)), .null] (hv_Pre D tc v)) (va_Qi (fun (r : Int32) (v1 : hv_V) => v1 = v) (hv_Post D tc (hv_A v)) (hv_A v)) (0) (0) (hv_A v) := by
  refine hv_meti l (by decide) (Nat.le_of_ble_eq_true rfl) ?_
  intro p e s m args below meth c Q X hret hK H locs ls hT hl
  obtain ⟨hx, hb, hml, hts, hown, hin0⟩ := X
  have hown : s.vm.findClass "CommitSites$Site" = some m.cls := hown
  have hl : lv_has ls 2 [(0, .ref (fa (16 + i))), (1, .null)] := hl
  refine lv_aload_nN hx hb dX2_runsOutBefore_0 rfl (lv_at hl 1 rfl) ?_
  refine lv_ifnullN (tgt := 37) hx hb dX2_runsOutBefore_1 (by decide) ?_
  refine lv_iconst (v := 1) hx hb dX2_runsOutBefore_37 (by decide) ?_
  refine lv_goto (tgt := 42) hx hb dX2_runsOutBefore_38 (by decide) ?_
  exact hret _ 1 v _ _ _ _ _ dX2_runsOutBefore_42 rfl hT rfl (by decide) (by decide)

set_option maxHeartbeats 4000000 in
set_option maxRecDepth 100000 in
theorem c_siteAnew (l : Launch) (D : va_G) (tc : Nat → ClassId) {v : hv_V} {a : Nat} (ha : hv_k v a = (3, 0)) : Met l yX2_startAnew (Cond.code yX2_startAnew cX2_startAnew 1 none :: lw_B) ({ frames := 0, cells := 0, slots := 0, locals := 0 }) (va_Pc [.ref a] (hv_Pre D tc v)) (va_Qv (fun (v1 : hv_V) => v1 = (hv_si (hv_si (hv_si (hv_si (hv_si (hv_si (hv_si (hv_si v 202 a 0) 203 a 1) 204 a 0) 205 a 0) 206 a 0) 207 a 0) 208 a (-1)) 209 a 0)) (hv_Post D tc (hv_A v)) (hv_A v)) (0) (0) (hv_A v) := by
  refine hv_metv l (by decide) (Nat.le_of_ble_eq_true rfl) ?_
  intro p e s m args below meth c Q X hret hK H locs ls hT hl
  obtain ⟨hx, hb, hml, hts, hown, hin0⟩ := X
  have hown : s.vm.findClass "CommitSites$Site" = some m.cls := hown
  have hl : lv_has ls 1 [(0, .ref a)] := hl
  refine lv_aload_n hx hb dX2_startAnew_0 rfl (lv_at hl 0 rfl) ?_
  refine lv_iconst (v := 0) hx hb dX2_startAnew_1 (by decide) ?_
  refine hv_puti (ci := 2) (C := RX2) (T := TX2) (N := 10) hx hb hts (tw_cs in_X2) tyX2 tyX2_ok nmX2 hown hK hT ha (by decide) rfl 2 (by decide) (hts _ (tw_c tw_76)) rfl rfl (x := 0) rfl rfl dX2_startAnew_2 (fun H locs hT => ?_)
  refine lv_aload_n hx hb dX2_startAnew_5 rfl (lv_at hl 0 rfl) ?_
  refine lv_iconst (v := 1) hx hb dX2_startAnew_6 (by decide) ?_
  refine hv_puti (ci := 2) (C := RX2) (T := TX2) (N := 10) hx hb hts (tw_cs in_X2) tyX2 tyX2_ok nmX2 hown hK hT ha (by decide) rfl 3 (by decide) (hts _ (tw_c tw_78)) rfl rfl (x := 1) rfl rfl dX2_startAnew_7 (fun H locs hT => ?_)
  refine lv_aload_n hx hb dX2_startAnew_10 rfl (lv_at hl 0 rfl) ?_
  refine lv_iconst (v := 0) hx hb dX2_startAnew_11 (by decide) ?_
  refine hv_puti (ci := 2) (C := RX2) (T := TX2) (N := 10) hx hb hts (tw_cs in_X2) tyX2 tyX2_ok nmX2 hown hK hT ha (by decide) rfl 4 (by decide) (hts _ (tw_c tw_80)) rfl rfl (x := 0) rfl rfl dX2_startAnew_12 (fun H locs hT => ?_)
  refine lv_aload_n hx hb dX2_startAnew_15 rfl (lv_at hl 0 rfl) ?_
  refine lv_iconst (v := 0) hx hb dX2_startAnew_16 (by decide) ?_
  refine hv_puti (ci := 2) (C := RX2) (T := TX2) (N := 10) hx hb hts (tw_cs in_X2) tyX2 tyX2_ok nmX2 hown hK hT ha (by decide) rfl 5 (by decide) (hts _ (tw_c tw_82)) rfl rfl (x := 0) rfl rfl dX2_startAnew_17 (fun H locs hT => ?_)
  refine lv_aload_n hx hb dX2_startAnew_20 rfl (lv_at hl 0 rfl) ?_
  refine lv_iconst (v := 0) hx hb dX2_startAnew_21 (by decide) ?_
  refine hv_puti (ci := 2) (C := RX2) (T := TX2) (N := 10) hx hb hts (tw_cs in_X2) tyX2 tyX2_ok nmX2 hown hK hT ha (by decide) rfl 6 (by decide) (hts _ (tw_c tw_84)) rfl rfl (x := 0) rfl rfl dX2_startAnew_22 (fun H locs hT => ?_)
  refine lv_aload_n hx hb dX2_startAnew_25 rfl (lv_at hl 0 rfl) ?_
  refine lv_iconst (v := 0) hx hb dX2_startAnew_26 (by decide) ?_
  refine hv_puti (ci := 2) (C := RX2) (T := TX2) (N := 10) hx hb hts (tw_cs in_X2) tyX2 tyX2_ok nmX2 hown hK hT ha (by decide) rfl 7 (by decide) (hts _ (tw_c tw_86)) rfl rfl (x := 0) rfl rfl dX2_startAnew_27 (fun H locs hT => ?_)
  refine lv_aload_n hx hb dX2_startAnew_30 rfl (lv_at hl 0 rfl) ?_
  refine lv_iconst (v := (-1)) hx hb dX2_startAnew_31 (by decide) ?_
  refine hv_puti (ci := 2) (C := RX2) (T := TX2) (N := 10) hx hb hts (tw_cs in_X2) tyX2 tyX2_ok nmX2 hown hK hT ha (by decide) rfl 8 (by decide) (hts _ (tw_c tw_88)) rfl rfl (x := (-1)) rfl rfl dX2_startAnew_32 (fun H locs hT => ?_)
  refine lv_aload_n hx hb dX2_startAnew_35 rfl (lv_at hl 0 rfl) ?_
  refine lv_iconst (v := 0) hx hb dX2_startAnew_36 (by decide) ?_
  refine hv_puti (ci := 2) (C := RX2) (T := TX2) (N := 10) hx hb hts (tw_cs in_X2) tyX2 tyX2_ok nmX2 hown hK hT ha (by decide) rfl 9 (by decide) (hts _ (tw_c tw_90)) rfl rfl (x := 0) rfl rfl dX2_startAnew_37 (fun H locs hT => ?_)
  exact hret _ (hv_si (hv_si (hv_si (hv_si (hv_si (hv_si (hv_si (hv_si v 202 a 0) 203 a 1) 204 a 0) 205 a 0) 206 a 0) 207 a 0) 208 a (-1)) 209 a 0) _ _ _ _ _ dX2_startAnew_40 hT rfl (by decide) (by decide)

set_option maxHeartbeats 4000000 in
set_option maxRecDepth 100000 in
theorem c_nextOrder (l : Launch) (D : va_G) (tc : Nat → ClassId) {fa : Nat → Nat} {n : Nat} {w u : Nat → Nat} {b : Nat} {d : Nat → Nat → Nat} {g : Nat × Nat} {k : Nat} {hd : List Nat} {v : hv_V} (hI : ci_I fa n w u b d g k hd v) : Met l yX1_nextOrder (Cond.code yX1_nextOrder cX1_nextOrder 1 (some .int) :: lw_B) ({ frames := 0, cells := 0, slots := 0, locals := 0 }) (va_Pc [.ref (fa 2)] (hv_Pre D tc v)) (va_Qi (fun (r : Int32) (v1 : hv_V) => ci_I fa n w u b d g k hd v1) (hv_Post D tc (hv_A v)) (hv_A v)) (0) (0) (hv_A v) := by
  refine hv_meti l (by decide) (Nat.le_of_ble_eq_true rfl) ?_
  intro p e s m args below meth c Q X hret hK H locs ls hT hl
  obtain ⟨hx, hb, hml, hts, hown, hin0⟩ := X
  have hown : s.vm.findClass "CommitSites$Network" = some m.cls := hown
  have hl : lv_has ls 1 [(0, .ref (fa 2))] := hl
  have hS := hI.1
  refine lv_aload_n hx hb dX1_nextOrder_0 rfl (lv_at hl 0 rfl) ?_
  refine lv_dup hx hb dX1_nextOrder_1 rfl ?_
  refine hv_geti (ci := 1) (C := RX1) (T := TX1) (N := 9) hx hb hts (tw_cs in_X1) hown hK hT (cs_kN hS) (by decide) rfl 5 (by decide) (hts _ (tw_c tw_33)) rfl dX1_nextOrder_2 ?_
  refine lv_topi (fun g1 eg1 => ?_)
  refine lv_dup_x1 hx hb dX1_nextOrder_5 rfl rfl ?_
  refine lv_iconst (v := 1) hx hb dX1_nextOrder_6 (by decide) ?_
  refine lv_iadd hx hb dX1_nextOrder_7 ?_
  refine hv_puti (ci := 1) (C := RX1) (T := TX1) (N := 9) hx hb hts (tw_cs in_X1) tyX1 tyX1_ok nmX1 hown hK hT (cs_kN hS) (by decide) rfl 5 (by decide) (hts _ (tw_c tw_33)) rfl rfl (x := (g1 + 1)) rfl rfl dX1_nextOrder_8 (fun H locs hT => ?_)
  have hI := ci_put (f := 105) (a := (fa 2)) (x := (g1 + 1)) rfl hI
  have hS := hI.1
  exact hret _ g1 (hv_si v 105 (fa 2) (g1 + 1)) _ _ _ _ _ dX1_nextOrder_11 rfl hT hI (by decide) (by decide)

set_option maxHeartbeats 4000000 in
set_option maxRecDepth 100000 in
theorem c_become (l : Launch) (D : va_G) (tc : Nat → ClassId) {fa : Nat → Nat} {n : Nat} {w u : Nat → Nat} {b : Nat} {d : Nat → Nat → Nat} {g : Nat × Nat} {k : Nat} {hd : List Nat} {v : hv_V} (hI : ci_I fa n w u b d g k hd v) {i : Nat} (hi : i < n) (x : Int32) : Met l yX3_become (Cond.code yX3_become cX3_become 3 none :: lw_B) ({ frames := 1, cells := 0, slots := 0, locals := 20 }) (va_Pc [.ref (fa 0), .ref (fa (16 + i)), .int x] (hv_Pre D tc v)) (va_Qv (fun (v1 : hv_V) => ci_I fa n w u b d g k hd v1) (hv_Post D tc (hv_A v)) (hv_A v)) (0) (0) (hv_A v) := by
  refine hv_metv l (by decide) (Nat.le_of_ble_eq_true rfl) ?_
  intro p e s m args below meth c Q X hret hK H locs ls hT hl
  obtain ⟨hx, hb, hml, hts, hown, hin0⟩ := X
  have hown : s.vm.findClass "CommitSites" = some m.cls := hown
  have hl : lv_has ls 3 [(0, .ref (fa 0)), (1, .ref (fa (16 + i))), (2, .int x)] := hl
  have hS := hI.1
  refine lv_aload_n hx hb dX3_become_0 rfl (lv_at hl 1 rfl) ?_
  refine hv_geti (ci := 2) (C := RX2) (T := TX2) (N := 10) hx hb hts (tw_cs in_X2) hown hK hT (cs_ks hS hi) (by decide) rfl 4 (by decide) (hts _ (tw_c tw_81)) rfl dX3_become_1 ?_
  refine lv_topi (fun g1 eg1 => ?_)
  refine lv_iload_n hx hb dX3_become_4 rfl (lv_at hl 2 rfl) ?_
  refine lv_icmp_eq (tgt := 24) hx hb dX3_become_5 (by decide) (fun c5 => ?_) (fun c5 => ?_)
  · skip
    refine lv_aload_n hx hb dX3_become_24 rfl (lv_at hl 1 rfl) ?_
    refine hv_calli (va_runV (As := []) (rest := []) ⟨hx, hb, hml, hown, hts⟩ (c_isDecided l D tc hS hi) (cwV 0 hts (tw_V tw_127 tw_128 tw_129 tw_4 tw_130) rfl rfl rfl (by decide +kernel) ⟨Nat.le_of_ble_eq_true rfl, Nat.le_of_ble_eq_true rfl⟩) (hv_preV hK hT.1 (cs_ks hS hi) (by decide) rfl rfl) rfl rfl hl.1 rfl (lv_room (Nat.le_of_ble_eq_true rfl)) dX3_become_25 ⟨Nat.le_of_ble_eq_true rfl, Nat.le_of_ble_eq_true rfl⟩) hT (fun r4 v2 H locs hp3 hT => ?_)
    rw [hp3] at hT
    refine lv_if_eq (tgt := 36) hx hb dX3_become_28 (by decide) (fun c28 => ?_) (fun c28 => ?_)
    · skip
      exact hret _ v _ _ _ _ _ dX3_become_36 hT hI (by decide) (by decide)
    · skip
      refine lv_aload_n hx hb dX3_become_31 rfl (lv_at hl 1 rfl) ?_
      refine lv_iconst (v := (-1)) hx hb dX3_become_32 (by decide) ?_
      refine hv_puti (ci := 2) (C := RX2) (T := TX2) (N := 10) hx hb hts (tw_cs in_X2) tyX2 tyX2_ok nmX2 hown hK hT (cs_ks hS hi) (by decide) rfl 8 (by decide) (hts _ (tw_c tw_89)) rfl rfl (x := (-1)) rfl rfl dX3_become_33 (fun H locs hT => ?_)
      have hI := ci_putT (i := i) (x := (-1)) (Or.inl rfl) hI hi
      have hS := hI.1
      exact hret _ (hv_si v 208 (fa (16 + i)) (-1)) _ _ _ _ _ dX3_become_36 hT hI (by decide) (by decide)
  · skip
    refine lv_aload_n hx hb dX3_become_8 rfl (lv_at hl 1 rfl) ?_
    refine lv_iload_n hx hb dX3_become_9 rfl (lv_at hl 2 rfl) ?_
    refine hv_puti (ci := 2) (C := RX2) (T := TX2) (N := 10) hx hb hts (tw_cs in_X2) tyX2 tyX2_ok nmX2 hown hK hT (cs_ks hS hi) (by decide) rfl 4 (by decide) (hts _ (tw_c tw_81)) rfl rfl (x := x) rfl rfl dX3_become_10 (fun H locs hT => ?_)
    have hI := ci_put (f := 204) (a := (fa (16 + i))) (x := x) rfl hI
    have hS := hI.1
    refine lv_aload_n hx hb dX3_become_13 rfl (lv_at hl 1 rfl) ?_
    refine lv_aload_n hx hb dX3_become_14 rfl (lv_at hl 0 rfl) ?_
    refine hv_gets (ci := 3) (C := RX3) (T := TX3) (N := 12) hx hb hts (tw_cs in_X3) hown hK hT (cs_kX hS) (by decide) rfl 1 (by decide) (hts _ (tw_c tw_48)) rfl (x := (fa 2)) (cs_pN hS) dX3_become_15 ?_
    refine hv_geti (ci := 1) (C := RX1) (T := TX1) (N := 9) hx hb hts (tw_cs in_X1) hown hK hT (cs_kN hS) (by decide) rfl 4 (by decide) (hts _ (tw_c tw_32)) rfl dX3_become_18 ?_
    refine lv_topi (fun g5 eg5 => ?_)
    refine hv_puti (ci := 2) (C := RX2) (T := TX2) (N := 10) hx hb hts (tw_cs in_X2) tyX2 tyX2_ok nmX2 hown hK hT (cs_ks hS hi) (by decide) rfl 5 (by decide) (hts _ (tw_c tw_83)) rfl rfl (x := g5) rfl rfl dX3_become_21 (fun H locs hT => ?_)
    have hI := ci_put (f := 205) (a := (fa (16 + i))) (x := g5) rfl hI
    have hS := hI.1
    refine lv_aload_n hx hb dX3_become_24 rfl (lv_at hl 1 rfl) ?_
    refine hv_calli (va_runV (As := []) (rest := []) ⟨hx, hb, hml, hown, hts⟩ (c_isDecided l D tc hS hi) (cwV 0 hts (tw_V tw_127 tw_128 tw_129 tw_4 tw_130) rfl rfl rfl (by decide +kernel) ⟨Nat.le_of_ble_eq_true rfl, Nat.le_of_ble_eq_true rfl⟩) (hv_preV hK hT.1 (cs_ks hS hi) (by decide) rfl rfl) rfl rfl hl.1 rfl (lv_room (Nat.le_of_ble_eq_true rfl)) dX3_become_25 ⟨Nat.le_of_ble_eq_true rfl, Nat.le_of_ble_eq_true rfl⟩) hT (fun r8 v6 H locs hp7 hT => ?_)
    rw [hp7] at hT
    refine lv_if_eq (tgt := 36) hx hb dX3_become_28 (by decide) (fun c28 => ?_) (fun c28 => ?_)
    · skip
      exact hret _ (hv_si (hv_si v 204 (fa (16 + i)) x) 205 (fa (16 + i)) g5) _ _ _ _ _ dX3_become_36 hT hI (by decide) (by decide)
    · skip
      refine lv_aload_n hx hb dX3_become_31 rfl (lv_at hl 1 rfl) ?_
      refine lv_iconst (v := (-1)) hx hb dX3_become_32 (by decide) ?_
      refine hv_puti (ci := 2) (C := RX2) (T := TX2) (N := 10) hx hb hts (tw_cs in_X2) tyX2 tyX2_ok nmX2 hown hK hT (cs_ks hS hi) (by decide) rfl 8 (by decide) (hts _ (tw_c tw_89)) rfl rfl (x := (-1)) rfl rfl dX3_become_33 (fun H locs hT => ?_)
      have hI := ci_putT (i := i) (x := (-1)) (Or.inl rfl) hI hi
      have hS := hI.1
      exact hret _ (hv_si (hv_si (hv_si v 204 (fa (16 + i)) x) 205 (fa (16 + i)) g5) 208 (fa (16 + i)) (-1)) _ _ _ _ _ dX3_become_36 hT hI (by decide) (by decide)

set_option maxHeartbeats 4000000 in
set_option maxRecDepth 100000 in
theorem c_setTimer (l : Launch) (D : va_G) (tc : Nat → ClassId) {fa : Nat → Nat} {n : Nat} {w u : Nat → Nat} {b : Nat} {d : Nat → Nat → Nat} {g : Nat × Nat} {k : Nat} {hd : List Nat} {v : hv_V} (hI : ci_I fa n w u b d g k hd v) {i : Nat} (hi : i < n) {q : Nat} (hq : q ≤ 200) : Met l yX3_setTimer (Cond.code yX3_setTimer cX3_setTimer 3 none :: lw_B) ({ frames := 1, cells := 0, slots := 0, locals := 20 }) (va_Pc [.ref (fa 0), .ref (fa (16 + i)), .int (nI q)] (hv_Pre D tc v)) (va_Qv (fun (v1 : hv_V) => ci_I fa n w u b d g k hd v1) (hv_Post D tc (hv_A v)) (hv_A v)) (0) (0) (hv_A v) := by
  refine hv_metv l (by decide) (Nat.le_of_ble_eq_true rfl) ?_
  intro p e s m args below meth c Q X hret hK H locs ls hT hl
  obtain ⟨hx, hb, hml, hts, hown, hin0⟩ := X
  have hown : s.vm.findClass "CommitSites" = some m.cls := hown
  have hl : lv_has ls 3 [(0, .ref (fa 0)), (1, .ref (fa (16 + i))), (2, .int (nI q))] := hl
  have hS := hI.1
  obtain ⟨t, ht4, ht⟩ := hI.2.1.2.2.2.2.1
  refine lv_aload_n hx hb dX3_setTimer_0 rfl (lv_at hl 1 rfl) ?_
  refine lv_aload_n hx hb dX3_setTimer_1 rfl (lv_at hl 0 rfl) ?_
  refine hv_gets (ci := 3) (C := RX3) (T := TX3) (N := 12) hx hb hts (tw_cs in_X3) hown hK hT (cs_kX hS) (by decide) rfl 1 (by decide) (hts _ (tw_c tw_48)) rfl (x := (fa 2)) (cs_pN hS) dX3_setTimer_2 ?_
  refine hv_geti (ci := 1) (C := RX1) (T := TX1) (N := 9) hx hb hts (tw_cs in_X1) hown hK hT (cs_kN hS) (by decide) rfl 4 (by decide) (hts _ (tw_c tw_32)) rfl dX3_setTimer_5 ?_
  refine lv_topi (fun g1 eg1 => ?_)
  refine lv_iload_n hx hb dX3_setTimer_8 rfl (lv_at hl 2 rfl) ?_
  refine lv_iadd hx hb dX3_setTimer_9 ?_
  refine hv_puti (ci := 2) (C := RX2) (T := TX2) (N := 10) hx hb hts (tw_cs in_X2) tyX2 tyX2_ok nmX2 hown hK hT (cs_ks hS hi) (by decide) rfl 8 (by decide) (hts _ (tw_c tw_89)) rfl rfl (x := (g1 + (nI q))) rfl rfl dX3_setTimer_10 (fun H locs hT => ?_)
  have hI := ci_putT (i := i) (x := (g1 + (nI q))) (Or.inr ⟨t + q, by omega, by rw [eg1, ht, nI_add]⟩) hI hi
  have hS := hI.1
  refine lv_aload_n hx hb dX3_setTimer_13 rfl (lv_at hl 1 rfl) ?_
  refine lv_aload_n hx hb dX3_setTimer_14 rfl (lv_at hl 0 rfl) ?_
  refine hv_gets (ci := 3) (C := RX3) (T := TX3) (N := 12) hx hb hts (tw_cs in_X3) hown hK hT (cs_kX hS) (by decide) rfl 1 (by decide) (hts _ (tw_c tw_48)) rfl (x := (fa 2)) (cs_pN hS) dX3_setTimer_15 ?_
  refine hv_calli (va_runV (As := []) (rest := [.ref (fa (16 + i))]) ⟨hx, hb, hml, hown, hts⟩ (c_nextOrder l D tc hI) (cwV 0 hts (tw_V tw_170 tw_171 tw_172 tw_2 tw_173) rfl rfl rfl (by decide +kernel) ⟨Nat.le_of_ble_eq_true rfl, Nat.le_of_ble_eq_true rfl⟩) (hv_preV hK hT.1 (cs_kN hS) (by decide) rfl rfl) rfl rfl hl.1 rfl (lv_room (Nat.le_of_ble_eq_true rfl)) dX3_setTimer_18 ⟨Nat.le_of_ble_eq_true rfl, Nat.le_of_ble_eq_true rfl⟩) hT (fun r4 v2 H locs hp3 hT => ?_)
  have hI := hp3
  have hS := hI.1
  refine hv_puti (ci := 2) (C := RX2) (T := TX2) (N := 10) hx hb hts (tw_cs in_X2) tyX2 tyX2_ok nmX2 hown hK hT (cs_ks hS hi) (by decide) rfl 9 (by decide) (hts _ (tw_c tw_91)) rfl rfl (x := r4) rfl rfl dX3_setTimer_21 (fun H locs hT => ?_)
  have hI := ci_put (f := 209) (a := (fa (16 + i))) (x := r4) rfl hI
  have hS := hI.1
  exact hret _ (hv_si v2 209 (fa (16 + i)) r4) _ _ _ _ _ dX3_setTimer_24 hT hI (by decide) (by decide)
end
section
theorem cs_lp {i n : Nat} (hi : i ≤ n) (hn : n ≤ 8) (h : ¬ nI n ≤ nI i) : i < n := by
  rcases Nat.lt_or_ge i n with q | q
  · exact q
  · exact absurd (nI_le q (by omega)) h

set_option maxHeartbeats 4000000 in
set_option maxRecDepth 100000 in
theorem c_hasQuorum (l : Launch) (D : va_G) (tc : Nat → ClassId) {fa : Nat → Nat} {n : Nat} {v : hv_V} (hS : cs_S fa n v) (hn : hv_i v 303 (fa 0) = nI n) {i0 : Nat} (hi0 : i0 < n) : Met l yX3_hasQuorum (Cond.code yX3_hasQuorum cX3_hasQuorum 4 (some .boolean) :: lw_B) ({ frames := 1, cells := 0, slots := 0, locals := 21 }) (va_Pc [.ref (fa 0), .ref (fa (16 + i0))] (hv_Pre D tc v)) (va_Qi (fun (r : Int32) (v1 : hv_V) => v1 = v) (hv_Post D tc (hv_A v)) (hv_A v)) (0) (0) (hv_A v) := by
  refine hv_meti l (by decide) (Nat.le_of_ble_eq_true rfl) ?_
  intro p e s m args below meth c Q X hret hK H locs ls hT hl
  obtain ⟨hx, hb, hml, hts, hown, hin0⟩ := X
  have hown : s.vm.findClass "CommitSites" = some m.cls := hown
  have hl : lv_has ls 4 [(0, .ref (fa 0)), (1, .ref (fa (16 + i0)))] := hl
  refine lv_iconst (v := 0) hx hb dX3_hasQuorum_0 (by decide) ?_
  refine lv_istore_n (lv' := [(2, _), (0, _), (1, _)]) hx hb dX3_hasQuorum_1 rfl hl (by decide) rfl (fun ls hl => ?_)
  refine lv_iconst (v := 0) hx hb dX3_hasQuorum_2 (by decide) ?_
  refine hv_as (x := 0) (y := (nI 0)) nI_0.symm ?_
  refine lv_istore_n (lv' := [(3, _), (2, _), (0, _), (1, _)]) hx hb dX3_hasQuorum_3 rfl hl (by decide) rfl (fun ls hl => ?_)
  have hL4 : ∀ (N9 : Nat) (i : Nat) (x2 : Int32) (H : Heap) (locs : List Loc) (ls : Array Slot), i ≤ n → n < i + N9 → hv_St (hv_A v) s D tc v H locs → lv_has ls 4 [(0, .ref (fa 0)), (1, .ref (fa (16 + i0))), (2, .int x2), (3, .int (nI i))] → W p l e ({ frames := 1, cells := 0, slots := 0, locals := 21 } : Room) s m args below meth c H locs (0) (0) Q (F0 m 4 ls []) := by
    intro N9
    induction N9 with
    | zero =>
      intro i x2 H locs ls hlei hNi hT hl
      exfalso
      omega
    | succ N9 ih4 =>
      intro i x2 H locs ls hlei hNi hT hl
      refine lv_iload_n hx hb dX3_hasQuorum_4 rfl (lv_at hl 3 rfl) ?_
      refine lv_aload_n hx hb dX3_hasQuorum_5 rfl (lv_at hl 0 rfl) ?_
      refine hv_geti (ci := 3) (C := RX3) (T := TX3) (N := 12) hx hb hts (tw_cs in_X3) hown hK hT (cs_kX hS) (by decide) rfl 3 (by decide) (hts _ (tw_c tw_50)) rfl dX3_hasQuorum_6 ?_
      refine lv_topi (fun g1 eg1 => ?_)
      refine lv_icmp_ge (tgt := 41) hx hb dX3_hasQuorum_9 (by decide) (fun c9 => ?_) (fun c9 => ?_)
      · skip
        refine lv_iload_n hx hb dX3_hasQuorum_41 rfl (lv_at hl 2 rfl) ?_
        refine lv_aload_n hx hb dX3_hasQuorum_42 rfl (lv_at hl 1 rfl) ?_
        refine hv_geti (ci := 2) (C := RX2) (T := TX2) (N := 10) hx hb hts (tw_cs in_X2) hown hK hT (cs_ks hS hi0) (by decide) rfl 6 (by decide) (hts _ (tw_c tw_85)) rfl dX3_hasQuorum_43 ?_
        refine lv_topi (fun g2 eg2 => ?_)
        refine lv_iconst (v := 2) hx hb dX3_hasQuorum_46 (by decide) ?_
        refine lv_icmp_ne (tgt := 57) hx hb dX3_hasQuorum_47 (by decide) (fun c47 => ?_) (fun c47 => ?_)
        · skip
          refine lv_aload_n hx hb dX3_hasQuorum_57 rfl (lv_at hl 0 rfl) ?_
          refine hv_geti (ci := 3) (C := RX3) (T := TX3) (N := 12) hx hb hts (tw_cs in_X3) hown hK hT (cs_kX hS) (by decide) rfl 6 (by decide) (hts _ (tw_c tw_53)) rfl dX3_hasQuorum_58 ?_
          refine lv_topi (fun g3 eg3 => ?_)
          refine lv_icmp_lt (tgt := 68) hx hb dX3_hasQuorum_61 (by decide) (fun c61 => ?_) (fun c61 => ?_)
          · skip
            refine lv_iconst (v := 0) hx hb dX3_hasQuorum_68 (by decide) ?_
            exact hret _ 0 v _ _ _ _ _ dX3_hasQuorum_69 rfl hT rfl (by decide) (by decide)
          · skip
            refine lv_iconst (v := 1) hx hb dX3_hasQuorum_64 (by decide) ?_
            refine lv_goto (tgt := 69) hx hb dX3_hasQuorum_65 (by decide) ?_
            exact hret _ 1 v _ _ _ _ _ dX3_hasQuorum_69 rfl hT rfl (by decide) (by decide)
        · skip
          refine lv_aload_n hx hb dX3_hasQuorum_50 rfl (lv_at hl 0 rfl) ?_
          refine hv_geti (ci := 3) (C := RX3) (T := TX3) (N := 12) hx hb hts (tw_cs in_X3) hown hK hT (cs_kX hS) (by decide) rfl 5 (by decide) (hts _ (tw_c tw_52)) rfl dX3_hasQuorum_51 ?_
          refine lv_topi (fun g4 eg4 => ?_)
          refine lv_goto (tgt := 61) hx hb dX3_hasQuorum_54 (by decide) ?_
          refine lv_icmp_lt (tgt := 68) hx hb dX3_hasQuorum_61 (by decide) (fun c61 => ?_) (fun c61 => ?_)
          · skip
            refine lv_iconst (v := 0) hx hb dX3_hasQuorum_68 (by decide) ?_
            exact hret _ 0 v _ _ _ _ _ dX3_hasQuorum_69 rfl hT rfl (by decide) (by decide)
          · skip
            refine lv_iconst (v := 1) hx hb dX3_hasQuorum_64 (by decide) ?_
            refine lv_goto (tgt := 69) hx hb dX3_hasQuorum_65 (by decide) ?_
            exact hret _ 1 v _ _ _ _ _ dX3_hasQuorum_69 rfl hT rfl (by decide) (by decide)
      · skip
        have hlti : i < n := cs_lp hlei (cs_n8 hS) (by rw [← hn, ← eg1]; exact c9)
        refine lv_aload_n hx hb dX3_hasQuorum_12 rfl (lv_at hl 1 rfl) ?_
        refine hv_geti (ci := 2) (C := RX2) (T := TX2) (N := 10) hx hb hts (tw_cs in_X2) hown hK hT (cs_ks hS hi0) (by decide) rfl 2 (by decide) (hts _ (tw_c tw_77)) rfl dX3_hasQuorum_13 ?_
        refine lv_topi (fun g5 eg5 => ?_)
        refine lv_iload_n hx hb dX3_hasQuorum_16 rfl (lv_at hl 3 rfl) ?_
        refine hv_calli (va_runS (As := [.int g5, .int (nI i)]) (rest := []) ⟨hx, hb, hml, hown, hts⟩ (c_hasBit l D tc g5 (nI i)) (va_cwS 2 hts (tw_S tw_110 tw_111 tw_1 tw_112) rfl rfl rfl (by decide +kernel) ⟨Nat.le_of_ble_eq_true rfl, Nat.le_of_ble_eq_true rfl⟩) (hv_preS hK hT.1) rfl rfl hl.1 rfl (lv_room (Nat.le_of_ble_eq_true rfl)) dX3_hasQuorum_17 ⟨Nat.le_of_ble_eq_true rfl, Nat.le_of_ble_eq_true rfl⟩) hT (fun r8 v6 H locs hp7 hT => ?_)
        obtain ⟨evhp7, qhp7⟩ := hp7
        rw [evhp7] at hT
        refine lv_if_eq (tgt := 35) hx hb dX3_hasQuorum_20 (by decide) (fun c20 => ?_) (fun c20 => ?_)
        · skip
          refine lv_iinc (v := (nI (i + 1))) (lv' := [(3, _), (0, _), (1, _), (2, _)]) hx hb dX3_hasQuorum_35 hl (k := 3) rfl (nI_1 _) (by decide) rfl (fun ls hl => ?_)
          refine lv_goto (tgt := 4) hx hb dX3_hasQuorum_38 (by decide) ?_
          exact ih4 (i + 1) x2 H locs ls (by omega) (by omega) hT (lv_sub hl [1, 2, 3, 0] rfl)
        · skip
          refine lv_iload_n hx hb dX3_hasQuorum_23 rfl (lv_at hl 2 rfl) ?_
          refine lv_aload_n hx hb dX3_hasQuorum_24 rfl (lv_at hl 0 rfl) ?_
          refine hv_gets (ci := 3) (C := RX3) (T := TX3) (N := 12) hx hb hts (tw_cs in_X3) hown hK hT (cs_kX hS) (by decide) rfl 0 (by decide) (hts _ (tw_c tw_47)) rfl (x := (fa 1)) (cs_pS hS) dX3_hasQuorum_25 ?_
          refine lv_iload_n hx hb dX3_hasQuorum_28 rfl (lv_at hl 3 rfl) ?_
          refine hv_alds (t := 0) hx hb hK hT (cs_kS hS) rfl rfl (cs_in8 (cs_lt8 hS hlti)) (x := (fa (16 + i))) (cs_qS hS hlti) dX3_hasQuorum_29 ?_
          refine hv_geti (ci := 2) (C := RX2) (T := TX2) (N := 10) hx hb hts (tw_cs in_X2) hown hK hT (cs_ks hS hlti) (by decide) rfl 0 (by decide) (hts _ (tw_c tw_73)) rfl dX3_hasQuorum_30 ?_
          refine lv_topi (fun g9 eg9 => ?_)
          refine lv_iadd hx hb dX3_hasQuorum_33 ?_
          refine lv_istore_n (lv' := [(2, _), (0, _), (1, _), (3, _)]) hx hb dX3_hasQuorum_34 rfl hl (by decide) rfl (fun ls hl => ?_)
          refine lv_iinc (v := (nI (i + 1))) (lv' := [(3, _), (2, _), (0, _), (1, _)]) hx hb dX3_hasQuorum_35 hl (k := 3) rfl (nI_1 _) (by decide) rfl (fun ls hl => ?_)
          refine lv_goto (tgt := 4) hx hb dX3_hasQuorum_38 (by decide) ?_
          exact ih4 (i + 1) (x2 + g9) H locs ls (by omega) (by omega) hT (lv_sub hl [2, 3, 1, 0] rfl)
  exact hL4 (n + 1) 0 0 H locs ls (Nat.zero_le _) (by omega) hT (lv_sub hl [2, 3, 1, 0] rfl)

set_option maxHeartbeats 4000000 in
set_option maxRecDepth 100000 in
theorem c_toldWeight (l : Launch) (D : va_G) (tc : Nat → ClassId) {fa : Nat → Nat} {n : Nat} {v : hv_V} (hS : cs_S fa n v) (hn : hv_i v 303 (fa 0) = nI n) {i0 : Nat} (hi0 : i0 < n) (y : Int32) : Met l yX3_toldWeight (Cond.code yX3_toldWeight cX3_toldWeight 5 (some .int) :: lw_B) ({ frames := 1, cells := 0, slots := 0, locals := 21 }) (va_Pc [.ref (fa 0), .ref (fa (16 + i0)), .int y] (hv_Pre D tc v)) (va_Qi (fun (r : Int32) (v1 : hv_V) => v1 = v) (hv_Post D tc (hv_A v)) (hv_A v)) (0) (0) (hv_A v) := by
  refine hv_meti l (by decide) (Nat.le_of_ble_eq_true rfl) ?_
  intro p e s m args below meth c Q X hret hK H locs ls hT hl
  obtain ⟨hx, hb, hml, hts, hown, hin0⟩ := X
  have hown : s.vm.findClass "CommitSites" = some m.cls := hown
  have hl : lv_has ls 5 [(0, .ref (fa 0)), (1, .ref (fa (16 + i0))), (2, .int y)] := hl
  refine lv_iconst (v := 0) hx hb dX3_toldWeight_0 (by decide) ?_
  refine lv_istore_n (lv' := [(3, _), (0, _), (1, _), (2, _)]) hx hb dX3_toldWeight_1 rfl hl (by decide) rfl (fun ls hl => ?_)
  refine lv_iconst (v := 0) hx hb dX3_toldWeight_2 (by decide) ?_
  refine hv_as (x := 0) (y := (nI 0)) nI_0.symm ?_
  refine lv_istore (lv' := [(4, _), (3, _), (0, _), (1, _), (2, _)]) hx hb dX3_toldWeight_3 hl (by decide) rfl (fun ls hl => ?_)
  have hL5 : ∀ (N9 : Nat) (i : Nat) (x3 : Int32) (H : Heap) (locs : List Loc) (ls : Array Slot), i ≤ n → n < i + N9 → hv_St (hv_A v) s D tc v H locs → lv_has ls 5 [(0, .ref (fa 0)), (1, .ref (fa (16 + i0))), (2, .int y), (3, .int x3), (4, .int (nI i))] → W p l e ({ frames := 1, cells := 0, slots := 0, locals := 21 } : Room) s m args below meth c H locs (0) (0) Q (F0 m 5 ls []) := by
    intro N9
    induction N9 with
    | zero =>
      intro i x3 H locs ls hlei hNi hT hl
      exfalso
      omega
    | succ N9 ih5 =>
      intro i x3 H locs ls hlei hNi hT hl
      refine lv_iload hx hb dX3_toldWeight_5 (lv_at hl 4 rfl) ?_
      refine lv_aload_n hx hb dX3_toldWeight_7 rfl (lv_at hl 0 rfl) ?_
      refine hv_geti (ci := 3) (C := RX3) (T := TX3) (N := 12) hx hb hts (tw_cs in_X3) hown hK hT (cs_kX hS) (by decide) rfl 3 (by decide) (hts _ (tw_c tw_50)) rfl dX3_toldWeight_8 ?_
      refine lv_topi (fun g1 eg1 => ?_)
      refine lv_icmp_ge (tgt := 56) hx hb dX3_toldWeight_11 (by decide) (fun c11 => ?_) (fun c11 => ?_)
      · skip
        refine lv_iload_n hx hb dX3_toldWeight_56 rfl (lv_at hl 3 rfl) ?_
        exact hret _ x3 v _ _ _ _ _ dX3_toldWeight_57 rfl hT rfl (by decide) (by decide)
      · skip
        have hlti : i < n := cs_lp hlei (cs_n8 hS) (by rw [← hn, ← eg1]; exact c11)
        refine lv_aload_n hx hb dX3_toldWeight_14 rfl (lv_at hl 1 rfl) ?_
        refine hv_geti (ci := 2) (C := RX2) (T := TX2) (N := 10) hx hb hts (tw_cs in_X2) hown hK hT (cs_ks hS hi0) (by decide) rfl 2 (by decide) (hts _ (tw_c tw_77)) rfl dX3_toldWeight_15 ?_
        refine lv_topi (fun g2 eg2 => ?_)
        refine lv_iload hx hb dX3_toldWeight_18 (lv_at hl 4 rfl) ?_
        refine hv_calli (va_runS (As := [.int g2, .int (nI i)]) (rest := []) ⟨hx, hb, hml, hown, hts⟩ (c_hasBit l D tc g2 (nI i)) (va_cwS 2 hts (tw_S tw_110 tw_111 tw_1 tw_112) rfl rfl rfl (by decide +kernel) ⟨Nat.le_of_ble_eq_true rfl, Nat.le_of_ble_eq_true rfl⟩) (hv_preS hK hT.1) rfl rfl hl.1 rfl (lv_room (Nat.le_of_ble_eq_true rfl)) dX3_toldWeight_20 ⟨Nat.le_of_ble_eq_true rfl, Nat.le_of_ble_eq_true rfl⟩) hT (fun r5 v3 H locs hp4 hT => ?_)
        obtain ⟨evhp4, qhp4⟩ := hp4
        rw [evhp4] at hT
        refine lv_if_eq (tgt := 50) hx hb dX3_toldWeight_23 (by decide) (fun c23 => ?_) (fun c23 => ?_)
        · skip
          refine lv_iinc (v := (nI (i + 1))) (lv' := [(4, _), (0, _), (1, _), (2, _), (3, _)]) hx hb dX3_toldWeight_50 hl (k := 4) rfl (nI_1 _) (by decide) rfl (fun ls hl => ?_)
          refine lv_goto (tgt := 5) hx hb dX3_toldWeight_53 (by decide) ?_
          exact ih5 (i + 1) x3 H locs ls (by omega) (by omega) hT (lv_sub hl [1, 2, 3, 4, 0] rfl)
        · skip
          refine lv_aload_n hx hb dX3_toldWeight_26 rfl (lv_at hl 1 rfl) ?_
          refine hv_gets (ci := 2) (C := RX2) (T := TX2) (N := 10) hx hb hts (tw_cs in_X2) hown hK hT (cs_ks hS hi0) (by decide) rfl 1 (by decide) (hts _ (tw_c tw_75)) rfl (x := (fa (24 + i0))) (cs_po hS hi0) dX3_toldWeight_27 ?_
          refine lv_iload hx hb dX3_toldWeight_30 (lv_at hl 4 rfl) ?_
          refine hv_iald hx hb hK hT (cs_ko hS hi0) (cs_in8 (cs_lt8 hS hlti)) dX3_toldWeight_32 ?_
          refine lv_topi (fun g6 eg6 => ?_)
          refine lv_iload_n hx hb dX3_toldWeight_33 rfl (lv_at hl 2 rfl) ?_
          refine lv_icmp_ne (tgt := 50) hx hb dX3_toldWeight_34 (by decide) (fun c34 => ?_) (fun c34 => ?_)
          · skip
            refine lv_iinc (v := (nI (i + 1))) (lv' := [(4, _), (0, _), (1, _), (2, _), (3, _)]) hx hb dX3_toldWeight_50 hl (k := 4) rfl (nI_1 _) (by decide) rfl (fun ls hl => ?_)
            refine lv_goto (tgt := 5) hx hb dX3_toldWeight_53 (by decide) ?_
            exact ih5 (i + 1) x3 H locs ls (by omega) (by omega) hT (lv_sub hl [1, 2, 3, 4, 0] rfl)
          · skip
            refine lv_iload_n hx hb dX3_toldWeight_37 rfl (lv_at hl 3 rfl) ?_
            refine lv_aload_n hx hb dX3_toldWeight_38 rfl (lv_at hl 0 rfl) ?_
            refine hv_gets (ci := 3) (C := RX3) (T := TX3) (N := 12) hx hb hts (tw_cs in_X3) hown hK hT (cs_kX hS) (by decide) rfl 0 (by decide) (hts _ (tw_c tw_47)) rfl (x := (fa 1)) (cs_pS hS) dX3_toldWeight_39 ?_
            refine lv_iload hx hb dX3_toldWeight_42 (lv_at hl 4 rfl) ?_
            refine hv_alds (t := 0) hx hb hK hT (cs_kS hS) rfl rfl (cs_in8 (cs_lt8 hS hlti)) (x := (fa (16 + i))) (cs_qS hS hlti) dX3_toldWeight_44 ?_
            refine hv_geti (ci := 2) (C := RX2) (T := TX2) (N := 10) hx hb hts (tw_cs in_X2) hown hK hT (cs_ks hS hlti) (by decide) rfl 0 (by decide) (hts _ (tw_c tw_73)) rfl dX3_toldWeight_45 ?_
            refine lv_topi (fun g7 eg7 => ?_)
            refine lv_iadd hx hb dX3_toldWeight_48 ?_
            refine lv_istore_n (lv' := [(3, _), (0, _), (1, _), (2, _), (4, _)]) hx hb dX3_toldWeight_49 rfl hl (by decide) rfl (fun ls hl => ?_)
            refine lv_iinc (v := (nI (i + 1))) (lv' := [(4, _), (3, _), (0, _), (1, _), (2, _)]) hx hb dX3_toldWeight_50 hl (k := 4) rfl (nI_1 _) (by decide) rfl (fun ls hl => ?_)
            refine lv_goto (tgt := 5) hx hb dX3_toldWeight_53 (by decide) ?_
            exact ih5 (i + 1) (x3 + g7) H locs ls (by omega) (by omega) hT (lv_sub hl [2, 3, 4, 1, 0] rfl)
  exact hL5 (n + 1) 0 0 H locs ls (Nat.zero_le _) (by omega) hT (lv_sub hl [2, 3, 4, 1, 0] rfl)

set_option maxHeartbeats 4000000 in
set_option maxRecDepth 100000 in
theorem c_firstTimer (l : Launch) (D : va_G) (tc : Nat → ClassId) {fa : Nat → Nat} {n : Nat} {v : hv_V} (hS : cs_S fa n v) (hn : hv_i v 303 (fa 0) = nI n) : Met l yX3_firstTimer (Cond.code yX3_firstTimer cX3_firstTimer 3 (some .int) :: lw_B) ({ frames := 1, cells := 0, slots := 0, locals := 21 }) (va_Pc [.ref (fa 0)] (hv_Pre D tc v)) (va_Qi (fun (r : Int32) (v1 : hv_V) => v1 = v ∧ (r = -1 ∨ ∃ j, j < n ∧ r = nI j ∧ ¬ hv_i v 208 (fa (16 + j)) = -1)) (hv_Post D tc (hv_A v)) (hv_A v)) (0) (0) (hv_A v) := by
  refine hv_meti l (by decide) (Nat.le_of_ble_eq_true rfl) ?_
  intro p e s m args below meth c Q X hret hK H locs ls hT hl
  obtain ⟨hx, hb, hml, hts, hown, hin0⟩ := X
  have hown : s.vm.findClass "CommitSites" = some m.cls := hown
  have hl : lv_has ls 3 [(0, .ref (fa 0))] := hl
  refine lv_iconst (v := (-1)) hx hb dX3_firstTimer_0 (by decide) ?_
  refine lv_istore_n (lv' := [(1, _), (0, _)]) hx hb dX3_firstTimer_1 rfl hl (by decide) rfl (fun ls hl => ?_)
  refine lv_iconst (v := 0) hx hb dX3_firstTimer_2 (by decide) ?_
  refine hv_as (x := 0) (y := (nI 0)) nI_0.symm ?_
  refine lv_istore_n (lv' := [(2, _), (1, _), (0, _)]) hx hb dX3_firstTimer_3 rfl hl (by decide) rfl (fun ls hl => ?_)
  have hL4 : ∀ (N9 : Nat) (i : Nat) (x1 : Int32) (H : Heap) (locs : List Loc) (ls : Array Slot), i ≤ n → n < i + N9 → (x1 = -1 ∨ ∃ j, j < n ∧ x1 = nI j ∧ ¬ hv_i v 208 (fa (16 + j)) = -1) → hv_St (hv_A v) s D tc v H locs → lv_has ls 3 [(0, .ref (fa 0)), (1, .int x1), (2, .int (nI i))] → W p l e ({ frames := 1, cells := 0, slots := 0, locals := 21 } : Room) s m args below meth c H locs (0) (0) Q (F0 m 4 ls []) := by
    intro N9
    induction N9 with
    | zero =>
      intro i x1 H locs ls hlei hNi hx1 hT hl
      exfalso
      omega
    | succ N9 ih4 =>
      intro i x1 H locs ls hlei hNi hx1 hT hl
      refine lv_iload_n hx hb dX3_firstTimer_4 rfl (lv_at hl 2 rfl) ?_
      refine lv_aload_n hx hb dX3_firstTimer_5 rfl (lv_at hl 0 rfl) ?_
      refine hv_geti (ci := 3) (C := RX3) (T := TX3) (N := 12) hx hb hts (tw_cs in_X3) hown hK hT (cs_kX hS) (by decide) rfl 3 (by decide) (hts _ (tw_c tw_50)) rfl dX3_firstTimer_6 ?_
      refine lv_topi (fun g1 eg1 => ?_)
      refine lv_icmp_ge (tgt := 56) hx hb dX3_firstTimer_9 (by decide) (fun c9 => ?_) (fun c9 => ?_)
      · skip
        refine lv_iload_n hx hb dX3_firstTimer_56 rfl (lv_at hl 1 rfl) ?_
        exact hret _ x1 v _ _ _ _ _ dX3_firstTimer_57 rfl hT ⟨rfl, hx1⟩ (by decide) (by decide)
      · skip
        have hlti : i < n := cs_lp hlei (cs_n8 hS) (by rw [← hn, ← eg1]; exact c9)
        refine lv_aload_n hx hb dX3_firstTimer_12 rfl (lv_at hl 0 rfl) ?_
        refine hv_gets (ci := 3) (C := RX3) (T := TX3) (N := 12) hx hb hts (tw_cs in_X3) hown hK hT (cs_kX hS) (by decide) rfl 0 (by decide) (hts _ (tw_c tw_47)) rfl (x := (fa 1)) (cs_pS hS) dX3_firstTimer_13 ?_
        refine lv_iload_n hx hb dX3_firstTimer_16 rfl (lv_at hl 2 rfl) ?_
        refine hv_alds (t := 0) hx hb hK hT (cs_kS hS) rfl rfl (cs_in8 (cs_lt8 hS hlti)) (x := (fa (16 + i))) (cs_qS hS hlti) dX3_firstTimer_17 ?_
        refine hv_geti (ci := 2) (C := RX2) (T := TX2) (N := 10) hx hb hts (tw_cs in_X2) hown hK hT (cs_ks hS hlti) (by decide) rfl 8 (by decide) (hts _ (tw_c tw_89)) rfl dX3_firstTimer_18 ?_
        refine lv_topi (fun g2 eg2 => ?_)
        refine lv_iconst (v := (-1)) hx hb dX3_firstTimer_21 (by decide) ?_
        refine lv_icmp_eq (tgt := 50) hx hb dX3_firstTimer_22 (by decide) (fun c22 => ?_) (fun c22 => ?_)
        · skip
          refine lv_iinc (v := (nI (i + 1))) (lv' := [(2, _), (0, _), (1, _)]) hx hb dX3_firstTimer_50 hl (k := 2) rfl (nI_1 _) (by decide) rfl (fun ls hl => ?_)
          refine lv_goto (tgt := 4) hx hb dX3_firstTimer_53 (by decide) ?_
          exact ih4 (i + 1) x1 H locs ls (by omega) (by omega) hx1 hT (lv_sub hl [1, 2, 0] rfl)
        · skip
          refine lv_iload_n hx hb dX3_firstTimer_25 rfl (lv_at hl 1 rfl) ?_
          refine lv_iconst (v := (-1)) hx hb dX3_firstTimer_26 (by decide) ?_
          refine lv_icmp_eq (tgt := 48) hx hb dX3_firstTimer_27 (by decide) (fun c27 => ?_) (fun c27 => ?_)
          · skip
            refine lv_iload_n hx hb dX3_firstTimer_48 rfl (lv_at hl 2 rfl) ?_
            refine lv_istore_n (lv' := [(1, _), (0, _), (2, _)]) hx hb dX3_firstTimer_49 rfl hl (by decide) rfl (fun ls hl => ?_)
            refine lv_iinc (v := (nI (i + 1))) (lv' := [(2, _), (1, _), (0, _)]) hx hb dX3_firstTimer_50 hl (k := 2) rfl (nI_1 _) (by decide) rfl (fun ls hl => ?_)
            refine lv_goto (tgt := 4) hx hb dX3_firstTimer_53 (by decide) ?_
            exact ih4 (i + 1) (nI i) H locs ls (by omega) (by omega) (Or.inr ⟨i, hlti, rfl, by rw [← eg2]; exact c22⟩) hT (lv_sub hl [2, 1, 0] rfl)
          · skip
            obtain ⟨j, hj, ej, hjt⟩ := hx1.resolve_left c27
            subst ej
            refine lv_aload_n hx hb dX3_firstTimer_30 rfl (lv_at hl 0 rfl) ?_
            refine hv_gets (ci := 3) (C := RX3) (T := TX3) (N := 12) hx hb hts (tw_cs in_X3) hown hK hT (cs_kX hS) (by decide) rfl 0 (by decide) (hts _ (tw_c tw_47)) rfl (x := (fa 1)) (cs_pS hS) dX3_firstTimer_31 ?_
            refine lv_iload_n hx hb dX3_firstTimer_34 rfl (lv_at hl 2 rfl) ?_
            refine hv_alds (t := 0) hx hb hK hT (cs_kS hS) rfl rfl (cs_in8 (cs_lt8 hS hlti)) (x := (fa (16 + i))) (cs_qS hS hlti) dX3_firstTimer_35 ?_
            refine lv_aload_n hx hb dX3_firstTimer_36 rfl (lv_at hl 0 rfl) ?_
            refine hv_gets (ci := 3) (C := RX3) (T := TX3) (N := 12) hx hb hts (tw_cs in_X3) hown hK hT (cs_kX hS) (by decide) rfl 0 (by decide) (hts _ (tw_c tw_47)) rfl (x := (fa 1)) (cs_pS hS) dX3_firstTimer_37 ?_
            refine lv_iload_n hx hb dX3_firstTimer_40 rfl (lv_at hl 1 rfl) ?_
            refine hv_alds (t := 0) hx hb hK hT (cs_kS hS) rfl rfl (cs_in8 (cs_lt8 hS hj)) (x := (fa (16 + j))) (cs_qS hS hj) dX3_firstTimer_41 ?_
            refine hv_calli (va_runV (As := [.ref (fa (16 + j))]) (rest := []) ⟨hx, hb, hml, hown, hts⟩ (c_runsOutEarlier l D tc hS hlti hj) (cwV 1 hts (tw_V tw_212 tw_213 tw_214 tw_4 tw_215) rfl rfl rfl (by decide +kernel) ⟨Nat.le_of_ble_eq_true rfl, Nat.le_of_ble_eq_true rfl⟩) (hv_preV hK hT.1 (cs_ks hS hlti) (by decide) rfl rfl) rfl rfl hl.1 rfl (lv_room (Nat.le_of_ble_eq_true rfl)) dX3_firstTimer_42 ⟨Nat.le_of_ble_eq_true rfl, Nat.le_of_ble_eq_true rfl⟩) hT (fun r5 v3 H locs hp4 hT => ?_)
            rw [hp4] at hT
            refine lv_if_eq (tgt := 50) hx hb dX3_firstTimer_45 (by decide) (fun c45 => ?_) (fun c45 => ?_)
            · skip
              refine lv_iinc (v := (nI (i + 1))) (lv' := [(2, _), (0, _), (1, _)]) hx hb dX3_firstTimer_50 hl (k := 2) rfl (nI_1 _) (by decide) rfl (fun ls hl => ?_)
              refine lv_goto (tgt := 4) hx hb dX3_firstTimer_53 (by decide) ?_
              exact ih4 (i + 1) (nI j) H locs ls (by omega) (by omega) (Or.inr ⟨j, hj, rfl, hjt⟩) hT (lv_sub hl [1, 2, 0] rfl)
            · skip
              refine lv_iload_n hx hb dX3_firstTimer_48 rfl (lv_at hl 2 rfl) ?_
              refine lv_istore_n (lv' := [(1, _), (0, _), (2, _)]) hx hb dX3_firstTimer_49 rfl hl (by decide) rfl (fun ls hl => ?_)
              refine lv_iinc (v := (nI (i + 1))) (lv' := [(2, _), (1, _), (0, _)]) hx hb dX3_firstTimer_50 hl (k := 2) rfl (nI_1 _) (by decide) rfl (fun ls hl => ?_)
              refine lv_goto (tgt := 4) hx hb dX3_firstTimer_53 (by decide) ?_
              exact ih4 (i + 1) (nI i) H locs ls (by omega) (by omega) (Or.inr ⟨i, hlti, rfl, by rw [← eg2]; exact c22⟩) hT (lv_sub hl [2, 1, 0] rfl)
  exact hL4 (n + 1) 0 (-1) H locs ls (Nat.zero_le _) (by omega) (Or.inl rfl) hT (lv_sub hl [2, 1, 0] rfl)
end
section
theorem ci_chF {v v1 : hv_V} : ∀ (r : List Nat) (p : Option Nat), (∀ a ∈ r, hv_p v1 7 a = hv_p v 7 a) → ci_ch v p r → ci_ch v1 p r
  | [], _, _, q => q
  | a :: r, _, h, q => ⟨q.1, by rw [h a List.mem_cons_self]; exact ci_chF r _ (fun b hb => h b (List.mem_cons_of_mem _ hb)) q.2⟩
theorem ci_ch_none {v : hv_V} {r : List Nat} (h : ci_ch v none r) : r = [] := by
  cases r with
  | nil => rfl
  | cons a r => exact absurd h.1 (by intro q; cases q)
theorem ci_ch_some {v : hv_V} {r : List Nat} {a : Nat} (h : ci_ch v (some a) r) : ∃ r', r = a :: r' ∧ ci_ch v (hv_p v 7 a) r' := by
  cases r with
  | nil => exact absurd h (by intro q; cases q)
  | cons b r =>
    have e : a = b := Option.some.inj h.1
    subst e
    exact ⟨r, rfl, h.2⟩
/-- behind the last of a chain comes another one -/
theorem ci_ch_add {v v1 : hv_V} {a z : Nat} : ∀ (r : List Nat) (p : Option Nat), ci_ch v p r → r.Nodup → r.getLast? = some z → a ∉ r → hv_p v1 7 a = none → hv_p v1 7 z = some a → (∀ b, b ∈ r → b ≠ z → hv_p v1 7 b = hv_p v 7 b) → ci_ch v1 p (r ++ [a])
  | [], _, _, _, h, _, _, _, _ => by simp at h
  | [b], p, h, _, hz, _, h1, h2, _ => by
    have e : b = z := by simpa using hz
    subst e
    exact ⟨h.1, by rw [h2]; exact ⟨rfl, by rw [h1]; exact rfl⟩⟩
  | b :: c :: r, p, h, hn, hz, ha, h1, h2, h3 => by
    have hz' : (c :: r).getLast? = some z := by simpa [List.getLast?_cons_cons] using hz
    have hzm : z ∈ c :: r := List.mem_of_getLast? hz'
    have hbz : b ≠ z := fun e => (List.nodup_cons.mp hn).1 (e ▸ hzm)
    refine ⟨h.1, ?_⟩
    rw [h3 b List.mem_cons_self hbz]
    exact ci_ch_add (c :: r) _ h.2 (List.nodup_cons.mp hn).2 hz' (fun q => ha (List.mem_cons_of_mem _ q)) h1 h2 (fun x hx => h3 x (List.mem_cons_of_mem _ hx))
theorem ci_fl_s (N : Nat) (Sl : Nat → List Nat) : ci_fl (N + 1) Sl = ci_fl N Sl ++ Sl N := by simp [ci_fl, List.range_succ]
theorem ci_fl_eq {N : Nat} {Sl Sl' : Nat → List Nat} (h : ∀ s, s < N → Sl' s = Sl s) : ci_fl N Sl' = ci_fl N Sl := by
  induction N with
  | zero => rfl
  | succ N ih => rw [ci_fl_s, ci_fl_s, ih (fun s hs => h s (by omega)), h N (by omega)]
/-- one slot's messages ahead of the others' -/
theorem ci_fl_perm {N s : Nat} (Sl : Nat → List Nat) (hs : s < N) : (ci_fl N Sl).Perm (Sl s ++ ci_fl N (va_up Sl s [])) := by
  induction N with
  | zero => omega
  | succ N ih =>
    rw [ci_fl_s, ci_fl_s]
    by_cases h : s = N
    · subst h
      rw [va_up_self, List.append_nil, ci_fl_eq (Sl := Sl) (Sl' := va_up Sl s []) (fun q hq => va_up_ne _ _ (by omega))]
      exact List.perm_append_comm
    · rw [va_up_ne _ _ (show N ≠ s by omega), ← List.append_assoc]
      exact (ih (by omega)).append_right _
theorem ci_fl_up {N s : Nat} (Sl : Nat → List Nat) (l : List Nat) (hs : s < N) : (ci_fl N (va_up Sl s l)).Perm (l ++ ci_fl N (va_up Sl s [])) := by
  have h := ci_fl_perm (va_up Sl s l) hs
  rw [va_up_self] at h
  have e : va_up (va_up Sl s l) s [] = va_up Sl s [] := by
    funext q
    by_cases hq : q = s <;> simp [va_up, hq]
  rw [e] at h
  exact h
theorem ci_fl_mem {N s : Nat} {Sl : Nat → List Nat} {a : Nat} (hs : s < N) (h : a ∈ Sl s) : a ∈ ci_fl N Sl := List.mem_flatMap.mpr ⟨s, List.mem_range.mpr hs, h⟩
theorem ci_fl_of {N : Nat} {Sl : Nat → List Nat} {a : Nat} (h : a ∈ ci_fl N Sl) : ∃ s, s < N ∧ a ∈ Sl s := by
  obtain ⟨s, h1, h2⟩ := List.mem_flatMap.mp h
  exact ⟨s, List.mem_range.mp h1, h2⟩
section CHL
variable {fa : Nat → Nat} {n k : Nat} {hd : List Nat} {Sl : Nat → List Nat} {Sp : List Nat} {v v1 : hv_V}
/-- two slots have nothing in common -/
theorem ci_apart (h : ci_L fa n k hd Sl Sp v) {s s' a : Nat} (hs : s < 32) (hs' : s' < 32) (ha : a ∈ Sl s) (ha' : a ∈ Sl s') : s = s' := by
  refine Classical.byContradiction fun hne => ?_
  have hn : (ci_fl 32 Sl).Nodup := (List.nodup_append.mp h.1).2.1
  have hp := (ci_fl_perm Sl hs).nodup_iff.mp hn
  have hin : a ∈ ci_fl 32 (va_up Sl s []) := ci_fl_mem hs' (by rw [va_up_ne _ _ (Ne.symm hne)]; exact ha')
  exact (List.nodup_append.mp hp).2.2 a ha a hin rfl
theorem ci_L_mem (h : ci_L fa n k hd Sl Sp v) {s a : Nat} (hs : s < 32) (ha : a ∈ Sl s) : a ∈ Sp ++ hd ++ ci_fl 32 Sl := List.mem_append_right _ (ci_fl_mem hs ha)
/-- the first of the spare ones is taken -/
theorem ci_pop {a : Nat} (h : ci_L fa n k hd Sl Sp v) (hs : hv_p v 103 (fa 2) = some a) : ∃ Sp', ci_L fa n k (a :: hd) Sl Sp' (hv_sp v 103 (fa 2) (hv_p v 7 a)) := by
  obtain ⟨h1, h2, h2', h3, h4, h5⟩ := h
  rw [hs] at h4
  obtain ⟨Sp', rfl, h4n⟩ := ci_ch_some h4
  have hp : (Sp' ++ (a :: hd) ++ ci_fl 32 Sl).Perm ((a :: Sp') ++ hd ++ ci_fl 32 Sl) := by
    refine List.Perm.append_right _ ?_
    exact List.perm_middle
  refine ⟨Sp', hp.nodup_iff.mpr h1, by rw [hp.length_eq]; exact h2, h2', fun b hb => h3 b (hp.mem_iff.mp hb), ?_, fun s hs' => ⟨?_, (h5 s hs').2⟩⟩
  · rw [hv_sp_p, if_pos ⟨rfl, rfl⟩]
    exact ci_chE (fun b => by rw [hv_sp_p, if_neg (fun q => absurd q.1 (by decide))]) _ _ h4n
  · exact ci_chE (fun b => by rw [hv_sp_p, if_neg (fun q => absurd q.1 (by decide))]) _ _ (h5 s hs').1
/-- a message goes to the spare ones -/
theorem ci_push {a : Nat} (h : ci_L fa n k (a :: hd) Sl Sp v) : ci_L fa n k hd Sl (a :: Sp) (hv_sp (hv_sp v 7 a (hv_p v 103 (fa 2))) 103 (fa 2) (some a)) := by
  obtain ⟨h1, h2, h2', h3, h4, h5⟩ := h
  have hp : (Sp ++ (a :: hd) ++ ci_fl 32 Sl).Perm ((a :: Sp) ++ hd ++ ci_fl 32 Sl) := by
    refine List.Perm.append_right _ ?_
    exact List.perm_middle
  have hn := hp.nodup_iff.mp h1
  have hna : a ∉ Sp ++ hd ++ ci_fl 32 Sl := by
    have : (a :: (Sp ++ hd ++ ci_fl 32 Sl)).Nodup := by simpa using hn
    exact (List.nodup_cons.mp this).1
  have key : ∀ b, b ≠ a → hv_p (hv_sp (hv_sp v 7 a (hv_p v 103 (fa 2))) 103 (fa 2) (some a)) 7 b = hv_p v 7 b := fun b hb => by
    rw [hv_sp_p, if_neg (fun q => absurd q.1 (by decide)), hv_sp_p, if_neg (fun q => hb q.2)]
  refine ⟨hn, by rw [← hp.length_eq]; exact h2, h2', fun b hb => h3 b (hp.mem_iff.mpr hb), ?_, fun s hs' => ⟨?_, (h5 s hs').2⟩⟩
  · refine ⟨by rw [hv_sp_p, if_pos ⟨rfl, rfl⟩], ?_⟩
    rw [hv_sp_p, if_neg (fun q => absurd q.1 (by decide)), hv_sp_p, if_pos ⟨rfl, rfl⟩]
    exact ci_chF _ _ (fun b hb => key b (fun e => hna (by rw [← e]; simp [hb]))) h4
  · exact ci_chF _ _ (fun b hb => key b (fun e => hna (by rw [← e]; exact List.mem_append_right _ (ci_fl_mem hs' hb)))) (h5 s hs').1
/-- the first of a slot is taken off -/
theorem ci_take {a s : Nat} (h : ci_L fa n k hd Sl Sp v) (hs : s < 32) (ha : hv_q v (fa 5) s = some a) (h56 : fa 5 ≠ fa 6)
    (hk : ∀ b, hv_k v1 b = hv_k v b) (hi : ∀ f b, f = 0 ∨ f = 3 ∨ f = 4 → hv_i v1 f b = hv_i v f b) (hp : ∀ f b, hv_p v1 f b = hv_p v f b) (hq5 : ∀ j, hv_q v1 (fa 5) j = if j = s then hv_p v 7 a else hv_q v (fa 5) j) (hq6 : ∀ j, hv_q v1 (fa 6) j = if j = s ∧ hv_p v 7 a = none then none else hv_q v (fa 6) j) :
    ∃ Sl', ci_L fa n k (a :: hd) Sl' Sp v1 ∧ (ci_fl 32 Sl').length + 1 = (ci_fl 32 Sl).length := by
  have h0 := h
  obtain ⟨h1, h2, h2', h3, h4, h5⟩ := h
  have hc := (h5 s hs).1
  rw [ha] at hc
  obtain ⟨r, hr, hcn⟩ := ci_ch_some hc
  have e1 := ci_fl_perm Sl hs
  have e2 := ci_fl_up Sl r hs
  rw [hr] at e1
  have hfl : (ci_fl 32 Sl).Perm (a :: ci_fl 32 (va_up Sl s r)) := e1.trans (by simpa using (e2.symm.cons a))
  have hp' : (Sp ++ (a :: hd) ++ ci_fl 32 (va_up Sl s r)).Perm (Sp ++ hd ++ ci_fl 32 Sl) := by
    have g1 : (Sp ++ (a :: hd) ++ ci_fl 32 (va_up Sl s r)).Perm (a :: (Sp ++ hd ++ ci_fl 32 (va_up Sl s r))) := by
      have := (List.perm_middle (a := a) (l₁ := Sp) (l₂ := hd)).append_right (ci_fl 32 (va_up Sl s r))
      simpa using this
    have g2 : (Sp ++ hd ++ ci_fl 32 Sl).Perm (a :: (Sp ++ hd ++ ci_fl 32 (va_up Sl s r))) := (hfl.append_left (Sp ++ hd)).trans List.perm_middle
    exact g1.trans g2.symm
  have hch : ∀ (p : Option Nat) (r : List Nat), ci_ch v p r → ci_ch v1 p r := fun p r q => ci_chE (fun b => hp 7 b) _ _ q
  refine ⟨va_up Sl s r, ⟨hp'.nodup_iff.mpr h1, by rw [hp'.length_eq]; exact h2, h2', fun b hb => ?_, ?_, fun s' hs' => ?_⟩, ?_⟩
  · rw [hk, hi 3 b (by simp), hi 4 b (by simp)]; exact h3 b (hp'.mem_iff.mp hb)
  · rw [hp]; exact hch _ _ h4
  · by_cases e : s' = s
    · subst e
      rw [va_up_self, hq5, if_pos rfl, hq6]
      refine ⟨hch _ _ hcn, ?_, fun b hb => ?_⟩
      · cases hnx : hv_p v 7 a with
        | none =>
          rw [hnx] at hcn
          rw [ci_ch_none hcn, if_pos ⟨rfl, rfl⟩]; rfl
        | some z =>
          rw [if_neg (fun q => by cases q.2), (h5 s' hs').2.1, hr]
          rw [hnx] at hcn
          obtain ⟨r', rfl, -⟩ := ci_ch_some hcn
          rw [List.getLast?_cons_cons]
      · rw [hi 0 b (by simp)]
        exact (h5 s' hs').2.2 b (by rw [hr]; exact List.mem_cons_of_mem _ hb)
    · rw [va_up_ne _ _ e, hq5, if_neg e, hq6, if_neg (fun q => e q.1)]
      exact ⟨hch _ _ (h5 s' hs').1, (h5 s' hs').2.1, fun b hb => by rw [hi 0 b (by simp)]; exact (h5 s' hs').2.2 b hb⟩
  · have := hfl.length_eq
    simp at this
    omega
/-- a message is put on a slot's end -/
theorem ci_app {a s t : Nat} (h : ci_L fa n k (a :: hd) Sl Sp v) (hs : s < 32) (ht : t ≤ 4020) (hts : t % 32 = s)
    (hk : ∀ b, hv_k v1 b = hv_k v b) (hi : ∀ f b, f = 3 ∨ f = 4 → hv_i v1 f b = hv_i v f b) (hi0 : ∀ b, hv_i v1 0 b = if b = a then nI t else hv_i v 0 b) (hp3 : hv_p v1 103 (fa 2) = hv_p v 103 (fa 2))
    (hp7 : ∀ b, hv_p v1 7 b = if b = a then none else if hv_q v (fa 6) s = some b then some a else hv_p v 7 b) (hq5 : ∀ j, hv_q v1 (fa 5) j = if j = s ∧ hv_q v (fa 6) s = none then some a else hv_q v (fa 5) j) (hq6 : ∀ j, hv_q v1 (fa 6) j = if j = s then some a else hv_q v (fa 6) j) :
    ∃ Sl', ci_L fa n k hd Sl' Sp v1 ∧ (ci_fl 32 Sl').length = (ci_fl 32 Sl).length + 1 := by
  have h0 := h
  obtain ⟨h1, h2, h2', h3, h4, h5⟩ := h
  have e1 := ci_fl_perm Sl hs
  have e2 := ci_fl_up Sl (Sl s ++ [a]) hs
  have hfl : (ci_fl 32 (va_up Sl s (Sl s ++ [a]))).Perm (a :: ci_fl 32 Sl) := by
    refine e2.trans ?_
    have g : ((Sl s ++ [a]) ++ ci_fl 32 (va_up Sl s [])).Perm (a :: (Sl s ++ ci_fl 32 (va_up Sl s []))) := by
      simpa using (List.perm_middle (a := a) (l₁ := Sl s) (l₂ := ci_fl 32 (va_up Sl s [])))
    exact g.trans (e1.symm.cons a)
  have hp' : (Sp ++ hd ++ ci_fl 32 (va_up Sl s (Sl s ++ [a]))).Perm (Sp ++ (a :: hd) ++ ci_fl 32 Sl) := by
    have g1 : (Sp ++ (a :: hd) ++ ci_fl 32 Sl).Perm (a :: (Sp ++ hd ++ ci_fl 32 Sl)) := by
      have := (List.perm_middle (a := a) (l₁ := Sp) (l₂ := hd)).append_right (ci_fl 32 Sl)
      simpa using this
    exact ((hfl.append_left (Sp ++ hd)).trans List.perm_middle).trans g1.symm
  have hna : a ∉ Sp ++ hd ++ ci_fl 32 Sl := by
    have g1 : (Sp ++ (a :: hd) ++ ci_fl 32 Sl).Perm (a :: (Sp ++ hd ++ ci_fl 32 Sl)) := by
      have := (List.perm_middle (a := a) (l₁ := Sp) (l₂ := hd)).append_right (ci_fl 32 Sl)
      simpa using this
    exact (List.nodup_cons.mp (g1.nodup_iff.mp h1)).1
  have hflm : ∀ s', s' < 32 → ∀ b, b ∈ Sl s' → b ≠ a := fun s' hs' b hb e => hna (List.mem_append_right _ (ci_fl_mem hs' (e ▸ hb)))
  have htl : ∀ b, hv_q v (fa 6) s = some b → b ∈ Sl s := fun b hb => by rw [(h5 s hs).2.1] at hb; exact List.mem_of_getLast? hb
  have hSpn : ∀ b, b ∈ Sp → b ≠ a ∧ ¬ hv_q v (fa 6) s = some b := fun b hb => by
    refine ⟨fun e => hna (e ▸ (List.mem_append_left _ (List.mem_append_left _ hb))), fun q => ?_⟩
    have hb2 := ci_fl_mem hs (htl b q)
    have hd' := (List.nodup_append.mp h1).2.2
    exact hd' b (List.mem_append_left _ hb) b hb2 rfl
  refine ⟨va_up Sl s (Sl s ++ [a]), ⟨hp'.nodup_iff.mpr h1, by rw [hp'.length_eq]; exact h2, h2', fun b hb => ?_, ?_, fun s' hs' => ?_⟩, ?_⟩
  · rw [hk, hi 3 b (by simp), hi 4 b (by simp)]; exact h3 b (hp'.mem_iff.mp hb)
  · rw [hp3]
    exact ci_chF _ _ (fun b hb => by rw [hp7, if_neg (hSpn b hb).1, if_neg (hSpn b hb).2]) h4
  · by_cases e : s' = s
    · subst e
      rw [va_up_self, hq6, if_pos rfl, hq5]
      refine ⟨?_, by simp, fun b hb => ?_⟩
      · cases hz : hv_q v (fa 6) s' with
        | none =>
          have hn0 : Sl s' = [] := by
            have := (h5 s' hs').2.1
            rw [hz] at this
            exact List.getLast?_eq_none_iff.mp this.symm
          rw [hn0, if_pos ⟨rfl, rfl⟩]
          exact ⟨rfl, by rw [hp7, if_pos rfl]; exact rfl⟩
        | some z =>
          rw [if_neg (fun q => by cases q.2)]
          have hgl : (Sl s').getLast? = some z := by rw [← (h5 s' hs').2.1]; exact hz
          have hnd : (Sl s').Nodup := (List.nodup_append.mp (e1.nodup_iff.mp (List.nodup_append.mp h1).2.1)).1
          have hza : z ≠ a := hflm s' hs' z (List.mem_of_getLast? hgl)
          exact ci_ch_add _ _ (h5 s' hs').1 hnd hgl (fun q => hflm s' hs' a q rfl) (by rw [hp7, if_pos rfl]) (by rw [hp7, if_neg hza, if_pos hz]) (fun b hb hbz => by rw [hp7, if_neg (hflm s' hs' b hb), hz, if_neg (fun q => hbz (Option.some.inj q).symm)])
      · rcases List.mem_append.mp hb with hb | hb
        · rw [hi0, if_neg (hflm s' hs' b hb)]
          exact (h5 s' hs').2.2 b hb
        · rw [List.mem_singleton.mp hb, hi0, if_pos rfl]
          exact ⟨t, ht, hts, rfl⟩
    · rw [va_up_ne _ _ e, hq5, if_neg (fun q => e q.1), hq6, if_neg e]
      refine ⟨ci_chF _ _ (fun b hb => ?_) (h5 s' hs').1, (h5 s' hs').2.1, fun b hb => ?_⟩
      · rw [hp7, if_neg (hflm s' hs' b hb), if_neg (fun q => e (ci_apart h0 hs' hs hb (htl b q)))]
      · rw [hi0, if_neg (hflm s' hs' b hb)]
        exact (h5 s' hs').2.2 b hb
  · have := hfl.length_eq
    simpa using this
end CHL
end
section
theorem cs_cl32 {i : Nat} (hi : i < 32) : (nI i).toNatClampNeg = i := nI_clamp (by omega)
theorem cs_in32 {i : Nat} (hi : i < 32) : vp_in (nI i) 32 := vp_in_nI hi (by omega)
theorem cs_rem {t s : Nat} (ht : t ≤ 4020) (hs : t % 32 = s) : nI t - nI t / 32 * 32 = nI s := by
  have h := pk_rem (a := t) (d := 32) (by omega) (by decide) (by decide)
  rw [hs] at h
  exact h
section CNT
variable {fa : Nat → Nat} {n : Nat} {w u : Nat → Nat} {b : Nat} {d : Nat → Nat → Nat} {g : Nat × Nat} {k : Nat} {hd : List Nat} {v v1 : hv_V} {a s z : Nat}
theorem ci_keepI (h : ci_I fa n w u b d g k (a :: hd) v) : ci_I fa n w u b d g k hd (hv_sp (hv_sp v 7 a (hv_p v 103 (fa 2))) 103 (fa 2) (some a)) := by
  obtain ⟨hS, hV, ⟨Sl, Sp, hL, ho⟩, hE⟩ := h
  refine ⟨cs_S_of hS (fun _ => rfl) (fun f c h1 h2 => ?_) (fun _ _ _ _ => rfl), ci_V_of hV (fun _ _ _ _ _ _ _ => rfl) (fun _ _ _ => rfl), ⟨Sl, a :: Sp, ci_push hL, ho⟩, hE⟩
  rw [hv_sp_p, if_neg (fun q => h1 q.1), hv_sp_p, if_neg (fun q => h2 q.1)]
theorem ci_hdI (h : ci_I fa n w u b d g k (a :: hd) v) : hv_k v a = (1, 0) ∧ ∃ f t : Nat, f < n ∧ t < n ∧ hv_i v 3 a = nI f ∧ hv_i v 4 a = nI t := by
  obtain ⟨hS, hV, ⟨Sl, Sp, hL, ho⟩, hE⟩ := h
  exact hL.2.2.2.1 a (by simp)
theorem ci_headI (h : ci_I fa n w u b d g k hd v) (hs : s < 32) (ha : hv_q v (fa 5) s = some a) : hv_k v a = (1, 0) ∧ (∃ f t : Nat, f < n ∧ t < n ∧ hv_i v 3 a = nI f ∧ hv_i v 4 a = nI t) ∧ (∃ t : Nat, t ≤ 4020 ∧ t % 32 = s ∧ hv_i v 0 a = nI t) ∧ ∀ z, hv_p v 7 a = some z → hv_k v z = (1, 0) := by
  obtain ⟨hS, hV, ⟨Sl, Sp, hL, ho⟩, hE⟩ := h
  have hc := (hL.2.2.2.2.2 s hs).1
  rw [ha] at hc
  obtain ⟨r, hr, hcn⟩ := ci_ch_some hc
  have ham : a ∈ Sl s := by rw [hr]; exact List.mem_cons_self
  have h1 := hL.2.2.2.1 a (ci_L_mem hL hs ham)
  refine ⟨h1.1, h1.2, (hL.2.2.2.2.2 s hs).2.2 a ham, fun z hz => ?_⟩
  rw [hz] at hcn
  obtain ⟨r', hr', -⟩ := ci_ch_some hcn
  exact (hL.2.2.2.1 z (ci_L_mem hL hs (by rw [hr, hr']; simp))).1
theorem ci_tailI (h : ci_I fa n w u b d g k hd v) (hs : s < 32) (hz : hv_q v (fa 6) s = some z) : hv_k v z = (1, 0) := by
  obtain ⟨hS, hV, ⟨Sl, Sp, hL, ho⟩, hE⟩ := h
  rw [(hL.2.2.2.2.2 s hs).2.1] at hz
  exact (hL.2.2.2.1 z (ci_L_mem hL hs (List.mem_of_getLast? hz))).1
theorem ci_tailne (h : ci_I fa n w u b d g k (a :: hd) v) (hs : s < 32) (hz : hv_q v (fa 6) s = some z) : z ≠ a := by
  obtain ⟨hS, hV, ⟨Sl, Sp, hL, ho⟩, hE⟩ := h
  rw [(hL.2.2.2.2.2 s hs).2.1] at hz
  intro e
  exact (List.nodup_append.mp hL.1).2.2 a (by simp) z (ci_fl_mem hs (List.mem_of_getLast? hz)) e.symm
theorem ci_p7 {z a c : Nat} {o : Option Nat} (hza : z ≠ a) : (if c = z then some a else if c = a then none else o) = (if c = a then none else if z = c then some a else o) := by
  by_cases e1 : c = a
  · subst e1; simp [Ne.symm hza]
  · by_cases e2 : c = z
    · subst e2; simp [e1]
    · simp [e1, e2, Ne.symm e2]
theorem ci_spareI (h : ci_I fa n w u b d g k hd v) (hz : hv_p v 103 (fa 2) = some z) : hv_k v z = (1, 0) ∧ ∀ y, hv_p v 7 z = some y → hv_k v y = (1, 0) := by
  obtain ⟨hS, hV, ⟨Sl, Sp, hL, ho⟩, hE⟩ := h
  have hc := hL.2.2.2.2.1
  rw [hz] at hc
  obtain ⟨r, hr, hcn⟩ := ci_ch_some hc
  refine ⟨(hL.2.2.2.1 z (by rw [hr]; simp)).1, fun y hy => ?_⟩
  rw [hy] at hcn
  obtain ⟨r', hr', -⟩ := ci_ch_some hcn
  exact (hL.2.2.2.1 y (by rw [hr, hr']; simp)).1
theorem ci_56 (hS : cs_S fa n v) : fa 5 ≠ fa 6 := fun e => absurd (cs_inj hS 5 6 (cs_live_l (by decide)) (cs_live_l (by decide)) e) (by decide)
theorem cs_S_sq5 {j : Nat} {x : Option Nat} (hS : cs_S fa n v) : cs_S fa n (hv_sq v (fa 5) j x) := cs_S_of hS (fun _ => rfl) (fun _ _ _ _ => rfl) (fun c i h5 h6 => by rw [hv_sq_q, if_neg (fun q => h5 q.1)])
theorem cs_S_sq6 {j : Nat} {x : Option Nat} (hS : cs_S fa n v) : cs_S fa n (hv_sq v (fa 6) j x) := cs_S_of hS (fun _ => rfl) (fun _ _ _ _ => rfl) (fun c i h5 h6 => by rw [hv_sq_q, if_neg (fun q => h6 q.1)])
theorem ci_takeI (h : ci_I fa n w u b d g k hd v) (hs : s < 32) (ha : hv_q v (fa 5) s = some a) (hk : ∀ c, hv_k v1 c = hv_k v c) (hi : ∀ f c, f ≠ 108 → hv_i v1 f c = hv_i v f c) (ho1 : hv_i v1 108 (fa 2) = hv_i v 108 (fa 2) - 1) (hp : ∀ f c, hv_p v1 f c = hv_p v f c) (haa : ∀ c j, hv_a v1 c j = hv_a v c j)
    (hq5 : ∀ j, hv_q v1 (fa 5) j = if j = s then hv_p v 7 a else hv_q v (fa 5) j) (hq6 : ∀ j, hv_q v1 (fa 6) j = if j = s ∧ hv_p v 7 a = none then none else hv_q v (fa 6) j) (hqo : ∀ c j, c ≠ fa 5 → c ≠ fa 6 → hv_q v1 c j = hv_q v c j) (hn : hv_n v1 = hv_n v) (ht : hv_t v1 = hv_t v) : ci_I fa n w u b d g k (a :: hd) v1 := by
  obtain ⟨hS, hV, ⟨Sl, Sp, hL, ho⟩, hE⟩ := h
  obtain ⟨Sl', hL', hlen⟩ := ci_take hL hs ha (ci_56 hS) hk (fun f c hf => hi f c (by rcases hf with rfl | rfl | rfl <;> decide)) hp hq5 hq6
  refine ⟨cs_S_of hS hk (fun f c _ _ => hp f c) (fun c j h5 h6 => hqo c j h5 h6), ci_V_of hV (fun f c h1 _ _ _ _ => hi f c h1) (fun i j _ => haa _ _), ⟨Sl', Sp, hL', ?_⟩, by rw [hn, ht]; exact hE⟩
  rw [ho1, ho, ← hlen]
  exact nI_pred _
theorem ci_appI {t : Nat} (h : ci_I fa n w u b d g k (a :: hd) v) (ht : t ≤ 4020) (hts : t % 32 = s) (hs : s < 32) (hk : ∀ c, hv_k v1 c = hv_k v c) (hi : ∀ f c, ci_free f = false → f ≠ 108 → f ≠ 0 → hv_i v1 f c = hv_i v f c) (hi0 : ∀ c, hv_i v1 0 c = if c = a then nI t else hv_i v 0 c) (ho1 : hv_i v1 108 (fa 2) = hv_i v 108 (fa 2) + 1)
    (hpo : ∀ f c, f ≠ 7 → hv_p v1 f c = hv_p v f c) (haa : ∀ c j, hv_a v1 c j = hv_a v c j) (hp7 : ∀ c, hv_p v1 7 c = if c = a then none else if hv_q v (fa 6) s = some c then some a else hv_p v 7 c) (hq5 : ∀ j, hv_q v1 (fa 5) j = if j = s ∧ hv_q v (fa 6) s = none then some a else hv_q v (fa 5) j) (hq6 : ∀ j, hv_q v1 (fa 6) j = if j = s then some a else hv_q v (fa 6) j)
    (hqo : ∀ c j, c ≠ fa 5 → c ≠ fa 6 → hv_q v1 c j = hv_q v c j) (hn : hv_n v1 = hv_n v) (ht1 : hv_t v1 = hv_t v) : ci_I fa n w u b d g k hd v1 := by
  obtain ⟨hS, hV, ⟨Sl, Sp, hL, ho⟩, hE⟩ := h
  obtain ⟨Sl', hL', hlen⟩ := ci_app hL hs ht hts hk (fun f c hf => hi f c (by rcases hf with rfl | rfl <;> rfl) (by rcases hf with rfl | rfl <;> decide) (by rcases hf with rfl | rfl <;> decide)) hi0 (hpo _ _ (by decide)) hp7 hq5 hq6
  refine ⟨cs_S_of hS hk (fun f c _ h7 => hpo f c h7) (fun c j h5 h6 => hqo c j h5 h6), ci_V_of hV (fun f c h1 h2 _ _ hf => hi f c hf h1 h2) (fun i j _ => haa _ _), ⟨Sl', Sp, hL', ?_⟩, by rw [hn, ht1]; exact hE⟩
  rw [ho1, ho, hlen]
  exact nI_1 _
theorem ci_popI (h : ci_I fa n w u b d g k hd v) (hz : hv_p v 103 (fa 2) = some a) : ci_I fa n w u b d g k (a :: hd) (hv_sp v 103 (fa 2) (hv_p v 7 a)) := by
  obtain ⟨hS, hV, ⟨Sl, Sp, hL, ho⟩, hE⟩ := h
  obtain ⟨Sp', hL'⟩ := ci_pop hL hz
  exact ⟨cs_S_of hS (fun _ => rfl) (fun f c h1 _ => by rw [hv_sp_p, if_neg (fun q => h1 q.1)]) (fun _ _ _ _ => rfl), ci_V_of hV (fun _ _ _ _ _ _ _ => rfl) (fun _ _ _ => rfl), ⟨Sl, Sp', hL', ho⟩, hE⟩
/-- what the view says of old cells stays when one is made -/
theorem cs_S_nw {kd : Nat × Nat} {w0 : Nat} (hS : cs_S fa n v) (hd0 : ∀ c, (hv_k v c).1 ≠ 0 → c ≠ hv_n v) : cs_S fa n (hv_nw v kd w0) := by
  obtain ⟨h1, h2, h3, h4, h5, h6, h7, h8, p1, p2, p3, p4, p5, p6, r, t, ij⟩ := hS
  have ne : ∀ {c x y : Nat}, hv_k v c = (x + 1, y) → c ≠ hv_n v := fun {c x y} e => hd0 c (by rw [e]; exact Nat.succ_ne_zero x)
  refine ⟨h1, ?_, ?_, ?_, ?_, ?_, ?_, ?_, ?_, ?_, ?_, ?_, ?_, ?_, fun i hi => ?_, fun i hi => ?_, ij⟩
  · rw [hv_nw_k, if_neg (ne h2)]; exact h2
  · rw [hv_nw_k, if_neg (ne h3)]; exact h3
  · rw [hv_nw_k, if_neg (ne h4)]; exact h4
  · rw [hv_nw_k, if_neg (ne h5)]; exact h5
  · rw [hv_nw_k, if_neg (ne h6)]; exact h6
  · rw [hv_nw_k, if_neg (ne h7)]; exact h7
  · rw [hv_nw_k, if_neg (ne h8)]; exact h8
  · rw [hv_nw_p, if_neg (ne h2)]; exact p1
  · rw [hv_nw_p, if_neg (ne h2)]; exact p2
  · rw [hv_nw_p, if_neg (ne h2)]; exact p3
  · rw [hv_nw_p, if_neg (ne h4)]; exact p4
  · rw [hv_nw_p, if_neg (ne h4)]; exact p5
  · rw [hv_nw_p, if_neg (ne h4)]; exact p6
  · rw [hv_nw_q, if_neg (ne h6), hv_nw_k, if_neg (ne (r i hi).2)]; exact r i hi
  · rw [hv_nw_q, if_neg (ne h3), hv_nw_k, if_neg (ne (t i hi).2.1), hv_nw_p, if_neg (ne (t i hi).2.1), hv_nw_k, if_neg (ne (t i hi).2.2.2)]; exact t i hi
theorem ci_V_nw {kd : Nat × Nat} {w0 : Nat} (hS : cs_S fa n v) (hV : ci_V fa n w u b d v) (hd0 : ∀ c, (hv_k v c).1 ≠ 0 → c ≠ hv_n v) : ci_V fa n w u b d (hv_nw v kd w0) := by
  have ne : ∀ {c x y : Nat}, hv_k v c = (x + 1, y) → c ≠ hv_n v := fun {c x y} e => hd0 c (by rw [e]; exact Nat.succ_ne_zero x)
  obtain ⟨h1, h2, h3, h4, h5, h6, h7⟩ := hV
  refine ⟨?_, ?_, ?_, ?_, ?_, fun i j hi hj => ?_, fun i hi => ?_⟩
  · rw [hv_nw_i, if_neg (ne (cs_kX hS))]; exact h1
  · rw [hv_nw_i, if_neg (ne (cs_kX hS))]; exact h2
  · rw [hv_nw_i, if_neg (ne (cs_kX hS))]; exact h3
  · rw [hv_nw_i, if_neg (ne (cs_kX hS))]; exact h4
  · rw [hv_nw_i, if_neg (ne (cs_kN hS))]; exact h5
  · rw [hv_nw_a, if_neg (ne (cs_kR hS hi))]; exact h6 i j hi hj
  · rw [hv_nw_i, hv_nw_i, hv_nw_i, if_neg (ne (cs_ks hS hi)), if_neg (ne (cs_ks hS hi)), if_neg (ne (cs_ks hS hi))]; exact h7 i hi
theorem ci_ch_nw {kd : Nat × Nat} {w0 : Nat} {v : hv_V} {p : Option Nat} {r : List Nat} (h : ∀ c, c ∈ r → c ≠ hv_n v) (hc : ci_ch v p r) : ci_ch (hv_nw v kd w0) p r := ci_chF _ _ (fun c hm => by rw [hv_nw_p, if_neg (h c hm)]) hc
/-- a message is made -/
theorem ci_newI (h : ci_I fa n w u b d g k hd v) (hd0 : ∀ c, (hv_k v c).1 ≠ 0 → c ≠ hv_n v) (h0 : 0 < n) (hsp : hv_p v 103 (fa 2) = none) (hon : hv_i v 108 (fa 2) < 4096) (hh : hd.length ≤ 1) : ci_I fa n w u b d g (k + 1) (hv_n v :: hd) (hv_nw v (1, 0) 8) := by
  obtain ⟨hS, hV, ⟨Sl, Sp, hL, ho⟩, hE⟩ := h
  have ne : ∀ {c x y : Nat}, hv_k v c = (x + 1, y) → c ≠ hv_n v := fun {c x y} e => hd0 c (by rw [e]; exact Nat.succ_ne_zero x)
  obtain ⟨h1, h2, h2', h3, h4, h5⟩ := hL
  rw [hsp] at h4
  have hSp := ci_ch_none h4
  subst hSp
  simp only [List.nil_append] at h1 h2 h3
  have hfl : (ci_fl 32 Sl).length < 4096 := by
    have hb : (ci_fl 32 Sl).length ≤ 4097 := by
      rw [List.length_append] at h2
      omega
    rw [ho] at hon
    exact (nI_ltI (b := 4096) (by omega) (by decide)).mp hon
  have hm : ∀ c, c ∈ hd ++ ci_fl 32 Sl → c ≠ hv_n v := fun c hc => ne (h3 c hc).1
  refine ⟨cs_S_nw hS hd0, ci_V_nw hS hV hd0, ⟨Sl, [], ⟨?_, ?_, ?_, fun c hc => ?_, ?_, fun s hs => ?_⟩, ?_⟩, ?_, ?_⟩
  · simp only [List.nil_append, List.cons_append]
    exact List.nodup_cons.mpr ⟨fun q => hm _ q rfl, h1⟩
  · simp only [List.nil_append, List.cons_append, List.length_cons, h2]
  · rw [List.length_append] at h2
    omega
  · simp only [List.nil_append, List.cons_append, List.mem_cons] at hc
    rcases hc with rfl | hc
    · refine ⟨by rw [hv_nw_k, if_pos rfl], 0, 0, h0, h0, ?_, ?_⟩
      · rw [hv_nw_i, if_pos rfl]; exact nI_0.symm
      · rw [hv_nw_i, if_pos rfl]; exact nI_0.symm
    · rw [hv_nw_k, hv_nw_i, hv_nw_i, if_neg (hm c hc), if_neg (hm c hc), if_neg (hm c hc)]
      exact h3 c hc
  · rw [hv_nw_p, if_neg (ne (cs_kN hS)), hsp]; exact rfl
  · rw [hv_nw_q, hv_nw_q, if_neg (ne (cs_kH hS)), if_neg (ne (cs_kT hS))]
    refine ⟨ci_ch_nw (fun c hc => hm c (List.mem_append_right _ (ci_fl_mem hs hc))) (h5 s hs).1, (h5 s hs).2.1, fun c hc => ?_⟩
    rw [hv_nw_i, if_neg (hm c (List.mem_append_right _ (ci_fl_mem hs hc)))]
    exact (h5 s hs).2.2 c hc
  · rw [hv_nw_i, if_neg (ne (cs_kN hS))]; exact ho
  · rw [hv_nw_n, hE.1]; omega
  · rw [hv_nw_t, hE.2]; omega
/-- whom a held message is from, and to -/
theorem ci_put34 {f : Nat} {i : Nat} (hf : f = 3 ∨ f = 4) (hi : i < n) (h : ci_I fa n w u b d g k hd v) : ci_I fa n w u b d g k hd (hv_si v f a (nI i)) := by
  obtain ⟨hS, hV, ⟨Sl, Sp, hL, ho⟩, hE⟩ := h
  obtain ⟨h1, h2, h2', h3, h4, h5⟩ := hL
  refine ⟨hS, ci_V_of hV (fun e c _ _ e3 e4 _ => by rw [hv_si_i, if_neg (fun q => by rcases hf with rfl | rfl; exact e3 q.1; exact e4 q.1)]) (fun _ _ _ => rfl), ⟨Sl, Sp, ⟨h1, h2, h2', fun c hc => ?_, ci_chE (v := v) (v1 := hv_si v f a (nI i)) (fun _ => rfl) _ _ h4, fun s hs => ⟨ci_chE (v := v) (v1 := hv_si v f a (nI i)) (fun _ => rfl) _ _ (h5 s hs).1, (h5 s hs).2.1, fun c hc => ?_⟩⟩, ?_⟩, hE⟩
  · obtain ⟨g1, f0, t0, g2, g3, g4, g5⟩ := h3 c hc
    refine ⟨g1, ?_⟩
    rcases hf with rfl | rfl
    · by_cases e : c = a
      · exact ⟨i, t0, hi, g3, by rw [hv_si_i, if_pos ⟨rfl, e⟩], by rw [hv_si_i, if_neg (fun q => absurd q.1 (by decide))]; exact g5⟩
      · exact ⟨f0, t0, g2, g3, by rw [hv_si_i, if_neg (fun q => e q.2)]; exact g4, by rw [hv_si_i, if_neg (fun q => absurd q.1 (by decide))]; exact g5⟩
    · by_cases e : c = a
      · exact ⟨f0, i, g2, hi, by rw [hv_si_i, if_neg (fun q => absurd q.1 (by decide))]; exact g4, by rw [hv_si_i, if_pos ⟨rfl, e⟩]⟩
      · exact ⟨f0, t0, g2, g3, by rw [hv_si_i, if_neg (fun q => absurd q.1 (by decide))]; exact g4, by rw [hv_si_i, if_neg (fun q => e q.2)]; exact g5⟩
  · rw [hv_si_i, if_neg (fun q => by rcases hf with rfl | rfl <;> exact absurd q.1 (by decide))]
    exact (h5 s hs).2.2 c hc
  · rw [hv_si_i, if_neg (fun q => by rcases hf with rfl | rfl <;> exact absurd q.1 (by decide))]
    exact ho
end CNT
end
section
set_option maxHeartbeats 4000000 in
set_option maxRecDepth 100000 in
theorem c_msgInit (l : Launch) (D : va_G) (tc : Nat → ClassId) {v : hv_V} {a : Nat} : Met l yX0_init (Cond.code yX0_init cX0_init 1 none :: lw_B) ({ frames := 1, cells := 0, slots := 0, locals := 20 }) (va_Pc [.ref a] (hv_Pre D tc v)) (va_Qv (fun (v1 : hv_V) => v1 = v) (hv_Post D tc (hv_A v)) (hv_A v)) (0) (0) (hv_A v) := by
  refine hv_metv l (by decide) (Nat.le_of_ble_eq_true rfl) ?_
  intro p e s m args below meth c Q X hret hK H locs ls hT hl
  obtain ⟨hx, hb, hml, hts, hown, hin0⟩ := X
  have hown : s.vm.findClass "CommitSites$Message" = some m.cls := hown
  have hl : lv_has ls 1 [(0, .ref a)] := hl
  refine lv_aload_n hx hb dX0_init_0 rfl (lv_at hl 0 rfl) ?_
  refine W.objInit hx hb hown (hts _ (tw_c tw_146)) (hts _ (tw_c tw_12)) (hts _ (tw_c tw_13)) rfl (by rw [hml]; exact hl.1) rfl dX0_init_1 (Nat.le_of_ble_eq_true rfl) (Nat.le_of_ble_eq_true rfl) ?_
  refine W.eq (g2 := F0 m 4 ls []) rfl ?_
  exact hret _ v _ _ _ _ _ dX0_init_4 hT rfl (by decide) (by decide)

set_option maxHeartbeats 4000000 in
set_option maxRecDepth 100000 in
theorem c_keepSpare (l : Launch) (D : va_G) (tc : Nat → ClassId) {fa : Nat → Nat} {n : Nat} {w u : Nat → Nat} {b : Nat} {d : Nat → Nat → Nat} {g : Nat × Nat} {k : Nat} {hd : List Nat} {v : hv_V} {a : Nat} (hI : ci_I fa n w u b d g k (a :: hd) v) : Met l yX1_keepSpare (Cond.code yX1_keepSpare cX1_keepSpare 2 none :: lw_B) ({ frames := 0, cells := 0, slots := 0, locals := 0 }) (va_Pc [.ref (fa 2), .ref a] (hv_Pre D tc v)) (va_Qv (fun (v1 : hv_V) => ci_I fa n w u b d g k hd v1) (hv_Post D tc (hv_A v)) (hv_A v)) (0) (0) (hv_A v) := by
  refine hv_metv l (by decide) (Nat.le_of_ble_eq_true rfl) ?_
  intro p e s m args below meth c Q X hret hK H locs ls hT hl
  obtain ⟨hx, hb, hml, hts, hown, hin0⟩ := X
  have hown : s.vm.findClass "CommitSites$Network" = some m.cls := hown
  have hl : lv_has ls 2 [(0, .ref (fa 2)), (1, .ref a)] := hl
  have hS := hI.1
  have hka := (ci_hdI hI).1
  refine lv_aload_n hx hb dX1_keepSpare_0 rfl (lv_at hl 1 rfl) ?_
  refine lv_aload_n hx hb dX1_keepSpare_1 rfl (lv_at hl 0 rfl) ?_
  refine hv_getr (ci := 1) (C := RX1) (T := TX1) (N := 9) hx hb hts (tw_cs in_X1) hown hK hT (cs_kN hS) (by decide) rfl 3 (by decide) (hts _ (tw_c tw_30)) rfl (x := (hv_p v 103 (fa 2))) rfl dX1_keepSpare_2 ?_
  refine hv_putr (ci := 0) (C := RX0) (T := TX0) (N := 8) hx hb hts (tw_cs in_X0) tyX0 tyX0_ok nmX0 hown hK hT hka (by decide) rfl 7 (by decide) (hts _ (tw_c tw_162)) rfl rfl (hv_p v 103 (fa 2)) rfl (hv_nrf _) (hv_frf _) dX1_keepSpare_5 (fun H locs hT => ?_)
  refine lv_aload_n hx hb dX1_keepSpare_8 rfl (lv_at hl 0 rfl) ?_
  refine lv_aload_n hx hb dX1_keepSpare_9 rfl (lv_at hl 1 rfl) ?_
  refine hv_putr (ci := 1) (C := RX1) (T := TX1) (N := 9) hx hb hts (tw_cs in_X1) tyX1 tyX1_ok nmX1 hown hK hT (cs_kN hS) (by decide) rfl 3 (by decide) (hts _ (tw_c tw_30)) rfl rfl (some a) rfl rfl rfl dX1_keepSpare_10 (fun H locs hT => ?_)
  exact hret _ (hv_sp (hv_sp v 7 a (hv_p v 103 (fa 2))) 103 (fa 2) (some a)) _ _ _ _ _ dX1_keepSpare_13 hT (ci_keepI hI) (by decide) (by decide)

set_option maxHeartbeats 4000000 in
set_option maxRecDepth 100000 in
theorem c_takeOff (l : Launch) (D : va_G) (tc : Nat → ClassId) {fa : Nat → Nat} {n : Nat} {w u : Nat → Nat} {b : Nat} {d : Nat → Nat → Nat} {g : Nat × Nat} {k : Nat} {hd : List Nat} {v : hv_V} (hI : ci_I fa n w u b d g k hd v) {s0 a : Nat} (hs : s0 < 32) (ha : hv_q v (fa 5) s0 = some a) : Met l yX1_takeOff (Cond.code yX1_takeOff cX1_takeOff 3 none :: lw_B) ({ frames := 0, cells := 0, slots := 0, locals := 0 }) (va_Pc [.ref (fa 2), .ref a] (hv_Pre D tc v)) (va_Qv (fun (v1 : hv_V) => ci_I fa n w u b d g k (a :: hd) v1) (hv_Post D tc (hv_A v)) (hv_A v)) (0) (0) (hv_A v) := by
  refine hv_metv l (by decide) (Nat.le_of_ble_eq_true rfl) ?_
  intro p e s m args below meth c Q X hret hK H locs ls hT hl
  obtain ⟨hx, hb, hml, hts, hown, hin0⟩ := X
  have hown : s.vm.findClass "CommitSites$Network" = some m.cls := hown
  have hl : lv_has ls 3 [(0, .ref (fa 2)), (1, .ref a)] := hl
  have hS := hI.1
  obtain ⟨hka, -, ⟨t, ht4, hts0, htm⟩, hzk⟩ := ci_headI hI hs ha
  refine lv_aload_n hx hb dX1_takeOff_0 rfl (lv_at hl 1 rfl) ?_
  refine hv_geti (ci := 0) (C := RX0) (T := TX0) (N := 8) hx hb hts (tw_cs in_X0) hown hK hT hka (by decide) rfl 0 (by decide) (hts _ (tw_c tw_147)) rfl dX1_takeOff_1 ?_
  refine lv_topi (fun g1 eg1 => ?_)
  refine lv_bipush (v := 32) hx hb dX1_takeOff_4 (by decide) ?_
  refine lv_irem hx hb dX1_takeOff_6 (by decide) ?_
  refine hv_as (x := (g1 - g1 / 32 * 32)) (y := (nI s0)) (by rw [eg1, htm]; exact cs_rem ht4 hts0) ?_
  refine lv_istore_n (lv' := [(2, _), (0, _), (1, _)]) hx hb dX1_takeOff_7 rfl hl (by decide) rfl (fun ls hl => ?_)
  cases hnx : hv_p v 7 a with
  | none =>
    skip
    refine lv_aload_n hx hb dX1_takeOff_8 rfl (lv_at hl 1 rfl) ?_
    refine hv_gets (ci := 1) (C := RX1) (T := TX1) (N := 9) hx hb hts (tw_cs in_X1) hown hK hT (cs_kN hS) (by decide) rfl 1 (by decide) (hts _ (tw_c tw_28)) rfl (x := (fa 5)) (cs_pH hS) dX1_takeOff_9 ?_
    refine lv_iload_n hx hb dX1_takeOff_12 rfl (lv_at hl 0 rfl) ?_
    refine lv_aload_n hx hb dX1_takeOff_13 rfl (lv_at hl 2 rfl) ?_
    refine hv_getn (ci := 0) (C := RX0) (T := TX0) (N := 8) hx hb hts (tw_cs in_X0) hown hK hT hka (by decide) rfl 7 (by decide) (hts _ (tw_c tw_162)) rfl hnx dX1_takeOff_14 ?_
    refine hv_aastN (t := 1) hx hb hK hT (cs_kH hS) rfl (cs_in32 hs) dX1_takeOff_17 (fun H locs hT => ?_)
    have hS0 := hS; have hS : cs_S fa n (hv_sq v (fa 5) ((nI s0) : Int32).toNatClampNeg none) := cs_S_sq5 hS
    refine lv_aload_n hx hb dX1_takeOff_18 rfl (lv_at hl 2 rfl) ?_
    refine hv_getn (ci := 0) (C := RX0) (T := TX0) (N := 8) hx hb hts (tw_cs in_X0) hown hK hT hka (by decide) rfl 7 (by decide) (hts _ (tw_c tw_162)) rfl hnx dX1_takeOff_19 ?_
    refine lv_ifnonnullN hx hb dX1_takeOff_22 ?_
    refine lv_aload_n hx hb dX1_takeOff_25 rfl (lv_at hl 1 rfl) ?_
    refine hv_gets (ci := 1) (C := RX1) (T := TX1) (N := 9) hx hb hts (tw_cs in_X1) hown hK hT (cs_kN hS) (by decide) rfl 2 (by decide) (hts _ (tw_c tw_29)) rfl (x := (fa 6)) (cs_pT hS) dX1_takeOff_26 ?_
    refine lv_iload_n hx hb dX1_takeOff_29 rfl (lv_at hl 0 rfl) ?_
    refine lv_null hx hb dX1_takeOff_30 ?_
    refine hv_aastN (t := 1) hx hb hK hT (cs_kT hS) rfl (cs_in32 hs) dX1_takeOff_31 (fun H locs hT => ?_)
    have hS : cs_S fa n (hv_sq (hv_sq v (fa 5) ((nI s0) : Int32).toNatClampNeg none) (fa 6) ((nI s0) : Int32).toNatClampNeg none) := cs_S_sq6 hS
    refine lv_aload_n hx hb dX1_takeOff_32 rfl (lv_at hl 1 rfl) ?_
    refine lv_dup hx hb dX1_takeOff_33 rfl ?_
    refine hv_geti (ci := 1) (C := RX1) (T := TX1) (N := 9) hx hb hts (tw_cs in_X1) hown hK hT (cs_kN hS) (by decide) rfl 8 (by decide) (hts _ (tw_c tw_38)) rfl dX1_takeOff_34 ?_
    refine lv_topi (fun g2 eg2 => ?_)
    refine lv_iconst (v := 1) hx hb dX1_takeOff_37 (by decide) ?_
    refine lv_isub hx hb dX1_takeOff_38 ?_
    refine hv_puti (ci := 1) (C := RX1) (T := TX1) (N := 9) hx hb hts (tw_cs in_X1) tyX1 tyX1_ok nmX1 hown hK hT (cs_kN hS) (by decide) rfl 8 (by decide) (hts _ (tw_c tw_38)) rfl rfl (x := (g2 - 1)) rfl rfl dX1_takeOff_39 (fun H locs hT => ?_)
    exact hret _ (hv_si (hv_sq (hv_sq v (fa 5) ((nI s0) : Int32).toNatClampNeg none) (fa 6) ((nI s0) : Int32).toNatClampNeg none) 108 (fa 2) (g2 - 1)) _ _ _ _ _ dX1_takeOff_42 hT (ci_takeI hI hs ha (fun _ => rfl) (fun f c hf => by simp [hv_si_i, hv_si_k, hv_si_p, hv_si_a, hv_si_q, hv_sp_i, hv_sp_k, hv_sp_p, hv_sp_a, hv_sp_q, hv_sa_i, hv_sa_k, hv_sa_p, hv_sa_a, hv_sa_q, hv_sq_i, hv_sq_k, hv_sq_p, hv_sq_a, hv_sq_q, hf]) (by simp [hv_si_i, hv_si_k, hv_si_p, hv_si_a, hv_si_q, hv_sp_i, hv_sp_k, hv_sp_p, hv_sp_a, hv_sp_q, hv_sa_i, hv_sa_k, hv_sa_p, hv_sa_a, hv_sa_q, hv_sq_i, hv_sq_k, hv_sq_p, hv_sq_a, hv_sq_q]; rw [eg2]; simp [hv_si_i, hv_si_k, hv_si_p, hv_si_a, hv_si_q, hv_sp_i, hv_sp_k, hv_sp_p, hv_sp_a, hv_sp_q, hv_sa_i, hv_sa_k, hv_sa_p, hv_sa_a, hv_sa_q, hv_sq_i, hv_sq_k, hv_sq_p, hv_sq_a, hv_sq_q]) (fun _ _ => rfl) (fun _ _ => rfl) (fun j => by simp [hv_si_i, hv_si_k, hv_si_p, hv_si_a, hv_si_q, hv_sp_i, hv_sp_k, hv_sp_p, hv_sp_a, hv_sp_q, hv_sa_i, hv_sa_k, hv_sa_p, hv_sa_a, hv_sa_q, hv_sq_i, hv_sq_k, hv_sq_p, hv_sq_a, hv_sq_q, cs_cl32 hs, hnx, ci_56 hS]) (fun j => by simp [hv_si_i, hv_si_k, hv_si_p, hv_si_a, hv_si_q, hv_sp_i, hv_sp_k, hv_sp_p, hv_sp_a, hv_sp_q, hv_sa_i, hv_sa_k, hv_sa_p, hv_sa_a, hv_sa_q, hv_sq_i, hv_sq_k, hv_sq_p, hv_sq_a, hv_sq_q, cs_cl32 hs, hnx, (ci_56 hS).symm]) (fun c j h5 h6 => by simp [hv_si_i, hv_si_k, hv_si_p, hv_si_a, hv_si_q, hv_sp_i, hv_sp_k, hv_sp_p, hv_sp_a, hv_sp_q, hv_sa_i, hv_sa_k, hv_sa_p, hv_sa_a, hv_sa_q, hv_sq_i, hv_sq_k, hv_sq_p, hv_sq_a, hv_sq_q, h5, h6]) rfl rfl) (by decide) (by decide)
  | some z =>
    skip
    have hzk := hzk z hnx
    refine lv_aload_n hx hb dX1_takeOff_8 rfl (lv_at hl 1 rfl) ?_
    refine hv_gets (ci := 1) (C := RX1) (T := TX1) (N := 9) hx hb hts (tw_cs in_X1) hown hK hT (cs_kN hS) (by decide) rfl 1 (by decide) (hts _ (tw_c tw_28)) rfl (x := (fa 5)) (cs_pH hS) dX1_takeOff_9 ?_
    refine lv_iload_n hx hb dX1_takeOff_12 rfl (lv_at hl 0 rfl) ?_
    refine lv_aload_n hx hb dX1_takeOff_13 rfl (lv_at hl 2 rfl) ?_
    refine hv_gets (ci := 0) (C := RX0) (T := TX0) (N := 8) hx hb hts (tw_cs in_X0) hown hK hT hka (by decide) rfl 7 (by decide) (hts _ (tw_c tw_162)) rfl (x := z) hnx dX1_takeOff_14 ?_
    refine hv_aast (t := 1) (ci := 0) (r := (RX0, TX0, 8)) hx hb hK hT (cs_kH hS) rfl hzk (by decide) rfl (cs_in32 hs) dX1_takeOff_17 (fun H locs hT => ?_)
    have hS0 := hS; have hS : cs_S fa n (hv_sq v (fa 5) ((nI s0) : Int32).toNatClampNeg (some z)) := cs_S_sq5 hS
    refine lv_aload_n hx hb dX1_takeOff_18 rfl (lv_at hl 2 rfl) ?_
    refine hv_gets (ci := 0) (C := RX0) (T := TX0) (N := 8) hx hb hts (tw_cs in_X0) hown hK hT hka (by decide) rfl 7 (by decide) (hts _ (tw_c tw_162)) rfl (x := z) hnx dX1_takeOff_19 ?_
    refine lv_ifnonnull (tgt := 32) hx hb dX1_takeOff_22 (by decide) ?_
    refine lv_aload_n hx hb dX1_takeOff_32 rfl (lv_at hl 1 rfl) ?_
    refine lv_dup hx hb dX1_takeOff_33 rfl ?_
    refine hv_geti (ci := 1) (C := RX1) (T := TX1) (N := 9) hx hb hts (tw_cs in_X1) hown hK hT (cs_kN hS) (by decide) rfl 8 (by decide) (hts _ (tw_c tw_38)) rfl dX1_takeOff_34 ?_
    refine lv_topi (fun g3 eg3 => ?_)
    refine lv_iconst (v := 1) hx hb dX1_takeOff_37 (by decide) ?_
    refine lv_isub hx hb dX1_takeOff_38 ?_
    refine hv_puti (ci := 1) (C := RX1) (T := TX1) (N := 9) hx hb hts (tw_cs in_X1) tyX1 tyX1_ok nmX1 hown hK hT (cs_kN hS) (by decide) rfl 8 (by decide) (hts _ (tw_c tw_38)) rfl rfl (x := (g3 - 1)) rfl rfl dX1_takeOff_39 (fun H locs hT => ?_)
    exact hret _ (hv_si (hv_sq v (fa 5) ((nI s0) : Int32).toNatClampNeg (some z)) 108 (fa 2) (g3 - 1)) _ _ _ _ _ dX1_takeOff_42 hT (ci_takeI hI hs ha (fun _ => rfl) (fun f c hf => by simp [hv_si_i, hv_si_k, hv_si_p, hv_si_a, hv_si_q, hv_sp_i, hv_sp_k, hv_sp_p, hv_sp_a, hv_sp_q, hv_sa_i, hv_sa_k, hv_sa_p, hv_sa_a, hv_sa_q, hv_sq_i, hv_sq_k, hv_sq_p, hv_sq_a, hv_sq_q, hf]) (by simp [hv_si_i, hv_si_k, hv_si_p, hv_si_a, hv_si_q, hv_sp_i, hv_sp_k, hv_sp_p, hv_sp_a, hv_sp_q, hv_sa_i, hv_sa_k, hv_sa_p, hv_sa_a, hv_sa_q, hv_sq_i, hv_sq_k, hv_sq_p, hv_sq_a, hv_sq_q]; rw [eg3]; simp [hv_si_i, hv_si_k, hv_si_p, hv_si_a, hv_si_q, hv_sp_i, hv_sp_k, hv_sp_p, hv_sp_a, hv_sp_q, hv_sa_i, hv_sa_k, hv_sa_p, hv_sa_a, hv_sa_q, hv_sq_i, hv_sq_k, hv_sq_p, hv_sq_a, hv_sq_q]) (fun _ _ => rfl) (fun _ _ => rfl) (fun j => by simp [hv_si_i, hv_si_k, hv_si_p, hv_si_a, hv_si_q, hv_sp_i, hv_sp_k, hv_sp_p, hv_sp_a, hv_sp_q, hv_sa_i, hv_sa_k, hv_sa_p, hv_sa_a, hv_sa_q, hv_sq_i, hv_sq_k, hv_sq_p, hv_sq_a, hv_sq_q, cs_cl32 hs, hnx, ci_56 hS]) (fun j => by simp [hv_si_i, hv_si_k, hv_si_p, hv_si_a, hv_si_q, hv_sp_i, hv_sp_k, hv_sp_p, hv_sp_a, hv_sp_q, hv_sa_i, hv_sa_k, hv_sa_p, hv_sa_a, hv_sa_q, hv_sq_i, hv_sq_k, hv_sq_p, hv_sq_a, hv_sq_q, cs_cl32 hs, hnx, (ci_56 hS).symm]) (fun c j h5 h6 => by simp [hv_si_i, hv_si_k, hv_si_p, hv_si_a, hv_si_q, hv_sp_i, hv_sp_k, hv_sp_p, hv_sp_a, hv_sp_q, hv_sa_i, hv_sa_k, hv_sa_p, hv_sa_a, hv_sa_q, hv_sq_i, hv_sq_k, hv_sq_p, hv_sq_a, hv_sq_q, h5, h6]) rfl rfl) (by decide) (by decide)

theorem ci_fr5 {f : Nat} (h : ci_free f = false) : f ≠ 105 := fun e => by rw [e] at h; cases h
theorem ci_fr6 {f : Nat} (h : ci_free f = false) : f ≠ 1 := fun e => by rw [e] at h; cases h

set_option maxHeartbeats 4000000 in
set_option maxRecDepth 100000 in
theorem c_putOn (l : Launch) (D : va_G) (tc : Nat → ClassId) {fa : Nat → Nat} {n : Nat} {w u : Nat → Nat} {b : Nat} {d : Nat → Nat → Nat} {g : Nat × Nat} {k : Nat} {hd : List Nat} {v : hv_V} {a : Nat} (hI : ci_I fa n w u b d g k (a :: hd) v) : Met l yX1_putOn (Cond.code yX1_putOn cX1_putOn 3 none :: lw_B) ({ frames := 0, cells := 0, slots := 0, locals := 0 }) (va_Pc [.ref (fa 2), .ref a] (hv_Pre D tc v)) (va_Qv (fun (v1 : hv_V) => ci_I fa n w u b d g k hd v1) (hv_Post D tc (hv_A v)) (hv_A v)) (0) (0) (hv_A v) := by
  refine hv_metv l (by decide) (Nat.le_of_ble_eq_true rfl) ?_
  intro p e s m args below meth c Q X hret hK H locs ls hT hl
  obtain ⟨hx, hb, hml, hts, hown, hin0⟩ := X
  have hown : s.vm.findClass "CommitSites$Network" = some m.cls := hown
  have hl : lv_has ls 3 [(0, .ref (fa 2)), (1, .ref a)] := hl
  have hS := hI.1
  obtain ⟨hka, f0, t0, hf0, ht0, h3, h4⟩ := ci_hdI hI
  obtain ⟨t, ht4, ht⟩ := hI.2.1.2.2.2.2.1
  have hdl := hI.2.1.2.2.2.2.2.1
  have hd20 := (hdl f0 t0 (cs_lt8 hS hf0) (cs_lt8 hS ht0)).1
  have hsum : t + d f0 t0 ≤ 4020 := by omega
  have hs32 : (t + d f0 t0) % 32 < 32 := Nat.mod_lt _ (by decide)
  refine lv_aload_n hx hb dX1_putOn_0 rfl (lv_at hl 1 rfl) ?_
  refine lv_aload_n hx hb dX1_putOn_1 rfl (lv_at hl 0 rfl) ?_
  refine hv_geti (ci := 1) (C := RX1) (T := TX1) (N := 9) hx hb hts (tw_cs in_X1) hown hK hT (cs_kN hS) (by decide) rfl 4 (by decide) (hts _ (tw_c tw_31)) rfl dX1_putOn_2 ?_
  refine lv_topi (fun g1 eg1 => ?_)
  have eg1 : g1 = (nI t) := by rw [eg1]; exact ht
  subst eg1
  refine lv_aload_n hx hb dX1_putOn_5 rfl (lv_at hl 0 rfl) ?_
  refine hv_gets (ci := 1) (C := RX1) (T := TX1) (N := 9) hx hb hts (tw_cs in_X1) hown hK hT (cs_kN hS) (by decide) rfl 0 (by decide) (hts _ (tw_c tw_26)) rfl (x := (fa 4)) (cs_pD hS) dX1_putOn_6 ?_
  refine lv_aload_n hx hb dX1_putOn_9 rfl (lv_at hl 1 rfl) ?_
  refine hv_geti (ci := 0) (C := RX0) (T := TX0) (N := 8) hx hb hts (tw_cs in_X0) hown hK hT hka (by decide) rfl 3 (by decide) (hts _ (tw_c tw_154)) rfl dX1_putOn_10 ?_
  refine lv_topi (fun g2 eg2 => ?_)
  have eg2 : g2 = (nI f0) := by rw [eg2]; exact h3
  subst eg2
  refine hv_alds (t := 2) hx hb hK hT (cs_kD hS) rfl rfl (cs_in8 (cs_lt8 hS hf0)) (x := (fa (8 + f0))) (cs_qD hS (cs_lt8 hS hf0)) dX1_putOn_13 ?_
  refine lv_aload_n hx hb dX1_putOn_14 rfl (lv_at hl 1 rfl) ?_
  refine hv_geti (ci := 0) (C := RX0) (T := TX0) (N := 8) hx hb hts (tw_cs in_X0) hown hK hT hka (by decide) rfl 4 (by decide) (hts _ (tw_c tw_156)) rfl dX1_putOn_15 ?_
  refine lv_topi (fun g3 eg3 => ?_)
  have eg3 : g3 = (nI t0) := by rw [eg3]; exact h4
  subst eg3
  refine hv_iald hx hb hK hT (cs_kR hS (cs_lt8 hS hf0)) (cs_in8 (cs_lt8 hS ht0)) dX1_putOn_18 ?_
  refine lv_topi (fun g4 eg4 => ?_)
  have eg4 : g4 = (nI (d f0 t0)) := by rw [eg4]; rw [cs_cl (cs_lt8 hS ht0)]; exact (hdl f0 t0 (cs_lt8 hS hf0) (cs_lt8 hS ht0)).2
  subst eg4
  refine lv_iadd hx hb dX1_putOn_19 ?_
  refine hv_as (x := ((nI t) + (nI (d f0 t0)))) (y := (nI (t + d f0 t0))) (nI_add _ _) ?_
  refine hv_puti (ci := 0) (C := RX0) (T := TX0) (N := 8) hx hb hts (tw_cs in_X0) tyX0 tyX0_ok nmX0 hown hK hT hka (by decide) rfl 0 (by decide) (hts _ (tw_c tw_147)) rfl rfl (x := (nI (t + d f0 t0))) rfl rfl dX1_putOn_20 (fun H locs hT => ?_)
  refine lv_aload_n hx hb dX1_putOn_23 rfl (lv_at hl 1 rfl) ?_
  refine lv_aload_n hx hb dX1_putOn_24 rfl (lv_at hl 0 rfl) ?_
  refine lv_dup hx hb dX1_putOn_25 rfl ?_
  refine hv_geti (ci := 1) (C := RX1) (T := TX1) (N := 9) hx hb hts (tw_cs in_X1) hown hK hT (cs_kN hS) (by decide) rfl 5 (by decide) (hts _ (tw_c tw_33)) rfl dX1_putOn_26 ?_
  refine lv_topi (fun g5 eg5 => ?_)
  refine lv_dup_x1 hx hb dX1_putOn_29 rfl rfl ?_
  refine lv_iconst (v := 1) hx hb dX1_putOn_30 (by decide) ?_
  refine lv_iadd hx hb dX1_putOn_31 ?_
  refine hv_puti (ci := 1) (C := RX1) (T := TX1) (N := 9) hx hb hts (tw_cs in_X1) tyX1 tyX1_ok nmX1 hown hK hT (cs_kN hS) (by decide) rfl 5 (by decide) (hts _ (tw_c tw_33)) rfl rfl (x := (g5 + 1)) rfl rfl dX1_putOn_32 (fun H locs hT => ?_)
  refine hv_puti (ci := 0) (C := RX0) (T := TX0) (N := 8) hx hb hts (tw_cs in_X0) tyX0 tyX0_ok nmX0 hown hK hT hka (by decide) rfl 1 (by decide) (hts _ (tw_c tw_150)) rfl rfl (x := g5) rfl rfl dX1_putOn_35 (fun H locs hT => ?_)
  refine lv_aload_n hx hb dX1_putOn_38 rfl (lv_at hl 1 rfl) ?_
  refine lv_null hx hb dX1_putOn_39 ?_
  refine hv_putr (ci := 0) (C := RX0) (T := TX0) (N := 8) hx hb hts (tw_cs in_X0) tyX0 tyX0_ok nmX0 hown hK hT hka (by decide) rfl 7 (by decide) (hts _ (tw_c tw_162)) rfl rfl none rfl rfl rfl dX1_putOn_40 (fun H locs hT => ?_)
  refine lv_aload_n hx hb dX1_putOn_43 rfl (lv_at hl 1 rfl) ?_
  refine hv_geti (ci := 0) (C := RX0) (T := TX0) (N := 8) hx hb hts (tw_cs in_X0) hown hK hT hka (by decide) rfl 0 (by decide) (hts _ (tw_c tw_147)) rfl dX1_putOn_44 ?_
  refine lv_topi (fun g6 eg6 => ?_)
  have eg6 : g6 = (nI (t + d f0 t0)) := by rw [eg6]; simp [hv_si_i, hv_si_k, hv_si_p, hv_si_a, hv_si_q, hv_sp_i, hv_sp_k, hv_sp_p, hv_sp_a, hv_sp_q, hv_sa_i, hv_sa_k, hv_sa_p, hv_sa_a, hv_sa_q, hv_sq_i, hv_sq_k, hv_sq_p, hv_sq_a, hv_sq_q]
  subst eg6
  refine lv_bipush (v := 32) hx hb dX1_putOn_47 (by decide) ?_
  refine lv_irem hx hb dX1_putOn_49 (by decide) ?_
  refine hv_as (x := ((nI (t + d f0 t0)) - (nI (t + d f0 t0)) / 32 * 32)) (y := (nI ((t + d f0 t0) % 32))) (cs_rem hsum rfl) ?_
  refine lv_istore_n (lv' := [(2, _), (0, _), (1, _)]) hx hb dX1_putOn_50 rfl hl (by decide) rfl (fun ls hl => ?_)
  cases htl : hv_q v (fa 6) ((t + d f0 t0) % 32) with
  | none =>
    skip
    refine lv_aload_n hx hb dX1_putOn_51 rfl (lv_at hl 1 rfl) ?_
    refine hv_gets (ci := 1) (C := RX1) (T := TX1) (N := 9) hx hb hts (tw_cs in_X1) hown hK hT (cs_kN hS) (by decide) rfl 2 (by decide) (hts _ (tw_c tw_29)) rfl (x := (fa 6)) (cs_pT hS) dX1_putOn_52 ?_
    refine lv_iload_n hx hb dX1_putOn_55 rfl (lv_at hl 0 rfl) ?_
    refine hv_aldn (t := 1) hx hb hK hT (cs_kT hS) rfl rfl (cs_in32 hs32) (by rw [cs_cl32 hs32]; exact htl) dX1_putOn_56 ?_
    refine lv_ifnonnullN hx hb dX1_putOn_57 ?_
    refine lv_aload_n hx hb dX1_putOn_60 rfl (lv_at hl 1 rfl) ?_
    refine hv_gets (ci := 1) (C := RX1) (T := TX1) (N := 9) hx hb hts (tw_cs in_X1) hown hK hT (cs_kN hS) (by decide) rfl 1 (by decide) (hts _ (tw_c tw_28)) rfl (x := (fa 5)) (cs_pH hS) dX1_putOn_61 ?_
    refine lv_iload_n hx hb dX1_putOn_64 rfl (lv_at hl 0 rfl) ?_
    refine lv_aload_n hx hb dX1_putOn_65 rfl (lv_at hl 2 rfl) ?_
    refine hv_aast (t := 1) (ci := 0) (r := (RX0, TX0, 8)) hx hb hK hT (cs_kH hS) rfl hka (by decide) rfl (cs_in32 hs32) dX1_putOn_66 (fun H locs hT => ?_)
    have hS : cs_S fa n (hv_sq (hv_sp (hv_si (hv_si (hv_si v 0 a (nI (t + d f0 t0))) 105 (fa 2) (g5 + 1)) 1 a g5) 7 a none) (fa 5) ((nI ((t + d f0 t0) % 32)) : Int32).toNatClampNeg (some a)) := cs_S_sq5 hS
    refine lv_goto (tgt := 80) hx hb dX1_putOn_67 (by decide) ?_
    refine lv_aload_n hx hb dX1_putOn_80 rfl (lv_at hl 1 rfl) ?_
    refine hv_gets (ci := 1) (C := RX1) (T := TX1) (N := 9) hx hb hts (tw_cs in_X1) hown hK hT (cs_kN hS) (by decide) rfl 2 (by decide) (hts _ (tw_c tw_29)) rfl (x := (fa 6)) (cs_pT hS) dX1_putOn_81 ?_
    refine lv_iload_n hx hb dX1_putOn_84 rfl (lv_at hl 0 rfl) ?_
    refine lv_aload_n hx hb dX1_putOn_85 rfl (lv_at hl 2 rfl) ?_
    refine hv_aast (t := 1) (ci := 0) (r := (RX0, TX0, 8)) hx hb hK hT (cs_kT hS) rfl hka (by decide) rfl (cs_in32 hs32) dX1_putOn_86 (fun H locs hT => ?_)
    have hS : cs_S fa n (hv_sq (hv_sq (hv_sp (hv_si (hv_si (hv_si v 0 a (nI (t + d f0 t0))) 105 (fa 2) (g5 + 1)) 1 a g5) 7 a none) (fa 5) ((nI ((t + d f0 t0) % 32)) : Int32).toNatClampNeg (some a)) (fa 6) ((nI ((t + d f0 t0) % 32)) : Int32).toNatClampNeg (some a)) := cs_S_sq6 hS
    refine lv_aload_n hx hb dX1_putOn_87 rfl (lv_at hl 1 rfl) ?_
    refine lv_dup hx hb dX1_putOn_88 rfl ?_
    refine hv_geti (ci := 1) (C := RX1) (T := TX1) (N := 9) hx hb hts (tw_cs in_X1) hown hK hT (cs_kN hS) (by decide) rfl 8 (by decide) (hts _ (tw_c tw_38)) rfl dX1_putOn_89 ?_
    refine lv_topi (fun g7 eg7 => ?_)
    refine lv_iconst (v := 1) hx hb dX1_putOn_92 (by decide) ?_
    refine lv_iadd hx hb dX1_putOn_93 ?_
    refine hv_puti (ci := 1) (C := RX1) (T := TX1) (N := 9) hx hb hts (tw_cs in_X1) tyX1 tyX1_ok nmX1 hown hK hT (cs_kN hS) (by decide) rfl 8 (by decide) (hts _ (tw_c tw_38)) rfl rfl (x := (g7 + 1)) rfl rfl dX1_putOn_94 (fun H locs hT => ?_)
    exact hret _ (hv_si (hv_sq (hv_sq (hv_sp (hv_si (hv_si (hv_si v 0 a (nI (t + d f0 t0))) 105 (fa 2) (g5 + 1)) 1 a g5) 7 a none) (fa 5) ((nI ((t + d f0 t0) % 32)) : Int32).toNatClampNeg (some a)) (fa 6) ((nI ((t + d f0 t0) % 32)) : Int32).toNatClampNeg (some a)) 108 (fa 2) (g7 + 1)) _ _ _ _ _ dX1_putOn_97 hT (ci_appI hI hsum rfl hs32 (fun _ => rfl) (fun f c h1 h2 h3 => by have e5 := ci_fr5 h1; have e6 := ci_fr6 h1; simp [hv_si_i, hv_si_k, hv_si_p, hv_si_a, hv_si_q, hv_sp_i, hv_sp_k, hv_sp_p, hv_sp_a, hv_sp_q, hv_sa_i, hv_sa_k, hv_sa_p, hv_sa_a, hv_sa_q, hv_sq_i, hv_sq_k, hv_sq_p, hv_sq_a, hv_sq_q, h2, h3, e5, e6]) (fun c => by simp [hv_si_i, hv_si_k, hv_si_p, hv_si_a, hv_si_q, hv_sp_i, hv_sp_k, hv_sp_p, hv_sp_a, hv_sp_q, hv_sa_i, hv_sa_k, hv_sa_p, hv_sa_a, hv_sa_q, hv_sq_i, hv_sq_k, hv_sq_p, hv_sq_a, hv_sq_q]) (by simp [hv_si_i, hv_si_k, hv_si_p, hv_si_a, hv_si_q, hv_sp_i, hv_sp_k, hv_sp_p, hv_sp_a, hv_sp_q, hv_sa_i, hv_sa_k, hv_sa_p, hv_sa_a, hv_sa_q, hv_sq_i, hv_sq_k, hv_sq_p, hv_sq_a, hv_sq_q]; rw [eg7]; simp [hv_si_i, hv_si_k, hv_si_p, hv_si_a, hv_si_q, hv_sp_i, hv_sp_k, hv_sp_p, hv_sp_a, hv_sp_q, hv_sa_i, hv_sa_k, hv_sa_p, hv_sa_a, hv_sa_q, hv_sq_i, hv_sq_k, hv_sq_p, hv_sq_a, hv_sq_q]) (fun f c h7 => by simp [hv_si_i, hv_si_k, hv_si_p, hv_si_a, hv_si_q, hv_sp_i, hv_sp_k, hv_sp_p, hv_sp_a, hv_sp_q, hv_sa_i, hv_sa_k, hv_sa_p, hv_sa_a, hv_sa_q, hv_sq_i, hv_sq_k, hv_sq_p, hv_sq_a, hv_sq_q, h7]) (fun _ _ => rfl) (fun c => by simp [hv_si_i, hv_si_k, hv_si_p, hv_si_a, hv_si_q, hv_sp_i, hv_sp_k, hv_sp_p, hv_sp_a, hv_sp_q, hv_sa_i, hv_sa_k, hv_sa_p, hv_sa_a, hv_sa_q, hv_sq_i, hv_sq_k, hv_sq_p, hv_sq_a, hv_sq_q, htl]) (fun j => by simp [hv_si_i, hv_si_k, hv_si_p, hv_si_a, hv_si_q, hv_sp_i, hv_sp_k, hv_sp_p, hv_sp_a, hv_sp_q, hv_sa_i, hv_sa_k, hv_sa_p, hv_sa_a, hv_sa_q, hv_sq_i, hv_sq_k, hv_sq_p, hv_sq_a, hv_sq_q, cs_cl32 hs32, htl, ci_56 hS]) (fun j => by simp [hv_si_i, hv_si_k, hv_si_p, hv_si_a, hv_si_q, hv_sp_i, hv_sp_k, hv_sp_p, hv_sp_a, hv_sp_q, hv_sa_i, hv_sa_k, hv_sa_p, hv_sa_a, hv_sa_q, hv_sq_i, hv_sq_k, hv_sq_p, hv_sq_a, hv_sq_q, cs_cl32 hs32, htl, (ci_56 hS).symm]) (fun c j h5 h6 => by simp [hv_si_i, hv_si_k, hv_si_p, hv_si_a, hv_si_q, hv_sp_i, hv_sp_k, hv_sp_p, hv_sp_a, hv_sp_q, hv_sa_i, hv_sa_k, hv_sa_p, hv_sa_a, hv_sa_q, hv_sq_i, hv_sq_k, hv_sq_p, hv_sq_a, hv_sq_q, h5, h6]) rfl rfl) (by decide) (by decide)
  | some z =>
    skip
    have hzk := ci_tailI hI hs32 htl
    have hza := ci_tailne hI hs32 htl
    refine lv_aload_n hx hb dX1_putOn_51 rfl (lv_at hl 1 rfl) ?_
    refine hv_gets (ci := 1) (C := RX1) (T := TX1) (N := 9) hx hb hts (tw_cs in_X1) hown hK hT (cs_kN hS) (by decide) rfl 2 (by decide) (hts _ (tw_c tw_29)) rfl (x := (fa 6)) (cs_pT hS) dX1_putOn_52 ?_
    refine lv_iload_n hx hb dX1_putOn_55 rfl (lv_at hl 0 rfl) ?_
    refine hv_alds (t := 1) hx hb hK hT (cs_kT hS) rfl rfl (cs_in32 hs32) (x := z) (by rw [cs_cl32 hs32]; exact htl) dX1_putOn_56 ?_
    refine lv_ifnonnull (tgt := 70) hx hb dX1_putOn_57 (by decide) ?_
    refine lv_aload_n hx hb dX1_putOn_70 rfl (lv_at hl 1 rfl) ?_
    refine hv_gets (ci := 1) (C := RX1) (T := TX1) (N := 9) hx hb hts (tw_cs in_X1) hown hK hT (cs_kN hS) (by decide) rfl 2 (by decide) (hts _ (tw_c tw_29)) rfl (x := (fa 6)) (cs_pT hS) dX1_putOn_71 ?_
    refine lv_iload_n hx hb dX1_putOn_74 rfl (lv_at hl 0 rfl) ?_
    refine hv_alds (t := 1) hx hb hK hT (cs_kT hS) rfl rfl (cs_in32 hs32) (x := z) (by rw [cs_cl32 hs32]; exact htl) dX1_putOn_75 ?_
    refine lv_aload_n hx hb dX1_putOn_76 rfl (lv_at hl 2 rfl) ?_
    refine hv_putr (ci := 0) (C := RX0) (T := TX0) (N := 8) hx hb hts (tw_cs in_X0) tyX0 tyX0_ok nmX0 hown hK hT hzk (by decide) rfl 7 (by decide) (hts _ (tw_c tw_162)) rfl rfl (some a) rfl rfl rfl dX1_putOn_77 (fun H locs hT => ?_)
    refine lv_aload_n hx hb dX1_putOn_80 rfl (lv_at hl 1 rfl) ?_
    refine hv_gets (ci := 1) (C := RX1) (T := TX1) (N := 9) hx hb hts (tw_cs in_X1) hown hK hT (cs_kN hS) (by decide) rfl 2 (by decide) (hts _ (tw_c tw_29)) rfl (x := (fa 6)) (cs_pT hS) dX1_putOn_81 ?_
    refine lv_iload_n hx hb dX1_putOn_84 rfl (lv_at hl 0 rfl) ?_
    refine lv_aload_n hx hb dX1_putOn_85 rfl (lv_at hl 2 rfl) ?_
    refine hv_aast (t := 1) (ci := 0) (r := (RX0, TX0, 8)) hx hb hK hT (cs_kT hS) rfl hka (by decide) rfl (cs_in32 hs32) dX1_putOn_86 (fun H locs hT => ?_)
    have hS : cs_S fa n (hv_sq (hv_sp (hv_sp (hv_si (hv_si (hv_si v 0 a (nI (t + d f0 t0))) 105 (fa 2) (g5 + 1)) 1 a g5) 7 a none) 7 z (some a)) (fa 6) ((nI ((t + d f0 t0) % 32)) : Int32).toNatClampNeg (some a)) := cs_S_sq6 hS
    refine lv_aload_n hx hb dX1_putOn_87 rfl (lv_at hl 1 rfl) ?_
    refine lv_dup hx hb dX1_putOn_88 rfl ?_
    refine hv_geti (ci := 1) (C := RX1) (T := TX1) (N := 9) hx hb hts (tw_cs in_X1) hown hK hT (cs_kN hS) (by decide) rfl 8 (by decide) (hts _ (tw_c tw_38)) rfl dX1_putOn_89 ?_
    refine lv_topi (fun g8 eg8 => ?_)
    refine lv_iconst (v := 1) hx hb dX1_putOn_92 (by decide) ?_
    refine lv_iadd hx hb dX1_putOn_93 ?_
    refine hv_puti (ci := 1) (C := RX1) (T := TX1) (N := 9) hx hb hts (tw_cs in_X1) tyX1 tyX1_ok nmX1 hown hK hT (cs_kN hS) (by decide) rfl 8 (by decide) (hts _ (tw_c tw_38)) rfl rfl (x := (g8 + 1)) rfl rfl dX1_putOn_94 (fun H locs hT => ?_)
    exact hret _ (hv_si (hv_sq (hv_sp (hv_sp (hv_si (hv_si (hv_si v 0 a (nI (t + d f0 t0))) 105 (fa 2) (g5 + 1)) 1 a g5) 7 a none) 7 z (some a)) (fa 6) ((nI ((t + d f0 t0) % 32)) : Int32).toNatClampNeg (some a)) 108 (fa 2) (g8 + 1)) _ _ _ _ _ dX1_putOn_97 hT (ci_appI hI hsum rfl hs32 (fun _ => rfl) (fun f c h1 h2 h3 => by have e5 := ci_fr5 h1; have e6 := ci_fr6 h1; simp [hv_si_i, hv_si_k, hv_si_p, hv_si_a, hv_si_q, hv_sp_i, hv_sp_k, hv_sp_p, hv_sp_a, hv_sp_q, hv_sa_i, hv_sa_k, hv_sa_p, hv_sa_a, hv_sa_q, hv_sq_i, hv_sq_k, hv_sq_p, hv_sq_a, hv_sq_q, h2, h3, e5, e6]) (fun c => by simp [hv_si_i, hv_si_k, hv_si_p, hv_si_a, hv_si_q, hv_sp_i, hv_sp_k, hv_sp_p, hv_sp_a, hv_sp_q, hv_sa_i, hv_sa_k, hv_sa_p, hv_sa_a, hv_sa_q, hv_sq_i, hv_sq_k, hv_sq_p, hv_sq_a, hv_sq_q]) (by simp [hv_si_i, hv_si_k, hv_si_p, hv_si_a, hv_si_q, hv_sp_i, hv_sp_k, hv_sp_p, hv_sp_a, hv_sp_q, hv_sa_i, hv_sa_k, hv_sa_p, hv_sa_a, hv_sa_q, hv_sq_i, hv_sq_k, hv_sq_p, hv_sq_a, hv_sq_q]; rw [eg8]; simp [hv_si_i, hv_si_k, hv_si_p, hv_si_a, hv_si_q, hv_sp_i, hv_sp_k, hv_sp_p, hv_sp_a, hv_sp_q, hv_sa_i, hv_sa_k, hv_sa_p, hv_sa_a, hv_sa_q, hv_sq_i, hv_sq_k, hv_sq_p, hv_sq_a, hv_sq_q]) (fun f c h7 => by simp [hv_si_i, hv_si_k, hv_si_p, hv_si_a, hv_si_q, hv_sp_i, hv_sp_k, hv_sp_p, hv_sp_a, hv_sp_q, hv_sa_i, hv_sa_k, hv_sa_p, hv_sa_a, hv_sa_q, hv_sq_i, hv_sq_k, hv_sq_p, hv_sq_a, hv_sq_q, h7]) (fun _ _ => rfl) (fun c => by have h := ci_p7 (c := c) (o := hv_p v 7 c) hza; simpa [hv_si_i, hv_si_k, hv_si_p, hv_si_a, hv_si_q, hv_sp_i, hv_sp_k, hv_sp_p, hv_sp_a, hv_sp_q, hv_sa_i, hv_sa_k, hv_sa_p, hv_sa_a, hv_sa_q, hv_sq_i, hv_sq_k, hv_sq_p, hv_sq_a, hv_sq_q, htl] using h) (fun j => by simp [hv_si_i, hv_si_k, hv_si_p, hv_si_a, hv_si_q, hv_sp_i, hv_sp_k, hv_sp_p, hv_sp_a, hv_sp_q, hv_sa_i, hv_sa_k, hv_sa_p, hv_sa_a, hv_sa_q, hv_sq_i, hv_sq_k, hv_sq_p, hv_sq_a, hv_sq_q, cs_cl32 hs32, htl, ci_56 hS]) (fun j => by simp [hv_si_i, hv_si_k, hv_si_p, hv_si_a, hv_si_q, hv_sp_i, hv_sp_k, hv_sp_p, hv_sp_a, hv_sp_q, hv_sa_i, hv_sa_k, hv_sa_p, hv_sa_a, hv_sa_q, hv_sq_i, hv_sq_k, hv_sq_p, hv_sq_a, hv_sq_q, cs_cl32 hs32, htl, (ci_56 hS).symm]) (fun c j h5 h6 => by simp [hv_si_i, hv_si_k, hv_si_p, hv_si_a, hv_si_q, hv_sp_i, hv_sp_k, hv_sp_p, hv_sp_a, hv_sp_q, hv_sa_i, hv_sa_k, hv_sa_p, hv_sa_a, hv_sa_q, hv_sq_i, hv_sq_k, hv_sq_p, hv_sq_a, hv_sq_q, h5, h6]) rfl rfl) (by decide) (by decide)

set_option maxHeartbeats 4000000 in
set_option maxRecDepth 100000 in
theorem c_first (l : Launch) (D : va_G) (tc : Nat → ClassId) {fa : Nat → Nat} {n : Nat} {v : hv_V} (hS : cs_S fa n v) {t : Nat} (ht4 : t ≤ 4000) (ht : hv_i v 104 (fa 2) = nI t) : Met l yX1_first (Cond.code yX1_first cX1_first 2 (some (.object "CommitSites$Message")) :: lw_B) ({ frames := 0, cells := 0, slots := 0, locals := 0 }) (va_Pc [.ref (fa 2)] (hv_Pre D tc v)) (va_Qq (fun (r : Option Nat) (v1 : hv_V) => v1 = v ∧ (r = none ∨ ∃ s a, s < 32 ∧ r = some a ∧ hv_q v (fa 5) s = some a)) (hv_Post D tc (hv_A v)) (hv_A v)) (0) (0) (hv_A v) := by
  refine hv_metq l (by decide) (Nat.le_of_ble_eq_true rfl) ?_
  intro p e s m args below meth c Q X hret hK H locs ls hT hl
  obtain ⟨hx, hb, hml, hts, hown, hin0⟩ := X
  have hown : s.vm.findClass "CommitSites$Network" = some m.cls := hown
  have hl : lv_has ls 2 [(0, .ref (fa 2))] := hl
  refine lv_aload_n hx hb dX1_first_0 rfl (lv_at hl 0 rfl) ?_
  refine hv_geti (ci := 1) (C := RX1) (T := TX1) (N := 9) hx hb hts (tw_cs in_X1) hown hK hT (cs_kN hS) (by decide) rfl 8 (by decide) (hts _ (tw_c tw_38)) rfl dX1_first_1 ?_
  refine lv_topi (fun g1 eg1 => ?_)
  refine lv_if_ne (tgt := 9) hx hb dX1_first_4 (by decide) (fun c4 => ?_) (fun c4 => ?_)
  · skip
    refine lv_aload_n hx hb dX1_first_9 rfl (lv_at hl 0 rfl) ?_
    refine hv_geti (ci := 1) (C := RX1) (T := TX1) (N := 9) hx hb hts (tw_cs in_X1) hown hK hT (cs_kN hS) (by decide) rfl 4 (by decide) (hts _ (tw_c tw_31)) rfl dX1_first_10 ?_
    refine lv_topi (fun g2 eg2 => ?_)
    have eg2 : g2 = (nI t) := by rw [eg2]; exact ht
    subst eg2
    refine lv_istore_n (lv' := [(1, _), (0, _)]) hx hb dX1_first_13 rfl hl (by decide) rfl (fun ls hl => ?_)
    have hL14 : ∀ (N9 : Nat) (i : Nat) (H : Heap) (locs : List Loc) (ls : Array Slot), t ≤ i → i ≤ t + 21 → t + 21 < i + N9 → hv_St (hv_A v) s D tc v H locs → lv_has ls 2 [(0, .ref (fa 2)), (1, .int (nI i))] → W p l e ({ frames := 0, cells := 0, slots := 0, locals := 0 } : Room) s m args below meth c H locs (0) (0) Q (F0 m 14 ls []) := by
      intro N9
      induction N9 with
      | zero =>
        intro i H locs ls hge hle hN hT hl
        exfalso
        omega
      | succ N9 ih14 =>
        intro i H locs ls hge hle hN hT hl
        refine lv_iload_n hx hb dX1_first_14 rfl (lv_at hl 1 rfl) ?_
        refine lv_aload_n hx hb dX1_first_15 rfl (lv_at hl 0 rfl) ?_
        refine hv_geti (ci := 1) (C := RX1) (T := TX1) (N := 9) hx hb hts (tw_cs in_X1) hown hK hT (cs_kN hS) (by decide) rfl 4 (by decide) (hts _ (tw_c tw_31)) rfl dX1_first_16 ?_
        refine lv_topi (fun g3 eg3 => ?_)
        have eg3 : g3 = (nI t) := by rw [eg3]; exact ht
        subst eg3
        refine lv_bipush (v := 20) hx hb dX1_first_19 (by decide) ?_
        refine lv_iadd hx hb dX1_first_21 ?_
        refine hv_as (x := ((nI t) + 20)) (y := (nI (t + 20))) (nI_add _ 20) ?_
        refine lv_icmp_gt (tgt := 53) hx hb dX1_first_22 (by decide) (fun c22 => ?_) (fun c22 => ?_)
        · skip
          refine lv_null hx hb dX1_first_53 ?_
          exact hret _ _ none v _ _ _ _ _ dX1_first_54 rfl hT ⟨rfl, Or.inl rfl⟩ (by decide) (by decide)
        · skip
          have hlti : i ≤ t + 20 := by
            rcases Nat.lt_or_ge (t + 20) i with q | q
            · exact absurd ((nI_ltI (by omega) (by omega)).mpr q) c22
            · exact q
          have hm32 : i % 32 < 32 := Nat.mod_lt _ (by decide)
          cases hh : hv_q v (fa 5) (i % 32) with
          | none =>
            skip
            refine lv_aload_n hx hb dX1_first_25 rfl (lv_at hl 0 rfl) ?_
            refine hv_gets (ci := 1) (C := RX1) (T := TX1) (N := 9) hx hb hts (tw_cs in_X1) hown hK hT (cs_kN hS) (by decide) rfl 1 (by decide) (hts _ (tw_c tw_28)) rfl (x := (fa 5)) (cs_pH hS) dX1_first_26 ?_
            refine lv_iload_n hx hb dX1_first_29 rfl (lv_at hl 1 rfl) ?_
            refine lv_bipush (v := 32) hx hb dX1_first_30 (by decide) ?_
            refine lv_irem hx hb dX1_first_32 (by decide) ?_
            refine hv_as (x := ((nI i) - (nI i) / 32 * 32)) (y := (nI (i % 32))) (cs_rem (by omega) rfl) ?_
            refine hv_aldn (t := 1) hx hb hK hT (cs_kH hS) rfl rfl (cs_in32 hm32) (by rw [cs_cl32 hm32]; exact hh) dX1_first_33 ?_
            refine lv_ifnullN (tgt := 47) hx hb dX1_first_34 (by decide) ?_
            refine lv_iinc (v := (nI (i + 1))) (lv' := [(1, _), (0, _)]) hx hb dX1_first_47 hl (k := 1) rfl (nI_1 _) (by decide) rfl (fun ls hl => ?_)
            refine lv_goto (tgt := 14) hx hb dX1_first_50 (by decide) ?_
            exact ih14 (i + 1) H locs ls (by omega) (by omega) (by omega) hT (lv_sub hl [1, 0] rfl)
          | some z =>
            skip
            refine lv_aload_n hx hb dX1_first_25 rfl (lv_at hl 0 rfl) ?_
            refine hv_gets (ci := 1) (C := RX1) (T := TX1) (N := 9) hx hb hts (tw_cs in_X1) hown hK hT (cs_kN hS) (by decide) rfl 1 (by decide) (hts _ (tw_c tw_28)) rfl (x := (fa 5)) (cs_pH hS) dX1_first_26 ?_
            refine lv_iload_n hx hb dX1_first_29 rfl (lv_at hl 1 rfl) ?_
            refine lv_bipush (v := 32) hx hb dX1_first_30 (by decide) ?_
            refine lv_irem hx hb dX1_first_32 (by decide) ?_
            refine hv_as (x := ((nI i) - (nI i) / 32 * 32)) (y := (nI (i % 32))) (cs_rem (by omega) rfl) ?_
            refine hv_alds (t := 1) hx hb hK hT (cs_kH hS) rfl rfl (cs_in32 hm32) (x := z) (by rw [cs_cl32 hm32]; exact hh) dX1_first_33 ?_
            refine lv_ifnull hx hb dX1_first_34 ?_
            refine lv_aload_n hx hb dX1_first_37 rfl (lv_at hl 0 rfl) ?_
            refine hv_gets (ci := 1) (C := RX1) (T := TX1) (N := 9) hx hb hts (tw_cs in_X1) hown hK hT (cs_kN hS) (by decide) rfl 1 (by decide) (hts _ (tw_c tw_28)) rfl (x := (fa 5)) (cs_pH hS) dX1_first_38 ?_
            refine lv_iload_n hx hb dX1_first_41 rfl (lv_at hl 1 rfl) ?_
            refine lv_bipush (v := 32) hx hb dX1_first_42 (by decide) ?_
            refine lv_irem hx hb dX1_first_44 (by decide) ?_
            refine hv_as (x := ((nI i) - (nI i) / 32 * 32)) (y := (nI (i % 32))) (cs_rem (by omega) rfl) ?_
            refine hv_alds (t := 1) hx hb hK hT (cs_kH hS) rfl rfl (cs_in32 hm32) (x := z) (by rw [cs_cl32 hm32]; exact hh) dX1_first_45 ?_
            exact hret _ _ (some z) v _ _ _ _ _ dX1_first_46 rfl hT ⟨rfl, Or.inr ⟨i % 32, z, hm32, rfl, hh⟩⟩ (by decide) (by decide)
    exact hL14 22 t H locs ls (Nat.le_refl _) (by omega) (by omega) hT (lv_sub hl [1, 0] rfl)
  · skip
    refine lv_null hx hb dX1_first_7 ?_
    exact hret _ _ none v _ _ _ _ _ dX1_first_8 rfl hT ⟨rfl, Or.inl rfl⟩ (by decide) (by decide)
end
section
theorem cs_lp8 {i : Nat} (hi : i ≤ 8) (h : ¬ (8 : Int32) ≤ nI i) : i < 8 := by
  rcases Nat.lt_or_ge i 8 with q | q
  · exact q
  · exact absurd (show nI 8 ≤ nI i from nI_le q (by omega)) h
theorem hv_ne {D : va_G} {tc : Nat → ClassId} {v : hv_V} {H : Heap} (hW : hv_W D tc v H) : ∀ c, (hv_k v c).1 ≠ 0 → c ≠ hv_n v := fun c h e => by
  have := hW.2.1 c h
  omega

set_option maxHeartbeats 4000000 in
set_option maxRecDepth 100000 in
theorem c_send (l : Launch) (D : va_G) (tc : Nat → ClassId) {fa : Nat → Nat} {n : Nat} {w u : Nat → Nat} {b : Nat} {d : Nat → Nat → Nat} {g : Nat × Nat} {k : Nat} {hd : List Nat} {v : hv_V} (hI : ci_I fa n w u b d g k hd v) {f0 : Nat} (hf0 : f0 < n) (r0 x3 x4 x5 : Int32) (hr : ∀ t, t < 8 → ¬ hb_ r0 (nI t) = 0 → t < n) (hh : hd.length ≤ 1) : Met l yX1_send (Cond.code yX1_send cX1_send 8 none :: lw_B) ({ frames := 2, cells := 8, slots := 64, locals := 40 }) (va_Pc [.ref (fa 2), .int (nI f0), .int r0, .int x3, .int x4, .int x5] (hv_Pre D tc v)) (va_Qv (fun (v1 : hv_V) => ∃ k1, ci_I fa n w u b d g k1 hd v1) (hv_Post D tc (hv_A v)) (hv_A v)) (8) (64) (hv_A v) := by
  refine hv_metv l (by decide) (Nat.le_of_ble_eq_true rfl) ?_
  intro p e s m args below meth c Q X hret hK H locs ls hT hl
  obtain ⟨hx, hb, hml, hts, hown, hin0⟩ := X
  have hown : s.vm.findClass "CommitSites$Network" = some m.cls := hown
  have hl : lv_has ls 8 [(0, .ref (fa 2)), (1, .int (nI f0)), (2, .int r0), (3, .int x3), (4, .int x4), (5, .int x5)] := hl
  refine lv_iconst (v := 0) hx hb dX1_send_0 (by decide) ?_
  refine hv_as (x := 0) (y := (nI 0)) nI_0.symm ?_
  refine lv_istore (lv' := [(6, _), (0, _), (1, _), (2, _), (3, _), (4, _), (5, _)]) hx hb dX1_send_1 hl (by decide) rfl (fun ls hl => ?_)
  have hL3 : ∀ (N9 : Nat) (i : Nat) (kL : Nat) (vL : hv_V) (H : Heap) (locs : List Loc) (ls : Array Slot), i ≤ 8 → 8 < i + N9 → ci_I fa n w u b d g kL hd vL → hv_St (hv_A v) s D tc vL H locs → lv_has ls 8 [(0, .ref (fa 2)), (1, .int (nI f0)), (2, .int r0), (3, .int x3), (4, .int x4), (5, .int x5), (6, .int (nI i))] → W p l e ({ frames := 2, cells := 8, slots := 64, locals := 40 } : Room) s m args below meth c H locs (i) (8 * i) Q (F0 m 3 ls []) := by
    intro N9
    induction N9 with
    | zero =>
      intro i kL vL H locs ls hle hN hI hT hl
      exfalso
      omega
    | succ N9 ih3 =>
      intro i kL vL H locs ls hle hN hI hT hl
      have hS := hI.1
      refine lv_iload hx hb dX1_send_3 (lv_at hl 6 rfl) ?_
      refine lv_bipush (v := 8) hx hb dX1_send_5 (by decide) ?_
      refine lv_icmp_ge (tgt := 144) hx hb dX1_send_7 (by decide) (fun c7 => ?_) (fun c7 => ?_)
      · skip
        exact hret _ vL _ _ _ _ _ dX1_send_144 hT ⟨kL, hI⟩ (by show i ≤ 8; omega) (by show 8 * i ≤ 64; omega)
      · skip
        have hlti : i < 8 := cs_lp8 hle c7
        refine lv_iload_n hx hb dX1_send_10 rfl (lv_at hl 2 rfl) ?_
        refine lv_iload hx hb dX1_send_11 (lv_at hl 6 rfl) ?_
        refine hv_calli (va_runSN (As := [.int r0, .int (nI i)]) (rest := []) ⟨hx, hb, hml, hown, hts⟩ (c_hasBit l D tc r0 (nI i)) ⟨va_cnB 2 hts (tw_I tw_112) rfl rfl rfl hK.2.1 (hts _ (tw_c tw_1)) (by decide +kernel) ⟨Nat.le_of_ble_eq_true rfl, Nat.le_of_ble_eq_true rfl⟩, hts _ (tw_c tw_111), trivial⟩ (hv_preS hK hT.1) rfl rfl hl.1 rfl (lv_room (Nat.le_of_ble_eq_true rfl)) dX1_send_13 ⟨by show i + 0 ≤ 8; omega, by show 8 * i + 0 ≤ 64; omega⟩) hT (fun r3 v1 H locs hp2 hT => ?_)
        obtain ⟨evhp2, qhp2⟩ := hp2
        rw [evhp2] at hT
        refine lv_if_ne (tgt := 22) hx hb dX1_send_16 (by decide) (fun c16 => ?_) (fun c16 => ?_)
        · skip
          have hin : i < n := hr i hlti (by rw [← qhp2]; exact c16)
          refine lv_aload_n hx hb dX1_send_22 rfl (lv_at hl 0 rfl) ?_
          refine lv_dup hx hb dX1_send_23 rfl ?_
          refine hv_geti (ci := 1) (C := RX1) (T := TX1) (N := 9) hx hb hts (tw_cs in_X1) hown hK hT (cs_kN hS) (by decide) rfl 6 (by decide) (hts _ (tw_c tw_34)) rfl dX1_send_24 ?_
          refine lv_topi (fun g4 eg4 => ?_)
          refine lv_iconst (v := 1) hx hb dX1_send_27 (by decide) ?_
          refine lv_iadd hx hb dX1_send_28 ?_
          refine hv_puti (ci := 1) (C := RX1) (T := TX1) (N := 9) hx hb hts (tw_cs in_X1) tyX1 tyX1_ok nmX1 hown hK hT (cs_kN hS) (by decide) rfl 6 (by decide) (hts _ (tw_c tw_34)) rfl rfl (x := (g4 + 1)) rfl rfl dX1_send_29 (fun H locs hT => ?_)
          have hI := ci_put (f := 106) (a := (fa 2)) (x := (g4 + 1)) rfl hI
          have hS := hI.1
          refine lv_aload_n hx hb dX1_send_32 rfl (lv_at hl 0 rfl) ?_
          refine hv_gets (ci := 1) (C := RX1) (T := TX1) (N := 9) hx hb hts (tw_cs in_X1) hown hK hT (cs_kN hS) (by decide) rfl 0 (by decide) (hts _ (tw_c tw_26)) rfl (x := (fa 4)) (cs_pD hS) dX1_send_33 ?_
          refine lv_iload_n hx hb dX1_send_36 rfl (lv_at hl 1 rfl) ?_
          refine hv_alds (t := 2) hx hb hK hT (cs_kD hS) rfl rfl (cs_in8 (cs_lt8 hS hf0)) (x := (fa (8 + f0))) (cs_qD hS (cs_lt8 hS hf0)) dX1_send_37 ?_
          refine lv_iload hx hb dX1_send_38 (lv_at hl 6 rfl) ?_
          refine hv_iald hx hb hK hT (cs_kR hS (cs_lt8 hS hf0)) (cs_in8 hlti) dX1_send_40 ?_
          refine lv_topi (fun g5 eg5 => ?_)
          refine lv_if_eq (tgt := 54) hx hb dX1_send_41 (by decide) (fun c41 => ?_) (fun c41 => ?_)
          · skip
            refine lv_aload_n hx hb dX1_send_54 rfl (lv_at hl 0 rfl) ?_
            refine lv_dup hx hb dX1_send_55 rfl ?_
            refine hv_geti (ci := 1) (C := RX1) (T := TX1) (N := 9) hx hb hts (tw_cs in_X1) hown hK hT (cs_kN hS) (by decide) rfl 7 (by decide) (hts _ (tw_c tw_36)) rfl dX1_send_56 ?_
            refine lv_topi (fun g6 eg6 => ?_)
            refine lv_iconst (v := 1) hx hb dX1_send_59 (by decide) ?_
            refine lv_iadd hx hb dX1_send_60 ?_
            refine hv_puti (ci := 1) (C := RX1) (T := TX1) (N := 9) hx hb hts (tw_cs in_X1) tyX1 tyX1_ok nmX1 hown hK hT (cs_kN hS) (by decide) rfl 7 (by decide) (hts _ (tw_c tw_36)) rfl rfl (x := (g6 + 1)) rfl rfl dX1_send_61 (fun H locs hT => ?_)
            have hI := ci_put (f := 107) (a := (fa 2)) (x := (g6 + 1)) rfl hI
            have hS := hI.1
            refine lv_goto (tgt := 138) hx hb dX1_send_64 (by decide) ?_
            refine lv_iinc (v := (nI (i + 1))) (lv' := [(6, _), (0, _), (1, _), (2, _), (3, _), (4, _), (5, _)]) hx hb dX1_send_138 hl (k := 6) rfl (nI_1 _) (by decide) rfl (fun ls hl => ?_)
            refine lv_goto (tgt := 3) hx hb dX1_send_141 (by decide) ?_
            refine W.widen (k := i + 1) (n := 8 * (i + 1)) (by omega) (by omega) ?_
            exact ih3 (i + 1) _ (hv_si (hv_si vL 106 (fa 2) (g4 + 1)) 107 (fa 2) (g6 + 1)) H locs ls (by omega) (by omega) hI hT (lv_sub hl [1, 2, 3, 4, 5, 6, 0] rfl)
          · skip
            refine lv_aload_n hx hb dX1_send_44 rfl (lv_at hl 0 rfl) ?_
            refine hv_geti (ci := 1) (C := RX1) (T := TX1) (N := 9) hx hb hts (tw_cs in_X1) hown hK hT (cs_kN hS) (by decide) rfl 8 (by decide) (hts _ (tw_c tw_38)) rfl dX1_send_45 ?_
            refine lv_topi (fun g7 eg7 => ?_)
            refine lv_sipush (v := 4096) hx hb dX1_send_48 (by decide) ?_
            refine lv_icmp_lt (tgt := 67) hx hb dX1_send_51 (by decide) (fun c51 => ?_) (fun c51 => ?_)
            · skip
              cases hsp : hv_p vL 103 (fa 2) with
              | none =>
                skip
                refine lv_aload_n hx hb dX1_send_67 rfl (lv_at hl 0 rfl) ?_
                refine hv_getn (ci := 1) (C := RX1) (T := TX1) (N := 9) hx hb hts (tw_cs in_X1) hown hK hT (cs_kN hS) (by decide) rfl 3 (by decide) (hts _ (tw_c tw_30)) rfl hsp dX1_send_68 ?_
                refine lv_astoreN (lv' := [(7, _), (0, _), (1, _), (2, _), (3, _), (4, _), (5, _), (6, _)]) hx hb dX1_send_71 hl (by decide) rfl (fun ls hl => ?_)
                refine lv_aloadN hx hb dX1_send_73 (lv_at hl 0 rfl) ?_
                refine lv_ifnonnullN hx hb dX1_send_75 ?_
                have hI := ci_newI hI (hv_ne hT.1) (by omega) hsp (by rw [← eg7]; exact c51) hh
                have hka := (ci_hdI hI).1
                have hS := hI.1
                refine hv_new (ci := 0) (C := RX0) (T := TX0) (N := 8) hx hb hts (tw_cs in_X0) tyX0 tyX0_ok hown (hts _ (tw_c tw_24)) (hts _ (tw_c tw_142)) (hts _ (tw_c tw_5)) hK hT (by decide) rfl hd_X0 (by show i + 0 + 1 ≤ 8; omega) (by show 8 * i + 0 + 8 ≤ 64; omega) dX1_send_78 (fun H hT => ?_)
                refine lv_dup hx hb dX1_send_81 rfl ?_
                refine hv_callv (va_runIN (As := []) (rest := [.ref (hv_n (hv_si vL 106 (fa 2) (g4 + 1)))]) ⟨hx, hb, hml, hown, hts⟩ (c_msgInit l D tc (v := (hv_nw (hv_si vL 106 (fa 2) (g4 + 1)) (1, 0) 8)) (a := (hv_n (hv_si vL 106 (fa 2) (g4 + 1))))) ⟨va_cnB 0 hts (tw_I tw_145) rfl rfl rfl hK.2.2.1 (hts _ (tw_c tw_5)) (by decide +kernel) ⟨Nat.le_of_ble_eq_true rfl, Nat.le_of_ble_eq_true rfl⟩, rfl, hts _ (tw_c tw_144)⟩ (hv_preS hK hT.1) rfl rfl hl.1 rfl (lv_room (Nat.le_of_ble_eq_true rfl)) dX1_send_82 ⟨by show i + 0 + 1 + 0 ≤ 8; omega, by show 8 * i + 0 + 8 + 0 ≤ 64; omega⟩) hT (fun v8 H locs hp9 hT => ?_)
                rw [hp9] at hT
                refine lv_astore (lv' := [(7, _), (0, _), (1, _), (2, _), (3, _), (4, _), (5, _), (6, _)]) hx hb dX1_send_85 hl (by decide) rfl (fun ls hl => ?_)
                refine lv_goto (tgt := 99) hx hb dX1_send_87 (by decide) ?_
                refine lv_aload hx hb dX1_send_99 (lv_at hl 0 rfl) ?_
                refine lv_iload_n hx hb dX1_send_101 rfl (lv_at hl 4 rfl) ?_
                refine hv_puti (ci := 0) (C := RX0) (T := TX0) (N := 8) hx hb hts (tw_cs in_X0) tyX0 tyX0_ok nmX0 hown hK hT hka (by decide) rfl 2 (by decide) (hts _ (tw_c tw_152)) rfl rfl (x := x3) rfl rfl dX1_send_102 (fun H locs hT => ?_)
                have hI := ci_put (f := 2) (a := (hv_n (hv_si vL 106 (fa 2) (g4 + 1)))) (x := x3) rfl hI
                have hS := hI.1
                refine lv_aload hx hb dX1_send_105 (lv_at hl 0 rfl) ?_
                refine lv_iload_n hx hb dX1_send_107 rfl (lv_at hl 2 rfl) ?_
                refine hv_puti (ci := 0) (C := RX0) (T := TX0) (N := 8) hx hb hts (tw_cs in_X0) tyX0 tyX0_ok nmX0 hown hK hT hka (by decide) rfl 3 (by decide) (hts _ (tw_c tw_154)) rfl rfl (x := (nI f0)) rfl rfl dX1_send_108 (fun H locs hT => ?_)
                have hI := ci_put34 (a := (hv_n (hv_si vL 106 (fa 2) (g4 + 1)))) (Or.inl rfl) hf0 hI
                have hS := hI.1
                refine lv_aload hx hb dX1_send_111 (lv_at hl 0 rfl) ?_
                refine lv_iload hx hb dX1_send_113 (lv_at hl 7 rfl) ?_
                refine hv_puti (ci := 0) (C := RX0) (T := TX0) (N := 8) hx hb hts (tw_cs in_X0) tyX0 tyX0_ok nmX0 hown hK hT hka (by decide) rfl 4 (by decide) (hts _ (tw_c tw_156)) rfl rfl (x := (nI i)) rfl rfl dX1_send_115 (fun H locs hT => ?_)
                have hI := ci_put34 (a := (hv_n (hv_si vL 106 (fa 2) (g4 + 1)))) (Or.inr rfl) hin hI
                have hS := hI.1
                refine lv_aload hx hb dX1_send_118 (lv_at hl 0 rfl) ?_
                refine lv_iload hx hb dX1_send_120 (lv_at hl 5 rfl) ?_
                refine hv_puti (ci := 0) (C := RX0) (T := TX0) (N := 8) hx hb hts (tw_cs in_X0) tyX0 tyX0_ok nmX0 hown hK hT hka (by decide) rfl 5 (by decide) (hts _ (tw_c tw_158)) rfl rfl (x := x4) rfl rfl dX1_send_122 (fun H locs hT => ?_)
                have hI := ci_put (f := 5) (a := (hv_n (hv_si vL 106 (fa 2) (g4 + 1)))) (x := x4) rfl hI
                have hS := hI.1
                refine lv_aload hx hb dX1_send_125 (lv_at hl 0 rfl) ?_
                refine lv_iload hx hb dX1_send_127 (lv_at hl 6 rfl) ?_
                refine hv_puti (ci := 0) (C := RX0) (T := TX0) (N := 8) hx hb hts (tw_cs in_X0) tyX0 tyX0_ok nmX0 hown hK hT hka (by decide) rfl 6 (by decide) (hts _ (tw_c tw_160)) rfl rfl (x := x5) rfl rfl dX1_send_129 (fun H locs hT => ?_)
                have hI := ci_put (f := 6) (a := (hv_n (hv_si vL 106 (fa 2) (g4 + 1)))) (x := x5) rfl hI
                have hS := hI.1
                refine lv_aload_n hx hb dX1_send_132 rfl (lv_at hl 1 rfl) ?_
                refine lv_aload hx hb dX1_send_133 (lv_at hl 0 rfl) ?_
                refine hv_callv (va_runV (As := [.ref (hv_n (hv_si vL 106 (fa 2) (g4 + 1)))]) (rest := []) ⟨hx, hb, hml, hown, hts⟩ (c_putOn l D tc hI) (cwV 1 hts (tw_V tw_163 tw_164 tw_165 tw_2 tw_166) rfl rfl rfl (by decide +kernel) ⟨Nat.le_of_ble_eq_true rfl, Nat.le_of_ble_eq_true rfl⟩) (hv_preV hK hT.1 (cs_kN hS) (by decide) rfl rfl) rfl rfl hl.1 rfl (lv_room (Nat.le_of_ble_eq_true rfl)) dX1_send_135 ⟨by show i + 0 + 1 + 0 + 0 ≤ 8; omega, by show 8 * i + 0 + 8 + 0 + 0 ≤ 64; omega⟩) hT (fun v10 H locs hp11 hT => ?_)
                have hI := hp11
                have hS := hI.1
                refine lv_iinc (v := (nI (i + 1))) (lv' := [(6, _), (7, _), (0, _), (1, _), (2, _), (3, _), (4, _), (5, _)]) hx hb dX1_send_138 hl (k := 7) rfl (nI_1 _) (by decide) rfl (fun ls hl => ?_)
                refine lv_goto (tgt := 3) hx hb dX1_send_141 (by decide) ?_
                refine W.widen (k := i + 1) (n := 8 * (i + 1)) (by omega) (by omega) ?_
                exact ih3 (i + 1) _ v10 H locs ls (by omega) (by omega) hI hT (lv_sub hl [2, 3, 4, 5, 6, 7, 0] rfl)
              | some z =>
                skip
                obtain ⟨hzk, hyk⟩ := ci_spareI (z := z) hI hsp
                refine lv_aload_n hx hb dX1_send_67 rfl (lv_at hl 0 rfl) ?_
                refine hv_gets (ci := 1) (C := RX1) (T := TX1) (N := 9) hx hb hts (tw_cs in_X1) hown hK hT (cs_kN hS) (by decide) rfl 3 (by decide) (hts _ (tw_c tw_30)) rfl (x := z) hsp dX1_send_68 ?_
                refine lv_astore (lv' := [(7, _), (0, _), (1, _), (2, _), (3, _), (4, _), (5, _), (6, _)]) hx hb dX1_send_71 hl (by decide) rfl (fun ls hl => ?_)
                refine lv_aload hx hb dX1_send_73 (lv_at hl 0 rfl) ?_
                refine lv_ifnonnull (tgt := 90) hx hb dX1_send_75 (by decide) ?_
                refine lv_aload_n hx hb dX1_send_90 rfl (lv_at hl 1 rfl) ?_
                refine lv_aload hx hb dX1_send_91 (lv_at hl 0 rfl) ?_
                refine hv_getr (ci := 0) (C := RX0) (T := TX0) (N := 8) hx hb hts (tw_cs in_X0) hown hK hT hzk (by decide) rfl 7 (by decide) (hts _ (tw_c tw_162)) rfl (x := (hv_p (hv_si vL 106 (fa 2) (g4 + 1)) 7 z)) rfl dX1_send_93 ?_
                refine hv_putr (ci := 1) (C := RX1) (T := TX1) (N := 9) hx hb hts (tw_cs in_X1) tyX1 tyX1_ok nmX1 hown hK hT (cs_kN hS) (by decide) rfl 3 (by decide) (hts _ (tw_c tw_30)) rfl rfl (hv_p (hv_si vL 106 (fa 2) (g4 + 1)) 7 z) rfl (hv_nrf _) (hv_frf _) dX1_send_96 (fun H locs hT => ?_)
                have hI := ci_popI hI hsp
                have hS := hI.1
                refine lv_aload hx hb dX1_send_99 (lv_at hl 0 rfl) ?_
                refine lv_iload_n hx hb dX1_send_101 rfl (lv_at hl 4 rfl) ?_
                refine hv_puti (ci := 0) (C := RX0) (T := TX0) (N := 8) hx hb hts (tw_cs in_X0) tyX0 tyX0_ok nmX0 hown hK hT hzk (by decide) rfl 2 (by decide) (hts _ (tw_c tw_152)) rfl rfl (x := x3) rfl rfl dX1_send_102 (fun H locs hT => ?_)
                have hI := ci_put (f := 2) (a := z) (x := x3) rfl hI
                have hS := hI.1
                refine lv_aload hx hb dX1_send_105 (lv_at hl 0 rfl) ?_
                refine lv_iload_n hx hb dX1_send_107 rfl (lv_at hl 2 rfl) ?_
                refine hv_puti (ci := 0) (C := RX0) (T := TX0) (N := 8) hx hb hts (tw_cs in_X0) tyX0 tyX0_ok nmX0 hown hK hT hzk (by decide) rfl 3 (by decide) (hts _ (tw_c tw_154)) rfl rfl (x := (nI f0)) rfl rfl dX1_send_108 (fun H locs hT => ?_)
                have hI := ci_put34 (a := z) (Or.inl rfl) hf0 hI
                have hS := hI.1
                refine lv_aload hx hb dX1_send_111 (lv_at hl 0 rfl) ?_
                refine lv_iload hx hb dX1_send_113 (lv_at hl 7 rfl) ?_
                refine hv_puti (ci := 0) (C := RX0) (T := TX0) (N := 8) hx hb hts (tw_cs in_X0) tyX0 tyX0_ok nmX0 hown hK hT hzk (by decide) rfl 4 (by decide) (hts _ (tw_c tw_156)) rfl rfl (x := (nI i)) rfl rfl dX1_send_115 (fun H locs hT => ?_)
                have hI := ci_put34 (a := z) (Or.inr rfl) hin hI
                have hS := hI.1
                refine lv_aload hx hb dX1_send_118 (lv_at hl 0 rfl) ?_
                refine lv_iload hx hb dX1_send_120 (lv_at hl 5 rfl) ?_
                refine hv_puti (ci := 0) (C := RX0) (T := TX0) (N := 8) hx hb hts (tw_cs in_X0) tyX0 tyX0_ok nmX0 hown hK hT hzk (by decide) rfl 5 (by decide) (hts _ (tw_c tw_158)) rfl rfl (x := x4) rfl rfl dX1_send_122 (fun H locs hT => ?_)
                have hI := ci_put (f := 5) (a := z) (x := x4) rfl hI
                have hS := hI.1
                refine lv_aload hx hb dX1_send_125 (lv_at hl 0 rfl) ?_
                refine lv_iload hx hb dX1_send_127 (lv_at hl 6 rfl) ?_
                refine hv_puti (ci := 0) (C := RX0) (T := TX0) (N := 8) hx hb hts (tw_cs in_X0) tyX0 tyX0_ok nmX0 hown hK hT hzk (by decide) rfl 6 (by decide) (hts _ (tw_c tw_160)) rfl rfl (x := x5) rfl rfl dX1_send_129 (fun H locs hT => ?_)
                have hI := ci_put (f := 6) (a := z) (x := x5) rfl hI
                have hS := hI.1
                refine lv_aload_n hx hb dX1_send_132 rfl (lv_at hl 1 rfl) ?_
                refine lv_aload hx hb dX1_send_133 (lv_at hl 0 rfl) ?_
                refine hv_callv (va_runV (As := [.ref z]) (rest := []) ⟨hx, hb, hml, hown, hts⟩ (c_putOn l D tc hI) (cwV 1 hts (tw_V tw_163 tw_164 tw_165 tw_2 tw_166) rfl rfl rfl (by decide +kernel) ⟨Nat.le_of_ble_eq_true rfl, Nat.le_of_ble_eq_true rfl⟩) (hv_preV hK hT.1 (cs_kN hS) (by decide) rfl rfl) rfl rfl hl.1 rfl (lv_room (Nat.le_of_ble_eq_true rfl)) dX1_send_135 ⟨by show i + 0 + 0 ≤ 8; omega, by show 8 * i + 0 + 0 ≤ 64; omega⟩) hT (fun v12 H locs hp13 hT => ?_)
                have hI := hp13
                have hS := hI.1
                refine lv_iinc (v := (nI (i + 1))) (lv' := [(6, _), (7, _), (0, _), (1, _), (2, _), (3, _), (4, _), (5, _)]) hx hb dX1_send_138 hl (k := 7) rfl (nI_1 _) (by decide) rfl (fun ls hl => ?_)
                refine lv_goto (tgt := 3) hx hb dX1_send_141 (by decide) ?_
                refine W.widen (k := i + 1) (n := 8 * (i + 1)) (by omega) (by omega) ?_
                exact ih3 (i + 1) _ v12 H locs ls (by omega) (by omega) hI hT (lv_sub hl [2, 3, 4, 5, 6, 7, 0] rfl)
            · skip
              refine lv_aload_n hx hb dX1_send_54 rfl (lv_at hl 0 rfl) ?_
              refine lv_dup hx hb dX1_send_55 rfl ?_
              refine hv_geti (ci := 1) (C := RX1) (T := TX1) (N := 9) hx hb hts (tw_cs in_X1) hown hK hT (cs_kN hS) (by decide) rfl 7 (by decide) (hts _ (tw_c tw_36)) rfl dX1_send_56 ?_
              refine lv_topi (fun g14 eg14 => ?_)
              refine lv_iconst (v := 1) hx hb dX1_send_59 (by decide) ?_
              refine lv_iadd hx hb dX1_send_60 ?_
              refine hv_puti (ci := 1) (C := RX1) (T := TX1) (N := 9) hx hb hts (tw_cs in_X1) tyX1 tyX1_ok nmX1 hown hK hT (cs_kN hS) (by decide) rfl 7 (by decide) (hts _ (tw_c tw_36)) rfl rfl (x := (g14 + 1)) rfl rfl dX1_send_61 (fun H locs hT => ?_)
              have hI := ci_put (f := 107) (a := (fa 2)) (x := (g14 + 1)) rfl hI
              have hS := hI.1
              refine lv_goto (tgt := 138) hx hb dX1_send_64 (by decide) ?_
              refine lv_iinc (v := (nI (i + 1))) (lv' := [(6, _), (0, _), (1, _), (2, _), (3, _), (4, _), (5, _)]) hx hb dX1_send_138 hl (k := 6) rfl (nI_1 _) (by decide) rfl (fun ls hl => ?_)
              refine lv_goto (tgt := 3) hx hb dX1_send_141 (by decide) ?_
              refine W.widen (k := i + 1) (n := 8 * (i + 1)) (by omega) (by omega) ?_
              exact ih3 (i + 1) _ (hv_si (hv_si vL 106 (fa 2) (g4 + 1)) 107 (fa 2) (g14 + 1)) H locs ls (by omega) (by omega) hI hT (lv_sub hl [1, 2, 3, 4, 5, 6, 0] rfl)
        · skip
          refine lv_goto (tgt := 138) hx hb dX1_send_19 (by decide) ?_
          refine lv_iinc (v := (nI (i + 1))) (lv' := [(6, _), (0, _), (1, _), (2, _), (3, _), (4, _), (5, _)]) hx hb dX1_send_138 hl (k := 6) rfl (nI_1 _) (by decide) rfl (fun ls hl => ?_)
          refine lv_goto (tgt := 3) hx hb dX1_send_141 (by decide) ?_
          refine W.widen (k := i + 1) (n := 8 * (i + 1)) (by omega) (by omega) ?_
          exact ih3 (i + 1) _ vL H locs ls (by omega) (by omega) hI hT (lv_sub hl [1, 2, 3, 4, 5, 6, 0] rfl)
  exact hL3 9 0 k v H locs ls (by omega) (by omega) hI hT (lv_sub hl [1, 2, 3, 4, 5, 6, 0] rfl)
end
