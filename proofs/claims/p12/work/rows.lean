section
-- ===== PART A: goes FIRST, ahead of the names: the tables' words, and 'selects' of the private methods out of them =====
/-- a private method of a class that the tables say can be made, by its rows of tables_1 -/
def lw_okq (q : MethodName × Nat) : Prop := (q.1.cls ≠ "java/lang/invoke/MethodHandle" ∧ q.1.cls ≠ "java/lang/invoke/VarHandle") ∧ Cond.instantiable q.1.cls q.2 ∈ tables_1 ∧ Cond.privateMethod q.1 ∈ tables_1 ∧ Cond.instanceMethod q.1 ∈ tables_1
theorem lw_p0 : lw_okq (⟨"CommitSites", "shareQuorums", "()V"⟩, 12) := ⟨⟨by decide +kernel, by decide +kernel⟩, List.mem_of_getElem? (i := 7) (by decide +kernel), List.mem_of_getElem? (i := 61) (by decide +kernel), List.mem_of_getElem? (i := 62) (by decide +kernel)⟩
theorem lw_p1 : lw_okq (⟨"CommitSites", "note", "(IIIII)V"⟩, 12) := ⟨⟨by decide +kernel, by decide +kernel⟩, List.mem_of_getElem? (i := 7) (by decide +kernel), List.mem_of_getElem? (i := 65) (by decide +kernel), List.mem_of_getElem? (i := 66) (by decide +kernel)⟩
theorem lw_p2 : lw_okq (⟨"CommitSites", "isLink", "(II)Z"⟩, 12) := ⟨⟨by decide +kernel, by decide +kernel⟩, List.mem_of_getElem? (i := 7) (by decide +kernel), List.mem_of_getElem? (i := 168) (by decide +kernel), List.mem_of_getElem? (i := 169) (by decide +kernel)⟩
theorem lw_p3 : lw_okq (⟨"CommitSites", "isSite", "(I)Z"⟩, 12) := ⟨⟨by decide +kernel, by decide +kernel⟩, List.mem_of_getElem? (i := 7) (by decide +kernel), List.mem_of_getElem? (i := 172) (by decide +kernel), List.mem_of_getElem? (i := 173) (by decide +kernel)⟩
theorem lw_p4 : lw_okq (⟨"CommitSites", "askVotes", "(I)V"⟩, 12) := ⟨⟨by decide +kernel, by decide +kernel⟩, List.mem_of_getElem? (i := 7) (by decide +kernel), List.mem_of_getElem? (i := 191) (by decide +kernel), List.mem_of_getElem? (i := 192) (by decide +kernel)⟩
theorem lw_p5 : lw_okq (⟨"CommitSites", "become", "(LCommitSites$Site;I)V"⟩, 12) := ⟨⟨by decide +kernel, by decide +kernel⟩, List.mem_of_getElem? (i := 7) (by decide +kernel), List.mem_of_getElem? (i := 195) (by decide +kernel), List.mem_of_getElem? (i := 196) (by decide +kernel)⟩
theorem lw_p6 : lw_okq (⟨"CommitSites", "allBut", "(I)I"⟩, 12) := ⟨⟨by decide +kernel, by decide +kernel⟩, List.mem_of_getElem? (i := 7) (by decide +kernel), List.mem_of_getElem? (i := 203) (by decide +kernel), List.mem_of_getElem? (i := 204) (by decide +kernel)⟩
theorem lw_p7 : lw_okq (⟨"CommitSites", "everyone", "()I"⟩, 12) := ⟨⟨by decide +kernel, by decide +kernel⟩, List.mem_of_getElem? (i := 7) (by decide +kernel), List.mem_of_getElem? (i := 207) (by decide +kernel), List.mem_of_getElem? (i := 208) (by decide +kernel)⟩
theorem lw_p8 : lw_okq (⟨"CommitSites", "setTimer", "(LCommitSites$Site;I)V"⟩, 12) := ⟨⟨by decide +kernel, by decide +kernel⟩, List.mem_of_getElem? (i := 7) (by decide +kernel), List.mem_of_getElem? (i := 258) (by decide +kernel), List.mem_of_getElem? (i := 259) (by decide +kernel)⟩
theorem lw_p9 : lw_okq (⟨"CommitSites", "lead", "(II)V"⟩, 12) := ⟨⟨by decide +kernel, by decide +kernel⟩, List.mem_of_getElem? (i := 7) (by decide +kernel), List.mem_of_getElem? (i := 266) (by decide +kernel), List.mem_of_getElem? (i := 267) (by decide +kernel)⟩
theorem lw_p10 : lw_okq (⟨"CommitSites", "hasQuorum", "(LCommitSites$Site;)Z"⟩, 12) := ⟨⟨by decide +kernel, by decide +kernel⟩, List.mem_of_getElem? (i := 7) (by decide +kernel), List.mem_of_getElem? (i := 270) (by decide +kernel), List.mem_of_getElem? (i := 271) (by decide +kernel)⟩
theorem lw_p11 : lw_okq (⟨"CommitSites", "decide", "(II)V"⟩, 12) := ⟨⟨by decide +kernel, by decide +kernel⟩, List.mem_of_getElem? (i := 7) (by decide +kernel), List.mem_of_getElem? (i := 274) (by decide +kernel), List.mem_of_getElem? (i := 275) (by decide +kernel)⟩
theorem lw_p12 : lw_okq (⟨"CommitSites", "attempt", "(I)V"⟩, 12) := ⟨⟨by decide +kernel, by decide +kernel⟩, List.mem_of_getElem? (i := 7) (by decide +kernel), List.mem_of_getElem? (i := 289) (by decide +kernel), List.mem_of_getElem? (i := 290) (by decide +kernel)⟩
theorem lw_p13 : lw_okq (⟨"CommitSites", "takeNext", "(I)I"⟩, 12) := ⟨⟨by decide +kernel, by decide +kernel⟩, List.mem_of_getElem? (i := 7) (by decide +kernel), List.mem_of_getElem? (i := 298) (by decide +kernel), List.mem_of_getElem? (i := 299) (by decide +kernel)⟩
theorem lw_p14 : lw_okq (⟨"CommitSites", "firstTimer", "()I"⟩, 12) := ⟨⟨by decide +kernel, by decide +kernel⟩, List.mem_of_getElem? (i := 7) (by decide +kernel), List.mem_of_getElem? (i := 306) (by decide +kernel), List.mem_of_getElem? (i := 307) (by decide +kernel)⟩
theorem lw_p15 : lw_okq (⟨"CommitSites", "runOut", "(I)V"⟩, 12) := ⟨⟨by decide +kernel, by decide +kernel⟩, List.mem_of_getElem? (i := 7) (by decide +kernel), List.mem_of_getElem? (i := 318) (by decide +kernel), List.mem_of_getElem? (i := 319) (by decide +kernel)⟩
def lw_privs_1 : List (MethodName × Nat) := [(⟨"CommitSites", "shareQuorums", "()V"⟩, 12), (⟨"CommitSites", "note", "(IIIII)V"⟩, 12), (⟨"CommitSites", "isLink", "(II)Z"⟩, 12), (⟨"CommitSites", "isSite", "(I)Z"⟩, 12), (⟨"CommitSites", "askVotes", "(I)V"⟩, 12), (⟨"CommitSites", "become", "(LCommitSites$Site;I)V"⟩, 12), (⟨"CommitSites", "allBut", "(I)I"⟩, 12), (⟨"CommitSites", "everyone", "()I"⟩, 12), (⟨"CommitSites", "setTimer", "(LCommitSites$Site;I)V"⟩, 12), (⟨"CommitSites", "lead", "(II)V"⟩, 12), (⟨"CommitSites", "hasQuorum", "(LCommitSites$Site;)Z"⟩, 12), (⟨"CommitSites", "decide", "(II)V"⟩, 12), (⟨"CommitSites", "attempt", "(I)V"⟩, 12), (⟨"CommitSites", "takeNext", "(I)I"⟩, 12), (⟨"CommitSites", "firstTimer", "()I"⟩, 12), (⟨"CommitSites", "runOut", "(I)V"⟩, 12)]
theorem lw_r1 : ∀ q ∈ lw_privs_1, lw_okq q := List.forall_mem_cons.mpr ⟨lw_p0, List.forall_mem_cons.mpr ⟨lw_p1, List.forall_mem_cons.mpr ⟨lw_p2, List.forall_mem_cons.mpr ⟨lw_p3, List.forall_mem_cons.mpr ⟨lw_p4, List.forall_mem_cons.mpr ⟨lw_p5, List.forall_mem_cons.mpr ⟨lw_p6, List.forall_mem_cons.mpr ⟨lw_p7, List.forall_mem_cons.mpr ⟨lw_p8, List.forall_mem_cons.mpr ⟨lw_p9, List.forall_mem_cons.mpr ⟨lw_p10, List.forall_mem_cons.mpr ⟨lw_p11, List.forall_mem_cons.mpr ⟨lw_p12, List.forall_mem_cons.mpr ⟨lw_p13, List.forall_mem_cons.mpr ⟨lw_p14, List.forall_mem_cons.mpr ⟨lw_p15, fun _ h => absurd h List.not_mem_nil⟩⟩⟩⟩⟩⟩⟩⟩⟩⟩⟩⟩⟩⟩⟩⟩
theorem lw_p16 : lw_okq (⟨"CommitSites", "toldWeight", "(LCommitSites$Site;I)I"⟩, 12) := ⟨⟨by decide +kernel, by decide +kernel⟩, List.mem_of_getElem? (i := 7) (by decide +kernel), List.mem_of_getElem? (i := 322) (by decide +kernel), List.mem_of_getElem? (i := 323) (by decide +kernel)⟩
theorem lw_p17 : lw_okq (⟨"CommitSites", "receive", "(LCommitSites$Message;)V"⟩, 12) := ⟨⟨by decide +kernel, by decide +kernel⟩, List.mem_of_getElem? (i := 7) (by decide +kernel), List.mem_of_getElem? (i := 330) (by decide +kernel), List.mem_of_getElem? (i := 331) (by decide +kernel)⟩
theorem lw_p18 : lw_okq (⟨"CommitSites", "onAskVote", "(II)V"⟩, 12) := ⟨⟨by decide +kernel, by decide +kernel⟩, List.mem_of_getElem? (i := 7) (by decide +kernel), List.mem_of_getElem? (i := 334) (by decide +kernel), List.mem_of_getElem? (i := 335) (by decide +kernel)⟩
theorem lw_p19 : lw_okq (⟨"CommitSites", "onYes", "(II)V"⟩, 12) := ⟨⟨by decide +kernel, by decide +kernel⟩, List.mem_of_getElem? (i := 7) (by decide +kernel), List.mem_of_getElem? (i := 338) (by decide +kernel), List.mem_of_getElem? (i := 339) (by decide +kernel)⟩
theorem lw_p20 : lw_okq (⟨"CommitSites", "onNo", "(I)V"⟩, 12) := ⟨⟨by decide +kernel, by decide +kernel⟩, List.mem_of_getElem? (i := 7) (by decide +kernel), List.mem_of_getElem? (i := 342) (by decide +kernel), List.mem_of_getElem? (i := 343) (by decide +kernel)⟩
theorem lw_p21 : lw_okq (⟨"CommitSites", "onAskState", "(III)V"⟩, 12) := ⟨⟨by decide +kernel, by decide +kernel⟩, List.mem_of_getElem? (i := 7) (by decide +kernel), List.mem_of_getElem? (i := 346) (by decide +kernel), List.mem_of_getElem? (i := 347) (by decide +kernel)⟩
theorem lw_p22 : lw_okq (⟨"CommitSites", "yieldTo", "(II)V"⟩, 12) := ⟨⟨by decide +kernel, by decide +kernel⟩, List.mem_of_getElem? (i := 7) (by decide +kernel), List.mem_of_getElem? (i := 350) (by decide +kernel), List.mem_of_getElem? (i := 351) (by decide +kernel)⟩
theorem lw_p23 : lw_okq (⟨"CommitSites", "onState", "(IIII)V"⟩, 12) := ⟨⟨by decide +kernel, by decide +kernel⟩, List.mem_of_getElem? (i := 7) (by decide +kernel), List.mem_of_getElem? (i := 354) (by decide +kernel), List.mem_of_getElem? (i := 355) (by decide +kernel)⟩
theorem lw_p24 : lw_okq (⟨"CommitSites", "onAskReady", "(IIII)V"⟩, 12) := ⟨⟨by decide +kernel, by decide +kernel⟩, List.mem_of_getElem? (i := 7) (by decide +kernel), List.mem_of_getElem? (i := 358) (by decide +kernel), List.mem_of_getElem? (i := 359) (by decide +kernel)⟩
theorem lw_p25 : lw_okq (⟨"CommitSites", "onAcknowledge", "(III)V"⟩, 12) := ⟨⟨by decide +kernel, by decide +kernel⟩, List.mem_of_getElem? (i := 7) (by decide +kernel), List.mem_of_getElem? (i := 362) (by decide +kernel), List.mem_of_getElem? (i := 363) (by decide +kernel)⟩
theorem lw_p26 : lw_okq (⟨"CommitSites", "onDecision", "(II)V"⟩, 12) := ⟨⟨by decide +kernel, by decide +kernel⟩, List.mem_of_getElem? (i := 7) (by decide +kernel), List.mem_of_getElem? (i := 370) (by decide +kernel), List.mem_of_getElem? (i := 371) (by decide +kernel)⟩
theorem lw_p27 : lw_okq (⟨"CommitSitesModel", "all", "()I"⟩, 34) := ⟨⟨by decide +kernel, by decide +kernel⟩, List.mem_of_getElem? (i := 415) (by decide +kernel), List.mem_of_getElem? (i := 530) (by decide +kernel), List.mem_of_getElem? (i := 531) (by decide +kernel)⟩
theorem lw_p28 : lw_okq (⟨"CommitSitesModel", "isSite", "(I)Z"⟩, 34) := ⟨⟨by decide +kernel, by decide +kernel⟩, List.mem_of_getElem? (i := 415) (by decide +kernel), List.mem_of_getElem? (i := 542) (by decide +kernel), List.mem_of_getElem? (i := 543) (by decide +kernel)⟩
theorem lw_p29 : lw_okq (⟨"CommitSitesModel", "decide", "(II)V"⟩, 34) := ⟨⟨by decide +kernel, by decide +kernel⟩, List.mem_of_getElem? (i := 415) (by decide +kernel), List.mem_of_getElem? (i := 558) (by decide +kernel), List.mem_of_getElem? (i := 559) (by decide +kernel)⟩
theorem lw_p30 : lw_okq (⟨"CommitSitesModel", "become", "(II)V"⟩, 34) := ⟨⟨by decide +kernel, by decide +kernel⟩, List.mem_of_getElem? (i := 415) (by decide +kernel), List.mem_of_getElem? (i := 562) (by decide +kernel), List.mem_of_getElem? (i := 563) (by decide +kernel)⟩
theorem lw_p31 : lw_okq (⟨"CommitSitesModel", "sendAll", "(III)V"⟩, 34) := ⟨⟨by decide +kernel, by decide +kernel⟩, List.mem_of_getElem? (i := 415) (by decide +kernel), List.mem_of_getElem? (i := 566) (by decide +kernel), List.mem_of_getElem? (i := 567) (by decide +kernel)⟩
def lw_privs_2 : List (MethodName × Nat) := [(⟨"CommitSites", "toldWeight", "(LCommitSites$Site;I)I"⟩, 12), (⟨"CommitSites", "receive", "(LCommitSites$Message;)V"⟩, 12), (⟨"CommitSites", "onAskVote", "(II)V"⟩, 12), (⟨"CommitSites", "onYes", "(II)V"⟩, 12), (⟨"CommitSites", "onNo", "(I)V"⟩, 12), (⟨"CommitSites", "onAskState", "(III)V"⟩, 12), (⟨"CommitSites", "yieldTo", "(II)V"⟩, 12), (⟨"CommitSites", "onState", "(IIII)V"⟩, 12), (⟨"CommitSites", "onAskReady", "(IIII)V"⟩, 12), (⟨"CommitSites", "onAcknowledge", "(III)V"⟩, 12), (⟨"CommitSites", "onDecision", "(II)V"⟩, 12), (⟨"CommitSitesModel", "all", "()I"⟩, 34), (⟨"CommitSitesModel", "isSite", "(I)Z"⟩, 34), (⟨"CommitSitesModel", "decide", "(II)V"⟩, 34), (⟨"CommitSitesModel", "become", "(II)V"⟩, 34), (⟨"CommitSitesModel", "sendAll", "(III)V"⟩, 34)]
theorem lw_r2 : ∀ q ∈ lw_privs_2, lw_okq q := List.forall_mem_cons.mpr ⟨lw_p16, List.forall_mem_cons.mpr ⟨lw_p17, List.forall_mem_cons.mpr ⟨lw_p18, List.forall_mem_cons.mpr ⟨lw_p19, List.forall_mem_cons.mpr ⟨lw_p20, List.forall_mem_cons.mpr ⟨lw_p21, List.forall_mem_cons.mpr ⟨lw_p22, List.forall_mem_cons.mpr ⟨lw_p23, List.forall_mem_cons.mpr ⟨lw_p24, List.forall_mem_cons.mpr ⟨lw_p25, List.forall_mem_cons.mpr ⟨lw_p26, List.forall_mem_cons.mpr ⟨lw_p27, List.forall_mem_cons.mpr ⟨lw_p28, List.forall_mem_cons.mpr ⟨lw_p29, List.forall_mem_cons.mpr ⟨lw_p30, List.forall_mem_cons.mpr ⟨lw_p31, fun _ h => absurd h List.not_mem_nil⟩⟩⟩⟩⟩⟩⟩⟩⟩⟩⟩⟩⟩⟩⟩⟩
theorem lw_p32 : lw_okq (⟨"CommitSitesModel", "send", "(IIIII)V"⟩, 34) := ⟨⟨by decide +kernel, by decide +kernel⟩, List.mem_of_getElem? (i := 415) (by decide +kernel), List.mem_of_getElem? (i := 570) (by decide +kernel), List.mem_of_getElem? (i := 571) (by decide +kernel)⟩
theorem lw_p33 : lw_okq (⟨"CommitSitesModel", "clearThere", "(II)V"⟩, 34) := ⟨⟨by decide +kernel, by decide +kernel⟩, List.mem_of_getElem? (i := 415) (by decide +kernel), List.mem_of_getElem? (i := 574) (by decide +kernel), List.mem_of_getElem? (i := 575) (by decide +kernel)⟩
theorem lw_p34 : lw_okq (⟨"CommitSitesModel", "setTimer", "(II)V"⟩, 34) := ⟨⟨by decide +kernel, by decide +kernel⟩, List.mem_of_getElem? (i := 415) (by decide +kernel), List.mem_of_getElem? (i := 578) (by decide +kernel), List.mem_of_getElem? (i := 579) (by decide +kernel)⟩
theorem lw_p35 : lw_okq (⟨"CommitSitesModel", "checkVotes", "(I)V"⟩, 34) := ⟨⟨by decide +kernel, by decide +kernel⟩, List.mem_of_getElem? (i := 415) (by decide +kernel), List.mem_of_getElem? (i := 582) (by decide +kernel), List.mem_of_getElem? (i := 583) (by decide +kernel)⟩
theorem lw_p36 : lw_okq (⟨"CommitSitesModel", "lead", "(II)V"⟩, 34) := ⟨⟨by decide +kernel, by decide +kernel⟩, List.mem_of_getElem? (i := 415) (by decide +kernel), List.mem_of_getElem? (i := 586) (by decide +kernel), List.mem_of_getElem? (i := 587) (by decide +kernel)⟩
theorem lw_p37 : lw_okq (⟨"CommitSitesModel", "checkQuorum", "(I)V"⟩, 34) := ⟨⟨by decide +kernel, by decide +kernel⟩, List.mem_of_getElem? (i := 415) (by decide +kernel), List.mem_of_getElem? (i := 590) (by decide +kernel), List.mem_of_getElem? (i := 591) (by decide +kernel)⟩
theorem lw_p38 : lw_okq (⟨"CommitSitesModel", "weightThere", "(I)I"⟩, 34) := ⟨⟨by decide +kernel, by decide +kernel⟩, List.mem_of_getElem? (i := 415) (by decide +kernel), List.mem_of_getElem? (i := 594) (by decide +kernel), List.mem_of_getElem? (i := 595) (by decide +kernel)⟩
theorem lw_p39 : lw_okq (⟨"CommitSitesModel", "isDecided", "(I)Z"⟩, 34) := ⟨⟨by decide +kernel, by decide +kernel⟩, List.mem_of_getElem? (i := 415) (by decide +kernel), List.mem_of_getElem? (i := 606) (by decide +kernel), List.mem_of_getElem? (i := 607) (by decide +kernel)⟩
theorem lw_p40 : lw_okq (⟨"CommitSitesModel", "attempt", "(I)V"⟩, 34) := ⟨⟨by decide +kernel, by decide +kernel⟩, List.mem_of_getElem? (i := 415) (by decide +kernel), List.mem_of_getElem? (i := 610) (by decide +kernel), List.mem_of_getElem? (i := 611) (by decide +kernel)⟩
theorem lw_p41 : lw_okq (⟨"CommitSitesModel", "findNext", "()V"⟩, 34) := ⟨⟨by decide +kernel, by decide +kernel⟩, List.mem_of_getElem? (i := 415) (by decide +kernel), List.mem_of_getElem? (i := 618) (by decide +kernel), List.mem_of_getElem? (i := 619) (by decide +kernel)⟩
theorem lw_p42 : lw_okq (⟨"CommitSitesModel", "take", "()Z"⟩, 34) := ⟨⟨by decide +kernel, by decide +kernel⟩, List.mem_of_getElem? (i := 415) (by decide +kernel), List.mem_of_getElem? (i := 622) (by decide +kernel), List.mem_of_getElem? (i := 623) (by decide +kernel)⟩
theorem lw_p43 : lw_okq (⟨"CommitSitesModel", "tell", "(IIIII)V"⟩, 34) := ⟨⟨by decide +kernel, by decide +kernel⟩, List.mem_of_getElem? (i := 415) (by decide +kernel), List.mem_of_getElem? (i := 626) (by decide +kernel), List.mem_of_getElem? (i := 627) (by decide +kernel)⟩
theorem lw_p44 : lw_okq (⟨"CommitSitesModel", "ring", "(I)V"⟩, 34) := ⟨⟨by decide +kernel, by decide +kernel⟩, List.mem_of_getElem? (i := 415) (by decide +kernel), List.mem_of_getElem? (i := 630) (by decide +kernel), List.mem_of_getElem? (i := 631) (by decide +kernel)⟩
theorem lw_p45 : lw_okq (⟨"CommitSitesModel", "weightOf", "(II)I"⟩, 34) := ⟨⟨by decide +kernel, by decide +kernel⟩, List.mem_of_getElem? (i := 415) (by decide +kernel), List.mem_of_getElem? (i := 634) (by decide +kernel), List.mem_of_getElem? (i := 635) (by decide +kernel)⟩
theorem lw_p46 : lw_okq (⟨"CommitSitesModel", "handle", "(IIIII)V"⟩, 34) := ⟨⟨by decide +kernel, by decide +kernel⟩, List.mem_of_getElem? (i := 415) (by decide +kernel), List.mem_of_getElem? (i := 638) (by decide +kernel), List.mem_of_getElem? (i := 639) (by decide +kernel)⟩
theorem lw_p47 : lw_okq (⟨"CommitSitesModel", "yieldTo", "(II)V"⟩, 34) := ⟨⟨by decide +kernel, by decide +kernel⟩, List.mem_of_getElem? (i := 415) (by decide +kernel), List.mem_of_getElem? (i := 642) (by decide +kernel), List.mem_of_getElem? (i := 643) (by decide +kernel)⟩
def lw_privs_3 : List (MethodName × Nat) := [(⟨"CommitSitesModel", "send", "(IIIII)V"⟩, 34), (⟨"CommitSitesModel", "clearThere", "(II)V"⟩, 34), (⟨"CommitSitesModel", "setTimer", "(II)V"⟩, 34), (⟨"CommitSitesModel", "checkVotes", "(I)V"⟩, 34), (⟨"CommitSitesModel", "lead", "(II)V"⟩, 34), (⟨"CommitSitesModel", "checkQuorum", "(I)V"⟩, 34), (⟨"CommitSitesModel", "weightThere", "(I)I"⟩, 34), (⟨"CommitSitesModel", "isDecided", "(I)Z"⟩, 34), (⟨"CommitSitesModel", "attempt", "(I)V"⟩, 34), (⟨"CommitSitesModel", "findNext", "()V"⟩, 34), (⟨"CommitSitesModel", "take", "()Z"⟩, 34), (⟨"CommitSitesModel", "tell", "(IIIII)V"⟩, 34), (⟨"CommitSitesModel", "ring", "(I)V"⟩, 34), (⟨"CommitSitesModel", "weightOf", "(II)I"⟩, 34), (⟨"CommitSitesModel", "handle", "(IIIII)V"⟩, 34), (⟨"CommitSitesModel", "yieldTo", "(II)V"⟩, 34)]
theorem lw_r3 : ∀ q ∈ lw_privs_3, lw_okq q := List.forall_mem_cons.mpr ⟨lw_p32, List.forall_mem_cons.mpr ⟨lw_p33, List.forall_mem_cons.mpr ⟨lw_p34, List.forall_mem_cons.mpr ⟨lw_p35, List.forall_mem_cons.mpr ⟨lw_p36, List.forall_mem_cons.mpr ⟨lw_p37, List.forall_mem_cons.mpr ⟨lw_p38, List.forall_mem_cons.mpr ⟨lw_p39, List.forall_mem_cons.mpr ⟨lw_p40, List.forall_mem_cons.mpr ⟨lw_p41, List.forall_mem_cons.mpr ⟨lw_p42, List.forall_mem_cons.mpr ⟨lw_p43, List.forall_mem_cons.mpr ⟨lw_p44, List.forall_mem_cons.mpr ⟨lw_p45, List.forall_mem_cons.mpr ⟨lw_p46, List.forall_mem_cons.mpr ⟨lw_p47, fun _ h => absurd h List.not_mem_nil⟩⟩⟩⟩⟩⟩⟩⟩⟩⟩⟩⟩⟩⟩⟩⟩
theorem lw_p48 : lw_okq (⟨"CommitSitesModel", "prepare", "(IIII)V"⟩, 34) := ⟨⟨by decide +kernel, by decide +kernel⟩, List.mem_of_getElem? (i := 415) (by decide +kernel), List.mem_of_getElem? (i := 646) (by decide +kernel), List.mem_of_getElem? (i := 647) (by decide +kernel)⟩
def lw_privs_4 : List (MethodName × Nat) := [(⟨"CommitSitesModel", "prepare", "(IIII)V"⟩, 34)]
theorem lw_r4 : ∀ q ∈ lw_privs_4, lw_okq q := List.forall_mem_cons.mpr ⟨lw_p48, fun _ h => absurd h List.not_mem_nil⟩
def lw_privs : List (MethodName × Nat) := lw_privs_1 ++ (lw_privs_2 ++ (lw_privs_3 ++ (lw_privs_4)))
def lw_tbl : List Cond := k2_sels lw_privs ++ tables_1
theorem lw_privs_ok : ∀ q ∈ lw_privs, lw_okq q := by
  show ∀ q ∈ lw_privs_1 ++ (lw_privs_2 ++ (lw_privs_3 ++ (lw_privs_4))), lw_okq q
  exact List.forall_mem_append.mpr ⟨lw_r1, List.forall_mem_append.mpr ⟨lw_r2, List.forall_mem_append.mpr ⟨lw_r3, lw_r4⟩⟩⟩
end
section
def RX0 : String := "CommitSites$Message"
def TX0 : u_T := fun k => match k with
  | 0 => ("CommitSites$Message", "time", "I", false)
  | 1 => ("CommitSites$Message", "order", "I", false)
  | 2 => ("CommitSites$Message", "kind", "I", false)
  | 3 => ("CommitSites$Message", "from", "I", false)
  | 4 => ("CommitSites$Message", "to", "I", false)
  | 5 => ("CommitSites$Message", "attempt", "I", false)
  | 6 => ("CommitSites$Message", "told", "I", false)
  | _ => ("CommitSites$Message", "next", "LCommitSites$Message;", false)
def tyX0 : Nat → FieldType := fun k => match k with
  | 0 => .int
  | 1 => .int
  | 2 => .int
  | 3 => .int
  | 4 => .int
  | 5 => .int
  | 6 => .int
  | _ => .object "CommitSites$Message"
abbrev wsX00 : List Cond := u_ws RX0 TX0 8
theorem nmX0 : ∀ a, a < 8 → ∀ b, b < 8 → a ≠ b → (TX0 a).2.1 ≠ (TX0 b).2.1 := by decide +kernel
theorem tyX0_ok : ∀ k, k < 8 → parseFieldDescriptor (TX0 k).2.2.1 = some (tyX0 k) := by decide +kernel
abbrev cX0_init : ByteArray := prog_2_method_1_code
def yX0_init : MethodName := ⟨RX0, "<init>", "()V"⟩
def RX1 : String := "CommitSites$Network"
def TX1 : u_T := fun k => match k with
  | 0 => ("CommitSites$Network", "delays", "[[I", true)
  | 1 => ("CommitSites$Network", "heads", "[LCommitSites$Message;", true)
  | 2 => ("CommitSites$Network", "tails", "[LCommitSites$Message;", true)
  | 3 => ("CommitSites$Network", "spare", "LCommitSites$Message;", false)
  | 4 => ("CommitSites$Network", "time", "I", false)
  | 5 => ("CommitSites$Network", "order", "I", false)
  | 6 => ("CommitSites$Network", "sent", "I", false)
  | 7 => ("CommitSites$Network", "lost", "I", false)
  | _ => ("CommitSites$Network", "onWay", "I", false)
def tyX1 : Nat → FieldType := fun k => match k with
  | 0 => .array (.array .int)
  | 1 => .array (.object "CommitSites$Message")
  | 2 => .array (.object "CommitSites$Message")
  | 3 => .object "CommitSites$Message"
  | 4 => .int
  | 5 => .int
  | 6 => .int
  | 7 => .int
  | _ => .int
abbrev wsX10 : List Cond := u_ws RX1 TX1 9
theorem nmX1 : ∀ a, a < 9 → ∀ b, b < 9 → a ≠ b → (TX1 a).2.1 ≠ (TX1 b).2.1 := by decide +kernel
theorem tyX1_ok : ∀ k, k < 9 → parseFieldDescriptor (TX1 k).2.2.1 = some (tyX1 k) := by decide +kernel
abbrev cX1_init : ByteArray := prog_3_method_1_code
def yX1_init : MethodName := ⟨RX1, "<init>", "()V"⟩
abbrev cX1_startAnew : ByteArray := prog_3_method_2_code
def yX1_startAnew : MethodName := ⟨RX1, "startAnew", "()V"⟩
abbrev cX1_nextOrder : ByteArray := prog_3_method_3_code
def yX1_nextOrder : MethodName := ⟨RX1, "nextOrder", "()I"⟩
abbrev cX1_send : ByteArray := prog_3_method_4_code
def yX1_send : MethodName := ⟨RX1, "send", "(IIIII)V"⟩
abbrev cX1_putOn : ByteArray := prog_3_method_5_code
def yX1_putOn : MethodName := ⟨RX1, "putOn", "(LCommitSites$Message;)V"⟩
abbrev cX1_first : ByteArray := prog_3_method_6_code
def yX1_first : MethodName := ⟨RX1, "first", "()LCommitSites$Message;"⟩
abbrev cX1_takeOff : ByteArray := prog_3_method_7_code
def yX1_takeOff : MethodName := ⟨RX1, "takeOff", "(LCommitSites$Message;)V"⟩
abbrev cX1_keepSpare : ByteArray := prog_3_method_8_code
def yX1_keepSpare : MethodName := ⟨RX1, "keepSpare", "(LCommitSites$Message;)V"⟩
def RX2 : String := "CommitSites$Site"
def TX2 : u_T := fun k => match k with
  | 0 => ("CommitSites$Site", "weight", "I", true)
  | 1 => ("CommitSites$Site", "stateOf", "[I", true)
  | 2 => ("CommitSites$Site", "there", "I", false)
  | 3 => ("CommitSites$Site", "up", "Z", false)
  | 4 => ("CommitSites$Site", "state", "I", false)
  | 5 => ("CommitSites$Site", "since", "I", false)
  | 6 => ("CommitSites$Site", "does", "I", false)
  | 7 => ("CommitSites$Site", "attempt", "I", false)
  | 8 => ("CommitSites$Site", "timer", "I", false)
  | _ => ("CommitSites$Site", "timerOrder", "I", false)
def tyX2 : Nat → FieldType := fun k => match k with
  | 0 => .int
  | 1 => .array .int
  | 2 => .int
  | 3 => .boolean
  | 4 => .int
  | 5 => .int
  | 6 => .int
  | 7 => .int
  | 8 => .int
  | _ => .int
abbrev wsX20 : List Cond := u_ws RX2 TX2 10
theorem nmX2 : ∀ a, a < 10 → ∀ b, b < 10 → a ≠ b → (TX2 a).2.1 ≠ (TX2 b).2.1 := by decide +kernel
theorem tyX2_ok : ∀ k, k < 10 → parseFieldDescriptor (TX2 k).2.2.1 = some (tyX2 k) := by decide +kernel
abbrev cX2_init : ByteArray := prog_4_method_1_code
def yX2_init : MethodName := ⟨RX2, "<init>", "(I)V"⟩
abbrev cX2_startAnew : ByteArray := prog_4_method_2_code
def yX2_startAnew : MethodName := ⟨RX2, "startAnew", "()V"⟩
abbrev cX2_isDecided : ByteArray := prog_4_method_3_code
def yX2_isDecided : MethodName := ⟨RX2, "isDecided", "()Z"⟩
abbrev cX2_collectsAcks : ByteArray := prog_4_method_4_code
def yX2_collectsAcks : MethodName := ⟨RX2, "collectsAcks", "()Z"⟩
abbrev cX2_runsOutEarlier : ByteArray := prog_4_method_5_code
def yX2_runsOutEarlier : MethodName := ⟨RX2, "runsOutEarlier", "(LCommitSites$Site;)Z"⟩
abbrev cX2_runsOutBefore : ByteArray := prog_4_method_6_code
def yX2_runsOutBefore : MethodName := ⟨RX2, "runsOutBefore", "(LCommitSites$Message;)Z"⟩
def RX3 : String := "CommitSites"
def TX3 : u_T := fun k => match k with
  | 0 => ("CommitSites", "sites", "[LCommitSites$Site;", true)
  | 1 => ("CommitSites", "network", "LCommitSites$Network;", true)
  | 2 => ("CommitSites", "latestEvent", "[I", true)
  | 3 => ("CommitSites", "siteCount", "I", false)
  | 4 => ("CommitSites", "allWeight", "I", false)
  | 5 => ("CommitSites", "commitQuorum", "I", false)
  | 6 => ("CommitSites", "abortQuorum", "I", false)
  | 7 => ("CommitSites", "patienceTicks", "I", false)
  | 8 => ("CommitSites", "begun", "Z", false)
  | 9 => ("CommitSites", "yesVotes", "I", false)
  | 10 => ("CommitSites", "messagesCome", "I", false)
  | _ => ("CommitSites", "timersRunOut", "I", false)
def tyX3 : Nat → FieldType := fun k => match k with
  | 0 => .array (.object "CommitSites$Site")
  | 1 => .object "CommitSites$Network"
  | 2 => .array .int
  | 3 => .int
  | 4 => .int
  | 5 => .int
  | 6 => .int
  | 7 => .int
  | 8 => .boolean
  | 9 => .int
  | 10 => .int
  | _ => .int
abbrev wsX30 : List Cond := u_ws RX3 TX3 12
theorem nmX3 : ∀ a, a < 12 → ∀ b, b < 12 → a ≠ b → (TX3 a).2.1 ≠ (TX3 b).2.1 := by decide +kernel
theorem tyX3_ok : ∀ k, k < 12 → parseFieldDescriptor (TX3 k).2.2.1 = some (tyX3 k) := by decide +kernel
abbrev cX3_init : ByteArray := prog_1_method_1_code
def yX3_init : MethodName := ⟨RX3, "<init>", "()V"⟩
abbrev cX3_site : ByteArray := prog_1_method_2_code
def yX3_site : MethodName := ⟨RX3, "site", "(I)I"⟩
abbrev cX3_quorums : ByteArray := prog_1_method_3_code
def yX3_quorums : MethodName := ⟨RX3, "quorums", "(II)I"⟩
abbrev cX3_link : ByteArray := prog_1_method_4_code
def yX3_link : MethodName := ⟨RX3, "link", "(III)I"⟩
abbrev cX3_part : ByteArray := prog_1_method_5_code
def yX3_part : MethodName := ⟨RX3, "part", "(II)I"⟩
abbrev cX3_patience : ByteArray := prog_1_method_6_code
def yX3_patience : MethodName := ⟨RX3, "patience", "(I)I"⟩
abbrev cX3_begin : ByteArray := prog_1_method_7_code
def yX3_begin : MethodName := ⟨RX3, "begin", "(II)I"⟩
abbrev cX3_crash : ByteArray := prog_1_method_8_code
def yX3_crash : MethodName := ⟨RX3, "crash", "(I)I"⟩
abbrev cX3_recover : ByteArray := prog_1_method_9_code
def yX3_recover : MethodName := ⟨RX3, "recover", "(I)I"⟩
abbrev cX3_run : ByteArray := prog_1_method_10_code
def yX3_run : MethodName := ⟨RX3, "run", "(I)I"⟩
abbrev cX3_step : ByteArray := prog_1_method_11_code
def yX3_step : MethodName := ⟨RX3, "step", "()I"⟩
abbrev cX3_reset : ByteArray := prog_1_method_12_code
def yX3_reset : MethodName := ⟨RX3, "reset", "()I"⟩
abbrev cX3_of : ByteArray := prog_1_method_13_code
def yX3_of : MethodName := ⟨RX3, "of", "(II)I"⟩
abbrev cX3_count : ByteArray := prog_1_method_14_code
def yX3_count : MethodName := ⟨RX3, "count", "(I)I"⟩
abbrev cX3_delay : ByteArray := prog_1_method_15_code
def yX3_delay : MethodName := ⟨RX3, "delay", "(II)I"⟩
abbrev cX3_weight : ByteArray := prog_1_method_16_code
def yX3_weight : MethodName := ⟨RX3, "weight", "(I)I"⟩
abbrev cX3_latest : ByteArray := prog_1_method_17_code
def yX3_latest : MethodName := ⟨RX3, "latest", "(I)I"⟩
abbrev cX3_check : ByteArray := prog_1_method_18_code
def yX3_check : MethodName := ⟨RX3, "check", "()I"⟩
abbrev cX3_isSite : ByteArray := prog_1_method_19_code
def yX3_isSite : MethodName := ⟨RX3, "isSite", "(I)Z"⟩
abbrev cX3_isLink : ByteArray := prog_1_method_20_code
def yX3_isLink : MethodName := ⟨RX3, "isLink", "(II)Z"⟩
abbrev cX3_hasBit : ByteArray := prog_1_method_21_code
def yX3_hasBit : MethodName := ⟨RX3, "hasBit", "(II)Z"⟩
abbrev cX3_everyone : ByteArray := prog_1_method_22_code
def yX3_everyone : MethodName := ⟨RX3, "everyone", "()I"⟩
abbrev cX3_allBut : ByteArray := prog_1_method_23_code
def yX3_allBut : MethodName := ⟨RX3, "allBut", "(I)I"⟩
abbrev cX3_shareQuorums : ByteArray := prog_1_method_24_code
def yX3_shareQuorums : MethodName := ⟨RX3, "shareQuorums", "()V"⟩
abbrev cX3_note : ByteArray := prog_1_method_25_code
def yX3_note : MethodName := ⟨RX3, "note", "(IIIII)V"⟩
abbrev cX3_takeNext : ByteArray := prog_1_method_26_code
def yX3_takeNext : MethodName := ⟨RX3, "takeNext", "(I)I"⟩
abbrev cX3_firstTimer : ByteArray := prog_1_method_27_code
def yX3_firstTimer : MethodName := ⟨RX3, "firstTimer", "()I"⟩
abbrev cX3_receive : ByteArray := prog_1_method_28_code
def yX3_receive : MethodName := ⟨RX3, "receive", "(LCommitSites$Message;)V"⟩
abbrev cX3_onAskVote : ByteArray := prog_1_method_29_code
def yX3_onAskVote : MethodName := ⟨RX3, "onAskVote", "(II)V"⟩
abbrev cX3_onYes : ByteArray := prog_1_method_30_code
def yX3_onYes : MethodName := ⟨RX3, "onYes", "(II)V"⟩
abbrev cX3_onNo : ByteArray := prog_1_method_31_code
def yX3_onNo : MethodName := ⟨RX3, "onNo", "(I)V"⟩
abbrev cX3_onAskState : ByteArray := prog_1_method_32_code
def yX3_onAskState : MethodName := ⟨RX3, "onAskState", "(III)V"⟩
abbrev cX3_onState : ByteArray := prog_1_method_33_code
def yX3_onState : MethodName := ⟨RX3, "onState", "(IIII)V"⟩
abbrev cX3_onAskReady : ByteArray := prog_1_method_34_code
def yX3_onAskReady : MethodName := ⟨RX3, "onAskReady", "(IIII)V"⟩
abbrev cX3_onAcknowledge : ByteArray := prog_1_method_35_code
def yX3_onAcknowledge : MethodName := ⟨RX3, "onAcknowledge", "(III)V"⟩
abbrev cX3_onDecision : ByteArray := prog_1_method_36_code
def yX3_onDecision : MethodName := ⟨RX3, "onDecision", "(II)V"⟩
abbrev cX3_runOut : ByteArray := prog_1_method_37_code
def yX3_runOut : MethodName := ⟨RX3, "runOut", "(I)V"⟩
abbrev cX3_askVotes : ByteArray := prog_1_method_38_code
def yX3_askVotes : MethodName := ⟨RX3, "askVotes", "(I)V"⟩
abbrev cX3_attempt : ByteArray := prog_1_method_39_code
def yX3_attempt : MethodName := ⟨RX3, "attempt", "(I)V"⟩
abbrev cX3_lead : ByteArray := prog_1_method_40_code
def yX3_lead : MethodName := ⟨RX3, "lead", "(II)V"⟩
abbrev cX3_decide : ByteArray := prog_1_method_41_code
def yX3_decide : MethodName := ⟨RX3, "decide", "(II)V"⟩
abbrev cX3_tidingsOf : ByteArray := prog_1_method_42_code
def yX3_tidingsOf : MethodName := ⟨RX3, "tidingsOf", "(I)I"⟩
abbrev cX3_yieldTo : ByteArray := prog_1_method_43_code
def yX3_yieldTo : MethodName := ⟨RX3, "yieldTo", "(II)V"⟩
abbrev cX3_become : ByteArray := prog_1_method_44_code
def yX3_become : MethodName := ⟨RX3, "become", "(LCommitSites$Site;I)V"⟩
abbrev cX3_setTimer : ByteArray := prog_1_method_45_code
def yX3_setTimer : MethodName := ⟨RX3, "setTimer", "(LCommitSites$Site;I)V"⟩
abbrev cX3_hasQuorum : ByteArray := prog_1_method_46_code
def yX3_hasQuorum : MethodName := ⟨RX3, "hasQuorum", "(LCommitSites$Site;)Z"⟩
abbrev cX3_toldWeight : ByteArray := prog_1_method_47_code
def yX3_toldWeight : MethodName := ⟨RX3, "toldWeight", "(LCommitSites$Site;I)I"⟩
def RX4 : String := "CommitSitesModel"
def TX4 : u_T := fun k => match k with
  | 0 => ("CommitSitesModel", "thrown", "I", false)
  | 1 => ("CommitSitesModel", "sites", "I", false)
  | 2 => ("CommitSitesModel", "weights", "[I", true)
  | 3 => ("CommitSitesModel", "commitQuorum", "I", false)
  | 4 => ("CommitSitesModel", "abortQuorum", "I", false)
  | 5 => ("CommitSitesModel", "patience", "I", false)
  | 6 => ("CommitSitesModel", "delays", "[I", true)
  | 7 => ("CommitSitesModel", "begun", "Z", false)
  | 8 => ("CommitSitesModel", "now", "I", false)
  | 9 => ("CommitSitesModel", "numbers", "I", false)
  | 10 => ("CommitSitesModel", "sent", "I", false)
  | 11 => ("CommitSitesModel", "come", "I", false)
  | 12 => ("CommitSitesModel", "lost", "I", false)
  | 13 => ("CommitSitesModel", "rang", "I", false)
  | 14 => ("CommitSitesModel", "states", "[I", true)
  | 15 => ("CommitSitesModel", "since", "[I", true)
  | 16 => ("CommitSitesModel", "down", "[Z", true)
  | 17 => ("CommitSitesModel", "votes", "[Z", true)
  | 18 => ("CommitSitesModel", "doing", "[I", true)
  | 19 => ("CommitSitesModel", "attempts", "[I", true)
  | 20 => ("CommitSitesModel", "there", "[I", true)
  | 21 => ("CommitSitesModel", "timers", "[I", true)
  | 22 => ("CommitSitesModel", "timerNumbers", "[I", true)
  | 23 => ("CommitSitesModel", "kinds", "[I", true)
  | 24 => ("CommitSitesModel", "froms", "[I", true)
  | 25 => ("CommitSitesModel", "tos", "[I", true)
  | 26 => ("CommitSitesModel", "attemptsTold", "[I", true)
  | 27 => ("CommitSitesModel", "statesTold", "[I", true)
  | 28 => ("CommitSitesModel", "times", "[I", true)
  | 29 => ("CommitSitesModel", "order", "[I", true)
  | 30 => ("CommitSitesModel", "messages", "I", false)
  | 31 => ("CommitSitesModel", "latest", "[I", true)
  | 32 => ("CommitSitesModel", "nextWhat", "I", false)
  | _ => ("CommitSitesModel", "nextTime", "I", false)
def tyX4 : Nat → FieldType := fun k => match k with
  | 0 => .int
  | 1 => .int
  | 2 => .array .int
  | 3 => .int
  | 4 => .int
  | 5 => .int
  | 6 => .array .int
  | 7 => .boolean
  | 8 => .int
  | 9 => .int
  | 10 => .int
  | 11 => .int
  | 12 => .int
  | 13 => .int
  | 14 => .array .int
  | 15 => .array .int
  | 16 => .array .boolean
  | 17 => .array .boolean
  | 18 => .array .int
  | 19 => .array .int
  | 20 => .array .int
  | 21 => .array .int
  | 22 => .array .int
  | 23 => .array .int
  | 24 => .array .int
  | 25 => .array .int
  | 26 => .array .int
  | 27 => .array .int
  | 28 => .array .int
  | 29 => .array .int
  | 30 => .int
  | 31 => .array .int
  | 32 => .int
  | _ => .int
abbrev wsX40 : List Cond := u_ws RX4 TX4 34
theorem nmX4 : ∀ a, a < 34 → ∀ b, b < 34 → a ≠ b → (TX4 a).2.1 ≠ (TX4 b).2.1 := by decide +kernel
theorem tyX4_ok : ∀ k, k < 34 → parseFieldDescriptor (TX4 k).2.2.1 = some (tyX4 k) := by decide +kernel
abbrev cX4_init : ByteArray := prog_6_method_1_code
def yX4_init : MethodName := ⟨RX4, "<init>", "()V"⟩
abbrev cX4_isSite : ByteArray := prog_6_method_3_code
def yX4_isSite : MethodName := ⟨RX4, "isSite", "(I)Z"⟩
abbrev cX4_all : ByteArray := prog_6_method_4_code
def yX4_all : MethodName := ⟨RX4, "all", "()I"⟩
abbrev cX4_site : ByteArray := prog_6_method_5_code
def yX4_site : MethodName := ⟨RX4, "site", "(I)I"⟩
abbrev cX4_quorums : ByteArray := prog_6_method_6_code
def yX4_quorums : MethodName := ⟨RX4, "quorums", "(II)I"⟩
abbrev cX4_link : ByteArray := prog_6_method_7_code
def yX4_link : MethodName := ⟨RX4, "link", "(III)I"⟩
abbrev cX4_part : ByteArray := prog_6_method_8_code
def yX4_part : MethodName := ⟨RX4, "part", "(II)I"⟩
abbrev cX4_patience : ByteArray := prog_6_method_9_code
def yX4_patience : MethodName := ⟨RX4, "patience", "(I)I"⟩
abbrev cX4_send : ByteArray := prog_6_method_10_code
def yX4_send : MethodName := ⟨RX4, "send", "(IIIII)V"⟩
abbrev cX4_sendAll : ByteArray := prog_6_method_11_code
def yX4_sendAll : MethodName := ⟨RX4, "sendAll", "(III)V"⟩
abbrev cX4_setTimer : ByteArray := prog_6_method_12_code
def yX4_setTimer : MethodName := ⟨RX4, "setTimer", "(II)V"⟩
abbrev cX4_isDecided : ByteArray := prog_6_method_13_code
def yX4_isDecided : MethodName := ⟨RX4, "isDecided", "(I)Z"⟩
abbrev cX4_become : ByteArray := prog_6_method_14_code
def yX4_become : MethodName := ⟨RX4, "become", "(II)V"⟩
abbrev cX4_decide : ByteArray := prog_6_method_15_code
def yX4_decide : MethodName := ⟨RX4, "decide", "(II)V"⟩
abbrev cX4_clearThere : ByteArray := prog_6_method_16_code
def yX4_clearThere : MethodName := ⟨RX4, "clearThere", "(II)V"⟩
abbrev cX4_weightThere : ByteArray := prog_6_method_17_code
def yX4_weightThere : MethodName := ⟨RX4, "weightThere", "(I)I"⟩
abbrev cX4_checkVotes : ByteArray := prog_6_method_18_code
def yX4_checkVotes : MethodName := ⟨RX4, "checkVotes", "(I)V"⟩
abbrev cX4_lead : ByteArray := prog_6_method_19_code
def yX4_lead : MethodName := ⟨RX4, "lead", "(II)V"⟩
abbrev cX4_checkQuorum : ByteArray := prog_6_method_20_code
def yX4_checkQuorum : MethodName := ⟨RX4, "checkQuorum", "(I)V"⟩
abbrev cX4_attempt : ByteArray := prog_6_method_21_code
def yX4_attempt : MethodName := ⟨RX4, "attempt", "(I)V"⟩
abbrev cX4_begin : ByteArray := prog_6_method_22_code
def yX4_begin : MethodName := ⟨RX4, "begin", "(II)I"⟩
abbrev cX4_crash : ByteArray := prog_6_method_23_code
def yX4_crash : MethodName := ⟨RX4, "crash", "(I)I"⟩
abbrev cX4_recover : ByteArray := prog_6_method_24_code
def yX4_recover : MethodName := ⟨RX4, "recover", "(I)I"⟩
abbrev cX4_yieldTo : ByteArray := prog_6_method_25_code
def yX4_yieldTo : MethodName := ⟨RX4, "yieldTo", "(II)V"⟩
abbrev cX4_handle : ByteArray := prog_6_method_26_code
def yX4_handle : MethodName := ⟨RX4, "handle", "(IIIII)V"⟩
abbrev cX4_prepare : ByteArray := prog_6_method_27_code
def yX4_prepare : MethodName := ⟨RX4, "prepare", "(IIII)V"⟩
abbrev cX4_weightOf : ByteArray := prog_6_method_28_code
def yX4_weightOf : MethodName := ⟨RX4, "weightOf", "(II)I"⟩
abbrev cX4_ring : ByteArray := prog_6_method_29_code
def yX4_ring : MethodName := ⟨RX4, "ring", "(I)V"⟩
abbrev cX4_findNext : ByteArray := prog_6_method_30_code
def yX4_findNext : MethodName := ⟨RX4, "findNext", "()V"⟩
abbrev cX4_tell : ByteArray := prog_6_method_31_code
def yX4_tell : MethodName := ⟨RX4, "tell", "(IIIII)V"⟩
abbrev cX4_take : ByteArray := prog_6_method_32_code
def yX4_take : MethodName := ⟨RX4, "take", "()Z"⟩
abbrev cX4_run : ByteArray := prog_6_method_33_code
def yX4_run : MethodName := ⟨RX4, "run", "(I)I"⟩
abbrev cX4_step : ByteArray := prog_6_method_34_code
def yX4_step : MethodName := ⟨RX4, "step", "()I"⟩
abbrev cX4_reset : ByteArray := prog_6_method_35_code
def yX4_reset : MethodName := ⟨RX4, "reset", "()I"⟩
abbrev cX4_of : ByteArray := prog_6_method_36_code
def yX4_of : MethodName := ⟨RX4, "of", "(II)I"⟩
abbrev cX4_count : ByteArray := prog_6_method_37_code
def yX4_count : MethodName := ⟨RX4, "count", "(I)I"⟩
abbrev cX4_delay : ByteArray := prog_6_method_38_code
def yX4_delay : MethodName := ⟨RX4, "delay", "(II)I"⟩
abbrev cX4_weight : ByteArray := prog_6_method_39_code
def yX4_weight : MethodName := ⟨RX4, "weight", "(I)I"⟩
abbrev cX4_latest : ByteArray := prog_6_method_40_code
def yX4_latest : MethodName := ⟨RX4, "latest", "(I)I"⟩
abbrev cX4_check : ByteArray := prog_6_method_41_code
def yX4_check : MethodName := ⟨RX4, "check", "()I"⟩
def RL : String := "CommitSitesLaw"
abbrev cL_law : ByteArray := code
def yL_law : MethodName := ⟨RL, "law", "([I)Z"⟩
abbrev vwCl : List vw_C := [(RX0, TX0, 8), (RX1, TX1, 9), (RX2, TX2, 10), (RX3, TX3, 12), (RX4, TX4, 34)]
end
section
/-- the words that a callee may be handed -/
def lw_B : List Cond := lw_tbl.filter goodWord
theorem it_tables_1_1 : ∀ w ∈ tables_1_1, w ∈ lw_tbl := fun _ h => List.mem_append_right _ (List.mem_append_left _ h)
theorem it_tables_1_2 : ∀ w ∈ tables_1_2, w ∈ lw_tbl := fun _ h => List.mem_append_right _ (List.mem_append_right _ (List.mem_append_left _ h))
theorem it_tables_1_3 : ∀ w ∈ tables_1_3, w ∈ lw_tbl := fun _ h => List.mem_append_right _ (List.mem_append_right _ (List.mem_append_right _ h))
theorem tw_0 : (Cond.initialized "CommitSitesLaw") ∈ lw_B := List.mem_filter.mpr ⟨it_tables_1_1 _ (List.mem_of_getElem? (i := 0) rfl), rfl⟩
theorem tw_1 : (Cond.initialized "CommitSites") ∈ lw_B := List.mem_filter.mpr ⟨it_tables_1_1 _ (List.mem_of_getElem? (i := 1) rfl), rfl⟩
theorem tw_2 : (Cond.initialized "CommitSites$Network") ∈ lw_B := List.mem_filter.mpr ⟨it_tables_1_1 _ (List.mem_of_getElem? (i := 2) rfl), rfl⟩
theorem tw_3 : (Cond.initialized "CommitSitesModel") ∈ lw_B := List.mem_filter.mpr ⟨it_tables_1_1 _ (List.mem_of_getElem? (i := 3) rfl), rfl⟩
theorem tw_4 : (Cond.initialized "CommitSites$Site") ∈ lw_B := List.mem_filter.mpr ⟨it_tables_1_1 _ (List.mem_of_getElem? (i := 4) rfl), rfl⟩
theorem tw_5 : (Cond.initialized "CommitSites$Message") ∈ lw_B := List.mem_filter.mpr ⟨it_tables_1_1 _ (List.mem_of_getElem? (i := 5) rfl), rfl⟩
theorem tw_6 : (Cond.classLink "CommitSitesLaw" 7 "CommitSites") ∈ lw_B := List.mem_filter.mpr ⟨it_tables_1_1 _ (List.mem_of_getElem? (i := 6) rfl), rfl⟩
theorem tw_7 : (Cond.instantiable "CommitSites" 12) ∈ lw_B := List.mem_filter.mpr ⟨it_tables_1_1 _ (List.mem_of_getElem? (i := 7) rfl), rfl⟩
theorem tw_8 : (Cond.methodLink "CommitSitesLaw" 9 yX3_init) ∈ lw_B := List.mem_filter.mpr ⟨it_tables_1_1 _ (List.mem_of_getElem? (i := 8) rfl), rfl⟩
theorem tw_9 : (Cond.instanceMethod yX3_init) ∈ lw_B := List.mem_filter.mpr ⟨it_tables_1_1 _ (List.mem_of_getElem? (i := 9) rfl), rfl⟩
theorem tw_10 : (Cond.code yX3_init cX3_init 1 none) ∈ lw_B := List.mem_filter.mpr ⟨it_tables_1_1 _ (List.mem_of_getElem? (i := 10) rfl), rfl⟩
theorem tw_11 : (Cond.methodLink "CommitSites" 1 objectInit) ∈ lw_B := List.mem_filter.mpr ⟨it_tables_1_1 _ (List.mem_of_getElem? (i := 11) rfl), rfl⟩
theorem tw_12 : (Cond.instanceMethod objectInit) ∈ lw_B := List.mem_filter.mpr ⟨it_tables_1_1 _ (List.mem_of_getElem? (i := 12) rfl), rfl⟩
theorem tw_13 : (Cond.code objectInit ⟨#[0xb1]⟩ 1 none) ∈ lw_B := List.mem_filter.mpr ⟨it_tables_1_1 _ (List.mem_of_getElem? (i := 13) rfl), rfl⟩
theorem tw_14 : (Cond.classLink "CommitSites" 9 "CommitSites$Site") ∈ lw_B := List.mem_filter.mpr ⟨it_tables_1_1 _ (List.mem_of_getElem? (i := 14) rfl), rfl⟩
theorem tw_15 : (Cond.arrayOver (.object "CommitSites$Site")) ∈ lw_tbl := it_tables_1_1 _ (List.mem_of_getElem? (i := 15) rfl)
theorem tw_16 : (Cond.classLink "CommitSites" 15 "CommitSites$Network") ∈ lw_B := List.mem_filter.mpr ⟨it_tables_1_1 _ (List.mem_of_getElem? (i := 16) rfl), rfl⟩
theorem tw_17 : (Cond.instantiable "CommitSites$Network" 9) ∈ lw_B := List.mem_filter.mpr ⟨it_tables_1_1 _ (List.mem_of_getElem? (i := 17) rfl), rfl⟩
theorem tw_18 : (Cond.methodLink "CommitSites" 17 yX1_init) ∈ lw_B := List.mem_filter.mpr ⟨it_tables_1_1 _ (List.mem_of_getElem? (i := 18) rfl), rfl⟩
theorem tw_19 : (Cond.instanceMethod yX1_init) ∈ lw_B := List.mem_filter.mpr ⟨it_tables_1_1 _ (List.mem_of_getElem? (i := 19) rfl), rfl⟩
theorem tw_20 : (Cond.code yX1_init cX1_init 3 none) ∈ lw_B := List.mem_filter.mpr ⟨it_tables_1_1 _ (List.mem_of_getElem? (i := 20) rfl), rfl⟩
theorem tw_21 : (Cond.methodLink "CommitSites$Network" 3 objectInit) ∈ lw_B := List.mem_filter.mpr ⟨it_tables_1_1 _ (List.mem_of_getElem? (i := 21) rfl), rfl⟩
theorem tw_22 : (Cond.classLink "CommitSites$Network" 9 "[[I") ∈ lw_B := List.mem_filter.mpr ⟨it_tables_1_1 _ (List.mem_of_getElem? (i := 22) rfl), rfl⟩
theorem tw_23 : (Cond.arrayOver (.array .int)) ∈ lw_tbl := it_tables_1_1 _ (List.mem_of_getElem? (i := 23) rfl)
theorem tw_24 : (Cond.classLink "CommitSites$Network" 16 "CommitSites$Message") ∈ lw_B := List.mem_filter.mpr ⟨it_tables_1_1 _ (List.mem_of_getElem? (i := 24) rfl), rfl⟩
theorem tw_25 : (Cond.arrayOver (.object "CommitSites$Message")) ∈ lw_tbl := it_tables_1_1 _ (List.mem_of_getElem? (i := 25) rfl)
theorem tw_26 : (Cond.fieldLink "CommitSites$Network" 11 "CommitSites$Network" "delays" "[[I") ∈ lw_B := List.mem_filter.mpr ⟨it_tables_1_1 _ (List.mem_of_getElem? (i := 26) rfl), rfl⟩
theorem tw_27 : (Cond.fieldLink "CommitSites" 60 "CommitSites$Network" "delays" "[[I") ∈ lw_B := List.mem_filter.mpr ⟨it_tables_1_1 _ (List.mem_of_getElem? (i := 27) rfl), rfl⟩
theorem tw_28 : (Cond.fieldLink "CommitSites$Network" 18 "CommitSites$Network" "heads" "[LCommitSites$Message;") ∈ lw_B := List.mem_filter.mpr ⟨it_tables_1_1 _ (List.mem_of_getElem? (i := 28) rfl), rfl⟩
theorem tw_29 : (Cond.fieldLink "CommitSites$Network" 22 "CommitSites$Network" "tails" "[LCommitSites$Message;") ∈ lw_B := List.mem_filter.mpr ⟨it_tables_1_1 _ (List.mem_of_getElem? (i := 29) rfl), rfl⟩
theorem tw_30 : (Cond.fieldLink "CommitSites$Network" 25 "CommitSites$Network" "spare" "LCommitSites$Message;") ∈ lw_B := List.mem_filter.mpr ⟨it_tables_1_1 _ (List.mem_of_getElem? (i := 30) rfl), rfl⟩
theorem tw_31 : (Cond.fieldLink "CommitSites$Network" 32 "CommitSites$Network" "time" "I") ∈ lw_B := List.mem_filter.mpr ⟨it_tables_1_1 _ (List.mem_of_getElem? (i := 31) rfl), rfl⟩
theorem tw_32 : (Cond.fieldLink "CommitSites" 104 "CommitSites$Network" "time" "I") ∈ lw_B := List.mem_filter.mpr ⟨it_tables_1_1 _ (List.mem_of_getElem? (i := 32) rfl), rfl⟩
theorem tw_33 : (Cond.fieldLink "CommitSites$Network" 36 "CommitSites$Network" "order" "I") ∈ lw_B := List.mem_filter.mpr ⟨it_tables_1_1 _ (List.mem_of_getElem? (i := 33) rfl), rfl⟩
theorem tw_34 : (Cond.fieldLink "CommitSites$Network" 39 "CommitSites$Network" "sent" "I") ∈ lw_B := List.mem_filter.mpr ⟨it_tables_1_1 _ (List.mem_of_getElem? (i := 34) rfl), rfl⟩
theorem tw_35 : (Cond.fieldLink "CommitSites" 130 "CommitSites$Network" "sent" "I") ∈ lw_B := List.mem_filter.mpr ⟨it_tables_1_1 _ (List.mem_of_getElem? (i := 35) rfl), rfl⟩
theorem tw_36 : (Cond.fieldLink "CommitSites$Network" 42 "CommitSites$Network" "lost" "I") ∈ lw_B := List.mem_filter.mpr ⟨it_tables_1_1 _ (List.mem_of_getElem? (i := 36) rfl), rfl⟩
theorem tw_37 : (Cond.fieldLink "CommitSites" 133 "CommitSites$Network" "lost" "I") ∈ lw_B := List.mem_filter.mpr ⟨it_tables_1_1 _ (List.mem_of_getElem? (i := 37) rfl), rfl⟩
theorem tw_38 : (Cond.fieldLink "CommitSites$Network" 45 "CommitSites$Network" "onWay" "I") ∈ lw_B := List.mem_filter.mpr ⟨it_tables_1_1 _ (List.mem_of_getElem? (i := 38) rfl), rfl⟩
theorem tw_39 : (Cond.fieldLink "CommitSites" 136 "CommitSites$Network" "onWay" "I") ∈ lw_B := List.mem_filter.mpr ⟨it_tables_1_1 _ (List.mem_of_getElem? (i := 39) rfl), rfl⟩
theorem tw_40 : (Cond.arrayClass (.int)) ∈ lw_B := List.mem_filter.mpr ⟨it_tables_1_1 _ (List.mem_of_getElem? (i := 59) rfl), rfl⟩
theorem tw_41 : (Cond.methodLink "CommitSites" 30 yX3_shareQuorums) ∈ lw_B := List.mem_filter.mpr ⟨it_tables_1_1 _ (List.mem_of_getElem? (i := 60) rfl), rfl⟩
theorem tw_42 : (Cond.instanceMethod yX3_shareQuorums) ∈ lw_B := List.mem_filter.mpr ⟨it_tables_1_1 _ (List.mem_of_getElem? (i := 62) rfl), rfl⟩
theorem tw_43 : (Cond.code yX3_shareQuorums cX3_shareQuorums 1 none) ∈ lw_B := List.mem_filter.mpr ⟨it_tables_1_1 _ (List.mem_of_getElem? (i := 63) rfl), rfl⟩
theorem tw_44 : (Cond.methodLink "CommitSites" 33 yX3_note) ∈ lw_B := List.mem_filter.mpr ⟨it_tables_1_1 _ (List.mem_of_getElem? (i := 64) rfl), rfl⟩
theorem tw_45 : (Cond.instanceMethod yX3_note) ∈ lw_B := List.mem_filter.mpr ⟨it_tables_1_1 _ (List.mem_of_getElem? (i := 66) rfl), rfl⟩
theorem tw_46 : (Cond.code yX3_note cX3_note 6 none) ∈ lw_B := List.mem_filter.mpr ⟨it_tables_1_1 _ (List.mem_of_getElem? (i := 67) rfl), rfl⟩
theorem tw_47 : (Cond.fieldLink "CommitSites" 11 "CommitSites" "sites" "[LCommitSites$Site;") ∈ lw_B := List.mem_filter.mpr ⟨it_tables_1_1 _ (List.mem_of_getElem? (i := 68) rfl), rfl⟩
theorem tw_48 : (Cond.fieldLink "CommitSites" 18 "CommitSites" "network" "LCommitSites$Network;") ∈ lw_B := List.mem_filter.mpr ⟨it_tables_1_1 _ (List.mem_of_getElem? (i := 69) rfl), rfl⟩
theorem tw_49 : (Cond.fieldLink "CommitSites" 22 "CommitSites" "latestEvent" "[I") ∈ lw_B := List.mem_filter.mpr ⟨it_tables_1_1 _ (List.mem_of_getElem? (i := 70) rfl), rfl⟩
theorem tw_50 : (Cond.fieldLink "CommitSites" 41 "CommitSites" "siteCount" "I") ∈ lw_B := List.mem_filter.mpr ⟨it_tables_1_1 _ (List.mem_of_getElem? (i := 71) rfl), rfl⟩
theorem tw_51 : (Cond.fieldLink "CommitSites" 47 "CommitSites" "allWeight" "I") ∈ lw_B := List.mem_filter.mpr ⟨it_tables_1_1 _ (List.mem_of_getElem? (i := 72) rfl), rfl⟩
theorem tw_52 : (Cond.fieldLink "CommitSites" 50 "CommitSites" "commitQuorum" "I") ∈ lw_B := List.mem_filter.mpr ⟨it_tables_1_1 _ (List.mem_of_getElem? (i := 73) rfl), rfl⟩
theorem tw_53 : (Cond.fieldLink "CommitSites" 53 "CommitSites" "abortQuorum" "I") ∈ lw_B := List.mem_filter.mpr ⟨it_tables_1_1 _ (List.mem_of_getElem? (i := 74) rfl), rfl⟩
theorem tw_54 : (Cond.fieldLink "CommitSites" 26 "CommitSites" "patienceTicks" "I") ∈ lw_B := List.mem_filter.mpr ⟨it_tables_1_1 _ (List.mem_of_getElem? (i := 75) rfl), rfl⟩
theorem tw_55 : (Cond.fieldLink "CommitSites" 37 "CommitSites" "begun" "Z") ∈ lw_B := List.mem_filter.mpr ⟨it_tables_1_1 _ (List.mem_of_getElem? (i := 76) rfl), rfl⟩
theorem tw_56 : (Cond.fieldLink "CommitSites" 74 "CommitSites" "yesVotes" "I") ∈ lw_B := List.mem_filter.mpr ⟨it_tables_1_1 _ (List.mem_of_getElem? (i := 77) rfl), rfl⟩
theorem tw_57 : (Cond.fieldLink "CommitSites" 112 "CommitSites" "messagesCome" "I") ∈ lw_B := List.mem_filter.mpr ⟨it_tables_1_1 _ (List.mem_of_getElem? (i := 78) rfl), rfl⟩
theorem tw_58 : (Cond.fieldLink "CommitSites" 115 "CommitSites" "timersRunOut" "I") ∈ lw_B := List.mem_filter.mpr ⟨it_tables_1_1 _ (List.mem_of_getElem? (i := 79) rfl), rfl⟩
theorem tw_59 : (Cond.methodLink "CommitSitesLaw" 13 yX3_site) ∈ lw_B := List.mem_filter.mpr ⟨it_tables_1_1 _ (List.mem_of_getElem? (i := 105) rfl), rfl⟩
theorem tw_60 : (Cond.instanceMethod yX3_site) ∈ lw_B := List.mem_filter.mpr ⟨it_tables_1_1 _ (List.mem_of_getElem? (i := 106) rfl), rfl⟩
theorem tw_61 : (Cond.selects "CommitSites" yX3_site yX3_site) ∈ lw_B := List.mem_filter.mpr ⟨it_tables_1_1 _ (List.mem_of_getElem? (i := 107) rfl), rfl⟩
theorem tw_62 : (Cond.code yX3_site cX3_site 2 (some .int)) ∈ lw_B := List.mem_filter.mpr ⟨it_tables_1_1 _ (List.mem_of_getElem? (i := 108) rfl), rfl⟩
theorem tw_63 : (Cond.instantiable "CommitSites$Site" 10) ∈ lw_B := List.mem_filter.mpr ⟨it_tables_1_1 _ (List.mem_of_getElem? (i := 109) rfl), rfl⟩
theorem tw_64 : (Cond.methodLink "CommitSites" 44 yX2_init) ∈ lw_B := List.mem_filter.mpr ⟨it_tables_1_1 _ (List.mem_of_getElem? (i := 110) rfl), rfl⟩
theorem tw_65 : (Cond.instanceMethod yX2_init) ∈ lw_B := List.mem_filter.mpr ⟨it_tables_1_1 _ (List.mem_of_getElem? (i := 111) rfl), rfl⟩
theorem tw_66 : (Cond.code yX2_init cX2_init 2 none) ∈ lw_B := List.mem_filter.mpr ⟨it_tables_1_1 _ (List.mem_of_getElem? (i := 112) rfl), rfl⟩
theorem tw_67 : (Cond.methodLink "CommitSites$Site" 3 objectInit) ∈ lw_B := List.mem_filter.mpr ⟨it_tables_1_1 _ (List.mem_of_getElem? (i := 113) rfl), rfl⟩
theorem tw_68 : (Cond.methodLink "CommitSites$Site" 19 yX2_startAnew) ∈ lw_B := List.mem_filter.mpr ⟨it_tables_1_1 _ (List.mem_of_getElem? (i := 114) rfl), rfl⟩
theorem tw_69 : (Cond.instanceMethod yX2_startAnew) ∈ lw_B := List.mem_filter.mpr ⟨it_tables_1_1 _ (List.mem_of_getElem? (i := 115) rfl), rfl⟩
theorem tw_70 : (Cond.selects "CommitSites$Site" yX2_startAnew yX2_startAnew) ∈ lw_B := List.mem_filter.mpr ⟨it_tables_1_1 _ (List.mem_of_getElem? (i := 116) rfl), rfl⟩
theorem tw_71 : (Cond.code yX2_startAnew cX2_startAnew 1 none) ∈ lw_B := List.mem_filter.mpr ⟨it_tables_1_1 _ (List.mem_of_getElem? (i := 117) rfl), rfl⟩
theorem tw_72 : (Cond.fieldLink "CommitSites$Site" 15 "CommitSites$Site" "weight" "I") ∈ lw_B := List.mem_filter.mpr ⟨it_tables_1_1 _ (List.mem_of_getElem? (i := 118) rfl), rfl⟩
theorem tw_73 : (Cond.fieldLink "CommitSites" 124 "CommitSites$Site" "weight" "I") ∈ lw_B := List.mem_filter.mpr ⟨it_tables_1_1 _ (List.mem_of_getElem? (i := 119) rfl), rfl⟩
theorem tw_74 : (Cond.fieldLink "CommitSites$Site" 9 "CommitSites$Site" "stateOf" "[I") ∈ lw_B := List.mem_filter.mpr ⟨it_tables_1_1 _ (List.mem_of_getElem? (i := 120) rfl), rfl⟩
theorem tw_75 : (Cond.fieldLink "CommitSites" 228 "CommitSites$Site" "stateOf" "[I") ∈ lw_B := List.mem_filter.mpr ⟨it_tables_1_1 _ (List.mem_of_getElem? (i := 121) rfl), rfl⟩
theorem tw_76 : (Cond.fieldLink "CommitSites$Site" 22 "CommitSites$Site" "there" "I") ∈ lw_B := List.mem_filter.mpr ⟨it_tables_1_1 _ (List.mem_of_getElem? (i := 122) rfl), rfl⟩
theorem tw_77 : (Cond.fieldLink "CommitSites" 219 "CommitSites$Site" "there" "I") ∈ lw_B := List.mem_filter.mpr ⟨it_tables_1_1 _ (List.mem_of_getElem? (i := 123) rfl), rfl⟩
theorem tw_78 : (Cond.fieldLink "CommitSites$Site" 25 "CommitSites$Site" "up" "Z") ∈ lw_B := List.mem_filter.mpr ⟨it_tables_1_1 _ (List.mem_of_getElem? (i := 124) rfl), rfl⟩
theorem tw_79 : (Cond.fieldLink "CommitSites" 71 "CommitSites$Site" "up" "Z") ∈ lw_B := List.mem_filter.mpr ⟨it_tables_1_1 _ (List.mem_of_getElem? (i := 125) rfl), rfl⟩
theorem tw_80 : (Cond.fieldLink "CommitSites$Site" 29 "CommitSites$Site" "state" "I") ∈ lw_B := List.mem_filter.mpr ⟨it_tables_1_1 _ (List.mem_of_getElem? (i := 126) rfl), rfl⟩
theorem tw_81 : (Cond.fieldLink "CommitSites" 90 "CommitSites$Site" "state" "I") ∈ lw_B := List.mem_filter.mpr ⟨it_tables_1_1 _ (List.mem_of_getElem? (i := 127) rfl), rfl⟩
theorem tw_82 : (Cond.fieldLink "CommitSites$Site" 32 "CommitSites$Site" "since" "I") ∈ lw_B := List.mem_filter.mpr ⟨it_tables_1_1 _ (List.mem_of_getElem? (i := 128) rfl), rfl⟩
theorem tw_83 : (Cond.fieldLink "CommitSites" 127 "CommitSites$Site" "since" "I") ∈ lw_B := List.mem_filter.mpr ⟨it_tables_1_1 _ (List.mem_of_getElem? (i := 129) rfl), rfl⟩
theorem tw_84 : (Cond.fieldLink "CommitSites$Site" 35 "CommitSites$Site" "does" "I") ∈ lw_B := List.mem_filter.mpr ⟨it_tables_1_1 _ (List.mem_of_getElem? (i := 130) rfl), rfl⟩
theorem tw_85 : (Cond.fieldLink "CommitSites" 84 "CommitSites$Site" "does" "I") ∈ lw_B := List.mem_filter.mpr ⟨it_tables_1_1 _ (List.mem_of_getElem? (i := 131) rfl), rfl⟩
theorem tw_86 : (Cond.fieldLink "CommitSites$Site" 38 "CommitSites$Site" "attempt" "I") ∈ lw_B := List.mem_filter.mpr ⟨it_tables_1_1 _ (List.mem_of_getElem? (i := 132) rfl), rfl⟩
theorem tw_87 : (Cond.fieldLink "CommitSites" 122 "CommitSites$Site" "attempt" "I") ∈ lw_B := List.mem_filter.mpr ⟨it_tables_1_1 _ (List.mem_of_getElem? (i := 133) rfl), rfl⟩
theorem tw_88 : (Cond.fieldLink "CommitSites$Site" 41 "CommitSites$Site" "timer" "I") ∈ lw_B := List.mem_filter.mpr ⟨it_tables_1_1 _ (List.mem_of_getElem? (i := 134) rfl), rfl⟩
theorem tw_89 : (Cond.fieldLink "CommitSites" 87 "CommitSites$Site" "timer" "I") ∈ lw_B := List.mem_filter.mpr ⟨it_tables_1_1 _ (List.mem_of_getElem? (i := 135) rfl), rfl⟩
theorem tw_90 : (Cond.fieldLink "CommitSites$Site" 44 "CommitSites$Site" "timerOrder" "I") ∈ lw_B := List.mem_filter.mpr ⟨it_tables_1_1 _ (List.mem_of_getElem? (i := 136) rfl), rfl⟩
theorem tw_91 : (Cond.fieldLink "CommitSites" 250 "CommitSites$Site" "timerOrder" "I") ∈ lw_B := List.mem_filter.mpr ⟨it_tables_1_1 _ (List.mem_of_getElem? (i := 137) rfl), rfl⟩
theorem tw_92 : (Cond.methodLink "CommitSitesLaw" 18 yX3_quorums) ∈ lw_B := List.mem_filter.mpr ⟨it_tables_1_1 _ (List.mem_of_getElem? (i := 159) rfl), rfl⟩
theorem tw_93 : (Cond.instanceMethod yX3_quorums) ∈ lw_B := List.mem_filter.mpr ⟨it_tables_1_1 _ (List.mem_of_getElem? (i := 160) rfl), rfl⟩
theorem tw_94 : (Cond.selects "CommitSites" yX3_quorums yX3_quorums) ∈ lw_B := List.mem_filter.mpr ⟨it_tables_1_1 _ (List.mem_of_getElem? (i := 161) rfl), rfl⟩
theorem tw_95 : (Cond.code yX3_quorums cX3_quorums 4 (some .int)) ∈ lw_B := List.mem_filter.mpr ⟨it_tables_1_1 _ (List.mem_of_getElem? (i := 162) rfl), rfl⟩
theorem tw_96 : (Cond.methodLink "CommitSitesLaw" 23 yX3_link) ∈ lw_B := List.mem_filter.mpr ⟨it_tables_1_1 _ (List.mem_of_getElem? (i := 163) rfl), rfl⟩
theorem tw_97 : (Cond.instanceMethod yX3_link) ∈ lw_B := List.mem_filter.mpr ⟨it_tables_1_1 _ (List.mem_of_getElem? (i := 164) rfl), rfl⟩
theorem tw_98 : (Cond.selects "CommitSites" yX3_link yX3_link) ∈ lw_B := List.mem_filter.mpr ⟨it_tables_1_1 _ (List.mem_of_getElem? (i := 165) rfl), rfl⟩
theorem tw_99 : (Cond.code yX3_link cX3_link 4 (some .int)) ∈ lw_B := List.mem_filter.mpr ⟨it_tables_1_1 _ (List.mem_of_getElem? (i := 166) rfl), rfl⟩
theorem tw_100 : (Cond.methodLink "CommitSites" 56 yX3_isLink) ∈ lw_B := List.mem_filter.mpr ⟨it_tables_1_1 _ (List.mem_of_getElem? (i := 167) rfl), rfl⟩
theorem tw_101 : (Cond.instanceMethod yX3_isLink) ∈ lw_B := List.mem_filter.mpr ⟨it_tables_1_1 _ (List.mem_of_getElem? (i := 169) rfl), rfl⟩
theorem tw_102 : (Cond.code yX3_isLink cX3_isLink 3 (some .boolean)) ∈ lw_B := List.mem_filter.mpr ⟨it_tables_1_1 _ (List.mem_of_getElem? (i := 170) rfl), rfl⟩
theorem tw_103 : (Cond.methodLink "CommitSites" 67 yX3_isSite) ∈ lw_B := List.mem_filter.mpr ⟨it_tables_1_1 _ (List.mem_of_getElem? (i := 171) rfl), rfl⟩
theorem tw_104 : (Cond.instanceMethod yX3_isSite) ∈ lw_B := List.mem_filter.mpr ⟨it_tables_1_1 _ (List.mem_of_getElem? (i := 173) rfl), rfl⟩
theorem tw_105 : (Cond.code yX3_isSite cX3_isSite 2 (some .boolean)) ∈ lw_B := List.mem_filter.mpr ⟨it_tables_1_1 _ (List.mem_of_getElem? (i := 174) rfl), rfl⟩
theorem tw_106 : (Cond.methodLink "CommitSitesLaw" 28 yX3_part) ∈ lw_B := List.mem_filter.mpr ⟨it_tables_1_1 _ (List.mem_of_getElem? (i := 175) rfl), rfl⟩
theorem tw_107 : (Cond.instanceMethod yX3_part) ∈ lw_B := List.mem_filter.mpr ⟨it_tables_1_1 _ (List.mem_of_getElem? (i := 176) rfl), rfl⟩
theorem tw_108 : (Cond.selects "CommitSites" yX3_part yX3_part) ∈ lw_B := List.mem_filter.mpr ⟨it_tables_1_1 _ (List.mem_of_getElem? (i := 177) rfl), rfl⟩
theorem tw_109 : (Cond.code yX3_part cX3_part 7 (some .int)) ∈ lw_B := List.mem_filter.mpr ⟨it_tables_1_1 _ (List.mem_of_getElem? (i := 178) rfl), rfl⟩
theorem tw_110 : (Cond.methodLink "CommitSites" 64 yX3_hasBit) ∈ lw_B := List.mem_filter.mpr ⟨it_tables_1_1 _ (List.mem_of_getElem? (i := 179) rfl), rfl⟩
theorem tw_111 : (Cond.static yX3_hasBit) ∈ lw_B := List.mem_filter.mpr ⟨it_tables_1_1 _ (List.mem_of_getElem? (i := 180) rfl), rfl⟩
theorem tw_112 : (Cond.code yX3_hasBit cX3_hasBit 2 (some .boolean)) ∈ lw_B := List.mem_filter.mpr ⟨it_tables_1_1 _ (List.mem_of_getElem? (i := 181) rfl), rfl⟩
theorem tw_113 : (Cond.methodLink "CommitSitesLaw" 32 yX3_patience) ∈ lw_B := List.mem_filter.mpr ⟨it_tables_1_1 _ (List.mem_of_getElem? (i := 182) rfl), rfl⟩
theorem tw_114 : (Cond.instanceMethod yX3_patience) ∈ lw_B := List.mem_filter.mpr ⟨it_tables_1_1 _ (List.mem_of_getElem? (i := 183) rfl), rfl⟩
theorem tw_115 : (Cond.selects "CommitSites" yX3_patience yX3_patience) ∈ lw_B := List.mem_filter.mpr ⟨it_tables_1_1 _ (List.mem_of_getElem? (i := 184) rfl), rfl⟩
theorem tw_116 : (Cond.code yX3_patience cX3_patience 2 (some .int)) ∈ lw_B := List.mem_filter.mpr ⟨it_tables_1_1 _ (List.mem_of_getElem? (i := 185) rfl), rfl⟩
theorem tw_117 : (Cond.methodLink "CommitSitesLaw" 36 yX3_begin) ∈ lw_B := List.mem_filter.mpr ⟨it_tables_1_1 _ (List.mem_of_getElem? (i := 186) rfl), rfl⟩
theorem tw_118 : (Cond.instanceMethod yX3_begin) ∈ lw_B := List.mem_filter.mpr ⟨it_tables_1_1 _ (List.mem_of_getElem? (i := 187) rfl), rfl⟩
theorem tw_119 : (Cond.selects "CommitSites" yX3_begin yX3_begin) ∈ lw_B := List.mem_filter.mpr ⟨it_tables_1_1 _ (List.mem_of_getElem? (i := 188) rfl), rfl⟩
theorem tw_120 : (Cond.code yX3_begin cX3_begin 3 (some .int)) ∈ lw_B := List.mem_filter.mpr ⟨it_tables_1_1 _ (List.mem_of_getElem? (i := 189) rfl), rfl⟩
theorem tw_121 : (Cond.methodLink "CommitSites" 77 yX3_askVotes) ∈ lw_B := List.mem_filter.mpr ⟨it_tables_1_1 _ (List.mem_of_getElem? (i := 190) rfl), rfl⟩
theorem tw_122 : (Cond.instanceMethod yX3_askVotes) ∈ lw_B := List.mem_filter.mpr ⟨it_tables_1_1 _ (List.mem_of_getElem? (i := 192) rfl), rfl⟩
theorem tw_123 : (Cond.code yX3_askVotes cX3_askVotes 3 none) ∈ lw_B := List.mem_filter.mpr ⟨it_tables_1_1 _ (List.mem_of_getElem? (i := 193) rfl), rfl⟩
theorem tw_124 : (Cond.methodLink "CommitSites" 93 yX3_become) ∈ lw_B := List.mem_filter.mpr ⟨it_tables_1_1 _ (List.mem_of_getElem? (i := 194) rfl), rfl⟩
theorem tw_125 : (Cond.instanceMethod yX3_become) ∈ lw_B := List.mem_filter.mpr ⟨it_tables_1_1 _ (List.mem_of_getElem? (i := 196) rfl), rfl⟩
theorem tw_126 : (Cond.code yX3_become cX3_become 3 none) ∈ lw_B := List.mem_filter.mpr ⟨it_tables_1_1 _ (List.mem_of_getElem? (i := 197) rfl), rfl⟩
theorem tw_127 : (Cond.methodLink "CommitSites" 97 yX2_isDecided) ∈ lw_B := List.mem_filter.mpr ⟨it_tables_1_1 _ (List.mem_of_getElem? (i := 198) rfl), rfl⟩
theorem tw_128 : (Cond.instanceMethod yX2_isDecided) ∈ lw_B := List.mem_filter.mpr ⟨it_tables_1_1 _ (List.mem_of_getElem? (i := 199) rfl), rfl⟩
theorem tw_129 : (Cond.selects "CommitSites$Site" yX2_isDecided yX2_isDecided) ∈ lw_B := List.mem_filter.mpr ⟨it_tables_1_1 _ (List.mem_of_getElem? (i := 200) rfl), rfl⟩
theorem tw_130 : (Cond.code yX2_isDecided cX2_isDecided 1 (some .boolean)) ∈ lw_B := List.mem_filter.mpr ⟨it_tables_1_1 _ (List.mem_of_getElem? (i := 201) rfl), rfl⟩
theorem tw_131 : (Cond.methodLink "CommitSites" 244 yX3_allBut) ∈ lw_B := List.mem_filter.mpr ⟨it_tables_1_1 _ (List.mem_of_getElem? (i := 202) rfl), rfl⟩
theorem tw_132 : (Cond.instanceMethod yX3_allBut) ∈ lw_B := List.mem_filter.mpr ⟨it_tables_1_1 _ (List.mem_of_getElem? (i := 204) rfl), rfl⟩
theorem tw_133 : (Cond.code yX3_allBut cX3_allBut 2 (some .int)) ∈ lw_B := List.mem_filter.mpr ⟨it_tables_1_1 _ (List.mem_of_getElem? (i := 205) rfl), rfl⟩
theorem tw_134 : (Cond.methodLink "CommitSites" 139 yX3_everyone) ∈ lw_B := List.mem_filter.mpr ⟨it_tables_1_1 _ (List.mem_of_getElem? (i := 206) rfl), rfl⟩
theorem tw_135 : (Cond.instanceMethod yX3_everyone) ∈ lw_B := List.mem_filter.mpr ⟨it_tables_1_1 _ (List.mem_of_getElem? (i := 208) rfl), rfl⟩
theorem tw_136 : (Cond.code yX3_everyone cX3_everyone 1 (some .int)) ∈ lw_B := List.mem_filter.mpr ⟨it_tables_1_1 _ (List.mem_of_getElem? (i := 209) rfl), rfl⟩
theorem tw_137 : (Cond.methodLink "CommitSites" 213 yX1_send) ∈ lw_B := List.mem_filter.mpr ⟨it_tables_1_1 _ (List.mem_of_getElem? (i := 210) rfl), rfl⟩
theorem tw_138 : (Cond.instanceMethod yX1_send) ∈ lw_B := List.mem_filter.mpr ⟨it_tables_1_1 _ (List.mem_of_getElem? (i := 211) rfl), rfl⟩
theorem tw_139 : (Cond.selects "CommitSites$Network" yX1_send yX1_send) ∈ lw_B := List.mem_filter.mpr ⟨it_tables_1_1 _ (List.mem_of_getElem? (i := 212) rfl), rfl⟩
theorem tw_140 : (Cond.code yX1_send cX1_send 8 none) ∈ lw_B := List.mem_filter.mpr ⟨it_tables_1_1 _ (List.mem_of_getElem? (i := 213) rfl), rfl⟩
theorem tw_141 : (Cond.instantiable "CommitSites$Message" 8) ∈ lw_B := List.mem_filter.mpr ⟨it_tables_1_1 _ (List.mem_of_getElem? (i := 215) rfl), rfl⟩
theorem tw_142 : (Cond.instanceMethod yX0_init) ∈ lw_B := List.mem_filter.mpr ⟨it_tables_1_1 _ (List.mem_of_getElem? (i := 217) rfl), rfl⟩
theorem tw_143 : (Cond.code yX0_init cX0_init 1 none) ∈ lw_B := List.mem_filter.mpr ⟨it_tables_1_1 _ (List.mem_of_getElem? (i := 218) rfl), rfl⟩
theorem tw_144 : (Cond.methodLink "CommitSites$Message" 1 objectInit) ∈ lw_B := List.mem_filter.mpr ⟨it_tables_1_1 _ (List.mem_of_getElem? (i := 219) rfl), rfl⟩
theorem tw_145 : (Cond.fieldLink "CommitSites$Network" 72 "CommitSites$Message" "time" "I") ∈ lw_B := List.mem_filter.mpr ⟨it_tables_1_1 _ (List.mem_of_getElem? (i := 220) rfl), rfl⟩
theorem tw_146 : (Cond.fieldLink "CommitSites$Site" 47 "CommitSites$Message" "time" "I") ∈ lw_B := List.mem_filter.mpr ⟨it_tables_1_1 _ (List.mem_of_getElem? (i := 221) rfl), rfl⟩
theorem tw_147 : (Cond.fieldLink "CommitSites" 157 "CommitSites$Message" "time" "I") ∈ lw_B := List.mem_filter.mpr ⟨it_tables_1_1 _ (List.mem_of_getElem? (i := 222) rfl), rfl⟩
theorem tw_148 : (Cond.fieldLink "CommitSites$Network" 73 "CommitSites$Message" "order" "I") ∈ lw_B := List.mem_filter.mpr ⟨it_tables_1_1 _ (List.mem_of_getElem? (i := 223) rfl), rfl⟩
theorem tw_149 : (Cond.fieldLink "CommitSites$Site" 52 "CommitSites$Message" "order" "I") ∈ lw_B := List.mem_filter.mpr ⟨it_tables_1_1 _ (List.mem_of_getElem? (i := 224) rfl), rfl⟩
theorem tw_150 : (Cond.fieldLink "CommitSites$Network" 53 "CommitSites$Message" "kind" "I") ∈ lw_B := List.mem_filter.mpr ⟨it_tables_1_1 _ (List.mem_of_getElem? (i := 225) rfl), rfl⟩
theorem tw_151 : (Cond.fieldLink "CommitSites" 167 "CommitSites$Message" "kind" "I") ∈ lw_B := List.mem_filter.mpr ⟨it_tables_1_1 _ (List.mem_of_getElem? (i := 226) rfl), rfl⟩
theorem tw_152 : (Cond.fieldLink "CommitSites$Network" 56 "CommitSites$Message" "from" "I") ∈ lw_B := List.mem_filter.mpr ⟨it_tables_1_1 _ (List.mem_of_getElem? (i := 227) rfl), rfl⟩
theorem tw_153 : (Cond.fieldLink "CommitSites" 170 "CommitSites$Message" "from" "I") ∈ lw_B := List.mem_filter.mpr ⟨it_tables_1_1 _ (List.mem_of_getElem? (i := 228) rfl), rfl⟩
theorem tw_154 : (Cond.fieldLink "CommitSites$Network" 59 "CommitSites$Message" "to" "I") ∈ lw_B := List.mem_filter.mpr ⟨it_tables_1_1 _ (List.mem_of_getElem? (i := 229) rfl), rfl⟩
theorem tw_155 : (Cond.fieldLink "CommitSites" 164 "CommitSites$Message" "to" "I") ∈ lw_B := List.mem_filter.mpr ⟨it_tables_1_1 _ (List.mem_of_getElem? (i := 230) rfl), rfl⟩
theorem tw_156 : (Cond.fieldLink "CommitSites$Network" 62 "CommitSites$Message" "attempt" "I") ∈ lw_B := List.mem_filter.mpr ⟨it_tables_1_1 _ (List.mem_of_getElem? (i := 231) rfl), rfl⟩
theorem tw_157 : (Cond.fieldLink "CommitSites" 173 "CommitSites$Message" "attempt" "I") ∈ lw_B := List.mem_filter.mpr ⟨it_tables_1_1 _ (List.mem_of_getElem? (i := 232) rfl), rfl⟩
theorem tw_158 : (Cond.fieldLink "CommitSites$Network" 65 "CommitSites$Message" "told" "I") ∈ lw_B := List.mem_filter.mpr ⟨it_tables_1_1 _ (List.mem_of_getElem? (i := 233) rfl), rfl⟩
theorem tw_159 : (Cond.fieldLink "CommitSites" 174 "CommitSites$Message" "told" "I") ∈ lw_B := List.mem_filter.mpr ⟨it_tables_1_1 _ (List.mem_of_getElem? (i := 234) rfl), rfl⟩
theorem tw_160 : (Cond.fieldLink "CommitSites$Network" 29 "CommitSites$Message" "next" "LCommitSites$Message;") ∈ lw_B := List.mem_filter.mpr ⟨it_tables_1_1 _ (List.mem_of_getElem? (i := 235) rfl), rfl⟩
theorem tw_161 : (Cond.methodLink "CommitSites$Network" 68 yX1_putOn) ∈ lw_B := List.mem_filter.mpr ⟨it_tables_1_2 _ (List.mem_of_getElem? (i := 13) rfl), rfl⟩
theorem tw_162 : (Cond.instanceMethod yX1_putOn) ∈ lw_B := List.mem_filter.mpr ⟨it_tables_1_2 _ (List.mem_of_getElem? (i := 14) rfl), rfl⟩
theorem tw_163 : (Cond.selects "CommitSites$Network" yX1_putOn yX1_putOn) ∈ lw_B := List.mem_filter.mpr ⟨it_tables_1_2 _ (List.mem_of_getElem? (i := 15) rfl), rfl⟩
theorem tw_164 : (Cond.code yX1_putOn cX1_putOn 3 none) ∈ lw_B := List.mem_filter.mpr ⟨it_tables_1_2 _ (List.mem_of_getElem? (i := 16) rfl), rfl⟩
theorem tw_165 : (Cond.methodLink "CommitSites" 216 yX3_setTimer) ∈ lw_B := List.mem_filter.mpr ⟨it_tables_1_2 _ (List.mem_of_getElem? (i := 17) rfl), rfl⟩
theorem tw_166 : (Cond.instanceMethod yX3_setTimer) ∈ lw_B := List.mem_filter.mpr ⟨it_tables_1_2 _ (List.mem_of_getElem? (i := 19) rfl), rfl⟩
theorem tw_167 : (Cond.code yX3_setTimer cX3_setTimer 3 none) ∈ lw_B := List.mem_filter.mpr ⟨it_tables_1_2 _ (List.mem_of_getElem? (i := 20) rfl), rfl⟩
theorem tw_168 : (Cond.methodLink "CommitSites" 247 yX1_nextOrder) ∈ lw_B := List.mem_filter.mpr ⟨it_tables_1_2 _ (List.mem_of_getElem? (i := 21) rfl), rfl⟩
theorem tw_169 : (Cond.instanceMethod yX1_nextOrder) ∈ lw_B := List.mem_filter.mpr ⟨it_tables_1_2 _ (List.mem_of_getElem? (i := 22) rfl), rfl⟩
theorem tw_170 : (Cond.selects "CommitSites$Network" yX1_nextOrder yX1_nextOrder) ∈ lw_B := List.mem_filter.mpr ⟨it_tables_1_2 _ (List.mem_of_getElem? (i := 23) rfl), rfl⟩
theorem tw_171 : (Cond.code yX1_nextOrder cX1_nextOrder 1 (some .int)) ∈ lw_B := List.mem_filter.mpr ⟨it_tables_1_2 _ (List.mem_of_getElem? (i := 24) rfl), rfl⟩
theorem tw_172 : (Cond.methodLink "CommitSites" 222 yX3_lead) ∈ lw_B := List.mem_filter.mpr ⟨it_tables_1_2 _ (List.mem_of_getElem? (i := 25) rfl), rfl⟩
theorem tw_173 : (Cond.instanceMethod yX3_lead) ∈ lw_B := List.mem_filter.mpr ⟨it_tables_1_2 _ (List.mem_of_getElem? (i := 27) rfl), rfl⟩
theorem tw_174 : (Cond.code yX3_lead cX3_lead 5 none) ∈ lw_B := List.mem_filter.mpr ⟨it_tables_1_2 _ (List.mem_of_getElem? (i := 28) rfl), rfl⟩
theorem tw_175 : (Cond.methodLink "CommitSites" 237 yX3_hasQuorum) ∈ lw_B := List.mem_filter.mpr ⟨it_tables_1_2 _ (List.mem_of_getElem? (i := 29) rfl), rfl⟩
theorem tw_176 : (Cond.instanceMethod yX3_hasQuorum) ∈ lw_B := List.mem_filter.mpr ⟨it_tables_1_2 _ (List.mem_of_getElem? (i := 31) rfl), rfl⟩
theorem tw_177 : (Cond.code yX3_hasQuorum cX3_hasQuorum 4 (some .boolean)) ∈ lw_B := List.mem_filter.mpr ⟨it_tables_1_2 _ (List.mem_of_getElem? (i := 32) rfl), rfl⟩
theorem tw_178 : (Cond.methodLink "CommitSites" 80 yX3_decide) ∈ lw_B := List.mem_filter.mpr ⟨it_tables_1_2 _ (List.mem_of_getElem? (i := 33) rfl), rfl⟩
theorem tw_179 : (Cond.instanceMethod yX3_decide) ∈ lw_B := List.mem_filter.mpr ⟨it_tables_1_2 _ (List.mem_of_getElem? (i := 35) rfl), rfl⟩
theorem tw_180 : (Cond.code yX3_decide cX3_decide 4 none) ∈ lw_B := List.mem_filter.mpr ⟨it_tables_1_2 _ (List.mem_of_getElem? (i := 36) rfl), rfl⟩
theorem tw_181 : (Cond.methodLink "CommitSites" 231 yX3_tidingsOf) ∈ lw_B := List.mem_filter.mpr ⟨it_tables_1_2 _ (List.mem_of_getElem? (i := 37) rfl), rfl⟩
theorem tw_182 : (Cond.static yX3_tidingsOf) ∈ lw_B := List.mem_filter.mpr ⟨it_tables_1_2 _ (List.mem_of_getElem? (i := 38) rfl), rfl⟩
theorem tw_183 : (Cond.code yX3_tidingsOf cX3_tidingsOf 1 (some .int)) ∈ lw_B := List.mem_filter.mpr ⟨it_tables_1_2 _ (List.mem_of_getElem? (i := 39) rfl), rfl⟩
theorem tw_184 : (Cond.methodLink "CommitSitesLaw" 40 yX3_crash) ∈ lw_B := List.mem_filter.mpr ⟨it_tables_1_2 _ (List.mem_of_getElem? (i := 40) rfl), rfl⟩
theorem tw_185 : (Cond.instanceMethod yX3_crash) ∈ lw_B := List.mem_filter.mpr ⟨it_tables_1_2 _ (List.mem_of_getElem? (i := 41) rfl), rfl⟩
theorem tw_186 : (Cond.selects "CommitSites" yX3_crash yX3_crash) ∈ lw_B := List.mem_filter.mpr ⟨it_tables_1_2 _ (List.mem_of_getElem? (i := 42) rfl), rfl⟩
theorem tw_187 : (Cond.code yX3_crash cX3_crash 3 (some .int)) ∈ lw_B := List.mem_filter.mpr ⟨it_tables_1_2 _ (List.mem_of_getElem? (i := 43) rfl), rfl⟩
theorem tw_188 : (Cond.methodLink "CommitSitesLaw" 44 yX3_recover) ∈ lw_B := List.mem_filter.mpr ⟨it_tables_1_2 _ (List.mem_of_getElem? (i := 44) rfl), rfl⟩
theorem tw_189 : (Cond.instanceMethod yX3_recover) ∈ lw_B := List.mem_filter.mpr ⟨it_tables_1_2 _ (List.mem_of_getElem? (i := 45) rfl), rfl⟩
theorem tw_190 : (Cond.selects "CommitSites" yX3_recover yX3_recover) ∈ lw_B := List.mem_filter.mpr ⟨it_tables_1_2 _ (List.mem_of_getElem? (i := 46) rfl), rfl⟩
theorem tw_191 : (Cond.code yX3_recover cX3_recover 3 (some .int)) ∈ lw_B := List.mem_filter.mpr ⟨it_tables_1_2 _ (List.mem_of_getElem? (i := 47) rfl), rfl⟩
theorem tw_192 : (Cond.methodLink "CommitSites" 101 yX3_attempt) ∈ lw_B := List.mem_filter.mpr ⟨it_tables_1_2 _ (List.mem_of_getElem? (i := 48) rfl), rfl⟩
theorem tw_193 : (Cond.instanceMethod yX3_attempt) ∈ lw_B := List.mem_filter.mpr ⟨it_tables_1_2 _ (List.mem_of_getElem? (i := 50) rfl), rfl⟩
theorem tw_194 : (Cond.code yX3_attempt cX3_attempt 3 none) ∈ lw_B := List.mem_filter.mpr ⟨it_tables_1_2 _ (List.mem_of_getElem? (i := 51) rfl), rfl⟩
theorem tw_195 : (Cond.methodLink "CommitSitesLaw" 48 yX3_run) ∈ lw_B := List.mem_filter.mpr ⟨it_tables_1_2 _ (List.mem_of_getElem? (i := 52) rfl), rfl⟩
theorem tw_196 : (Cond.instanceMethod yX3_run) ∈ lw_B := List.mem_filter.mpr ⟨it_tables_1_2 _ (List.mem_of_getElem? (i := 53) rfl), rfl⟩
theorem tw_197 : (Cond.selects "CommitSites" yX3_run yX3_run) ∈ lw_B := List.mem_filter.mpr ⟨it_tables_1_2 _ (List.mem_of_getElem? (i := 54) rfl), rfl⟩
theorem tw_198 : (Cond.code yX3_run cX3_run 6 (some .int)) ∈ lw_B := List.mem_filter.mpr ⟨it_tables_1_2 _ (List.mem_of_getElem? (i := 55) rfl), rfl⟩
theorem tw_199 : (Cond.constant "CommitSites" 107 1000000) ∈ lw_B := List.mem_filter.mpr ⟨it_tables_1_2 _ (List.mem_of_getElem? (i := 56) rfl), rfl⟩
theorem tw_200 : (Cond.methodLink "CommitSites" 108 yX3_takeNext) ∈ lw_B := List.mem_filter.mpr ⟨it_tables_1_2 _ (List.mem_of_getElem? (i := 57) rfl), rfl⟩
theorem tw_201 : (Cond.instanceMethod yX3_takeNext) ∈ lw_B := List.mem_filter.mpr ⟨it_tables_1_2 _ (List.mem_of_getElem? (i := 59) rfl), rfl⟩
theorem tw_202 : (Cond.code yX3_takeNext cX3_takeNext 5 (some .int)) ∈ lw_B := List.mem_filter.mpr ⟨it_tables_1_2 _ (List.mem_of_getElem? (i := 60) rfl), rfl⟩
theorem tw_203 : (Cond.methodLink "CommitSites" 143 yX1_first) ∈ lw_B := List.mem_filter.mpr ⟨it_tables_1_2 _ (List.mem_of_getElem? (i := 61) rfl), rfl⟩
theorem tw_204 : (Cond.instanceMethod yX1_first) ∈ lw_B := List.mem_filter.mpr ⟨it_tables_1_2 _ (List.mem_of_getElem? (i := 62) rfl), rfl⟩
theorem tw_205 : (Cond.selects "CommitSites$Network" yX1_first yX1_first) ∈ lw_B := List.mem_filter.mpr ⟨it_tables_1_2 _ (List.mem_of_getElem? (i := 63) rfl), rfl⟩
theorem tw_206 : (Cond.code yX1_first cX1_first 2 (some (.object "CommitSites$Message"))) ∈ lw_B := List.mem_filter.mpr ⟨it_tables_1_2 _ (List.mem_of_getElem? (i := 64) rfl), rfl⟩
theorem tw_207 : (Cond.methodLink "CommitSites" 147 yX3_firstTimer) ∈ lw_B := List.mem_filter.mpr ⟨it_tables_1_2 _ (List.mem_of_getElem? (i := 65) rfl), rfl⟩
theorem tw_208 : (Cond.instanceMethod yX3_firstTimer) ∈ lw_B := List.mem_filter.mpr ⟨it_tables_1_2 _ (List.mem_of_getElem? (i := 67) rfl), rfl⟩
theorem tw_209 : (Cond.code yX3_firstTimer cX3_firstTimer 3 (some .int)) ∈ lw_B := List.mem_filter.mpr ⟨it_tables_1_2 _ (List.mem_of_getElem? (i := 68) rfl), rfl⟩
theorem tw_210 : (Cond.methodLink "CommitSites" 183 yX2_runsOutEarlier) ∈ lw_B := List.mem_filter.mpr ⟨it_tables_1_2 _ (List.mem_of_getElem? (i := 69) rfl), rfl⟩
theorem tw_211 : (Cond.instanceMethod yX2_runsOutEarlier) ∈ lw_B := List.mem_filter.mpr ⟨it_tables_1_2 _ (List.mem_of_getElem? (i := 70) rfl), rfl⟩
theorem tw_212 : (Cond.selects "CommitSites$Site" yX2_runsOutEarlier yX2_runsOutEarlier) ∈ lw_B := List.mem_filter.mpr ⟨it_tables_1_2 _ (List.mem_of_getElem? (i := 71) rfl), rfl⟩
theorem tw_213 : (Cond.code yX2_runsOutEarlier cX2_runsOutEarlier 2 (some .boolean)) ∈ lw_B := List.mem_filter.mpr ⟨it_tables_1_2 _ (List.mem_of_getElem? (i := 72) rfl), rfl⟩
theorem tw_214 : (Cond.methodLink "CommitSites" 150 yX2_runsOutBefore) ∈ lw_B := List.mem_filter.mpr ⟨it_tables_1_2 _ (List.mem_of_getElem? (i := 73) rfl), rfl⟩
theorem tw_215 : (Cond.instanceMethod yX2_runsOutBefore) ∈ lw_B := List.mem_filter.mpr ⟨it_tables_1_2 _ (List.mem_of_getElem? (i := 74) rfl), rfl⟩
theorem tw_216 : (Cond.selects "CommitSites$Site" yX2_runsOutBefore yX2_runsOutBefore) ∈ lw_B := List.mem_filter.mpr ⟨it_tables_1_2 _ (List.mem_of_getElem? (i := 75) rfl), rfl⟩
theorem tw_217 : (Cond.code yX2_runsOutBefore cX2_runsOutBefore 2 (some .boolean)) ∈ lw_B := List.mem_filter.mpr ⟨it_tables_1_2 _ (List.mem_of_getElem? (i := 76) rfl), rfl⟩
theorem tw_218 : (Cond.methodLink "CommitSites" 154 yX3_runOut) ∈ lw_B := List.mem_filter.mpr ⟨it_tables_1_2 _ (List.mem_of_getElem? (i := 77) rfl), rfl⟩
theorem tw_219 : (Cond.instanceMethod yX3_runOut) ∈ lw_B := List.mem_filter.mpr ⟨it_tables_1_2 _ (List.mem_of_getElem? (i := 79) rfl), rfl⟩
theorem tw_220 : (Cond.code yX3_runOut cX3_runOut 3 none) ∈ lw_B := List.mem_filter.mpr ⟨it_tables_1_2 _ (List.mem_of_getElem? (i := 80) rfl), rfl⟩
theorem tw_221 : (Cond.methodLink "CommitSites" 240 yX3_toldWeight) ∈ lw_B := List.mem_filter.mpr ⟨it_tables_1_2 _ (List.mem_of_getElem? (i := 81) rfl), rfl⟩
theorem tw_222 : (Cond.instanceMethod yX3_toldWeight) ∈ lw_B := List.mem_filter.mpr ⟨it_tables_1_2 _ (List.mem_of_getElem? (i := 83) rfl), rfl⟩
theorem tw_223 : (Cond.code yX3_toldWeight cX3_toldWeight 5 (some .int)) ∈ lw_B := List.mem_filter.mpr ⟨it_tables_1_2 _ (List.mem_of_getElem? (i := 84) rfl), rfl⟩
theorem tw_224 : (Cond.methodLink "CommitSites" 160 yX1_takeOff) ∈ lw_B := List.mem_filter.mpr ⟨it_tables_1_2 _ (List.mem_of_getElem? (i := 85) rfl), rfl⟩
theorem tw_225 : (Cond.instanceMethod yX1_takeOff) ∈ lw_B := List.mem_filter.mpr ⟨it_tables_1_2 _ (List.mem_of_getElem? (i := 86) rfl), rfl⟩
theorem tw_226 : (Cond.selects "CommitSites$Network" yX1_takeOff yX1_takeOff) ∈ lw_B := List.mem_filter.mpr ⟨it_tables_1_2 _ (List.mem_of_getElem? (i := 87) rfl), rfl⟩
theorem tw_227 : (Cond.code yX1_takeOff cX1_takeOff 3 none) ∈ lw_B := List.mem_filter.mpr ⟨it_tables_1_2 _ (List.mem_of_getElem? (i := 88) rfl), rfl⟩
theorem tw_228 : (Cond.methodLink "CommitSites" 177 yX3_receive) ∈ lw_B := List.mem_filter.mpr ⟨it_tables_1_2 _ (List.mem_of_getElem? (i := 89) rfl), rfl⟩
theorem tw_229 : (Cond.instanceMethod yX3_receive) ∈ lw_B := List.mem_filter.mpr ⟨it_tables_1_2 _ (List.mem_of_getElem? (i := 91) rfl), rfl⟩
theorem tw_230 : (Cond.code yX3_receive cX3_receive 2 none) ∈ lw_B := List.mem_filter.mpr ⟨it_tables_1_2 _ (List.mem_of_getElem? (i := 92) rfl), rfl⟩
theorem tw_231 : (Cond.methodLink "CommitSites" 187 yX3_onAskVote) ∈ lw_B := List.mem_filter.mpr ⟨it_tables_1_2 _ (List.mem_of_getElem? (i := 93) rfl), rfl⟩
theorem tw_232 : (Cond.instanceMethod yX3_onAskVote) ∈ lw_B := List.mem_filter.mpr ⟨it_tables_1_2 _ (List.mem_of_getElem? (i := 95) rfl), rfl⟩
theorem tw_233 : (Cond.code yX3_onAskVote cX3_onAskVote 4 none) ∈ lw_B := List.mem_filter.mpr ⟨it_tables_1_2 _ (List.mem_of_getElem? (i := 96) rfl), rfl⟩
theorem tw_234 : (Cond.methodLink "CommitSites" 190 yX3_onYes) ∈ lw_B := List.mem_filter.mpr ⟨it_tables_1_2 _ (List.mem_of_getElem? (i := 97) rfl), rfl⟩
theorem tw_235 : (Cond.instanceMethod yX3_onYes) ∈ lw_B := List.mem_filter.mpr ⟨it_tables_1_2 _ (List.mem_of_getElem? (i := 99) rfl), rfl⟩
theorem tw_236 : (Cond.code yX3_onYes cX3_onYes 4 none) ∈ lw_B := List.mem_filter.mpr ⟨it_tables_1_2 _ (List.mem_of_getElem? (i := 100) rfl), rfl⟩
theorem tw_237 : (Cond.methodLink "CommitSites" 193 yX3_onNo) ∈ lw_B := List.mem_filter.mpr ⟨it_tables_1_2 _ (List.mem_of_getElem? (i := 101) rfl), rfl⟩
theorem tw_238 : (Cond.instanceMethod yX3_onNo) ∈ lw_B := List.mem_filter.mpr ⟨it_tables_1_2 _ (List.mem_of_getElem? (i := 103) rfl), rfl⟩
theorem tw_239 : (Cond.code yX3_onNo cX3_onNo 2 none) ∈ lw_B := List.mem_filter.mpr ⟨it_tables_1_2 _ (List.mem_of_getElem? (i := 104) rfl), rfl⟩
theorem tw_240 : (Cond.methodLink "CommitSites" 196 yX3_onAskState) ∈ lw_B := List.mem_filter.mpr ⟨it_tables_1_2 _ (List.mem_of_getElem? (i := 105) rfl), rfl⟩
theorem tw_241 : (Cond.instanceMethod yX3_onAskState) ∈ lw_B := List.mem_filter.mpr ⟨it_tables_1_2 _ (List.mem_of_getElem? (i := 107) rfl), rfl⟩
theorem tw_242 : (Cond.code yX3_onAskState cX3_onAskState 5 none) ∈ lw_B := List.mem_filter.mpr ⟨it_tables_1_2 _ (List.mem_of_getElem? (i := 108) rfl), rfl⟩
theorem tw_243 : (Cond.methodLink "CommitSites" 225 yX3_yieldTo) ∈ lw_B := List.mem_filter.mpr ⟨it_tables_1_2 _ (List.mem_of_getElem? (i := 109) rfl), rfl⟩
theorem tw_244 : (Cond.instanceMethod yX3_yieldTo) ∈ lw_B := List.mem_filter.mpr ⟨it_tables_1_2 _ (List.mem_of_getElem? (i := 111) rfl), rfl⟩
theorem tw_245 : (Cond.code yX3_yieldTo cX3_yieldTo 5 none) ∈ lw_B := List.mem_filter.mpr ⟨it_tables_1_2 _ (List.mem_of_getElem? (i := 112) rfl), rfl⟩
theorem tw_246 : (Cond.methodLink "CommitSites" 200 yX3_onState) ∈ lw_B := List.mem_filter.mpr ⟨it_tables_1_2 _ (List.mem_of_getElem? (i := 113) rfl), rfl⟩
theorem tw_247 : (Cond.instanceMethod yX3_onState) ∈ lw_B := List.mem_filter.mpr ⟨it_tables_1_2 _ (List.mem_of_getElem? (i := 115) rfl), rfl⟩
theorem tw_248 : (Cond.code yX3_onState cX3_onState 6 none) ∈ lw_B := List.mem_filter.mpr ⟨it_tables_1_2 _ (List.mem_of_getElem? (i := 116) rfl), rfl⟩
theorem tw_249 : (Cond.methodLink "CommitSites" 204 yX3_onAskReady) ∈ lw_B := List.mem_filter.mpr ⟨it_tables_1_2 _ (List.mem_of_getElem? (i := 117) rfl), rfl⟩
theorem tw_250 : (Cond.instanceMethod yX3_onAskReady) ∈ lw_B := List.mem_filter.mpr ⟨it_tables_1_2 _ (List.mem_of_getElem? (i := 119) rfl), rfl⟩
theorem tw_251 : (Cond.code yX3_onAskReady cX3_onAskReady 6 none) ∈ lw_B := List.mem_filter.mpr ⟨it_tables_1_2 _ (List.mem_of_getElem? (i := 120) rfl), rfl⟩
theorem tw_252 : (Cond.methodLink "CommitSites" 207 yX3_onAcknowledge) ∈ lw_B := List.mem_filter.mpr ⟨it_tables_1_2 _ (List.mem_of_getElem? (i := 121) rfl), rfl⟩
theorem tw_253 : (Cond.instanceMethod yX3_onAcknowledge) ∈ lw_B := List.mem_filter.mpr ⟨it_tables_1_2 _ (List.mem_of_getElem? (i := 123) rfl), rfl⟩
theorem tw_254 : (Cond.code yX3_onAcknowledge cX3_onAcknowledge 5 none) ∈ lw_B := List.mem_filter.mpr ⟨it_tables_1_2 _ (List.mem_of_getElem? (i := 124) rfl), rfl⟩
theorem tw_255 : (Cond.methodLink "CommitSites" 234 yX2_collectsAcks) ∈ lw_B := List.mem_filter.mpr ⟨it_tables_1_2 _ (List.mem_of_getElem? (i := 125) rfl), rfl⟩
theorem tw_256 : (Cond.instanceMethod yX2_collectsAcks) ∈ lw_B := List.mem_filter.mpr ⟨it_tables_1_2 _ (List.mem_of_getElem? (i := 126) rfl), rfl⟩
theorem tw_257 : (Cond.selects "CommitSites$Site" yX2_collectsAcks yX2_collectsAcks) ∈ lw_B := List.mem_filter.mpr ⟨it_tables_1_2 _ (List.mem_of_getElem? (i := 127) rfl), rfl⟩
theorem tw_258 : (Cond.code yX2_collectsAcks cX2_collectsAcks 1 (some .boolean)) ∈ lw_B := List.mem_filter.mpr ⟨it_tables_1_2 _ (List.mem_of_getElem? (i := 128) rfl), rfl⟩
theorem tw_259 : (Cond.methodLink "CommitSites" 210 yX3_onDecision) ∈ lw_B := List.mem_filter.mpr ⟨it_tables_1_2 _ (List.mem_of_getElem? (i := 129) rfl), rfl⟩
theorem tw_260 : (Cond.instanceMethod yX3_onDecision) ∈ lw_B := List.mem_filter.mpr ⟨it_tables_1_2 _ (List.mem_of_getElem? (i := 131) rfl), rfl⟩
theorem tw_261 : (Cond.code yX3_onDecision cX3_onDecision 4 none) ∈ lw_B := List.mem_filter.mpr ⟨it_tables_1_2 _ (List.mem_of_getElem? (i := 132) rfl), rfl⟩
theorem tw_262 : (Cond.methodLink "CommitSites" 180 yX1_keepSpare) ∈ lw_B := List.mem_filter.mpr ⟨it_tables_1_2 _ (List.mem_of_getElem? (i := 133) rfl), rfl⟩
theorem tw_263 : (Cond.instanceMethod yX1_keepSpare) ∈ lw_B := List.mem_filter.mpr ⟨it_tables_1_2 _ (List.mem_of_getElem? (i := 134) rfl), rfl⟩
theorem tw_264 : (Cond.selects "CommitSites$Network" yX1_keepSpare yX1_keepSpare) ∈ lw_B := List.mem_filter.mpr ⟨it_tables_1_2 _ (List.mem_of_getElem? (i := 135) rfl), rfl⟩
theorem tw_265 : (Cond.code yX1_keepSpare cX1_keepSpare 2 none) ∈ lw_B := List.mem_filter.mpr ⟨it_tables_1_2 _ (List.mem_of_getElem? (i := 136) rfl), rfl⟩
theorem tw_266 : (Cond.methodLink "CommitSitesLaw" 52 yX3_step) ∈ lw_B := List.mem_filter.mpr ⟨it_tables_1_2 _ (List.mem_of_getElem? (i := 137) rfl), rfl⟩
theorem tw_267 : (Cond.instanceMethod yX3_step) ∈ lw_B := List.mem_filter.mpr ⟨it_tables_1_2 _ (List.mem_of_getElem? (i := 138) rfl), rfl⟩
theorem tw_268 : (Cond.selects "CommitSites" yX3_step yX3_step) ∈ lw_B := List.mem_filter.mpr ⟨it_tables_1_2 _ (List.mem_of_getElem? (i := 139) rfl), rfl⟩
theorem tw_269 : (Cond.code yX3_step cX3_step 3 (some .int)) ∈ lw_B := List.mem_filter.mpr ⟨it_tables_1_2 _ (List.mem_of_getElem? (i := 140) rfl), rfl⟩
theorem tw_270 : (Cond.methodLink "CommitSitesLaw" 57 yX3_reset) ∈ lw_B := List.mem_filter.mpr ⟨it_tables_1_2 _ (List.mem_of_getElem? (i := 141) rfl), rfl⟩
theorem tw_271 : (Cond.instanceMethod yX3_reset) ∈ lw_B := List.mem_filter.mpr ⟨it_tables_1_2 _ (List.mem_of_getElem? (i := 142) rfl), rfl⟩
theorem tw_272 : (Cond.selects "CommitSites" yX3_reset yX3_reset) ∈ lw_B := List.mem_filter.mpr ⟨it_tables_1_2 _ (List.mem_of_getElem? (i := 143) rfl), rfl⟩
theorem tw_273 : (Cond.code yX3_reset cX3_reset 2 (some .int)) ∈ lw_B := List.mem_filter.mpr ⟨it_tables_1_2 _ (List.mem_of_getElem? (i := 144) rfl), rfl⟩
theorem tw_274 : (Cond.methodLink "CommitSites" 118 yX1_startAnew) ∈ lw_B := List.mem_filter.mpr ⟨it_tables_1_2 _ (List.mem_of_getElem? (i := 145) rfl), rfl⟩
theorem tw_275 : (Cond.instanceMethod yX1_startAnew) ∈ lw_B := List.mem_filter.mpr ⟨it_tables_1_2 _ (List.mem_of_getElem? (i := 146) rfl), rfl⟩
theorem tw_276 : (Cond.selects "CommitSites$Network" yX1_startAnew yX1_startAnew) ∈ lw_B := List.mem_filter.mpr ⟨it_tables_1_2 _ (List.mem_of_getElem? (i := 147) rfl), rfl⟩
theorem tw_277 : (Cond.code yX1_startAnew cX1_startAnew 2 none) ∈ lw_B := List.mem_filter.mpr ⟨it_tables_1_2 _ (List.mem_of_getElem? (i := 148) rfl), rfl⟩
theorem tw_278 : (Cond.methodLink "CommitSites" 121 yX2_startAnew) ∈ lw_B := List.mem_filter.mpr ⟨it_tables_1_2 _ (List.mem_of_getElem? (i := 149) rfl), rfl⟩
theorem tw_279 : (Cond.methodLink "CommitSitesLaw" 61 yX3_of) ∈ lw_B := List.mem_filter.mpr ⟨it_tables_1_2 _ (List.mem_of_getElem? (i := 150) rfl), rfl⟩
theorem tw_280 : (Cond.instanceMethod yX3_of) ∈ lw_B := List.mem_filter.mpr ⟨it_tables_1_2 _ (List.mem_of_getElem? (i := 151) rfl), rfl⟩
theorem tw_281 : (Cond.selects "CommitSites" yX3_of yX3_of) ∈ lw_B := List.mem_filter.mpr ⟨it_tables_1_2 _ (List.mem_of_getElem? (i := 152) rfl), rfl⟩
theorem tw_282 : (Cond.code yX3_of cX3_of 4 (some .int)) ∈ lw_B := List.mem_filter.mpr ⟨it_tables_1_2 _ (List.mem_of_getElem? (i := 153) rfl), rfl⟩
theorem tw_283 : (Cond.methodLink "CommitSitesLaw" 65 yX3_count) ∈ lw_B := List.mem_filter.mpr ⟨it_tables_1_2 _ (List.mem_of_getElem? (i := 154) rfl), rfl⟩
theorem tw_284 : (Cond.instanceMethod yX3_count) ∈ lw_B := List.mem_filter.mpr ⟨it_tables_1_2 _ (List.mem_of_getElem? (i := 155) rfl), rfl⟩
theorem tw_285 : (Cond.selects "CommitSites" yX3_count yX3_count) ∈ lw_B := List.mem_filter.mpr ⟨it_tables_1_2 _ (List.mem_of_getElem? (i := 156) rfl), rfl⟩
theorem tw_286 : (Cond.code yX3_count cX3_count 2 (some .int)) ∈ lw_B := List.mem_filter.mpr ⟨it_tables_1_2 _ (List.mem_of_getElem? (i := 157) rfl), rfl⟩
theorem tw_287 : (Cond.methodLink "CommitSitesLaw" 69 yX3_delay) ∈ lw_B := List.mem_filter.mpr ⟨it_tables_1_2 _ (List.mem_of_getElem? (i := 158) rfl), rfl⟩
theorem tw_288 : (Cond.instanceMethod yX3_delay) ∈ lw_B := List.mem_filter.mpr ⟨it_tables_1_2 _ (List.mem_of_getElem? (i := 159) rfl), rfl⟩
theorem tw_289 : (Cond.selects "CommitSites" yX3_delay yX3_delay) ∈ lw_B := List.mem_filter.mpr ⟨it_tables_1_2 _ (List.mem_of_getElem? (i := 160) rfl), rfl⟩
theorem tw_290 : (Cond.code yX3_delay cX3_delay 3 (some .int)) ∈ lw_B := List.mem_filter.mpr ⟨it_tables_1_2 _ (List.mem_of_getElem? (i := 161) rfl), rfl⟩
theorem tw_291 : (Cond.methodLink "CommitSitesLaw" 73 yX3_weight) ∈ lw_B := List.mem_filter.mpr ⟨it_tables_1_2 _ (List.mem_of_getElem? (i := 162) rfl), rfl⟩
theorem tw_292 : (Cond.instanceMethod yX3_weight) ∈ lw_B := List.mem_filter.mpr ⟨it_tables_1_2 _ (List.mem_of_getElem? (i := 163) rfl), rfl⟩
theorem tw_293 : (Cond.selects "CommitSites" yX3_weight yX3_weight) ∈ lw_B := List.mem_filter.mpr ⟨it_tables_1_2 _ (List.mem_of_getElem? (i := 164) rfl), rfl⟩
theorem tw_294 : (Cond.code yX3_weight cX3_weight 4 (some .int)) ∈ lw_B := List.mem_filter.mpr ⟨it_tables_1_2 _ (List.mem_of_getElem? (i := 165) rfl), rfl⟩
theorem tw_295 : (Cond.methodLink "CommitSitesLaw" 77 yX3_latest) ∈ lw_B := List.mem_filter.mpr ⟨it_tables_1_2 _ (List.mem_of_getElem? (i := 166) rfl), rfl⟩
theorem tw_296 : (Cond.instanceMethod yX3_latest) ∈ lw_B := List.mem_filter.mpr ⟨it_tables_1_2 _ (List.mem_of_getElem? (i := 167) rfl), rfl⟩
theorem tw_297 : (Cond.selects "CommitSites" yX3_latest yX3_latest) ∈ lw_B := List.mem_filter.mpr ⟨it_tables_1_2 _ (List.mem_of_getElem? (i := 168) rfl), rfl⟩
theorem tw_298 : (Cond.code yX3_latest cX3_latest 2 (some .int)) ∈ lw_B := List.mem_filter.mpr ⟨it_tables_1_2 _ (List.mem_of_getElem? (i := 169) rfl), rfl⟩
theorem tw_299 : (Cond.methodLink "CommitSitesLaw" 81 yX3_check) ∈ lw_B := List.mem_filter.mpr ⟨it_tables_1_2 _ (List.mem_of_getElem? (i := 170) rfl), rfl⟩
theorem tw_300 : (Cond.instanceMethod yX3_check) ∈ lw_B := List.mem_filter.mpr ⟨it_tables_1_2 _ (List.mem_of_getElem? (i := 171) rfl), rfl⟩
theorem tw_301 : (Cond.selects "CommitSites" yX3_check yX3_check) ∈ lw_B := List.mem_filter.mpr ⟨it_tables_1_2 _ (List.mem_of_getElem? (i := 172) rfl), rfl⟩
theorem tw_302 : (Cond.code yX3_check cX3_check 5 (some .int)) ∈ lw_B := List.mem_filter.mpr ⟨it_tables_1_2 _ (List.mem_of_getElem? (i := 173) rfl), rfl⟩
theorem tw_303 : (Cond.classLink "CommitSitesLaw" 10 "CommitSitesModel") ∈ lw_B := List.mem_filter.mpr ⟨it_tables_1_2 _ (List.mem_of_getElem? (i := 174) rfl), rfl⟩
theorem tw_304 : (Cond.instantiable "CommitSitesModel" 34) ∈ lw_B := List.mem_filter.mpr ⟨it_tables_1_2 _ (List.mem_of_getElem? (i := 175) rfl), rfl⟩
theorem tw_305 : (Cond.methodLink "CommitSitesLaw" 12 yX4_init) ∈ lw_B := List.mem_filter.mpr ⟨it_tables_1_2 _ (List.mem_of_getElem? (i := 176) rfl), rfl⟩
theorem tw_306 : (Cond.instanceMethod yX4_init) ∈ lw_B := List.mem_filter.mpr ⟨it_tables_1_2 _ (List.mem_of_getElem? (i := 177) rfl), rfl⟩
theorem tw_307 : (Cond.code yX4_init cX4_init 1 none) ∈ lw_B := List.mem_filter.mpr ⟨it_tables_1_2 _ (List.mem_of_getElem? (i := 178) rfl), rfl⟩
theorem tw_308 : (Cond.methodLink "CommitSitesModel" 1 objectInit) ∈ lw_B := List.mem_filter.mpr ⟨it_tables_1_2 _ (List.mem_of_getElem? (i := 179) rfl), rfl⟩
theorem tw_309 : (Cond.constant "CommitSitesModel" 48 60000) ∈ lw_B := List.mem_filter.mpr ⟨it_tables_1_2 _ (List.mem_of_getElem? (i := 180) rfl), rfl⟩
theorem tw_310 : (Cond.fieldLink "CommitSitesModel" 73 "CommitSitesModel" "thrown" "I") ∈ lw_B := List.mem_filter.mpr ⟨it_tables_1_2 _ (List.mem_of_getElem? (i := 181) rfl), rfl⟩
theorem tw_311 : (Cond.fieldLink "CommitSitesModel" 76 "CommitSitesModel" "sites" "I") ∈ lw_B := List.mem_filter.mpr ⟨it_tables_1_2 _ (List.mem_of_getElem? (i := 182) rfl), rfl⟩
theorem tw_312 : (Cond.fieldLink "CommitSitesModel" 7 "CommitSitesModel" "weights" "[I") ∈ lw_B := List.mem_filter.mpr ⟨it_tables_1_2 _ (List.mem_of_getElem? (i := 183) rfl), rfl⟩
theorem tw_313 : (Cond.fieldLink "CommitSitesModel" 87 "CommitSitesModel" "commitQuorum" "I") ∈ lw_B := List.mem_filter.mpr ⟨it_tables_1_2 _ (List.mem_of_getElem? (i := 184) rfl), rfl⟩
theorem tw_314 : (Cond.fieldLink "CommitSitesModel" 90 "CommitSitesModel" "abortQuorum" "I") ∈ lw_B := List.mem_filter.mpr ⟨it_tables_1_2 _ (List.mem_of_getElem? (i := 185) rfl), rfl⟩
theorem tw_315 : (Cond.fieldLink "CommitSitesModel" 13 "CommitSitesModel" "patience" "I") ∈ lw_B := List.mem_filter.mpr ⟨it_tables_1_2 _ (List.mem_of_getElem? (i := 186) rfl), rfl⟩
theorem tw_316 : (Cond.fieldLink "CommitSitesModel" 17 "CommitSitesModel" "delays" "[I") ∈ lw_B := List.mem_filter.mpr ⟨it_tables_1_2 _ (List.mem_of_getElem? (i := 187) rfl), rfl⟩
theorem tw_317 : (Cond.fieldLink "CommitSitesModel" 79 "CommitSitesModel" "begun" "Z") ∈ lw_B := List.mem_filter.mpr ⟨it_tables_1_2 _ (List.mem_of_getElem? (i := 188) rfl), rfl⟩
theorem tw_318 : (Cond.fieldLink "CommitSitesModel" 106 "CommitSitesModel" "now" "I") ∈ lw_B := List.mem_filter.mpr ⟨it_tables_1_2 _ (List.mem_of_getElem? (i := 189) rfl), rfl⟩
theorem tw_319 : (Cond.fieldLink "CommitSitesModel" 109 "CommitSitesModel" "numbers" "I") ∈ lw_B := List.mem_filter.mpr ⟨it_tables_1_2 _ (List.mem_of_getElem? (i := 190) rfl), rfl⟩
theorem tw_320 : (Cond.fieldLink "CommitSitesModel" 97 "CommitSitesModel" "sent" "I") ∈ lw_B := List.mem_filter.mpr ⟨it_tables_1_2 _ (List.mem_of_getElem? (i := 191) rfl), rfl⟩
theorem tw_321 : (Cond.fieldLink "CommitSitesModel" 179 "CommitSitesModel" "come" "I") ∈ lw_B := List.mem_filter.mpr ⟨it_tables_1_2 _ (List.mem_of_getElem? (i := 192) rfl), rfl⟩
theorem tw_322 : (Cond.fieldLink "CommitSitesModel" 100 "CommitSitesModel" "lost" "I") ∈ lw_B := List.mem_filter.mpr ⟨it_tables_1_2 _ (List.mem_of_getElem? (i := 193) rfl), rfl⟩
theorem tw_323 : (Cond.fieldLink "CommitSitesModel" 170 "CommitSitesModel" "rang" "I") ∈ lw_B := List.mem_filter.mpr ⟨it_tables_1_2 _ (List.mem_of_getElem? (i := 194) rfl), rfl⟩
theorem tw_324 : (Cond.fieldLink "CommitSitesModel" 20 "CommitSitesModel" "states" "[I") ∈ lw_B := List.mem_filter.mpr ⟨it_tables_1_2 _ (List.mem_of_getElem? (i := 195) rfl), rfl⟩
theorem tw_325 : (Cond.fieldLink "CommitSitesModel" 23 "CommitSitesModel" "since" "[I") ∈ lw_B := List.mem_filter.mpr ⟨it_tables_1_2 _ (List.mem_of_getElem? (i := 196) rfl), rfl⟩
theorem tw_326 : (Cond.fieldLink "CommitSitesModel" 26 "CommitSitesModel" "down" "[Z") ∈ lw_B := List.mem_filter.mpr ⟨it_tables_1_2 _ (List.mem_of_getElem? (i := 197) rfl), rfl⟩
theorem tw_327 : (Cond.fieldLink "CommitSitesModel" 30 "CommitSitesModel" "votes" "[Z") ∈ lw_B := List.mem_filter.mpr ⟨it_tables_1_2 _ (List.mem_of_getElem? (i := 198) rfl), rfl⟩
theorem tw_328 : (Cond.fieldLink "CommitSitesModel" 33 "CommitSitesModel" "doing" "[I") ∈ lw_B := List.mem_filter.mpr ⟨it_tables_1_2 _ (List.mem_of_getElem? (i := 199) rfl), rfl⟩
theorem tw_329 : (Cond.fieldLink "CommitSitesModel" 36 "CommitSitesModel" "attempts" "[I") ∈ lw_B := List.mem_filter.mpr ⟨it_tables_1_2 _ (List.mem_of_getElem? (i := 200) rfl), rfl⟩
theorem tw_330 : (Cond.fieldLink "CommitSitesModel" 39 "CommitSitesModel" "there" "[I") ∈ lw_B := List.mem_filter.mpr ⟨it_tables_1_2 _ (List.mem_of_getElem? (i := 201) rfl), rfl⟩
theorem tw_331 : (Cond.fieldLink "CommitSitesModel" 42 "CommitSitesModel" "timers" "[I") ∈ lw_B := List.mem_filter.mpr ⟨it_tables_1_2 _ (List.mem_of_getElem? (i := 202) rfl), rfl⟩
theorem tw_332 : (Cond.fieldLink "CommitSitesModel" 45 "CommitSitesModel" "timerNumbers" "[I") ∈ lw_B := List.mem_filter.mpr ⟨it_tables_1_2 _ (List.mem_of_getElem? (i := 203) rfl), rfl⟩
theorem tw_333 : (Cond.fieldLink "CommitSitesModel" 49 "CommitSitesModel" "kinds" "[I") ∈ lw_B := List.mem_filter.mpr ⟨it_tables_1_2 _ (List.mem_of_getElem? (i := 204) rfl), rfl⟩
theorem tw_334 : (Cond.fieldLink "CommitSitesModel" 52 "CommitSitesModel" "froms" "[I") ∈ lw_B := List.mem_filter.mpr ⟨it_tables_1_2 _ (List.mem_of_getElem? (i := 205) rfl), rfl⟩
theorem tw_335 : (Cond.fieldLink "CommitSitesModel" 55 "CommitSitesModel" "tos" "[I") ∈ lw_B := List.mem_filter.mpr ⟨it_tables_1_2 _ (List.mem_of_getElem? (i := 206) rfl), rfl⟩
theorem tw_336 : (Cond.fieldLink "CommitSitesModel" 58 "CommitSitesModel" "attemptsTold" "[I") ∈ lw_B := List.mem_filter.mpr ⟨it_tables_1_2 _ (List.mem_of_getElem? (i := 207) rfl), rfl⟩
theorem tw_337 : (Cond.fieldLink "CommitSitesModel" 61 "CommitSitesModel" "statesTold" "[I") ∈ lw_B := List.mem_filter.mpr ⟨it_tables_1_2 _ (List.mem_of_getElem? (i := 208) rfl), rfl⟩
theorem tw_338 : (Cond.fieldLink "CommitSitesModel" 64 "CommitSitesModel" "times" "[I") ∈ lw_B := List.mem_filter.mpr ⟨it_tables_1_2 _ (List.mem_of_getElem? (i := 209) rfl), rfl⟩
theorem tw_339 : (Cond.fieldLink "CommitSitesModel" 67 "CommitSitesModel" "order" "[I") ∈ lw_B := List.mem_filter.mpr ⟨it_tables_1_2 _ (List.mem_of_getElem? (i := 210) rfl), rfl⟩
theorem tw_340 : (Cond.fieldLink "CommitSitesModel" 103 "CommitSitesModel" "messages" "I") ∈ lw_B := List.mem_filter.mpr ⟨it_tables_1_2 _ (List.mem_of_getElem? (i := 211) rfl), rfl⟩
theorem tw_341 : (Cond.fieldLink "CommitSitesModel" 70 "CommitSitesModel" "latest" "[I") ∈ lw_B := List.mem_filter.mpr ⟨it_tables_1_2 _ (List.mem_of_getElem? (i := 212) rfl), rfl⟩
theorem tw_342 : (Cond.fieldLink "CommitSitesModel" 164 "CommitSitesModel" "nextWhat" "I") ∈ lw_B := List.mem_filter.mpr ⟨it_tables_1_2 _ (List.mem_of_getElem? (i := 213) rfl), rfl⟩
theorem tw_343 : (Cond.fieldLink "CommitSitesModel" 167 "CommitSitesModel" "nextTime" "I") ∈ lw_B := List.mem_filter.mpr ⟨it_tables_1_2 _ (List.mem_of_getElem? (i := 214) rfl), rfl⟩
theorem tw_344 : (Cond.arrayClass (.boolean)) ∈ lw_B := List.mem_filter.mpr ⟨it_tables_1_3 _ (List.mem_of_getElem? (i := 44) rfl), rfl⟩
theorem tw_345 : (Cond.methodLink "CommitSitesLaw" 17 yX4_site) ∈ lw_B := List.mem_filter.mpr ⟨it_tables_1_3 _ (List.mem_of_getElem? (i := 45) rfl), rfl⟩
theorem tw_346 : (Cond.instanceMethod yX4_site) ∈ lw_B := List.mem_filter.mpr ⟨it_tables_1_3 _ (List.mem_of_getElem? (i := 46) rfl), rfl⟩
theorem tw_347 : (Cond.selects "CommitSitesModel" yX4_site yX4_site) ∈ lw_B := List.mem_filter.mpr ⟨it_tables_1_3 _ (List.mem_of_getElem? (i := 47) rfl), rfl⟩
theorem tw_348 : (Cond.code yX4_site cX4_site 3 (some .int)) ∈ lw_B := List.mem_filter.mpr ⟨it_tables_1_3 _ (List.mem_of_getElem? (i := 48) rfl), rfl⟩
theorem tw_349 : (Cond.methodLink "CommitSitesModel" 83 yX4_all) ∈ lw_B := List.mem_filter.mpr ⟨it_tables_1_3 _ (List.mem_of_getElem? (i := 49) rfl), rfl⟩
theorem tw_350 : (Cond.instanceMethod yX4_all) ∈ lw_B := List.mem_filter.mpr ⟨it_tables_1_3 _ (List.mem_of_getElem? (i := 51) rfl), rfl⟩
theorem tw_351 : (Cond.code yX4_all cX4_all 3 (some .int)) ∈ lw_B := List.mem_filter.mpr ⟨it_tables_1_3 _ (List.mem_of_getElem? (i := 52) rfl), rfl⟩
theorem tw_352 : (Cond.methodLink "CommitSitesLaw" 22 yX4_quorums) ∈ lw_B := List.mem_filter.mpr ⟨it_tables_1_3 _ (List.mem_of_getElem? (i := 53) rfl), rfl⟩
theorem tw_353 : (Cond.instanceMethod yX4_quorums) ∈ lw_B := List.mem_filter.mpr ⟨it_tables_1_3 _ (List.mem_of_getElem? (i := 54) rfl), rfl⟩
theorem tw_354 : (Cond.selects "CommitSitesModel" yX4_quorums yX4_quorums) ∈ lw_B := List.mem_filter.mpr ⟨it_tables_1_3 _ (List.mem_of_getElem? (i := 55) rfl), rfl⟩
theorem tw_355 : (Cond.code yX4_quorums cX4_quorums 4 (some .int)) ∈ lw_B := List.mem_filter.mpr ⟨it_tables_1_3 _ (List.mem_of_getElem? (i := 56) rfl), rfl⟩
theorem tw_356 : (Cond.methodLink "CommitSitesLaw" 27 yX4_link) ∈ lw_B := List.mem_filter.mpr ⟨it_tables_1_3 _ (List.mem_of_getElem? (i := 57) rfl), rfl⟩
theorem tw_357 : (Cond.instanceMethod yX4_link) ∈ lw_B := List.mem_filter.mpr ⟨it_tables_1_3 _ (List.mem_of_getElem? (i := 58) rfl), rfl⟩
theorem tw_358 : (Cond.selects "CommitSitesModel" yX4_link yX4_link) ∈ lw_B := List.mem_filter.mpr ⟨it_tables_1_3 _ (List.mem_of_getElem? (i := 59) rfl), rfl⟩
theorem tw_359 : (Cond.code yX4_link cX4_link 4 (some .int)) ∈ lw_B := List.mem_filter.mpr ⟨it_tables_1_3 _ (List.mem_of_getElem? (i := 60) rfl), rfl⟩
theorem tw_360 : (Cond.methodLink "CommitSitesModel" 93 yX4_isSite) ∈ lw_B := List.mem_filter.mpr ⟨it_tables_1_3 _ (List.mem_of_getElem? (i := 61) rfl), rfl⟩
theorem tw_361 : (Cond.instanceMethod yX4_isSite) ∈ lw_B := List.mem_filter.mpr ⟨it_tables_1_3 _ (List.mem_of_getElem? (i := 63) rfl), rfl⟩
theorem tw_362 : (Cond.code yX4_isSite cX4_isSite 2 (some .boolean)) ∈ lw_B := List.mem_filter.mpr ⟨it_tables_1_3 _ (List.mem_of_getElem? (i := 64) rfl), rfl⟩
theorem tw_363 : (Cond.methodLink "CommitSitesLaw" 31 yX4_part) ∈ lw_B := List.mem_filter.mpr ⟨it_tables_1_3 _ (List.mem_of_getElem? (i := 65) rfl), rfl⟩
theorem tw_364 : (Cond.instanceMethod yX4_part) ∈ lw_B := List.mem_filter.mpr ⟨it_tables_1_3 _ (List.mem_of_getElem? (i := 66) rfl), rfl⟩
theorem tw_365 : (Cond.selects "CommitSitesModel" yX4_part yX4_part) ∈ lw_B := List.mem_filter.mpr ⟨it_tables_1_3 _ (List.mem_of_getElem? (i := 67) rfl), rfl⟩
theorem tw_366 : (Cond.code yX4_part cX4_part 6 (some .int)) ∈ lw_B := List.mem_filter.mpr ⟨it_tables_1_3 _ (List.mem_of_getElem? (i := 68) rfl), rfl⟩
theorem tw_367 : (Cond.methodLink "CommitSitesLaw" 35 yX4_patience) ∈ lw_B := List.mem_filter.mpr ⟨it_tables_1_3 _ (List.mem_of_getElem? (i := 69) rfl), rfl⟩
theorem tw_368 : (Cond.instanceMethod yX4_patience) ∈ lw_B := List.mem_filter.mpr ⟨it_tables_1_3 _ (List.mem_of_getElem? (i := 70) rfl), rfl⟩
theorem tw_369 : (Cond.selects "CommitSitesModel" yX4_patience yX4_patience) ∈ lw_B := List.mem_filter.mpr ⟨it_tables_1_3 _ (List.mem_of_getElem? (i := 71) rfl), rfl⟩
theorem tw_370 : (Cond.code yX4_patience cX4_patience 2 (some .int)) ∈ lw_B := List.mem_filter.mpr ⟨it_tables_1_3 _ (List.mem_of_getElem? (i := 72) rfl), rfl⟩
theorem tw_371 : (Cond.methodLink "CommitSitesLaw" 39 yX4_begin) ∈ lw_B := List.mem_filter.mpr ⟨it_tables_1_3 _ (List.mem_of_getElem? (i := 73) rfl), rfl⟩
theorem tw_372 : (Cond.instanceMethod yX4_begin) ∈ lw_B := List.mem_filter.mpr ⟨it_tables_1_3 _ (List.mem_of_getElem? (i := 74) rfl), rfl⟩
theorem tw_373 : (Cond.selects "CommitSitesModel" yX4_begin yX4_begin) ∈ lw_B := List.mem_filter.mpr ⟨it_tables_1_3 _ (List.mem_of_getElem? (i := 75) rfl), rfl⟩
theorem tw_374 : (Cond.code yX4_begin cX4_begin 4 (some .int)) ∈ lw_B := List.mem_filter.mpr ⟨it_tables_1_3 _ (List.mem_of_getElem? (i := 76) rfl), rfl⟩
theorem tw_375 : (Cond.methodLink "CommitSitesModel" 141 yX4_decide) ∈ lw_B := List.mem_filter.mpr ⟨it_tables_1_3 _ (List.mem_of_getElem? (i := 77) rfl), rfl⟩
theorem tw_376 : (Cond.instanceMethod yX4_decide) ∈ lw_B := List.mem_filter.mpr ⟨it_tables_1_3 _ (List.mem_of_getElem? (i := 79) rfl), rfl⟩
theorem tw_377 : (Cond.code yX4_decide cX4_decide 3 none) ∈ lw_B := List.mem_filter.mpr ⟨it_tables_1_3 _ (List.mem_of_getElem? (i := 80) rfl), rfl⟩
theorem tw_378 : (Cond.methodLink "CommitSitesModel" 116 yX4_become) ∈ lw_B := List.mem_filter.mpr ⟨it_tables_1_3 _ (List.mem_of_getElem? (i := 81) rfl), rfl⟩
theorem tw_379 : (Cond.instanceMethod yX4_become) ∈ lw_B := List.mem_filter.mpr ⟨it_tables_1_3 _ (List.mem_of_getElem? (i := 83) rfl), rfl⟩
theorem tw_380 : (Cond.code yX4_become cX4_become 3 none) ∈ lw_B := List.mem_filter.mpr ⟨it_tables_1_3 _ (List.mem_of_getElem? (i := 84) rfl), rfl⟩
theorem tw_381 : (Cond.methodLink "CommitSitesModel" 120 yX4_sendAll) ∈ lw_B := List.mem_filter.mpr ⟨it_tables_1_3 _ (List.mem_of_getElem? (i := 85) rfl), rfl⟩
theorem tw_382 : (Cond.instanceMethod yX4_sendAll) ∈ lw_B := List.mem_filter.mpr ⟨it_tables_1_3 _ (List.mem_of_getElem? (i := 87) rfl), rfl⟩
theorem tw_383 : (Cond.code yX4_sendAll cX4_sendAll 5 none) ∈ lw_B := List.mem_filter.mpr ⟨it_tables_1_3 _ (List.mem_of_getElem? (i := 88) rfl), rfl⟩
theorem tw_384 : (Cond.methodLink "CommitSitesModel" 112 yX4_send) ∈ lw_B := List.mem_filter.mpr ⟨it_tables_1_3 _ (List.mem_of_getElem? (i := 89) rfl), rfl⟩
theorem tw_385 : (Cond.instanceMethod yX4_send) ∈ lw_B := List.mem_filter.mpr ⟨it_tables_1_3 _ (List.mem_of_getElem? (i := 91) rfl), rfl⟩
theorem tw_386 : (Cond.code yX4_send cX4_send 7 none) ∈ lw_B := List.mem_filter.mpr ⟨it_tables_1_3 _ (List.mem_of_getElem? (i := 92) rfl), rfl⟩
theorem tw_387 : (Cond.methodLink "CommitSitesModel" 127 yX4_clearThere) ∈ lw_B := List.mem_filter.mpr ⟨it_tables_1_3 _ (List.mem_of_getElem? (i := 93) rfl), rfl⟩
theorem tw_388 : (Cond.instanceMethod yX4_clearThere) ∈ lw_B := List.mem_filter.mpr ⟨it_tables_1_3 _ (List.mem_of_getElem? (i := 95) rfl), rfl⟩
theorem tw_389 : (Cond.code yX4_clearThere cX4_clearThere 4 none) ∈ lw_B := List.mem_filter.mpr ⟨it_tables_1_3 _ (List.mem_of_getElem? (i := 96) rfl), rfl⟩
theorem tw_390 : (Cond.methodLink "CommitSitesModel" 130 yX4_setTimer) ∈ lw_B := List.mem_filter.mpr ⟨it_tables_1_3 _ (List.mem_of_getElem? (i := 97) rfl), rfl⟩
theorem tw_391 : (Cond.instanceMethod yX4_setTimer) ∈ lw_B := List.mem_filter.mpr ⟨it_tables_1_3 _ (List.mem_of_getElem? (i := 99) rfl), rfl⟩
theorem tw_392 : (Cond.code yX4_setTimer cX4_setTimer 3 none) ∈ lw_B := List.mem_filter.mpr ⟨it_tables_1_3 _ (List.mem_of_getElem? (i := 100) rfl), rfl⟩
theorem tw_393 : (Cond.methodLink "CommitSitesModel" 144 yX4_checkVotes) ∈ lw_B := List.mem_filter.mpr ⟨it_tables_1_3 _ (List.mem_of_getElem? (i := 101) rfl), rfl⟩
theorem tw_394 : (Cond.instanceMethod yX4_checkVotes) ∈ lw_B := List.mem_filter.mpr ⟨it_tables_1_3 _ (List.mem_of_getElem? (i := 103) rfl), rfl⟩
theorem tw_395 : (Cond.code yX4_checkVotes cX4_checkVotes 4 none) ∈ lw_B := List.mem_filter.mpr ⟨it_tables_1_3 _ (List.mem_of_getElem? (i := 104) rfl), rfl⟩
theorem tw_396 : (Cond.methodLink "CommitSitesModel" 124 yX4_lead) ∈ lw_B := List.mem_filter.mpr ⟨it_tables_1_3 _ (List.mem_of_getElem? (i := 105) rfl), rfl⟩
theorem tw_397 : (Cond.instanceMethod yX4_lead) ∈ lw_B := List.mem_filter.mpr ⟨it_tables_1_3 _ (List.mem_of_getElem? (i := 107) rfl), rfl⟩
theorem tw_398 : (Cond.code yX4_lead cX4_lead 3 none) ∈ lw_B := List.mem_filter.mpr ⟨it_tables_1_3 _ (List.mem_of_getElem? (i := 108) rfl), rfl⟩
theorem tw_399 : (Cond.methodLink "CommitSitesModel" 133 yX4_checkQuorum) ∈ lw_B := List.mem_filter.mpr ⟨it_tables_1_3 _ (List.mem_of_getElem? (i := 109) rfl), rfl⟩
theorem tw_400 : (Cond.instanceMethod yX4_checkQuorum) ∈ lw_B := List.mem_filter.mpr ⟨it_tables_1_3 _ (List.mem_of_getElem? (i := 111) rfl), rfl⟩
theorem tw_401 : (Cond.code yX4_checkQuorum cX4_checkQuorum 3 none) ∈ lw_B := List.mem_filter.mpr ⟨it_tables_1_3 _ (List.mem_of_getElem? (i := 112) rfl), rfl⟩
theorem tw_402 : (Cond.methodLink "CommitSitesModel" 137 yX4_weightThere) ∈ lw_B := List.mem_filter.mpr ⟨it_tables_1_3 _ (List.mem_of_getElem? (i := 113) rfl), rfl⟩
theorem tw_403 : (Cond.instanceMethod yX4_weightThere) ∈ lw_B := List.mem_filter.mpr ⟨it_tables_1_3 _ (List.mem_of_getElem? (i := 115) rfl), rfl⟩
theorem tw_404 : (Cond.code yX4_weightThere cX4_weightThere 4 (some .int)) ∈ lw_B := List.mem_filter.mpr ⟨it_tables_1_3 _ (List.mem_of_getElem? (i := 116) rfl), rfl⟩
theorem tw_405 : (Cond.methodLink "CommitSitesLaw" 43 yX4_crash) ∈ lw_B := List.mem_filter.mpr ⟨it_tables_1_3 _ (List.mem_of_getElem? (i := 117) rfl), rfl⟩
theorem tw_406 : (Cond.instanceMethod yX4_crash) ∈ lw_B := List.mem_filter.mpr ⟨it_tables_1_3 _ (List.mem_of_getElem? (i := 118) rfl), rfl⟩
theorem tw_407 : (Cond.selects "CommitSitesModel" yX4_crash yX4_crash) ∈ lw_B := List.mem_filter.mpr ⟨it_tables_1_3 _ (List.mem_of_getElem? (i := 119) rfl), rfl⟩
theorem tw_408 : (Cond.code yX4_crash cX4_crash 2 (some .int)) ∈ lw_B := List.mem_filter.mpr ⟨it_tables_1_3 _ (List.mem_of_getElem? (i := 120) rfl), rfl⟩
theorem tw_409 : (Cond.methodLink "CommitSitesLaw" 47 yX4_recover) ∈ lw_B := List.mem_filter.mpr ⟨it_tables_1_3 _ (List.mem_of_getElem? (i := 121) rfl), rfl⟩
theorem tw_410 : (Cond.instanceMethod yX4_recover) ∈ lw_B := List.mem_filter.mpr ⟨it_tables_1_3 _ (List.mem_of_getElem? (i := 122) rfl), rfl⟩
theorem tw_411 : (Cond.selects "CommitSitesModel" yX4_recover yX4_recover) ∈ lw_B := List.mem_filter.mpr ⟨it_tables_1_3 _ (List.mem_of_getElem? (i := 123) rfl), rfl⟩
theorem tw_412 : (Cond.code yX4_recover cX4_recover 2 (some .int)) ∈ lw_B := List.mem_filter.mpr ⟨it_tables_1_3 _ (List.mem_of_getElem? (i := 124) rfl), rfl⟩
theorem tw_413 : (Cond.methodLink "CommitSitesModel" 147 yX4_isDecided) ∈ lw_B := List.mem_filter.mpr ⟨it_tables_1_3 _ (List.mem_of_getElem? (i := 125) rfl), rfl⟩
theorem tw_414 : (Cond.instanceMethod yX4_isDecided) ∈ lw_B := List.mem_filter.mpr ⟨it_tables_1_3 _ (List.mem_of_getElem? (i := 127) rfl), rfl⟩
theorem tw_415 : (Cond.code yX4_isDecided cX4_isDecided 2 (some .boolean)) ∈ lw_B := List.mem_filter.mpr ⟨it_tables_1_3 _ (List.mem_of_getElem? (i := 128) rfl), rfl⟩
theorem tw_416 : (Cond.methodLink "CommitSitesModel" 150 yX4_attempt) ∈ lw_B := List.mem_filter.mpr ⟨it_tables_1_3 _ (List.mem_of_getElem? (i := 129) rfl), rfl⟩
theorem tw_417 : (Cond.instanceMethod yX4_attempt) ∈ lw_B := List.mem_filter.mpr ⟨it_tables_1_3 _ (List.mem_of_getElem? (i := 131) rfl), rfl⟩
theorem tw_418 : (Cond.code yX4_attempt cX4_attempt 2 none) ∈ lw_B := List.mem_filter.mpr ⟨it_tables_1_3 _ (List.mem_of_getElem? (i := 132) rfl), rfl⟩
theorem tw_419 : (Cond.methodLink "CommitSitesLaw" 51 yX4_run) ∈ lw_B := List.mem_filter.mpr ⟨it_tables_1_3 _ (List.mem_of_getElem? (i := 133) rfl), rfl⟩
theorem tw_420 : (Cond.instanceMethod yX4_run) ∈ lw_B := List.mem_filter.mpr ⟨it_tables_1_3 _ (List.mem_of_getElem? (i := 134) rfl), rfl⟩
theorem tw_421 : (Cond.selects "CommitSitesModel" yX4_run yX4_run) ∈ lw_B := List.mem_filter.mpr ⟨it_tables_1_3 _ (List.mem_of_getElem? (i := 135) rfl), rfl⟩
theorem tw_422 : (Cond.code yX4_run cX4_run 4 (some .int)) ∈ lw_B := List.mem_filter.mpr ⟨it_tables_1_3 _ (List.mem_of_getElem? (i := 136) rfl), rfl⟩
theorem tw_423 : (Cond.methodLink "CommitSitesModel" 185 yX4_findNext) ∈ lw_B := List.mem_filter.mpr ⟨it_tables_1_3 _ (List.mem_of_getElem? (i := 137) rfl), rfl⟩
theorem tw_424 : (Cond.instanceMethod yX4_findNext) ∈ lw_B := List.mem_filter.mpr ⟨it_tables_1_3 _ (List.mem_of_getElem? (i := 139) rfl), rfl⟩
theorem tw_425 : (Cond.code yX4_findNext cX4_findNext 4 none) ∈ lw_B := List.mem_filter.mpr ⟨it_tables_1_3 _ (List.mem_of_getElem? (i := 140) rfl), rfl⟩
theorem tw_426 : (Cond.methodLink "CommitSitesModel" 188 yX4_take) ∈ lw_B := List.mem_filter.mpr ⟨it_tables_1_3 _ (List.mem_of_getElem? (i := 141) rfl), rfl⟩
theorem tw_427 : (Cond.instanceMethod yX4_take) ∈ lw_B := List.mem_filter.mpr ⟨it_tables_1_3 _ (List.mem_of_getElem? (i := 143) rfl), rfl⟩
theorem tw_428 : (Cond.code yX4_take cX4_take 7 (some .boolean)) ∈ lw_B := List.mem_filter.mpr ⟨it_tables_1_3 _ (List.mem_of_getElem? (i := 144) rfl), rfl⟩
theorem tw_429 : (Cond.methodLink "CommitSitesModel" 173 yX4_tell) ∈ lw_B := List.mem_filter.mpr ⟨it_tables_1_3 _ (List.mem_of_getElem? (i := 145) rfl), rfl⟩
theorem tw_430 : (Cond.instanceMethod yX4_tell) ∈ lw_B := List.mem_filter.mpr ⟨it_tables_1_3 _ (List.mem_of_getElem? (i := 147) rfl), rfl⟩
theorem tw_431 : (Cond.code yX4_tell cX4_tell 6 none) ∈ lw_B := List.mem_filter.mpr ⟨it_tables_1_3 _ (List.mem_of_getElem? (i := 148) rfl), rfl⟩
theorem tw_432 : (Cond.methodLink "CommitSitesModel" 176 yX4_ring) ∈ lw_B := List.mem_filter.mpr ⟨it_tables_1_3 _ (List.mem_of_getElem? (i := 149) rfl), rfl⟩
theorem tw_433 : (Cond.instanceMethod yX4_ring) ∈ lw_B := List.mem_filter.mpr ⟨it_tables_1_3 _ (List.mem_of_getElem? (i := 151) rfl), rfl⟩
theorem tw_434 : (Cond.code yX4_ring cX4_ring 4 none) ∈ lw_B := List.mem_filter.mpr ⟨it_tables_1_3 _ (List.mem_of_getElem? (i := 152) rfl), rfl⟩
theorem tw_435 : (Cond.methodLink "CommitSitesModel" 160 yX4_weightOf) ∈ lw_B := List.mem_filter.mpr ⟨it_tables_1_3 _ (List.mem_of_getElem? (i := 153) rfl), rfl⟩
theorem tw_436 : (Cond.instanceMethod yX4_weightOf) ∈ lw_B := List.mem_filter.mpr ⟨it_tables_1_3 _ (List.mem_of_getElem? (i := 155) rfl), rfl⟩
theorem tw_437 : (Cond.code yX4_weightOf cX4_weightOf 6 (some .int)) ∈ lw_B := List.mem_filter.mpr ⟨it_tables_1_3 _ (List.mem_of_getElem? (i := 156) rfl), rfl⟩
theorem tw_438 : (Cond.methodLink "CommitSitesModel" 182 yX4_handle) ∈ lw_B := List.mem_filter.mpr ⟨it_tables_1_3 _ (List.mem_of_getElem? (i := 157) rfl), rfl⟩
theorem tw_439 : (Cond.instanceMethod yX4_handle) ∈ lw_B := List.mem_filter.mpr ⟨it_tables_1_3 _ (List.mem_of_getElem? (i := 159) rfl), rfl⟩
theorem tw_440 : (Cond.code yX4_handle cX4_handle 6 none) ∈ lw_B := List.mem_filter.mpr ⟨it_tables_1_3 _ (List.mem_of_getElem? (i := 160) rfl), rfl⟩
theorem tw_441 : (Cond.methodLink "CommitSitesModel" 153 yX4_yieldTo) ∈ lw_B := List.mem_filter.mpr ⟨it_tables_1_3 _ (List.mem_of_getElem? (i := 161) rfl), rfl⟩
theorem tw_442 : (Cond.instanceMethod yX4_yieldTo) ∈ lw_B := List.mem_filter.mpr ⟨it_tables_1_3 _ (List.mem_of_getElem? (i := 163) rfl), rfl⟩
theorem tw_443 : (Cond.code yX4_yieldTo cX4_yieldTo 4 none) ∈ lw_B := List.mem_filter.mpr ⟨it_tables_1_3 _ (List.mem_of_getElem? (i := 164) rfl), rfl⟩
theorem tw_444 : (Cond.methodLink "CommitSitesModel" 156 yX4_prepare) ∈ lw_B := List.mem_filter.mpr ⟨it_tables_1_3 _ (List.mem_of_getElem? (i := 165) rfl), rfl⟩
theorem tw_445 : (Cond.instanceMethod yX4_prepare) ∈ lw_B := List.mem_filter.mpr ⟨it_tables_1_3 _ (List.mem_of_getElem? (i := 167) rfl), rfl⟩
theorem tw_446 : (Cond.code yX4_prepare cX4_prepare 5 none) ∈ lw_B := List.mem_filter.mpr ⟨it_tables_1_3 _ (List.mem_of_getElem? (i := 168) rfl), rfl⟩
theorem tw_447 : (Cond.methodLink "CommitSitesLaw" 56 yX4_step) ∈ lw_B := List.mem_filter.mpr ⟨it_tables_1_3 _ (List.mem_of_getElem? (i := 169) rfl), rfl⟩
theorem tw_448 : (Cond.instanceMethod yX4_step) ∈ lw_B := List.mem_filter.mpr ⟨it_tables_1_3 _ (List.mem_of_getElem? (i := 170) rfl), rfl⟩
theorem tw_449 : (Cond.selects "CommitSitesModel" yX4_step yX4_step) ∈ lw_B := List.mem_filter.mpr ⟨it_tables_1_3 _ (List.mem_of_getElem? (i := 171) rfl), rfl⟩
theorem tw_450 : (Cond.code yX4_step cX4_step 1 (some .int)) ∈ lw_B := List.mem_filter.mpr ⟨it_tables_1_3 _ (List.mem_of_getElem? (i := 172) rfl), rfl⟩
theorem tw_451 : (Cond.methodLink "CommitSitesLaw" 60 yX4_reset) ∈ lw_B := List.mem_filter.mpr ⟨it_tables_1_3 _ (List.mem_of_getElem? (i := 173) rfl), rfl⟩
theorem tw_452 : (Cond.instanceMethod yX4_reset) ∈ lw_B := List.mem_filter.mpr ⟨it_tables_1_3 _ (List.mem_of_getElem? (i := 174) rfl), rfl⟩
theorem tw_453 : (Cond.selects "CommitSitesModel" yX4_reset yX4_reset) ∈ lw_B := List.mem_filter.mpr ⟨it_tables_1_3 _ (List.mem_of_getElem? (i := 175) rfl), rfl⟩
theorem tw_454 : (Cond.code yX4_reset cX4_reset 2 (some .int)) ∈ lw_B := List.mem_filter.mpr ⟨it_tables_1_3 _ (List.mem_of_getElem? (i := 176) rfl), rfl⟩
theorem tw_455 : (Cond.methodLink "CommitSitesLaw" 64 yX4_of) ∈ lw_B := List.mem_filter.mpr ⟨it_tables_1_3 _ (List.mem_of_getElem? (i := 177) rfl), rfl⟩
theorem tw_456 : (Cond.instanceMethod yX4_of) ∈ lw_B := List.mem_filter.mpr ⟨it_tables_1_3 _ (List.mem_of_getElem? (i := 178) rfl), rfl⟩
theorem tw_457 : (Cond.selects "CommitSitesModel" yX4_of yX4_of) ∈ lw_B := List.mem_filter.mpr ⟨it_tables_1_3 _ (List.mem_of_getElem? (i := 179) rfl), rfl⟩
theorem tw_458 : (Cond.code yX4_of cX4_of 3 (some .int)) ∈ lw_B := List.mem_filter.mpr ⟨it_tables_1_3 _ (List.mem_of_getElem? (i := 180) rfl), rfl⟩
theorem tw_459 : (Cond.methodLink "CommitSitesLaw" 68 yX4_count) ∈ lw_B := List.mem_filter.mpr ⟨it_tables_1_3 _ (List.mem_of_getElem? (i := 181) rfl), rfl⟩
theorem tw_460 : (Cond.instanceMethod yX4_count) ∈ lw_B := List.mem_filter.mpr ⟨it_tables_1_3 _ (List.mem_of_getElem? (i := 182) rfl), rfl⟩
theorem tw_461 : (Cond.selects "CommitSitesModel" yX4_count yX4_count) ∈ lw_B := List.mem_filter.mpr ⟨it_tables_1_3 _ (List.mem_of_getElem? (i := 183) rfl), rfl⟩
theorem tw_462 : (Cond.code yX4_count cX4_count 2 (some .int)) ∈ lw_B := List.mem_filter.mpr ⟨it_tables_1_3 _ (List.mem_of_getElem? (i := 184) rfl), rfl⟩
theorem tw_463 : (Cond.methodLink "CommitSitesLaw" 72 yX4_delay) ∈ lw_B := List.mem_filter.mpr ⟨it_tables_1_3 _ (List.mem_of_getElem? (i := 185) rfl), rfl⟩
theorem tw_464 : (Cond.instanceMethod yX4_delay) ∈ lw_B := List.mem_filter.mpr ⟨it_tables_1_3 _ (List.mem_of_getElem? (i := 186) rfl), rfl⟩
theorem tw_465 : (Cond.selects "CommitSitesModel" yX4_delay yX4_delay) ∈ lw_B := List.mem_filter.mpr ⟨it_tables_1_3 _ (List.mem_of_getElem? (i := 187) rfl), rfl⟩
theorem tw_466 : (Cond.code yX4_delay cX4_delay 3 (some .int)) ∈ lw_B := List.mem_filter.mpr ⟨it_tables_1_3 _ (List.mem_of_getElem? (i := 188) rfl), rfl⟩
theorem tw_467 : (Cond.methodLink "CommitSitesLaw" 76 yX4_weight) ∈ lw_B := List.mem_filter.mpr ⟨it_tables_1_3 _ (List.mem_of_getElem? (i := 189) rfl), rfl⟩
theorem tw_468 : (Cond.instanceMethod yX4_weight) ∈ lw_B := List.mem_filter.mpr ⟨it_tables_1_3 _ (List.mem_of_getElem? (i := 190) rfl), rfl⟩
theorem tw_469 : (Cond.selects "CommitSitesModel" yX4_weight yX4_weight) ∈ lw_B := List.mem_filter.mpr ⟨it_tables_1_3 _ (List.mem_of_getElem? (i := 191) rfl), rfl⟩
theorem tw_470 : (Cond.code yX4_weight cX4_weight 4 (some .int)) ∈ lw_B := List.mem_filter.mpr ⟨it_tables_1_3 _ (List.mem_of_getElem? (i := 192) rfl), rfl⟩
theorem tw_471 : (Cond.methodLink "CommitSitesLaw" 80 yX4_latest) ∈ lw_B := List.mem_filter.mpr ⟨it_tables_1_3 _ (List.mem_of_getElem? (i := 193) rfl), rfl⟩
theorem tw_472 : (Cond.instanceMethod yX4_latest) ∈ lw_B := List.mem_filter.mpr ⟨it_tables_1_3 _ (List.mem_of_getElem? (i := 194) rfl), rfl⟩
theorem tw_473 : (Cond.selects "CommitSitesModel" yX4_latest yX4_latest) ∈ lw_B := List.mem_filter.mpr ⟨it_tables_1_3 _ (List.mem_of_getElem? (i := 195) rfl), rfl⟩
theorem tw_474 : (Cond.code yX4_latest cX4_latest 2 (some .int)) ∈ lw_B := List.mem_filter.mpr ⟨it_tables_1_3 _ (List.mem_of_getElem? (i := 196) rfl), rfl⟩
theorem tw_475 : (Cond.methodLink "CommitSitesLaw" 84 yX4_check) ∈ lw_B := List.mem_filter.mpr ⟨it_tables_1_3 _ (List.mem_of_getElem? (i := 197) rfl), rfl⟩
theorem tw_476 : (Cond.instanceMethod yX4_check) ∈ lw_B := List.mem_filter.mpr ⟨it_tables_1_3 _ (List.mem_of_getElem? (i := 198) rfl), rfl⟩
theorem tw_477 : (Cond.selects "CommitSitesModel" yX4_check yX4_check) ∈ lw_B := List.mem_filter.mpr ⟨it_tables_1_3 _ (List.mem_of_getElem? (i := 199) rfl), rfl⟩
theorem tw_478 : (Cond.code yX4_check cX4_check 1 (some .int)) ∈ lw_B := List.mem_filter.mpr ⟨it_tables_1_3 _ (List.mem_of_getElem? (i := 200) rfl), rfl⟩
theorem tw_479 : (Cond.selects "CommitSites" yX3_shareQuorums yX3_shareQuorums) ∈ lw_B := List.mem_filter.mpr ⟨List.mem_append_left _ (List.mem_map.mpr ⟨(⟨"CommitSites", "shareQuorums", "()V"⟩, 12), (List.mem_append_left _ (List.mem_of_getElem? (i := 0) rfl)), rfl⟩), rfl⟩
theorem tw_480 : (Cond.selects "CommitSites" yX3_note yX3_note) ∈ lw_B := List.mem_filter.mpr ⟨List.mem_append_left _ (List.mem_map.mpr ⟨(⟨"CommitSites", "note", "(IIIII)V"⟩, 12), (List.mem_append_left _ (List.mem_of_getElem? (i := 1) rfl)), rfl⟩), rfl⟩
theorem tw_481 : (Cond.selects "CommitSites" yX3_isLink yX3_isLink) ∈ lw_B := List.mem_filter.mpr ⟨List.mem_append_left _ (List.mem_map.mpr ⟨(⟨"CommitSites", "isLink", "(II)Z"⟩, 12), (List.mem_append_left _ (List.mem_of_getElem? (i := 2) rfl)), rfl⟩), rfl⟩
theorem tw_482 : (Cond.selects "CommitSites" yX3_isSite yX3_isSite) ∈ lw_B := List.mem_filter.mpr ⟨List.mem_append_left _ (List.mem_map.mpr ⟨(⟨"CommitSites", "isSite", "(I)Z"⟩, 12), (List.mem_append_left _ (List.mem_of_getElem? (i := 3) rfl)), rfl⟩), rfl⟩
theorem tw_483 : (Cond.selects "CommitSites" yX3_askVotes yX3_askVotes) ∈ lw_B := List.mem_filter.mpr ⟨List.mem_append_left _ (List.mem_map.mpr ⟨(⟨"CommitSites", "askVotes", "(I)V"⟩, 12), (List.mem_append_left _ (List.mem_of_getElem? (i := 4) rfl)), rfl⟩), rfl⟩
theorem tw_484 : (Cond.selects "CommitSites" yX3_become yX3_become) ∈ lw_B := List.mem_filter.mpr ⟨List.mem_append_left _ (List.mem_map.mpr ⟨(⟨"CommitSites", "become", "(LCommitSites$Site;I)V"⟩, 12), (List.mem_append_left _ (List.mem_of_getElem? (i := 5) rfl)), rfl⟩), rfl⟩
theorem tw_485 : (Cond.selects "CommitSites" yX3_allBut yX3_allBut) ∈ lw_B := List.mem_filter.mpr ⟨List.mem_append_left _ (List.mem_map.mpr ⟨(⟨"CommitSites", "allBut", "(I)I"⟩, 12), (List.mem_append_left _ (List.mem_of_getElem? (i := 6) rfl)), rfl⟩), rfl⟩
theorem tw_486 : (Cond.selects "CommitSites" yX3_everyone yX3_everyone) ∈ lw_B := List.mem_filter.mpr ⟨List.mem_append_left _ (List.mem_map.mpr ⟨(⟨"CommitSites", "everyone", "()I"⟩, 12), (List.mem_append_left _ (List.mem_of_getElem? (i := 7) rfl)), rfl⟩), rfl⟩
theorem tw_487 : (Cond.selects "CommitSites" yX3_setTimer yX3_setTimer) ∈ lw_B := List.mem_filter.mpr ⟨List.mem_append_left _ (List.mem_map.mpr ⟨(⟨"CommitSites", "setTimer", "(LCommitSites$Site;I)V"⟩, 12), (List.mem_append_left _ (List.mem_of_getElem? (i := 8) rfl)), rfl⟩), rfl⟩
theorem tw_488 : (Cond.selects "CommitSites" yX3_lead yX3_lead) ∈ lw_B := List.mem_filter.mpr ⟨List.mem_append_left _ (List.mem_map.mpr ⟨(⟨"CommitSites", "lead", "(II)V"⟩, 12), (List.mem_append_left _ (List.mem_of_getElem? (i := 9) rfl)), rfl⟩), rfl⟩
theorem tw_489 : (Cond.selects "CommitSites" yX3_hasQuorum yX3_hasQuorum) ∈ lw_B := List.mem_filter.mpr ⟨List.mem_append_left _ (List.mem_map.mpr ⟨(⟨"CommitSites", "hasQuorum", "(LCommitSites$Site;)Z"⟩, 12), (List.mem_append_left _ (List.mem_of_getElem? (i := 10) rfl)), rfl⟩), rfl⟩
theorem tw_490 : (Cond.selects "CommitSites" yX3_decide yX3_decide) ∈ lw_B := List.mem_filter.mpr ⟨List.mem_append_left _ (List.mem_map.mpr ⟨(⟨"CommitSites", "decide", "(II)V"⟩, 12), (List.mem_append_left _ (List.mem_of_getElem? (i := 11) rfl)), rfl⟩), rfl⟩
theorem tw_491 : (Cond.selects "CommitSites" yX3_attempt yX3_attempt) ∈ lw_B := List.mem_filter.mpr ⟨List.mem_append_left _ (List.mem_map.mpr ⟨(⟨"CommitSites", "attempt", "(I)V"⟩, 12), (List.mem_append_left _ (List.mem_of_getElem? (i := 12) rfl)), rfl⟩), rfl⟩
theorem tw_492 : (Cond.selects "CommitSites" yX3_takeNext yX3_takeNext) ∈ lw_B := List.mem_filter.mpr ⟨List.mem_append_left _ (List.mem_map.mpr ⟨(⟨"CommitSites", "takeNext", "(I)I"⟩, 12), (List.mem_append_left _ (List.mem_of_getElem? (i := 13) rfl)), rfl⟩), rfl⟩
theorem tw_493 : (Cond.selects "CommitSites" yX3_firstTimer yX3_firstTimer) ∈ lw_B := List.mem_filter.mpr ⟨List.mem_append_left _ (List.mem_map.mpr ⟨(⟨"CommitSites", "firstTimer", "()I"⟩, 12), (List.mem_append_left _ (List.mem_of_getElem? (i := 14) rfl)), rfl⟩), rfl⟩
theorem tw_494 : (Cond.selects "CommitSites" yX3_runOut yX3_runOut) ∈ lw_B := List.mem_filter.mpr ⟨List.mem_append_left _ (List.mem_map.mpr ⟨(⟨"CommitSites", "runOut", "(I)V"⟩, 12), (List.mem_append_left _ (List.mem_of_getElem? (i := 15) rfl)), rfl⟩), rfl⟩
theorem tw_495 : (Cond.selects "CommitSites" yX3_toldWeight yX3_toldWeight) ∈ lw_B := List.mem_filter.mpr ⟨List.mem_append_left _ (List.mem_map.mpr ⟨(⟨"CommitSites", "toldWeight", "(LCommitSites$Site;I)I"⟩, 12), (List.mem_append_right _ (List.mem_append_left _ (List.mem_of_getElem? (i := 0) rfl))), rfl⟩), rfl⟩
theorem tw_496 : (Cond.selects "CommitSites" yX3_receive yX3_receive) ∈ lw_B := List.mem_filter.mpr ⟨List.mem_append_left _ (List.mem_map.mpr ⟨(⟨"CommitSites", "receive", "(LCommitSites$Message;)V"⟩, 12), (List.mem_append_right _ (List.mem_append_left _ (List.mem_of_getElem? (i := 1) rfl))), rfl⟩), rfl⟩
theorem tw_497 : (Cond.selects "CommitSites" yX3_onAskVote yX3_onAskVote) ∈ lw_B := List.mem_filter.mpr ⟨List.mem_append_left _ (List.mem_map.mpr ⟨(⟨"CommitSites", "onAskVote", "(II)V"⟩, 12), (List.mem_append_right _ (List.mem_append_left _ (List.mem_of_getElem? (i := 2) rfl))), rfl⟩), rfl⟩
theorem tw_498 : (Cond.selects "CommitSites" yX3_onYes yX3_onYes) ∈ lw_B := List.mem_filter.mpr ⟨List.mem_append_left _ (List.mem_map.mpr ⟨(⟨"CommitSites", "onYes", "(II)V"⟩, 12), (List.mem_append_right _ (List.mem_append_left _ (List.mem_of_getElem? (i := 3) rfl))), rfl⟩), rfl⟩
theorem tw_499 : (Cond.selects "CommitSites" yX3_onNo yX3_onNo) ∈ lw_B := List.mem_filter.mpr ⟨List.mem_append_left _ (List.mem_map.mpr ⟨(⟨"CommitSites", "onNo", "(I)V"⟩, 12), (List.mem_append_right _ (List.mem_append_left _ (List.mem_of_getElem? (i := 4) rfl))), rfl⟩), rfl⟩
theorem tw_500 : (Cond.selects "CommitSites" yX3_onAskState yX3_onAskState) ∈ lw_B := List.mem_filter.mpr ⟨List.mem_append_left _ (List.mem_map.mpr ⟨(⟨"CommitSites", "onAskState", "(III)V"⟩, 12), (List.mem_append_right _ (List.mem_append_left _ (List.mem_of_getElem? (i := 5) rfl))), rfl⟩), rfl⟩
theorem tw_501 : (Cond.selects "CommitSites" yX3_yieldTo yX3_yieldTo) ∈ lw_B := List.mem_filter.mpr ⟨List.mem_append_left _ (List.mem_map.mpr ⟨(⟨"CommitSites", "yieldTo", "(II)V"⟩, 12), (List.mem_append_right _ (List.mem_append_left _ (List.mem_of_getElem? (i := 6) rfl))), rfl⟩), rfl⟩
theorem tw_502 : (Cond.selects "CommitSites" yX3_onState yX3_onState) ∈ lw_B := List.mem_filter.mpr ⟨List.mem_append_left _ (List.mem_map.mpr ⟨(⟨"CommitSites", "onState", "(IIII)V"⟩, 12), (List.mem_append_right _ (List.mem_append_left _ (List.mem_of_getElem? (i := 7) rfl))), rfl⟩), rfl⟩
theorem tw_503 : (Cond.selects "CommitSites" yX3_onAskReady yX3_onAskReady) ∈ lw_B := List.mem_filter.mpr ⟨List.mem_append_left _ (List.mem_map.mpr ⟨(⟨"CommitSites", "onAskReady", "(IIII)V"⟩, 12), (List.mem_append_right _ (List.mem_append_left _ (List.mem_of_getElem? (i := 8) rfl))), rfl⟩), rfl⟩
theorem tw_504 : (Cond.selects "CommitSites" yX3_onAcknowledge yX3_onAcknowledge) ∈ lw_B := List.mem_filter.mpr ⟨List.mem_append_left _ (List.mem_map.mpr ⟨(⟨"CommitSites", "onAcknowledge", "(III)V"⟩, 12), (List.mem_append_right _ (List.mem_append_left _ (List.mem_of_getElem? (i := 9) rfl))), rfl⟩), rfl⟩
theorem tw_505 : (Cond.selects "CommitSites" yX3_onDecision yX3_onDecision) ∈ lw_B := List.mem_filter.mpr ⟨List.mem_append_left _ (List.mem_map.mpr ⟨(⟨"CommitSites", "onDecision", "(II)V"⟩, 12), (List.mem_append_right _ (List.mem_append_left _ (List.mem_of_getElem? (i := 10) rfl))), rfl⟩), rfl⟩
theorem tw_506 : (Cond.selects "CommitSitesModel" yX4_all yX4_all) ∈ lw_B := List.mem_filter.mpr ⟨List.mem_append_left _ (List.mem_map.mpr ⟨(⟨"CommitSitesModel", "all", "()I"⟩, 34), (List.mem_append_right _ (List.mem_append_left _ (List.mem_of_getElem? (i := 11) rfl))), rfl⟩), rfl⟩
theorem tw_507 : (Cond.selects "CommitSitesModel" yX4_isSite yX4_isSite) ∈ lw_B := List.mem_filter.mpr ⟨List.mem_append_left _ (List.mem_map.mpr ⟨(⟨"CommitSitesModel", "isSite", "(I)Z"⟩, 34), (List.mem_append_right _ (List.mem_append_left _ (List.mem_of_getElem? (i := 12) rfl))), rfl⟩), rfl⟩
theorem tw_508 : (Cond.selects "CommitSitesModel" yX4_decide yX4_decide) ∈ lw_B := List.mem_filter.mpr ⟨List.mem_append_left _ (List.mem_map.mpr ⟨(⟨"CommitSitesModel", "decide", "(II)V"⟩, 34), (List.mem_append_right _ (List.mem_append_left _ (List.mem_of_getElem? (i := 13) rfl))), rfl⟩), rfl⟩
theorem tw_509 : (Cond.selects "CommitSitesModel" yX4_become yX4_become) ∈ lw_B := List.mem_filter.mpr ⟨List.mem_append_left _ (List.mem_map.mpr ⟨(⟨"CommitSitesModel", "become", "(II)V"⟩, 34), (List.mem_append_right _ (List.mem_append_left _ (List.mem_of_getElem? (i := 14) rfl))), rfl⟩), rfl⟩
theorem tw_510 : (Cond.selects "CommitSitesModel" yX4_sendAll yX4_sendAll) ∈ lw_B := List.mem_filter.mpr ⟨List.mem_append_left _ (List.mem_map.mpr ⟨(⟨"CommitSitesModel", "sendAll", "(III)V"⟩, 34), (List.mem_append_right _ (List.mem_append_left _ (List.mem_of_getElem? (i := 15) rfl))), rfl⟩), rfl⟩
theorem tw_511 : (Cond.selects "CommitSitesModel" yX4_send yX4_send) ∈ lw_B := List.mem_filter.mpr ⟨List.mem_append_left _ (List.mem_map.mpr ⟨(⟨"CommitSitesModel", "send", "(IIIII)V"⟩, 34), (List.mem_append_right _ (List.mem_append_right _ (List.mem_append_left _ (List.mem_of_getElem? (i := 0) rfl)))), rfl⟩), rfl⟩
theorem tw_512 : (Cond.selects "CommitSitesModel" yX4_clearThere yX4_clearThere) ∈ lw_B := List.mem_filter.mpr ⟨List.mem_append_left _ (List.mem_map.mpr ⟨(⟨"CommitSitesModel", "clearThere", "(II)V"⟩, 34), (List.mem_append_right _ (List.mem_append_right _ (List.mem_append_left _ (List.mem_of_getElem? (i := 1) rfl)))), rfl⟩), rfl⟩
theorem tw_513 : (Cond.selects "CommitSitesModel" yX4_setTimer yX4_setTimer) ∈ lw_B := List.mem_filter.mpr ⟨List.mem_append_left _ (List.mem_map.mpr ⟨(⟨"CommitSitesModel", "setTimer", "(II)V"⟩, 34), (List.mem_append_right _ (List.mem_append_right _ (List.mem_append_left _ (List.mem_of_getElem? (i := 2) rfl)))), rfl⟩), rfl⟩
theorem tw_514 : (Cond.selects "CommitSitesModel" yX4_checkVotes yX4_checkVotes) ∈ lw_B := List.mem_filter.mpr ⟨List.mem_append_left _ (List.mem_map.mpr ⟨(⟨"CommitSitesModel", "checkVotes", "(I)V"⟩, 34), (List.mem_append_right _ (List.mem_append_right _ (List.mem_append_left _ (List.mem_of_getElem? (i := 3) rfl)))), rfl⟩), rfl⟩
theorem tw_515 : (Cond.selects "CommitSitesModel" yX4_lead yX4_lead) ∈ lw_B := List.mem_filter.mpr ⟨List.mem_append_left _ (List.mem_map.mpr ⟨(⟨"CommitSitesModel", "lead", "(II)V"⟩, 34), (List.mem_append_right _ (List.mem_append_right _ (List.mem_append_left _ (List.mem_of_getElem? (i := 4) rfl)))), rfl⟩), rfl⟩
theorem tw_516 : (Cond.selects "CommitSitesModel" yX4_checkQuorum yX4_checkQuorum) ∈ lw_B := List.mem_filter.mpr ⟨List.mem_append_left _ (List.mem_map.mpr ⟨(⟨"CommitSitesModel", "checkQuorum", "(I)V"⟩, 34), (List.mem_append_right _ (List.mem_append_right _ (List.mem_append_left _ (List.mem_of_getElem? (i := 5) rfl)))), rfl⟩), rfl⟩
theorem tw_517 : (Cond.selects "CommitSitesModel" yX4_weightThere yX4_weightThere) ∈ lw_B := List.mem_filter.mpr ⟨List.mem_append_left _ (List.mem_map.mpr ⟨(⟨"CommitSitesModel", "weightThere", "(I)I"⟩, 34), (List.mem_append_right _ (List.mem_append_right _ (List.mem_append_left _ (List.mem_of_getElem? (i := 6) rfl)))), rfl⟩), rfl⟩
theorem tw_518 : (Cond.selects "CommitSitesModel" yX4_isDecided yX4_isDecided) ∈ lw_B := List.mem_filter.mpr ⟨List.mem_append_left _ (List.mem_map.mpr ⟨(⟨"CommitSitesModel", "isDecided", "(I)Z"⟩, 34), (List.mem_append_right _ (List.mem_append_right _ (List.mem_append_left _ (List.mem_of_getElem? (i := 7) rfl)))), rfl⟩), rfl⟩
theorem tw_519 : (Cond.selects "CommitSitesModel" yX4_attempt yX4_attempt) ∈ lw_B := List.mem_filter.mpr ⟨List.mem_append_left _ (List.mem_map.mpr ⟨(⟨"CommitSitesModel", "attempt", "(I)V"⟩, 34), (List.mem_append_right _ (List.mem_append_right _ (List.mem_append_left _ (List.mem_of_getElem? (i := 8) rfl)))), rfl⟩), rfl⟩
theorem tw_520 : (Cond.selects "CommitSitesModel" yX4_findNext yX4_findNext) ∈ lw_B := List.mem_filter.mpr ⟨List.mem_append_left _ (List.mem_map.mpr ⟨(⟨"CommitSitesModel", "findNext", "()V"⟩, 34), (List.mem_append_right _ (List.mem_append_right _ (List.mem_append_left _ (List.mem_of_getElem? (i := 9) rfl)))), rfl⟩), rfl⟩
theorem tw_521 : (Cond.selects "CommitSitesModel" yX4_take yX4_take) ∈ lw_B := List.mem_filter.mpr ⟨List.mem_append_left _ (List.mem_map.mpr ⟨(⟨"CommitSitesModel", "take", "()Z"⟩, 34), (List.mem_append_right _ (List.mem_append_right _ (List.mem_append_left _ (List.mem_of_getElem? (i := 10) rfl)))), rfl⟩), rfl⟩
theorem tw_522 : (Cond.selects "CommitSitesModel" yX4_tell yX4_tell) ∈ lw_B := List.mem_filter.mpr ⟨List.mem_append_left _ (List.mem_map.mpr ⟨(⟨"CommitSitesModel", "tell", "(IIIII)V"⟩, 34), (List.mem_append_right _ (List.mem_append_right _ (List.mem_append_left _ (List.mem_of_getElem? (i := 11) rfl)))), rfl⟩), rfl⟩
theorem tw_523 : (Cond.selects "CommitSitesModel" yX4_ring yX4_ring) ∈ lw_B := List.mem_filter.mpr ⟨List.mem_append_left _ (List.mem_map.mpr ⟨(⟨"CommitSitesModel", "ring", "(I)V"⟩, 34), (List.mem_append_right _ (List.mem_append_right _ (List.mem_append_left _ (List.mem_of_getElem? (i := 12) rfl)))), rfl⟩), rfl⟩
theorem tw_524 : (Cond.selects "CommitSitesModel" yX4_weightOf yX4_weightOf) ∈ lw_B := List.mem_filter.mpr ⟨List.mem_append_left _ (List.mem_map.mpr ⟨(⟨"CommitSitesModel", "weightOf", "(II)I"⟩, 34), (List.mem_append_right _ (List.mem_append_right _ (List.mem_append_left _ (List.mem_of_getElem? (i := 13) rfl)))), rfl⟩), rfl⟩
theorem tw_525 : (Cond.selects "CommitSitesModel" yX4_handle yX4_handle) ∈ lw_B := List.mem_filter.mpr ⟨List.mem_append_left _ (List.mem_map.mpr ⟨(⟨"CommitSitesModel", "handle", "(IIIII)V"⟩, 34), (List.mem_append_right _ (List.mem_append_right _ (List.mem_append_left _ (List.mem_of_getElem? (i := 14) rfl)))), rfl⟩), rfl⟩
theorem tw_526 : (Cond.selects "CommitSitesModel" yX4_yieldTo yX4_yieldTo) ∈ lw_B := List.mem_filter.mpr ⟨List.mem_append_left _ (List.mem_map.mpr ⟨(⟨"CommitSitesModel", "yieldTo", "(II)V"⟩, 34), (List.mem_append_right _ (List.mem_append_right _ (List.mem_append_left _ (List.mem_of_getElem? (i := 15) rfl)))), rfl⟩), rfl⟩
theorem tw_527 : (Cond.selects "CommitSitesModel" yX4_prepare yX4_prepare) ∈ lw_B := List.mem_filter.mpr ⟨List.mem_append_left _ (List.mem_map.mpr ⟨(⟨"CommitSitesModel", "prepare", "(IIII)V"⟩, 34), (List.mem_append_right _ (List.mem_append_right _ (List.mem_append_right _ (List.mem_of_getElem? (i := 0) rfl)))), rfl⟩), rfl⟩
theorem tl_X0_0 : u_lay RX0 TX0 0 ∈ lw_B := List.mem_filter.mpr ⟨it_tables_1_1 _ (List.mem_of_getElem? (i := 236) rfl), rfl⟩
theorem tl_X0_1 : u_lay RX0 TX0 1 ∈ lw_B := List.mem_filter.mpr ⟨it_tables_1_1 _ (List.mem_of_getElem? (i := 238) rfl), rfl⟩
theorem tl_X0_2 : u_lay RX0 TX0 2 ∈ lw_B := List.mem_filter.mpr ⟨it_tables_1_2 _ (List.mem_of_getElem? (i := 0) rfl), rfl⟩
theorem tl_X0_3 : u_lay RX0 TX0 3 ∈ lw_B := List.mem_filter.mpr ⟨it_tables_1_2 _ (List.mem_of_getElem? (i := 2) rfl), rfl⟩
theorem tl_X0_4 : u_lay RX0 TX0 4 ∈ lw_B := List.mem_filter.mpr ⟨it_tables_1_2 _ (List.mem_of_getElem? (i := 4) rfl), rfl⟩
theorem tl_X0_5 : u_lay RX0 TX0 5 ∈ lw_B := List.mem_filter.mpr ⟨it_tables_1_2 _ (List.mem_of_getElem? (i := 6) rfl), rfl⟩
theorem tl_X0_6 : u_lay RX0 TX0 6 ∈ lw_B := List.mem_filter.mpr ⟨it_tables_1_2 _ (List.mem_of_getElem? (i := 8) rfl), rfl⟩
theorem tl_X0_7 : u_lay RX0 TX0 7 ∈ lw_B := List.mem_filter.mpr ⟨it_tables_1_2 _ (List.mem_of_getElem? (i := 10) rfl), rfl⟩
theorem tl_X0 : ∀ k, k < 8 → u_lay RX0 TX0 k ∈ lw_B := fun k hk => match k, hk with | 0, _ => tl_X0_0 | 1, _ => tl_X0_1 | 2, _ => tl_X0_2 | 3, _ => tl_X0_3 | 4, _ => tl_X0_4 | 5, _ => tl_X0_5 | 6, _ => tl_X0_6 | 7, _ => tl_X0_7 | n + 8, h => absurd h (by omega)
theorem in_X0 : ∀ w ∈ u_ws RX0 TX0 8, w ∈ lw_B := fun w h => by obtain ⟨k, hk, rfl⟩ := List.mem_map.mp h; exact tl_X0 k (List.mem_range.mp hk)
theorem tl_X1_0 : u_lay RX1 TX1 0 ∈ lw_B := List.mem_filter.mpr ⟨it_tables_1_1 _ (List.mem_of_getElem? (i := 40) rfl), rfl⟩
theorem tl_X1_1 : u_lay RX1 TX1 1 ∈ lw_B := List.mem_filter.mpr ⟨it_tables_1_1 _ (List.mem_of_getElem? (i := 42) rfl), rfl⟩
theorem tl_X1_2 : u_lay RX1 TX1 2 ∈ lw_B := List.mem_filter.mpr ⟨it_tables_1_1 _ (List.mem_of_getElem? (i := 44) rfl), rfl⟩
theorem tl_X1_3 : u_lay RX1 TX1 3 ∈ lw_B := List.mem_filter.mpr ⟨it_tables_1_1 _ (List.mem_of_getElem? (i := 46) rfl), rfl⟩
theorem tl_X1_4 : u_lay RX1 TX1 4 ∈ lw_B := List.mem_filter.mpr ⟨it_tables_1_1 _ (List.mem_of_getElem? (i := 48) rfl), rfl⟩
theorem tl_X1_5 : u_lay RX1 TX1 5 ∈ lw_B := List.mem_filter.mpr ⟨it_tables_1_1 _ (List.mem_of_getElem? (i := 50) rfl), rfl⟩
theorem tl_X1_6 : u_lay RX1 TX1 6 ∈ lw_B := List.mem_filter.mpr ⟨it_tables_1_1 _ (List.mem_of_getElem? (i := 52) rfl), rfl⟩
theorem tl_X1_7 : u_lay RX1 TX1 7 ∈ lw_B := List.mem_filter.mpr ⟨it_tables_1_1 _ (List.mem_of_getElem? (i := 54) rfl), rfl⟩
theorem tl_X1_8 : u_lay RX1 TX1 8 ∈ lw_B := List.mem_filter.mpr ⟨it_tables_1_1 _ (List.mem_of_getElem? (i := 56) rfl), rfl⟩
theorem tl_X1 : ∀ k, k < 9 → u_lay RX1 TX1 k ∈ lw_B := fun k hk => match k, hk with | 0, _ => tl_X1_0 | 1, _ => tl_X1_1 | 2, _ => tl_X1_2 | 3, _ => tl_X1_3 | 4, _ => tl_X1_4 | 5, _ => tl_X1_5 | 6, _ => tl_X1_6 | 7, _ => tl_X1_7 | 8, _ => tl_X1_8 | n + 9, h => absurd h (by omega)
theorem in_X1 : ∀ w ∈ u_ws RX1 TX1 9, w ∈ lw_B := fun w h => by obtain ⟨k, hk, rfl⟩ := List.mem_map.mp h; exact tl_X1 k (List.mem_range.mp hk)
theorem tl_X2_0 : u_lay RX2 TX2 0 ∈ lw_B := List.mem_filter.mpr ⟨it_tables_1_1 _ (List.mem_of_getElem? (i := 138) rfl), rfl⟩
theorem tl_X2_1 : u_lay RX2 TX2 1 ∈ lw_B := List.mem_filter.mpr ⟨it_tables_1_1 _ (List.mem_of_getElem? (i := 140) rfl), rfl⟩
theorem tl_X2_2 : u_lay RX2 TX2 2 ∈ lw_B := List.mem_filter.mpr ⟨it_tables_1_1 _ (List.mem_of_getElem? (i := 142) rfl), rfl⟩
theorem tl_X2_3 : u_lay RX2 TX2 3 ∈ lw_B := List.mem_filter.mpr ⟨it_tables_1_1 _ (List.mem_of_getElem? (i := 144) rfl), rfl⟩
theorem tl_X2_4 : u_lay RX2 TX2 4 ∈ lw_B := List.mem_filter.mpr ⟨it_tables_1_1 _ (List.mem_of_getElem? (i := 146) rfl), rfl⟩
theorem tl_X2_5 : u_lay RX2 TX2 5 ∈ lw_B := List.mem_filter.mpr ⟨it_tables_1_1 _ (List.mem_of_getElem? (i := 148) rfl), rfl⟩
theorem tl_X2_6 : u_lay RX2 TX2 6 ∈ lw_B := List.mem_filter.mpr ⟨it_tables_1_1 _ (List.mem_of_getElem? (i := 150) rfl), rfl⟩
theorem tl_X2_7 : u_lay RX2 TX2 7 ∈ lw_B := List.mem_filter.mpr ⟨it_tables_1_1 _ (List.mem_of_getElem? (i := 152) rfl), rfl⟩
theorem tl_X2_8 : u_lay RX2 TX2 8 ∈ lw_B := List.mem_filter.mpr ⟨it_tables_1_1 _ (List.mem_of_getElem? (i := 154) rfl), rfl⟩
theorem tl_X2_9 : u_lay RX2 TX2 9 ∈ lw_B := List.mem_filter.mpr ⟨it_tables_1_1 _ (List.mem_of_getElem? (i := 156) rfl), rfl⟩
theorem tl_X2 : ∀ k, k < 10 → u_lay RX2 TX2 k ∈ lw_B := fun k hk => match k, hk with | 0, _ => tl_X2_0 | 1, _ => tl_X2_1 | 2, _ => tl_X2_2 | 3, _ => tl_X2_3 | 4, _ => tl_X2_4 | 5, _ => tl_X2_5 | 6, _ => tl_X2_6 | 7, _ => tl_X2_7 | 8, _ => tl_X2_8 | 9, _ => tl_X2_9 | n + 10, h => absurd h (by omega)
theorem in_X2 : ∀ w ∈ u_ws RX2 TX2 10, w ∈ lw_B := fun w h => by obtain ⟨k, hk, rfl⟩ := List.mem_map.mp h; exact tl_X2 k (List.mem_range.mp hk)
theorem tl_X3_0 : u_lay RX3 TX3 0 ∈ lw_B := List.mem_filter.mpr ⟨it_tables_1_1 _ (List.mem_of_getElem? (i := 80) rfl), rfl⟩
theorem tl_X3_1 : u_lay RX3 TX3 1 ∈ lw_B := List.mem_filter.mpr ⟨it_tables_1_1 _ (List.mem_of_getElem? (i := 82) rfl), rfl⟩
theorem tl_X3_2 : u_lay RX3 TX3 2 ∈ lw_B := List.mem_filter.mpr ⟨it_tables_1_1 _ (List.mem_of_getElem? (i := 84) rfl), rfl⟩
theorem tl_X3_3 : u_lay RX3 TX3 3 ∈ lw_B := List.mem_filter.mpr ⟨it_tables_1_1 _ (List.mem_of_getElem? (i := 86) rfl), rfl⟩
theorem tl_X3_4 : u_lay RX3 TX3 4 ∈ lw_B := List.mem_filter.mpr ⟨it_tables_1_1 _ (List.mem_of_getElem? (i := 88) rfl), rfl⟩
theorem tl_X3_5 : u_lay RX3 TX3 5 ∈ lw_B := List.mem_filter.mpr ⟨it_tables_1_1 _ (List.mem_of_getElem? (i := 90) rfl), rfl⟩
theorem tl_X3_6 : u_lay RX3 TX3 6 ∈ lw_B := List.mem_filter.mpr ⟨it_tables_1_1 _ (List.mem_of_getElem? (i := 92) rfl), rfl⟩
theorem tl_X3_7 : u_lay RX3 TX3 7 ∈ lw_B := List.mem_filter.mpr ⟨it_tables_1_1 _ (List.mem_of_getElem? (i := 94) rfl), rfl⟩
theorem tl_X3_8 : u_lay RX3 TX3 8 ∈ lw_B := List.mem_filter.mpr ⟨it_tables_1_1 _ (List.mem_of_getElem? (i := 96) rfl), rfl⟩
theorem tl_X3_9 : u_lay RX3 TX3 9 ∈ lw_B := List.mem_filter.mpr ⟨it_tables_1_1 _ (List.mem_of_getElem? (i := 98) rfl), rfl⟩
theorem tl_X3_10 : u_lay RX3 TX3 10 ∈ lw_B := List.mem_filter.mpr ⟨it_tables_1_1 _ (List.mem_of_getElem? (i := 100) rfl), rfl⟩
theorem tl_X3_11 : u_lay RX3 TX3 11 ∈ lw_B := List.mem_filter.mpr ⟨it_tables_1_1 _ (List.mem_of_getElem? (i := 102) rfl), rfl⟩
theorem tl_X3 : ∀ k, k < 12 → u_lay RX3 TX3 k ∈ lw_B := fun k hk => match k, hk with | 0, _ => tl_X3_0 | 1, _ => tl_X3_1 | 2, _ => tl_X3_2 | 3, _ => tl_X3_3 | 4, _ => tl_X3_4 | 5, _ => tl_X3_5 | 6, _ => tl_X3_6 | 7, _ => tl_X3_7 | 8, _ => tl_X3_8 | 9, _ => tl_X3_9 | 10, _ => tl_X3_10 | 11, _ => tl_X3_11 | n + 12, h => absurd h (by omega)
theorem in_X3 : ∀ w ∈ u_ws RX3 TX3 12, w ∈ lw_B := fun w h => by obtain ⟨k, hk, rfl⟩ := List.mem_map.mp h; exact tl_X3 k (List.mem_range.mp hk)
theorem tl_X4_0 : u_lay RX4 TX4 0 ∈ lw_B := List.mem_filter.mpr ⟨it_tables_1_2 _ (List.mem_of_getElem? (i := 215) rfl), rfl⟩
theorem tl_X4_1 : u_lay RX4 TX4 1 ∈ lw_B := List.mem_filter.mpr ⟨it_tables_1_2 _ (List.mem_of_getElem? (i := 217) rfl), rfl⟩
theorem tl_X4_2 : u_lay RX4 TX4 2 ∈ lw_B := List.mem_filter.mpr ⟨it_tables_1_2 _ (List.mem_of_getElem? (i := 219) rfl), rfl⟩
theorem tl_X4_3 : u_lay RX4 TX4 3 ∈ lw_B := List.mem_filter.mpr ⟨it_tables_1_2 _ (List.mem_of_getElem? (i := 221) rfl), rfl⟩
theorem tl_X4_4 : u_lay RX4 TX4 4 ∈ lw_B := List.mem_filter.mpr ⟨it_tables_1_2 _ (List.mem_of_getElem? (i := 223) rfl), rfl⟩
theorem tl_X4_5 : u_lay RX4 TX4 5 ∈ lw_B := List.mem_filter.mpr ⟨it_tables_1_2 _ (List.mem_of_getElem? (i := 225) rfl), rfl⟩
theorem tl_X4_6 : u_lay RX4 TX4 6 ∈ lw_B := List.mem_filter.mpr ⟨it_tables_1_2 _ (List.mem_of_getElem? (i := 227) rfl), rfl⟩
theorem tl_X4_7 : u_lay RX4 TX4 7 ∈ lw_B := List.mem_filter.mpr ⟨it_tables_1_2 _ (List.mem_of_getElem? (i := 229) rfl), rfl⟩
theorem tl_X4_8 : u_lay RX4 TX4 8 ∈ lw_B := List.mem_filter.mpr ⟨it_tables_1_2 _ (List.mem_of_getElem? (i := 231) rfl), rfl⟩
theorem tl_X4_9 : u_lay RX4 TX4 9 ∈ lw_B := List.mem_filter.mpr ⟨it_tables_1_2 _ (List.mem_of_getElem? (i := 233) rfl), rfl⟩
theorem tl_X4_10 : u_lay RX4 TX4 10 ∈ lw_B := List.mem_filter.mpr ⟨it_tables_1_2 _ (List.mem_of_getElem? (i := 235) rfl), rfl⟩
theorem tl_X4_11 : u_lay RX4 TX4 11 ∈ lw_B := List.mem_filter.mpr ⟨it_tables_1_2 _ (List.mem_of_getElem? (i := 237) rfl), rfl⟩
theorem tl_X4_12 : u_lay RX4 TX4 12 ∈ lw_B := List.mem_filter.mpr ⟨it_tables_1_2 _ (List.mem_of_getElem? (i := 239) rfl), rfl⟩
theorem tl_X4_13 : u_lay RX4 TX4 13 ∈ lw_B := List.mem_filter.mpr ⟨it_tables_1_3 _ (List.mem_of_getElem? (i := 1) rfl), rfl⟩
theorem tl_X4_14 : u_lay RX4 TX4 14 ∈ lw_B := List.mem_filter.mpr ⟨it_tables_1_3 _ (List.mem_of_getElem? (i := 3) rfl), rfl⟩
theorem tl_X4_15 : u_lay RX4 TX4 15 ∈ lw_B := List.mem_filter.mpr ⟨it_tables_1_3 _ (List.mem_of_getElem? (i := 5) rfl), rfl⟩
theorem tl_X4_16 : u_lay RX4 TX4 16 ∈ lw_B := List.mem_filter.mpr ⟨it_tables_1_3 _ (List.mem_of_getElem? (i := 7) rfl), rfl⟩
theorem tl_X4_17 : u_lay RX4 TX4 17 ∈ lw_B := List.mem_filter.mpr ⟨it_tables_1_3 _ (List.mem_of_getElem? (i := 9) rfl), rfl⟩
theorem tl_X4_18 : u_lay RX4 TX4 18 ∈ lw_B := List.mem_filter.mpr ⟨it_tables_1_3 _ (List.mem_of_getElem? (i := 11) rfl), rfl⟩
theorem tl_X4_19 : u_lay RX4 TX4 19 ∈ lw_B := List.mem_filter.mpr ⟨it_tables_1_3 _ (List.mem_of_getElem? (i := 13) rfl), rfl⟩
theorem tl_X4_20 : u_lay RX4 TX4 20 ∈ lw_B := List.mem_filter.mpr ⟨it_tables_1_3 _ (List.mem_of_getElem? (i := 15) rfl), rfl⟩
theorem tl_X4_21 : u_lay RX4 TX4 21 ∈ lw_B := List.mem_filter.mpr ⟨it_tables_1_3 _ (List.mem_of_getElem? (i := 17) rfl), rfl⟩
theorem tl_X4_22 : u_lay RX4 TX4 22 ∈ lw_B := List.mem_filter.mpr ⟨it_tables_1_3 _ (List.mem_of_getElem? (i := 19) rfl), rfl⟩
theorem tl_X4_23 : u_lay RX4 TX4 23 ∈ lw_B := List.mem_filter.mpr ⟨it_tables_1_3 _ (List.mem_of_getElem? (i := 21) rfl), rfl⟩
theorem tl_X4_24 : u_lay RX4 TX4 24 ∈ lw_B := List.mem_filter.mpr ⟨it_tables_1_3 _ (List.mem_of_getElem? (i := 23) rfl), rfl⟩
theorem tl_X4_25 : u_lay RX4 TX4 25 ∈ lw_B := List.mem_filter.mpr ⟨it_tables_1_3 _ (List.mem_of_getElem? (i := 25) rfl), rfl⟩
theorem tl_X4_26 : u_lay RX4 TX4 26 ∈ lw_B := List.mem_filter.mpr ⟨it_tables_1_3 _ (List.mem_of_getElem? (i := 27) rfl), rfl⟩
theorem tl_X4_27 : u_lay RX4 TX4 27 ∈ lw_B := List.mem_filter.mpr ⟨it_tables_1_3 _ (List.mem_of_getElem? (i := 29) rfl), rfl⟩
theorem tl_X4_28 : u_lay RX4 TX4 28 ∈ lw_B := List.mem_filter.mpr ⟨it_tables_1_3 _ (List.mem_of_getElem? (i := 31) rfl), rfl⟩
theorem tl_X4_29 : u_lay RX4 TX4 29 ∈ lw_B := List.mem_filter.mpr ⟨it_tables_1_3 _ (List.mem_of_getElem? (i := 33) rfl), rfl⟩
theorem tl_X4_30 : u_lay RX4 TX4 30 ∈ lw_B := List.mem_filter.mpr ⟨it_tables_1_3 _ (List.mem_of_getElem? (i := 35) rfl), rfl⟩
theorem tl_X4_31 : u_lay RX4 TX4 31 ∈ lw_B := List.mem_filter.mpr ⟨it_tables_1_3 _ (List.mem_of_getElem? (i := 37) rfl), rfl⟩
theorem tl_X4_32 : u_lay RX4 TX4 32 ∈ lw_B := List.mem_filter.mpr ⟨it_tables_1_3 _ (List.mem_of_getElem? (i := 39) rfl), rfl⟩
theorem tl_X4_33 : u_lay RX4 TX4 33 ∈ lw_B := List.mem_filter.mpr ⟨it_tables_1_3 _ (List.mem_of_getElem? (i := 41) rfl), rfl⟩
theorem tl_X4 : ∀ k, k < 34 → u_lay RX4 TX4 k ∈ lw_B := fun k hk => match k, hk with | 0, _ => tl_X4_0 | 1, _ => tl_X4_1 | 2, _ => tl_X4_2 | 3, _ => tl_X4_3 | 4, _ => tl_X4_4 | 5, _ => tl_X4_5 | 6, _ => tl_X4_6 | 7, _ => tl_X4_7 | 8, _ => tl_X4_8 | 9, _ => tl_X4_9 | 10, _ => tl_X4_10 | 11, _ => tl_X4_11 | 12, _ => tl_X4_12 | 13, _ => tl_X4_13 | 14, _ => tl_X4_14 | 15, _ => tl_X4_15 | 16, _ => tl_X4_16 | 17, _ => tl_X4_17 | 18, _ => tl_X4_18 | 19, _ => tl_X4_19 | 20, _ => tl_X4_20 | 21, _ => tl_X4_21 | 22, _ => tl_X4_22 | 23, _ => tl_X4_23 | 24, _ => tl_X4_24 | 25, _ => tl_X4_25 | 26, _ => tl_X4_26 | 27, _ => tl_X4_27 | 28, _ => tl_X4_28 | 29, _ => tl_X4_29 | 30, _ => tl_X4_30 | 31, _ => tl_X4_31 | 32, _ => tl_X4_32 | 33, _ => tl_X4_33 | n + 34, h => absurd h (by omega)
theorem in_X4 : ∀ w ∈ u_ws RX4 TX4 34, w ∈ lw_B := fun w h => by obtain ⟨k, hk, rfl⟩ := List.mem_map.mp h; exact tl_X4 k (List.mem_range.mp hk)
theorem tw_in : ∀ w ∈ lw_B, w ∈ lw_tbl := fun w h => (List.mem_filter.mp h).1
theorem tw_good : ∀ w ∈ lw_B, (w.onTables && w.keeps) = true ∨ ∃ ty, w = .arrayClass ty := fun w h => good_of_word (List.mem_filter.mp h).2
theorem tw_V {c1 cn : Cond} {own C : String} {idx : Nat} {y : MethodName} (h1 : Cond.methodLink own idx y ∈ lw_B) (h2 : Cond.instanceMethod y ∈ lw_B) (h3 : Cond.selects C y y ∈ lw_B) (h4 : Cond.initialized C ∈ lw_B) (h5 : cn ∈ lw_B) : GoodIn (c1 :: lw_B) (wsV own idx C y (cn :: lw_B)) := by
  have key : ∀ w, w ∈ lw_B → w ∈ c1 :: lw_B ∧ ((w.onTables && w.keeps) = true ∨ ∃ ty, w = .arrayClass ty) := fun w h => ⟨List.mem_cons_of_mem _ h, tw_good w h⟩
  intro w hw
  rcases List.mem_append.mp hw with hw | hw
  · rcases List.mem_cons.mp hw with rfl | hw
    · exact key _ h1
    · rcases List.mem_cons.mp hw with rfl | hw
      · exact key _ h2
      · rcases List.mem_cons.mp hw with rfl | hw
        · exact key _ h3
        · rcases List.mem_cons.mp hw with rfl | hw
          · exact key _ h4
          · cases hw
  · rcases List.mem_cons.mp hw with rfl | hw
    · exact key _ h5
    · exact key _ hw
theorem tw_I {c1 cn : Cond} (h5 : cn ∈ lw_B) : GoodIn (c1 :: lw_B) (cn :: lw_B) := by
  intro w hw
  rcases List.mem_cons.mp hw with rfl | hw
  · exact ⟨List.mem_cons_of_mem _ h5, tw_good _ h5⟩
  · exact ⟨List.mem_cons_of_mem _ hw, tw_good _ hw⟩
theorem tw_S {c1 cn : Cond} {own : String} {idx : Nat} {y : MethodName} (h1 : Cond.methodLink own idx y ∈ lw_B) (h2 : Cond.static y ∈ lw_B) (h4 : Cond.initialized y.cls ∈ lw_B) (h5 : cn ∈ lw_B) : GoodIn (c1 :: lw_B) (va_wsS own idx y (cn :: lw_B)) := by
  have key : ∀ w, w ∈ lw_B → w ∈ c1 :: lw_B ∧ ((w.onTables && w.keeps) = true ∨ ∃ ty, w = .arrayClass ty) := fun w h => ⟨List.mem_cons_of_mem _ h, tw_good w h⟩
  intro w hw
  rcases List.mem_append.mp hw with hw | hw
  · rcases List.mem_cons.mp hw with rfl | hw
    · exact key _ h1
    · rcases List.mem_cons.mp hw with rfl | hw
      · exact key _ h2
      · rcases List.mem_cons.mp hw with rfl | hw
        · exact key _ h4
        · cases hw
  · rcases List.mem_cons.mp hw with rfl | hw
    · exact key _ h5
    · exact key _ hw
end
section
/-- which fields hold references -/
def hv_R (ci k : Nat) : Bool := match ci with
  | 0 => k == 7
  | 1 => k < 4
  | 2 => k == 1
  | 3 => k < 3
  | _ => k == 2 || k == 6 || (14 ≤ k && k < 30) || k == 31
/-- the arrays' types -/
def hv_tys (tc : Nat → ClassId) : List (ClassId × FieldType) := [(tc 0, .int), (tc 1, .boolean), (tc 2, .object "CommitSites$Site"), (tc 3, .object "CommitSites$Message"), (tc 4, .array .int)]
/-! ===== a view of the heap: kinds of cells, int fields, reference fields, int elements, reference elements, number of cells, number of slots ===== -/
abbrev hv_V : Type := (Nat → Nat × Nat) × (Nat → Nat → Int32) × (Nat → Nat → Option Nat) × (Nat → Nat → Int32) × (Nat → Nat → Option Nat) × Nat × Nat
def hv_k (v : hv_V) (a : Nat) : Nat × Nat := v.1 a
def hv_i (v : hv_V) (f a : Nat) : Int32 := v.2.1 f a
def hv_p (v : hv_V) (f a : Nat) : Option Nat := v.2.2.1 f a
def hv_a (v : hv_V) (a j : Nat) : Int32 := v.2.2.2.1 a j
def hv_q (v : hv_V) (a j : Nat) : Option Nat := v.2.2.2.2.1 a j
def hv_n (v : hv_V) : Nat := v.2.2.2.2.2.1
def hv_t (v : hv_V) : Nat := v.2.2.2.2.2.2
def hv_u {α : Type} (m : Nat → Nat → α) (f a : Nat) (x : α) : Nat → Nat → α := fun g b => if g = f ∧ b = a then x else m g b
def hv_si (v : hv_V) (f a : Nat) (x : Int32) : hv_V := (v.1, hv_u v.2.1 f a x, v.2.2)
def hv_sp (v : hv_V) (f a : Nat) (x : Option Nat) : hv_V := (v.1, v.2.1, hv_u v.2.2.1 f a x, v.2.2.2)
def hv_sa (v : hv_V) (a j : Nat) (x : Int32) : hv_V := (v.1, v.2.1, v.2.2.1, hv_u v.2.2.2.1 a j x, v.2.2.2.2)
def hv_sq (v : hv_V) (a j : Nat) (x : Option Nat) : hv_V := (v.1, v.2.1, v.2.2.1, v.2.2.2.1, hv_u v.2.2.2.2.1 a j x, v.2.2.2.2.2)
/-- a new cell of kind kd, with w slots, at the heap's end -/
def hv_nw (v : hv_V) (kd : Nat × Nat) (w : Nat) : hv_V := (va_up v.1 (hv_n v) kd, (fun f a => if a = hv_n v then 0 else v.2.1 f a), (fun f a => if a = hv_n v then none else v.2.2.1 f a), (fun a j => if a = hv_n v then 0 else v.2.2.2.1 a j), (fun a j => if a = hv_n v then none else v.2.2.2.2.1 a j), hv_n v + 1, hv_t v + w)
/-- the same cells in a heap of another size -/
def hv_sz (v : hv_V) (n t : Nat) : hv_V := (v.1, v.2.1, v.2.2.1, v.2.2.2.1, v.2.2.2.2.1, n, t)
theorem hv_u_s {α : Type} (m : Nat → Nat → α) (f a : Nat) (x : α) : hv_u m f a x f a = x := by simp [hv_u]
theorem hv_u_n {α : Type} (m : Nat → Nat → α) {f a g b : Nat} (x : α) (h : ¬ (g = f ∧ b = a)) : hv_u m f a x g b = m g b := by simp [hv_u, h]
theorem hv_si_i (v : hv_V) (f a : Nat) (x : Int32) (g b : Nat) : hv_i (hv_si v f a x) g b = if g = f ∧ b = a then x else hv_i v g b := rfl
theorem hv_si_k (v : hv_V) (f a : Nat) (x : Int32) (b : Nat) : hv_k (hv_si v f a x) b = hv_k v b := rfl
theorem hv_si_p (v : hv_V) (f a : Nat) (x : Int32) (g b : Nat) : hv_p (hv_si v f a x) g b = hv_p v g b := rfl
theorem hv_si_a (v : hv_V) (f a : Nat) (x : Int32) (g b : Nat) : hv_a (hv_si v f a x) g b = hv_a v g b := rfl
theorem hv_si_q (v : hv_V) (f a : Nat) (x : Int32) (g b : Nat) : hv_q (hv_si v f a x) g b = hv_q v g b := rfl
theorem hv_si_n (v : hv_V) (f a : Nat) (x : Int32) : hv_n (hv_si v f a x) = hv_n v := rfl
theorem hv_si_t (v : hv_V) (f a : Nat) (x : Int32) : hv_t (hv_si v f a x) = hv_t v := rfl
theorem hv_sp_p (v : hv_V) (f a : Nat) (x : Option Nat) (g b : Nat) : hv_p (hv_sp v f a x) g b = if g = f ∧ b = a then x else hv_p v g b := rfl
theorem hv_sp_k (v : hv_V) (f a : Nat) (x : Option Nat) (b : Nat) : hv_k (hv_sp v f a x) b = hv_k v b := rfl
theorem hv_sp_i (v : hv_V) (f a : Nat) (x : Option Nat) (g b : Nat) : hv_i (hv_sp v f a x) g b = hv_i v g b := rfl
theorem hv_sp_a (v : hv_V) (f a : Nat) (x : Option Nat) (g b : Nat) : hv_a (hv_sp v f a x) g b = hv_a v g b := rfl
theorem hv_sp_q (v : hv_V) (f a : Nat) (x : Option Nat) (g b : Nat) : hv_q (hv_sp v f a x) g b = hv_q v g b := rfl
theorem hv_sp_n (v : hv_V) (f a : Nat) (x : Option Nat) : hv_n (hv_sp v f a x) = hv_n v := rfl
theorem hv_sp_t (v : hv_V) (f a : Nat) (x : Option Nat) : hv_t (hv_sp v f a x) = hv_t v := rfl
theorem hv_sa_a (v : hv_V) (a j : Nat) (x : Int32) (b i : Nat) : hv_a (hv_sa v a j x) b i = if b = a ∧ i = j then x else hv_a v b i := rfl
theorem hv_sa_k (v : hv_V) (a j : Nat) (x : Int32) (b : Nat) : hv_k (hv_sa v a j x) b = hv_k v b := rfl
theorem hv_sa_i (v : hv_V) (a j : Nat) (x : Int32) (g b : Nat) : hv_i (hv_sa v a j x) g b = hv_i v g b := rfl
theorem hv_sa_p (v : hv_V) (a j : Nat) (x : Int32) (g b : Nat) : hv_p (hv_sa v a j x) g b = hv_p v g b := rfl
theorem hv_sa_q (v : hv_V) (a j : Nat) (x : Int32) (g b : Nat) : hv_q (hv_sa v a j x) g b = hv_q v g b := rfl
theorem hv_sa_n (v : hv_V) (a j : Nat) (x : Int32) : hv_n (hv_sa v a j x) = hv_n v := rfl
theorem hv_sa_t (v : hv_V) (a j : Nat) (x : Int32) : hv_t (hv_sa v a j x) = hv_t v := rfl
theorem hv_sq_q (v : hv_V) (a j : Nat) (x : Option Nat) (b i : Nat) : hv_q (hv_sq v a j x) b i = if b = a ∧ i = j then x else hv_q v b i := rfl
theorem hv_sq_k (v : hv_V) (a j : Nat) (x : Option Nat) (b : Nat) : hv_k (hv_sq v a j x) b = hv_k v b := rfl
theorem hv_sq_i (v : hv_V) (a j : Nat) (x : Option Nat) (g b : Nat) : hv_i (hv_sq v a j x) g b = hv_i v g b := rfl
theorem hv_sq_p (v : hv_V) (a j : Nat) (x : Option Nat) (g b : Nat) : hv_p (hv_sq v a j x) g b = hv_p v g b := rfl
theorem hv_sq_a (v : hv_V) (a j : Nat) (x : Option Nat) (g b : Nat) : hv_a (hv_sq v a j x) g b = hv_a v g b := rfl
theorem hv_sq_n (v : hv_V) (a j : Nat) (x : Option Nat) : hv_n (hv_sq v a j x) = hv_n v := rfl
theorem hv_sq_t (v : hv_V) (a j : Nat) (x : Option Nat) : hv_t (hv_sq v a j x) = hv_t v := rfl
/-- all slots of a heap -/
def hv_tot (H : Heap) : Nat := H.foldl (fun n c => n + c.slots.size) 0
theorem hv_tot_list (H : Heap) : hv_tot H = (H.toList.map (fun c => c.slots.size)).foldl (fun n x => n + x) 0 := by
  unfold hv_tot
  rw [← Array.foldl_toList, List.foldl_map]
theorem hv_tot_eq {H H1 : Heap} (h : ∀ q : Nat, (H1[q]?).map (fun c => c.slots.size) = (H[q]?).map (fun c => c.slots.size)) : hv_tot H1 = hv_tot H := by
  rw [hv_tot_list, hv_tot_list]
  congr 1
  apply List.ext_getElem?
  intro q
  rw [List.getElem?_map, List.getElem?_map, Array.getElem?_toList, Array.getElem?_toList]
  exact h q
theorem hv_tot_set {H H1 : Heap} {a i : Nat} {cell : Cell} {x : Value} (h0 : H[a]? = some cell) (h1 : H1[a]? = some (cell.setSlot i x)) (ho : ∀ q, q ≠ a → H1[q]? = H[q]?) : hv_tot H1 = hv_tot H := by
  apply hv_tot_eq
  intro q
  by_cases hq : q = a
  · subst hq
    rw [h0, h1]
    simp [Cell.setSlot]
  · rw [ho q hq]
theorem hv_push_of {H H1 : Heap} {cell : Cell} (h1 : H1[H.size]? = some cell) (hz : H1.size = H.size + 1) (ho : ∀ q, q < H.size → H1[q]? = H[q]?) : H1 = H.push cell := by
  apply Array.ext_getElem?
  intro q
  rw [Array.getElem?_push]
  by_cases hq : q = H.size
  · rw [if_pos hq, hq, h1]
  · rw [if_neg hq]
    by_cases hl : q < H.size
    · exact ho q hl
    · rw [Array.getElem?_eq_none (by omega), Array.getElem?_eq_none (by omega)]
theorem hv_tot_push (H : Heap) (cell : Cell) : hv_tot (H.push cell) = hv_tot H + cell.slots.size := by
  unfold hv_tot
  rw [Array.foldl_push]
/-- what a cell of an object holds -/
def hv_val (v : hv_V) (ci a k : Nat) : Value := if hv_R ci k = true then va_rf (hv_p v (100 * ci + k) a) else .int (hv_i v (100 * ci + k) a)
/-- the heap holds at a what the view says -/
def hv_c (D : va_G) (tc : Nat → ClassId) (v : hv_V) (H : Heap) (a : Nat) : Prop :=
  (∀ ci : Nat, hv_k v a = (ci + 1, 0) → ci < 99 → ∃ r : vw_C, vwCl[ci]? = some r ∧ t_OB a (D.1 ci) r.2.2 (D.2 ci) H (hv_val v ci a)) ∧
  (∀ t n : Nat, hv_k v a = (100 + t, n) → t < 2 → H[a]? = some (arrV (tc t) n (fun j => .int (hv_a v a j)))) ∧
  (∀ t n : Nat, hv_k v a = (102 + t, n) → H[a]? = some (arrV (tc (2 + t)) n (fun j => va_rf (hv_q v a j))))
def hv_W (D : va_G) (tc : Nat → ClassId) (v : hv_V) (H : Heap) : Prop := (∀ a : Nat, hv_c D tc v H a) ∧ (∀ a : Nat, (hv_k v a).1 ≠ 0 → a < hv_n v) ∧ H.size = hv_n v ∧ hv_tot H = hv_t v
/-- what may be changed: the view's cells, and new ones -/
def hv_A (v : hv_V) : Nat → Prop := fun q => (hv_k v q).1 ≠ 0 ∨ hv_n v ≤ q
/-- where a walk stands: the view holds; its cells may be changed; nothing else has been -/
def hv_St (A : Nat → Prop) (s : State) (D : va_G) (tc : Nat → ClassId) (v : hv_V) (H : Heap) (locs : List Loc) : Prop :=
  hv_W D tc v H ∧ (∀ a : Nat, (hv_k v a).1 ≠ 0 → A a) ∧ va_S A s.heap H locs ∧ ∀ q : Nat, s.heap.size ≤ q → A q
abbrev hv_K (D : va_G) (tc : Nat → ClassId) (U : State) : Prop := va_K D vwCl (hv_tys tc) U
def hv_Pre (D : va_G) (tc : Nat → ClassId) (v : hv_V) (U : State) : Prop := hv_K D tc U ∧ hv_W D tc v U.heap
def hv_Post (D : va_G) (tc : Nat → ClassId) (A : Nat → Prop) (v : hv_V) (t : State) : Prop := hv_K D tc t ∧ hv_W D tc v t.heap ∧ ∀ a : Nat, (hv_k v a).1 ≠ 0 → A a
theorem hv_c_kept {D : va_G} {tc : Nat → ClassId} {v v1 : hv_V} {H H1 : Heap} {a : Nat} (h : hv_c D tc v H a) (hq : H1[a]? = H[a]?) (hk : hv_k v1 a = hv_k v a) (hi : ∀ f, hv_i v1 f a = hv_i v f a) (hp : ∀ f, hv_p v1 f a = hv_p v f a) (ha : ∀ j, hv_a v1 a j = hv_a v a j) (hqq : ∀ j, hv_q v1 a j = hv_q v a j) : hv_c D tc v1 H1 a := by
  refine ⟨fun ci h1 h2 => ?_, fun t n h1 h2 => ?_, fun t n h1 => ?_⟩
  · obtain ⟨r, g1, g2⟩ := h.1 ci (hk ▸ h1) h2
    exact ⟨r, g1, (g2.kept hq).to (fun k _ => by unfold hv_val; rw [hi, hp])⟩
  · rw [hq, h.2.1 t n (hk ▸ h1) h2]
    simp only [ha]
  · rw [hq, h.2.2 t n (hk ▸ h1)]
    simp only [hqq]
/-- a view beside which others have worked -/
theorem hv_W_beside {D : va_G} {tc : Nat → ClassId} {v : hv_V} {H H1 : Heap} (h : hv_W D tc v H) (hle : H.size ≤ H1.size) (hq : ∀ a, (hv_k v a).1 ≠ 0 → H1[a]? = H[a]?) : hv_W D tc (hv_sz v H1.size (hv_tot H1)) H1 := by
  refine ⟨fun a => ?_, fun a ha => ?_, rfl, rfl⟩
  · by_cases h0 : (hv_k v a).1 = 0
    · refine ⟨fun ci h1 h2 => ?_, fun t n h1 h2 => ?_, fun t n h1 => ?_⟩
      · have h1 : hv_k v a = (ci + 1, 0) := h1
        rw [h1] at h0
        exact absurd h0 (Nat.succ_ne_zero ci)
      · have h1 : hv_k v a = (100 + t, n) := h1
        rw [h1] at h0
        exact absurd h0 (by show ¬ (100 + t = 0); omega)
      · have h1 : hv_k v a = (102 + t, n) := h1
        rw [h1] at h0
        exact absurd h0 (by show ¬ (102 + t = 0); omega)
    · exact hv_c_kept (h.1 a) (hq a h0) rfl (fun _ => rfl) (fun _ => rfl) (fun _ => rfl) (fun _ => rfl)
  · have h1 := h.2.1 a ha
    rw [← h.2.2.1] at h1
    exact Nat.lt_of_lt_of_le h1 hle
end
section
theorem hv_dom_ne {v : hv_V} {a ci : Nat} (h : hv_k v a = (ci + 1, 0)) : (hv_k v a).1 ≠ 0 := by rw [h]; exact Nat.succ_ne_zero ci
theorem hv_dom_nea {v : hv_V} {a t n : Nat} (h : hv_k v a = (100 + t, n)) : (hv_k v a).1 ≠ 0 := by rw [h]; show 100 + t ≠ 0; omega
theorem hv_dom_neq {v : hv_V} {a t n : Nat} (h : hv_k v a = (102 + t, n)) : (hv_k v a).1 ≠ 0 := by rw [h]; show 102 + t ≠ 0; omega
theorem hv_W_put {D : va_G} {tc : Nat → ClassId} {v v1 : hv_V} {H H1 : Heap} {a ci : Nat} {r : vw_C} (hW : hv_W D tc v H) (hk : hv_k v a = (ci + 1, 0)) (h99 : ci < 99) (hc : vwCl[ci]? = some r) (hk1 : ∀ b, hv_k v1 b = hv_k v b)
    (hb : ∀ b, b ≠ a → (∀ f, hv_i v1 f b = hv_i v f b) ∧ (∀ f, hv_p v1 f b = hv_p v f b) ∧ (∀ j, hv_a v1 b j = hv_a v b j) ∧ ∀ j, hv_q v1 b j = hv_q v b j) (hn : hv_n v1 = hv_n v) (ht : hv_t v1 = hv_t v) (hO : t_OB a (D.1 ci) r.2.2 (D.2 ci) H1 (hv_val v1 ci a)) (hz : H1.size = H.size) (htot : hv_tot H1 = hv_tot H) (ho : ∀ q, q ≠ a → H1[q]? = H[q]?) : hv_W D tc v1 H1 := by
  refine ⟨fun b => ?_, fun b h => ?_, by rw [hz, hn]; exact hW.2.2.1, by rw [htot, ht]; exact hW.2.2.2⟩
  · by_cases hba : b = a
    · subst hba
      refine ⟨fun ci' h1 h2 => ?_, fun t n h1 h2 => ?_, fun t n h1 => ?_⟩
      · rw [hk1, hk] at h1
        have : ci' = ci := by have := congrArg Prod.fst h1; simp at this; omega
        subst this
        exact ⟨r, hc, hO⟩
      · rw [hk1, hk] at h1
        have := congrArg Prod.fst h1
        simp at this
        omega
      · rw [hk1, hk] at h1
        have := congrArg Prod.fst h1
        simp at this
        omega
    · obtain ⟨g1, g2, g3, g4⟩ := hb b hba
      exact hv_c_kept (hW.1 b) (ho b hba) (hk1 b) g1 g2 g3 g4
  · rw [hk1] at h
    rw [hn]
    exact hW.2.1 b h
theorem hv_W_ast {D : va_G} {tc : Nat → ClassId} {v v1 : hv_V} {H H1 : Heap} {a t n : Nat} (hW : hv_W D tc v H) (hk : hv_k v a = (100 + t, n)) (hk1 : ∀ b, hv_k v1 b = hv_k v b)
    (hb : ∀ b, b ≠ a → (∀ f, hv_i v1 f b = hv_i v f b) ∧ (∀ f, hv_p v1 f b = hv_p v f b) ∧ (∀ j, hv_a v1 b j = hv_a v b j) ∧ ∀ j, hv_q v1 b j = hv_q v b j) (hn : hv_n v1 = hv_n v) (ht : hv_t v1 = hv_t v)
    (h2 : t < 2 → H1[a]? = some (arrV (tc t) n (fun j => .int (hv_a v1 a j)))) (h3 : ¬ t < 2 → H1[a]? = some (arrV (tc t) n (fun j => va_rf (hv_q v1 a j)))) (hz : H1.size = H.size) (htot : hv_tot H1 = hv_tot H) (ho : ∀ q, q ≠ a → H1[q]? = H[q]?) : hv_W D tc v1 H1 := by
  refine ⟨fun b => ?_, fun b h => ?_, by rw [hz, hn]; exact hW.2.2.1, by rw [htot, ht]; exact hW.2.2.2⟩
  · by_cases hba : b = a
    · subst hba
      refine ⟨fun ci' h1 h2 => ?_, fun t' n' h1 h2' => ?_, fun t' n' h1 => ?_⟩
      · rw [hk1, hk] at h1
        have := congrArg Prod.fst h1
        simp at this
        omega
      · rw [hk1, hk] at h1
        have e1 := congrArg Prod.fst h1
        have e2 := congrArg Prod.snd h1
        simp at e1 e2
        have e1 : t = t' := by omega
        subst e1
        subst e2
        exact h2 h2'
      · rw [hk1, hk] at h1
        have e1 := congrArg Prod.fst h1
        have e2 := congrArg Prod.snd h1
        simp at e1 e2
        have e1 : t = 2 + t' := by omega
        subst e1
        subst e2
        exact h3 (by omega)
    · obtain ⟨g1, g2, g3, g4⟩ := hb b hba
      exact hv_c_kept (hW.1 b) (ho b hba) (hk1 b) g1 g2 g3 g4
  · rw [hk1] at h
    rw [hn]
    exact hW.2.1 b h
theorem hv_St_put {A : Nat → Prop} {s : State} {D : va_G} {tc : Nat → ClassId} {v v1 : hv_V} {H H1 : Heap} {locs : List Loc} {a k : Nat} (hT : hv_St A s D tc v H locs) (hW1 : hv_W D tc v1 H1) (hk1 : ∀ b, hv_k v1 b = hv_k v b) (ha : (hv_k v a).1 ≠ 0) (hz : H1.size = H.size) (ho : ∀ q, q ≠ a → H1[q]? = H[q]?) : hv_St A s D tc v1 H1 (locs ++ [⟨a, k⟩]) :=
  ⟨hW1, fun b h => hT.2.1 b (by rw [hk1] at h; exact h), hT.2.2.1.put hz ho (hT.2.1 a ha), hT.2.2.2⟩
section HVR
variable {p : Program} {l : Launch} {e : Env} {R : Room} {s : State} {m : MethodId} {args : Array Value} {below : List Frame} {meth : Method} {c : Code} {H : Heap} {locs : List Loc} {cells slots : Nat} {Q : State → Prop}
variable {cc : ByteArray} {pc : Nat} {ls : Array Slot} {rest : List Value} {D : va_G} {tc : Nat → ClassId} {v : hv_V} {A : Nat → Prop} {a : Nat}
/-- getfield of an int (or boolean) field -/
theorem hv_geti (hexec : p.tables.exec = Jvm.exec) (hb : c.code = cc) {own C : String} {T : u_T} {N ci index : Nat} {Ts : List Cond} (hts : ∀ w ∈ Ts, w.before args s = true) (hin : ∀ w ∈ u_ws C T N, w ∈ Ts) (hown : s.vm.findClass own = some m.cls) (hK : hv_K D tc s) (hT : hv_St A s D tc v H locs) (hk : hv_k v a = (ci + 1, 0)) (h99 : ci < 99) (hc : vwCl[ci]? = some (C, T, N)) (k : Nat) (hkN : k < N) (hlink : (Cond.fieldLink own index (T k).1 (T k).2.1 (T k).2.2.1).before args s = true) (hR : hv_R ci k = false) (hdg : decode cc pc = .ok (.getfield index, 3))
    (kk : W p l e R s m args below meth c H locs cells slots Q (F0 m (pc + 3) ls (.int (hv_i v (100 * ci + k) a) :: rest))) : W p l e R s m args below meth c H locs cells slots Q (F0 m pc ls (.ref a :: rest)) := by
  obtain ⟨r, h1, cell, q1, q2, q3, q4⟩ := (hT.1.1 a).1 ci hk h99
  have hr : r = (C, T, N) := Option.some.inj (h1.symm.trans hc)
  subst hr
  obtain ⟨hS, hfc, kC, hkC, hkind⟩ := hK.1 ci _ hc
  obtain ⟨cf, kf, fi, f, hi, hsl⟩ := hS k hkN
  refine W.getf hexec hb hown hlink hi (u_facts hfc hkC (u_lays hts hin hkN) hi).1 q1 (by rw [q3]; exact fun h => by cases h) (v := .int (hv_i v (100 * ci + k) a)) ?_ rfl rfl hdg kk
  rw [hsl, q4 k hkN]
  simp [hv_val, hR]
/-- getfield of a reference field -/
theorem hv_getr (hexec : p.tables.exec = Jvm.exec) (hb : c.code = cc) {own C : String} {T : u_T} {N ci index : Nat} {Ts : List Cond} (hts : ∀ w ∈ Ts, w.before args s = true) (hin : ∀ w ∈ u_ws C T N, w ∈ Ts) (hown : s.vm.findClass own = some m.cls) (hK : hv_K D tc s) (hT : hv_St A s D tc v H locs) (hk : hv_k v a = (ci + 1, 0)) (h99 : ci < 99) (hc : vwCl[ci]? = some (C, T, N)) (k : Nat) (hkN : k < N) (hlink : (Cond.fieldLink own index (T k).1 (T k).2.1 (T k).2.2.1).before args s = true) (hR : hv_R ci k = true) {x : Option Nat} (hx : hv_p v (100 * ci + k) a = x) (hdg : decode cc pc = .ok (.getfield index, 3))
    (kk : W p l e R s m args below meth c H locs cells slots Q (F0 m (pc + 3) ls (va_rf x :: rest))) : W p l e R s m args below meth c H locs cells slots Q (F0 m pc ls (.ref a :: rest)) := by
  obtain ⟨r, h1, cell, q1, q2, q3, q4⟩ := (hT.1.1 a).1 ci hk h99
  have hr : r = (C, T, N) := Option.some.inj (h1.symm.trans hc)
  subst hr
  obtain ⟨hS, hfc, kC, hkC, hkind⟩ := hK.1 ci _ hc
  obtain ⟨cf, kf, fi, f, hi, hsl⟩ := hS k hkN
  refine W.getf hexec hb hown hlink hi (u_facts hfc hkC (u_lays hts hin hkN) hi).1 q1 (by rw [q3]; exact fun h => by cases h) (v := va_rf x) ?_ rfl rfl hdg kk
  rw [hsl, q4 k hkN]
  simp [hv_val, hR, hx]
/-- putfield of an int (or boolean) field -/
theorem hv_puti (hexec : p.tables.exec = Jvm.exec) (hb : c.code = cc) {own C : String} {T : u_T} {N ci index : Nat} {Ts : List Cond} (hts : ∀ w ∈ Ts, w.before args s = true) (hin : ∀ w ∈ u_ws C T N, w ∈ Ts) (ty0 : Nat → FieldType) (hty : ∀ k, k < N → parseFieldDescriptor (T k).2.2.1 = some (ty0 k)) (hnm : ∀ a, a < N → ∀ b, b < N → a ≠ b → (T a).2.1 ≠ (T b).2.1) (hown : s.vm.findClass own = some m.cls) (hK : hv_K D tc s) (hT : hv_St A s D tc v H locs) (hk : hv_k v a = (ci + 1, 0)) (h99 : ci < 99) (hc : vwCl[ci]? = some (C, T, N)) (k : Nat) (hkN : k < N) (hlink : (Cond.fieldLink own index (T k).1 (T k).2.1 (T k).2.2.1).before args s = true) (hR : hv_R ci k = false) (hfin : (T k).2.2.2 = false) {x : Int32} (hn : narrow (ty0 k) (.int x) = .int x) (hfit : fits (ty0 k) (.int x) = true) (hdg : decode cc pc = .ok (.putfield index, 3))
    (kk : ∀ (H1 : Heap) (locs1 : List Loc), hv_St A s D tc (hv_si v (100 * ci + k) a x) H1 locs1 → W p l e R s m args below meth c H1 locs1 cells slots Q (F0 m (pc + 3) ls rest)) : W p l e R s m args below meth c H locs cells slots Q (F0 m pc ls (.int x :: .ref a :: rest)) := by
  have hap := va_apart (own := own) hts hin ty0 hty hnm hK hc
  obtain ⟨r, h1, cell, q1, q2, q3, q4⟩ := (hT.1.1 a).1 ci hk h99
  have hr : r = (C, T, N) := Option.some.inj (h1.symm.trans hc)
  subst hr
  obtain ⟨hS, hfc, kC, hkC, hkind⟩ := hK.1 ci _ hc
  obtain ⟨cf, kf, fi, f, hi, hsl⟩ := hS k hkN
  have hlay := hts _ (hin _ (u_in_lay hkN))
  unfold u_lay at hlay
  rw [if_neg (by rw [hfin]; decide)] at hlay
  have hst := (u_facts hfc hkC (u_lays hts hin hkN) hi).1
  have h6 := u_store hfc hkC hkind hlay hi (hty k hkN) hn hfit
  refine W.putK hexec hb (f := f) ⟨hown, hlink, ⟨_, _, _, hi⟩, hst⟩ (by rw [q2]; exact h6) q1 q3 (by rw [hsl]; exact k2_hasslot (q4 k hkN)) rfl rfl hdg fun H' e1 e2 e3 => ?_
  rw [hsl] at e1 ⊢
  have hO : t_OB a (D.1 ci) N (D.2 ci) H' (hv_val (hv_si v (100 * ci + k) a x) ci a) := by
    refine t_OB.to (V := updV (hv_val v ci a) k (.int x)) ⟨_, e1, q2, q3, t_set q4 hap hkN _⟩ (fun j _ => ?_)
    by_cases hj : j = k
    · subst hj
      simp [updV, hv_val, hR, hv_si_i]
    · simp [updV, hv_val, hj, hv_si_i, hv_si_p]
  exact kk H' _ (hv_St_put hT (hv_W_put hT.1 hk h99 hc (fun _ => rfl) (fun b hb => ⟨fun f => by simp [hv_si_i, hb], fun _ => rfl, fun _ => rfl, fun _ => rfl⟩) rfl rfl hO e2 (hv_tot_set q1 e1 e3) e3) (fun _ => rfl) (hv_dom_ne hk) e2 e3)
/-- putfield of a reference field -/
theorem hv_putr (hexec : p.tables.exec = Jvm.exec) (hb : c.code = cc) {own C : String} {T : u_T} {N ci index : Nat} {Ts : List Cond} (hts : ∀ w ∈ Ts, w.before args s = true) (hin : ∀ w ∈ u_ws C T N, w ∈ Ts) (ty0 : Nat → FieldType) (hty : ∀ k, k < N → parseFieldDescriptor (T k).2.2.1 = some (ty0 k)) (hnm : ∀ a, a < N → ∀ b, b < N → a ≠ b → (T a).2.1 ≠ (T b).2.1) (hown : s.vm.findClass own = some m.cls) (hK : hv_K D tc s) (hT : hv_St A s D tc v H locs) (hk : hv_k v a = (ci + 1, 0)) (h99 : ci < 99) (hc : vwCl[ci]? = some (C, T, N)) (k : Nat) (hkN : k < N) (hlink : (Cond.fieldLink own index (T k).1 (T k).2.1 (T k).2.2.1).before args s = true) (hR : hv_R ci k = true) (hfin : (T k).2.2.2 = false) {y : Value} (x : Option Nat) (hy : y = va_rf x) (hn : narrow (ty0 k) y = y) (hfit : fits (ty0 k) y = true) (hdg : decode cc pc = .ok (.putfield index, 3))
    (kk : ∀ (H1 : Heap) (locs1 : List Loc), hv_St A s D tc (hv_sp v (100 * ci + k) a x) H1 locs1 → W p l e R s m args below meth c H1 locs1 cells slots Q (F0 m (pc + 3) ls rest)) : W p l e R s m args below meth c H locs cells slots Q (F0 m pc ls (y :: .ref a :: rest)) := by
  have hap := va_apart (own := own) hts hin ty0 hty hnm hK hc
  obtain ⟨r, h1, cell, q1, q2, q3, q4⟩ := (hT.1.1 a).1 ci hk h99
  have hr : r = (C, T, N) := Option.some.inj (h1.symm.trans hc)
  subst hr
  obtain ⟨hS, hfc, kC, hkC, hkind⟩ := hK.1 ci _ hc
  obtain ⟨cf, kf, fi, f, hi, hsl⟩ := hS k hkN
  have hlay := hts _ (hin _ (u_in_lay hkN))
  unfold u_lay at hlay
  rw [if_neg (by rw [hfin]; decide)] at hlay
  have hst := (u_facts hfc hkC (u_lays hts hin hkN) hi).1
  have h6 := u_store hfc hkC hkind hlay hi (hty k hkN) hn hfit
  refine W.putK hexec hb (f := f) ⟨hown, hlink, ⟨_, _, _, hi⟩, hst⟩ (by rw [q2]; exact h6) q1 q3 (by rw [hsl]; exact k2_hasslot (q4 k hkN)) rfl rfl hdg fun H' e1 e2 e3 => ?_
  rw [hsl] at e1 ⊢
  have hO : t_OB a (D.1 ci) N (D.2 ci) H' (hv_val (hv_sp v (100 * ci + k) a x) ci a) := by
    refine t_OB.to (V := updV (hv_val v ci a) k y) ⟨_, e1, q2, q3, t_set q4 hap hkN _⟩ (fun j _ => ?_)
    by_cases hj : j = k
    · subst hj
      simp [updV, hv_val, hR, hv_sp_p, hy]
    · simp [updV, hv_val, hj, hv_sp_i, hv_sp_p]
  exact kk H' _ (hv_St_put hT (hv_W_put hT.1 hk h99 hc (fun _ => rfl) (fun b hb => ⟨fun _ => rfl, fun f => by simp [hv_sp_p, hb], fun _ => rfl, fun _ => rfl⟩) rfl rfl hO e2 (hv_tot_set q1 e1 e3) e3) (fun _ => rfl) (hv_dom_ne hk) e2 e3)
/-- putfield of a final field in its class's constructor: int -/
theorem hv_putiF (hexec : p.tables.exec = Jvm.exec) (hb : c.code = cc) {own C : String} {T : u_T} {N ci index : Nat} {Ts : List Cond} (hts : ∀ w ∈ Ts, w.before args s = true) (hin : ∀ w ∈ u_ws C T N, w ∈ Ts) (ty0 : Nat → FieldType) (hty : ∀ k, k < N → parseFieldDescriptor (T k).2.2.1 = some (ty0 k)) (hnm : ∀ a, a < N → ∀ b, b < N → a ≠ b → (T a).2.1 ≠ (T b).2.1) (hown : s.vm.findClass own = some m.cls) (hK : hv_K D tc s) (hT : hv_St A s D tc v H locs) (hk : hv_k v a = (ci + 1, 0)) (h99 : ci < 99) (hc : vwCl[ci]? = some (C, T, N)) (k : Nat) (hkN : k < N) (hlink : (Cond.fieldLink own index (T k).1 (T k).2.1 (T k).2.2.1).before args s = true) (hR : hv_R ci k = false) (hfin : (T k).2.2.2 = true) (hin2 : meth.name = "<init>") (hdecl : (T k).1 = own) {x : Int32} (hn : narrow (ty0 k) (.int x) = .int x) (hfit : fits (ty0 k) (.int x) = true) (hdg : decode cc pc = .ok (.putfield index, 3))
    (kk : ∀ (H1 : Heap) (locs1 : List Loc), hv_St A s D tc (hv_si v (100 * ci + k) a x) H1 locs1 → W p l e R s m args below meth c H1 locs1 cells slots Q (F0 m (pc + 3) ls rest)) : W p l e R s m args below meth c H locs cells slots Q (F0 m pc ls (.int x :: .ref a :: rest)) := by
  have hap := va_apart (own := own) hts hin ty0 hty hnm hK hc
  obtain ⟨r, h1, cell, q1, q2, q3, q4⟩ := (hT.1.1 a).1 ci hk h99
  have hr : r = (C, T, N) := Option.some.inj (h1.symm.trans hc)
  subst hr
  obtain ⟨hS, hfc, kC, hkC, hkind⟩ := hK.1 ci _ hc
  obtain ⟨cf, kf, fi, f, hi, hsl⟩ := hS k hkN
  have hlay := hts _ (hin _ (u_in_lay hkN))
  unfold u_lay at hlay
  rw [if_pos hfin] at hlay
  have hst := (u_facts hfc hkC (u_lays hts hin hkN) hi).1
  have hcf : m.cls = cf := by
    obtain ⟨_, _, c', _, _, _, -, -, hf', -, -, -, hown2, -⟩ := Cond.laysFinal_spec hlay
    have e1 : c' = cf := by have := hi.symm.trans hf'; simp at this; exact this.1.symm
    rw [hdecl] at hown2
    rw [← e1]; exact Option.some.inj (hown.symm.trans hown2)
  have h6 := u_fits hfc hkC hkind (Or.inr hlay) hi (hty k hkN) hn hfit
  refine W.putFinK hexec hb hown hlink hi hst hcf hin2 (by rw [q2]; exact h6) q1 q3 (by rw [hsl]; exact k2_hasslot (q4 k hkN)) rfl rfl hdg fun H' e1 e2 e3 => ?_
  rw [hsl] at e1 ⊢
  have hO : t_OB a (D.1 ci) N (D.2 ci) H' (hv_val (hv_si v (100 * ci + k) a x) ci a) := by
    refine t_OB.to (V := updV (hv_val v ci a) k (.int x)) ⟨_, e1, q2, q3, t_set q4 hap hkN _⟩ (fun j _ => ?_)
    by_cases hj : j = k
    · subst hj
      simp [updV, hv_val, hR, hv_si_i]
    · simp [updV, hv_val, hj, hv_si_i, hv_si_p]
  exact kk H' _ (hv_St_put hT (hv_W_put hT.1 hk h99 hc (fun _ => rfl) (fun b hb => ⟨fun f => by simp [hv_si_i, hb], fun _ => rfl, fun _ => rfl, fun _ => rfl⟩) rfl rfl hO e2 (hv_tot_set q1 e1 e3) e3) (fun _ => rfl) (hv_dom_ne hk) e2 e3)
/-- putfield of a final field in its class's constructor: reference -/
theorem hv_putrF (hexec : p.tables.exec = Jvm.exec) (hb : c.code = cc) {own C : String} {T : u_T} {N ci index : Nat} {Ts : List Cond} (hts : ∀ w ∈ Ts, w.before args s = true) (hin : ∀ w ∈ u_ws C T N, w ∈ Ts) (ty0 : Nat → FieldType) (hty : ∀ k, k < N → parseFieldDescriptor (T k).2.2.1 = some (ty0 k)) (hnm : ∀ a, a < N → ∀ b, b < N → a ≠ b → (T a).2.1 ≠ (T b).2.1) (hown : s.vm.findClass own = some m.cls) (hK : hv_K D tc s) (hT : hv_St A s D tc v H locs) (hk : hv_k v a = (ci + 1, 0)) (h99 : ci < 99) (hc : vwCl[ci]? = some (C, T, N)) (k : Nat) (hkN : k < N) (hlink : (Cond.fieldLink own index (T k).1 (T k).2.1 (T k).2.2.1).before args s = true) (hR : hv_R ci k = true) (hfin : (T k).2.2.2 = true) (hin2 : meth.name = "<init>") (hdecl : (T k).1 = own) {y : Value} (x : Option Nat) (hy : y = va_rf x) (hn : narrow (ty0 k) y = y) (hfit : fits (ty0 k) y = true) (hdg : decode cc pc = .ok (.putfield index, 3))
    (kk : ∀ (H1 : Heap) (locs1 : List Loc), hv_St A s D tc (hv_sp v (100 * ci + k) a x) H1 locs1 → W p l e R s m args below meth c H1 locs1 cells slots Q (F0 m (pc + 3) ls rest)) : W p l e R s m args below meth c H locs cells slots Q (F0 m pc ls (y :: .ref a :: rest)) := by
  have hap := va_apart (own := own) hts hin ty0 hty hnm hK hc
  obtain ⟨r, h1, cell, q1, q2, q3, q4⟩ := (hT.1.1 a).1 ci hk h99
  have hr : r = (C, T, N) := Option.some.inj (h1.symm.trans hc)
  subst hr
  obtain ⟨hS, hfc, kC, hkC, hkind⟩ := hK.1 ci _ hc
  obtain ⟨cf, kf, fi, f, hi, hsl⟩ := hS k hkN
  have hlay := hts _ (hin _ (u_in_lay hkN))
  unfold u_lay at hlay
  rw [if_pos hfin] at hlay
  have hst := (u_facts hfc hkC (u_lays hts hin hkN) hi).1
  have hcf : m.cls = cf := by
    obtain ⟨_, _, c', _, _, _, -, -, hf', -, -, -, hown2, -⟩ := Cond.laysFinal_spec hlay
    have e1 : c' = cf := by have := hi.symm.trans hf'; simp at this; exact this.1.symm
    rw [hdecl] at hown2
    rw [← e1]; exact Option.some.inj (hown.symm.trans hown2)
  have h6 := u_fits hfc hkC hkind (Or.inr hlay) hi (hty k hkN) hn hfit
  refine W.putFinK hexec hb hown hlink hi hst hcf hin2 (by rw [q2]; exact h6) q1 q3 (by rw [hsl]; exact k2_hasslot (q4 k hkN)) rfl rfl hdg fun H' e1 e2 e3 => ?_
  rw [hsl] at e1 ⊢
  have hO : t_OB a (D.1 ci) N (D.2 ci) H' (hv_val (hv_sp v (100 * ci + k) a x) ci a) := by
    refine t_OB.to (V := updV (hv_val v ci a) k y) ⟨_, e1, q2, q3, t_set q4 hap hkN _⟩ (fun j _ => ?_)
    by_cases hj : j = k
    · subst hj
      simp [updV, hv_val, hR, hv_sp_p, hy]
    · simp [updV, hv_val, hj, hv_sp_i, hv_sp_p]
  exact kk H' _ (hv_St_put hT (hv_W_put hT.1 hk h99 hc (fun _ => rfl) (fun b hb => ⟨fun _ => rfl, fun f => by simp [hv_sp_p, hb], fun _ => rfl, fun _ => rfl⟩) rfl rfl hO e2 (hv_tot_set q1 e1 e3) e3) (fun _ => rfl) (hv_dom_ne hk) e2 e3)
/-- elements -/
theorem hv_iald (hexec : p.tables.exec = Jvm.exec) (hb : c.code = cc) (hK : hv_K D tc s) (hT : hv_St A s D tc v H locs) {n : Nat} (hk : hv_k v a = (100, n)) {i : Int32} (hin : vp_in i n) (hdg : decode cc pc = .ok (.iaload, 1))
    (kk : W p l e R s m args below meth c H locs cells slots Q (F0 m (pc + 1) ls (.int (hv_a v a i.toNatClampNeg) :: rest))) : W p l e R s m args below meth c H locs cells slots Q (F0 m pc ls (.int i :: .ref a :: rest)) := by
  have hlt : i.toNatClampNeg < n := Nat.not_le.mp fun q => hin (Or.inr q)
  exact W.iald (v := .int (hv_a v a i.toNatClampNeg)) hexec hb ((hT.1.1 a).2.1 0 n hk (by decide)) ((hK.2 0 _ rfl).1 n (fun j => .int (hv_a v a j))) (fun q => by cases q) (by rw [arrV_size]; exact hin) (by rw [arrV_read _ _ hlt]) rfl rfl hdg kk
theorem hv_zald (hexec : p.tables.exec = Jvm.exec) (hb : c.code = cc) (hK : hv_K D tc s) (hT : hv_St A s D tc v H locs) {n : Nat} (hk : hv_k v a = (101, n)) {i : Int32} (hin : vp_in i n) (hdg : decode cc pc = .ok (.baload, 1))
    (kk : W p l e R s m args below meth c H locs cells slots Q (F0 m (pc + 1) ls (.int (hv_a v a i.toNatClampNeg) :: rest))) : W p l e R s m args below meth c H locs cells slots Q (F0 m pc ls (.int i :: .ref a :: rest)) := by
  have hlt : i.toNatClampNeg < n := Nat.not_le.mp fun q => hin (Or.inr q)
  exact W.zald (v := .int (hv_a v a i.toNatClampNeg)) hexec hb ((hT.1.1 a).2.1 1 n hk (by decide)) ((hK.2 1 _ rfl).1 n (fun j => .int (hv_a v a j))) (fun q => by cases q) (by rw [arrV_size]; exact hin) (by rw [arrV_read _ _ hlt]) rfl rfl hdg kk
theorem hv_aald (hexec : p.tables.exec = Jvm.exec) (hb : c.code = cc) (hK : hv_K D tc s) (hT : hv_St A s D tc v H locs) {n t : Nat} (hk : hv_k v a = (102 + t, n)) {ty : FieldType} (hty : (hv_tys tc)[2 + t]? = some (tc (2 + t), ty)) (hr : ty.isReference = true) {i : Int32} (hin : vp_in i n) {x : Option Nat} (hx : hv_q v a i.toNatClampNeg = x) (hdg : decode cc pc = .ok (.aaload, 1))
    (kk : W p l e R s m args below meth c H locs cells slots Q (F0 m (pc + 1) ls (va_rf x :: rest))) : W p l e R s m args below meth c H locs cells slots Q (F0 m pc ls (.int i :: .ref a :: rest)) := by
  have hlt : i.toNatClampNeg < n := Nat.not_le.mp fun q => hin (Or.inr q)
  subst hx
  exact W.aald (v := va_rf (hv_q v a i.toNatClampNeg)) (ty := ty) hexec hb ((hT.1.1 a).2.2 t n hk) ((hK.2 (2 + t) _ hty).1 n (fun j => va_rf (hv_q v a j))) hr (fun q => by cases q) (by rw [arrV_size]; exact hin) (by rw [arrV_read _ _ hlt]) rfl rfl hdg kk
theorem hv_iast (hexec : p.tables.exec = Jvm.exec) (hb : c.code = cc) (hK : hv_K D tc s) (hT : hv_St A s D tc v H locs) {n : Nat} (hk : hv_k v a = (100, n)) {i x : Int32} (hin : vp_in i n) (hdg : decode cc pc = .ok (.iastore, 1))
    (kk : ∀ (H1 : Heap) (locs1 : List Loc), hv_St A s D tc (hv_sa v a i.toNatClampNeg x) H1 locs1 → W p l e R s m args below meth c H1 locs1 cells slots Q (F0 m (pc + 1) ls rest)) : W p l e R s m args below meth c H locs cells slots Q (F0 m pc ls (.int x :: .int i :: .ref a :: rest)) := by
  have hc0 := (hT.1.1 a).2.1 0 n hk (by decide)
  refine W.iast hexec hb hc0 ((hK.2 0 _ rfl).1 n (fun j => .int (hv_a v a j))) (fun q => by cases q) (by rw [arrV_size]; exact hin) rfl rfl hdg fun H1 e1 e2 e3 => ?_
  refine kk H1 _ (hv_St_put hT (hv_W_ast (t := 0) hT.1 hk (fun _ => rfl) (fun b hb => ⟨fun _ => rfl, fun _ => rfl, fun j => by simp [hv_sa_a, hb], fun _ => rfl⟩) rfl rfl (fun _ => ?_) (fun h => absurd (by decide) h) e2 (hv_tot_set hc0 e1 e3) e3) (fun _ => rfl) (hv_dom_nea (t := 0) hk) e2 e3)
  rw [e1, arrV_store]
  congr 2
  funext q
  by_cases hq : q = i.toNatClampNeg
  · subst hq
    simp [updV, hv_sa_a]
  · simp [updV, hv_sa_a, hq]
theorem hv_zast (hexec : p.tables.exec = Jvm.exec) (hb : c.code = cc) (hK : hv_K D tc s) (hT : hv_St A s D tc v H locs) {n : Nat} (hk : hv_k v a = (101, n)) {i x : Int32} (hin : vp_in i n) (hnx : narrow .boolean (.int x) = .int x) (hdg : decode cc pc = .ok (.bastore, 1))
    (kk : ∀ (H1 : Heap) (locs1 : List Loc), hv_St A s D tc (hv_sa v a i.toNatClampNeg x) H1 locs1 → W p l e R s m args below meth c H1 locs1 cells slots Q (F0 m (pc + 1) ls rest)) : W p l e R s m args below meth c H locs cells slots Q (F0 m pc ls (.int x :: .int i :: .ref a :: rest)) := by
  have hc0 := (hT.1.1 a).2.1 1 n hk (by decide)
  refine W.zast hexec hb hc0 ((hK.2 1 _ rfl).1 n (fun j => .int (hv_a v a j))) (fun q => by cases q) (by rw [arrV_size]; exact hin) rfl rfl hdg fun H1 e1 e2 e3 => ?_
  refine kk H1 _ (hv_St_put hT (hv_W_ast (t := 1) hT.1 hk (fun _ => rfl) (fun b hb => ⟨fun _ => rfl, fun _ => rfl, fun j => by simp [hv_sa_a, hb], fun _ => rfl⟩) rfl rfl (fun _ => ?_) (fun h => absurd (by decide) h) e2 (hv_tot_set hc0 e1 e3) e3) (fun _ => rfl) (hv_dom_nea (t := 1) hk) e2 e3)
  rw [e1, arrV_store, hnx]
  congr 2
  funext q
  by_cases hq : q = i.toNatClampNeg
  · subst hq
    simp [updV, hv_sa_a]
  · simp [updV, hv_sa_a, hq]
/-- a reference to an object of class ci goes into an array of that class -/
theorem hv_aast (hexec : p.tables.exec = Jvm.exec) (hb : c.code = cc) (hK : hv_K D tc s) (hT : hv_St A s D tc v H locs) {n t ci y : Nat} {r : vw_C} (hk : hv_k v a = (102 + t, n)) (hty : (hv_tys tc)[2 + t]? = some (tc (2 + t), .object r.1)) (hky : hv_k v y = (ci + 1, 0)) (h99 : ci < 99) (hc : vwCl[ci]? = some r) {i : Int32} (hin : vp_in i n) (hdg : decode cc pc = .ok (.aastore, 1))
    (kk : ∀ (H1 : Heap) (locs1 : List Loc), hv_St A s D tc (hv_sq v a i.toNatClampNeg (some y)) H1 locs1 → W p l e R s m args below meth c H1 locs1 cells slots Q (F0 m (pc + 1) ls rest)) : W p l e R s m args below meth c H locs cells slots Q (F0 m pc ls (.ref y :: .int i :: .ref a :: rest)) := by
  have hlt : i.toNatClampNeg < n := Nat.not_le.mp fun q => hin (Or.inr q)
  have h0 : ¬ i < 0 := fun q => hin (Or.inl q)
  obtain ⟨r', hr', cellV, g1, g2, g3, -⟩ := (hT.1.1 y).1 ci hky h99
  have hcls := (hK.1 ci r hc).2
  obtain ⟨kA, comp, k1, k2, k3, -⟩ := (hK.2 (2 + t) _ hty).2
  have hcomp : comp = D.1 ci := Option.some.inj (k3.symm.trans hcls.1)
  subst hcomp
  obtain ⟨kC, hkC, -⟩ := hcls.2
  have hc0 := (hT.1.1 a).2.2 t n hk
  refine W.aast hexec hb hc0 (fun q h => by cases h) (fun h => by cases h) k1 k2 rfl hkC ⟨h0, by rw [arrV_size]; exact hlt⟩ g1 (fun q h => by rw [g3] at h; cases h) (by rw [g2]; exact hkC) (by rw [g2]; exact va_assign hcls) rfl rfl hdg fun H1 e1 e2 e3 => ?_
  refine kk H1 _ (hv_St_put hT (hv_W_ast (t := 2 + t) hT.1 (by rw [hk, ← Nat.add_assoc]) (fun _ => rfl) (fun b hb => ⟨fun _ => rfl, fun _ => rfl, fun _ => rfl, fun j => by simp [hv_sq_q, hb]⟩) rfl rfl (fun h => absurd h (by omega)) (fun _ => ?_) e2 (hv_tot_set hc0 e1 e3) e3) (fun _ => rfl) (hv_dom_neq hk) e2 e3)
  rw [e1, arrV_store]
  congr 2
  funext q
  by_cases hq : q = i.toNatClampNeg
  · subst hq
    simp [updV, hv_sq_q, va_rf]
  · simp [updV, hv_sq_q, hq]
theorem hv_aastN (hexec : p.tables.exec = Jvm.exec) (hb : c.code = cc) (hK : hv_K D tc s) (hT : hv_St A s D tc v H locs) {n t : Nat} {C : String} (hk : hv_k v a = (102 + t, n)) (hty : (hv_tys tc)[2 + t]? = some (tc (2 + t), .object C)) {i : Int32} (hin : vp_in i n) (hdg : decode cc pc = .ok (.aastore, 1))
    (kk : ∀ (H1 : Heap) (locs1 : List Loc), hv_St A s D tc (hv_sq v a i.toNatClampNeg none) H1 locs1 → W p l e R s m args below meth c H1 locs1 cells slots Q (F0 m (pc + 1) ls rest)) : W p l e R s m args below meth c H locs cells slots Q (F0 m pc ls (.null :: .int i :: .ref a :: rest)) := by
  have hc0 := (hT.1.1 a).2.2 t n hk
  refine va_WaastN (C := C) hexec hb hc0 ((hK.2 (2 + t) _ hty).1 n (fun j => va_rf (hv_q v a j))) (fun h => by cases h) (by rw [arrV_size]; exact hin) rfl rfl hdg fun H1 e1 e2 e3 => ?_
  refine kk H1 _ (hv_St_put hT (hv_W_ast (t := 2 + t) hT.1 (by rw [hk, ← Nat.add_assoc]) (fun _ => rfl) (fun b hb => ⟨fun _ => rfl, fun _ => rfl, fun _ => rfl, fun j => by simp [hv_sq_q, hb]⟩) rfl rfl (fun h => absurd h (by omega)) (fun _ => ?_) e2 (hv_tot_set hc0 e1 e3) e3) (fun _ => rfl) (hv_dom_neq hk) e2 e3)
  rw [e1, arrV_store]
  congr 2
  funext q
  by_cases hq : q = i.toNatClampNeg
  · subst hq
    simp [updV, hv_sq_q, va_rf]
  · simp [updV, hv_sq_q, hq]
end HVR
end
section
theorem hv_c_zero {D : va_G} {tc : Nat → ClassId} {v : hv_V} {H : Heap} {a : Nat} (h0 : (hv_k v a).1 = 0) : hv_c D tc v H a := by
  refine ⟨fun ci h1 h2 => ?_, fun t n h1 h2 => ?_, fun t n h1 => ?_⟩
  · rw [h1] at h0
    exact absurd h0 (Nat.succ_ne_zero ci)
  · rw [h1] at h0
    exact absurd h0 (by show ¬ (100 + t = 0); omega)
  · rw [h1] at h0
    exact absurd h0 (by show ¬ (102 + t = 0); omega)
theorem hv_nw_k (v : hv_V) (kd : Nat × Nat) (w a : Nat) : hv_k (hv_nw v kd w) a = if a = hv_n v then kd else hv_k v a := rfl
theorem hv_nw_i (v : hv_V) (kd : Nat × Nat) (w f a : Nat) : hv_i (hv_nw v kd w) f a = if a = hv_n v then 0 else hv_i v f a := rfl
theorem hv_nw_p (v : hv_V) (kd : Nat × Nat) (w f a : Nat) : hv_p (hv_nw v kd w) f a = if a = hv_n v then none else hv_p v f a := rfl
theorem hv_nw_a (v : hv_V) (kd : Nat × Nat) (w a j : Nat) : hv_a (hv_nw v kd w) a j = if a = hv_n v then 0 else hv_a v a j := rfl
theorem hv_nw_q (v : hv_V) (kd : Nat × Nat) (w a j : Nat) : hv_q (hv_nw v kd w) a j = if a = hv_n v then none else hv_q v a j := rfl
theorem hv_nw_n (v : hv_V) (kd : Nat × Nat) (w : Nat) : hv_n (hv_nw v kd w) = hv_n v + 1 := rfl
theorem hv_nw_t (v : hv_V) (kd : Nat × Nat) (w : Nat) : hv_t (hv_nw v kd w) = hv_t v + w := rfl
theorem hv_W_nw {D : va_G} {tc : Nat → ClassId} {v : hv_V} {H : Heap} {cell : Cell} {kd : Nat × Nat} {w : Nat} (hW : hv_W D tc v H) (hw : cell.slots.size = w) (hc : hv_c D tc (hv_nw v kd w) (H.push cell) (hv_n v)) : hv_W D tc (hv_nw v kd w) (H.push cell) := by
  have hn : H.size = hv_n v := hW.2.2.1
  refine ⟨fun a => ?_, fun a ha => ?_, by rw [Array.size_push, hn]; rfl, by rw [hv_tot_push, hw, hW.2.2.2]; rfl⟩
  · by_cases h : a = hv_n v
    · rw [h]; exact hc
    · by_cases h0 : (hv_k v a).1 = 0
      · exact hv_c_zero (by rw [hv_nw_k, if_neg h]; exact h0)
      · have hl := hW.2.1 a h0
        refine hv_c_kept (hW.1 a) ?_ (by rw [hv_nw_k, if_neg h]) (fun f => by rw [hv_nw_i, if_neg h]) (fun f => by rw [hv_nw_p, if_neg h]) (fun f => by rw [hv_nw_a, if_neg h]) (fun f => by rw [hv_nw_q, if_neg h])
        rw [Array.getElem?_push, if_neg (by rw [hn]; exact h)]
  · by_cases h : a = hv_n v
    · rw [h]; exact Nat.lt_succ_self _
    · rw [hv_nw_k, if_neg h] at ha
      exact Nat.lt_succ_of_lt (hW.2.1 a ha)
theorem hv_St_nw {A : Nat → Prop} {s : State} {D : va_G} {tc : Nat → ClassId} {v : hv_V} {H : Heap} {locs : List Loc} {cell : Cell} {kd : Nat × Nat} {w : Nat} (hT : hv_St A s D tc v H locs) (hw : cell.slots.size = w) (hc : hv_c D tc (hv_nw v kd w) (H.push cell) (hv_n v)) : hv_St A s D tc (hv_nw v kd w) (H.push cell) locs := by
  have hn : H.size = hv_n v := hT.1.2.2.1
  refine ⟨hv_W_nw hT.1 hw hc, fun a ha => ?_, ⟨?_, fun q h1 h2 => ?_, hT.2.2.1.2.2⟩, hT.2.2.2⟩
  · by_cases h : a = hv_n v
    · rw [h, ← hn]; exact hT.2.2.2 _ hT.2.2.1.1
    · rw [hv_nw_k, if_neg h] at ha
      exact hT.2.1 a ha
  · rw [Array.size_push]; exact Nat.le_succ_of_le hT.2.2.1.1
  · rw [Array.getElem?_push, if_neg (by have := hT.2.2.1.1; omega)]
    exact hT.2.2.1.2.1 q h1 h2
section HVN
variable {p : Program} {l : Launch} {e : Env} {R : Room} {s : State} {m : MethodId} {args : Array Value} {below : List Frame} {meth : Method} {c : Code} {H : Heap} {locs : List Loc} {cells slots : Nat} {Q : State → Prop}
variable {cc : ByteArray} {pc : Nat} {ls : Array Slot} {rest : List Value} {D : va_G} {tc : Nat → ClassId} {v : hv_V} {A : Nat → Prop} {a : Nat}
/-- new, of an object -/
theorem hv_new (hexec : p.tables.exec = Jvm.exec) (hb : c.code = cc) {own C : String} {T : u_T} {N ci index : Nat} {Ts : List Cond} (hts : ∀ w ∈ Ts, w.before args s = true) (hin : ∀ w ∈ u_ws C T N, w ∈ Ts) (ty : Nat → FieldType) (hty : ∀ k, k < N → parseFieldDescriptor (T k).2.2.1 = some (ty k)) (hown : s.vm.findClass own = some m.cls) (hcl : (Cond.classLink own index C).before args s = true) (hinst : (Cond.instantiable C N).before args s = true) (hini : (Cond.initialized C).before args s = true)
    (hK : hv_K D tc s) (hT : hv_St A s D tc v H locs) (h99 : ci < 99) (hc : vwCl[ci]? = some (C, T, N)) (hfs : ∀ j, j < N → defaultValue (ty j) = if hv_R ci j = true then .null else .int 0) (hcells : cells + 1 ≤ R.cells) (hslots : slots + N ≤ R.slots) (hdg : decode cc pc = .ok (.new index, 3))
    (kk : ∀ (H1 : Heap), hv_St A s D tc (hv_nw v (ci + 1, 0) N) H1 locs → W p l e R s m args below meth c H1 locs (cells + 1) (slots + N) Q (F0 m (pc + 3) ls (.ref (hv_n v) :: rest))) : W p l e R s m args below meth c H locs cells slots Q (F0 m pc ls rest) := by
  have hKn := hK.1 ci _ hc
  have hn : H.size = hv_n v := hT.1.2.2.1
  refine W.newc hexec hb hown hcl hinst hini rfl hdg hcells hslots fun cC kC h1 h2 h3 h4 => ?_
  have hcC : cC = D.1 ci := Option.some.inj (h1.symm.trans hKn.2.1)
  subst hcC
  have hcell : (H.push (blank (D.1 ci) kC))[hv_n v]? = some (blank (D.1 ci) kC) := by rw [← hn]; simp
  have hO := (u_born ty hts hin hKn h2 hcell hty).to hfs
  have hk := kk (H.push (blank (D.1 ci) kC)) (hv_St_nw hT (by simp [blank, h4]) ⟨fun ci' g1 g2 => ?_, fun t n g1 g2 => ?_, fun t n g1 => ?_⟩)
  · show W p l e R s m args below meth c (H.push (blank (D.1 ci) kC)) locs (cells + 1) (slots + N) Q (F0 m (pc + 3) ls (.ref H.size :: rest))
    rw [hn]
    exact hk
  · rw [hv_nw_k, if_pos rfl] at g1
    have e1 : ci = ci' := by have := congrArg Prod.fst g1; simp at this; omega
    subst e1
    exact ⟨_, hc, hO.to (fun k _ => by unfold hv_val; rw [hv_nw_p, hv_nw_i, if_pos rfl, if_pos rfl]; rfl)⟩
  · rw [hv_nw_k, if_pos rfl] at g1
    have := congrArg Prod.fst g1
    simp at this
    omega
  · rw [hv_nw_k, if_pos rfl] at g1
    have := congrArg Prod.fst g1
    simp at this
    omega
/-- newarray, of ints or booleans -/
theorem hv_newa (hexec : p.tables.exec = Jvm.exec) (hb : c.code = cc) {atype : ArrayType} {t : Nat} (ht2 : t < 2) {ty : FieldType} (hty : newarray.typeOf atype = ty) (htt : (hv_tys tc)[t]? = some (tc t, ty)) (hnr : ty = .int ∨ ty = .boolean) (harr : (Cond.arrayClass (newarray.typeOf atype)).before args s = true) (hK : hv_K D tc s) (hT : hv_St A s D tc v H locs) {n : Int32} {N : Nat} (hn : ¬ n < 0) (hN : n.toNatClampNeg = N) (hbytes : N * componentBytes ty ≤ 536870912) (hcells : cells + 1 ≤ R.cells) (hslots : slots + N ≤ R.slots) (hdg : decode cc pc = .ok (.newarray atype, 2))
    (kk : ∀ (H1 : Heap), hv_St A s D tc (hv_nw v (100 + t, N) N) H1 locs → W p l e R s m args below meth c H1 locs (cells + 1) (slots + N) Q (F0 m (pc + 2) ls (.ref (hv_n v) :: rest))) : W p l e R s m args below meth c H locs cells slots Q (F0 m pc ls (.int n :: rest)) := by
  have hsz : H.size = hv_n v := hT.1.2.2.1
  subst hty
  refine va_newaK hexec hb harr rfl hdg rfl hn hN hbytes hcells hslots hsz fun H1 cA e1 z1 o1 hAr hNm => ?_
  have hcA : cA = tc t := by
    have h := (hK.2 t _ htt).2
    rcases hnr with h0 | h0
    · rw [h0] at h hNm
      exact Option.some.inj (hNm.symm.trans h)
    · rw [h0] at h hNm
      exact Option.some.inj (hNm.symm.trans h)
  subst hcA
  have hdv : defaultValue (newarray.typeOf atype) = .int 0 := by rcases hnr with h0 | h0 <;> rw [h0] <;> rfl
  rw [hdv] at e1
  have hpu : H1 = H.push (arrV (tc t) N (fun _ => .int 0)) := hv_push_of (by rw [hsz]; exact e1) (by rw [hsz]; exact z1) (fun q hq => o1 q (by rw [← hsz]; exact hq))
  subst hpu
  refine kk _ (hv_St_nw hT (by rw [arrV_size]) ⟨fun ci' g1 g2 => ?_, fun t' n' g1 g2 => ?_, fun t' n' g1 => ?_⟩)
  · rw [hv_nw_k, if_pos rfl] at g1
    have := congrArg Prod.fst g1
    simp at this
    omega
  · rw [hv_nw_k, if_pos rfl] at g1
    have e2 := congrArg Prod.fst g1
    have e3 := congrArg Prod.snd g1
    simp at e2 e3
    have e2 : t = t' := by omega
    subst e2
    subst e3
    rw [e1]
    congr 2
    funext j
    rw [hv_nw_a, if_pos rfl]
  · rw [hv_nw_k, if_pos rfl] at g1
    have := congrArg Prod.fst g1
    simp at this
    omega
/-- anewarray -/
theorem hv_newq (hexec : p.tables.exec = Jvm.exec) (hb : c.code = cc) {own C : String} {index t : Nat} (hown : s.vm.findClass own = some m.cls) (hclink : (Cond.classLink own index C).before args s = true) (hover : (Cond.arrayOver (.object C)).before args s = true) (htt : (hv_tys tc)[2 + t]? = some (tc (2 + t), .object C)) (hK : hv_K D tc s) (hT : hv_St A s D tc v H locs) {n : Int32} {N : Nat} (hn : ¬ n < 0) (hN : n.toNatClampNeg = N) (hbytes : N * 4 ≤ 536870912) (hcells : cells + 1 ≤ R.cells) (hslots : slots + N ≤ R.slots) (hdg : decode cc pc = .ok (.anewarray index, 3))
    (kk : ∀ (H1 : Heap), hv_St A s D tc (hv_nw v (102 + t, N) N) H1 locs → W p l e R s m args below meth c H1 locs (cells + 1) (slots + N) Q (F0 m (pc + 3) ls (.ref (hv_n v) :: rest))) : W p l e R s m args below meth c H locs cells slots Q (F0 m pc ls (.int n :: rest)) := by
  have hsz : H.size = hv_n v := hT.1.2.2.1
  subst hN
  refine W.anew hexec hb hown hclink hover rfl hdg rfl hn hbytes hcells hslots fun cA kA comp f1 f2 f3 f4 => ?_
  have hcA : cA = tc (2 + t) := by
    obtain ⟨_, _, _, _, _, h⟩ := (hK.2 (2 + t) _ htt).2
    exact Option.some.inj (f1.symm.trans h)
  subst hcA
  have hk := kk (H.push ({ cls := tc (2 + t), slots := Array.replicate n.toNatClampNeg .null, vm := .none } : Cell)) (hv_St_nw hT (by simp) ⟨fun ci' g1 g2 => ?_, fun t' n' g1 g2 => ?_, fun t' n' g1 => ?_⟩)
  · show W p l e R s m args below meth c _ locs (cells + 1) (slots + n.toNatClampNeg) Q (F0 m (pc + 3) ls (.ref H.size :: rest))
    rw [hsz]
    exact hk
  · rw [hv_nw_k, if_pos rfl] at g1
    have := congrArg Prod.fst g1
    simp at this
    omega
  · rw [hv_nw_k, if_pos rfl] at g1
    have := congrArg Prod.fst g1
    simp at this
    omega
  · rw [hv_nw_k, if_pos rfl] at g1
    have e2 := congrArg Prod.fst g1
    have e3 := congrArg Prod.snd g1
    simp at e2 e3
    subst e2
    subst e3
    rw [← hsz, Array.getElem?_push_size, arrV_new]
    congr 2
    funext j
    rw [hv_nw_q, hsz, if_pos rfl]
    rfl
/-- the room that was really used -/
theorem hv_tight {c1 n1 : Nat} {g : JFrame} (h1 : H.size ≤ s.heap.size + c1) (h2 : hv_tot H ≤ hv_tot s.heap + n1) (kk : W p l e R s m args below meth c H locs c1 n1 Q g) : W p l e R s m args below meth c H locs cells slots Q g := by
  intro T hT X
  subst hT
  refine kk T rfl { X with same := ?_ }
  obtain ⟨a1, a2, a3, a4, a5, a6⟩ := X.same
  have hb : T.slotsTrue = true := X.book
  have h0 : s.slotsTrue = true := by
    have h := X.room
    simp only [State.hasRoom, Bool.and_eq_true] at h
    exact h.2
  have e1 : T.slotsUsed = hv_tot T.heap := by simpa [State.slotsTrue, hv_tot] using hb
  have e0 : s.slotsUsed = hv_tot s.heap := by simpa [State.slotsTrue, hv_tot] using h0
  refine ⟨a1, a2, h1, a4, ?_, a6⟩
  have a4' : T.slotsUsed = s.slotsUsed + (((T.setVm s.vm).heap.toList.drop s.heap.size).map (·.slots.size)).sum := a4
  omega
end HVN
/-! calls and returns -/
theorem hv_blind {av : List Value} {D : va_G} {tc : Nat → ClassId} {v : hv_V} : FrameBlind (va_Pc av (hv_Pre D tc v)) := fun a U g mk q => ⟨q.1, va_K.moved (u := U) (U := U.calling g mk a) (Vm.Alike.refl U.vm) q.2.1, q.2.2⟩
theorem hv_preS {s : State} {H : Heap} {As : List Value} {D : va_G} {tc : Nat → ClassId} {v : hv_V} (hK : hv_K D tc s) (hW : hv_W D tc v H) : PreS s H (va_Pc As (hv_Pre D tc v)) As := ⟨hv_blind, fun U hU hWm => ⟨rfl, va_K.moved hWm.alike hK, by rw [hU]; exact hW⟩⟩
theorem hv_preV {s : State} {H : Heap} {C : String} {b ci : Nat} {r : vw_C} {As : List Value} {D : va_G} {tc : Nat → ClassId} {v : hv_V} (hK : hv_K D tc s) (hW : hv_W D tc v H) (hk : hv_k v b = (ci + 1, 0)) (h99 : ci < 99) (hc : vwCl[ci]? = some r) (hC : r.1 = C) : PreV s H C b (va_Pc (.ref b :: As) (hv_Pre D tc v)) As := by
  subst hC
  refine ⟨hv_blind, ?_, fun U hU hWm => ⟨rfl, va_K.moved hWm.alike hK, by rw [hU]; exact hW⟩⟩
  obtain ⟨r', h1, cell, g1, g2, g3, -⟩ := (hW.1 b).1 ci hk h99
  exact ⟨cell, g1, by rw [g3]; rfl, by rw [g2]; exact (hK.1 ci r hc).2.1⟩
theorem hv_sub {A : Nat → Prop} {s : State} {D : va_G} {tc : Nat → ClassId} {v : hv_V} {H : Heap} {locs : List Loc} (hT : hv_St A s D tc v H locs) : ∀ q, hv_A v q → A q := by
  intro q h
  rcases h with h | h
  · exact hT.2.1 q h
  · refine hT.2.2.2 q (Nat.le_trans ?_ h)
    rw [← hT.1.2.2.1]
    exact hT.2.2.1.1
section HVC
variable {p : Program} {l : Launch} {e : Env} {R : Room} {s : State} {m : MethodId} {args : Array Value} {below : List Frame} {meth : Method} {c : Code} {H : Heap} {locs : List Loc} {cells slots : Nat} {Q : State → Prop}
variable {cc : ByteArray} {pc : Nat} {ls : Array Slot} {rest st0 : List Value} {D : va_G} {tc : Nat → ClassId} {v v0 : hv_V} {A : Nat → Prop} {a : Array Value} {mc ms : Nat}
theorem hv_calli {post : Int32 → hv_V → Prop} (hr : va_Run p l e R s m args below meth c H locs cells slots mc ms (F0 m pc ls st0) rest (va_Qi post (hv_Post D tc (hv_A v)) (hv_A v) a) (hv_A v)) (hT : hv_St A s D tc v H locs)
    (kk : ∀ (r : Int32) (v1 : hv_V) (H1 : Heap) (locs1 : List Loc), post r v1 → hv_St A s D tc v1 H1 locs1 → W p l e R s m args below meth c H1 locs1 (cells + mc) (slots + ms) Q (F0 m (pc + 3) ls (.int r :: rest))) : W p l e R s m args below meth c H locs cells slots Q (F0 m pc ls st0) := by
  refine va_calli hr hT.2.2.1 (fun q _ h => hv_sub hT q h) (hv_sub hT) fun r u t H1 locs1 ht hvm hp hB hz hk hS => ?_
  exact kk r u H1 locs1 hp ⟨by rw [← ht]; exact hB.2.1, fun b hb => hv_sub hT b (hB.2.2 b hb), hS, hT.2.2.2⟩
theorem hv_callv {post : hv_V → Prop} (hr : va_Run p l e R s m args below meth c H locs cells slots mc ms (F0 m pc ls st0) rest (va_Qv post (hv_Post D tc (hv_A v)) (hv_A v) a) (hv_A v)) (hT : hv_St A s D tc v H locs)
    (kk : ∀ (v1 : hv_V) (H1 : Heap) (locs1 : List Loc), post v1 → hv_St A s D tc v1 H1 locs1 → W p l e R s m args below meth c H1 locs1 (cells + mc) (slots + ms) Q (F0 m (pc + 3) ls rest)) : W p l e R s m args below meth c H locs cells slots Q (F0 m pc ls st0) := by
  refine va_callv hr hT.2.2.1 (fun q _ h => hv_sub hT q h) (hv_sub hT) fun u t H1 locs1 ht hvm hp hB hz hk hS => ?_
  exact kk u H1 locs1 hp ⟨by rw [← ht]; exact hB.2.1, fun b hb => hv_sub hT b (hB.2.2 b hb), hS, hT.2.2.2⟩
theorem hv_callq {post : Option Nat → hv_V → Prop} (hr : va_Run p l e R s m args below meth c H locs cells slots mc ms (F0 m pc ls st0) rest (va_Qq post (hv_Post D tc (hv_A v)) (hv_A v) a) (hv_A v)) (hT : hv_St A s D tc v H locs)
    (kk : ∀ (r : Option Nat) (v1 : hv_V) (H1 : Heap) (locs1 : List Loc), post r v1 → hv_St A s D tc v1 H1 locs1 → W p l e R s m args below meth c H1 locs1 (cells + mc) (slots + ms) Q (F0 m (pc + 3) ls (va_rf r :: rest))) : W p l e R s m args below meth c H locs cells slots Q (F0 m pc ls st0) := by
  refine va_callq hr hT.2.2.1 (fun q _ h => hv_sub hT q h) (hv_sub hT) fun r u t H1 locs1 ht hvm hp hB hz hk hS => ?_
  exact kk r u H1 locs1 hp ⟨by rw [← ht]; exact hB.2.1, fun b hb => hv_sub hT b (hB.2.2 b hb), hS, hT.2.2.2⟩
theorem hv_iret {post : Int32 → hv_V → Prop} {ty : FieldType} (hexec : p.tables.exec = Jvm.exec) (hb : c.code = cc) (hr : meth.sig.returnType = some ty) {x : Int32} (hn : narrow ty (.int x) = .int x) (hlocks : meth.locks = false) (hK : hv_K D tc s) (hT : hv_St (hv_A v0) s D tc v H locs) (hp : post x v) (hdg : decode cc pc = .ok (.ireturn, 1)) : W p l e R s m args below meth c H locs cells slots (MQ below (va_Qi post (hv_Post D tc (hv_A v0)) (hv_A v0)) args s cells slots (hv_A v0)) (F0 m pc ls [.int x]) :=
  W.zret hexec hb hr hn (fun t ht hW => ⟨⟨x, v, rfl, hp, va_K.moved hW.alike hK, by rw [ht]; exact hT.1, hT.2.1⟩, hT.2.2.1.F ht⟩) hT.2.2.1.2.2 hdg hlocks
theorem hv_vret {post : hv_V → Prop} (hexec : p.tables.exec = Jvm.exec) (hb : c.code = cc) (hr : meth.sig.returnType = none) (hlocks : meth.locks = false) (hK : hv_K D tc s) (hT : hv_St (hv_A v0) s D tc v H locs) (hp : post v) (hdg : decode cc pc = .ok (.return_, 1)) : W p l e R s m args below meth c H locs cells slots (MQ below (va_Qv post (hv_Post D tc (hv_A v0)) (hv_A v0)) args s cells slots (hv_A v0)) (F0 m pc ls []) :=
  W.vret hexec hb hr (fun t ht hW => ⟨⟨v, rfl, hp, va_K.moved hW.alike hK, by rw [ht]; exact hT.1, hT.2.1⟩, hT.2.2.1.F ht⟩) hT.2.2.1.2.2 hdg hlocks
theorem hv_qret {post : Option Nat → hv_V → Prop} {n : String} (hexec : p.tables.exec = Jvm.exec) (hb : c.code = cc) (hr : meth.sig.returnType = some (.object n)) {y : Value} (x : Option Nat) (hy : y = va_rf x) (hlocks : meth.locks = false) (hK : hv_K D tc s) (hT : hv_St (hv_A v0) s D tc v H locs) (hp : post x v) (hdg : decode cc pc = .ok (.areturn, 1)) : W p l e R s m args below meth c H locs cells slots (MQ below (va_Qq post (hv_Post D tc (hv_A v0)) (hv_A v0)) args s cells slots (hv_A v0)) (F0 m pc ls [y]) := by
  subst hy
  exact W.aret hexec hb hr (Or.inl ⟨n, rfl⟩) (va_rf_or x) (fun t ht hW => ⟨⟨x, v, rfl, hp, va_K.moved hW.alike hK, by rw [ht]; exact hT.1, hT.2.1⟩, hT.2.2.1.F ht⟩) hT.2.2.1.2.2 hdg hlocks
end HVC
/-- a method's start -/
theorem hv_start {D : va_G} {tc : Nat → ClassId} {v : hv_V} {s : State} (hW : hv_W D tc v s.heap) : hv_St (hv_A v) s D tc v s.heap [] := ⟨hW, fun _ h => Or.inl h, va_S.rf, fun q h => Or.inr (by rw [← hW.2.2.1]; exact h)⟩
end
