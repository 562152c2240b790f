section
-- ===== PART A: goes FIRST, ahead of the names: the tables' words, and 'selects' of the private methods out of them =====
/-- a private method of a class that the tables say can be made, by its rows of tables_1 -/
def lw_okq (q : MethodName × Nat) : Prop := (q.1.cls ≠ "java/lang/invoke/MethodHandle" ∧ q.1.cls ≠ "java/lang/invoke/VarHandle") ∧ Cond.instantiable q.1.cls q.2 ∈ tables_1 ∧ Cond.privateMethod q.1 ∈ tables_1 ∧ Cond.instanceMethod q.1 ∈ tables_1
theorem lw_p0 : lw_okq (⟨"CommitSites", "shareQuorums", "()V"⟩, 12) := ⟨⟨by decide +kernel, by decide +kernel⟩, List.mem_of_getElem? (i := 7) (by decide +kernel), List.mem_of_getElem? (i := 61) (by decide +kernel), List.mem_of_getElem? (i := 62) (by decide +kernel)⟩
theorem lw_p1 : lw_okq (⟨"CommitSites", "note", "(IIIII)V"⟩, 12) := ⟨⟨by decide +kernel, by decide +kernel⟩, List.mem_of_getElem? (i := 7) (by decide +kernel), List.mem_of_getElem? (i := 65) (by decide +kernel), List.mem_of_getElem? (i := 66) (by decide +kernel)⟩
theorem lw_p2 : lw_okq (⟨"CommitSites", "isLink", "(II)Z"⟩, 12) := ⟨⟨by decide +kernel, by decide +kernel⟩, List.mem_of_getElem? (i := 7) (by decide +kernel), List.mem_of_getElem? (i := 168) (by decide +kernel), List.mem_of_getElem? (i := 169) (by decide +kernel)⟩
theorem lw_p3 : lw_okq (⟨"CommitSites", "isSite", "(I)Z"⟩, 12) := ⟨⟨by decide +kernel, by decide +kernel⟩, List.mem_of_getElem? (i := 7) (by decide +kernel), List.mem_of_getElem? (i := 172) (by decide +kernel), List.mem_of_getElem? (i := 173) (by decide +kernel)⟩
theorem lw_p4 : lw_okq (⟨"CommitSites", "askVotes", "(I)V"⟩, 12) := ⟨⟨by decide +kernel, by decide +kernel⟩, List.mem_of_getElem? (i := 7) (by decide +kernel), List.mem_of_getElem? (i := 191) (by decide +kernel), List.mem_of_getElem? (i := 192) (by decide +kernel)⟩
theorem lw_p5 : lw_okq (⟨"CommitSites", "become", "(LCommitSites$Site;I)V"⟩, 12) := ⟨⟨by decide +kernel, by decide +kernel⟩, List.mem_of_getElem? (i := 7) (by decide +kernel), List.mem_of_getElem? (i := 195) (by decide +kernel), List.mem_of_getElem? (i := 196) (by decide +kernel)⟩
theorem lw_p6 : lw_okq (⟨"CommitSites", "allBut", "(I)I"⟩, 12) := ⟨⟨by decide +kernel, by decide +kernel⟩, List.mem_of_getElem? (i := 7) (by decide +kernel), List.mem_of_getElem? (i := 203) (by decide +kernel), List.mem_of_getElem? (i := 204) (by decide +kernel)⟩
theorem lw_p7 : lw_okq (⟨"CommitSites", "everyone", "()I"⟩, 12) := ⟨⟨by decide +kernel, by decide +kernel⟩, List.mem_of_getElem? (i := 7) (by decide +kernel), List.mem_of_getElem? (i := 207) (by decide +kernel), List.mem_of_getElem? (i := 208) (by decide +kernel)⟩
theorem lw_p8 : lw_okq (⟨"CommitSites", "setTimer", "(LCommitSites$Site;I)V"⟩, 12) := ⟨⟨by decide +kernel, by decide +kernel⟩, List.mem_of_getElem? (i := 7) (by decide +kernel), List.mem_of_getElem? (i := 258) (by decide +kernel), List.mem_of_getElem? (i := 259) (by decide +kernel)⟩
theorem lw_p9 : lw_okq (⟨"CommitSites", "lead", "(II)V"⟩, 12) := ⟨⟨by decide +kernel, by decide +kernel⟩, List.mem_of_getElem? (i := 7) (by decide +kernel), List.mem_of_getElem? (i := 266) (by decide +kernel), List.mem_of_getElem? (i := 267) (by decide +kernel)⟩
theorem lw_p10 : lw_okq (⟨"CommitSites", "hasQuorum", "(LCommitSites$Site;)Z"⟩, 12) := ⟨⟨by decide +kernel, by decide +kernel⟩, List.mem_of_getElem? (i := 7) (by decide +kernel), List.mem_of_getElem? (i := 270) (by decide +kernel), List.mem_of_getElem? (i := 271) (by decide +kernel)⟩
theorem lw_p11 : lw_okq (⟨"CommitSites", "decide", "(II)V"⟩, 12) := ⟨⟨by decide +kernel, by decide +kernel⟩, List.mem_of_getElem? (i := 7) (by decide +kernel), List.mem_of_getElem? (i := 274) (by decide +kernel), List.mem_of_getElem? (i := 275) (by decide +kernel)⟩
theorem lw_p12 : lw_okq (⟨"CommitSites", "attempt", "(I)V"⟩, 12) := ⟨⟨by decide +kernel, by decide +kernel⟩, List.mem_of_getElem? (i := 7) (by decide +kernel), List.mem_of_getElem? (i := 289) (by decide +kernel), List.mem_of_getElem? (i := 290) (by decide +kernel)⟩
theorem lw_p13 : lw_okq (⟨"CommitSites", "takeNext", "(I)I"⟩, 12) := ⟨⟨by decide +kernel, by decide +kernel⟩, List.mem_of_getElem? (i := 7) (by decide +kernel), List.mem_of_getElem? (i := 298) (by decide +kernel), List.mem_of_getElem? (i := 299) (by decide +kernel)⟩
theorem lw_p14 : lw_okq (⟨"CommitSites", "firstTimer", "()I"⟩, 12) := ⟨⟨by decide +kernel, by decide +kernel⟩, List.mem_of_getElem? (i := 7) (by decide +kernel), List.mem_of_getElem? (i := 306) (by decide +kernel), List.mem_of_getElem? (i := 307) (by decide +kernel)⟩
theorem lw_p15 : lw_okq (⟨"CommitSites", "runOut", "(I)V"⟩, 12) := ⟨⟨by decide +kernel, by decide +kernel⟩, List.mem_of_getElem? (i := 7) (by decide +kernel), List.mem_of_getElem? (i := 318) (by decide +kernel), List.mem_of_getElem? (i := 319) (by decide +kernel)⟩
def lw_privs_1 : List (MethodName × Nat) := [(⟨"CommitSites", "shareQuorums", "()V"⟩, 12), (⟨"CommitSites", "note", "(IIIII)V"⟩, 12), (⟨"CommitSites", "isLink", "(II)Z"⟩, 12), (⟨"CommitSites", "isSite", "(I)Z"⟩, 12), (⟨"CommitSites", "askVotes", "(I)V"⟩, 12), (⟨"CommitSites", "become", "(LCommitSites$Site;I)V"⟩, 12), (⟨"CommitSites", "allBut", "(I)I"⟩, 12), (⟨"CommitSites", "everyone", "()I"⟩, 12), (⟨"CommitSites", "setTimer", "(LCommitSites$Site;I)V"⟩, 12), (⟨"CommitSites", "lead", "(II)V"⟩, 12), (⟨"CommitSites", "hasQuorum", "(LCommitSites$Site;)Z"⟩, 12), (⟨"CommitSites", "decide", "(II)V"⟩, 12), (⟨"CommitSites", "attempt", "(I)V"⟩, 12), (⟨"CommitSites", "takeNext", "(I)I"⟩, 12), (⟨"CommitSites", "firstTimer", "()I"⟩, 12), (⟨"CommitSites", "runOut", "(I)V"⟩, 12)]
theorem lw_r1 : ∀ q ∈ lw_privs_1, lw_okq q := List.forall_mem_cons.mpr ⟨lw_p0, List.forall_mem_cons.mpr ⟨lw_p1, List.forall_mem_cons.mpr ⟨lw_p2, List.forall_mem_cons.mpr ⟨lw_p3, List.forall_mem_cons.mpr ⟨lw_p4, List.forall_mem_cons.mpr ⟨lw_p5, List.forall_mem_cons.mpr ⟨lw_p6, List.forall_mem_cons.mpr ⟨lw_p7, List.forall_mem_cons.mpr ⟨lw_p8, List.forall_mem_cons.mpr ⟨lw_p9, List.forall_mem_cons.mpr ⟨lw_p10, List.forall_mem_cons.mpr ⟨lw_p11, List.forall_mem_cons.mpr ⟨lw_p12, List.forall_mem_cons.mpr ⟨lw_p13, List.forall_mem_cons.mpr ⟨lw_p14, List.forall_mem_cons.mpr ⟨lw_p15, fun _ h => absurd h List.not_mem_nil⟩⟩⟩⟩⟩⟩⟩⟩⟩⟩⟩⟩⟩⟩⟩⟩
theorem lw_p16 : lw_okq (⟨"CommitSites", "toldWeight", "(LCommitSites$Site;I)I"⟩, 12) := ⟨⟨by decide +kernel, by decide +kernel⟩, List.mem_of_getElem? (i := 7) (by decide +kernel), List.mem_of_getElem? (i := 322) (by decide +kernel), List.mem_of_getElem? (i := 323) (by decide +kernel)⟩
theorem lw_p17 : lw_okq (⟨"CommitSites", "receive", "(LCommitSites$Message;)V"⟩, 12) := ⟨⟨by decide +kernel, by decide +kernel⟩, List.mem_of_getElem? (i := 7) (by decide +kernel), List.mem_of_getElem? (i := 330) (by decide +kernel), List.mem_of_getElem? (i := 331) (by decide +kernel)⟩
theorem lw_p18 : lw_okq (⟨"CommitSites", "onAskVote", "(II)V"⟩, 12) := ⟨⟨by decide +kernel, by decide +kernel⟩, List.mem_of_getElem? (i := 7) (by decide +kernel), List.mem_of_getElem? (i := 334) (by decide +kernel), List.mem_of_getElem? (i := 335) (by decide +kernel)⟩
theorem lw_p19 : lw_okq (⟨"CommitSites", "onYes", "(II)V"⟩, 12) := ⟨⟨by decide +kernel, by decide +kernel⟩, List.mem_of_getElem? (i := 7) (by decide +kernel), List.mem_of_getElem? (i := 338) (by decide +kernel), List.mem_of_getElem? (i := 339) (by decide +kernel)⟩
theorem lw_p20 : lw_okq (⟨"CommitSites", "onNo", "(I)V"⟩, 12) := ⟨⟨by decide +kernel, by decide +kernel⟩, List.mem_of_getElem? (i := 7) (by decide +kernel), List.mem_of_getElem? (i := 342) (by decide +kernel), List.mem_of_getElem? (i := 343) (by decide +kernel)⟩
theorem lw_p21 : lw_okq (⟨"CommitSites", "onAskState", "(III)V"⟩, 12) := ⟨⟨by decide +kernel, by decide +kernel⟩, List.mem_of_getElem? (i := 7) (by decide +kernel), List.mem_of_getElem? (i := 346) (by decide +kernel), List.mem_of_getElem? (i := 347) (by decide +kernel)⟩
theorem lw_p22 : lw_okq (⟨"CommitSites", "yieldTo", "(II)V"⟩, 12) := ⟨⟨by decide +kernel, by decide +kernel⟩, List.mem_of_getElem? (i := 7) (by decide +kernel), List.mem_of_getElem? (i := 350) (by decide +kernel), List.mem_of_getElem? (i := 351) (by decide +kernel)⟩
theorem lw_p23 : lw_okq (⟨"CommitSites", "onState", "(IIII)V"⟩, 12) := ⟨⟨by decide +kernel, by decide +kernel⟩, List.mem_of_getElem? (i := 7) (by decide +kernel), List.mem_of_getElem? (i := 354) (by decide +kernel), List.mem_of_getElem? (i := 355) (by decide +kernel)⟩
theorem lw_p24 : lw_okq (⟨"CommitSites", "onAskReady", "(IIII)V"⟩, 12) := ⟨⟨by decide +kernel, by decide +kernel⟩, List.mem_of_getElem? (i := 7) (by decide +kernel), List.mem_of_getElem? (i := 358) (by decide +kernel), List.mem_of_getElem? (i := 359) (by decide +kernel)⟩
theorem lw_p25 : lw_okq (⟨"CommitSites", "onAcknowledge", "(III)V"⟩, 12) := ⟨⟨by decide +kernel, by decide +kernel⟩, List.mem_of_getElem? (i := 7) (by decide +kernel), List.mem_of_getElem? (i := 362) (by decide +kernel), List.mem_of_getElem? (i := 363) (by decide +kernel)⟩
theorem lw_p26 : lw_okq (⟨"CommitSites", "onDecision", "(II)V"⟩, 12) := ⟨⟨by decide +kernel, by decide +kernel⟩, List.mem_of_getElem? (i := 7) (by decide +kernel), List.mem_of_getElem? (i := 370) (by decide +kernel), List.mem_of_getElem? (i := 371) (by decide +kernel)⟩
theorem lw_p27 : lw_okq (⟨"CommitSitesModel", "all", "()I"⟩, 34) := ⟨⟨by decide +kernel, by decide +kernel⟩, List.mem_of_getElem? (i := 415) (by decide +kernel), List.mem_of_getElem? (i := 530) (by decide +kernel), List.mem_of_getElem? (i := 531) (by decide +kernel)⟩
theorem lw_p28 : lw_okq (⟨"CommitSitesModel", "isSite", "(I)Z"⟩, 34) := ⟨⟨by decide +kernel, by decide +kernel⟩, List.mem_of_getElem? (i := 415) (by decide +kernel), List.mem_of_getElem? (i := 542) (by decide +kernel), List.mem_of_getElem? (i := 543) (by decide +kernel)⟩
theorem lw_p29 : lw_okq (⟨"CommitSitesModel", "decide", "(II)V"⟩, 34) := ⟨⟨by decide +kernel, by decide +kernel⟩, List.mem_of_getElem? (i := 415) (by decide +kernel), List.mem_of_getElem? (i := 558) (by decide +kernel), List.mem_of_getElem? (i := 559) (by decide +kernel)⟩
theorem lw_p30 : lw_okq (⟨"CommitSitesModel", "become", "(II)V"⟩, 34) := ⟨⟨by decide +kernel, by decide +kernel⟩, List.mem_of_getElem? (i := 415) (by decide +kernel), List.mem_of_getElem? (i := 562) (by decide +kernel), List.mem_of_getElem? (i := 563) (by decide +kernel)⟩
theorem lw_p31 : lw_okq (⟨"CommitSitesModel", "sendAll", "(III)V"⟩, 34) := ⟨⟨by decide +kernel, by decide +kernel⟩, List.mem_of_getElem? (i := 415) (by decide +kernel), List.mem_of_getElem? (i := 566) (by decide +kernel), List.mem_of_getElem? (i := 567) (by decide +kernel)⟩
def lw_privs_2 : List (MethodName × Nat) := [(⟨"CommitSites", "toldWeight", "(LCommitSites$Site;I)I"⟩, 12), (⟨"CommitSites", "receive", "(LCommitSites$Message;)V"⟩, 12), (⟨"CommitSites", "onAskVote", "(II)V"⟩, 12), (⟨"CommitSites", "onYes", "(II)V"⟩, 12), (⟨"CommitSites", "onNo", "(I)V"⟩, 12), (⟨"CommitSites", "onAskState", "(III)V"⟩, 12), (⟨"CommitSites", "yieldTo", "(II)V"⟩, 12), (⟨"CommitSites", "onState", "(IIII)V"⟩, 12), (⟨"CommitSites", "onAskReady", "(IIII)V"⟩, 12), (⟨"CommitSites", "onAcknowledge", "(III)V"⟩, 12), (⟨"CommitSites", "onDecision", "(II)V"⟩, 12), (⟨"CommitSitesModel", "all", "()I"⟩, 34), (⟨"CommitSitesModel", "isSite", "(I)Z"⟩, 34), (⟨"CommitSitesModel", "decide", "(II)V"⟩, 34), (⟨"CommitSitesModel", "become", "(II)V"⟩, 34), (⟨"CommitSitesModel", "sendAll", "(III)V"⟩, 34)]
theorem lw_r2 : ∀ q ∈ lw_privs_2, lw_okq q := List.forall_mem_cons.mpr ⟨lw_p16, List.forall_mem_cons.mpr ⟨lw_p17, List.forall_mem_cons.mpr ⟨lw_p18, List.forall_mem_cons.mpr ⟨lw_p19, List.forall_mem_cons.mpr ⟨lw_p20, List.forall_mem_cons.mpr ⟨lw_p21, List.forall_mem_cons.mpr ⟨lw_p22, List.forall_mem_cons.mpr ⟨lw_p23, List.forall_mem_cons.mpr ⟨lw_p24, List.forall_mem_cons.mpr ⟨lw_p25, List.forall_mem_cons.mpr ⟨lw_p26, List.forall_mem_cons.mpr ⟨lw_p27, List.forall_mem_cons.mpr ⟨lw_p28, List.forall_mem_cons.mpr ⟨lw_p29, List.forall_mem_cons.mpr ⟨lw_p30, List.forall_mem_cons.mpr ⟨lw_p31, fun _ h => absurd h List.not_mem_nil⟩⟩⟩⟩⟩⟩⟩⟩⟩⟩⟩⟩⟩⟩⟩⟩
theorem lw_p32 : lw_okq (⟨"CommitSitesModel", "send", "(IIIII)V"⟩, 34) := ⟨⟨by decide +kernel, by decide +kernel⟩, List.mem_of_getElem? (i := 415) (by decide +kernel), List.mem_of_getElem? (i := 570) (by decide +kernel), List.mem_of_getElem? (i := 571) (by decide +kernel)⟩
theorem lw_p33 : lw_okq (⟨"CommitSitesModel", "clearThere", "(II)V"⟩, 34) := ⟨⟨by decide +kernel, by decide +kernel⟩, List.mem_of_getElem? (i := 415) (by decide +kernel), List.mem_of_getElem? (i := 574) (by decide +kernel), List.mem_of_getElem? (i := 575) (by decide +kernel)⟩
theorem lw_p34 : lw_okq (⟨"CommitSitesModel", "setTimer", "(II)V"⟩, 34) := ⟨⟨by decide +kernel, by decide +kernel⟩, List.mem_of_getElem? (i := 415) (by decide +kernel), List.mem_of_getElem? (i := 578) (by decide +kernel), List.mem_of_getElem? (i := 579) (by decide +kernel)⟩
theorem lw_p35 : lw_okq (⟨"CommitSitesModel", "checkVotes", "(I)V"⟩, 34) := ⟨⟨by decide +kernel, by decide +kernel⟩, List.mem_of_getElem? (i := 415) (by decide +kernel), List.mem_of_getElem? (i := 582) (by decide +kernel), List.mem_of_getElem? (i := 583) (by decide +kernel)⟩
theorem lw_p36 : lw_okq (⟨"CommitSitesModel", "lead", "(II)V"⟩, 34) := ⟨⟨by decide +kernel, by decide +kernel⟩, List.mem_of_getElem? (i := 415) (by decide +kernel), List.mem_of_getElem? (i := 586) (by decide +kernel), List.mem_of_getElem? (i := 587) (by decide +kernel)⟩
theorem lw_p37 : lw_okq (⟨"CommitSitesModel", "checkQuorum", "(I)V"⟩, 34) := ⟨⟨by decide +kernel, by decide +kernel⟩, List.mem_of_getElem? (i := 415) (by decide +kernel), List.mem_of_getElem? (i := 590) (by decide +kernel), List.mem_of_getElem? (i := 591) (by decide +kernel)⟩
theorem lw_p38 : lw_okq (⟨"CommitSitesModel", "weightThere", "(I)I"⟩, 34) := ⟨⟨by decide +kernel, by decide +kernel⟩, List.mem_of_getElem? (i := 415) (by decide +kernel), List.mem_of_getElem? (i := 594) (by decide +kernel), List.mem_of_getElem? (i := 595) (by decide +kernel)⟩
theorem lw_p39 : lw_okq (⟨"CommitSitesModel", "isDecided", "(I)Z"⟩, 34) := ⟨⟨by decide +kernel, by decide +kernel⟩, List.mem_of_getElem? (i := 415) (by decide +kernel), List.mem_of_getElem? (i := 606) (by decide +kernel), List.mem_of_getElem? (i := 607) (by decide +kernel)⟩
theorem lw_p40 : lw_okq (⟨"CommitSitesModel", "attempt", "(I)V"⟩, 34) := ⟨⟨by decide +kernel, by decide +kernel⟩, List.mem_of_getElem? (i := 415) (by decide +kernel), List.mem_of_getElem? (i := 610) (by decide +kernel), List.mem_of_getElem? (i := 611) (by decide +kernel)⟩
theorem lw_p41 : lw_okq (⟨"CommitSitesModel", "findNext", "()V"⟩, 34) := ⟨⟨by decide +kernel, by decide +kernel⟩, List.mem_of_getElem? (i := 415) (by decide +kernel), List.mem_of_getElem? (i := 618) (by decide +kernel), List.mem_of_getElem? (i := 619) (by decide +kernel)⟩
theorem lw_p42 : lw_okq (⟨"CommitSitesModel", "take", "()Z"⟩, 34) := ⟨⟨by decide +kernel, by decide +kernel⟩, List.mem_of_getElem? (i := 415) (by decide +kernel), List.mem_of_getElem? (i := 622) (by decide +kernel), List.mem_of_getElem? (i := 623) (by decide +kernel)⟩
theorem lw_p43 : lw_okq (⟨"CommitSitesModel", "tell", "(IIIII)V"⟩, 34) := ⟨⟨by decide +kernel, by decide +kernel⟩, List.mem_of_getElem? (i := 415) (by decide +kernel), List.mem_of_getElem? (i := 626) (by decide +kernel), List.mem_of_getElem? (i := 627) (by decide +kernel)⟩
theorem lw_p44 : lw_okq (⟨"CommitSitesModel", "ring", "(I)V"⟩, 34) := ⟨⟨by decide +kernel, by decide +kernel⟩, List.mem_of_getElem? (i := 415) (by decide +kernel), List.mem_of_getElem? (i := 630) (by decide +kernel), List.mem_of_getElem? (i := 631) (by decide +kernel)⟩
theorem lw_p45 : lw_okq (⟨"CommitSitesModel", "weightOf", "(II)I"⟩, 34) := ⟨⟨by decide +kernel, by decide +kernel⟩, List.mem_of_getElem? (i := 415) (by decide +kernel), List.mem_of_getElem? (i := 634) (by decide +kernel), List.mem_of_getElem? (i := 635) (by decide +kernel)⟩
theorem lw_p46 : lw_okq (⟨"CommitSitesModel", "handle", "(IIIII)V"⟩, 34) := ⟨⟨by decide +kernel, by decide +kernel⟩, List.mem_of_getElem? (i := 415) (by decide +kernel), List.mem_of_getElem? (i := 638) (by decide +kernel), List.mem_of_getElem? (i := 639) (by decide +kernel)⟩
theorem lw_p47 : lw_okq (⟨"CommitSitesModel", "yieldTo", "(II)V"⟩, 34) := ⟨⟨by decide +kernel, by decide +kernel⟩, List.mem_of_getElem? (i := 415) (by decide +kernel), List.mem_of_getElem? (i := 642) (by decide +kernel), List.mem_of_getElem? (i := 643) (by decide +kernel)⟩
def lw_privs_3 : List (MethodName × Nat) := [(⟨"CommitSitesModel", "send", "(IIIII)V"⟩, 34), (⟨"CommitSitesModel", "clearThere", "(II)V"⟩, 34), (⟨"CommitSitesModel", "setTimer", "(II)V"⟩, 34), (⟨"CommitSitesModel", "checkVotes", "(I)V"⟩, 34), (⟨"CommitSitesModel", "lead", "(II)V"⟩, 34), (⟨"CommitSitesModel", "checkQuorum", "(I)V"⟩, 34), (⟨"CommitSitesModel", "weightThere", "(I)I"⟩, 34), (⟨"CommitSitesModel", "isDecided", "(I)Z"⟩, 34), (⟨"CommitSitesModel", "attempt", "(I)V"⟩, 34), (⟨"CommitSitesModel", "findNext", "()V"⟩, 34), (⟨"CommitSitesModel", "take", "()Z"⟩, 34), (⟨"CommitSitesModel", "tell", "(IIIII)V"⟩, 34), (⟨"CommitSitesModel", "ring", "(I)V"⟩, 34), (⟨"CommitSitesModel", "weightOf", "(II)I"⟩, 34), (⟨"CommitSitesModel", "handle", "(IIIII)V"⟩, 34), (⟨"CommitSitesModel", "yieldTo", "(II)V"⟩, 34)]
theorem lw_r3 : ∀ q ∈ lw_privs_3, lw_okq q := List.forall_mem_cons.mpr ⟨lw_p32, List.forall_mem_cons.mpr ⟨lw_p33, List.forall_mem_cons.mpr ⟨lw_p34, List.forall_mem_cons.mpr ⟨lw_p35, List.forall_mem_cons.mpr ⟨lw_p36, List.forall_mem_cons.mpr ⟨lw_p37, List.forall_mem_cons.mpr ⟨lw_p38, List.forall_mem_cons.mpr ⟨lw_p39, List.forall_mem_cons.mpr ⟨lw_p40, List.forall_mem_cons.mpr ⟨lw_p41, List.forall_mem_cons.mpr ⟨lw_p42, List.forall_mem_cons.mpr ⟨lw_p43, List.forall_mem_cons.mpr ⟨lw_p44, List.forall_mem_cons.mpr ⟨lw_p45, List.forall_mem_cons.mpr ⟨lw_p46, List.forall_mem_cons.mpr ⟨lw_p47, fun _ h => absurd h List.not_mem_nil⟩⟩⟩⟩⟩⟩⟩⟩⟩⟩⟩⟩⟩⟩⟩⟩
theorem lw_p48 : lw_okq (⟨"CommitSitesModel", "prepare", "(IIII)V"⟩, 34) := ⟨⟨by decide +kernel, by decide +kernel⟩, List.mem_of_getElem? (i := 415) (by decide +kernel), List.mem_of_getElem? (i := 646) (by decide +kernel), List.mem_of_getElem? (i := 647) (by decide +kernel)⟩
def lw_privs_4 : List (MethodName × Nat) := [(⟨"CommitSitesModel", "prepare", "(IIII)V"⟩, 34)]
theorem lw_r4 : ∀ q ∈ lw_privs_4, lw_okq q := List.forall_mem_cons.mpr ⟨lw_p48, fun _ h => absurd h List.not_mem_nil⟩
def lw_privs : List (MethodName × Nat) := lw_privs_1 ++ (lw_privs_2 ++ (lw_privs_3 ++ (lw_privs_4)))
def lw_tbl : List Cond := k2_sels lw_privs ++ tables_1
theorem lw_privs_ok : ∀ q ∈ lw_privs, lw_okq q := by
  show ∀ q ∈ lw_privs_1 ++ (lw_privs_2 ++ (lw_privs_3 ++ (lw_privs_4))), lw_okq q
  exact List.forall_mem_append.mpr ⟨lw_r1, List.forall_mem_append.mpr ⟨lw_r2, List.forall_mem_append.mpr ⟨lw_r3, lw_r4⟩⟩⟩
end
section
def RX0 : String := "CommitSites$Message"
def TX0 : u_T := fun k => match k with
  | 0 => ("CommitSites$Message", "time", "I", false)
  | 1 => ("CommitSites$Message", "order", "I", false)
  | 2 => ("CommitSites$Message", "kind", "I", false)
  | 3 => ("CommitSites$Message", "from", "I", false)
  | 4 => ("CommitSites$Message", "to", "I", false)
  | 5 => ("CommitSites$Message", "attempt", "I", false)
  | 6 => ("CommitSites$Message", "told", "I", false)
  | _ => ("CommitSites$Message", "next", "LCommitSites$Message;", false)
def tyX0 : Nat → FieldType := fun k => match k with
  | 0 => .int
  | 1 => .int
  | 2 => .int
  | 3 => .int
  | 4 => .int
  | 5 => .int
  | 6 => .int
  | _ => .object "CommitSites$Message"
abbrev wsX00 : List Cond := u_ws RX0 TX0 8
theorem nmX0 : ∀ a, a < 8 → ∀ b, b < 8 → a ≠ b → (TX0 a).2.1 ≠ (TX0 b).2.1 := by decide +kernel
theorem tyX0_ok : ∀ k, k < 8 → parseFieldDescriptor (TX0 k).2.2.1 = some (tyX0 k) := by decide +kernel
abbrev cX0_init : ByteArray := prog_2_method_1_code
def yX0_init : MethodName := ⟨RX0, "<init>", "()V"⟩
def RX1 : String := "CommitSites$Network"
def TX1 : u_T := fun k => match k with
  | 0 => ("CommitSites$Network", "delays", "[[I", true)
  | 1 => ("CommitSites$Network", "heads", "[LCommitSites$Message;", true)
  | 2 => ("CommitSites$Network", "tails", "[LCommitSites$Message;", true)
  | 3 => ("CommitSites$Network", "spare", "LCommitSites$Message;", false)
  | 4 => ("CommitSites$Network", "time", "I", false)
  | 5 => ("CommitSites$Network", "order", "I", false)
  | 6 => ("CommitSites$Network", "sent", "I", false)
  | 7 => ("CommitSites$Network", "lost", "I", false)
  | _ => ("CommitSites$Network", "onWay", "I", false)
def tyX1 : Nat → FieldType := fun k => match k with
  | 0 => .array (.array .int)
  | 1 => .array (.object "CommitSites$Message")
  | 2 => .array (.object "CommitSites$Message")
  | 3 => .object "CommitSites$Message"
  | 4 => .int
  | 5 => .int
  | 6 => .int
  | 7 => .int
  | _ => .int
abbrev wsX10 : List Cond := u_ws RX1 TX1 9
theorem nmX1 : ∀ a, a < 9 → ∀ b, b < 9 → a ≠ b → (TX1 a).2.1 ≠ (TX1 b).2.1 := by decide +kernel
theorem tyX1_ok : ∀ k, k < 9 → parseFieldDescriptor (TX1 k).2.2.1 = some (tyX1 k) := by decide +kernel
abbrev cX1_init : ByteArray := prog_3_method_1_code
def yX1_init : MethodName := ⟨RX1, "<init>", "()V"⟩
abbrev cX1_startAnew : ByteArray := prog_3_method_2_code
def yX1_startAnew : MethodName := ⟨RX1, "startAnew", "()V"⟩
abbrev cX1_nextOrder : ByteArray := prog_3_method_3_code
def yX1_nextOrder : MethodName := ⟨RX1, "nextOrder", "()I"⟩
abbrev cX1_send : ByteArray := prog_3_method_4_code
def yX1_send : MethodName := ⟨RX1, "send", "(IIIII)V"⟩
abbrev cX1_putOn : ByteArray := prog_3_method_5_code
def yX1_putOn : MethodName := ⟨RX1, "putOn", "(LCommitSites$Message;)V"⟩
abbrev cX1_first : ByteArray := prog_3_method_6_code
def yX1_first : MethodName := ⟨RX1, "first", "()LCommitSites$Message;"⟩
abbrev cX1_takeOff : ByteArray := prog_3_method_7_code
def yX1_takeOff : MethodName := ⟨RX1, "takeOff", "(LCommitSites$Message;)V"⟩
abbrev cX1_keepSpare : ByteArray := prog_3_method_8_code
def yX1_keepSpare : MethodName := ⟨RX1, "keepSpare", "(LCommitSites$Message;)V"⟩
def RX2 : String := "CommitSites$Site"
def TX2 : u_T := fun k => match k with
  | 0 => ("CommitSites$Site", "weight", "I", true)
  | 1 => ("CommitSites$Site", "stateOf", "[I", true)
  | 2 => ("CommitSites$Site", "there", "I", false)
  | 3 => ("CommitSites$Site", "up", "Z", false)
  | 4 => ("CommitSites$Site", "state", "I", false)
  | 5 => ("CommitSites$Site", "since", "I", false)
  | 6 => ("CommitSites$Site", "does", "I", false)
  | 7 => ("CommitSites$Site", "attempt", "I", false)
  | 8 => ("CommitSites$Site", "timer", "I", false)
  | _ => ("CommitSites$Site", "timerOrder", "I", false)
def tyX2 : Nat → FieldType := fun k => match k with
  | 0 => .int
  | 1 => .array .int
  | 2 => .int
  | 3 => .boolean
  | 4 => .int
  | 5 => .int
  | 6 => .int
  | 7 => .int
  | 8 => .int
  | _ => .int
abbrev wsX20 : List Cond := u_ws RX2 TX2 10
theorem nmX2 : ∀ a, a < 10 → ∀ b, b < 10 → a ≠ b → (TX2 a).2.1 ≠ (TX2 b).2.1 := by decide +kernel
theorem tyX2_ok : ∀ k, k < 10 → parseFieldDescriptor (TX2 k).2.2.1 = some (tyX2 k) := by decide +kernel
abbrev cX2_init : ByteArray := prog_4_method_1_code
def yX2_init : MethodName := ⟨RX2, "<init>", "(I)V"⟩
abbrev cX2_startAnew : ByteArray := prog_4_method_2_code
def yX2_startAnew : MethodName := ⟨RX2, "startAnew", "()V"⟩
abbrev cX2_isDecided : ByteArray := prog_4_method_3_code
def yX2_isDecided : MethodName := ⟨RX2, "isDecided", "()Z"⟩
abbrev cX2_collectsAcks : ByteArray := prog_4_method_4_code
def yX2_collectsAcks : MethodName := ⟨RX2, "collectsAcks", "()Z"⟩
abbrev cX2_runsOutEarlier : ByteArray := prog_4_method_5_code
def yX2_runsOutEarlier : MethodName := ⟨RX2, "runsOutEarlier", "(LCommitSites$Site;)Z"⟩
abbrev cX2_runsOutBefore : ByteArray := prog_4_method_6_code
def yX2_runsOutBefore : MethodName := ⟨RX2, "runsOutBefore", "(LCommitSites$Message;)Z"⟩
def RX3 : String := "CommitSites"
def TX3 : u_T := fun k => match k with
  | 0 => ("CommitSites", "sites", "[LCommitSites$Site;", true)
  | 1 => ("CommitSites", "network", "LCommitSites$Network;", true)
  | 2 => ("CommitSites", "latestEvent", "[I", true)
  | 3 => ("CommitSites", "siteCount", "I", false)
  | 4 => ("CommitSites", "allWeight", "I", false)
  | 5 => ("CommitSites", "commitQuorum", "I", false)
  | 6 => ("CommitSites", "abortQuorum", "I", false)
  | 7 => ("CommitSites", "patienceTicks", "I", false)
  | 8 => ("CommitSites", "begun", "Z", false)
  | 9 => ("CommitSites", "yesVotes", "I", false)
  | 10 => ("CommitSites", "messagesCome", "I", false)
  | _ => ("CommitSites", "timersRunOut", "I", false)
def tyX3 : Nat → FieldType := fun k => match k with
  | 0 => .array (.object "CommitSites$Site")
  | 1 => .object "CommitSites$Network"
  | 2 => .array .int
  | 3 => .int
  | 4 => .int
  | 5 => .int
  | 6 => .int
  | 7 => .int
  | 8 => .boolean
  | 9 => .int
  | 10 => .int
  | _ => .int
abbrev wsX30 : List Cond := u_ws RX3 TX3 12
theorem nmX3 : ∀ a, a < 12 → ∀ b, b < 12 → a ≠ b → (TX3 a).2.1 ≠ (TX3 b).2.1 := by decide +kernel
theorem tyX3_ok : ∀ k, k < 12 → parseFieldDescriptor (TX3 k).2.2.1 = some (tyX3 k) := by decide +kernel
abbrev cX3_init : ByteArray := prog_1_method_1_code
def yX3_init : MethodName := ⟨RX3, "<init>", "()V"⟩
abbrev cX3_site : ByteArray := prog_1_method_2_code
def yX3_site : MethodName := ⟨RX3, "site", "(I)I"⟩
abbrev cX3_quorums : ByteArray := prog_1_method_3_code
def yX3_quorums : MethodName := ⟨RX3, "quorums", "(II)I"⟩
abbrev cX3_link : ByteArray := prog_1_method_4_code
def yX3_link : MethodName := ⟨RX3, "link", "(III)I"⟩
abbrev cX3_part : ByteArray := prog_1_method_5_code
def yX3_part : MethodName := ⟨RX3, "part", "(II)I"⟩
abbrev cX3_patience : ByteArray := prog_1_method_6_code
def yX3_patience : MethodName := ⟨RX3, "patience", "(I)I"⟩
abbrev cX3_begin : ByteArray := prog_1_method_7_code
def yX3_begin : MethodName := ⟨RX3, "begin", "(II)I"⟩
abbrev cX3_crash : ByteArray := prog_1_method_8_code
def yX3_crash : MethodName := ⟨RX3, "crash", "(I)I"⟩
abbrev cX3_recover : ByteArray := prog_1_method_9_code
def yX3_recover : MethodName := ⟨RX3, "recover", "(I)I"⟩
abbrev cX3_run : ByteArray := prog_1_method_10_code
def yX3_run : MethodName := ⟨RX3, "run", "(I)I"⟩
abbrev cX3_step : ByteArray := prog_1_method_11_code
def yX3_step : MethodName := ⟨RX3, "step", "()I"⟩
abbrev cX3_reset : ByteArray := prog_1_method_12_code
def yX3_reset : MethodName := ⟨RX3, "reset", "()I"⟩
abbrev cX3_of : ByteArray := prog_1_method_13_code
def yX3_of : MethodName := ⟨RX3, "of", "(II)I"⟩
abbrev cX3_count : ByteArray := prog_1_method_14_code
def yX3_count : MethodName := ⟨RX3, "count", "(I)I"⟩
abbrev cX3_delay : ByteArray := prog_1_method_15_code
def yX3_delay : MethodName := ⟨RX3, "delay", "(II)I"⟩
abbrev cX3_weight : ByteArray := prog_1_method_16_code
def yX3_weight : MethodName := ⟨RX3, "weight", "(I)I"⟩
abbrev cX3_latest : ByteArray := prog_1_method_17_code
def yX3_latest : MethodName := ⟨RX3, "latest", "(I)I"⟩
abbrev cX3_check : ByteArray := prog_1_method_18_code
def yX3_check : MethodName := ⟨RX3, "check", "()I"⟩
abbrev cX3_isSite : ByteArray := prog_1_method_19_code
def yX3_isSite : MethodName := ⟨RX3, "isSite", "(I)Z"⟩
abbrev cX3_isLink : ByteArray := prog_1_method_20_code
def yX3_isLink : MethodName := ⟨RX3, "isLink", "(II)Z"⟩
abbrev cX3_hasBit : ByteArray := prog_1_method_21_code
def yX3_hasBit : MethodName := ⟨RX3, "hasBit", "(II)Z"⟩
abbrev cX3_everyone : ByteArray := prog_1_method_22_code
def yX3_everyone : MethodName := ⟨RX3, "everyone", "()I"⟩
abbrev cX3_allBut : ByteArray := prog_1_method_23_code
def yX3_allBut : MethodName := ⟨RX3, "allBut", "(I)I"⟩
abbrev cX3_shareQuorums : ByteArray := prog_1_method_24_code
def yX3_shareQuorums : MethodName := ⟨RX3, "shareQuorums", "()V"⟩
abbrev cX3_note : ByteArray := prog_1_method_25_code
def yX3_note : MethodName := ⟨RX3, "note", "(IIIII)V"⟩
abbrev cX3_takeNext : ByteArray := prog_1_method_26_code
def yX3_takeNext : MethodName := ⟨RX3, "takeNext", "(I)I"⟩
abbrev cX3_firstTimer : ByteArray := prog_1_method_27_code
def yX3_firstTimer : MethodName := ⟨RX3, "firstTimer", "()I"⟩
abbrev cX3_receive : ByteArray := prog_1_method_28_code
def yX3_receive : MethodName := ⟨RX3, "receive", "(LCommitSites$Message;)V"⟩
abbrev cX3_onAskVote : ByteArray := prog_1_method_29_code
def yX3_onAskVote : MethodName := ⟨RX3, "onAskVote", "(II)V"⟩
abbrev cX3_onYes : ByteArray := prog_1_method_30_code
def yX3_onYes : MethodName := ⟨RX3, "onYes", "(II)V"⟩
abbrev cX3_onNo : ByteArray := prog_1_method_31_code
def yX3_onNo : MethodName := ⟨RX3, "onNo", "(I)V"⟩
abbrev cX3_onAskState : ByteArray := prog_1_method_32_code
def yX3_onAskState : MethodName := ⟨RX3, "onAskState", "(III)V"⟩
abbrev cX3_onState : ByteArray := prog_1_method_33_code
def yX3_onState : MethodName := ⟨RX3, "onState", "(IIII)V"⟩
abbrev cX3_onAskReady : ByteArray := prog_1_method_34_code
def yX3_onAskReady : MethodName := ⟨RX3, "onAskReady", "(IIII)V"⟩
abbrev cX3_onAcknowledge : ByteArray := prog_1_method_35_code
def yX3_onAcknowledge : MethodName := ⟨RX3, "onAcknowledge", "(III)V"⟩
abbrev cX3_onDecision : ByteArray := prog_1_method_36_code
def yX3_onDecision : MethodName := ⟨RX3, "onDecision", "(II)V"⟩
abbrev cX3_runOut : ByteArray := prog_1_method_37_code
def yX3_runOut : MethodName := ⟨RX3, "runOut", "(I)V"⟩
abbrev cX3_askVotes : ByteArray := prog_1_method_38_code
def yX3_askVotes : MethodName := ⟨RX3, "askVotes", "(I)V"⟩
abbrev cX3_attempt : ByteArray := prog_1_method_39_code
def yX3_attempt : MethodName := ⟨RX3, "attempt", "(I)V"⟩
abbrev cX3_lead : ByteArray := prog_1_method_40_code
def yX3_lead : MethodName := ⟨RX3, "lead", "(II)V"⟩
abbrev cX3_decide : ByteArray := prog_1_method_41_code
def yX3_decide : MethodName := ⟨RX3, "decide", "(II)V"⟩
abbrev cX3_tidingsOf : ByteArray := prog_1_method_42_code
def yX3_tidingsOf : MethodName := ⟨RX3, "tidingsOf", "(I)I"⟩
abbrev cX3_yieldTo : ByteArray := prog_1_method_43_code
def yX3_yieldTo : MethodName := ⟨RX3, "yieldTo", "(II)V"⟩
abbrev cX3_become : ByteArray := prog_1_method_44_code
def yX3_become : MethodName := ⟨RX3, "become", "(LCommitSites$Site;I)V"⟩
abbrev cX3_setTimer : ByteArray := prog_1_method_45_code
def yX3_setTimer : MethodName := ⟨RX3, "setTimer", "(LCommitSites$Site;I)V"⟩
abbrev cX3_hasQuorum : ByteArray := prog_1_method_46_code
def yX3_hasQuorum : MethodName := ⟨RX3, "hasQuorum", "(LCommitSites$Site;)Z"⟩
abbrev cX3_toldWeight : ByteArray := prog_1_method_47_code
def yX3_toldWeight : MethodName := ⟨RX3, "toldWeight", "(LCommitSites$Site;I)I"⟩
def RX4 : String := "CommitSitesModel"
def TX4 : u_T := fun k => match k with
  | 0 => ("CommitSitesModel", "thrown", "I", false)
  | 1 => ("CommitSitesModel", "sites", "I", false)
  | 2 => ("CommitSitesModel", "weights", "[I", true)
  | 3 => ("CommitSitesModel", "commitQuorum", "I", false)
  | 4 => ("CommitSitesModel", "abortQuorum", "I", false)
  | 5 => ("CommitSitesModel", "patience", "I", false)
  | 6 => ("CommitSitesModel", "delays", "[I", true)
  | 7 => ("CommitSitesModel", "begun", "Z", false)
  | 8 => ("CommitSitesModel", "now", "I", false)
  | 9 => ("CommitSitesModel", "numbers", "I", false)
  | 10 => ("CommitSitesModel", "sent", "I", false)
  | 11 => ("CommitSitesModel", "come", "I", false)
  | 12 => ("CommitSitesModel", "lost", "I", false)
  | 13 => ("CommitSitesModel", "rang", "I", false)
  | 14 => ("CommitSitesModel", "states", "[I", true)
  | 15 => ("CommitSitesModel", "since", "[I", true)
  | 16 => ("CommitSitesModel", "down", "[Z", true)
  | 17 => ("CommitSitesModel", "votes", "[Z", true)
  | 18 => ("CommitSitesModel", "doing", "[I", true)
  | 19 => ("CommitSitesModel", "attempts", "[I", true)
  | 20 => ("CommitSitesModel", "there", "[I", true)
  | 21 => ("CommitSitesModel", "timers", "[I", true)
  | 22 => ("CommitSitesModel", "timerNumbers", "[I", true)
  | 23 => ("CommitSitesModel", "kinds", "[I", true)
  | 24 => ("CommitSitesModel", "froms", "[I", true)
  | 25 => ("CommitSitesModel", "tos", "[I", true)
  | 26 => ("CommitSitesModel", "attemptsTold", "[I", true)
  | 27 => ("CommitSitesModel", "statesTold", "[I", true)
  | 28 => ("CommitSitesModel", "times", "[I", true)
  | 29 => ("CommitSitesModel", "order", "[I", true)
  | 30 => ("CommitSitesModel", "messages", "I", false)
  | 31 => ("CommitSitesModel", "latest", "[I", true)
  | 32 => ("CommitSitesModel", "nextWhat", "I", false)
  | _ => ("CommitSitesModel", "nextTime", "I", false)
def tyX4 : Nat → FieldType := fun k => match k with
  | 0 => .int
  | 1 => .int
  | 2 => .array .int
  | 3 => .int
  | 4 => .int
  | 5 => .int
  | 6 => .array .int
  | 7 => .boolean
  | 8 => .int
  | 9 => .int
  | 10 => .int
  | 11 => .int
  | 12 => .int
  | 13 => .int
  | 14 => .array .int
  | 15 => .array .int
  | 16 => .array .boolean
  | 17 => .array .boolean
  | 18 => .array .int
  | 19 => .array .int
  | 20 => .array .int
  | 21 => .array .int
  | 22 => .array .int
  | 23 => .array .int
  | 24 => .array .int
  | 25 => .array .int
  | 26 => .array .int
  | 27 => .array .int
  | 28 => .array .int
  | 29 => .array .int
  | 30 => .int
  | 31 => .array .int
  | 32 => .int
  | _ => .int
abbrev wsX40 : List Cond := u_ws RX4 TX4 34
theorem nmX4 : ∀ a, a < 34 → ∀ b, b < 34 → a ≠ b → (TX4 a).2.1 ≠ (TX4 b).2.1 := by decide +kernel
theorem tyX4_ok : ∀ k, k < 34 → parseFieldDescriptor (TX4 k).2.2.1 = some (tyX4 k) := by decide +kernel
abbrev cX4_init : ByteArray := prog_6_method_1_code
def yX4_init : MethodName := ⟨RX4, "<init>", "()V"⟩
abbrev cX4_isSite : ByteArray := prog_6_method_3_code
def yX4_isSite : MethodName := ⟨RX4, "isSite", "(I)Z"⟩
abbrev cX4_all : ByteArray := prog_6_method_4_code
def yX4_all : MethodName := ⟨RX4, "all", "()I"⟩
abbrev cX4_site : ByteArray := prog_6_method_5_code
def yX4_site : MethodName := ⟨RX4, "site", "(I)I"⟩
abbrev cX4_quorums : ByteArray := prog_6_method_6_code
def yX4_quorums : MethodName := ⟨RX4, "quorums", "(II)I"⟩
abbrev cX4_link : ByteArray := prog_6_method_7_code
def yX4_link : MethodName := ⟨RX4, "link", "(III)I"⟩
abbrev cX4_part : ByteArray := prog_6_method_8_code
def yX4_part : MethodName := ⟨RX4, "part", "(II)I"⟩
abbrev cX4_patience : ByteArray := prog_6_method_9_code
def yX4_patience : MethodName := ⟨RX4, "patience", "(I)I"⟩
abbrev cX4_send : ByteArray := prog_6_method_10_code
def yX4_send : MethodName := ⟨RX4, "send", "(IIIII)V"⟩
abbrev cX4_sendAll : ByteArray := prog_6_method_11_code
def yX4_sendAll : MethodName := ⟨RX4, "sendAll", "(III)V"⟩
abbrev cX4_setTimer : ByteArray := prog_6_method_12_code
def yX4_setTimer : MethodName := ⟨RX4, "setTimer", "(II)V"⟩
abbrev cX4_isDecided : ByteArray := prog_6_method_13_code
def yX4_isDecided : MethodName := ⟨RX4, "isDecided", "(I)Z"⟩
abbrev cX4_become : ByteArray := prog_6_method_14_code
def yX4_become : MethodName := ⟨RX4, "become", "(II)V"⟩
abbrev cX4_decide : ByteArray := prog_6_method_15_code
def yX4_decide : MethodName := ⟨RX4, "decide", "(II)V"⟩
abbrev cX4_clearThere : ByteArray := prog_6_method_16_code
def yX4_clearThere : MethodName := ⟨RX4, "clearThere", "(II)V"⟩
abbrev cX4_weightThere : ByteArray := prog_6_method_17_code
def yX4_weightThere : MethodName := ⟨RX4, "weightThere", "(I)I"⟩
abbrev cX4_checkVotes : ByteArray := prog_6_method_18_code
def yX4_checkVotes : MethodName := ⟨RX4, "checkVotes", "(I)V"⟩
abbrev cX4_lead : ByteArray := prog_6_method_19_code
def yX4_lead : MethodName := ⟨RX4, "lead", "(II)V"⟩
abbrev cX4_checkQuorum : ByteArray := prog_6_method_20_code
def yX4_checkQuorum : MethodName := ⟨RX4, "checkQuorum", "(I)V"⟩
abbrev cX4_attempt : ByteArray := prog_6_method_21_code
def yX4_attempt : MethodName := ⟨RX4, "attempt", "(I)V"⟩
abbrev cX4_begin : ByteArray := prog_6_method_22_code
def yX4_begin : MethodName := ⟨RX4, "begin", "(II)I"⟩
abbrev cX4_crash : ByteArray := prog_6_method_23_code
def yX4_crash : MethodName := ⟨RX4, "crash", "(I)I"⟩
abbrev cX4_recover : ByteArray := prog_6_method_24_code
def yX4_recover : MethodName := ⟨RX4, "recover", "(I)I"⟩
abbrev cX4_yieldTo : ByteArray := prog_6_method_25_code
def yX4_yieldTo : MethodName := ⟨RX4, "yieldTo", "(II)V"⟩
abbrev cX4_handle : ByteArray := prog_6_method_26_code
def yX4_handle : MethodName := ⟨RX4, "handle", "(IIIII)V"⟩
abbrev cX4_prepare : ByteArray := prog_6_method_27_code
def yX4_prepare : MethodName := ⟨RX4, "prepare", "(IIII)V"⟩
abbrev cX4_weightOf : ByteArray := prog_6_method_28_code
def yX4_weightOf : MethodName := ⟨RX4, "weightOf", "(II)I"⟩
abbrev cX4_ring : ByteArray := prog_6_method_29_code
def yX4_ring : MethodName := ⟨RX4, "ring", "(I)V"⟩
abbrev cX4_findNext : ByteArray := prog_6_method_30_code
def yX4_findNext : MethodName := ⟨RX4, "findNext", "()V"⟩
abbrev cX4_tell : ByteArray := prog_6_method_31_code
def yX4_tell : MethodName := ⟨RX4, "tell", "(IIIII)V"⟩
abbrev cX4_take : ByteArray := prog_6_method_32_code
def yX4_take : MethodName := ⟨RX4, "take", "()Z"⟩
abbrev cX4_run : ByteArray := prog_6_method_33_code
def yX4_run : MethodName := ⟨RX4, "run", "(I)I"⟩
abbrev cX4_step : ByteArray := prog_6_method_34_code
def yX4_step : MethodName := ⟨RX4, "step", "()I"⟩
abbrev cX4_reset : ByteArray := prog_6_method_35_code
def yX4_reset : MethodName := ⟨RX4, "reset", "()I"⟩
abbrev cX4_of : ByteArray := prog_6_method_36_code
def yX4_of : MethodName := ⟨RX4, "of", "(II)I"⟩
abbrev cX4_count : ByteArray := prog_6_method_37_code
def yX4_count : MethodName := ⟨RX4, "count", "(I)I"⟩
abbrev cX4_delay : ByteArray := prog_6_method_38_code
def yX4_delay : MethodName := ⟨RX4, "delay", "(II)I"⟩
abbrev cX4_weight : ByteArray := prog_6_method_39_code
def yX4_weight : MethodName := ⟨RX4, "weight", "(I)I"⟩
abbrev cX4_latest : ByteArray := prog_6_method_40_code
def yX4_latest : MethodName := ⟨RX4, "latest", "(I)I"⟩
abbrev cX4_check : ByteArray := prog_6_method_41_code
def yX4_check : MethodName := ⟨RX4, "check", "()I"⟩
def RL : String := "CommitSitesLaw"
abbrev cL_law : ByteArray := code
def yL_law : MethodName := ⟨RL, "law", "([I)Z"⟩
def wsL_law_r1 : List Cond := [Cond.classLink RL 7 RX3, Cond.instantiable RX3 12, Cond.initialized RX3, Cond.classLink RL 10 RX4, Cond.instantiable RX4 34, Cond.initialized RX4, Cond.methodLink RL 9 yX3_init, Cond.instanceMethod yX3_init, Cond.code yX3_init cX3_init 1 none, Cond.methodLink RX3 1 objectInit, Cond.instanceMethod objectInit, Cond.code objectInit ⟨#[0xb1]⟩ 1 none, Cond.classLink RX3 9 RX2, Cond.fieldLink RX3 11 "CommitSites" "sites" "[LCommitSites$Site;", Cond.classLink RX3 15 RX1, Cond.instantiable RX1 9, Cond.initialized RX1, Cond.fieldLink RX3 18 "CommitSites" "network" "LCommitSites$Network;", Cond.arrayClass .int, Cond.fieldLink RX3 22 "CommitSites" "latestEvent" "[I", Cond.fieldLink RX3 26 "CommitSites" "patienceTicks" "I", Cond.methodLink RX3 17 yX1_init, Cond.instanceMethod yX1_init, Cond.code yX1_init cX1_init 3 none]
def wsL_law_r2 : List Cond := [Cond.methodLink RX1 3 objectInit, Cond.classLink RX1 9 "[[I", Cond.fieldLink RX1 11 "CommitSites$Network" "delays" "[[I", Cond.classLink RX1 16 RX0, Cond.fieldLink RX1 18 "CommitSites$Network" "heads" "[LCommitSites$Message;", Cond.fieldLink RX1 22 "CommitSites$Network" "tails" "[LCommitSites$Message;", Cond.methodLink RX3 30 yX3_shareQuorums, Cond.instanceMethod yX3_shareQuorums, Cond.selects RX3 yX3_shareQuorums yX3_shareQuorums, Cond.code yX3_shareQuorums cX3_shareQuorums 1 none, Cond.fieldLink RX3 47 "CommitSites" "allWeight" "I", Cond.fieldLink RX3 50 "CommitSites" "commitQuorum" "I", Cond.fieldLink RX3 53 "CommitSites" "abortQuorum" "I", Cond.methodLink RX3 33 yX3_note, Cond.instanceMethod yX3_note, Cond.selects RX3 yX3_note yX3_note, Cond.code yX3_note cX3_note 6 none, Cond.methodLink RL 12 yX4_init, Cond.instanceMethod yX4_init, Cond.code yX4_init cX4_init 1 none, Cond.methodLink RX4 1 objectInit, Cond.fieldLink RX4 7 "CommitSitesModel" "weights" "[I", Cond.fieldLink RX4 13 "CommitSitesModel" "patience" "I", Cond.fieldLink RX4 17 "CommitSitesModel" "delays" "[I"]
def wsL_law_r3 : List Cond := [Cond.fieldLink RX4 20 "CommitSitesModel" "states" "[I", Cond.fieldLink RX4 23 "CommitSitesModel" "since" "[I", Cond.arrayClass .boolean, Cond.fieldLink RX4 26 "CommitSitesModel" "down" "[Z", Cond.fieldLink RX4 30 "CommitSitesModel" "votes" "[Z", Cond.fieldLink RX4 33 "CommitSitesModel" "doing" "[I", Cond.fieldLink RX4 36 "CommitSitesModel" "attempts" "[I", Cond.fieldLink RX4 39 "CommitSitesModel" "there" "[I", Cond.fieldLink RX4 42 "CommitSitesModel" "timers" "[I", Cond.fieldLink RX4 45 "CommitSitesModel" "timerNumbers" "[I", Cond.constant RX4 48 (60000), Cond.fieldLink RX4 49 "CommitSitesModel" "kinds" "[I", Cond.fieldLink RX4 52 "CommitSitesModel" "froms" "[I", Cond.fieldLink RX4 55 "CommitSitesModel" "tos" "[I", Cond.fieldLink RX4 58 "CommitSitesModel" "attemptsTold" "[I", Cond.fieldLink RX4 61 "CommitSitesModel" "statesTold" "[I", Cond.fieldLink RX4 64 "CommitSitesModel" "times" "[I", Cond.fieldLink RX4 67 "CommitSitesModel" "order" "[I", Cond.fieldLink RX4 70 "CommitSitesModel" "latest" "[I", Cond.methodLink RL 13 yX3_site, Cond.instanceMethod yX3_site, Cond.selects RX3 yX3_site yX3_site, Cond.code yX3_site cX3_site 2 (some .int), Cond.fieldLink RX3 37 "CommitSites" "begun" "Z"]
def wsL_law_r4 : List Cond := [Cond.fieldLink RX3 41 "CommitSites" "siteCount" "I", Cond.instantiable RX2 10, Cond.initialized RX2, Cond.methodLink RX3 44 yX2_init, Cond.instanceMethod yX2_init, Cond.code yX2_init cX2_init 2 none, Cond.methodLink RX2 3 objectInit, Cond.fieldLink RX2 9 "CommitSites$Site" "stateOf" "[I", Cond.fieldLink RX2 15 "CommitSites$Site" "weight" "I", Cond.methodLink RX2 19 yX2_startAnew, Cond.instanceMethod yX2_startAnew, Cond.selects RX2 yX2_startAnew yX2_startAnew, Cond.code yX2_startAnew cX2_startAnew 1 none, Cond.fieldLink RX2 22 "CommitSites$Site" "there" "I", Cond.fieldLink RX2 25 "CommitSites$Site" "up" "Z", Cond.fieldLink RX2 29 "CommitSites$Site" "state" "I", Cond.fieldLink RX2 32 "CommitSites$Site" "since" "I", Cond.fieldLink RX2 35 "CommitSites$Site" "does" "I", Cond.fieldLink RX2 38 "CommitSites$Site" "attempt" "I", Cond.fieldLink RX2 41 "CommitSites$Site" "timer" "I", Cond.fieldLink RX2 44 "CommitSites$Site" "timerOrder" "I", Cond.methodLink RL 17 yX4_site, Cond.instanceMethod yX4_site, Cond.selects RX4 yX4_site yX4_site]
def wsL_law_r5 : List Cond := [Cond.code yX4_site cX4_site 3 (some .int), Cond.fieldLink RX4 73 "CommitSitesModel" "thrown" "I", Cond.fieldLink RX4 79 "CommitSitesModel" "begun" "Z", Cond.fieldLink RX4 76 "CommitSitesModel" "sites" "I", Cond.fieldLink RX4 87 "CommitSitesModel" "commitQuorum" "I", Cond.fieldLink RX4 90 "CommitSitesModel" "abortQuorum" "I", Cond.methodLink RX4 83 yX4_all, Cond.instanceMethod yX4_all, Cond.selects RX4 yX4_all yX4_all, Cond.code yX4_all cX4_all 3 (some .int), Cond.methodLink RL 18 yX3_quorums, Cond.instanceMethod yX3_quorums, Cond.selects RX3 yX3_quorums yX3_quorums, Cond.code yX3_quorums cX3_quorums 4 (some .int), Cond.methodLink RL 22 yX4_quorums, Cond.instanceMethod yX4_quorums, Cond.selects RX4 yX4_quorums yX4_quorums, Cond.code yX4_quorums cX4_quorums 4 (some .int), Cond.methodLink RL 23 yX3_link, Cond.instanceMethod yX3_link, Cond.selects RX3 yX3_link yX3_link, Cond.code yX3_link cX3_link 4 (some .int), Cond.fieldLink RX3 60 "CommitSites$Network" "delays" "[[I", Cond.methodLink RX3 56 yX3_isLink]
def wsL_law_r6 : List Cond := [Cond.instanceMethod yX3_isLink, Cond.selects RX3 yX3_isLink yX3_isLink, Cond.code yX3_isLink cX3_isLink 3 (some .boolean), Cond.methodLink RX3 67 yX3_isSite, Cond.instanceMethod yX3_isSite, Cond.selects RX3 yX3_isSite yX3_isSite, Cond.code yX3_isSite cX3_isSite 2 (some .boolean), Cond.methodLink RL 27 yX4_link, Cond.instanceMethod yX4_link, Cond.selects RX4 yX4_link yX4_link, Cond.code yX4_link cX4_link 4 (some .int), Cond.methodLink RX4 93 yX4_isSite, Cond.instanceMethod yX4_isSite, Cond.selects RX4 yX4_isSite yX4_isSite, Cond.code yX4_isSite cX4_isSite 2 (some .boolean), Cond.methodLink RL 28 yX3_part, Cond.instanceMethod yX3_part, Cond.selects RX3 yX3_part yX3_part, Cond.code yX3_part cX3_part 7 (some .int), Cond.methodLink RX3 64 yX3_hasBit, Cond.static yX3_hasBit, Cond.code yX3_hasBit cX3_hasBit 2 (some .boolean), Cond.methodLink RL 31 yX4_part, Cond.instanceMethod yX4_part]
def wsL_law_r7 : List Cond := [Cond.selects RX4 yX4_part yX4_part, Cond.code yX4_part cX4_part 6 (some .int), Cond.methodLink RL 32 yX3_patience, Cond.instanceMethod yX3_patience, Cond.selects RX3 yX3_patience yX3_patience, Cond.code yX3_patience cX3_patience 2 (some .int), Cond.methodLink RL 35 yX4_patience, Cond.instanceMethod yX4_patience, Cond.selects RX4 yX4_patience yX4_patience, Cond.code yX4_patience cX4_patience 2 (some .int), Cond.methodLink RL 36 yX3_begin, Cond.instanceMethod yX3_begin, Cond.selects RX3 yX3_begin yX3_begin, Cond.code yX3_begin cX3_begin 3 (some .int), Cond.fieldLink RX3 71 "CommitSites$Site" "up" "Z", Cond.fieldLink RX3 74 "CommitSites" "yesVotes" "I", Cond.methodLink RX3 77 yX3_askVotes, Cond.instanceMethod yX3_askVotes, Cond.selects RX3 yX3_askVotes yX3_askVotes, Cond.code yX3_askVotes cX3_askVotes 3 none, Cond.fieldLink RX3 84 "CommitSites$Site" "does" "I", Cond.fieldLink RX3 219 "CommitSites$Site" "there" "I", Cond.fieldLink RX3 122 "CommitSites$Site" "attempt" "I", Cond.methodLink RX3 93 yX3_become]
def wsL_law_r8 : List Cond := [Cond.instanceMethod yX3_become, Cond.selects RX3 yX3_become yX3_become, Cond.code yX3_become cX3_become 3 none, Cond.fieldLink RX3 90 "CommitSites$Site" "state" "I", Cond.fieldLink RX3 104 "CommitSites$Network" "time" "I", Cond.fieldLink RX3 127 "CommitSites$Site" "since" "I", Cond.fieldLink RX3 87 "CommitSites$Site" "timer" "I", Cond.methodLink RX3 97 yX2_isDecided, Cond.instanceMethod yX2_isDecided, Cond.selects RX2 yX2_isDecided yX2_isDecided, Cond.code yX2_isDecided cX2_isDecided 1 (some .boolean), Cond.methodLink RX3 244 yX3_allBut, Cond.instanceMethod yX3_allBut, Cond.selects RX3 yX3_allBut yX3_allBut, Cond.code yX3_allBut cX3_allBut 2 (some .int), Cond.methodLink RX3 139 yX3_everyone, Cond.instanceMethod yX3_everyone, Cond.selects RX3 yX3_everyone yX3_everyone, Cond.code yX3_everyone cX3_everyone 1 (some .int), Cond.methodLink RX3 213 yX1_send, Cond.instanceMethod yX1_send, Cond.selects RX1 yX1_send yX1_send, Cond.code yX1_send cX1_send 8 none, Cond.fieldLink RX1 39 "CommitSites$Network" "sent" "I"]
def wsL_law_r9 : List Cond := [Cond.fieldLink RX1 45 "CommitSites$Network" "onWay" "I", Cond.fieldLink RX1 42 "CommitSites$Network" "lost" "I", Cond.fieldLink RX1 25 "CommitSites$Network" "spare" "LCommitSites$Message;", Cond.instantiable RX0 8, Cond.initialized RX0, Cond.fieldLink RX1 29 "CommitSites$Message" "next" "LCommitSites$Message;", Cond.fieldLink RX1 53 "CommitSites$Message" "kind" "I", Cond.fieldLink RX1 56 "CommitSites$Message" "from" "I", Cond.fieldLink RX1 59 "CommitSites$Message" "to" "I", Cond.fieldLink RX1 62 "CommitSites$Message" "attempt" "I", Cond.fieldLink RX1 65 "CommitSites$Message" "told" "I", Cond.instanceMethod yX0_init, Cond.code yX0_init cX0_init 1 none, Cond.methodLink RX0 1 objectInit, Cond.methodLink RX1 68 yX1_putOn, Cond.instanceMethod yX1_putOn, Cond.selects RX1 yX1_putOn yX1_putOn, Cond.code yX1_putOn cX1_putOn 3 none, Cond.fieldLink RX1 32 "CommitSites$Network" "time" "I", Cond.fieldLink RX1 72 "CommitSites$Message" "time" "I", Cond.fieldLink RX1 36 "CommitSites$Network" "order" "I", Cond.fieldLink RX1 73 "CommitSites$Message" "order" "I", Cond.methodLink RX3 216 yX3_setTimer, Cond.instanceMethod yX3_setTimer]
def wsL_law_r10 : List Cond := [Cond.selects RX3 yX3_setTimer yX3_setTimer, Cond.code yX3_setTimer cX3_setTimer 3 none, Cond.fieldLink RX3 250 "CommitSites$Site" "timerOrder" "I", Cond.methodLink RX3 247 yX1_nextOrder, Cond.instanceMethod yX1_nextOrder, Cond.selects RX1 yX1_nextOrder yX1_nextOrder, Cond.code yX1_nextOrder cX1_nextOrder 1 (some .int), Cond.methodLink RX3 222 yX3_lead, Cond.instanceMethod yX3_lead, Cond.selects RX3 yX3_lead yX3_lead, Cond.code yX3_lead cX3_lead 5 none, Cond.methodLink RX3 237 yX3_hasQuorum, Cond.instanceMethod yX3_hasQuorum, Cond.selects RX3 yX3_hasQuorum yX3_hasQuorum, Cond.code yX3_hasQuorum cX3_hasQuorum 4 (some .boolean), Cond.fieldLink RX3 124 "CommitSites$Site" "weight" "I", Cond.methodLink RX3 80 yX3_decide, Cond.instanceMethod yX3_decide, Cond.selects RX3 yX3_decide yX3_decide, Cond.code yX3_decide cX3_decide 4 none, Cond.methodLink RX3 231 yX3_tidingsOf, Cond.static yX3_tidingsOf, Cond.code yX3_tidingsOf cX3_tidingsOf 1 (some .int), Cond.methodLink RL 39 yX4_begin]
def wsL_law_r11 : List Cond := [Cond.instanceMethod yX4_begin, Cond.selects RX4 yX4_begin yX4_begin, Cond.code yX4_begin cX4_begin 4 (some .int), Cond.methodLink RX4 141 yX4_decide, Cond.instanceMethod yX4_decide, Cond.selects RX4 yX4_decide yX4_decide, Cond.code yX4_decide cX4_decide 3 none, Cond.methodLink RX4 116 yX4_become, Cond.instanceMethod yX4_become, Cond.selects RX4 yX4_become yX4_become, Cond.code yX4_become cX4_become 3 none, Cond.fieldLink RX4 106 "CommitSitesModel" "now" "I", Cond.methodLink RX4 120 yX4_sendAll, Cond.instanceMethod yX4_sendAll, Cond.selects RX4 yX4_sendAll yX4_sendAll, Cond.code yX4_sendAll cX4_sendAll 5 none, Cond.methodLink RX4 112 yX4_send, Cond.instanceMethod yX4_send, Cond.selects RX4 yX4_send yX4_send, Cond.code yX4_send cX4_send 7 none, Cond.fieldLink RX4 97 "CommitSitesModel" "sent" "I", Cond.fieldLink RX4 100 "CommitSitesModel" "lost" "I", Cond.fieldLink RX4 103 "CommitSitesModel" "messages" "I", Cond.fieldLink RX4 109 "CommitSitesModel" "numbers" "I"]
def wsL_law_r12 : List Cond := [Cond.methodLink RX4 127 yX4_clearThere, Cond.instanceMethod yX4_clearThere, Cond.selects RX4 yX4_clearThere yX4_clearThere, Cond.code yX4_clearThere cX4_clearThere 4 none, Cond.methodLink RX4 130 yX4_setTimer, Cond.instanceMethod yX4_setTimer, Cond.selects RX4 yX4_setTimer yX4_setTimer, Cond.code yX4_setTimer cX4_setTimer 3 none, Cond.methodLink RX4 144 yX4_checkVotes, Cond.instanceMethod yX4_checkVotes, Cond.selects RX4 yX4_checkVotes yX4_checkVotes, Cond.code yX4_checkVotes cX4_checkVotes 4 none, Cond.methodLink RX4 124 yX4_lead, Cond.instanceMethod yX4_lead, Cond.selects RX4 yX4_lead yX4_lead, Cond.code yX4_lead cX4_lead 3 none, Cond.methodLink RX4 133 yX4_checkQuorum, Cond.instanceMethod yX4_checkQuorum, Cond.selects RX4 yX4_checkQuorum yX4_checkQuorum, Cond.code yX4_checkQuorum cX4_checkQuorum 3 none, Cond.methodLink RX4 137 yX4_weightThere, Cond.instanceMethod yX4_weightThere, Cond.selects RX4 yX4_weightThere yX4_weightThere, Cond.code yX4_weightThere cX4_weightThere 4 (some .int)]
def wsL_law_r13 : List Cond := [Cond.methodLink RL 40 yX3_crash, Cond.instanceMethod yX3_crash, Cond.selects RX3 yX3_crash yX3_crash, Cond.code yX3_crash cX3_crash 3 (some .int), Cond.methodLink RL 43 yX4_crash, Cond.instanceMethod yX4_crash, Cond.selects RX4 yX4_crash yX4_crash, Cond.code yX4_crash cX4_crash 2 (some .int), Cond.methodLink RL 44 yX3_recover, Cond.instanceMethod yX3_recover, Cond.selects RX3 yX3_recover yX3_recover, Cond.code yX3_recover cX3_recover 3 (some .int), Cond.methodLink RX3 101 yX3_attempt, Cond.instanceMethod yX3_attempt, Cond.selects RX3 yX3_attempt yX3_attempt, Cond.code yX3_attempt cX3_attempt 3 none, Cond.fieldLink RX3 228 "CommitSites$Site" "stateOf" "[I", Cond.methodLink RL 47 yX4_recover, Cond.instanceMethod yX4_recover, Cond.selects RX4 yX4_recover yX4_recover, Cond.code yX4_recover cX4_recover 2 (some .int), Cond.methodLink RX4 147 yX4_isDecided, Cond.instanceMethod yX4_isDecided, Cond.selects RX4 yX4_isDecided yX4_isDecided]
def wsL_law_r14 : List Cond := [Cond.code yX4_isDecided cX4_isDecided 2 (some .boolean), Cond.methodLink RX4 150 yX4_attempt, Cond.instanceMethod yX4_attempt, Cond.selects RX4 yX4_attempt yX4_attempt, Cond.code yX4_attempt cX4_attempt 2 none, Cond.methodLink RL 48 yX3_run, Cond.instanceMethod yX3_run, Cond.selects RX3 yX3_run yX3_run, Cond.code yX3_run cX3_run 6 (some .int), Cond.constant RX3 107 (1000000), Cond.methodLink RX3 108 yX3_takeNext, Cond.instanceMethod yX3_takeNext, Cond.selects RX3 yX3_takeNext yX3_takeNext, Cond.code yX3_takeNext cX3_takeNext 5 (some .int), Cond.fieldLink RX3 115 "CommitSites" "timersRunOut" "I", Cond.fieldLink RX3 157 "CommitSites$Message" "time" "I", Cond.fieldLink RX3 164 "CommitSites$Message" "to" "I", Cond.fieldLink RX3 112 "CommitSites" "messagesCome" "I", Cond.fieldLink RX3 167 "CommitSites$Message" "kind" "I", Cond.fieldLink RX3 170 "CommitSites$Message" "from" "I", Cond.fieldLink RX3 173 "CommitSites$Message" "attempt" "I", Cond.fieldLink RX3 174 "CommitSites$Message" "told" "I", Cond.fieldLink RX3 133 "CommitSites$Network" "lost" "I", Cond.methodLink RX3 143 yX1_first]
def wsL_law_r15 : List Cond := [Cond.instanceMethod yX1_first, Cond.selects RX1 yX1_first yX1_first, Cond.code yX1_first cX1_first 2 (some (.object "CommitSites$Message")), Cond.methodLink RX3 147 yX3_firstTimer, Cond.instanceMethod yX3_firstTimer, Cond.selects RX3 yX3_firstTimer yX3_firstTimer, Cond.code yX3_firstTimer cX3_firstTimer 3 (some .int), Cond.methodLink RX3 183 yX2_runsOutEarlier, Cond.instanceMethod yX2_runsOutEarlier, Cond.selects RX2 yX2_runsOutEarlier yX2_runsOutEarlier, Cond.code yX2_runsOutEarlier cX2_runsOutEarlier 2 (some .boolean), Cond.methodLink RX3 150 yX2_runsOutBefore, Cond.instanceMethod yX2_runsOutBefore, Cond.selects RX2 yX2_runsOutBefore yX2_runsOutBefore, Cond.code yX2_runsOutBefore cX2_runsOutBefore 2 (some .boolean), Cond.fieldLink RX2 47 "CommitSites$Message" "time" "I", Cond.fieldLink RX2 52 "CommitSites$Message" "order" "I", Cond.methodLink RX3 154 yX3_runOut, Cond.instanceMethod yX3_runOut, Cond.selects RX3 yX3_runOut yX3_runOut, Cond.code yX3_runOut cX3_runOut 3 none, Cond.methodLink RX3 240 yX3_toldWeight, Cond.instanceMethod yX3_toldWeight, Cond.selects RX3 yX3_toldWeight yX3_toldWeight]
def wsL_law_r16 : List Cond := [Cond.code yX3_toldWeight cX3_toldWeight 5 (some .int), Cond.methodLink RX3 160 yX1_takeOff, Cond.instanceMethod yX1_takeOff, Cond.selects RX1 yX1_takeOff yX1_takeOff, Cond.code yX1_takeOff cX1_takeOff 3 none, Cond.methodLink RX3 177 yX3_receive, Cond.instanceMethod yX3_receive, Cond.selects RX3 yX3_receive yX3_receive, Cond.code yX3_receive cX3_receive 2 none, Cond.methodLink RX3 187 yX3_onAskVote, Cond.instanceMethod yX3_onAskVote, Cond.selects RX3 yX3_onAskVote yX3_onAskVote, Cond.code yX3_onAskVote cX3_onAskVote 4 none, Cond.methodLink RX3 190 yX3_onYes, Cond.instanceMethod yX3_onYes, Cond.selects RX3 yX3_onYes yX3_onYes, Cond.code yX3_onYes cX3_onYes 4 none, Cond.methodLink RX3 193 yX3_onNo, Cond.instanceMethod yX3_onNo, Cond.selects RX3 yX3_onNo yX3_onNo, Cond.code yX3_onNo cX3_onNo 2 none, Cond.methodLink RX3 196 yX3_onAskState, Cond.instanceMethod yX3_onAskState, Cond.selects RX3 yX3_onAskState yX3_onAskState]
def wsL_law_r17 : List Cond := [Cond.code yX3_onAskState cX3_onAskState 5 none, Cond.methodLink RX3 225 yX3_yieldTo, Cond.instanceMethod yX3_yieldTo, Cond.selects RX3 yX3_yieldTo yX3_yieldTo, Cond.code yX3_yieldTo cX3_yieldTo 5 none, Cond.methodLink RX3 200 yX3_onState, Cond.instanceMethod yX3_onState, Cond.selects RX3 yX3_onState yX3_onState, Cond.code yX3_onState cX3_onState 6 none, Cond.methodLink RX3 204 yX3_onAskReady, Cond.instanceMethod yX3_onAskReady, Cond.selects RX3 yX3_onAskReady yX3_onAskReady, Cond.code yX3_onAskReady cX3_onAskReady 6 none, Cond.methodLink RX3 207 yX3_onAcknowledge, Cond.instanceMethod yX3_onAcknowledge, Cond.selects RX3 yX3_onAcknowledge yX3_onAcknowledge, Cond.code yX3_onAcknowledge cX3_onAcknowledge 5 none, Cond.methodLink RX3 234 yX2_collectsAcks, Cond.instanceMethod yX2_collectsAcks, Cond.selects RX2 yX2_collectsAcks yX2_collectsAcks, Cond.code yX2_collectsAcks cX2_collectsAcks 1 (some .boolean), Cond.methodLink RX3 210 yX3_onDecision, Cond.instanceMethod yX3_onDecision, Cond.selects RX3 yX3_onDecision yX3_onDecision]
def wsL_law_r18 : List Cond := [Cond.code yX3_onDecision cX3_onDecision 4 none, Cond.methodLink RX3 180 yX1_keepSpare, Cond.instanceMethod yX1_keepSpare, Cond.selects RX1 yX1_keepSpare yX1_keepSpare, Cond.code yX1_keepSpare cX1_keepSpare 2 none, Cond.methodLink RL 51 yX4_run, Cond.instanceMethod yX4_run, Cond.selects RX4 yX4_run yX4_run, Cond.code yX4_run cX4_run 4 (some .int), Cond.fieldLink RX4 164 "CommitSitesModel" "nextWhat" "I", Cond.fieldLink RX4 167 "CommitSitesModel" "nextTime" "I", Cond.methodLink RX4 185 yX4_findNext, Cond.instanceMethod yX4_findNext, Cond.selects RX4 yX4_findNext yX4_findNext, Cond.code yX4_findNext cX4_findNext 4 none, Cond.methodLink RX4 188 yX4_take, Cond.instanceMethod yX4_take, Cond.selects RX4 yX4_take yX4_take, Cond.code yX4_take cX4_take 7 (some .boolean), Cond.fieldLink RX4 170 "CommitSitesModel" "rang" "I", Cond.fieldLink RX4 179 "CommitSitesModel" "come" "I", Cond.methodLink RX4 173 yX4_tell, Cond.instanceMethod yX4_tell, Cond.selects RX4 yX4_tell yX4_tell]
def wsL_law_r19 : List Cond := [Cond.code yX4_tell cX4_tell 6 none, Cond.methodLink RX4 176 yX4_ring, Cond.instanceMethod yX4_ring, Cond.selects RX4 yX4_ring yX4_ring, Cond.code yX4_ring cX4_ring 4 none, Cond.methodLink RX4 160 yX4_weightOf, Cond.instanceMethod yX4_weightOf, Cond.selects RX4 yX4_weightOf yX4_weightOf, Cond.code yX4_weightOf cX4_weightOf 6 (some .int), Cond.methodLink RX4 182 yX4_handle, Cond.instanceMethod yX4_handle, Cond.selects RX4 yX4_handle yX4_handle, Cond.code yX4_handle cX4_handle 6 none, Cond.methodLink RX4 153 yX4_yieldTo, Cond.instanceMethod yX4_yieldTo, Cond.selects RX4 yX4_yieldTo yX4_yieldTo, Cond.code yX4_yieldTo cX4_yieldTo 4 none, Cond.methodLink RX4 156 yX4_prepare, Cond.instanceMethod yX4_prepare, Cond.selects RX4 yX4_prepare yX4_prepare, Cond.code yX4_prepare cX4_prepare 5 none, Cond.methodLink RL 52 yX3_step, Cond.instanceMethod yX3_step, Cond.selects RX3 yX3_step yX3_step]
def wsL_law_r20 : List Cond := [Cond.code yX3_step cX3_step 3 (some .int), Cond.methodLink RL 56 yX4_step, Cond.instanceMethod yX4_step, Cond.selects RX4 yX4_step yX4_step, Cond.code yX4_step cX4_step 1 (some .int), Cond.methodLink RL 57 yX3_reset, Cond.instanceMethod yX3_reset, Cond.selects RX3 yX3_reset yX3_reset, Cond.code yX3_reset cX3_reset 2 (some .int), Cond.methodLink RX3 118 yX1_startAnew, Cond.instanceMethod yX1_startAnew, Cond.selects RX1 yX1_startAnew yX1_startAnew, Cond.code yX1_startAnew cX1_startAnew 2 none, Cond.methodLink RX3 121 yX2_startAnew, Cond.methodLink RL 60 yX4_reset, Cond.instanceMethod yX4_reset, Cond.selects RX4 yX4_reset yX4_reset, Cond.code yX4_reset cX4_reset 2 (some .int), Cond.methodLink RL 61 yX3_of, Cond.instanceMethod yX3_of, Cond.selects RX3 yX3_of yX3_of, Cond.code yX3_of cX3_of 4 (some .int), Cond.methodLink RL 64 yX4_of, Cond.instanceMethod yX4_of]
def wsL_law_r21 : List Cond := [Cond.selects RX4 yX4_of yX4_of, Cond.code yX4_of cX4_of 3 (some .int), Cond.methodLink RL 65 yX3_count, Cond.instanceMethod yX3_count, Cond.selects RX3 yX3_count yX3_count, Cond.code yX3_count cX3_count 2 (some .int), Cond.fieldLink RX3 130 "CommitSites$Network" "sent" "I", Cond.fieldLink RX3 136 "CommitSites$Network" "onWay" "I", Cond.methodLink RL 68 yX4_count, Cond.instanceMethod yX4_count, Cond.selects RX4 yX4_count yX4_count, Cond.code yX4_count cX4_count 2 (some .int), Cond.methodLink RL 69 yX3_delay, Cond.instanceMethod yX3_delay, Cond.selects RX3 yX3_delay yX3_delay, Cond.code yX3_delay cX3_delay 3 (some .int), Cond.methodLink RL 72 yX4_delay, Cond.instanceMethod yX4_delay, Cond.selects RX4 yX4_delay yX4_delay, Cond.code yX4_delay cX4_delay 3 (some .int), Cond.methodLink RL 73 yX3_weight, Cond.instanceMethod yX3_weight, Cond.selects RX3 yX3_weight yX3_weight, Cond.code yX3_weight cX3_weight 4 (some .int)]
def wsL_law_r22 : List Cond := [Cond.methodLink RL 76 yX4_weight, Cond.instanceMethod yX4_weight, Cond.selects RX4 yX4_weight yX4_weight, Cond.code yX4_weight cX4_weight 4 (some .int), Cond.methodLink RL 77 yX3_latest, Cond.instanceMethod yX3_latest, Cond.selects RX3 yX3_latest yX3_latest, Cond.code yX3_latest cX3_latest 2 (some .int), Cond.methodLink RL 80 yX4_latest, Cond.instanceMethod yX4_latest, Cond.selects RX4 yX4_latest yX4_latest, Cond.code yX4_latest cX4_latest 2 (some .int), Cond.methodLink RL 81 yX3_check, Cond.instanceMethod yX3_check, Cond.selects RX3 yX3_check yX3_check, Cond.code yX3_check cX3_check 5 (some .int), Cond.methodLink RL 84 yX4_check, Cond.instanceMethod yX4_check, Cond.selects RX4 yX4_check yX4_check, Cond.code yX4_check cX4_check 1 (some .int)]
def wsL_law : List Cond := (wsL_law_r1 ++ (wsL_law_r2 ++ (wsL_law_r3 ++ (wsL_law_r4 ++ (wsL_law_r5 ++ (wsL_law_r6 ++ (wsL_law_r7 ++ (wsL_law_r8 ++ (wsL_law_r9 ++ (wsL_law_r10 ++ (wsL_law_r11 ++ (wsL_law_r12 ++ (wsL_law_r13 ++ (wsL_law_r14 ++ (wsL_law_r15 ++ (wsL_law_r16 ++ (wsL_law_r17 ++ (wsL_law_r18 ++ (wsL_law_r19 ++ (wsL_law_r20 ++ (wsL_law_r21 ++ wsL_law_r22))))))))))))))))))))) ++ wsX30 ++ wsX40 ++ wsX10 ++ wsX20 ++ wsX00 ++ ([] : List Cond)
set_option maxRecDepth 20000 in
theorem goodIn_lw : GoodIn lw_tbl wsL_law := goodIn_p wsL_law [59, 62, 69, 112, 116, 467, 157, 161, 166, 577, 581, 211, 585, 215, 219, 223, 589, 593, 227, 230, 597, 234, 601, 238, 242, 246, 250, 254, 258, 262, 267, 305, 309, 313, 317, 321, 325, 328, 605, 609, 613, 617, 621, 625, 629, 633, 637, 641, 645, 332, 649, 336, 340, 653, 657, 661, 344, 349, 353, 357, 361, 365, 369, 373, 377, 381, 385, 389, 393, 397, 401, 405, 409, 413, 417, 421, 425, 665, 669, 673, 677, 681, 685, 689, 693, 697, 429, 701, 433, 437, 705, 442, 709, 446, 713, 450, 717, 454, 721, 458, 725, 462, 729] (by decide +kernel) (by decide +kernel)
theorem wsL_law_in : ∀ w ∈ wsL_law, w ∈ lw_tbl := fun w h => (goodIn_lw w h).1
theorem inlX0 : ∀ w ∈ wsX00, w ∈ wsL_law := fun _ h => List.mem_append_left _ (List.mem_append_right _ h)
theorem inX0 : ∀ w ∈ wsX00, w ∈ lw_tbl := fun w h => wsL_law_in w (inlX0 w h)
theorem inlX1 : ∀ w ∈ wsX10, w ∈ wsL_law := fun _ h => List.mem_append_left _ (List.mem_append_left _ (List.mem_append_left _ (List.mem_append_right _ h)))
theorem inX1 : ∀ w ∈ wsX10, w ∈ lw_tbl := fun w h => wsL_law_in w (inlX1 w h)
theorem inlX2 : ∀ w ∈ wsX20, w ∈ wsL_law := fun _ h => List.mem_append_left _ (List.mem_append_left _ (List.mem_append_right _ h))
theorem inX2 : ∀ w ∈ wsX20, w ∈ lw_tbl := fun w h => wsL_law_in w (inlX2 w h)
theorem inlX3 : ∀ w ∈ wsX30, w ∈ wsL_law := fun _ h => List.mem_append_left _ (List.mem_append_left _ (List.mem_append_left _ (List.mem_append_left _ (List.mem_append_left _ (List.mem_append_right _ h)))))
theorem inX3 : ∀ w ∈ wsX30, w ∈ lw_tbl := fun w h => wsL_law_in w (inlX3 w h)
theorem inlX4 : ∀ w ∈ wsX40, w ∈ wsL_law := fun _ h => List.mem_append_left _ (List.mem_append_left _ (List.mem_append_left _ (List.mem_append_left _ (List.mem_append_right _ h))))
theorem inX4 : ∀ w ∈ wsX40, w ∈ lw_tbl := fun w h => wsL_law_in w (inlX4 w h)
abbrev vwCl : List vw_C := [(RX0, TX0, 8), (RX1, TX1, 9), (RX2, TX2, 10), (RX3, TX3, 12), (RX4, TX4, 34)]
/-- the objects of CommitSites$Message, kind 0: what each holds, by its address -/
end
section
theorem iw_wsL_law_r1 : ∀ w ∈ wsL_law_r1, w ∈ wsL_law := fun _ h => (List.mem_append_left _ (List.mem_append_left _ (List.mem_append_left _ (List.mem_append_left _ (List.mem_append_left _ (List.mem_append_left _ (List.mem_append_left _ h)))))))
theorem iw_wsL_law_r2 : ∀ w ∈ wsL_law_r2, w ∈ wsL_law := fun _ h => (List.mem_append_left _ (List.mem_append_left _ (List.mem_append_left _ (List.mem_append_left _ (List.mem_append_left _ (List.mem_append_left _ (List.mem_append_right _ (List.mem_append_left _ h))))))))
theorem iw_wsL_law_r3 : ∀ w ∈ wsL_law_r3, w ∈ wsL_law := fun _ h => (List.mem_append_left _ (List.mem_append_left _ (List.mem_append_left _ (List.mem_append_left _ (List.mem_append_left _ (List.mem_append_left _ (List.mem_append_right _ (List.mem_append_right _ (List.mem_append_left _ h)))))))))
theorem iw_wsL_law_r4 : ∀ w ∈ wsL_law_r4, w ∈ wsL_law := fun _ h => (List.mem_append_left _ (List.mem_append_left _ (List.mem_append_left _ (List.mem_append_left _ (List.mem_append_left _ (List.mem_append_left _ (List.mem_append_right _ (List.mem_append_right _ (List.mem_append_right _ (List.mem_append_left _ h))))))))))
theorem iw_wsL_law_r5 : ∀ w ∈ wsL_law_r5, w ∈ wsL_law := fun _ h => (List.mem_append_left _ (List.mem_append_left _ (List.mem_append_left _ (List.mem_append_left _ (List.mem_append_left _ (List.mem_append_left _ (List.mem_append_right _ (List.mem_append_right _ (List.mem_append_right _ (List.mem_append_right _ (List.mem_append_left _ h)))))))))))
theorem iw_wsL_law_r6 : ∀ w ∈ wsL_law_r6, w ∈ wsL_law := fun _ h => (List.mem_append_left _ (List.mem_append_left _ (List.mem_append_left _ (List.mem_append_left _ (List.mem_append_left _ (List.mem_append_left _ (List.mem_append_right _ (List.mem_append_right _ (List.mem_append_right _ (List.mem_append_right _ (List.mem_append_right _ (List.mem_append_left _ h))))))))))))
theorem iw_wsL_law_r7 : ∀ w ∈ wsL_law_r7, w ∈ wsL_law := fun _ h => (List.mem_append_left _ (List.mem_append_left _ (List.mem_append_left _ (List.mem_append_left _ (List.mem_append_left _ (List.mem_append_left _ (List.mem_append_right _ (List.mem_append_right _ (List.mem_append_right _ (List.mem_append_right _ (List.mem_append_right _ (List.mem_append_right _ (List.mem_append_left _ h)))))))))))))
theorem iw_wsL_law_r8 : ∀ w ∈ wsL_law_r8, w ∈ wsL_law := fun _ h => (List.mem_append_left _ (List.mem_append_left _ (List.mem_append_left _ (List.mem_append_left _ (List.mem_append_left _ (List.mem_append_left _ (List.mem_append_right _ (List.mem_append_right _ (List.mem_append_right _ (List.mem_append_right _ (List.mem_append_right _ (List.mem_append_right _ (List.mem_append_right _ (List.mem_append_left _ h))))))))))))))
theorem iw_wsL_law_r9 : ∀ w ∈ wsL_law_r9, w ∈ wsL_law := fun _ h => (List.mem_append_left _ (List.mem_append_left _ (List.mem_append_left _ (List.mem_append_left _ (List.mem_append_left _ (List.mem_append_left _ (List.mem_append_right _ (List.mem_append_right _ (List.mem_append_right _ (List.mem_append_right _ (List.mem_append_right _ (List.mem_append_right _ (List.mem_append_right _ (List.mem_append_right _ (List.mem_append_left _ h)))))))))))))))
theorem iw_wsL_law_r10 : ∀ w ∈ wsL_law_r10, w ∈ wsL_law := fun _ h => (List.mem_append_left _ (List.mem_append_left _ (List.mem_append_left _ (List.mem_append_left _ (List.mem_append_left _ (List.mem_append_left _ (List.mem_append_right _ (List.mem_append_right _ (List.mem_append_right _ (List.mem_append_right _ (List.mem_append_right _ (List.mem_append_right _ (List.mem_append_right _ (List.mem_append_right _ (List.mem_append_right _ (List.mem_append_left _ h))))))))))))))))
theorem iw_wsL_law_r11 : ∀ w ∈ wsL_law_r11, w ∈ wsL_law := fun _ h => (List.mem_append_left _ (List.mem_append_left _ (List.mem_append_left _ (List.mem_append_left _ (List.mem_append_left _ (List.mem_append_left _ (List.mem_append_right _ (List.mem_append_right _ (List.mem_append_right _ (List.mem_append_right _ (List.mem_append_right _ (List.mem_append_right _ (List.mem_append_right _ (List.mem_append_right _ (List.mem_append_right _ (List.mem_append_right _ (List.mem_append_left _ h)))))))))))))))))
theorem iw_wsL_law_r12 : ∀ w ∈ wsL_law_r12, w ∈ wsL_law := fun _ h => (List.mem_append_left _ (List.mem_append_left _ (List.mem_append_left _ (List.mem_append_left _ (List.mem_append_left _ (List.mem_append_left _ (List.mem_append_right _ (List.mem_append_right _ (List.mem_append_right _ (List.mem_append_right _ (List.mem_append_right _ (List.mem_append_right _ (List.mem_append_right _ (List.mem_append_right _ (List.mem_append_right _ (List.mem_append_right _ (List.mem_append_right _ (List.mem_append_left _ h))))))))))))))))))
theorem iw_wsL_law_r13 : ∀ w ∈ wsL_law_r13, w ∈ wsL_law := fun _ h => (List.mem_append_left _ (List.mem_append_left _ (List.mem_append_left _ (List.mem_append_left _ (List.mem_append_left _ (List.mem_append_left _ (List.mem_append_right _ (List.mem_append_right _ (List.mem_append_right _ (List.mem_append_right _ (List.mem_append_right _ (List.mem_append_right _ (List.mem_append_right _ (List.mem_append_right _ (List.mem_append_right _ (List.mem_append_right _ (List.mem_append_right _ (List.mem_append_right _ (List.mem_append_left _ h)))))))))))))))))))
theorem iw_wsL_law_r14 : ∀ w ∈ wsL_law_r14, w ∈ wsL_law := fun _ h => (List.mem_append_left _ (List.mem_append_left _ (List.mem_append_left _ (List.mem_append_left _ (List.mem_append_left _ (List.mem_append_left _ (List.mem_append_right _ (List.mem_append_right _ (List.mem_append_right _ (List.mem_append_right _ (List.mem_append_right _ (List.mem_append_right _ (List.mem_append_right _ (List.mem_append_right _ (List.mem_append_right _ (List.mem_append_right _ (List.mem_append_right _ (List.mem_append_right _ (List.mem_append_right _ (List.mem_append_left _ h))))))))))))))))))))
theorem iw_wsL_law_r15 : ∀ w ∈ wsL_law_r15, w ∈ wsL_law := fun _ h => (List.mem_append_left _ (List.mem_append_left _ (List.mem_append_left _ (List.mem_append_left _ (List.mem_append_left _ (List.mem_append_left _ (List.mem_append_right _ (List.mem_append_right _ (List.mem_append_right _ (List.mem_append_right _ (List.mem_append_right _ (List.mem_append_right _ (List.mem_append_right _ (List.mem_append_right _ (List.mem_append_right _ (List.mem_append_right _ (List.mem_append_right _ (List.mem_append_right _ (List.mem_append_right _ (List.mem_append_right _ (List.mem_append_left _ h)))))))))))))))))))))
theorem iw_wsL_law_r16 : ∀ w ∈ wsL_law_r16, w ∈ wsL_law := fun _ h => (List.mem_append_left _ (List.mem_append_left _ (List.mem_append_left _ (List.mem_append_left _ (List.mem_append_left _ (List.mem_append_left _ (List.mem_append_right _ (List.mem_append_right _ (List.mem_append_right _ (List.mem_append_right _ (List.mem_append_right _ (List.mem_append_right _ (List.mem_append_right _ (List.mem_append_right _ (List.mem_append_right _ (List.mem_append_right _ (List.mem_append_right _ (List.mem_append_right _ (List.mem_append_right _ (List.mem_append_right _ (List.mem_append_right _ (List.mem_append_left _ h))))))))))))))))))))))
theorem iw_wsL_law_r17 : ∀ w ∈ wsL_law_r17, w ∈ wsL_law := fun _ h => (List.mem_append_left _ (List.mem_append_left _ (List.mem_append_left _ (List.mem_append_left _ (List.mem_append_left _ (List.mem_append_left _ (List.mem_append_right _ (List.mem_append_right _ (List.mem_append_right _ (List.mem_append_right _ (List.mem_append_right _ (List.mem_append_right _ (List.mem_append_right _ (List.mem_append_right _ (List.mem_append_right _ (List.mem_append_right _ (List.mem_append_right _ (List.mem_append_right _ (List.mem_append_right _ (List.mem_append_right _ (List.mem_append_right _ (List.mem_append_right _ (List.mem_append_left _ h)))))))))))))))))))))))
theorem iw_wsL_law_r18 : ∀ w ∈ wsL_law_r18, w ∈ wsL_law := fun _ h => (List.mem_append_left _ (List.mem_append_left _ (List.mem_append_left _ (List.mem_append_left _ (List.mem_append_left _ (List.mem_append_left _ (List.mem_append_right _ (List.mem_append_right _ (List.mem_append_right _ (List.mem_append_right _ (List.mem_append_right _ (List.mem_append_right _ (List.mem_append_right _ (List.mem_append_right _ (List.mem_append_right _ (List.mem_append_right _ (List.mem_append_right _ (List.mem_append_right _ (List.mem_append_right _ (List.mem_append_right _ (List.mem_append_right _ (List.mem_append_right _ (List.mem_append_right _ (List.mem_append_left _ h))))))))))))))))))))))))
theorem iw_wsL_law_r19 : ∀ w ∈ wsL_law_r19, w ∈ wsL_law := fun _ h => (List.mem_append_left _ (List.mem_append_left _ (List.mem_append_left _ (List.mem_append_left _ (List.mem_append_left _ (List.mem_append_left _ (List.mem_append_right _ (List.mem_append_right _ (List.mem_append_right _ (List.mem_append_right _ (List.mem_append_right _ (List.mem_append_right _ (List.mem_append_right _ (List.mem_append_right _ (List.mem_append_right _ (List.mem_append_right _ (List.mem_append_right _ (List.mem_append_right _ (List.mem_append_right _ (List.mem_append_right _ (List.mem_append_right _ (List.mem_append_right _ (List.mem_append_right _ (List.mem_append_right _ (List.mem_append_left _ h)))))))))))))))))))))))))
theorem iw_wsL_law_r20 : ∀ w ∈ wsL_law_r20, w ∈ wsL_law := fun _ h => (List.mem_append_left _ (List.mem_append_left _ (List.mem_append_left _ (List.mem_append_left _ (List.mem_append_left _ (List.mem_append_left _ (List.mem_append_right _ (List.mem_append_right _ (List.mem_append_right _ (List.mem_append_right _ (List.mem_append_right _ (List.mem_append_right _ (List.mem_append_right _ (List.mem_append_right _ (List.mem_append_right _ (List.mem_append_right _ (List.mem_append_right _ (List.mem_append_right _ (List.mem_append_right _ (List.mem_append_right _ (List.mem_append_right _ (List.mem_append_right _ (List.mem_append_right _ (List.mem_append_right _ (List.mem_append_right _ (List.mem_append_left _ h))))))))))))))))))))))))))
theorem iw_wsL_law_r21 : ∀ w ∈ wsL_law_r21, w ∈ wsL_law := fun _ h => (List.mem_append_left _ (List.mem_append_left _ (List.mem_append_left _ (List.mem_append_left _ (List.mem_append_left _ (List.mem_append_left _ (List.mem_append_right _ (List.mem_append_right _ (List.mem_append_right _ (List.mem_append_right _ (List.mem_append_right _ (List.mem_append_right _ (List.mem_append_right _ (List.mem_append_right _ (List.mem_append_right _ (List.mem_append_right _ (List.mem_append_right _ (List.mem_append_right _ (List.mem_append_right _ (List.mem_append_right _ (List.mem_append_right _ (List.mem_append_right _ (List.mem_append_right _ (List.mem_append_right _ (List.mem_append_right _ (List.mem_append_right _ (List.mem_append_left _ h)))))))))))))))))))))))))))
theorem iw_wsL_law_r22 : ∀ w ∈ wsL_law_r22, w ∈ wsL_law := fun _ h => (List.mem_append_left _ (List.mem_append_left _ (List.mem_append_left _ (List.mem_append_left _ (List.mem_append_left _ (List.mem_append_left _ (List.mem_append_right _ (List.mem_append_right _ (List.mem_append_right _ (List.mem_append_right _ (List.mem_append_right _ (List.mem_append_right _ (List.mem_append_right _ (List.mem_append_right _ (List.mem_append_right _ (List.mem_append_right _ (List.mem_append_right _ (List.mem_append_right _ (List.mem_append_right _ (List.mem_append_right _ (List.mem_append_right _ (List.mem_append_right _ (List.mem_append_right _ (List.mem_append_right _ (List.mem_append_right _ (List.mem_append_right _ (List.mem_append_right _ h)))))))))))))))))))))))))))
theorem iw_wsX30 : ∀ w ∈ wsX30, w ∈ wsL_law := fun _ h => (List.mem_append_left _ (List.mem_append_left _ (List.mem_append_left _ (List.mem_append_left _ (List.mem_append_left _ (List.mem_append_right _ h))))))
theorem iw_wsX40 : ∀ w ∈ wsX40, w ∈ wsL_law := fun _ h => (List.mem_append_left _ (List.mem_append_left _ (List.mem_append_left _ (List.mem_append_left _ (List.mem_append_right _ h)))))
theorem iw_wsX10 : ∀ w ∈ wsX10, w ∈ wsL_law := fun _ h => (List.mem_append_left _ (List.mem_append_left _ (List.mem_append_left _ (List.mem_append_right _ h))))
theorem iw_wsX20 : ∀ w ∈ wsX20, w ∈ wsL_law := fun _ h => (List.mem_append_left _ (List.mem_append_left _ (List.mem_append_right _ h)))
theorem iw_wsX00 : ∀ w ∈ wsX00, w ∈ wsL_law := fun _ h => (List.mem_append_left _ (List.mem_append_right _ h))
theorem ww_0 : (Cond.classLink RL 7 RX3) ∈ wsL_law := iw_wsL_law_r1 _ (List.mem_of_getElem? (i := 0) rfl)
theorem ww_1 : (Cond.instantiable RX3 12) ∈ wsL_law := iw_wsL_law_r1 _ (List.mem_of_getElem? (i := 1) rfl)
theorem ww_2 : (Cond.initialized RX3) ∈ wsL_law := iw_wsL_law_r1 _ (List.mem_of_getElem? (i := 2) rfl)
theorem ww_3 : (Cond.classLink RL 10 RX4) ∈ wsL_law := iw_wsL_law_r1 _ (List.mem_of_getElem? (i := 3) rfl)
theorem ww_4 : (Cond.instantiable RX4 34) ∈ wsL_law := iw_wsL_law_r1 _ (List.mem_of_getElem? (i := 4) rfl)
theorem ww_5 : (Cond.initialized RX4) ∈ wsL_law := iw_wsL_law_r1 _ (List.mem_of_getElem? (i := 5) rfl)
theorem ww_6 : (Cond.methodLink RL 9 yX3_init) ∈ wsL_law := iw_wsL_law_r1 _ (List.mem_of_getElem? (i := 6) rfl)
theorem ww_7 : (Cond.instanceMethod yX3_init) ∈ wsL_law := iw_wsL_law_r1 _ (List.mem_of_getElem? (i := 7) rfl)
theorem ww_8 : (Cond.code yX3_init cX3_init 1 none) ∈ wsL_law := iw_wsL_law_r1 _ (List.mem_of_getElem? (i := 8) rfl)
theorem ww_9 : (Cond.methodLink RX3 1 objectInit) ∈ wsL_law := iw_wsL_law_r1 _ (List.mem_of_getElem? (i := 9) rfl)
theorem ww_10 : (Cond.instanceMethod objectInit) ∈ wsL_law := iw_wsL_law_r1 _ (List.mem_of_getElem? (i := 10) rfl)
theorem ww_11 : (Cond.code objectInit ⟨#[0xb1]⟩ 1 none) ∈ wsL_law := iw_wsL_law_r1 _ (List.mem_of_getElem? (i := 11) rfl)
theorem ww_12 : (Cond.classLink RX3 9 RX2) ∈ wsL_law := iw_wsL_law_r1 _ (List.mem_of_getElem? (i := 12) rfl)
theorem ww_13 : (Cond.fieldLink RX3 11 "CommitSites" "sites" "[LCommitSites$Site;") ∈ wsL_law := iw_wsL_law_r1 _ (List.mem_of_getElem? (i := 13) rfl)
theorem ww_14 : (Cond.classLink RX3 15 RX1) ∈ wsL_law := iw_wsL_law_r1 _ (List.mem_of_getElem? (i := 14) rfl)
theorem ww_15 : (Cond.instantiable RX1 9) ∈ wsL_law := iw_wsL_law_r1 _ (List.mem_of_getElem? (i := 15) rfl)
theorem ww_16 : (Cond.initialized RX1) ∈ wsL_law := iw_wsL_law_r1 _ (List.mem_of_getElem? (i := 16) rfl)
theorem ww_17 : (Cond.fieldLink RX3 18 "CommitSites" "network" "LCommitSites$Network;") ∈ wsL_law := iw_wsL_law_r1 _ (List.mem_of_getElem? (i := 17) rfl)
theorem ww_18 : (Cond.arrayClass .int) ∈ wsL_law := iw_wsL_law_r1 _ (List.mem_of_getElem? (i := 18) rfl)
theorem ww_19 : (Cond.fieldLink RX3 22 "CommitSites" "latestEvent" "[I") ∈ wsL_law := iw_wsL_law_r1 _ (List.mem_of_getElem? (i := 19) rfl)
theorem ww_20 : (Cond.fieldLink RX3 26 "CommitSites" "patienceTicks" "I") ∈ wsL_law := iw_wsL_law_r1 _ (List.mem_of_getElem? (i := 20) rfl)
theorem ww_21 : (Cond.methodLink RX3 17 yX1_init) ∈ wsL_law := iw_wsL_law_r1 _ (List.mem_of_getElem? (i := 21) rfl)
theorem ww_22 : (Cond.instanceMethod yX1_init) ∈ wsL_law := iw_wsL_law_r1 _ (List.mem_of_getElem? (i := 22) rfl)
theorem ww_23 : (Cond.code yX1_init cX1_init 3 none) ∈ wsL_law := iw_wsL_law_r1 _ (List.mem_of_getElem? (i := 23) rfl)
theorem ww_24 : (Cond.methodLink RX1 3 objectInit) ∈ wsL_law := iw_wsL_law_r2 _ (List.mem_of_getElem? (i := 0) rfl)
theorem ww_25 : (Cond.classLink RX1 9 "[[I") ∈ wsL_law := iw_wsL_law_r2 _ (List.mem_of_getElem? (i := 1) rfl)
theorem ww_26 : (Cond.fieldLink RX1 11 "CommitSites$Network" "delays" "[[I") ∈ wsL_law := iw_wsL_law_r2 _ (List.mem_of_getElem? (i := 2) rfl)
theorem ww_27 : (Cond.classLink RX1 16 RX0) ∈ wsL_law := iw_wsL_law_r2 _ (List.mem_of_getElem? (i := 3) rfl)
theorem ww_28 : (Cond.fieldLink RX1 18 "CommitSites$Network" "heads" "[LCommitSites$Message;") ∈ wsL_law := iw_wsL_law_r2 _ (List.mem_of_getElem? (i := 4) rfl)
theorem ww_29 : (Cond.fieldLink RX1 22 "CommitSites$Network" "tails" "[LCommitSites$Message;") ∈ wsL_law := iw_wsL_law_r2 _ (List.mem_of_getElem? (i := 5) rfl)
theorem ww_30 : (Cond.methodLink RX3 30 yX3_shareQuorums) ∈ wsL_law := iw_wsL_law_r2 _ (List.mem_of_getElem? (i := 6) rfl)
theorem ww_31 : (Cond.instanceMethod yX3_shareQuorums) ∈ wsL_law := iw_wsL_law_r2 _ (List.mem_of_getElem? (i := 7) rfl)
theorem ww_32 : (Cond.selects RX3 yX3_shareQuorums yX3_shareQuorums) ∈ wsL_law := iw_wsL_law_r2 _ (List.mem_of_getElem? (i := 8) rfl)
theorem ww_33 : (Cond.code yX3_shareQuorums cX3_shareQuorums 1 none) ∈ wsL_law := iw_wsL_law_r2 _ (List.mem_of_getElem? (i := 9) rfl)
theorem ww_34 : (Cond.fieldLink RX3 47 "CommitSites" "allWeight" "I") ∈ wsL_law := iw_wsL_law_r2 _ (List.mem_of_getElem? (i := 10) rfl)
theorem ww_35 : (Cond.fieldLink RX3 50 "CommitSites" "commitQuorum" "I") ∈ wsL_law := iw_wsL_law_r2 _ (List.mem_of_getElem? (i := 11) rfl)
theorem ww_36 : (Cond.fieldLink RX3 53 "CommitSites" "abortQuorum" "I") ∈ wsL_law := iw_wsL_law_r2 _ (List.mem_of_getElem? (i := 12) rfl)
theorem ww_37 : (Cond.methodLink RX3 33 yX3_note) ∈ wsL_law := iw_wsL_law_r2 _ (List.mem_of_getElem? (i := 13) rfl)
theorem ww_38 : (Cond.instanceMethod yX3_note) ∈ wsL_law := iw_wsL_law_r2 _ (List.mem_of_getElem? (i := 14) rfl)
theorem ww_39 : (Cond.selects RX3 yX3_note yX3_note) ∈ wsL_law := iw_wsL_law_r2 _ (List.mem_of_getElem? (i := 15) rfl)
theorem ww_40 : (Cond.code yX3_note cX3_note 6 none) ∈ wsL_law := iw_wsL_law_r2 _ (List.mem_of_getElem? (i := 16) rfl)
theorem ww_41 : (Cond.methodLink RL 12 yX4_init) ∈ wsL_law := iw_wsL_law_r2 _ (List.mem_of_getElem? (i := 17) rfl)
theorem ww_42 : (Cond.instanceMethod yX4_init) ∈ wsL_law := iw_wsL_law_r2 _ (List.mem_of_getElem? (i := 18) rfl)
theorem ww_43 : (Cond.code yX4_init cX4_init 1 none) ∈ wsL_law := iw_wsL_law_r2 _ (List.mem_of_getElem? (i := 19) rfl)
theorem ww_44 : (Cond.methodLink RX4 1 objectInit) ∈ wsL_law := iw_wsL_law_r2 _ (List.mem_of_getElem? (i := 20) rfl)
theorem ww_45 : (Cond.fieldLink RX4 7 "CommitSitesModel" "weights" "[I") ∈ wsL_law := iw_wsL_law_r2 _ (List.mem_of_getElem? (i := 21) rfl)
theorem ww_46 : (Cond.fieldLink RX4 13 "CommitSitesModel" "patience" "I") ∈ wsL_law := iw_wsL_law_r2 _ (List.mem_of_getElem? (i := 22) rfl)
theorem ww_47 : (Cond.fieldLink RX4 17 "CommitSitesModel" "delays" "[I") ∈ wsL_law := iw_wsL_law_r2 _ (List.mem_of_getElem? (i := 23) rfl)
theorem ww_48 : (Cond.fieldLink RX4 20 "CommitSitesModel" "states" "[I") ∈ wsL_law := iw_wsL_law_r3 _ (List.mem_of_getElem? (i := 0) rfl)
theorem ww_49 : (Cond.fieldLink RX4 23 "CommitSitesModel" "since" "[I") ∈ wsL_law := iw_wsL_law_r3 _ (List.mem_of_getElem? (i := 1) rfl)
theorem ww_50 : (Cond.arrayClass .boolean) ∈ wsL_law := iw_wsL_law_r3 _ (List.mem_of_getElem? (i := 2) rfl)
theorem ww_51 : (Cond.fieldLink RX4 26 "CommitSitesModel" "down" "[Z") ∈ wsL_law := iw_wsL_law_r3 _ (List.mem_of_getElem? (i := 3) rfl)
theorem ww_52 : (Cond.fieldLink RX4 30 "CommitSitesModel" "votes" "[Z") ∈ wsL_law := iw_wsL_law_r3 _ (List.mem_of_getElem? (i := 4) rfl)
theorem ww_53 : (Cond.fieldLink RX4 33 "CommitSitesModel" "doing" "[I") ∈ wsL_law := iw_wsL_law_r3 _ (List.mem_of_getElem? (i := 5) rfl)
theorem ww_54 : (Cond.fieldLink RX4 36 "CommitSitesModel" "attempts" "[I") ∈ wsL_law := iw_wsL_law_r3 _ (List.mem_of_getElem? (i := 6) rfl)
theorem ww_55 : (Cond.fieldLink RX4 39 "CommitSitesModel" "there" "[I") ∈ wsL_law := iw_wsL_law_r3 _ (List.mem_of_getElem? (i := 7) rfl)
theorem ww_56 : (Cond.fieldLink RX4 42 "CommitSitesModel" "timers" "[I") ∈ wsL_law := iw_wsL_law_r3 _ (List.mem_of_getElem? (i := 8) rfl)
theorem ww_57 : (Cond.fieldLink RX4 45 "CommitSitesModel" "timerNumbers" "[I") ∈ wsL_law := iw_wsL_law_r3 _ (List.mem_of_getElem? (i := 9) rfl)
theorem ww_58 : (Cond.constant RX4 48 (60000)) ∈ wsL_law := iw_wsL_law_r3 _ (List.mem_of_getElem? (i := 10) rfl)
theorem ww_59 : (Cond.fieldLink RX4 49 "CommitSitesModel" "kinds" "[I") ∈ wsL_law := iw_wsL_law_r3 _ (List.mem_of_getElem? (i := 11) rfl)
theorem ww_60 : (Cond.fieldLink RX4 52 "CommitSitesModel" "froms" "[I") ∈ wsL_law := iw_wsL_law_r3 _ (List.mem_of_getElem? (i := 12) rfl)
theorem ww_61 : (Cond.fieldLink RX4 55 "CommitSitesModel" "tos" "[I") ∈ wsL_law := iw_wsL_law_r3 _ (List.mem_of_getElem? (i := 13) rfl)
theorem ww_62 : (Cond.fieldLink RX4 58 "CommitSitesModel" "attemptsTold" "[I") ∈ wsL_law := iw_wsL_law_r3 _ (List.mem_of_getElem? (i := 14) rfl)
theorem ww_63 : (Cond.fieldLink RX4 61 "CommitSitesModel" "statesTold" "[I") ∈ wsL_law := iw_wsL_law_r3 _ (List.mem_of_getElem? (i := 15) rfl)
theorem ww_64 : (Cond.fieldLink RX4 64 "CommitSitesModel" "times" "[I") ∈ wsL_law := iw_wsL_law_r3 _ (List.mem_of_getElem? (i := 16) rfl)
theorem ww_65 : (Cond.fieldLink RX4 67 "CommitSitesModel" "order" "[I") ∈ wsL_law := iw_wsL_law_r3 _ (List.mem_of_getElem? (i := 17) rfl)
theorem ww_66 : (Cond.fieldLink RX4 70 "CommitSitesModel" "latest" "[I") ∈ wsL_law := iw_wsL_law_r3 _ (List.mem_of_getElem? (i := 18) rfl)
theorem ww_67 : (Cond.methodLink RL 13 yX3_site) ∈ wsL_law := iw_wsL_law_r3 _ (List.mem_of_getElem? (i := 19) rfl)
theorem ww_68 : (Cond.instanceMethod yX3_site) ∈ wsL_law := iw_wsL_law_r3 _ (List.mem_of_getElem? (i := 20) rfl)
theorem ww_69 : (Cond.selects RX3 yX3_site yX3_site) ∈ wsL_law := iw_wsL_law_r3 _ (List.mem_of_getElem? (i := 21) rfl)
theorem ww_70 : (Cond.code yX3_site cX3_site 2 (some .int)) ∈ wsL_law := iw_wsL_law_r3 _ (List.mem_of_getElem? (i := 22) rfl)
theorem ww_71 : (Cond.fieldLink RX3 37 "CommitSites" "begun" "Z") ∈ wsL_law := iw_wsL_law_r3 _ (List.mem_of_getElem? (i := 23) rfl)
theorem ww_72 : (Cond.fieldLink RX3 41 "CommitSites" "siteCount" "I") ∈ wsL_law := iw_wsL_law_r4 _ (List.mem_of_getElem? (i := 0) rfl)
theorem ww_73 : (Cond.instantiable RX2 10) ∈ wsL_law := iw_wsL_law_r4 _ (List.mem_of_getElem? (i := 1) rfl)
theorem ww_74 : (Cond.initialized RX2) ∈ wsL_law := iw_wsL_law_r4 _ (List.mem_of_getElem? (i := 2) rfl)
theorem ww_75 : (Cond.methodLink RX3 44 yX2_init) ∈ wsL_law := iw_wsL_law_r4 _ (List.mem_of_getElem? (i := 3) rfl)
theorem ww_76 : (Cond.instanceMethod yX2_init) ∈ wsL_law := iw_wsL_law_r4 _ (List.mem_of_getElem? (i := 4) rfl)
theorem ww_77 : (Cond.code yX2_init cX2_init 2 none) ∈ wsL_law := iw_wsL_law_r4 _ (List.mem_of_getElem? (i := 5) rfl)
theorem ww_78 : (Cond.methodLink RX2 3 objectInit) ∈ wsL_law := iw_wsL_law_r4 _ (List.mem_of_getElem? (i := 6) rfl)
theorem ww_79 : (Cond.fieldLink RX2 9 "CommitSites$Site" "stateOf" "[I") ∈ wsL_law := iw_wsL_law_r4 _ (List.mem_of_getElem? (i := 7) rfl)
theorem ww_80 : (Cond.fieldLink RX2 15 "CommitSites$Site" "weight" "I") ∈ wsL_law := iw_wsL_law_r4 _ (List.mem_of_getElem? (i := 8) rfl)
theorem ww_81 : (Cond.methodLink RX2 19 yX2_startAnew) ∈ wsL_law := iw_wsL_law_r4 _ (List.mem_of_getElem? (i := 9) rfl)
theorem ww_82 : (Cond.instanceMethod yX2_startAnew) ∈ wsL_law := iw_wsL_law_r4 _ (List.mem_of_getElem? (i := 10) rfl)
theorem ww_83 : (Cond.selects RX2 yX2_startAnew yX2_startAnew) ∈ wsL_law := iw_wsL_law_r4 _ (List.mem_of_getElem? (i := 11) rfl)
theorem ww_84 : (Cond.code yX2_startAnew cX2_startAnew 1 none) ∈ wsL_law := iw_wsL_law_r4 _ (List.mem_of_getElem? (i := 12) rfl)
theorem ww_85 : (Cond.fieldLink RX2 22 "CommitSites$Site" "there" "I") ∈ wsL_law := iw_wsL_law_r4 _ (List.mem_of_getElem? (i := 13) rfl)
theorem ww_86 : (Cond.fieldLink RX2 25 "CommitSites$Site" "up" "Z") ∈ wsL_law := iw_wsL_law_r4 _ (List.mem_of_getElem? (i := 14) rfl)
theorem ww_87 : (Cond.fieldLink RX2 29 "CommitSites$Site" "state" "I") ∈ wsL_law := iw_wsL_law_r4 _ (List.mem_of_getElem? (i := 15) rfl)
theorem ww_88 : (Cond.fieldLink RX2 32 "CommitSites$Site" "since" "I") ∈ wsL_law := iw_wsL_law_r4 _ (List.mem_of_getElem? (i := 16) rfl)
theorem ww_89 : (Cond.fieldLink RX2 35 "CommitSites$Site" "does" "I") ∈ wsL_law := iw_wsL_law_r4 _ (List.mem_of_getElem? (i := 17) rfl)
theorem ww_90 : (Cond.fieldLink RX2 38 "CommitSites$Site" "attempt" "I") ∈ wsL_law := iw_wsL_law_r4 _ (List.mem_of_getElem? (i := 18) rfl)
theorem ww_91 : (Cond.fieldLink RX2 41 "CommitSites$Site" "timer" "I") ∈ wsL_law := iw_wsL_law_r4 _ (List.mem_of_getElem? (i := 19) rfl)
theorem ww_92 : (Cond.fieldLink RX2 44 "CommitSites$Site" "timerOrder" "I") ∈ wsL_law := iw_wsL_law_r4 _ (List.mem_of_getElem? (i := 20) rfl)
theorem ww_93 : (Cond.methodLink RL 17 yX4_site) ∈ wsL_law := iw_wsL_law_r4 _ (List.mem_of_getElem? (i := 21) rfl)
theorem ww_94 : (Cond.instanceMethod yX4_site) ∈ wsL_law := iw_wsL_law_r4 _ (List.mem_of_getElem? (i := 22) rfl)
theorem ww_95 : (Cond.selects RX4 yX4_site yX4_site) ∈ wsL_law := iw_wsL_law_r4 _ (List.mem_of_getElem? (i := 23) rfl)
theorem ww_96 : (Cond.code yX4_site cX4_site 3 (some .int)) ∈ wsL_law := iw_wsL_law_r5 _ (List.mem_of_getElem? (i := 0) rfl)
theorem ww_97 : (Cond.fieldLink RX4 73 "CommitSitesModel" "thrown" "I") ∈ wsL_law := iw_wsL_law_r5 _ (List.mem_of_getElem? (i := 1) rfl)
theorem ww_98 : (Cond.fieldLink RX4 79 "CommitSitesModel" "begun" "Z") ∈ wsL_law := iw_wsL_law_r5 _ (List.mem_of_getElem? (i := 2) rfl)
theorem ww_99 : (Cond.fieldLink RX4 76 "CommitSitesModel" "sites" "I") ∈ wsL_law := iw_wsL_law_r5 _ (List.mem_of_getElem? (i := 3) rfl)
theorem ww_100 : (Cond.fieldLink RX4 87 "CommitSitesModel" "commitQuorum" "I") ∈ wsL_law := iw_wsL_law_r5 _ (List.mem_of_getElem? (i := 4) rfl)
theorem ww_101 : (Cond.fieldLink RX4 90 "CommitSitesModel" "abortQuorum" "I") ∈ wsL_law := iw_wsL_law_r5 _ (List.mem_of_getElem? (i := 5) rfl)
theorem ww_102 : (Cond.methodLink RX4 83 yX4_all) ∈ wsL_law := iw_wsL_law_r5 _ (List.mem_of_getElem? (i := 6) rfl)
theorem ww_103 : (Cond.instanceMethod yX4_all) ∈ wsL_law := iw_wsL_law_r5 _ (List.mem_of_getElem? (i := 7) rfl)
theorem ww_104 : (Cond.selects RX4 yX4_all yX4_all) ∈ wsL_law := iw_wsL_law_r5 _ (List.mem_of_getElem? (i := 8) rfl)
theorem ww_105 : (Cond.code yX4_all cX4_all 3 (some .int)) ∈ wsL_law := iw_wsL_law_r5 _ (List.mem_of_getElem? (i := 9) rfl)
theorem ww_106 : (Cond.methodLink RL 18 yX3_quorums) ∈ wsL_law := iw_wsL_law_r5 _ (List.mem_of_getElem? (i := 10) rfl)
theorem ww_107 : (Cond.instanceMethod yX3_quorums) ∈ wsL_law := iw_wsL_law_r5 _ (List.mem_of_getElem? (i := 11) rfl)
theorem ww_108 : (Cond.selects RX3 yX3_quorums yX3_quorums) ∈ wsL_law := iw_wsL_law_r5 _ (List.mem_of_getElem? (i := 12) rfl)
theorem ww_109 : (Cond.code yX3_quorums cX3_quorums 4 (some .int)) ∈ wsL_law := iw_wsL_law_r5 _ (List.mem_of_getElem? (i := 13) rfl)
theorem ww_110 : (Cond.methodLink RL 22 yX4_quorums) ∈ wsL_law := iw_wsL_law_r5 _ (List.mem_of_getElem? (i := 14) rfl)
theorem ww_111 : (Cond.instanceMethod yX4_quorums) ∈ wsL_law := iw_wsL_law_r5 _ (List.mem_of_getElem? (i := 15) rfl)
theorem ww_112 : (Cond.selects RX4 yX4_quorums yX4_quorums) ∈ wsL_law := iw_wsL_law_r5 _ (List.mem_of_getElem? (i := 16) rfl)
theorem ww_113 : (Cond.code yX4_quorums cX4_quorums 4 (some .int)) ∈ wsL_law := iw_wsL_law_r5 _ (List.mem_of_getElem? (i := 17) rfl)
theorem ww_114 : (Cond.methodLink RL 23 yX3_link) ∈ wsL_law := iw_wsL_law_r5 _ (List.mem_of_getElem? (i := 18) rfl)
theorem ww_115 : (Cond.instanceMethod yX3_link) ∈ wsL_law := iw_wsL_law_r5 _ (List.mem_of_getElem? (i := 19) rfl)
theorem ww_116 : (Cond.selects RX3 yX3_link yX3_link) ∈ wsL_law := iw_wsL_law_r5 _ (List.mem_of_getElem? (i := 20) rfl)
theorem ww_117 : (Cond.code yX3_link cX3_link 4 (some .int)) ∈ wsL_law := iw_wsL_law_r5 _ (List.mem_of_getElem? (i := 21) rfl)
theorem ww_118 : (Cond.fieldLink RX3 60 "CommitSites$Network" "delays" "[[I") ∈ wsL_law := iw_wsL_law_r5 _ (List.mem_of_getElem? (i := 22) rfl)
theorem ww_119 : (Cond.methodLink RX3 56 yX3_isLink) ∈ wsL_law := iw_wsL_law_r5 _ (List.mem_of_getElem? (i := 23) rfl)
theorem ww_120 : (Cond.instanceMethod yX3_isLink) ∈ wsL_law := iw_wsL_law_r6 _ (List.mem_of_getElem? (i := 0) rfl)
theorem ww_121 : (Cond.selects RX3 yX3_isLink yX3_isLink) ∈ wsL_law := iw_wsL_law_r6 _ (List.mem_of_getElem? (i := 1) rfl)
theorem ww_122 : (Cond.code yX3_isLink cX3_isLink 3 (some .boolean)) ∈ wsL_law := iw_wsL_law_r6 _ (List.mem_of_getElem? (i := 2) rfl)
theorem ww_123 : (Cond.methodLink RX3 67 yX3_isSite) ∈ wsL_law := iw_wsL_law_r6 _ (List.mem_of_getElem? (i := 3) rfl)
theorem ww_124 : (Cond.instanceMethod yX3_isSite) ∈ wsL_law := iw_wsL_law_r6 _ (List.mem_of_getElem? (i := 4) rfl)
theorem ww_125 : (Cond.selects RX3 yX3_isSite yX3_isSite) ∈ wsL_law := iw_wsL_law_r6 _ (List.mem_of_getElem? (i := 5) rfl)
theorem ww_126 : (Cond.code yX3_isSite cX3_isSite 2 (some .boolean)) ∈ wsL_law := iw_wsL_law_r6 _ (List.mem_of_getElem? (i := 6) rfl)
theorem ww_127 : (Cond.methodLink RL 27 yX4_link) ∈ wsL_law := iw_wsL_law_r6 _ (List.mem_of_getElem? (i := 7) rfl)
theorem ww_128 : (Cond.instanceMethod yX4_link) ∈ wsL_law := iw_wsL_law_r6 _ (List.mem_of_getElem? (i := 8) rfl)
theorem ww_129 : (Cond.selects RX4 yX4_link yX4_link) ∈ wsL_law := iw_wsL_law_r6 _ (List.mem_of_getElem? (i := 9) rfl)
theorem ww_130 : (Cond.code yX4_link cX4_link 4 (some .int)) ∈ wsL_law := iw_wsL_law_r6 _ (List.mem_of_getElem? (i := 10) rfl)
theorem ww_131 : (Cond.methodLink RX4 93 yX4_isSite) ∈ wsL_law := iw_wsL_law_r6 _ (List.mem_of_getElem? (i := 11) rfl)
theorem ww_132 : (Cond.instanceMethod yX4_isSite) ∈ wsL_law := iw_wsL_law_r6 _ (List.mem_of_getElem? (i := 12) rfl)
theorem ww_133 : (Cond.selects RX4 yX4_isSite yX4_isSite) ∈ wsL_law := iw_wsL_law_r6 _ (List.mem_of_getElem? (i := 13) rfl)
theorem ww_134 : (Cond.code yX4_isSite cX4_isSite 2 (some .boolean)) ∈ wsL_law := iw_wsL_law_r6 _ (List.mem_of_getElem? (i := 14) rfl)
theorem ww_135 : (Cond.methodLink RL 28 yX3_part) ∈ wsL_law := iw_wsL_law_r6 _ (List.mem_of_getElem? (i := 15) rfl)
theorem ww_136 : (Cond.instanceMethod yX3_part) ∈ wsL_law := iw_wsL_law_r6 _ (List.mem_of_getElem? (i := 16) rfl)
theorem ww_137 : (Cond.selects RX3 yX3_part yX3_part) ∈ wsL_law := iw_wsL_law_r6 _ (List.mem_of_getElem? (i := 17) rfl)
theorem ww_138 : (Cond.code yX3_part cX3_part 7 (some .int)) ∈ wsL_law := iw_wsL_law_r6 _ (List.mem_of_getElem? (i := 18) rfl)
theorem ww_139 : (Cond.methodLink RX3 64 yX3_hasBit) ∈ wsL_law := iw_wsL_law_r6 _ (List.mem_of_getElem? (i := 19) rfl)
theorem ww_140 : (Cond.static yX3_hasBit) ∈ wsL_law := iw_wsL_law_r6 _ (List.mem_of_getElem? (i := 20) rfl)
theorem ww_141 : (Cond.code yX3_hasBit cX3_hasBit 2 (some .boolean)) ∈ wsL_law := iw_wsL_law_r6 _ (List.mem_of_getElem? (i := 21) rfl)
theorem ww_142 : (Cond.methodLink RL 31 yX4_part) ∈ wsL_law := iw_wsL_law_r6 _ (List.mem_of_getElem? (i := 22) rfl)
theorem ww_143 : (Cond.instanceMethod yX4_part) ∈ wsL_law := iw_wsL_law_r6 _ (List.mem_of_getElem? (i := 23) rfl)
theorem ww_144 : (Cond.selects RX4 yX4_part yX4_part) ∈ wsL_law := iw_wsL_law_r7 _ (List.mem_of_getElem? (i := 0) rfl)
theorem ww_145 : (Cond.code yX4_part cX4_part 6 (some .int)) ∈ wsL_law := iw_wsL_law_r7 _ (List.mem_of_getElem? (i := 1) rfl)
theorem ww_146 : (Cond.methodLink RL 32 yX3_patience) ∈ wsL_law := iw_wsL_law_r7 _ (List.mem_of_getElem? (i := 2) rfl)
theorem ww_147 : (Cond.instanceMethod yX3_patience) ∈ wsL_law := iw_wsL_law_r7 _ (List.mem_of_getElem? (i := 3) rfl)
theorem ww_148 : (Cond.selects RX3 yX3_patience yX3_patience) ∈ wsL_law := iw_wsL_law_r7 _ (List.mem_of_getElem? (i := 4) rfl)
theorem ww_149 : (Cond.code yX3_patience cX3_patience 2 (some .int)) ∈ wsL_law := iw_wsL_law_r7 _ (List.mem_of_getElem? (i := 5) rfl)
theorem ww_150 : (Cond.methodLink RL 35 yX4_patience) ∈ wsL_law := iw_wsL_law_r7 _ (List.mem_of_getElem? (i := 6) rfl)
theorem ww_151 : (Cond.instanceMethod yX4_patience) ∈ wsL_law := iw_wsL_law_r7 _ (List.mem_of_getElem? (i := 7) rfl)
theorem ww_152 : (Cond.selects RX4 yX4_patience yX4_patience) ∈ wsL_law := iw_wsL_law_r7 _ (List.mem_of_getElem? (i := 8) rfl)
theorem ww_153 : (Cond.code yX4_patience cX4_patience 2 (some .int)) ∈ wsL_law := iw_wsL_law_r7 _ (List.mem_of_getElem? (i := 9) rfl)
theorem ww_154 : (Cond.methodLink RL 36 yX3_begin) ∈ wsL_law := iw_wsL_law_r7 _ (List.mem_of_getElem? (i := 10) rfl)
theorem ww_155 : (Cond.instanceMethod yX3_begin) ∈ wsL_law := iw_wsL_law_r7 _ (List.mem_of_getElem? (i := 11) rfl)
theorem ww_156 : (Cond.selects RX3 yX3_begin yX3_begin) ∈ wsL_law := iw_wsL_law_r7 _ (List.mem_of_getElem? (i := 12) rfl)
theorem ww_157 : (Cond.code yX3_begin cX3_begin 3 (some .int)) ∈ wsL_law := iw_wsL_law_r7 _ (List.mem_of_getElem? (i := 13) rfl)
theorem ww_158 : (Cond.fieldLink RX3 71 "CommitSites$Site" "up" "Z") ∈ wsL_law := iw_wsL_law_r7 _ (List.mem_of_getElem? (i := 14) rfl)
theorem ww_159 : (Cond.fieldLink RX3 74 "CommitSites" "yesVotes" "I") ∈ wsL_law := iw_wsL_law_r7 _ (List.mem_of_getElem? (i := 15) rfl)
theorem ww_160 : (Cond.methodLink RX3 77 yX3_askVotes) ∈ wsL_law := iw_wsL_law_r7 _ (List.mem_of_getElem? (i := 16) rfl)
theorem ww_161 : (Cond.instanceMethod yX3_askVotes) ∈ wsL_law := iw_wsL_law_r7 _ (List.mem_of_getElem? (i := 17) rfl)
theorem ww_162 : (Cond.selects RX3 yX3_askVotes yX3_askVotes) ∈ wsL_law := iw_wsL_law_r7 _ (List.mem_of_getElem? (i := 18) rfl)
theorem ww_163 : (Cond.code yX3_askVotes cX3_askVotes 3 none) ∈ wsL_law := iw_wsL_law_r7 _ (List.mem_of_getElem? (i := 19) rfl)
theorem ww_164 : (Cond.fieldLink RX3 84 "CommitSites$Site" "does" "I") ∈ wsL_law := iw_wsL_law_r7 _ (List.mem_of_getElem? (i := 20) rfl)
theorem ww_165 : (Cond.fieldLink RX3 219 "CommitSites$Site" "there" "I") ∈ wsL_law := iw_wsL_law_r7 _ (List.mem_of_getElem? (i := 21) rfl)
theorem ww_166 : (Cond.fieldLink RX3 122 "CommitSites$Site" "attempt" "I") ∈ wsL_law := iw_wsL_law_r7 _ (List.mem_of_getElem? (i := 22) rfl)
theorem ww_167 : (Cond.methodLink RX3 93 yX3_become) ∈ wsL_law := iw_wsL_law_r7 _ (List.mem_of_getElem? (i := 23) rfl)
theorem ww_168 : (Cond.instanceMethod yX3_become) ∈ wsL_law := iw_wsL_law_r8 _ (List.mem_of_getElem? (i := 0) rfl)
theorem ww_169 : (Cond.selects RX3 yX3_become yX3_become) ∈ wsL_law := iw_wsL_law_r8 _ (List.mem_of_getElem? (i := 1) rfl)
theorem ww_170 : (Cond.code yX3_become cX3_become 3 none) ∈ wsL_law := iw_wsL_law_r8 _ (List.mem_of_getElem? (i := 2) rfl)
theorem ww_171 : (Cond.fieldLink RX3 90 "CommitSites$Site" "state" "I") ∈ wsL_law := iw_wsL_law_r8 _ (List.mem_of_getElem? (i := 3) rfl)
theorem ww_172 : (Cond.fieldLink RX3 104 "CommitSites$Network" "time" "I") ∈ wsL_law := iw_wsL_law_r8 _ (List.mem_of_getElem? (i := 4) rfl)
theorem ww_173 : (Cond.fieldLink RX3 127 "CommitSites$Site" "since" "I") ∈ wsL_law := iw_wsL_law_r8 _ (List.mem_of_getElem? (i := 5) rfl)
theorem ww_174 : (Cond.fieldLink RX3 87 "CommitSites$Site" "timer" "I") ∈ wsL_law := iw_wsL_law_r8 _ (List.mem_of_getElem? (i := 6) rfl)
theorem ww_175 : (Cond.methodLink RX3 97 yX2_isDecided) ∈ wsL_law := iw_wsL_law_r8 _ (List.mem_of_getElem? (i := 7) rfl)
theorem ww_176 : (Cond.instanceMethod yX2_isDecided) ∈ wsL_law := iw_wsL_law_r8 _ (List.mem_of_getElem? (i := 8) rfl)
theorem ww_177 : (Cond.selects RX2 yX2_isDecided yX2_isDecided) ∈ wsL_law := iw_wsL_law_r8 _ (List.mem_of_getElem? (i := 9) rfl)
theorem ww_178 : (Cond.code yX2_isDecided cX2_isDecided 1 (some .boolean)) ∈ wsL_law := iw_wsL_law_r8 _ (List.mem_of_getElem? (i := 10) rfl)
theorem ww_179 : (Cond.methodLink RX3 244 yX3_allBut) ∈ wsL_law := iw_wsL_law_r8 _ (List.mem_of_getElem? (i := 11) rfl)
theorem ww_180 : (Cond.instanceMethod yX3_allBut) ∈ wsL_law := iw_wsL_law_r8 _ (List.mem_of_getElem? (i := 12) rfl)
theorem ww_181 : (Cond.selects RX3 yX3_allBut yX3_allBut) ∈ wsL_law := iw_wsL_law_r8 _ (List.mem_of_getElem? (i := 13) rfl)
theorem ww_182 : (Cond.code yX3_allBut cX3_allBut 2 (some .int)) ∈ wsL_law := iw_wsL_law_r8 _ (List.mem_of_getElem? (i := 14) rfl)
theorem ww_183 : (Cond.methodLink RX3 139 yX3_everyone) ∈ wsL_law := iw_wsL_law_r8 _ (List.mem_of_getElem? (i := 15) rfl)
theorem ww_184 : (Cond.instanceMethod yX3_everyone) ∈ wsL_law := iw_wsL_law_r8 _ (List.mem_of_getElem? (i := 16) rfl)
theorem ww_185 : (Cond.selects RX3 yX3_everyone yX3_everyone) ∈ wsL_law := iw_wsL_law_r8 _ (List.mem_of_getElem? (i := 17) rfl)
theorem ww_186 : (Cond.code yX3_everyone cX3_everyone 1 (some .int)) ∈ wsL_law := iw_wsL_law_r8 _ (List.mem_of_getElem? (i := 18) rfl)
theorem ww_187 : (Cond.methodLink RX3 213 yX1_send) ∈ wsL_law := iw_wsL_law_r8 _ (List.mem_of_getElem? (i := 19) rfl)
theorem ww_188 : (Cond.instanceMethod yX1_send) ∈ wsL_law := iw_wsL_law_r8 _ (List.mem_of_getElem? (i := 20) rfl)
theorem ww_189 : (Cond.selects RX1 yX1_send yX1_send) ∈ wsL_law := iw_wsL_law_r8 _ (List.mem_of_getElem? (i := 21) rfl)
theorem ww_190 : (Cond.code yX1_send cX1_send 8 none) ∈ wsL_law := iw_wsL_law_r8 _ (List.mem_of_getElem? (i := 22) rfl)
theorem ww_191 : (Cond.fieldLink RX1 39 "CommitSites$Network" "sent" "I") ∈ wsL_law := iw_wsL_law_r8 _ (List.mem_of_getElem? (i := 23) rfl)
theorem ww_192 : (Cond.fieldLink RX1 45 "CommitSites$Network" "onWay" "I") ∈ wsL_law := iw_wsL_law_r9 _ (List.mem_of_getElem? (i := 0) rfl)
theorem ww_193 : (Cond.fieldLink RX1 42 "CommitSites$Network" "lost" "I") ∈ wsL_law := iw_wsL_law_r9 _ (List.mem_of_getElem? (i := 1) rfl)
theorem ww_194 : (Cond.fieldLink RX1 25 "CommitSites$Network" "spare" "LCommitSites$Message;") ∈ wsL_law := iw_wsL_law_r9 _ (List.mem_of_getElem? (i := 2) rfl)
theorem ww_195 : (Cond.instantiable RX0 8) ∈ wsL_law := iw_wsL_law_r9 _ (List.mem_of_getElem? (i := 3) rfl)
theorem ww_196 : (Cond.initialized RX0) ∈ wsL_law := iw_wsL_law_r9 _ (List.mem_of_getElem? (i := 4) rfl)
theorem ww_197 : (Cond.fieldLink RX1 29 "CommitSites$Message" "next" "LCommitSites$Message;") ∈ wsL_law := iw_wsL_law_r9 _ (List.mem_of_getElem? (i := 5) rfl)
theorem ww_198 : (Cond.fieldLink RX1 53 "CommitSites$Message" "kind" "I") ∈ wsL_law := iw_wsL_law_r9 _ (List.mem_of_getElem? (i := 6) rfl)
theorem ww_199 : (Cond.fieldLink RX1 56 "CommitSites$Message" "from" "I") ∈ wsL_law := iw_wsL_law_r9 _ (List.mem_of_getElem? (i := 7) rfl)
theorem ww_200 : (Cond.fieldLink RX1 59 "CommitSites$Message" "to" "I") ∈ wsL_law := iw_wsL_law_r9 _ (List.mem_of_getElem? (i := 8) rfl)
theorem ww_201 : (Cond.fieldLink RX1 62 "CommitSites$Message" "attempt" "I") ∈ wsL_law := iw_wsL_law_r9 _ (List.mem_of_getElem? (i := 9) rfl)
theorem ww_202 : (Cond.fieldLink RX1 65 "CommitSites$Message" "told" "I") ∈ wsL_law := iw_wsL_law_r9 _ (List.mem_of_getElem? (i := 10) rfl)
theorem ww_203 : (Cond.instanceMethod yX0_init) ∈ wsL_law := iw_wsL_law_r9 _ (List.mem_of_getElem? (i := 11) rfl)
theorem ww_204 : (Cond.code yX0_init cX0_init 1 none) ∈ wsL_law := iw_wsL_law_r9 _ (List.mem_of_getElem? (i := 12) rfl)
theorem ww_205 : (Cond.methodLink RX0 1 objectInit) ∈ wsL_law := iw_wsL_law_r9 _ (List.mem_of_getElem? (i := 13) rfl)
theorem ww_206 : (Cond.methodLink RX1 68 yX1_putOn) ∈ wsL_law := iw_wsL_law_r9 _ (List.mem_of_getElem? (i := 14) rfl)
theorem ww_207 : (Cond.instanceMethod yX1_putOn) ∈ wsL_law := iw_wsL_law_r9 _ (List.mem_of_getElem? (i := 15) rfl)
theorem ww_208 : (Cond.selects RX1 yX1_putOn yX1_putOn) ∈ wsL_law := iw_wsL_law_r9 _ (List.mem_of_getElem? (i := 16) rfl)
theorem ww_209 : (Cond.code yX1_putOn cX1_putOn 3 none) ∈ wsL_law := iw_wsL_law_r9 _ (List.mem_of_getElem? (i := 17) rfl)
theorem ww_210 : (Cond.fieldLink RX1 32 "CommitSites$Network" "time" "I") ∈ wsL_law := iw_wsL_law_r9 _ (List.mem_of_getElem? (i := 18) rfl)
theorem ww_211 : (Cond.fieldLink RX1 72 "CommitSites$Message" "time" "I") ∈ wsL_law := iw_wsL_law_r9 _ (List.mem_of_getElem? (i := 19) rfl)
theorem ww_212 : (Cond.fieldLink RX1 36 "CommitSites$Network" "order" "I") ∈ wsL_law := iw_wsL_law_r9 _ (List.mem_of_getElem? (i := 20) rfl)
theorem ww_213 : (Cond.fieldLink RX1 73 "CommitSites$Message" "order" "I") ∈ wsL_law := iw_wsL_law_r9 _ (List.mem_of_getElem? (i := 21) rfl)
theorem ww_214 : (Cond.methodLink RX3 216 yX3_setTimer) ∈ wsL_law := iw_wsL_law_r9 _ (List.mem_of_getElem? (i := 22) rfl)
theorem ww_215 : (Cond.instanceMethod yX3_setTimer) ∈ wsL_law := iw_wsL_law_r9 _ (List.mem_of_getElem? (i := 23) rfl)
theorem ww_216 : (Cond.selects RX3 yX3_setTimer yX3_setTimer) ∈ wsL_law := iw_wsL_law_r10 _ (List.mem_of_getElem? (i := 0) rfl)
theorem ww_217 : (Cond.code yX3_setTimer cX3_setTimer 3 none) ∈ wsL_law := iw_wsL_law_r10 _ (List.mem_of_getElem? (i := 1) rfl)
theorem ww_218 : (Cond.fieldLink RX3 250 "CommitSites$Site" "timerOrder" "I") ∈ wsL_law := iw_wsL_law_r10 _ (List.mem_of_getElem? (i := 2) rfl)
theorem ww_219 : (Cond.methodLink RX3 247 yX1_nextOrder) ∈ wsL_law := iw_wsL_law_r10 _ (List.mem_of_getElem? (i := 3) rfl)
theorem ww_220 : (Cond.instanceMethod yX1_nextOrder) ∈ wsL_law := iw_wsL_law_r10 _ (List.mem_of_getElem? (i := 4) rfl)
theorem ww_221 : (Cond.selects RX1 yX1_nextOrder yX1_nextOrder) ∈ wsL_law := iw_wsL_law_r10 _ (List.mem_of_getElem? (i := 5) rfl)
theorem ww_222 : (Cond.code yX1_nextOrder cX1_nextOrder 1 (some .int)) ∈ wsL_law := iw_wsL_law_r10 _ (List.mem_of_getElem? (i := 6) rfl)
theorem ww_223 : (Cond.methodLink RX3 222 yX3_lead) ∈ wsL_law := iw_wsL_law_r10 _ (List.mem_of_getElem? (i := 7) rfl)
theorem ww_224 : (Cond.instanceMethod yX3_lead) ∈ wsL_law := iw_wsL_law_r10 _ (List.mem_of_getElem? (i := 8) rfl)
theorem ww_225 : (Cond.selects RX3 yX3_lead yX3_lead) ∈ wsL_law := iw_wsL_law_r10 _ (List.mem_of_getElem? (i := 9) rfl)
theorem ww_226 : (Cond.code yX3_lead cX3_lead 5 none) ∈ wsL_law := iw_wsL_law_r10 _ (List.mem_of_getElem? (i := 10) rfl)
theorem ww_227 : (Cond.methodLink RX3 237 yX3_hasQuorum) ∈ wsL_law := iw_wsL_law_r10 _ (List.mem_of_getElem? (i := 11) rfl)
theorem ww_228 : (Cond.instanceMethod yX3_hasQuorum) ∈ wsL_law := iw_wsL_law_r10 _ (List.mem_of_getElem? (i := 12) rfl)
theorem ww_229 : (Cond.selects RX3 yX3_hasQuorum yX3_hasQuorum) ∈ wsL_law := iw_wsL_law_r10 _ (List.mem_of_getElem? (i := 13) rfl)
theorem ww_230 : (Cond.code yX3_hasQuorum cX3_hasQuorum 4 (some .boolean)) ∈ wsL_law := iw_wsL_law_r10 _ (List.mem_of_getElem? (i := 14) rfl)
theorem ww_231 : (Cond.fieldLink RX3 124 "CommitSites$Site" "weight" "I") ∈ wsL_law := iw_wsL_law_r10 _ (List.mem_of_getElem? (i := 15) rfl)
theorem ww_232 : (Cond.methodLink RX3 80 yX3_decide) ∈ wsL_law := iw_wsL_law_r10 _ (List.mem_of_getElem? (i := 16) rfl)
theorem ww_233 : (Cond.instanceMethod yX3_decide) ∈ wsL_law := iw_wsL_law_r10 _ (List.mem_of_getElem? (i := 17) rfl)
theorem ww_234 : (Cond.selects RX3 yX3_decide yX3_decide) ∈ wsL_law := iw_wsL_law_r10 _ (List.mem_of_getElem? (i := 18) rfl)
theorem ww_235 : (Cond.code yX3_decide cX3_decide 4 none) ∈ wsL_law := iw_wsL_law_r10 _ (List.mem_of_getElem? (i := 19) rfl)
theorem ww_236 : (Cond.methodLink RX3 231 yX3_tidingsOf) ∈ wsL_law := iw_wsL_law_r10 _ (List.mem_of_getElem? (i := 20) rfl)
theorem ww_237 : (Cond.static yX3_tidingsOf) ∈ wsL_law := iw_wsL_law_r10 _ (List.mem_of_getElem? (i := 21) rfl)
theorem ww_238 : (Cond.code yX3_tidingsOf cX3_tidingsOf 1 (some .int)) ∈ wsL_law := iw_wsL_law_r10 _ (List.mem_of_getElem? (i := 22) rfl)
theorem ww_239 : (Cond.methodLink RL 39 yX4_begin) ∈ wsL_law := iw_wsL_law_r10 _ (List.mem_of_getElem? (i := 23) rfl)
theorem ww_240 : (Cond.instanceMethod yX4_begin) ∈ wsL_law := iw_wsL_law_r11 _ (List.mem_of_getElem? (i := 0) rfl)
theorem ww_241 : (Cond.selects RX4 yX4_begin yX4_begin) ∈ wsL_law := iw_wsL_law_r11 _ (List.mem_of_getElem? (i := 1) rfl)
theorem ww_242 : (Cond.code yX4_begin cX4_begin 4 (some .int)) ∈ wsL_law := iw_wsL_law_r11 _ (List.mem_of_getElem? (i := 2) rfl)
theorem ww_243 : (Cond.methodLink RX4 141 yX4_decide) ∈ wsL_law := iw_wsL_law_r11 _ (List.mem_of_getElem? (i := 3) rfl)
theorem ww_244 : (Cond.instanceMethod yX4_decide) ∈ wsL_law := iw_wsL_law_r11 _ (List.mem_of_getElem? (i := 4) rfl)
theorem ww_245 : (Cond.selects RX4 yX4_decide yX4_decide) ∈ wsL_law := iw_wsL_law_r11 _ (List.mem_of_getElem? (i := 5) rfl)
theorem ww_246 : (Cond.code yX4_decide cX4_decide 3 none) ∈ wsL_law := iw_wsL_law_r11 _ (List.mem_of_getElem? (i := 6) rfl)
theorem ww_247 : (Cond.methodLink RX4 116 yX4_become) ∈ wsL_law := iw_wsL_law_r11 _ (List.mem_of_getElem? (i := 7) rfl)
theorem ww_248 : (Cond.instanceMethod yX4_become) ∈ wsL_law := iw_wsL_law_r11 _ (List.mem_of_getElem? (i := 8) rfl)
theorem ww_249 : (Cond.selects RX4 yX4_become yX4_become) ∈ wsL_law := iw_wsL_law_r11 _ (List.mem_of_getElem? (i := 9) rfl)
theorem ww_250 : (Cond.code yX4_become cX4_become 3 none) ∈ wsL_law := iw_wsL_law_r11 _ (List.mem_of_getElem? (i := 10) rfl)
theorem ww_251 : (Cond.fieldLink RX4 106 "CommitSitesModel" "now" "I") ∈ wsL_law := iw_wsL_law_r11 _ (List.mem_of_getElem? (i := 11) rfl)
theorem ww_252 : (Cond.methodLink RX4 120 yX4_sendAll) ∈ wsL_law := iw_wsL_law_r11 _ (List.mem_of_getElem? (i := 12) rfl)
theorem ww_253 : (Cond.instanceMethod yX4_sendAll) ∈ wsL_law := iw_wsL_law_r11 _ (List.mem_of_getElem? (i := 13) rfl)
theorem ww_254 : (Cond.selects RX4 yX4_sendAll yX4_sendAll) ∈ wsL_law := iw_wsL_law_r11 _ (List.mem_of_getElem? (i := 14) rfl)
theorem ww_255 : (Cond.code yX4_sendAll cX4_sendAll 5 none) ∈ wsL_law := iw_wsL_law_r11 _ (List.mem_of_getElem? (i := 15) rfl)
theorem ww_256 : (Cond.methodLink RX4 112 yX4_send) ∈ wsL_law := iw_wsL_law_r11 _ (List.mem_of_getElem? (i := 16) rfl)
theorem ww_257 : (Cond.instanceMethod yX4_send) ∈ wsL_law := iw_wsL_law_r11 _ (List.mem_of_getElem? (i := 17) rfl)
theorem ww_258 : (Cond.selects RX4 yX4_send yX4_send) ∈ wsL_law := iw_wsL_law_r11 _ (List.mem_of_getElem? (i := 18) rfl)
theorem ww_259 : (Cond.code yX4_send cX4_send 7 none) ∈ wsL_law := iw_wsL_law_r11 _ (List.mem_of_getElem? (i := 19) rfl)
theorem ww_260 : (Cond.fieldLink RX4 97 "CommitSitesModel" "sent" "I") ∈ wsL_law := iw_wsL_law_r11 _ (List.mem_of_getElem? (i := 20) rfl)
theorem ww_261 : (Cond.fieldLink RX4 100 "CommitSitesModel" "lost" "I") ∈ wsL_law := iw_wsL_law_r11 _ (List.mem_of_getElem? (i := 21) rfl)
theorem ww_262 : (Cond.fieldLink RX4 103 "CommitSitesModel" "messages" "I") ∈ wsL_law := iw_wsL_law_r11 _ (List.mem_of_getElem? (i := 22) rfl)
theorem ww_263 : (Cond.fieldLink RX4 109 "CommitSitesModel" "numbers" "I") ∈ wsL_law := iw_wsL_law_r11 _ (List.mem_of_getElem? (i := 23) rfl)
theorem ww_264 : (Cond.methodLink RX4 127 yX4_clearThere) ∈ wsL_law := iw_wsL_law_r12 _ (List.mem_of_getElem? (i := 0) rfl)
theorem ww_265 : (Cond.instanceMethod yX4_clearThere) ∈ wsL_law := iw_wsL_law_r12 _ (List.mem_of_getElem? (i := 1) rfl)
theorem ww_266 : (Cond.selects RX4 yX4_clearThere yX4_clearThere) ∈ wsL_law := iw_wsL_law_r12 _ (List.mem_of_getElem? (i := 2) rfl)
theorem ww_267 : (Cond.code yX4_clearThere cX4_clearThere 4 none) ∈ wsL_law := iw_wsL_law_r12 _ (List.mem_of_getElem? (i := 3) rfl)
theorem ww_268 : (Cond.methodLink RX4 130 yX4_setTimer) ∈ wsL_law := iw_wsL_law_r12 _ (List.mem_of_getElem? (i := 4) rfl)
theorem ww_269 : (Cond.instanceMethod yX4_setTimer) ∈ wsL_law := iw_wsL_law_r12 _ (List.mem_of_getElem? (i := 5) rfl)
theorem ww_270 : (Cond.selects RX4 yX4_setTimer yX4_setTimer) ∈ wsL_law := iw_wsL_law_r12 _ (List.mem_of_getElem? (i := 6) rfl)
theorem ww_271 : (Cond.code yX4_setTimer cX4_setTimer 3 none) ∈ wsL_law := iw_wsL_law_r12 _ (List.mem_of_getElem? (i := 7) rfl)
theorem ww_272 : (Cond.methodLink RX4 144 yX4_checkVotes) ∈ wsL_law := iw_wsL_law_r12 _ (List.mem_of_getElem? (i := 8) rfl)
theorem ww_273 : (Cond.instanceMethod yX4_checkVotes) ∈ wsL_law := iw_wsL_law_r12 _ (List.mem_of_getElem? (i := 9) rfl)
theorem ww_274 : (Cond.selects RX4 yX4_checkVotes yX4_checkVotes) ∈ wsL_law := iw_wsL_law_r12 _ (List.mem_of_getElem? (i := 10) rfl)
theorem ww_275 : (Cond.code yX4_checkVotes cX4_checkVotes 4 none) ∈ wsL_law := iw_wsL_law_r12 _ (List.mem_of_getElem? (i := 11) rfl)
theorem ww_276 : (Cond.methodLink RX4 124 yX4_lead) ∈ wsL_law := iw_wsL_law_r12 _ (List.mem_of_getElem? (i := 12) rfl)
theorem ww_277 : (Cond.instanceMethod yX4_lead) ∈ wsL_law := iw_wsL_law_r12 _ (List.mem_of_getElem? (i := 13) rfl)
theorem ww_278 : (Cond.selects RX4 yX4_lead yX4_lead) ∈ wsL_law := iw_wsL_law_r12 _ (List.mem_of_getElem? (i := 14) rfl)
theorem ww_279 : (Cond.code yX4_lead cX4_lead 3 none) ∈ wsL_law := iw_wsL_law_r12 _ (List.mem_of_getElem? (i := 15) rfl)
theorem ww_280 : (Cond.methodLink RX4 133 yX4_checkQuorum) ∈ wsL_law := iw_wsL_law_r12 _ (List.mem_of_getElem? (i := 16) rfl)
theorem ww_281 : (Cond.instanceMethod yX4_checkQuorum) ∈ wsL_law := iw_wsL_law_r12 _ (List.mem_of_getElem? (i := 17) rfl)
theorem ww_282 : (Cond.selects RX4 yX4_checkQuorum yX4_checkQuorum) ∈ wsL_law := iw_wsL_law_r12 _ (List.mem_of_getElem? (i := 18) rfl)
theorem ww_283 : (Cond.code yX4_checkQuorum cX4_checkQuorum 3 none) ∈ wsL_law := iw_wsL_law_r12 _ (List.mem_of_getElem? (i := 19) rfl)
theorem ww_284 : (Cond.methodLink RX4 137 yX4_weightThere) ∈ wsL_law := iw_wsL_law_r12 _ (List.mem_of_getElem? (i := 20) rfl)
theorem ww_285 : (Cond.instanceMethod yX4_weightThere) ∈ wsL_law := iw_wsL_law_r12 _ (List.mem_of_getElem? (i := 21) rfl)
theorem ww_286 : (Cond.selects RX4 yX4_weightThere yX4_weightThere) ∈ wsL_law := iw_wsL_law_r12 _ (List.mem_of_getElem? (i := 22) rfl)
theorem ww_287 : (Cond.code yX4_weightThere cX4_weightThere 4 (some .int)) ∈ wsL_law := iw_wsL_law_r12 _ (List.mem_of_getElem? (i := 23) rfl)
theorem ww_288 : (Cond.methodLink RL 40 yX3_crash) ∈ wsL_law := iw_wsL_law_r13 _ (List.mem_of_getElem? (i := 0) rfl)
theorem ww_289 : (Cond.instanceMethod yX3_crash) ∈ wsL_law := iw_wsL_law_r13 _ (List.mem_of_getElem? (i := 1) rfl)
theorem ww_290 : (Cond.selects RX3 yX3_crash yX3_crash) ∈ wsL_law := iw_wsL_law_r13 _ (List.mem_of_getElem? (i := 2) rfl)
theorem ww_291 : (Cond.code yX3_crash cX3_crash 3 (some .int)) ∈ wsL_law := iw_wsL_law_r13 _ (List.mem_of_getElem? (i := 3) rfl)
theorem ww_292 : (Cond.methodLink RL 43 yX4_crash) ∈ wsL_law := iw_wsL_law_r13 _ (List.mem_of_getElem? (i := 4) rfl)
theorem ww_293 : (Cond.instanceMethod yX4_crash) ∈ wsL_law := iw_wsL_law_r13 _ (List.mem_of_getElem? (i := 5) rfl)
theorem ww_294 : (Cond.selects RX4 yX4_crash yX4_crash) ∈ wsL_law := iw_wsL_law_r13 _ (List.mem_of_getElem? (i := 6) rfl)
theorem ww_295 : (Cond.code yX4_crash cX4_crash 2 (some .int)) ∈ wsL_law := iw_wsL_law_r13 _ (List.mem_of_getElem? (i := 7) rfl)
theorem ww_296 : (Cond.methodLink RL 44 yX3_recover) ∈ wsL_law := iw_wsL_law_r13 _ (List.mem_of_getElem? (i := 8) rfl)
theorem ww_297 : (Cond.instanceMethod yX3_recover) ∈ wsL_law := iw_wsL_law_r13 _ (List.mem_of_getElem? (i := 9) rfl)
theorem ww_298 : (Cond.selects RX3 yX3_recover yX3_recover) ∈ wsL_law := iw_wsL_law_r13 _ (List.mem_of_getElem? (i := 10) rfl)
theorem ww_299 : (Cond.code yX3_recover cX3_recover 3 (some .int)) ∈ wsL_law := iw_wsL_law_r13 _ (List.mem_of_getElem? (i := 11) rfl)
theorem ww_300 : (Cond.methodLink RX3 101 yX3_attempt) ∈ wsL_law := iw_wsL_law_r13 _ (List.mem_of_getElem? (i := 12) rfl)
theorem ww_301 : (Cond.instanceMethod yX3_attempt) ∈ wsL_law := iw_wsL_law_r13 _ (List.mem_of_getElem? (i := 13) rfl)
theorem ww_302 : (Cond.selects RX3 yX3_attempt yX3_attempt) ∈ wsL_law := iw_wsL_law_r13 _ (List.mem_of_getElem? (i := 14) rfl)
theorem ww_303 : (Cond.code yX3_attempt cX3_attempt 3 none) ∈ wsL_law := iw_wsL_law_r13 _ (List.mem_of_getElem? (i := 15) rfl)
theorem ww_304 : (Cond.fieldLink RX3 228 "CommitSites$Site" "stateOf" "[I") ∈ wsL_law := iw_wsL_law_r13 _ (List.mem_of_getElem? (i := 16) rfl)
theorem ww_305 : (Cond.methodLink RL 47 yX4_recover) ∈ wsL_law := iw_wsL_law_r13 _ (List.mem_of_getElem? (i := 17) rfl)
theorem ww_306 : (Cond.instanceMethod yX4_recover) ∈ wsL_law := iw_wsL_law_r13 _ (List.mem_of_getElem? (i := 18) rfl)
theorem ww_307 : (Cond.selects RX4 yX4_recover yX4_recover) ∈ wsL_law := iw_wsL_law_r13 _ (List.mem_of_getElem? (i := 19) rfl)
theorem ww_308 : (Cond.code yX4_recover cX4_recover 2 (some .int)) ∈ wsL_law := iw_wsL_law_r13 _ (List.mem_of_getElem? (i := 20) rfl)
theorem ww_309 : (Cond.methodLink RX4 147 yX4_isDecided) ∈ wsL_law := iw_wsL_law_r13 _ (List.mem_of_getElem? (i := 21) rfl)
theorem ww_310 : (Cond.instanceMethod yX4_isDecided) ∈ wsL_law := iw_wsL_law_r13 _ (List.mem_of_getElem? (i := 22) rfl)
theorem ww_311 : (Cond.selects RX4 yX4_isDecided yX4_isDecided) ∈ wsL_law := iw_wsL_law_r13 _ (List.mem_of_getElem? (i := 23) rfl)
theorem ww_312 : (Cond.code yX4_isDecided cX4_isDecided 2 (some .boolean)) ∈ wsL_law := iw_wsL_law_r14 _ (List.mem_of_getElem? (i := 0) rfl)
theorem ww_313 : (Cond.methodLink RX4 150 yX4_attempt) ∈ wsL_law := iw_wsL_law_r14 _ (List.mem_of_getElem? (i := 1) rfl)
theorem ww_314 : (Cond.instanceMethod yX4_attempt) ∈ wsL_law := iw_wsL_law_r14 _ (List.mem_of_getElem? (i := 2) rfl)
theorem ww_315 : (Cond.selects RX4 yX4_attempt yX4_attempt) ∈ wsL_law := iw_wsL_law_r14 _ (List.mem_of_getElem? (i := 3) rfl)
theorem ww_316 : (Cond.code yX4_attempt cX4_attempt 2 none) ∈ wsL_law := iw_wsL_law_r14 _ (List.mem_of_getElem? (i := 4) rfl)
theorem ww_317 : (Cond.methodLink RL 48 yX3_run) ∈ wsL_law := iw_wsL_law_r14 _ (List.mem_of_getElem? (i := 5) rfl)
theorem ww_318 : (Cond.instanceMethod yX3_run) ∈ wsL_law := iw_wsL_law_r14 _ (List.mem_of_getElem? (i := 6) rfl)
theorem ww_319 : (Cond.selects RX3 yX3_run yX3_run) ∈ wsL_law := iw_wsL_law_r14 _ (List.mem_of_getElem? (i := 7) rfl)
theorem ww_320 : (Cond.code yX3_run cX3_run 6 (some .int)) ∈ wsL_law := iw_wsL_law_r14 _ (List.mem_of_getElem? (i := 8) rfl)
theorem ww_321 : (Cond.constant RX3 107 (1000000)) ∈ wsL_law := iw_wsL_law_r14 _ (List.mem_of_getElem? (i := 9) rfl)
theorem ww_322 : (Cond.methodLink RX3 108 yX3_takeNext) ∈ wsL_law := iw_wsL_law_r14 _ (List.mem_of_getElem? (i := 10) rfl)
theorem ww_323 : (Cond.instanceMethod yX3_takeNext) ∈ wsL_law := iw_wsL_law_r14 _ (List.mem_of_getElem? (i := 11) rfl)
theorem ww_324 : (Cond.selects RX3 yX3_takeNext yX3_takeNext) ∈ wsL_law := iw_wsL_law_r14 _ (List.mem_of_getElem? (i := 12) rfl)
theorem ww_325 : (Cond.code yX3_takeNext cX3_takeNext 5 (some .int)) ∈ wsL_law := iw_wsL_law_r14 _ (List.mem_of_getElem? (i := 13) rfl)
theorem ww_326 : (Cond.fieldLink RX3 115 "CommitSites" "timersRunOut" "I") ∈ wsL_law := iw_wsL_law_r14 _ (List.mem_of_getElem? (i := 14) rfl)
theorem ww_327 : (Cond.fieldLink RX3 157 "CommitSites$Message" "time" "I") ∈ wsL_law := iw_wsL_law_r14 _ (List.mem_of_getElem? (i := 15) rfl)
theorem ww_328 : (Cond.fieldLink RX3 164 "CommitSites$Message" "to" "I") ∈ wsL_law := iw_wsL_law_r14 _ (List.mem_of_getElem? (i := 16) rfl)
theorem ww_329 : (Cond.fieldLink RX3 112 "CommitSites" "messagesCome" "I") ∈ wsL_law := iw_wsL_law_r14 _ (List.mem_of_getElem? (i := 17) rfl)
theorem ww_330 : (Cond.fieldLink RX3 167 "CommitSites$Message" "kind" "I") ∈ wsL_law := iw_wsL_law_r14 _ (List.mem_of_getElem? (i := 18) rfl)
theorem ww_331 : (Cond.fieldLink RX3 170 "CommitSites$Message" "from" "I") ∈ wsL_law := iw_wsL_law_r14 _ (List.mem_of_getElem? (i := 19) rfl)
theorem ww_332 : (Cond.fieldLink RX3 173 "CommitSites$Message" "attempt" "I") ∈ wsL_law := iw_wsL_law_r14 _ (List.mem_of_getElem? (i := 20) rfl)
theorem ww_333 : (Cond.fieldLink RX3 174 "CommitSites$Message" "told" "I") ∈ wsL_law := iw_wsL_law_r14 _ (List.mem_of_getElem? (i := 21) rfl)
theorem ww_334 : (Cond.fieldLink RX3 133 "CommitSites$Network" "lost" "I") ∈ wsL_law := iw_wsL_law_r14 _ (List.mem_of_getElem? (i := 22) rfl)
theorem ww_335 : (Cond.methodLink RX3 143 yX1_first) ∈ wsL_law := iw_wsL_law_r14 _ (List.mem_of_getElem? (i := 23) rfl)
theorem ww_336 : (Cond.instanceMethod yX1_first) ∈ wsL_law := iw_wsL_law_r15 _ (List.mem_of_getElem? (i := 0) rfl)
theorem ww_337 : (Cond.selects RX1 yX1_first yX1_first) ∈ wsL_law := iw_wsL_law_r15 _ (List.mem_of_getElem? (i := 1) rfl)
theorem ww_338 : (Cond.code yX1_first cX1_first 2 (some (.object "CommitSites$Message"))) ∈ wsL_law := iw_wsL_law_r15 _ (List.mem_of_getElem? (i := 2) rfl)
theorem ww_339 : (Cond.methodLink RX3 147 yX3_firstTimer) ∈ wsL_law := iw_wsL_law_r15 _ (List.mem_of_getElem? (i := 3) rfl)
theorem ww_340 : (Cond.instanceMethod yX3_firstTimer) ∈ wsL_law := iw_wsL_law_r15 _ (List.mem_of_getElem? (i := 4) rfl)
theorem ww_341 : (Cond.selects RX3 yX3_firstTimer yX3_firstTimer) ∈ wsL_law := iw_wsL_law_r15 _ (List.mem_of_getElem? (i := 5) rfl)
theorem ww_342 : (Cond.code yX3_firstTimer cX3_firstTimer 3 (some .int)) ∈ wsL_law := iw_wsL_law_r15 _ (List.mem_of_getElem? (i := 6) rfl)
theorem ww_343 : (Cond.methodLink RX3 183 yX2_runsOutEarlier) ∈ wsL_law := iw_wsL_law_r15 _ (List.mem_of_getElem? (i := 7) rfl)
theorem ww_344 : (Cond.instanceMethod yX2_runsOutEarlier) ∈ wsL_law := iw_wsL_law_r15 _ (List.mem_of_getElem? (i := 8) rfl)
theorem ww_345 : (Cond.selects RX2 yX2_runsOutEarlier yX2_runsOutEarlier) ∈ wsL_law := iw_wsL_law_r15 _ (List.mem_of_getElem? (i := 9) rfl)
theorem ww_346 : (Cond.code yX2_runsOutEarlier cX2_runsOutEarlier 2 (some .boolean)) ∈ wsL_law := iw_wsL_law_r15 _ (List.mem_of_getElem? (i := 10) rfl)
theorem ww_347 : (Cond.methodLink RX3 150 yX2_runsOutBefore) ∈ wsL_law := iw_wsL_law_r15 _ (List.mem_of_getElem? (i := 11) rfl)
theorem ww_348 : (Cond.instanceMethod yX2_runsOutBefore) ∈ wsL_law := iw_wsL_law_r15 _ (List.mem_of_getElem? (i := 12) rfl)
theorem ww_349 : (Cond.selects RX2 yX2_runsOutBefore yX2_runsOutBefore) ∈ wsL_law := iw_wsL_law_r15 _ (List.mem_of_getElem? (i := 13) rfl)
theorem ww_350 : (Cond.code yX2_runsOutBefore cX2_runsOutBefore 2 (some .boolean)) ∈ wsL_law := iw_wsL_law_r15 _ (List.mem_of_getElem? (i := 14) rfl)
theorem ww_351 : (Cond.fieldLink RX2 47 "CommitSites$Message" "time" "I") ∈ wsL_law := iw_wsL_law_r15 _ (List.mem_of_getElem? (i := 15) rfl)
theorem ww_352 : (Cond.fieldLink RX2 52 "CommitSites$Message" "order" "I") ∈ wsL_law := iw_wsL_law_r15 _ (List.mem_of_getElem? (i := 16) rfl)
theorem ww_353 : (Cond.methodLink RX3 154 yX3_runOut) ∈ wsL_law := iw_wsL_law_r15 _ (List.mem_of_getElem? (i := 17) rfl)
theorem ww_354 : (Cond.instanceMethod yX3_runOut) ∈ wsL_law := iw_wsL_law_r15 _ (List.mem_of_getElem? (i := 18) rfl)
theorem ww_355 : (Cond.selects RX3 yX3_runOut yX3_runOut) ∈ wsL_law := iw_wsL_law_r15 _ (List.mem_of_getElem? (i := 19) rfl)
theorem ww_356 : (Cond.code yX3_runOut cX3_runOut 3 none) ∈ wsL_law := iw_wsL_law_r15 _ (List.mem_of_getElem? (i := 20) rfl)
theorem ww_357 : (Cond.methodLink RX3 240 yX3_toldWeight) ∈ wsL_law := iw_wsL_law_r15 _ (List.mem_of_getElem? (i := 21) rfl)
theorem ww_358 : (Cond.instanceMethod yX3_toldWeight) ∈ wsL_law := iw_wsL_law_r15 _ (List.mem_of_getElem? (i := 22) rfl)
theorem ww_359 : (Cond.selects RX3 yX3_toldWeight yX3_toldWeight) ∈ wsL_law := iw_wsL_law_r15 _ (List.mem_of_getElem? (i := 23) rfl)
theorem ww_360 : (Cond.code yX3_toldWeight cX3_toldWeight 5 (some .int)) ∈ wsL_law := iw_wsL_law_r16 _ (List.mem_of_getElem? (i := 0) rfl)
theorem ww_361 : (Cond.methodLink RX3 160 yX1_takeOff) ∈ wsL_law := iw_wsL_law_r16 _ (List.mem_of_getElem? (i := 1) rfl)
theorem ww_362 : (Cond.instanceMethod yX1_takeOff) ∈ wsL_law := iw_wsL_law_r16 _ (List.mem_of_getElem? (i := 2) rfl)
theorem ww_363 : (Cond.selects RX1 yX1_takeOff yX1_takeOff) ∈ wsL_law := iw_wsL_law_r16 _ (List.mem_of_getElem? (i := 3) rfl)
theorem ww_364 : (Cond.code yX1_takeOff cX1_takeOff 3 none) ∈ wsL_law := iw_wsL_law_r16 _ (List.mem_of_getElem? (i := 4) rfl)
theorem ww_365 : (Cond.methodLink RX3 177 yX3_receive) ∈ wsL_law := iw_wsL_law_r16 _ (List.mem_of_getElem? (i := 5) rfl)
theorem ww_366 : (Cond.instanceMethod yX3_receive) ∈ wsL_law := iw_wsL_law_r16 _ (List.mem_of_getElem? (i := 6) rfl)
theorem ww_367 : (Cond.selects RX3 yX3_receive yX3_receive) ∈ wsL_law := iw_wsL_law_r16 _ (List.mem_of_getElem? (i := 7) rfl)
theorem ww_368 : (Cond.code yX3_receive cX3_receive 2 none) ∈ wsL_law := iw_wsL_law_r16 _ (List.mem_of_getElem? (i := 8) rfl)
theorem ww_369 : (Cond.methodLink RX3 187 yX3_onAskVote) ∈ wsL_law := iw_wsL_law_r16 _ (List.mem_of_getElem? (i := 9) rfl)
theorem ww_370 : (Cond.instanceMethod yX3_onAskVote) ∈ wsL_law := iw_wsL_law_r16 _ (List.mem_of_getElem? (i := 10) rfl)
theorem ww_371 : (Cond.selects RX3 yX3_onAskVote yX3_onAskVote) ∈ wsL_law := iw_wsL_law_r16 _ (List.mem_of_getElem? (i := 11) rfl)
theorem ww_372 : (Cond.code yX3_onAskVote cX3_onAskVote 4 none) ∈ wsL_law := iw_wsL_law_r16 _ (List.mem_of_getElem? (i := 12) rfl)
theorem ww_373 : (Cond.methodLink RX3 190 yX3_onYes) ∈ wsL_law := iw_wsL_law_r16 _ (List.mem_of_getElem? (i := 13) rfl)
theorem ww_374 : (Cond.instanceMethod yX3_onYes) ∈ wsL_law := iw_wsL_law_r16 _ (List.mem_of_getElem? (i := 14) rfl)
theorem ww_375 : (Cond.selects RX3 yX3_onYes yX3_onYes) ∈ wsL_law := iw_wsL_law_r16 _ (List.mem_of_getElem? (i := 15) rfl)
theorem ww_376 : (Cond.code yX3_onYes cX3_onYes 4 none) ∈ wsL_law := iw_wsL_law_r16 _ (List.mem_of_getElem? (i := 16) rfl)
theorem ww_377 : (Cond.methodLink RX3 193 yX3_onNo) ∈ wsL_law := iw_wsL_law_r16 _ (List.mem_of_getElem? (i := 17) rfl)
theorem ww_378 : (Cond.instanceMethod yX3_onNo) ∈ wsL_law := iw_wsL_law_r16 _ (List.mem_of_getElem? (i := 18) rfl)
theorem ww_379 : (Cond.selects RX3 yX3_onNo yX3_onNo) ∈ wsL_law := iw_wsL_law_r16 _ (List.mem_of_getElem? (i := 19) rfl)
theorem ww_380 : (Cond.code yX3_onNo cX3_onNo 2 none) ∈ wsL_law := iw_wsL_law_r16 _ (List.mem_of_getElem? (i := 20) rfl)
theorem ww_381 : (Cond.methodLink RX3 196 yX3_onAskState) ∈ wsL_law := iw_wsL_law_r16 _ (List.mem_of_getElem? (i := 21) rfl)
theorem ww_382 : (Cond.instanceMethod yX3_onAskState) ∈ wsL_law := iw_wsL_law_r16 _ (List.mem_of_getElem? (i := 22) rfl)
theorem ww_383 : (Cond.selects RX3 yX3_onAskState yX3_onAskState) ∈ wsL_law := iw_wsL_law_r16 _ (List.mem_of_getElem? (i := 23) rfl)
theorem ww_384 : (Cond.code yX3_onAskState cX3_onAskState 5 none) ∈ wsL_law := iw_wsL_law_r17 _ (List.mem_of_getElem? (i := 0) rfl)
theorem ww_385 : (Cond.methodLink RX3 225 yX3_yieldTo) ∈ wsL_law := iw_wsL_law_r17 _ (List.mem_of_getElem? (i := 1) rfl)
theorem ww_386 : (Cond.instanceMethod yX3_yieldTo) ∈ wsL_law := iw_wsL_law_r17 _ (List.mem_of_getElem? (i := 2) rfl)
theorem ww_387 : (Cond.selects RX3 yX3_yieldTo yX3_yieldTo) ∈ wsL_law := iw_wsL_law_r17 _ (List.mem_of_getElem? (i := 3) rfl)
theorem ww_388 : (Cond.code yX3_yieldTo cX3_yieldTo 5 none) ∈ wsL_law := iw_wsL_law_r17 _ (List.mem_of_getElem? (i := 4) rfl)
theorem ww_389 : (Cond.methodLink RX3 200 yX3_onState) ∈ wsL_law := iw_wsL_law_r17 _ (List.mem_of_getElem? (i := 5) rfl)
theorem ww_390 : (Cond.instanceMethod yX3_onState) ∈ wsL_law := iw_wsL_law_r17 _ (List.mem_of_getElem? (i := 6) rfl)
theorem ww_391 : (Cond.selects RX3 yX3_onState yX3_onState) ∈ wsL_law := iw_wsL_law_r17 _ (List.mem_of_getElem? (i := 7) rfl)
theorem ww_392 : (Cond.code yX3_onState cX3_onState 6 none) ∈ wsL_law := iw_wsL_law_r17 _ (List.mem_of_getElem? (i := 8) rfl)
theorem ww_393 : (Cond.methodLink RX3 204 yX3_onAskReady) ∈ wsL_law := iw_wsL_law_r17 _ (List.mem_of_getElem? (i := 9) rfl)
theorem ww_394 : (Cond.instanceMethod yX3_onAskReady) ∈ wsL_law := iw_wsL_law_r17 _ (List.mem_of_getElem? (i := 10) rfl)
theorem ww_395 : (Cond.selects RX3 yX3_onAskReady yX3_onAskReady) ∈ wsL_law := iw_wsL_law_r17 _ (List.mem_of_getElem? (i := 11) rfl)
theorem ww_396 : (Cond.code yX3_onAskReady cX3_onAskReady 6 none) ∈ wsL_law := iw_wsL_law_r17 _ (List.mem_of_getElem? (i := 12) rfl)
theorem ww_397 : (Cond.methodLink RX3 207 yX3_onAcknowledge) ∈ wsL_law := iw_wsL_law_r17 _ (List.mem_of_getElem? (i := 13) rfl)
theorem ww_398 : (Cond.instanceMethod yX3_onAcknowledge) ∈ wsL_law := iw_wsL_law_r17 _ (List.mem_of_getElem? (i := 14) rfl)
theorem ww_399 : (Cond.selects RX3 yX3_onAcknowledge yX3_onAcknowledge) ∈ wsL_law := iw_wsL_law_r17 _ (List.mem_of_getElem? (i := 15) rfl)
theorem ww_400 : (Cond.code yX3_onAcknowledge cX3_onAcknowledge 5 none) ∈ wsL_law := iw_wsL_law_r17 _ (List.mem_of_getElem? (i := 16) rfl)
theorem ww_401 : (Cond.methodLink RX3 234 yX2_collectsAcks) ∈ wsL_law := iw_wsL_law_r17 _ (List.mem_of_getElem? (i := 17) rfl)
theorem ww_402 : (Cond.instanceMethod yX2_collectsAcks) ∈ wsL_law := iw_wsL_law_r17 _ (List.mem_of_getElem? (i := 18) rfl)
theorem ww_403 : (Cond.selects RX2 yX2_collectsAcks yX2_collectsAcks) ∈ wsL_law := iw_wsL_law_r17 _ (List.mem_of_getElem? (i := 19) rfl)
theorem ww_404 : (Cond.code yX2_collectsAcks cX2_collectsAcks 1 (some .boolean)) ∈ wsL_law := iw_wsL_law_r17 _ (List.mem_of_getElem? (i := 20) rfl)
theorem ww_405 : (Cond.methodLink RX3 210 yX3_onDecision) ∈ wsL_law := iw_wsL_law_r17 _ (List.mem_of_getElem? (i := 21) rfl)
theorem ww_406 : (Cond.instanceMethod yX3_onDecision) ∈ wsL_law := iw_wsL_law_r17 _ (List.mem_of_getElem? (i := 22) rfl)
theorem ww_407 : (Cond.selects RX3 yX3_onDecision yX3_onDecision) ∈ wsL_law := iw_wsL_law_r17 _ (List.mem_of_getElem? (i := 23) rfl)
theorem ww_408 : (Cond.code yX3_onDecision cX3_onDecision 4 none) ∈ wsL_law := iw_wsL_law_r18 _ (List.mem_of_getElem? (i := 0) rfl)
theorem ww_409 : (Cond.methodLink RX3 180 yX1_keepSpare) ∈ wsL_law := iw_wsL_law_r18 _ (List.mem_of_getElem? (i := 1) rfl)
theorem ww_410 : (Cond.instanceMethod yX1_keepSpare) ∈ wsL_law := iw_wsL_law_r18 _ (List.mem_of_getElem? (i := 2) rfl)
theorem ww_411 : (Cond.selects RX1 yX1_keepSpare yX1_keepSpare) ∈ wsL_law := iw_wsL_law_r18 _ (List.mem_of_getElem? (i := 3) rfl)
theorem ww_412 : (Cond.code yX1_keepSpare cX1_keepSpare 2 none) ∈ wsL_law := iw_wsL_law_r18 _ (List.mem_of_getElem? (i := 4) rfl)
theorem ww_413 : (Cond.methodLink RL 51 yX4_run) ∈ wsL_law := iw_wsL_law_r18 _ (List.mem_of_getElem? (i := 5) rfl)
theorem ww_414 : (Cond.instanceMethod yX4_run) ∈ wsL_law := iw_wsL_law_r18 _ (List.mem_of_getElem? (i := 6) rfl)
theorem ww_415 : (Cond.selects RX4 yX4_run yX4_run) ∈ wsL_law := iw_wsL_law_r18 _ (List.mem_of_getElem? (i := 7) rfl)
theorem ww_416 : (Cond.code yX4_run cX4_run 4 (some .int)) ∈ wsL_law := iw_wsL_law_r18 _ (List.mem_of_getElem? (i := 8) rfl)
theorem ww_417 : (Cond.fieldLink RX4 164 "CommitSitesModel" "nextWhat" "I") ∈ wsL_law := iw_wsL_law_r18 _ (List.mem_of_getElem? (i := 9) rfl)
theorem ww_418 : (Cond.fieldLink RX4 167 "CommitSitesModel" "nextTime" "I") ∈ wsL_law := iw_wsL_law_r18 _ (List.mem_of_getElem? (i := 10) rfl)
theorem ww_419 : (Cond.methodLink RX4 185 yX4_findNext) ∈ wsL_law := iw_wsL_law_r18 _ (List.mem_of_getElem? (i := 11) rfl)
theorem ww_420 : (Cond.instanceMethod yX4_findNext) ∈ wsL_law := iw_wsL_law_r18 _ (List.mem_of_getElem? (i := 12) rfl)
theorem ww_421 : (Cond.selects RX4 yX4_findNext yX4_findNext) ∈ wsL_law := iw_wsL_law_r18 _ (List.mem_of_getElem? (i := 13) rfl)
theorem ww_422 : (Cond.code yX4_findNext cX4_findNext 4 none) ∈ wsL_law := iw_wsL_law_r18 _ (List.mem_of_getElem? (i := 14) rfl)
theorem ww_423 : (Cond.methodLink RX4 188 yX4_take) ∈ wsL_law := iw_wsL_law_r18 _ (List.mem_of_getElem? (i := 15) rfl)
theorem ww_424 : (Cond.instanceMethod yX4_take) ∈ wsL_law := iw_wsL_law_r18 _ (List.mem_of_getElem? (i := 16) rfl)
theorem ww_425 : (Cond.selects RX4 yX4_take yX4_take) ∈ wsL_law := iw_wsL_law_r18 _ (List.mem_of_getElem? (i := 17) rfl)
theorem ww_426 : (Cond.code yX4_take cX4_take 7 (some .boolean)) ∈ wsL_law := iw_wsL_law_r18 _ (List.mem_of_getElem? (i := 18) rfl)
theorem ww_427 : (Cond.fieldLink RX4 170 "CommitSitesModel" "rang" "I") ∈ wsL_law := iw_wsL_law_r18 _ (List.mem_of_getElem? (i := 19) rfl)
theorem ww_428 : (Cond.fieldLink RX4 179 "CommitSitesModel" "come" "I") ∈ wsL_law := iw_wsL_law_r18 _ (List.mem_of_getElem? (i := 20) rfl)
theorem ww_429 : (Cond.methodLink RX4 173 yX4_tell) ∈ wsL_law := iw_wsL_law_r18 _ (List.mem_of_getElem? (i := 21) rfl)
theorem ww_430 : (Cond.instanceMethod yX4_tell) ∈ wsL_law := iw_wsL_law_r18 _ (List.mem_of_getElem? (i := 22) rfl)
theorem ww_431 : (Cond.selects RX4 yX4_tell yX4_tell) ∈ wsL_law := iw_wsL_law_r18 _ (List.mem_of_getElem? (i := 23) rfl)
theorem ww_432 : (Cond.code yX4_tell cX4_tell 6 none) ∈ wsL_law := iw_wsL_law_r19 _ (List.mem_of_getElem? (i := 0) rfl)
theorem ww_433 : (Cond.methodLink RX4 176 yX4_ring) ∈ wsL_law := iw_wsL_law_r19 _ (List.mem_of_getElem? (i := 1) rfl)
theorem ww_434 : (Cond.instanceMethod yX4_ring) ∈ wsL_law := iw_wsL_law_r19 _ (List.mem_of_getElem? (i := 2) rfl)
theorem ww_435 : (Cond.selects RX4 yX4_ring yX4_ring) ∈ wsL_law := iw_wsL_law_r19 _ (List.mem_of_getElem? (i := 3) rfl)
theorem ww_436 : (Cond.code yX4_ring cX4_ring 4 none) ∈ wsL_law := iw_wsL_law_r19 _ (List.mem_of_getElem? (i := 4) rfl)
theorem ww_437 : (Cond.methodLink RX4 160 yX4_weightOf) ∈ wsL_law := iw_wsL_law_r19 _ (List.mem_of_getElem? (i := 5) rfl)
theorem ww_438 : (Cond.instanceMethod yX4_weightOf) ∈ wsL_law := iw_wsL_law_r19 _ (List.mem_of_getElem? (i := 6) rfl)
theorem ww_439 : (Cond.selects RX4 yX4_weightOf yX4_weightOf) ∈ wsL_law := iw_wsL_law_r19 _ (List.mem_of_getElem? (i := 7) rfl)
theorem ww_440 : (Cond.code yX4_weightOf cX4_weightOf 6 (some .int)) ∈ wsL_law := iw_wsL_law_r19 _ (List.mem_of_getElem? (i := 8) rfl)
theorem ww_441 : (Cond.methodLink RX4 182 yX4_handle) ∈ wsL_law := iw_wsL_law_r19 _ (List.mem_of_getElem? (i := 9) rfl)
theorem ww_442 : (Cond.instanceMethod yX4_handle) ∈ wsL_law := iw_wsL_law_r19 _ (List.mem_of_getElem? (i := 10) rfl)
theorem ww_443 : (Cond.selects RX4 yX4_handle yX4_handle) ∈ wsL_law := iw_wsL_law_r19 _ (List.mem_of_getElem? (i := 11) rfl)
theorem ww_444 : (Cond.code yX4_handle cX4_handle 6 none) ∈ wsL_law := iw_wsL_law_r19 _ (List.mem_of_getElem? (i := 12) rfl)
theorem ww_445 : (Cond.methodLink RX4 153 yX4_yieldTo) ∈ wsL_law := iw_wsL_law_r19 _ (List.mem_of_getElem? (i := 13) rfl)
theorem ww_446 : (Cond.instanceMethod yX4_yieldTo) ∈ wsL_law := iw_wsL_law_r19 _ (List.mem_of_getElem? (i := 14) rfl)
theorem ww_447 : (Cond.selects RX4 yX4_yieldTo yX4_yieldTo) ∈ wsL_law := iw_wsL_law_r19 _ (List.mem_of_getElem? (i := 15) rfl)
theorem ww_448 : (Cond.code yX4_yieldTo cX4_yieldTo 4 none) ∈ wsL_law := iw_wsL_law_r19 _ (List.mem_of_getElem? (i := 16) rfl)
theorem ww_449 : (Cond.methodLink RX4 156 yX4_prepare) ∈ wsL_law := iw_wsL_law_r19 _ (List.mem_of_getElem? (i := 17) rfl)
theorem ww_450 : (Cond.instanceMethod yX4_prepare) ∈ wsL_law := iw_wsL_law_r19 _ (List.mem_of_getElem? (i := 18) rfl)
theorem ww_451 : (Cond.selects RX4 yX4_prepare yX4_prepare) ∈ wsL_law := iw_wsL_law_r19 _ (List.mem_of_getElem? (i := 19) rfl)
theorem ww_452 : (Cond.code yX4_prepare cX4_prepare 5 none) ∈ wsL_law := iw_wsL_law_r19 _ (List.mem_of_getElem? (i := 20) rfl)
theorem ww_453 : (Cond.methodLink RL 52 yX3_step) ∈ wsL_law := iw_wsL_law_r19 _ (List.mem_of_getElem? (i := 21) rfl)
theorem ww_454 : (Cond.instanceMethod yX3_step) ∈ wsL_law := iw_wsL_law_r19 _ (List.mem_of_getElem? (i := 22) rfl)
theorem ww_455 : (Cond.selects RX3 yX3_step yX3_step) ∈ wsL_law := iw_wsL_law_r19 _ (List.mem_of_getElem? (i := 23) rfl)
theorem ww_456 : (Cond.code yX3_step cX3_step 3 (some .int)) ∈ wsL_law := iw_wsL_law_r20 _ (List.mem_of_getElem? (i := 0) rfl)
theorem ww_457 : (Cond.methodLink RL 56 yX4_step) ∈ wsL_law := iw_wsL_law_r20 _ (List.mem_of_getElem? (i := 1) rfl)
theorem ww_458 : (Cond.instanceMethod yX4_step) ∈ wsL_law := iw_wsL_law_r20 _ (List.mem_of_getElem? (i := 2) rfl)
theorem ww_459 : (Cond.selects RX4 yX4_step yX4_step) ∈ wsL_law := iw_wsL_law_r20 _ (List.mem_of_getElem? (i := 3) rfl)
theorem ww_460 : (Cond.code yX4_step cX4_step 1 (some .int)) ∈ wsL_law := iw_wsL_law_r20 _ (List.mem_of_getElem? (i := 4) rfl)
theorem ww_461 : (Cond.methodLink RL 57 yX3_reset) ∈ wsL_law := iw_wsL_law_r20 _ (List.mem_of_getElem? (i := 5) rfl)
theorem ww_462 : (Cond.instanceMethod yX3_reset) ∈ wsL_law := iw_wsL_law_r20 _ (List.mem_of_getElem? (i := 6) rfl)
theorem ww_463 : (Cond.selects RX3 yX3_reset yX3_reset) ∈ wsL_law := iw_wsL_law_r20 _ (List.mem_of_getElem? (i := 7) rfl)
theorem ww_464 : (Cond.code yX3_reset cX3_reset 2 (some .int)) ∈ wsL_law := iw_wsL_law_r20 _ (List.mem_of_getElem? (i := 8) rfl)
theorem ww_465 : (Cond.methodLink RX3 118 yX1_startAnew) ∈ wsL_law := iw_wsL_law_r20 _ (List.mem_of_getElem? (i := 9) rfl)
theorem ww_466 : (Cond.instanceMethod yX1_startAnew) ∈ wsL_law := iw_wsL_law_r20 _ (List.mem_of_getElem? (i := 10) rfl)
theorem ww_467 : (Cond.selects RX1 yX1_startAnew yX1_startAnew) ∈ wsL_law := iw_wsL_law_r20 _ (List.mem_of_getElem? (i := 11) rfl)
theorem ww_468 : (Cond.code yX1_startAnew cX1_startAnew 2 none) ∈ wsL_law := iw_wsL_law_r20 _ (List.mem_of_getElem? (i := 12) rfl)
theorem ww_469 : (Cond.methodLink RX3 121 yX2_startAnew) ∈ wsL_law := iw_wsL_law_r20 _ (List.mem_of_getElem? (i := 13) rfl)
theorem ww_470 : (Cond.methodLink RL 60 yX4_reset) ∈ wsL_law := iw_wsL_law_r20 _ (List.mem_of_getElem? (i := 14) rfl)
theorem ww_471 : (Cond.instanceMethod yX4_reset) ∈ wsL_law := iw_wsL_law_r20 _ (List.mem_of_getElem? (i := 15) rfl)
theorem ww_472 : (Cond.selects RX4 yX4_reset yX4_reset) ∈ wsL_law := iw_wsL_law_r20 _ (List.mem_of_getElem? (i := 16) rfl)
theorem ww_473 : (Cond.code yX4_reset cX4_reset 2 (some .int)) ∈ wsL_law := iw_wsL_law_r20 _ (List.mem_of_getElem? (i := 17) rfl)
theorem ww_474 : (Cond.methodLink RL 61 yX3_of) ∈ wsL_law := iw_wsL_law_r20 _ (List.mem_of_getElem? (i := 18) rfl)
theorem ww_475 : (Cond.instanceMethod yX3_of) ∈ wsL_law := iw_wsL_law_r20 _ (List.mem_of_getElem? (i := 19) rfl)
theorem ww_476 : (Cond.selects RX3 yX3_of yX3_of) ∈ wsL_law := iw_wsL_law_r20 _ (List.mem_of_getElem? (i := 20) rfl)
theorem ww_477 : (Cond.code yX3_of cX3_of 4 (some .int)) ∈ wsL_law := iw_wsL_law_r20 _ (List.mem_of_getElem? (i := 21) rfl)
theorem ww_478 : (Cond.methodLink RL 64 yX4_of) ∈ wsL_law := iw_wsL_law_r20 _ (List.mem_of_getElem? (i := 22) rfl)
theorem ww_479 : (Cond.instanceMethod yX4_of) ∈ wsL_law := iw_wsL_law_r20 _ (List.mem_of_getElem? (i := 23) rfl)
theorem ww_480 : (Cond.selects RX4 yX4_of yX4_of) ∈ wsL_law := iw_wsL_law_r21 _ (List.mem_of_getElem? (i := 0) rfl)
theorem ww_481 : (Cond.code yX4_of cX4_of 3 (some .int)) ∈ wsL_law := iw_wsL_law_r21 _ (List.mem_of_getElem? (i := 1) rfl)
theorem ww_482 : (Cond.methodLink RL 65 yX3_count) ∈ wsL_law := iw_wsL_law_r21 _ (List.mem_of_getElem? (i := 2) rfl)
theorem ww_483 : (Cond.instanceMethod yX3_count) ∈ wsL_law := iw_wsL_law_r21 _ (List.mem_of_getElem? (i := 3) rfl)
theorem ww_484 : (Cond.selects RX3 yX3_count yX3_count) ∈ wsL_law := iw_wsL_law_r21 _ (List.mem_of_getElem? (i := 4) rfl)
theorem ww_485 : (Cond.code yX3_count cX3_count 2 (some .int)) ∈ wsL_law := iw_wsL_law_r21 _ (List.mem_of_getElem? (i := 5) rfl)
theorem ww_486 : (Cond.fieldLink RX3 130 "CommitSites$Network" "sent" "I") ∈ wsL_law := iw_wsL_law_r21 _ (List.mem_of_getElem? (i := 6) rfl)
theorem ww_487 : (Cond.fieldLink RX3 136 "CommitSites$Network" "onWay" "I") ∈ wsL_law := iw_wsL_law_r21 _ (List.mem_of_getElem? (i := 7) rfl)
theorem ww_488 : (Cond.methodLink RL 68 yX4_count) ∈ wsL_law := iw_wsL_law_r21 _ (List.mem_of_getElem? (i := 8) rfl)
theorem ww_489 : (Cond.instanceMethod yX4_count) ∈ wsL_law := iw_wsL_law_r21 _ (List.mem_of_getElem? (i := 9) rfl)
theorem ww_490 : (Cond.selects RX4 yX4_count yX4_count) ∈ wsL_law := iw_wsL_law_r21 _ (List.mem_of_getElem? (i := 10) rfl)
theorem ww_491 : (Cond.code yX4_count cX4_count 2 (some .int)) ∈ wsL_law := iw_wsL_law_r21 _ (List.mem_of_getElem? (i := 11) rfl)
theorem ww_492 : (Cond.methodLink RL 69 yX3_delay) ∈ wsL_law := iw_wsL_law_r21 _ (List.mem_of_getElem? (i := 12) rfl)
theorem ww_493 : (Cond.instanceMethod yX3_delay) ∈ wsL_law := iw_wsL_law_r21 _ (List.mem_of_getElem? (i := 13) rfl)
theorem ww_494 : (Cond.selects RX3 yX3_delay yX3_delay) ∈ wsL_law := iw_wsL_law_r21 _ (List.mem_of_getElem? (i := 14) rfl)
theorem ww_495 : (Cond.code yX3_delay cX3_delay 3 (some .int)) ∈ wsL_law := iw_wsL_law_r21 _ (List.mem_of_getElem? (i := 15) rfl)
theorem ww_496 : (Cond.methodLink RL 72 yX4_delay) ∈ wsL_law := iw_wsL_law_r21 _ (List.mem_of_getElem? (i := 16) rfl)
theorem ww_497 : (Cond.instanceMethod yX4_delay) ∈ wsL_law := iw_wsL_law_r21 _ (List.mem_of_getElem? (i := 17) rfl)
theorem ww_498 : (Cond.selects RX4 yX4_delay yX4_delay) ∈ wsL_law := iw_wsL_law_r21 _ (List.mem_of_getElem? (i := 18) rfl)
theorem ww_499 : (Cond.code yX4_delay cX4_delay 3 (some .int)) ∈ wsL_law := iw_wsL_law_r21 _ (List.mem_of_getElem? (i := 19) rfl)
theorem ww_500 : (Cond.methodLink RL 73 yX3_weight) ∈ wsL_law := iw_wsL_law_r21 _ (List.mem_of_getElem? (i := 20) rfl)
theorem ww_501 : (Cond.instanceMethod yX3_weight) ∈ wsL_law := iw_wsL_law_r21 _ (List.mem_of_getElem? (i := 21) rfl)
theorem ww_502 : (Cond.selects RX3 yX3_weight yX3_weight) ∈ wsL_law := iw_wsL_law_r21 _ (List.mem_of_getElem? (i := 22) rfl)
theorem ww_503 : (Cond.code yX3_weight cX3_weight 4 (some .int)) ∈ wsL_law := iw_wsL_law_r21 _ (List.mem_of_getElem? (i := 23) rfl)
theorem ww_504 : (Cond.methodLink RL 76 yX4_weight) ∈ wsL_law := iw_wsL_law_r22 _ (List.mem_of_getElem? (i := 0) rfl)
theorem ww_505 : (Cond.instanceMethod yX4_weight) ∈ wsL_law := iw_wsL_law_r22 _ (List.mem_of_getElem? (i := 1) rfl)
theorem ww_506 : (Cond.selects RX4 yX4_weight yX4_weight) ∈ wsL_law := iw_wsL_law_r22 _ (List.mem_of_getElem? (i := 2) rfl)
theorem ww_507 : (Cond.code yX4_weight cX4_weight 4 (some .int)) ∈ wsL_law := iw_wsL_law_r22 _ (List.mem_of_getElem? (i := 3) rfl)
theorem ww_508 : (Cond.methodLink RL 77 yX3_latest) ∈ wsL_law := iw_wsL_law_r22 _ (List.mem_of_getElem? (i := 4) rfl)
theorem ww_509 : (Cond.instanceMethod yX3_latest) ∈ wsL_law := iw_wsL_law_r22 _ (List.mem_of_getElem? (i := 5) rfl)
theorem ww_510 : (Cond.selects RX3 yX3_latest yX3_latest) ∈ wsL_law := iw_wsL_law_r22 _ (List.mem_of_getElem? (i := 6) rfl)
theorem ww_511 : (Cond.code yX3_latest cX3_latest 2 (some .int)) ∈ wsL_law := iw_wsL_law_r22 _ (List.mem_of_getElem? (i := 7) rfl)
theorem ww_512 : (Cond.methodLink RL 80 yX4_latest) ∈ wsL_law := iw_wsL_law_r22 _ (List.mem_of_getElem? (i := 8) rfl)
theorem ww_513 : (Cond.instanceMethod yX4_latest) ∈ wsL_law := iw_wsL_law_r22 _ (List.mem_of_getElem? (i := 9) rfl)
theorem ww_514 : (Cond.selects RX4 yX4_latest yX4_latest) ∈ wsL_law := iw_wsL_law_r22 _ (List.mem_of_getElem? (i := 10) rfl)
theorem ww_515 : (Cond.code yX4_latest cX4_latest 2 (some .int)) ∈ wsL_law := iw_wsL_law_r22 _ (List.mem_of_getElem? (i := 11) rfl)
theorem ww_516 : (Cond.methodLink RL 81 yX3_check) ∈ wsL_law := iw_wsL_law_r22 _ (List.mem_of_getElem? (i := 12) rfl)
theorem ww_517 : (Cond.instanceMethod yX3_check) ∈ wsL_law := iw_wsL_law_r22 _ (List.mem_of_getElem? (i := 13) rfl)
theorem ww_518 : (Cond.selects RX3 yX3_check yX3_check) ∈ wsL_law := iw_wsL_law_r22 _ (List.mem_of_getElem? (i := 14) rfl)
theorem ww_519 : (Cond.code yX3_check cX3_check 5 (some .int)) ∈ wsL_law := iw_wsL_law_r22 _ (List.mem_of_getElem? (i := 15) rfl)
theorem ww_520 : (Cond.methodLink RL 84 yX4_check) ∈ wsL_law := iw_wsL_law_r22 _ (List.mem_of_getElem? (i := 16) rfl)
theorem ww_521 : (Cond.instanceMethod yX4_check) ∈ wsL_law := iw_wsL_law_r22 _ (List.mem_of_getElem? (i := 17) rfl)
theorem ww_522 : (Cond.selects RX4 yX4_check yX4_check) ∈ wsL_law := iw_wsL_law_r22 _ (List.mem_of_getElem? (i := 18) rfl)
theorem ww_523 : (Cond.code yX4_check cX4_check 1 (some .int)) ∈ wsL_law := iw_wsL_law_r22 _ (List.mem_of_getElem? (i := 19) rfl)
theorem ww_good : GoodIn wsL_law wsL_law := fun w h => ⟨h, (goodIn_lw w h).2⟩
end
section
theorem dX0_init_0 : decode cX0_init 0 = .ok (.aload_n 0, 1) := by decide +kernel
theorem dX0_init_1 : decode cX0_init 1 = .ok (.invokespecial 1, 3) := by decide +kernel
theorem dX0_init_4 : decode cX0_init 4 = .ok (.return_, 1) := by decide +kernel
theorem dX1_init_0 : decode cX1_init 0 = .ok (.aload_n 0, 1) := by decide +kernel
theorem dX1_init_1 : decode cX1_init 1 = .ok (.invokespecial 3, 3) := by decide +kernel
theorem dX1_init_4 : decode cX1_init 4 = .ok (.aload_n 0, 1) := by decide +kernel
theorem dX1_init_5 : decode cX1_init 5 = .ok (.bipush 8, 2) := by decide +kernel
theorem dX1_init_7 : decode cX1_init 7 = .ok (.bipush 8, 2) := by decide +kernel
theorem dX1_init_9 : decode cX1_init 9 = .ok (.multianewarray 9 2, 4) := by decide +kernel
theorem dX1_init_13 : decode cX1_init 13 = .ok (.putfield 11, 3) := by decide +kernel
theorem dX1_init_16 : decode cX1_init 16 = .ok (.aload_n 0, 1) := by decide +kernel
theorem dX1_init_17 : decode cX1_init 17 = .ok (.bipush 32, 2) := by decide +kernel
theorem dX1_init_19 : decode cX1_init 19 = .ok (.anewarray 16, 3) := by decide +kernel
theorem dX1_init_22 : decode cX1_init 22 = .ok (.putfield 18, 3) := by decide +kernel
theorem dX1_init_25 : decode cX1_init 25 = .ok (.aload_n 0, 1) := by decide +kernel
theorem dX1_init_26 : decode cX1_init 26 = .ok (.bipush 32, 2) := by decide +kernel
theorem dX1_init_28 : decode cX1_init 28 = .ok (.anewarray 16, 3) := by decide +kernel
theorem dX1_init_31 : decode cX1_init 31 = .ok (.putfield 22, 3) := by decide +kernel
theorem dX1_init_34 : decode cX1_init 34 = .ok (.iconst 0, 1) := by decide +kernel
theorem dX1_init_35 : decode cX1_init 35 = .ok (.istore_n 1, 1) := by decide +kernel
theorem dX1_init_36 : decode cX1_init 36 = .ok (.iload_n 1, 1) := by decide +kernel
theorem dX1_init_37 : decode cX1_init 37 = .ok (.bipush 8, 2) := by decide +kernel
theorem dX1_init_39 : decode cX1_init 39 = .ok (.if_icmp .ge 32, 3) := by decide +kernel
theorem dX1_init_42 : decode cX1_init 42 = .ok (.iconst 0, 1) := by decide +kernel
theorem dX1_init_43 : decode cX1_init 43 = .ok (.istore_n 2, 1) := by decide +kernel
theorem dX1_init_44 : decode cX1_init 44 = .ok (.iload_n 2, 1) := by decide +kernel
theorem dX1_init_45 : decode cX1_init 45 = .ok (.bipush 8, 2) := by decide +kernel
theorem dX1_init_47 : decode cX1_init 47 = .ok (.if_icmp .ge 18, 3) := by decide +kernel
theorem dX1_init_50 : decode cX1_init 50 = .ok (.aload_n 0, 1) := by decide +kernel
theorem dX1_init_51 : decode cX1_init 51 = .ok (.getfield 11, 3) := by decide +kernel
theorem dX1_init_54 : decode cX1_init 54 = .ok (.iload_n 1, 1) := by decide +kernel
theorem dX1_init_55 : decode cX1_init 55 = .ok (.aaload, 1) := by decide +kernel
theorem dX1_init_56 : decode cX1_init 56 = .ok (.iload_n 2, 1) := by decide +kernel
theorem dX1_init_57 : decode cX1_init 57 = .ok (.iconst 1, 1) := by decide +kernel
theorem dX1_init_58 : decode cX1_init 58 = .ok (.iastore, 1) := by decide +kernel
theorem dX1_init_59 : decode cX1_init 59 = .ok (.iinc 2 1, 3) := by decide +kernel
theorem dX1_init_62 : decode cX1_init 62 = .ok (.goto (-18), 3) := by decide +kernel
theorem dX1_init_65 : decode cX1_init 65 = .ok (.iinc 1 1, 3) := by decide +kernel
theorem dX1_init_68 : decode cX1_init 68 = .ok (.goto (-32), 3) := by decide +kernel
theorem dX1_init_71 : decode cX1_init 71 = .ok (.return_, 1) := by decide +kernel
theorem dX1_startAnew_0 : decode cX1_startAnew 0 = .ok (.iconst 0, 1) := by decide +kernel
theorem dX1_startAnew_1 : decode cX1_startAnew 1 = .ok (.istore_n 1, 1) := by decide +kernel
theorem dX1_startAnew_2 : decode cX1_startAnew 2 = .ok (.iload_n 1, 1) := by decide +kernel
theorem dX1_startAnew_3 : decode cX1_startAnew 3 = .ok (.bipush 32, 2) := by decide +kernel
theorem dX1_startAnew_5 : decode cX1_startAnew 5 = .ok (.if_icmp .ge 55, 3) := by decide +kernel
theorem dX1_startAnew_8 : decode cX1_startAnew 8 = .ok (.aload_n 0, 1) := by decide +kernel
theorem dX1_startAnew_9 : decode cX1_startAnew 9 = .ok (.getfield 22, 3) := by decide +kernel
theorem dX1_startAnew_12 : decode cX1_startAnew 12 = .ok (.iload_n 1, 1) := by decide +kernel
theorem dX1_startAnew_13 : decode cX1_startAnew 13 = .ok (.aaload, 1) := by decide +kernel
theorem dX1_startAnew_14 : decode cX1_startAnew 14 = .ok (.ifnull 26, 3) := by decide +kernel
theorem dX1_startAnew_17 : decode cX1_startAnew 17 = .ok (.aload_n 0, 1) := by decide +kernel
theorem dX1_startAnew_18 : decode cX1_startAnew 18 = .ok (.getfield 22, 3) := by decide +kernel
theorem dX1_startAnew_21 : decode cX1_startAnew 21 = .ok (.iload_n 1, 1) := by decide +kernel
theorem dX1_startAnew_22 : decode cX1_startAnew 22 = .ok (.aaload, 1) := by decide +kernel
theorem dX1_startAnew_23 : decode cX1_startAnew 23 = .ok (.aload_n 0, 1) := by decide +kernel
theorem dX1_startAnew_24 : decode cX1_startAnew 24 = .ok (.getfield 25, 3) := by decide +kernel
theorem dX1_startAnew_27 : decode cX1_startAnew 27 = .ok (.putfield 29, 3) := by decide +kernel
theorem dX1_startAnew_30 : decode cX1_startAnew 30 = .ok (.aload_n 0, 1) := by decide +kernel
theorem dX1_startAnew_31 : decode cX1_startAnew 31 = .ok (.aload_n 0, 1) := by decide +kernel
theorem dX1_startAnew_32 : decode cX1_startAnew 32 = .ok (.getfield 18, 3) := by decide +kernel
theorem dX1_startAnew_35 : decode cX1_startAnew 35 = .ok (.iload_n 1, 1) := by decide +kernel
theorem dX1_startAnew_36 : decode cX1_startAnew 36 = .ok (.aaload, 1) := by decide +kernel
theorem dX1_startAnew_37 : decode cX1_startAnew 37 = .ok (.putfield 25, 3) := by decide +kernel
theorem dX1_startAnew_40 : decode cX1_startAnew 40 = .ok (.aload_n 0, 1) := by decide +kernel
theorem dX1_startAnew_41 : decode cX1_startAnew 41 = .ok (.getfield 18, 3) := by decide +kernel
theorem dX1_startAnew_44 : decode cX1_startAnew 44 = .ok (.iload_n 1, 1) := by decide +kernel
theorem dX1_startAnew_45 : decode cX1_startAnew 45 = .ok (.aconst_null, 1) := by decide +kernel
theorem dX1_startAnew_46 : decode cX1_startAnew 46 = .ok (.aastore, 1) := by decide +kernel
theorem dX1_startAnew_47 : decode cX1_startAnew 47 = .ok (.aload_n 0, 1) := by decide +kernel
theorem dX1_startAnew_48 : decode cX1_startAnew 48 = .ok (.getfield 22, 3) := by decide +kernel
theorem dX1_startAnew_51 : decode cX1_startAnew 51 = .ok (.iload_n 1, 1) := by decide +kernel
theorem dX1_startAnew_52 : decode cX1_startAnew 52 = .ok (.aconst_null, 1) := by decide +kernel
theorem dX1_startAnew_53 : decode cX1_startAnew 53 = .ok (.aastore, 1) := by decide +kernel
theorem dX1_startAnew_54 : decode cX1_startAnew 54 = .ok (.iinc 1 1, 3) := by decide +kernel
theorem dX1_startAnew_57 : decode cX1_startAnew 57 = .ok (.goto (-55), 3) := by decide +kernel
theorem dX1_startAnew_60 : decode cX1_startAnew 60 = .ok (.aload_n 0, 1) := by decide +kernel
theorem dX1_startAnew_61 : decode cX1_startAnew 61 = .ok (.iconst 0, 1) := by decide +kernel
theorem dX1_startAnew_62 : decode cX1_startAnew 62 = .ok (.putfield 32, 3) := by decide +kernel
theorem dX1_startAnew_65 : decode cX1_startAnew 65 = .ok (.aload_n 0, 1) := by decide +kernel
theorem dX1_startAnew_66 : decode cX1_startAnew 66 = .ok (.iconst 0, 1) := by decide +kernel
theorem dX1_startAnew_67 : decode cX1_startAnew 67 = .ok (.putfield 36, 3) := by decide +kernel
theorem dX1_startAnew_70 : decode cX1_startAnew 70 = .ok (.aload_n 0, 1) := by decide +kernel
theorem dX1_startAnew_71 : decode cX1_startAnew 71 = .ok (.iconst 0, 1) := by decide +kernel
theorem dX1_startAnew_72 : decode cX1_startAnew 72 = .ok (.putfield 39, 3) := by decide +kernel
theorem dX1_startAnew_75 : decode cX1_startAnew 75 = .ok (.aload_n 0, 1) := by decide +kernel
theorem dX1_startAnew_76 : decode cX1_startAnew 76 = .ok (.iconst 0, 1) := by decide +kernel
theorem dX1_startAnew_77 : decode cX1_startAnew 77 = .ok (.putfield 42, 3) := by decide +kernel
theorem dX1_startAnew_80 : decode cX1_startAnew 80 = .ok (.aload_n 0, 1) := by decide +kernel
theorem dX1_startAnew_81 : decode cX1_startAnew 81 = .ok (.iconst 0, 1) := by decide +kernel
theorem dX1_startAnew_82 : decode cX1_startAnew 82 = .ok (.putfield 45, 3) := by decide +kernel
theorem dX1_startAnew_85 : decode cX1_startAnew 85 = .ok (.return_, 1) := by decide +kernel
theorem dX1_nextOrder_0 : decode cX1_nextOrder 0 = .ok (.aload_n 0, 1) := by decide +kernel
theorem dX1_nextOrder_1 : decode cX1_nextOrder 1 = .ok (.dup, 1) := by decide +kernel
theorem dX1_nextOrder_2 : decode cX1_nextOrder 2 = .ok (.getfield 36, 3) := by decide +kernel
theorem dX1_nextOrder_5 : decode cX1_nextOrder 5 = .ok (.dup_x1, 1) := by decide +kernel
theorem dX1_nextOrder_6 : decode cX1_nextOrder 6 = .ok (.iconst 1, 1) := by decide +kernel
theorem dX1_nextOrder_7 : decode cX1_nextOrder 7 = .ok (.iadd, 1) := by decide +kernel
theorem dX1_nextOrder_8 : decode cX1_nextOrder 8 = .ok (.putfield 36, 3) := by decide +kernel
theorem dX1_nextOrder_11 : decode cX1_nextOrder 11 = .ok (.ireturn, 1) := by decide +kernel
theorem dX1_send_0 : decode cX1_send 0 = .ok (.iconst 0, 1) := by decide +kernel
theorem dX1_send_1 : decode cX1_send 1 = .ok (.istore 6, 2) := by decide +kernel
theorem dX1_send_3 : decode cX1_send 3 = .ok (.iload 6, 2) := by decide +kernel
theorem dX1_send_5 : decode cX1_send 5 = .ok (.bipush 8, 2) := by decide +kernel
theorem dX1_send_7 : decode cX1_send 7 = .ok (.if_icmp .ge 137, 3) := by decide +kernel
theorem dX1_send_10 : decode cX1_send 10 = .ok (.iload_n 2, 1) := by decide +kernel
theorem dX1_send_11 : decode cX1_send 11 = .ok (.iload 6, 2) := by decide +kernel
theorem dX1_send_13 : decode cX1_send 13 = .ok (.invokestatic 48, 3) := by decide +kernel
theorem dX1_send_16 : decode cX1_send 16 = .ok (.ifCond .ne 6, 3) := by decide +kernel
theorem dX1_send_19 : decode cX1_send 19 = .ok (.goto 119, 3) := by decide +kernel
theorem dX1_send_22 : decode cX1_send 22 = .ok (.aload_n 0, 1) := by decide +kernel
theorem dX1_send_23 : decode cX1_send 23 = .ok (.dup, 1) := by decide +kernel
theorem dX1_send_24 : decode cX1_send 24 = .ok (.getfield 39, 3) := by decide +kernel
theorem dX1_send_27 : decode cX1_send 27 = .ok (.iconst 1, 1) := by decide +kernel
theorem dX1_send_28 : decode cX1_send 28 = .ok (.iadd, 1) := by decide +kernel
theorem dX1_send_29 : decode cX1_send 29 = .ok (.putfield 39, 3) := by decide +kernel
theorem dX1_send_32 : decode cX1_send 32 = .ok (.aload_n 0, 1) := by decide +kernel
theorem dX1_send_33 : decode cX1_send 33 = .ok (.getfield 11, 3) := by decide +kernel
theorem dX1_send_36 : decode cX1_send 36 = .ok (.iload_n 1, 1) := by decide +kernel
theorem dX1_send_37 : decode cX1_send 37 = .ok (.aaload, 1) := by decide +kernel
theorem dX1_send_38 : decode cX1_send 38 = .ok (.iload 6, 2) := by decide +kernel
theorem dX1_send_40 : decode cX1_send 40 = .ok (.iaload, 1) := by decide +kernel
theorem dX1_send_41 : decode cX1_send 41 = .ok (.ifCond .eq 13, 3) := by decide +kernel
theorem dX1_send_44 : decode cX1_send 44 = .ok (.aload_n 0, 1) := by decide +kernel
theorem dX1_send_45 : decode cX1_send 45 = .ok (.getfield 45, 3) := by decide +kernel
theorem dX1_send_48 : decode cX1_send 48 = .ok (.sipush 4096, 3) := by decide +kernel
theorem dX1_send_51 : decode cX1_send 51 = .ok (.if_icmp .lt 16, 3) := by decide +kernel
theorem dX1_send_54 : decode cX1_send 54 = .ok (.aload_n 0, 1) := by decide +kernel
theorem dX1_send_55 : decode cX1_send 55 = .ok (.dup, 1) := by decide +kernel
theorem dX1_send_56 : decode cX1_send 56 = .ok (.getfield 42, 3) := by decide +kernel
theorem dX1_send_59 : decode cX1_send 59 = .ok (.iconst 1, 1) := by decide +kernel
theorem dX1_send_60 : decode cX1_send 60 = .ok (.iadd, 1) := by decide +kernel
theorem dX1_send_61 : decode cX1_send 61 = .ok (.putfield 42, 3) := by decide +kernel
theorem dX1_send_64 : decode cX1_send 64 = .ok (.goto 74, 3) := by decide +kernel
theorem dX1_send_67 : decode cX1_send 67 = .ok (.aload_n 0, 1) := by decide +kernel
theorem dX1_send_68 : decode cX1_send 68 = .ok (.getfield 25, 3) := by decide +kernel
theorem dX1_send_71 : decode cX1_send 71 = .ok (.astore 7, 2) := by decide +kernel
theorem dX1_send_73 : decode cX1_send 73 = .ok (.aload 7, 2) := by decide +kernel
theorem dX1_send_75 : decode cX1_send 75 = .ok (.ifnonnull 15, 3) := by decide +kernel
theorem dX1_send_78 : decode cX1_send 78 = .ok (.new 16, 3) := by decide +kernel
theorem dX1_send_81 : decode cX1_send 81 = .ok (.dup, 1) := by decide +kernel
theorem dX1_send_82 : decode cX1_send 82 = .ok (.invokespecial 52, 3) := by decide +kernel
theorem dX1_send_85 : decode cX1_send 85 = .ok (.astore 7, 2) := by decide +kernel
theorem dX1_send_87 : decode cX1_send 87 = .ok (.goto 12, 3) := by decide +kernel
theorem dX1_send_90 : decode cX1_send 90 = .ok (.aload_n 0, 1) := by decide +kernel
theorem dX1_send_91 : decode cX1_send 91 = .ok (.aload 7, 2) := by decide +kernel
theorem dX1_send_93 : decode cX1_send 93 = .ok (.getfield 29, 3) := by decide +kernel
theorem dX1_send_96 : decode cX1_send 96 = .ok (.putfield 25, 3) := by decide +kernel
theorem dX1_send_99 : decode cX1_send 99 = .ok (.aload 7, 2) := by decide +kernel
theorem dX1_send_101 : decode cX1_send 101 = .ok (.iload_n 3, 1) := by decide +kernel
theorem dX1_send_102 : decode cX1_send 102 = .ok (.putfield 53, 3) := by decide +kernel
theorem dX1_send_105 : decode cX1_send 105 = .ok (.aload 7, 2) := by decide +kernel
theorem dX1_send_107 : decode cX1_send 107 = .ok (.iload_n 1, 1) := by decide +kernel
theorem dX1_send_108 : decode cX1_send 108 = .ok (.putfield 56, 3) := by decide +kernel
theorem dX1_send_111 : decode cX1_send 111 = .ok (.aload 7, 2) := by decide +kernel
theorem dX1_send_113 : decode cX1_send 113 = .ok (.iload 6, 2) := by decide +kernel
theorem dX1_send_115 : decode cX1_send 115 = .ok (.putfield 59, 3) := by decide +kernel
theorem dX1_send_118 : decode cX1_send 118 = .ok (.aload 7, 2) := by decide +kernel
theorem dX1_send_120 : decode cX1_send 120 = .ok (.iload 4, 2) := by decide +kernel
theorem dX1_send_122 : decode cX1_send 122 = .ok (.putfield 62, 3) := by decide +kernel
theorem dX1_send_125 : decode cX1_send 125 = .ok (.aload 7, 2) := by decide +kernel
theorem dX1_send_127 : decode cX1_send 127 = .ok (.iload 5, 2) := by decide +kernel
theorem dX1_send_129 : decode cX1_send 129 = .ok (.putfield 65, 3) := by decide +kernel
theorem dX1_send_132 : decode cX1_send 132 = .ok (.aload_n 0, 1) := by decide +kernel
theorem dX1_send_133 : decode cX1_send 133 = .ok (.aload 7, 2) := by decide +kernel
theorem dX1_send_135 : decode cX1_send 135 = .ok (.invokevirtual 68, 3) := by decide +kernel
theorem dX1_send_138 : decode cX1_send 138 = .ok (.iinc 6 1, 3) := by decide +kernel
theorem dX1_send_141 : decode cX1_send 141 = .ok (.goto (-138), 3) := by decide +kernel
theorem dX1_send_144 : decode cX1_send 144 = .ok (.return_, 1) := by decide +kernel
theorem dX1_putOn_0 : decode cX1_putOn 0 = .ok (.aload_n 1, 1) := by decide +kernel
theorem dX1_putOn_1 : decode cX1_putOn 1 = .ok (.aload_n 0, 1) := by decide +kernel
theorem dX1_putOn_2 : decode cX1_putOn 2 = .ok (.getfield 32, 3) := by decide +kernel
theorem dX1_putOn_5 : decode cX1_putOn 5 = .ok (.aload_n 0, 1) := by decide +kernel
theorem dX1_putOn_6 : decode cX1_putOn 6 = .ok (.getfield 11, 3) := by decide +kernel
theorem dX1_putOn_9 : decode cX1_putOn 9 = .ok (.aload_n 1, 1) := by decide +kernel
theorem dX1_putOn_10 : decode cX1_putOn 10 = .ok (.getfield 56, 3) := by decide +kernel
theorem dX1_putOn_13 : decode cX1_putOn 13 = .ok (.aaload, 1) := by decide +kernel
theorem dX1_putOn_14 : decode cX1_putOn 14 = .ok (.aload_n 1, 1) := by decide +kernel
theorem dX1_putOn_15 : decode cX1_putOn 15 = .ok (.getfield 59, 3) := by decide +kernel
theorem dX1_putOn_18 : decode cX1_putOn 18 = .ok (.iaload, 1) := by decide +kernel
theorem dX1_putOn_19 : decode cX1_putOn 19 = .ok (.iadd, 1) := by decide +kernel
theorem dX1_putOn_20 : decode cX1_putOn 20 = .ok (.putfield 72, 3) := by decide +kernel
theorem dX1_putOn_23 : decode cX1_putOn 23 = .ok (.aload_n 1, 1) := by decide +kernel
theorem dX1_putOn_24 : decode cX1_putOn 24 = .ok (.aload_n 0, 1) := by decide +kernel
theorem dX1_putOn_25 : decode cX1_putOn 25 = .ok (.dup, 1) := by decide +kernel
theorem dX1_putOn_26 : decode cX1_putOn 26 = .ok (.getfield 36, 3) := by decide +kernel
theorem dX1_putOn_29 : decode cX1_putOn 29 = .ok (.dup_x1, 1) := by decide +kernel
theorem dX1_putOn_30 : decode cX1_putOn 30 = .ok (.iconst 1, 1) := by decide +kernel
theorem dX1_putOn_31 : decode cX1_putOn 31 = .ok (.iadd, 1) := by decide +kernel
theorem dX1_putOn_32 : decode cX1_putOn 32 = .ok (.putfield 36, 3) := by decide +kernel
theorem dX1_putOn_35 : decode cX1_putOn 35 = .ok (.putfield 73, 3) := by decide +kernel
theorem dX1_putOn_38 : decode cX1_putOn 38 = .ok (.aload_n 1, 1) := by decide +kernel
theorem dX1_putOn_39 : decode cX1_putOn 39 = .ok (.aconst_null, 1) := by decide +kernel
theorem dX1_putOn_40 : decode cX1_putOn 40 = .ok (.putfield 29, 3) := by decide +kernel
theorem dX1_putOn_43 : decode cX1_putOn 43 = .ok (.aload_n 1, 1) := by decide +kernel
theorem dX1_putOn_44 : decode cX1_putOn 44 = .ok (.getfield 72, 3) := by decide +kernel
theorem dX1_putOn_47 : decode cX1_putOn 47 = .ok (.bipush 32, 2) := by decide +kernel
theorem dX1_putOn_49 : decode cX1_putOn 49 = .ok (.irem, 1) := by decide +kernel
theorem dX1_putOn_50 : decode cX1_putOn 50 = .ok (.istore_n 2, 1) := by decide +kernel
theorem dX1_putOn_51 : decode cX1_putOn 51 = .ok (.aload_n 0, 1) := by decide +kernel
theorem dX1_putOn_52 : decode cX1_putOn 52 = .ok (.getfield 22, 3) := by decide +kernel
theorem dX1_putOn_55 : decode cX1_putOn 55 = .ok (.iload_n 2, 1) := by decide +kernel
theorem dX1_putOn_56 : decode cX1_putOn 56 = .ok (.aaload, 1) := by decide +kernel
theorem dX1_putOn_57 : decode cX1_putOn 57 = .ok (.ifnonnull 13, 3) := by decide +kernel
theorem dX1_putOn_60 : decode cX1_putOn 60 = .ok (.aload_n 0, 1) := by decide +kernel
theorem dX1_putOn_61 : decode cX1_putOn 61 = .ok (.getfield 18, 3) := by decide +kernel
theorem dX1_putOn_64 : decode cX1_putOn 64 = .ok (.iload_n 2, 1) := by decide +kernel
theorem dX1_putOn_65 : decode cX1_putOn 65 = .ok (.aload_n 1, 1) := by decide +kernel
theorem dX1_putOn_66 : decode cX1_putOn 66 = .ok (.aastore, 1) := by decide +kernel
theorem dX1_putOn_67 : decode cX1_putOn 67 = .ok (.goto 13, 3) := by decide +kernel
theorem dX1_putOn_70 : decode cX1_putOn 70 = .ok (.aload_n 0, 1) := by decide +kernel
theorem dX1_putOn_71 : decode cX1_putOn 71 = .ok (.getfield 22, 3) := by decide +kernel
theorem dX1_putOn_74 : decode cX1_putOn 74 = .ok (.iload_n 2, 1) := by decide +kernel
theorem dX1_putOn_75 : decode cX1_putOn 75 = .ok (.aaload, 1) := by decide +kernel
theorem dX1_putOn_76 : decode cX1_putOn 76 = .ok (.aload_n 1, 1) := by decide +kernel
theorem dX1_putOn_77 : decode cX1_putOn 77 = .ok (.putfield 29, 3) := by decide +kernel
theorem dX1_putOn_80 : decode cX1_putOn 80 = .ok (.aload_n 0, 1) := by decide +kernel
theorem dX1_putOn_81 : decode cX1_putOn 81 = .ok (.getfield 22, 3) := by decide +kernel
theorem dX1_putOn_84 : decode cX1_putOn 84 = .ok (.iload_n 2, 1) := by decide +kernel
theorem dX1_putOn_85 : decode cX1_putOn 85 = .ok (.aload_n 1, 1) := by decide +kernel
theorem dX1_putOn_86 : decode cX1_putOn 86 = .ok (.aastore, 1) := by decide +kernel
theorem dX1_putOn_87 : decode cX1_putOn 87 = .ok (.aload_n 0, 1) := by decide +kernel
theorem dX1_putOn_88 : decode cX1_putOn 88 = .ok (.dup, 1) := by decide +kernel
theorem dX1_putOn_89 : decode cX1_putOn 89 = .ok (.getfield 45, 3) := by decide +kernel
theorem dX1_putOn_92 : decode cX1_putOn 92 = .ok (.iconst 1, 1) := by decide +kernel
theorem dX1_putOn_93 : decode cX1_putOn 93 = .ok (.iadd, 1) := by decide +kernel
theorem dX1_putOn_94 : decode cX1_putOn 94 = .ok (.putfield 45, 3) := by decide +kernel
theorem dX1_putOn_97 : decode cX1_putOn 97 = .ok (.return_, 1) := by decide +kernel
theorem dX1_first_0 : decode cX1_first 0 = .ok (.aload_n 0, 1) := by decide +kernel
theorem dX1_first_1 : decode cX1_first 1 = .ok (.getfield 45, 3) := by decide +kernel
theorem dX1_first_4 : decode cX1_first 4 = .ok (.ifCond .ne 5, 3) := by decide +kernel
theorem dX1_first_7 : decode cX1_first 7 = .ok (.aconst_null, 1) := by decide +kernel
theorem dX1_first_8 : decode cX1_first 8 = .ok (.areturn, 1) := by decide +kernel
theorem dX1_first_9 : decode cX1_first 9 = .ok (.aload_n 0, 1) := by decide +kernel
theorem dX1_first_10 : decode cX1_first 10 = .ok (.getfield 32, 3) := by decide +kernel
theorem dX1_first_13 : decode cX1_first 13 = .ok (.istore_n 1, 1) := by decide +kernel
theorem dX1_first_14 : decode cX1_first 14 = .ok (.iload_n 1, 1) := by decide +kernel
theorem dX1_first_15 : decode cX1_first 15 = .ok (.aload_n 0, 1) := by decide +kernel
theorem dX1_first_16 : decode cX1_first 16 = .ok (.getfield 32, 3) := by decide +kernel
theorem dX1_first_19 : decode cX1_first 19 = .ok (.bipush 20, 2) := by decide +kernel
theorem dX1_first_21 : decode cX1_first 21 = .ok (.iadd, 1) := by decide +kernel
theorem dX1_first_22 : decode cX1_first 22 = .ok (.if_icmp .gt 31, 3) := by decide +kernel
theorem dX1_first_25 : decode cX1_first 25 = .ok (.aload_n 0, 1) := by decide +kernel
theorem dX1_first_26 : decode cX1_first 26 = .ok (.getfield 18, 3) := by decide +kernel
theorem dX1_first_29 : decode cX1_first 29 = .ok (.iload_n 1, 1) := by decide +kernel
theorem dX1_first_30 : decode cX1_first 30 = .ok (.bipush 32, 2) := by decide +kernel
theorem dX1_first_32 : decode cX1_first 32 = .ok (.irem, 1) := by decide +kernel
theorem dX1_first_33 : decode cX1_first 33 = .ok (.aaload, 1) := by decide +kernel
theorem dX1_first_34 : decode cX1_first 34 = .ok (.ifnull 13, 3) := by decide +kernel
theorem dX1_first_37 : decode cX1_first 37 = .ok (.aload_n 0, 1) := by decide +kernel
theorem dX1_first_38 : decode cX1_first 38 = .ok (.getfield 18, 3) := by decide +kernel
theorem dX1_first_41 : decode cX1_first 41 = .ok (.iload_n 1, 1) := by decide +kernel
theorem dX1_first_42 : decode cX1_first 42 = .ok (.bipush 32, 2) := by decide +kernel
theorem dX1_first_44 : decode cX1_first 44 = .ok (.irem, 1) := by decide +kernel
theorem dX1_first_45 : decode cX1_first 45 = .ok (.aaload, 1) := by decide +kernel
theorem dX1_first_46 : decode cX1_first 46 = .ok (.areturn, 1) := by decide +kernel
theorem dX1_first_47 : decode cX1_first 47 = .ok (.iinc 1 1, 3) := by decide +kernel
theorem dX1_first_50 : decode cX1_first 50 = .ok (.goto (-36), 3) := by decide +kernel
theorem dX1_first_53 : decode cX1_first 53 = .ok (.aconst_null, 1) := by decide +kernel
theorem dX1_first_54 : decode cX1_first 54 = .ok (.areturn, 1) := by decide +kernel
theorem dX1_takeOff_0 : decode cX1_takeOff 0 = .ok (.aload_n 1, 1) := by decide +kernel
theorem dX1_takeOff_1 : decode cX1_takeOff 1 = .ok (.getfield 72, 3) := by decide +kernel
theorem dX1_takeOff_4 : decode cX1_takeOff 4 = .ok (.bipush 32, 2) := by decide +kernel
theorem dX1_takeOff_6 : decode cX1_takeOff 6 = .ok (.irem, 1) := by decide +kernel
theorem dX1_takeOff_7 : decode cX1_takeOff 7 = .ok (.istore_n 2, 1) := by decide +kernel
theorem dX1_takeOff_8 : decode cX1_takeOff 8 = .ok (.aload_n 0, 1) := by decide +kernel
theorem dX1_takeOff_9 : decode cX1_takeOff 9 = .ok (.getfield 18, 3) := by decide +kernel
theorem dX1_takeOff_12 : decode cX1_takeOff 12 = .ok (.iload_n 2, 1) := by decide +kernel
theorem dX1_takeOff_13 : decode cX1_takeOff 13 = .ok (.aload_n 1, 1) := by decide +kernel
theorem dX1_takeOff_14 : decode cX1_takeOff 14 = .ok (.getfield 29, 3) := by decide +kernel
theorem dX1_takeOff_17 : decode cX1_takeOff 17 = .ok (.aastore, 1) := by decide +kernel
theorem dX1_takeOff_18 : decode cX1_takeOff 18 = .ok (.aload_n 1, 1) := by decide +kernel
theorem dX1_takeOff_19 : decode cX1_takeOff 19 = .ok (.getfield 29, 3) := by decide +kernel
theorem dX1_takeOff_22 : decode cX1_takeOff 22 = .ok (.ifnonnull 10, 3) := by decide +kernel
theorem dX1_takeOff_25 : decode cX1_takeOff 25 = .ok (.aload_n 0, 1) := by decide +kernel
theorem dX1_takeOff_26 : decode cX1_takeOff 26 = .ok (.getfield 22, 3) := by decide +kernel
theorem dX1_takeOff_29 : decode cX1_takeOff 29 = .ok (.iload_n 2, 1) := by decide +kernel
theorem dX1_takeOff_30 : decode cX1_takeOff 30 = .ok (.aconst_null, 1) := by decide +kernel
theorem dX1_takeOff_31 : decode cX1_takeOff 31 = .ok (.aastore, 1) := by decide +kernel
theorem dX1_takeOff_32 : decode cX1_takeOff 32 = .ok (.aload_n 0, 1) := by decide +kernel
theorem dX1_takeOff_33 : decode cX1_takeOff 33 = .ok (.dup, 1) := by decide +kernel
theorem dX1_takeOff_34 : decode cX1_takeOff 34 = .ok (.getfield 45, 3) := by decide +kernel
theorem dX1_takeOff_37 : decode cX1_takeOff 37 = .ok (.iconst 1, 1) := by decide +kernel
theorem dX1_takeOff_38 : decode cX1_takeOff 38 = .ok (.isub, 1) := by decide +kernel
theorem dX1_takeOff_39 : decode cX1_takeOff 39 = .ok (.putfield 45, 3) := by decide +kernel
theorem dX1_takeOff_42 : decode cX1_takeOff 42 = .ok (.return_, 1) := by decide +kernel
theorem dX1_keepSpare_0 : decode cX1_keepSpare 0 = .ok (.aload_n 1, 1) := by decide +kernel
theorem dX1_keepSpare_1 : decode cX1_keepSpare 1 = .ok (.aload_n 0, 1) := by decide +kernel
theorem dX1_keepSpare_2 : decode cX1_keepSpare 2 = .ok (.getfield 25, 3) := by decide +kernel
theorem dX1_keepSpare_5 : decode cX1_keepSpare 5 = .ok (.putfield 29, 3) := by decide +kernel
theorem dX1_keepSpare_8 : decode cX1_keepSpare 8 = .ok (.aload_n 0, 1) := by decide +kernel
theorem dX1_keepSpare_9 : decode cX1_keepSpare 9 = .ok (.aload_n 1, 1) := by decide +kernel
theorem dX1_keepSpare_10 : decode cX1_keepSpare 10 = .ok (.putfield 25, 3) := by decide +kernel
theorem dX1_keepSpare_13 : decode cX1_keepSpare 13 = .ok (.return_, 1) := by decide +kernel
theorem dX2_init_0 : decode cX2_init 0 = .ok (.aload_n 0, 1) := by decide +kernel
theorem dX2_init_1 : decode cX2_init 1 = .ok (.invokespecial 3, 3) := by decide +kernel
theorem dX2_init_4 : decode cX2_init 4 = .ok (.aload_n 0, 1) := by decide +kernel
theorem dX2_init_5 : decode cX2_init 5 = .ok (.bipush 8, 2) := by decide +kernel
theorem dX2_init_7 : decode cX2_init 7 = .ok (.newarray .int, 2) := by decide +kernel
theorem dX2_init_9 : decode cX2_init 9 = .ok (.putfield 9, 3) := by decide +kernel
theorem dX2_init_12 : decode cX2_init 12 = .ok (.aload_n 0, 1) := by decide +kernel
theorem dX2_init_13 : decode cX2_init 13 = .ok (.iload_n 1, 1) := by decide +kernel
theorem dX2_init_14 : decode cX2_init 14 = .ok (.putfield 15, 3) := by decide +kernel
theorem dX2_init_17 : decode cX2_init 17 = .ok (.aload_n 0, 1) := by decide +kernel
theorem dX2_init_18 : decode cX2_init 18 = .ok (.invokevirtual 19, 3) := by decide +kernel
theorem dX2_init_21 : decode cX2_init 21 = .ok (.return_, 1) := by decide +kernel
theorem dX2_startAnew_0 : decode cX2_startAnew 0 = .ok (.aload_n 0, 1) := by decide +kernel
theorem dX2_startAnew_1 : decode cX2_startAnew 1 = .ok (.iconst 0, 1) := by decide +kernel
theorem dX2_startAnew_2 : decode cX2_startAnew 2 = .ok (.putfield 22, 3) := by decide +kernel
theorem dX2_startAnew_5 : decode cX2_startAnew 5 = .ok (.aload_n 0, 1) := by decide +kernel
theorem dX2_startAnew_6 : decode cX2_startAnew 6 = .ok (.iconst 1, 1) := by decide +kernel
theorem dX2_startAnew_7 : decode cX2_startAnew 7 = .ok (.putfield 25, 3) := by decide +kernel
theorem dX2_startAnew_10 : decode cX2_startAnew 10 = .ok (.aload_n 0, 1) := by decide +kernel
theorem dX2_startAnew_11 : decode cX2_startAnew 11 = .ok (.iconst 0, 1) := by decide +kernel
theorem dX2_startAnew_12 : decode cX2_startAnew 12 = .ok (.putfield 29, 3) := by decide +kernel
theorem dX2_startAnew_15 : decode cX2_startAnew 15 = .ok (.aload_n 0, 1) := by decide +kernel
theorem dX2_startAnew_16 : decode cX2_startAnew 16 = .ok (.iconst 0, 1) := by decide +kernel
theorem dX2_startAnew_17 : decode cX2_startAnew 17 = .ok (.putfield 32, 3) := by decide +kernel
theorem dX2_startAnew_20 : decode cX2_startAnew 20 = .ok (.aload_n 0, 1) := by decide +kernel
theorem dX2_startAnew_21 : decode cX2_startAnew 21 = .ok (.iconst 0, 1) := by decide +kernel
theorem dX2_startAnew_22 : decode cX2_startAnew 22 = .ok (.putfield 35, 3) := by decide +kernel
theorem dX2_startAnew_25 : decode cX2_startAnew 25 = .ok (.aload_n 0, 1) := by decide +kernel
theorem dX2_startAnew_26 : decode cX2_startAnew 26 = .ok (.iconst 0, 1) := by decide +kernel
theorem dX2_startAnew_27 : decode cX2_startAnew 27 = .ok (.putfield 38, 3) := by decide +kernel
theorem dX2_startAnew_30 : decode cX2_startAnew 30 = .ok (.aload_n 0, 1) := by decide +kernel
theorem dX2_startAnew_31 : decode cX2_startAnew 31 = .ok (.iconst (-1), 1) := by decide +kernel
theorem dX2_startAnew_32 : decode cX2_startAnew 32 = .ok (.putfield 41, 3) := by decide +kernel
theorem dX2_startAnew_35 : decode cX2_startAnew 35 = .ok (.aload_n 0, 1) := by decide +kernel
theorem dX2_startAnew_36 : decode cX2_startAnew 36 = .ok (.iconst 0, 1) := by decide +kernel
theorem dX2_startAnew_37 : decode cX2_startAnew 37 = .ok (.putfield 44, 3) := by decide +kernel
theorem dX2_startAnew_40 : decode cX2_startAnew 40 = .ok (.return_, 1) := by decide +kernel
theorem dX2_isDecided_0 : decode cX2_isDecided 0 = .ok (.aload_n 0, 1) := by decide +kernel
theorem dX2_isDecided_1 : decode cX2_isDecided 1 = .ok (.getfield 29, 3) := by decide +kernel
theorem dX2_isDecided_4 : decode cX2_isDecided 4 = .ok (.iconst 4, 1) := by decide +kernel
theorem dX2_isDecided_5 : decode cX2_isDecided 5 = .ok (.if_icmp .eq 11, 3) := by decide +kernel
theorem dX2_isDecided_8 : decode cX2_isDecided 8 = .ok (.aload_n 0, 1) := by decide +kernel
theorem dX2_isDecided_9 : decode cX2_isDecided 9 = .ok (.getfield 29, 3) := by decide +kernel
theorem dX2_isDecided_12 : decode cX2_isDecided 12 = .ok (.iconst 5, 1) := by decide +kernel
theorem dX2_isDecided_13 : decode cX2_isDecided 13 = .ok (.if_icmp .ne 7, 3) := by decide +kernel
theorem dX2_isDecided_16 : decode cX2_isDecided 16 = .ok (.iconst 1, 1) := by decide +kernel
theorem dX2_isDecided_17 : decode cX2_isDecided 17 = .ok (.goto 4, 3) := by decide +kernel
theorem dX2_isDecided_20 : decode cX2_isDecided 20 = .ok (.iconst 0, 1) := by decide +kernel
theorem dX2_isDecided_21 : decode cX2_isDecided 21 = .ok (.ireturn, 1) := by decide +kernel
theorem dX2_collectsAcks_0 : decode cX2_collectsAcks 0 = .ok (.aload_n 0, 1) := by decide +kernel
theorem dX2_collectsAcks_1 : decode cX2_collectsAcks 1 = .ok (.getfield 35, 3) := by decide +kernel
theorem dX2_collectsAcks_4 : decode cX2_collectsAcks 4 = .ok (.iconst 2, 1) := by decide +kernel
theorem dX2_collectsAcks_5 : decode cX2_collectsAcks 5 = .ok (.if_icmp .eq 11, 3) := by decide +kernel
theorem dX2_collectsAcks_8 : decode cX2_collectsAcks 8 = .ok (.aload_n 0, 1) := by decide +kernel
theorem dX2_collectsAcks_9 : decode cX2_collectsAcks 9 = .ok (.getfield 35, 3) := by decide +kernel
theorem dX2_collectsAcks_12 : decode cX2_collectsAcks 12 = .ok (.iconst 4, 1) := by decide +kernel
theorem dX2_collectsAcks_13 : decode cX2_collectsAcks 13 = .ok (.if_icmp .ne 7, 3) := by decide +kernel
theorem dX2_collectsAcks_16 : decode cX2_collectsAcks 16 = .ok (.iconst 1, 1) := by decide +kernel
theorem dX2_collectsAcks_17 : decode cX2_collectsAcks 17 = .ok (.goto 4, 3) := by decide +kernel
theorem dX2_collectsAcks_20 : decode cX2_collectsAcks 20 = .ok (.iconst 0, 1) := by decide +kernel
theorem dX2_collectsAcks_21 : decode cX2_collectsAcks 21 = .ok (.ireturn, 1) := by decide +kernel
theorem dX2_runsOutEarlier_0 : decode cX2_runsOutEarlier 0 = .ok (.aload_n 0, 1) := by decide +kernel
theorem dX2_runsOutEarlier_1 : decode cX2_runsOutEarlier 1 = .ok (.getfield 41, 3) := by decide +kernel
theorem dX2_runsOutEarlier_4 : decode cX2_runsOutEarlier 4 = .ok (.aload_n 1, 1) := by decide +kernel
theorem dX2_runsOutEarlier_5 : decode cX2_runsOutEarlier 5 = .ok (.getfield 41, 3) := by decide +kernel
theorem dX2_runsOutEarlier_8 : decode cX2_runsOutEarlier 8 = .ok (.if_icmp .lt 25, 3) := by decide +kernel
theorem dX2_runsOutEarlier_11 : decode cX2_runsOutEarlier 11 = .ok (.aload_n 0, 1) := by decide +kernel
theorem dX2_runsOutEarlier_12 : decode cX2_runsOutEarlier 12 = .ok (.getfield 41, 3) := by decide +kernel
theorem dX2_runsOutEarlier_15 : decode cX2_runsOutEarlier 15 = .ok (.aload_n 1, 1) := by decide +kernel
theorem dX2_runsOutEarlier_16 : decode cX2_runsOutEarlier 16 = .ok (.getfield 41, 3) := by decide +kernel
theorem dX2_runsOutEarlier_19 : decode cX2_runsOutEarlier 19 = .ok (.if_icmp .ne 18, 3) := by decide +kernel
theorem dX2_runsOutEarlier_22 : decode cX2_runsOutEarlier 22 = .ok (.aload_n 0, 1) := by decide +kernel
theorem dX2_runsOutEarlier_23 : decode cX2_runsOutEarlier 23 = .ok (.getfield 44, 3) := by decide +kernel
theorem dX2_runsOutEarlier_26 : decode cX2_runsOutEarlier 26 = .ok (.aload_n 1, 1) := by decide +kernel
theorem dX2_runsOutEarlier_27 : decode cX2_runsOutEarlier 27 = .ok (.getfield 44, 3) := by decide +kernel
theorem dX2_runsOutEarlier_30 : decode cX2_runsOutEarlier 30 = .ok (.if_icmp .ge 7, 3) := by decide +kernel
theorem dX2_runsOutEarlier_33 : decode cX2_runsOutEarlier 33 = .ok (.iconst 1, 1) := by decide +kernel
theorem dX2_runsOutEarlier_34 : decode cX2_runsOutEarlier 34 = .ok (.goto 4, 3) := by decide +kernel
theorem dX2_runsOutEarlier_37 : decode cX2_runsOutEarlier 37 = .ok (.iconst 0, 1) := by decide +kernel
theorem dX2_runsOutEarlier_38 : decode cX2_runsOutEarlier 38 = .ok (.ireturn, 1) := by decide +kernel
theorem dX2_runsOutBefore_0 : decode cX2_runsOutBefore 0 = .ok (.aload_n 1, 1) := by decide +kernel
theorem dX2_runsOutBefore_1 : decode cX2_runsOutBefore 1 = .ok (.ifnull 36, 3) := by decide +kernel
theorem dX2_runsOutBefore_4 : decode cX2_runsOutBefore 4 = .ok (.aload_n 0, 1) := by decide +kernel
theorem dX2_runsOutBefore_5 : decode cX2_runsOutBefore 5 = .ok (.getfield 41, 3) := by decide +kernel
theorem dX2_runsOutBefore_8 : decode cX2_runsOutBefore 8 = .ok (.aload_n 1, 1) := by decide +kernel
theorem dX2_runsOutBefore_9 : decode cX2_runsOutBefore 9 = .ok (.getfield 47, 3) := by decide +kernel
theorem dX2_runsOutBefore_12 : decode cX2_runsOutBefore 12 = .ok (.if_icmp .lt 25, 3) := by decide +kernel
theorem dX2_runsOutBefore_15 : decode cX2_runsOutBefore 15 = .ok (.aload_n 0, 1) := by decide +kernel
theorem dX2_runsOutBefore_16 : decode cX2_runsOutBefore 16 = .ok (.getfield 41, 3) := by decide +kernel
theorem dX2_runsOutBefore_19 : decode cX2_runsOutBefore 19 = .ok (.aload_n 1, 1) := by decide +kernel
theorem dX2_runsOutBefore_20 : decode cX2_runsOutBefore 20 = .ok (.getfield 47, 3) := by decide +kernel
theorem dX2_runsOutBefore_23 : decode cX2_runsOutBefore 23 = .ok (.if_icmp .ne 18, 3) := by decide +kernel
theorem dX2_runsOutBefore_26 : decode cX2_runsOutBefore 26 = .ok (.aload_n 0, 1) := by decide +kernel
theorem dX2_runsOutBefore_27 : decode cX2_runsOutBefore 27 = .ok (.getfield 44, 3) := by decide +kernel
theorem dX2_runsOutBefore_30 : decode cX2_runsOutBefore 30 = .ok (.aload_n 1, 1) := by decide +kernel
theorem dX2_runsOutBefore_31 : decode cX2_runsOutBefore 31 = .ok (.getfield 52, 3) := by decide +kernel
theorem dX2_runsOutBefore_34 : decode cX2_runsOutBefore 34 = .ok (.if_icmp .ge 7, 3) := by decide +kernel
theorem dX2_runsOutBefore_37 : decode cX2_runsOutBefore 37 = .ok (.iconst 1, 1) := by decide +kernel
theorem dX2_runsOutBefore_38 : decode cX2_runsOutBefore 38 = .ok (.goto 4, 3) := by decide +kernel
theorem dX2_runsOutBefore_41 : decode cX2_runsOutBefore 41 = .ok (.iconst 0, 1) := by decide +kernel
theorem dX2_runsOutBefore_42 : decode cX2_runsOutBefore 42 = .ok (.ireturn, 1) := by decide +kernel
theorem dX3_init_0 : decode cX3_init 0 = .ok (.aload_n 0, 1) := by decide +kernel
theorem dX3_init_1 : decode cX3_init 1 = .ok (.invokespecial 1, 3) := by decide +kernel
theorem dX3_init_4 : decode cX3_init 4 = .ok (.aload_n 0, 1) := by decide +kernel
theorem dX3_init_5 : decode cX3_init 5 = .ok (.bipush 8, 2) := by decide +kernel
theorem dX3_init_7 : decode cX3_init 7 = .ok (.anewarray 9, 3) := by decide +kernel
theorem dX3_init_10 : decode cX3_init 10 = .ok (.putfield 11, 3) := by decide +kernel
theorem dX3_init_13 : decode cX3_init 13 = .ok (.aload_n 0, 1) := by decide +kernel
theorem dX3_init_14 : decode cX3_init 14 = .ok (.new 15, 3) := by decide +kernel
theorem dX3_init_17 : decode cX3_init 17 = .ok (.dup, 1) := by decide +kernel
theorem dX3_init_18 : decode cX3_init 18 = .ok (.invokespecial 17, 3) := by decide +kernel
theorem dX3_init_21 : decode cX3_init 21 = .ok (.putfield 18, 3) := by decide +kernel
theorem dX3_init_24 : decode cX3_init 24 = .ok (.aload_n 0, 1) := by decide +kernel
theorem dX3_init_25 : decode cX3_init 25 = .ok (.iconst 5, 1) := by decide +kernel
theorem dX3_init_26 : decode cX3_init 26 = .ok (.newarray .int, 2) := by decide +kernel
theorem dX3_init_28 : decode cX3_init 28 = .ok (.putfield 22, 3) := by decide +kernel
theorem dX3_init_31 : decode cX3_init 31 = .ok (.aload_n 0, 1) := by decide +kernel
theorem dX3_init_32 : decode cX3_init 32 = .ok (.bipush 10, 2) := by decide +kernel
theorem dX3_init_34 : decode cX3_init 34 = .ok (.putfield 26, 3) := by decide +kernel
theorem dX3_init_37 : decode cX3_init 37 = .ok (.aload_n 0, 1) := by decide +kernel
theorem dX3_init_38 : decode cX3_init 38 = .ok (.invokevirtual 30, 3) := by decide +kernel
theorem dX3_init_41 : decode cX3_init 41 = .ok (.aload_n 0, 1) := by decide +kernel
theorem dX3_init_42 : decode cX3_init 42 = .ok (.iconst 0, 1) := by decide +kernel
theorem dX3_init_43 : decode cX3_init 43 = .ok (.iconst (-1), 1) := by decide +kernel
theorem dX3_init_44 : decode cX3_init 44 = .ok (.iconst (-1), 1) := by decide +kernel
theorem dX3_init_45 : decode cX3_init 45 = .ok (.iconst 0, 1) := by decide +kernel
theorem dX3_init_46 : decode cX3_init 46 = .ok (.iconst 0, 1) := by decide +kernel
theorem dX3_init_47 : decode cX3_init 47 = .ok (.invokevirtual 33, 3) := by decide +kernel
theorem dX3_init_50 : decode cX3_init 50 = .ok (.return_, 1) := by decide +kernel
theorem dX3_site_0 : decode cX3_site 0 = .ok (.iload_n 1, 1) := by decide +kernel
theorem dX3_site_1 : decode cX3_site 1 = .ok (.iconst 1, 1) := by decide +kernel
theorem dX3_site_2 : decode cX3_site 2 = .ok (.if_icmp .lt 25, 3) := by decide +kernel
theorem dX3_site_5 : decode cX3_site 5 = .ok (.iload_n 1, 1) := by decide +kernel
theorem dX3_site_6 : decode cX3_site 6 = .ok (.bipush 9, 2) := by decide +kernel
theorem dX3_site_8 : decode cX3_site 8 = .ok (.if_icmp .gt 19, 3) := by decide +kernel
theorem dX3_site_11 : decode cX3_site 11 = .ok (.aload_n 0, 1) := by decide +kernel
theorem dX3_site_12 : decode cX3_site 12 = .ok (.getfield 37, 3) := by decide +kernel
theorem dX3_site_15 : decode cX3_site 15 = .ok (.ifCond .ne 12, 3) := by decide +kernel
theorem dX3_site_18 : decode cX3_site 18 = .ok (.aload_n 0, 1) := by decide +kernel
theorem dX3_site_19 : decode cX3_site 19 = .ok (.getfield 41, 3) := by decide +kernel
theorem dX3_site_22 : decode cX3_site 22 = .ok (.bipush 8, 2) := by decide +kernel
theorem dX3_site_24 : decode cX3_site 24 = .ok (.if_icmp .lt 5, 3) := by decide +kernel
theorem dX3_site_27 : decode cX3_site 27 = .ok (.iconst (-1), 1) := by decide +kernel
theorem dX3_site_28 : decode cX3_site 28 = .ok (.ireturn, 1) := by decide +kernel
theorem dX3_site_29 : decode cX3_site 29 = .ok (.aload_n 0, 1) := by decide +kernel
theorem dX3_site_30 : decode cX3_site 30 = .ok (.getfield 11, 3) := by decide +kernel
theorem dX3_site_33 : decode cX3_site 33 = .ok (.aload_n 0, 1) := by decide +kernel
theorem dX3_site_34 : decode cX3_site 34 = .ok (.getfield 41, 3) := by decide +kernel
theorem dX3_site_37 : decode cX3_site 37 = .ok (.new 9, 3) := by decide +kernel
theorem dX3_site_40 : decode cX3_site 40 = .ok (.dup, 1) := by decide +kernel
theorem dX3_site_41 : decode cX3_site 41 = .ok (.iload_n 1, 1) := by decide +kernel
theorem dX3_site_42 : decode cX3_site 42 = .ok (.invokespecial 44, 3) := by decide +kernel
theorem dX3_site_45 : decode cX3_site 45 = .ok (.aastore, 1) := by decide +kernel
theorem dX3_site_46 : decode cX3_site 46 = .ok (.aload_n 0, 1) := by decide +kernel
theorem dX3_site_47 : decode cX3_site 47 = .ok (.dup, 1) := by decide +kernel
theorem dX3_site_48 : decode cX3_site 48 = .ok (.getfield 47, 3) := by decide +kernel
theorem dX3_site_51 : decode cX3_site 51 = .ok (.iload_n 1, 1) := by decide +kernel
theorem dX3_site_52 : decode cX3_site 52 = .ok (.iadd, 1) := by decide +kernel
theorem dX3_site_53 : decode cX3_site 53 = .ok (.putfield 47, 3) := by decide +kernel
theorem dX3_site_56 : decode cX3_site 56 = .ok (.aload_n 0, 1) := by decide +kernel
theorem dX3_site_57 : decode cX3_site 57 = .ok (.invokevirtual 30, 3) := by decide +kernel
theorem dX3_site_60 : decode cX3_site 60 = .ok (.aload_n 0, 1) := by decide +kernel
theorem dX3_site_61 : decode cX3_site 61 = .ok (.dup, 1) := by decide +kernel
theorem dX3_site_62 : decode cX3_site 62 = .ok (.getfield 41, 3) := by decide +kernel
theorem dX3_site_65 : decode cX3_site 65 = .ok (.dup_x1, 1) := by decide +kernel
theorem dX3_site_66 : decode cX3_site 66 = .ok (.iconst 1, 1) := by decide +kernel
theorem dX3_site_67 : decode cX3_site 67 = .ok (.iadd, 1) := by decide +kernel
theorem dX3_site_68 : decode cX3_site 68 = .ok (.putfield 41, 3) := by decide +kernel
theorem dX3_site_71 : decode cX3_site 71 = .ok (.ireturn, 1) := by decide +kernel
theorem dX3_quorums_0 : decode cX3_quorums 0 = .ok (.iload_n 1, 1) := by decide +kernel
theorem dX3_quorums_1 : decode cX3_quorums 1 = .ok (.iconst 1, 1) := by decide +kernel
theorem dX3_quorums_2 : decode cX3_quorums 2 = .ok (.if_icmp .lt 28, 3) := by decide +kernel
theorem dX3_quorums_5 : decode cX3_quorums 5 = .ok (.iload_n 1, 1) := by decide +kernel
theorem dX3_quorums_6 : decode cX3_quorums 6 = .ok (.aload_n 0, 1) := by decide +kernel
theorem dX3_quorums_7 : decode cX3_quorums 7 = .ok (.getfield 47, 3) := by decide +kernel
theorem dX3_quorums_10 : decode cX3_quorums 10 = .ok (.if_icmp .gt 20, 3) := by decide +kernel
theorem dX3_quorums_13 : decode cX3_quorums 13 = .ok (.iload_n 2, 1) := by decide +kernel
theorem dX3_quorums_14 : decode cX3_quorums 14 = .ok (.iconst 1, 1) := by decide +kernel
theorem dX3_quorums_15 : decode cX3_quorums 15 = .ok (.if_icmp .lt 15, 3) := by decide +kernel
theorem dX3_quorums_18 : decode cX3_quorums 18 = .ok (.iload_n 2, 1) := by decide +kernel
theorem dX3_quorums_19 : decode cX3_quorums 19 = .ok (.aload_n 0, 1) := by decide +kernel
theorem dX3_quorums_20 : decode cX3_quorums 20 = .ok (.getfield 47, 3) := by decide +kernel
theorem dX3_quorums_23 : decode cX3_quorums 23 = .ok (.if_icmp .gt 7, 3) := by decide +kernel
theorem dX3_quorums_26 : decode cX3_quorums 26 = .ok (.iconst 1, 1) := by decide +kernel
theorem dX3_quorums_27 : decode cX3_quorums 27 = .ok (.goto 4, 3) := by decide +kernel
theorem dX3_quorums_30 : decode cX3_quorums 30 = .ok (.iconst 0, 1) := by decide +kernel
theorem dX3_quorums_31 : decode cX3_quorums 31 = .ok (.istore_n 3, 1) := by decide +kernel
theorem dX3_quorums_32 : decode cX3_quorums 32 = .ok (.aload_n 0, 1) := by decide +kernel
theorem dX3_quorums_33 : decode cX3_quorums 33 = .ok (.getfield 37, 3) := by decide +kernel
theorem dX3_quorums_36 : decode cX3_quorums 36 = .ok (.ifCond .ne 17, 3) := by decide +kernel
theorem dX3_quorums_39 : decode cX3_quorums 39 = .ok (.iload_n 3, 1) := by decide +kernel
theorem dX3_quorums_40 : decode cX3_quorums 40 = .ok (.ifCond .eq 13, 3) := by decide +kernel
theorem dX3_quorums_43 : decode cX3_quorums 43 = .ok (.iload_n 1, 1) := by decide +kernel
theorem dX3_quorums_44 : decode cX3_quorums 44 = .ok (.iload_n 2, 1) := by decide +kernel
theorem dX3_quorums_45 : decode cX3_quorums 45 = .ok (.iadd, 1) := by decide +kernel
theorem dX3_quorums_46 : decode cX3_quorums 46 = .ok (.aload_n 0, 1) := by decide +kernel
theorem dX3_quorums_47 : decode cX3_quorums 47 = .ok (.getfield 47, 3) := by decide +kernel
theorem dX3_quorums_50 : decode cX3_quorums 50 = .ok (.if_icmp .gt 5, 3) := by decide +kernel
theorem dX3_quorums_53 : decode cX3_quorums 53 = .ok (.iconst 0, 1) := by decide +kernel
theorem dX3_quorums_54 : decode cX3_quorums 54 = .ok (.ireturn, 1) := by decide +kernel
theorem dX3_quorums_55 : decode cX3_quorums 55 = .ok (.aload_n 0, 1) := by decide +kernel
theorem dX3_quorums_56 : decode cX3_quorums 56 = .ok (.iload_n 1, 1) := by decide +kernel
theorem dX3_quorums_57 : decode cX3_quorums 57 = .ok (.putfield 50, 3) := by decide +kernel
theorem dX3_quorums_60 : decode cX3_quorums 60 = .ok (.aload_n 0, 1) := by decide +kernel
theorem dX3_quorums_61 : decode cX3_quorums 61 = .ok (.iload_n 2, 1) := by decide +kernel
theorem dX3_quorums_62 : decode cX3_quorums 62 = .ok (.putfield 53, 3) := by decide +kernel
theorem dX3_quorums_65 : decode cX3_quorums 65 = .ok (.iconst 1, 1) := by decide +kernel
theorem dX3_quorums_66 : decode cX3_quorums 66 = .ok (.ireturn, 1) := by decide +kernel
theorem dX3_link_0 : decode cX3_link 0 = .ok (.aload_n 0, 1) := by decide +kernel
theorem dX3_link_1 : decode cX3_link 1 = .ok (.iload_n 1, 1) := by decide +kernel
theorem dX3_link_2 : decode cX3_link 2 = .ok (.iload_n 2, 1) := by decide +kernel
theorem dX3_link_3 : decode cX3_link 3 = .ok (.invokevirtual 56, 3) := by decide +kernel
theorem dX3_link_6 : decode cX3_link 6 = .ok (.ifCond .eq 13, 3) := by decide +kernel
theorem dX3_link_9 : decode cX3_link 9 = .ok (.iload_n 3, 1) := by decide +kernel
theorem dX3_link_10 : decode cX3_link 10 = .ok (.ifCond .lt 9, 3) := by decide +kernel
theorem dX3_link_13 : decode cX3_link 13 = .ok (.iload_n 3, 1) := by decide +kernel
theorem dX3_link_14 : decode cX3_link 14 = .ok (.bipush 20, 2) := by decide +kernel
theorem dX3_link_16 : decode cX3_link 16 = .ok (.if_icmp .le 5, 3) := by decide +kernel
theorem dX3_link_19 : decode cX3_link 19 = .ok (.iconst 0, 1) := by decide +kernel
theorem dX3_link_20 : decode cX3_link 20 = .ok (.ireturn, 1) := by decide +kernel
theorem dX3_link_21 : decode cX3_link 21 = .ok (.aload_n 0, 1) := by decide +kernel
theorem dX3_link_22 : decode cX3_link 22 = .ok (.getfield 18, 3) := by decide +kernel
theorem dX3_link_25 : decode cX3_link 25 = .ok (.getfield 60, 3) := by decide +kernel
theorem dX3_link_28 : decode cX3_link 28 = .ok (.iload_n 1, 1) := by decide +kernel
theorem dX3_link_29 : decode cX3_link 29 = .ok (.aaload, 1) := by decide +kernel
theorem dX3_link_30 : decode cX3_link 30 = .ok (.iload_n 2, 1) := by decide +kernel
theorem dX3_link_31 : decode cX3_link 31 = .ok (.iload_n 3, 1) := by decide +kernel
theorem dX3_link_32 : decode cX3_link 32 = .ok (.iastore, 1) := by decide +kernel
theorem dX3_link_33 : decode cX3_link 33 = .ok (.iconst 1, 1) := by decide +kernel
theorem dX3_link_34 : decode cX3_link 34 = .ok (.ireturn, 1) := by decide +kernel
theorem dX3_part_0 : decode cX3_part 0 = .ok (.iload_n 2, 1) := by decide +kernel
theorem dX3_part_1 : decode cX3_part 1 = .ok (.iconst 1, 1) := by decide +kernel
theorem dX3_part_2 : decode cX3_part 2 = .ok (.if_icmp .lt 9, 3) := by decide +kernel
theorem dX3_part_5 : decode cX3_part 5 = .ok (.iload_n 2, 1) := by decide +kernel
theorem dX3_part_6 : decode cX3_part 6 = .ok (.bipush 20, 2) := by decide +kernel
theorem dX3_part_8 : decode cX3_part 8 = .ok (.if_icmp .le 5, 3) := by decide +kernel
theorem dX3_part_11 : decode cX3_part 11 = .ok (.iconst (-1), 1) := by decide +kernel
theorem dX3_part_12 : decode cX3_part 12 = .ok (.ireturn, 1) := by decide +kernel
theorem dX3_part_13 : decode cX3_part 13 = .ok (.iconst 0, 1) := by decide +kernel
theorem dX3_part_14 : decode cX3_part 14 = .ok (.istore_n 3, 1) := by decide +kernel
theorem dX3_part_15 : decode cX3_part 15 = .ok (.iconst 0, 1) := by decide +kernel
theorem dX3_part_16 : decode cX3_part 16 = .ok (.istore 4, 2) := by decide +kernel
theorem dX3_part_18 : decode cX3_part 18 = .ok (.iload 4, 2) := by decide +kernel
theorem dX3_part_20 : decode cX3_part 20 = .ok (.aload_n 0, 1) := by decide +kernel
theorem dX3_part_21 : decode cX3_part 21 = .ok (.getfield 41, 3) := by decide +kernel
theorem dX3_part_24 : decode cX3_part 24 = .ok (.if_icmp .ge 82, 3) := by decide +kernel
theorem dX3_part_27 : decode cX3_part 27 = .ok (.iconst 0, 1) := by decide +kernel
theorem dX3_part_28 : decode cX3_part 28 = .ok (.istore 5, 2) := by decide +kernel
theorem dX3_part_30 : decode cX3_part 30 = .ok (.iload 5, 2) := by decide +kernel
theorem dX3_part_32 : decode cX3_part 32 = .ok (.aload_n 0, 1) := by decide +kernel
theorem dX3_part_33 : decode cX3_part 33 = .ok (.getfield 41, 3) := by decide +kernel
theorem dX3_part_36 : decode cX3_part 36 = .ok (.if_icmp .ge 64, 3) := by decide +kernel
theorem dX3_part_39 : decode cX3_part 39 = .ok (.iload 4, 2) := by decide +kernel
theorem dX3_part_41 : decode cX3_part 41 = .ok (.iload 5, 2) := by decide +kernel
theorem dX3_part_43 : decode cX3_part 43 = .ok (.if_icmp .eq 51, 3) := by decide +kernel
theorem dX3_part_46 : decode cX3_part 46 = .ok (.iload_n 1, 1) := by decide +kernel
theorem dX3_part_47 : decode cX3_part 47 = .ok (.iload 4, 2) := by decide +kernel
theorem dX3_part_49 : decode cX3_part 49 = .ok (.invokestatic 64, 3) := by decide +kernel
theorem dX3_part_52 : decode cX3_part 52 = .ok (.iload_n 1, 1) := by decide +kernel
theorem dX3_part_53 : decode cX3_part 53 = .ok (.iload 5, 2) := by decide +kernel
theorem dX3_part_55 : decode cX3_part 55 = .ok (.invokestatic 64, 3) := by decide +kernel
theorem dX3_part_58 : decode cX3_part 58 = .ok (.if_icmp .ne 7, 3) := by decide +kernel
theorem dX3_part_61 : decode cX3_part 61 = .ok (.iconst 1, 1) := by decide +kernel
theorem dX3_part_62 : decode cX3_part 62 = .ok (.goto 4, 3) := by decide +kernel
theorem dX3_part_65 : decode cX3_part 65 = .ok (.iconst 0, 1) := by decide +kernel
theorem dX3_part_66 : decode cX3_part 66 = .ok (.istore 6, 2) := by decide +kernel
theorem dX3_part_68 : decode cX3_part 68 = .ok (.aload_n 0, 1) := by decide +kernel
theorem dX3_part_69 : decode cX3_part 69 = .ok (.getfield 18, 3) := by decide +kernel
theorem dX3_part_72 : decode cX3_part 72 = .ok (.getfield 60, 3) := by decide +kernel
theorem dX3_part_75 : decode cX3_part 75 = .ok (.iload 4, 2) := by decide +kernel
theorem dX3_part_77 : decode cX3_part 77 = .ok (.aaload, 1) := by decide +kernel
theorem dX3_part_78 : decode cX3_part 78 = .ok (.iload 5, 2) := by decide +kernel
theorem dX3_part_80 : decode cX3_part 80 = .ok (.iload 6, 2) := by decide +kernel
theorem dX3_part_82 : decode cX3_part 82 = .ok (.ifCond .eq 7, 3) := by decide +kernel
theorem dX3_part_85 : decode cX3_part 85 = .ok (.iload_n 2, 1) := by decide +kernel
theorem dX3_part_86 : decode cX3_part 86 = .ok (.goto 4, 3) := by decide +kernel
theorem dX3_part_89 : decode cX3_part 89 = .ok (.iconst 0, 1) := by decide +kernel
theorem dX3_part_90 : decode cX3_part 90 = .ok (.iastore, 1) := by decide +kernel
theorem dX3_part_91 : decode cX3_part 91 = .ok (.iinc 3 1, 3) := by decide +kernel
theorem dX3_part_94 : decode cX3_part 94 = .ok (.iinc 5 1, 3) := by decide +kernel
theorem dX3_part_97 : decode cX3_part 97 = .ok (.goto (-67), 3) := by decide +kernel
theorem dX3_part_100 : decode cX3_part 100 = .ok (.iinc 4 1, 3) := by decide +kernel
theorem dX3_part_103 : decode cX3_part 103 = .ok (.goto (-85), 3) := by decide +kernel
theorem dX3_part_106 : decode cX3_part 106 = .ok (.iload_n 3, 1) := by decide +kernel
theorem dX3_part_107 : decode cX3_part 107 = .ok (.ireturn, 1) := by decide +kernel
theorem dX3_patience_0 : decode cX3_patience 0 = .ok (.iload_n 1, 1) := by decide +kernel
theorem dX3_patience_1 : decode cX3_patience 1 = .ok (.iconst 5, 1) := by decide +kernel
theorem dX3_patience_2 : decode cX3_patience 2 = .ok (.if_icmp .lt 16, 3) := by decide +kernel
theorem dX3_patience_5 : decode cX3_patience 5 = .ok (.iload_n 1, 1) := by decide +kernel
theorem dX3_patience_6 : decode cX3_patience 6 = .ok (.bipush 100, 2) := by decide +kernel
theorem dX3_patience_8 : decode cX3_patience 8 = .ok (.if_icmp .gt 10, 3) := by decide +kernel
theorem dX3_patience_11 : decode cX3_patience 11 = .ok (.aload_n 0, 1) := by decide +kernel
theorem dX3_patience_12 : decode cX3_patience 12 = .ok (.getfield 37, 3) := by decide +kernel
theorem dX3_patience_15 : decode cX3_patience 15 = .ok (.ifCond .eq 5, 3) := by decide +kernel
theorem dX3_patience_18 : decode cX3_patience 18 = .ok (.iconst 0, 1) := by decide +kernel
theorem dX3_patience_19 : decode cX3_patience 19 = .ok (.ireturn, 1) := by decide +kernel
theorem dX3_patience_20 : decode cX3_patience 20 = .ok (.aload_n 0, 1) := by decide +kernel
theorem dX3_patience_21 : decode cX3_patience 21 = .ok (.iload_n 1, 1) := by decide +kernel
theorem dX3_patience_22 : decode cX3_patience 22 = .ok (.putfield 26, 3) := by decide +kernel
theorem dX3_patience_25 : decode cX3_patience 25 = .ok (.iconst 1, 1) := by decide +kernel
theorem dX3_patience_26 : decode cX3_patience 26 = .ok (.ireturn, 1) := by decide +kernel
theorem dX3_begin_0 : decode cX3_begin 0 = .ok (.aload_n 0, 1) := by decide +kernel
theorem dX3_begin_1 : decode cX3_begin 1 = .ok (.iload_n 1, 1) := by decide +kernel
theorem dX3_begin_2 : decode cX3_begin 2 = .ok (.invokevirtual 67, 3) := by decide +kernel
theorem dX3_begin_5 : decode cX3_begin 5 = .ok (.ifCond .eq 22, 3) := by decide +kernel
theorem dX3_begin_8 : decode cX3_begin 8 = .ok (.aload_n 0, 1) := by decide +kernel
theorem dX3_begin_9 : decode cX3_begin 9 = .ok (.getfield 11, 3) := by decide +kernel
theorem dX3_begin_12 : decode cX3_begin 12 = .ok (.iload_n 1, 1) := by decide +kernel
theorem dX3_begin_13 : decode cX3_begin 13 = .ok (.aaload, 1) := by decide +kernel
theorem dX3_begin_14 : decode cX3_begin 14 = .ok (.getfield 71, 3) := by decide +kernel
theorem dX3_begin_17 : decode cX3_begin 17 = .ok (.ifCond .eq 10, 3) := by decide +kernel
theorem dX3_begin_20 : decode cX3_begin 20 = .ok (.aload_n 0, 1) := by decide +kernel
theorem dX3_begin_21 : decode cX3_begin 21 = .ok (.getfield 37, 3) := by decide +kernel
theorem dX3_begin_24 : decode cX3_begin 24 = .ok (.ifCond .eq 5, 3) := by decide +kernel
theorem dX3_begin_27 : decode cX3_begin 27 = .ok (.iconst 0, 1) := by decide +kernel
theorem dX3_begin_28 : decode cX3_begin 28 = .ok (.ireturn, 1) := by decide +kernel
theorem dX3_begin_29 : decode cX3_begin 29 = .ok (.aload_n 0, 1) := by decide +kernel
theorem dX3_begin_30 : decode cX3_begin 30 = .ok (.iconst 1, 1) := by decide +kernel
theorem dX3_begin_31 : decode cX3_begin 31 = .ok (.putfield 37, 3) := by decide +kernel
theorem dX3_begin_34 : decode cX3_begin 34 = .ok (.aload_n 0, 1) := by decide +kernel
theorem dX3_begin_35 : decode cX3_begin 35 = .ok (.iload_n 2, 1) := by decide +kernel
theorem dX3_begin_36 : decode cX3_begin 36 = .ok (.putfield 74, 3) := by decide +kernel
theorem dX3_begin_39 : decode cX3_begin 39 = .ok (.iload_n 2, 1) := by decide +kernel
theorem dX3_begin_40 : decode cX3_begin 40 = .ok (.iload_n 1, 1) := by decide +kernel
theorem dX3_begin_41 : decode cX3_begin 41 = .ok (.invokestatic 64, 3) := by decide +kernel
theorem dX3_begin_44 : decode cX3_begin 44 = .ok (.ifCond .eq 11, 3) := by decide +kernel
theorem dX3_begin_47 : decode cX3_begin 47 = .ok (.aload_n 0, 1) := by decide +kernel
theorem dX3_begin_48 : decode cX3_begin 48 = .ok (.iload_n 1, 1) := by decide +kernel
theorem dX3_begin_49 : decode cX3_begin 49 = .ok (.invokevirtual 77, 3) := by decide +kernel
theorem dX3_begin_52 : decode cX3_begin 52 = .ok (.goto 9, 3) := by decide +kernel
theorem dX3_begin_55 : decode cX3_begin 55 = .ok (.aload_n 0, 1) := by decide +kernel
theorem dX3_begin_56 : decode cX3_begin 56 = .ok (.iload_n 1, 1) := by decide +kernel
theorem dX3_begin_57 : decode cX3_begin 57 = .ok (.iconst 5, 1) := by decide +kernel
theorem dX3_begin_58 : decode cX3_begin 58 = .ok (.invokevirtual 80, 3) := by decide +kernel
theorem dX3_begin_61 : decode cX3_begin 61 = .ok (.iconst 1, 1) := by decide +kernel
theorem dX3_begin_62 : decode cX3_begin 62 = .ok (.ireturn, 1) := by decide +kernel
theorem dX3_crash_0 : decode cX3_crash 0 = .ok (.aload_n 0, 1) := by decide +kernel
theorem dX3_crash_1 : decode cX3_crash 1 = .ok (.iload_n 1, 1) := by decide +kernel
theorem dX3_crash_2 : decode cX3_crash 2 = .ok (.invokevirtual 67, 3) := by decide +kernel
theorem dX3_crash_5 : decode cX3_crash 5 = .ok (.ifCond .eq 15, 3) := by decide +kernel
theorem dX3_crash_8 : decode cX3_crash 8 = .ok (.aload_n 0, 1) := by decide +kernel
theorem dX3_crash_9 : decode cX3_crash 9 = .ok (.getfield 11, 3) := by decide +kernel
theorem dX3_crash_12 : decode cX3_crash 12 = .ok (.iload_n 1, 1) := by decide +kernel
theorem dX3_crash_13 : decode cX3_crash 13 = .ok (.aaload, 1) := by decide +kernel
theorem dX3_crash_14 : decode cX3_crash 14 = .ok (.getfield 71, 3) := by decide +kernel
theorem dX3_crash_17 : decode cX3_crash 17 = .ok (.ifCond .ne 5, 3) := by decide +kernel
theorem dX3_crash_20 : decode cX3_crash 20 = .ok (.iconst 0, 1) := by decide +kernel
theorem dX3_crash_21 : decode cX3_crash 21 = .ok (.ireturn, 1) := by decide +kernel
theorem dX3_crash_22 : decode cX3_crash 22 = .ok (.aload_n 0, 1) := by decide +kernel
theorem dX3_crash_23 : decode cX3_crash 23 = .ok (.getfield 11, 3) := by decide +kernel
theorem dX3_crash_26 : decode cX3_crash 26 = .ok (.iload_n 1, 1) := by decide +kernel
theorem dX3_crash_27 : decode cX3_crash 27 = .ok (.aaload, 1) := by decide +kernel
theorem dX3_crash_28 : decode cX3_crash 28 = .ok (.astore_n 2, 1) := by decide +kernel
theorem dX3_crash_29 : decode cX3_crash 29 = .ok (.aload_n 2, 1) := by decide +kernel
theorem dX3_crash_30 : decode cX3_crash 30 = .ok (.iconst 0, 1) := by decide +kernel
theorem dX3_crash_31 : decode cX3_crash 31 = .ok (.putfield 71, 3) := by decide +kernel
theorem dX3_crash_34 : decode cX3_crash 34 = .ok (.aload_n 2, 1) := by decide +kernel
theorem dX3_crash_35 : decode cX3_crash 35 = .ok (.iconst 0, 1) := by decide +kernel
theorem dX3_crash_36 : decode cX3_crash 36 = .ok (.putfield 84, 3) := by decide +kernel
theorem dX3_crash_39 : decode cX3_crash 39 = .ok (.aload_n 2, 1) := by decide +kernel
theorem dX3_crash_40 : decode cX3_crash 40 = .ok (.iconst (-1), 1) := by decide +kernel
theorem dX3_crash_41 : decode cX3_crash 41 = .ok (.putfield 87, 3) := by decide +kernel
theorem dX3_crash_44 : decode cX3_crash 44 = .ok (.iconst 1, 1) := by decide +kernel
theorem dX3_crash_45 : decode cX3_crash 45 = .ok (.ireturn, 1) := by decide +kernel
theorem dX3_recover_0 : decode cX3_recover 0 = .ok (.aload_n 0, 1) := by decide +kernel
theorem dX3_recover_1 : decode cX3_recover 1 = .ok (.iload_n 1, 1) := by decide +kernel
theorem dX3_recover_2 : decode cX3_recover 2 = .ok (.invokevirtual 67, 3) := by decide +kernel
theorem dX3_recover_5 : decode cX3_recover 5 = .ok (.ifCond .eq 15, 3) := by decide +kernel
theorem dX3_recover_8 : decode cX3_recover 8 = .ok (.aload_n 0, 1) := by decide +kernel
theorem dX3_recover_9 : decode cX3_recover 9 = .ok (.getfield 11, 3) := by decide +kernel
theorem dX3_recover_12 : decode cX3_recover 12 = .ok (.iload_n 1, 1) := by decide +kernel
theorem dX3_recover_13 : decode cX3_recover 13 = .ok (.aaload, 1) := by decide +kernel
theorem dX3_recover_14 : decode cX3_recover 14 = .ok (.getfield 71, 3) := by decide +kernel
theorem dX3_recover_17 : decode cX3_recover 17 = .ok (.ifCond .eq 5, 3) := by decide +kernel
theorem dX3_recover_20 : decode cX3_recover 20 = .ok (.iconst 0, 1) := by decide +kernel
theorem dX3_recover_21 : decode cX3_recover 21 = .ok (.ireturn, 1) := by decide +kernel
theorem dX3_recover_22 : decode cX3_recover 22 = .ok (.aload_n 0, 1) := by decide +kernel
theorem dX3_recover_23 : decode cX3_recover 23 = .ok (.getfield 11, 3) := by decide +kernel
theorem dX3_recover_26 : decode cX3_recover 26 = .ok (.iload_n 1, 1) := by decide +kernel
theorem dX3_recover_27 : decode cX3_recover 27 = .ok (.aaload, 1) := by decide +kernel
theorem dX3_recover_28 : decode cX3_recover 28 = .ok (.astore_n 2, 1) := by decide +kernel
theorem dX3_recover_29 : decode cX3_recover 29 = .ok (.aload_n 2, 1) := by decide +kernel
theorem dX3_recover_30 : decode cX3_recover 30 = .ok (.iconst 1, 1) := by decide +kernel
theorem dX3_recover_31 : decode cX3_recover 31 = .ok (.putfield 71, 3) := by decide +kernel
theorem dX3_recover_34 : decode cX3_recover 34 = .ok (.aload_n 0, 1) := by decide +kernel
theorem dX3_recover_35 : decode cX3_recover 35 = .ok (.getfield 37, 3) := by decide +kernel
theorem dX3_recover_38 : decode cX3_recover 38 = .ok (.ifCond .eq 19, 3) := by decide +kernel
theorem dX3_recover_41 : decode cX3_recover 41 = .ok (.aload_n 2, 1) := by decide +kernel
theorem dX3_recover_42 : decode cX3_recover 42 = .ok (.getfield 90, 3) := by decide +kernel
theorem dX3_recover_45 : decode cX3_recover 45 = .ok (.ifCond .ne 12, 3) := by decide +kernel
theorem dX3_recover_48 : decode cX3_recover 48 = .ok (.aload_n 0, 1) := by decide +kernel
theorem dX3_recover_49 : decode cX3_recover 49 = .ok (.aload_n 2, 1) := by decide +kernel
theorem dX3_recover_50 : decode cX3_recover 50 = .ok (.iconst 5, 1) := by decide +kernel
theorem dX3_recover_51 : decode cX3_recover 51 = .ok (.invokevirtual 93, 3) := by decide +kernel
theorem dX3_recover_54 : decode cX3_recover 54 = .ok (.goto 22, 3) := by decide +kernel
theorem dX3_recover_57 : decode cX3_recover 57 = .ok (.aload_n 0, 1) := by decide +kernel
theorem dX3_recover_58 : decode cX3_recover 58 = .ok (.getfield 37, 3) := by decide +kernel
theorem dX3_recover_61 : decode cX3_recover 61 = .ok (.ifCond .eq 15, 3) := by decide +kernel
theorem dX3_recover_64 : decode cX3_recover 64 = .ok (.aload_n 2, 1) := by decide +kernel
theorem dX3_recover_65 : decode cX3_recover 65 = .ok (.invokevirtual 97, 3) := by decide +kernel
theorem dX3_recover_68 : decode cX3_recover 68 = .ok (.ifCond .ne 8, 3) := by decide +kernel
theorem dX3_recover_71 : decode cX3_recover 71 = .ok (.aload_n 0, 1) := by decide +kernel
theorem dX3_recover_72 : decode cX3_recover 72 = .ok (.iload_n 1, 1) := by decide +kernel
theorem dX3_recover_73 : decode cX3_recover 73 = .ok (.invokevirtual 101, 3) := by decide +kernel
theorem dX3_recover_76 : decode cX3_recover 76 = .ok (.iconst 1, 1) := by decide +kernel
theorem dX3_recover_77 : decode cX3_recover 77 = .ok (.ireturn, 1) := by decide +kernel
theorem dX3_run_0 : decode cX3_run 0 = .ok (.iload_n 1, 1) := by decide +kernel
theorem dX3_run_1 : decode cX3_run 1 = .ok (.ifCond .lt 25, 3) := by decide +kernel
theorem dX3_run_4 : decode cX3_run 4 = .ok (.iload_n 1, 1) := by decide +kernel
theorem dX3_run_5 : decode cX3_run 5 = .ok (.sipush 500, 3) := by decide +kernel
theorem dX3_run_8 : decode cX3_run 8 = .ok (.if_icmp .gt 18, 3) := by decide +kernel
theorem dX3_run_11 : decode cX3_run 11 = .ok (.aload_n 0, 1) := by decide +kernel
theorem dX3_run_12 : decode cX3_run 12 = .ok (.getfield 18, 3) := by decide +kernel
theorem dX3_run_15 : decode cX3_run 15 = .ok (.getfield 104, 3) := by decide +kernel
theorem dX3_run_18 : decode cX3_run 18 = .ok (.iload_n 1, 1) := by decide +kernel
theorem dX3_run_19 : decode cX3_run 19 = .ok (.iadd, 1) := by decide +kernel
theorem dX3_run_20 : decode cX3_run 20 = .ok (.sipush 4000, 3) := by decide +kernel
theorem dX3_run_23 : decode cX3_run 23 = .ok (.if_icmp .le 5, 3) := by decide +kernel
theorem dX3_run_26 : decode cX3_run 26 = .ok (.iconst (-1), 1) := by decide +kernel
theorem dX3_run_27 : decode cX3_run 27 = .ok (.ireturn, 1) := by decide +kernel
theorem dX3_run_28 : decode cX3_run 28 = .ok (.aload_n 0, 1) := by decide +kernel
theorem dX3_run_29 : decode cX3_run 29 = .ok (.getfield 18, 3) := by decide +kernel
theorem dX3_run_32 : decode cX3_run 32 = .ok (.getfield 104, 3) := by decide +kernel
theorem dX3_run_35 : decode cX3_run 35 = .ok (.iload_n 1, 1) := by decide +kernel
theorem dX3_run_36 : decode cX3_run 36 = .ok (.iadd, 1) := by decide +kernel
theorem dX3_run_37 : decode cX3_run 37 = .ok (.istore_n 2, 1) := by decide +kernel
theorem dX3_run_38 : decode cX3_run 38 = .ok (.iconst 0, 1) := by decide +kernel
theorem dX3_run_39 : decode cX3_run 39 = .ok (.istore_n 3, 1) := by decide +kernel
theorem dX3_run_40 : decode cX3_run 40 = .ok (.iconst 0, 1) := by decide +kernel
theorem dX3_run_41 : decode cX3_run 41 = .ok (.istore 4, 2) := by decide +kernel
theorem dX3_run_43 : decode cX3_run 43 = .ok (.iload 4, 2) := by decide +kernel
theorem dX3_run_45 : decode cX3_run 45 = .ok (.ldc 107, 2) := by decide +kernel
theorem dX3_run_47 : decode cX3_run 47 = .ok (.if_icmp .ge 33, 3) := by decide +kernel
theorem dX3_run_50 : decode cX3_run 50 = .ok (.aload_n 0, 1) := by decide +kernel
theorem dX3_run_51 : decode cX3_run 51 = .ok (.iload_n 2, 1) := by decide +kernel
theorem dX3_run_52 : decode cX3_run 52 = .ok (.invokevirtual 108, 3) := by decide +kernel
theorem dX3_run_55 : decode cX3_run 55 = .ok (.istore 5, 2) := by decide +kernel
theorem dX3_run_57 : decode cX3_run 57 = .ok (.iload 5, 2) := by decide +kernel
theorem dX3_run_59 : decode cX3_run 59 = .ok (.ifCond .ne 6, 3) := by decide +kernel
theorem dX3_run_62 : decode cX3_run 62 = .ok (.goto 18, 3) := by decide +kernel
theorem dX3_run_65 : decode cX3_run 65 = .ok (.iload 5, 2) := by decide +kernel
theorem dX3_run_67 : decode cX3_run 67 = .ok (.iconst 2, 1) := by decide +kernel
theorem dX3_run_68 : decode cX3_run 68 = .ok (.if_icmp .ne 6, 3) := by decide +kernel
theorem dX3_run_71 : decode cX3_run 71 = .ok (.iinc 3 1, 3) := by decide +kernel
theorem dX3_run_74 : decode cX3_run 74 = .ok (.iinc 4 1, 3) := by decide +kernel
theorem dX3_run_77 : decode cX3_run 77 = .ok (.goto (-34), 3) := by decide +kernel
theorem dX3_run_80 : decode cX3_run 80 = .ok (.aload_n 0, 1) := by decide +kernel
theorem dX3_run_81 : decode cX3_run 81 = .ok (.getfield 18, 3) := by decide +kernel
theorem dX3_run_84 : decode cX3_run 84 = .ok (.iload_n 2, 1) := by decide +kernel
theorem dX3_run_85 : decode cX3_run 85 = .ok (.putfield 104, 3) := by decide +kernel
theorem dX3_run_88 : decode cX3_run 88 = .ok (.iload_n 3, 1) := by decide +kernel
theorem dX3_run_89 : decode cX3_run 89 = .ok (.ireturn, 1) := by decide +kernel
theorem dX3_step_0 : decode cX3_step 0 = .ok (.iconst 0, 1) := by decide +kernel
theorem dX3_step_1 : decode cX3_step 1 = .ok (.istore_n 1, 1) := by decide +kernel
theorem dX3_step_2 : decode cX3_step 2 = .ok (.iload_n 1, 1) := by decide +kernel
theorem dX3_step_3 : decode cX3_step 3 = .ok (.ldc 107, 2) := by decide +kernel
theorem dX3_step_5 : decode cX3_step 5 = .ok (.if_icmp .ge 37, 3) := by decide +kernel
theorem dX3_step_8 : decode cX3_step 8 = .ok (.aload_n 0, 1) := by decide +kernel
theorem dX3_step_9 : decode cX3_step 9 = .ok (.sipush 4000, 3) := by decide +kernel
theorem dX3_step_12 : decode cX3_step 12 = .ok (.invokevirtual 108, 3) := by decide +kernel
theorem dX3_step_15 : decode cX3_step 15 = .ok (.istore_n 2, 1) := by decide +kernel
theorem dX3_step_16 : decode cX3_step 16 = .ok (.iload_n 2, 1) := by decide +kernel
theorem dX3_step_17 : decode cX3_step 17 = .ok (.iconst 2, 1) := by decide +kernel
theorem dX3_step_18 : decode cX3_step 18 = .ok (.if_icmp .ne 11, 3) := by decide +kernel
theorem dX3_step_21 : decode cX3_step 21 = .ok (.aload_n 0, 1) := by decide +kernel
theorem dX3_step_22 : decode cX3_step 22 = .ok (.getfield 18, 3) := by decide +kernel
theorem dX3_step_25 : decode cX3_step 25 = .ok (.getfield 104, 3) := by decide +kernel
theorem dX3_step_28 : decode cX3_step 28 = .ok (.ireturn, 1) := by decide +kernel
theorem dX3_step_29 : decode cX3_step 29 = .ok (.iload_n 2, 1) := by decide +kernel
theorem dX3_step_30 : decode cX3_step 30 = .ok (.ifCond .ne 6, 3) := by decide +kernel
theorem dX3_step_33 : decode cX3_step 33 = .ok (.goto 9, 3) := by decide +kernel
theorem dX3_step_36 : decode cX3_step 36 = .ok (.iinc 1 1, 3) := by decide +kernel
theorem dX3_step_39 : decode cX3_step 39 = .ok (.goto (-37), 3) := by decide +kernel
theorem dX3_step_42 : decode cX3_step 42 = .ok (.iconst (-1), 1) := by decide +kernel
theorem dX3_step_43 : decode cX3_step 43 = .ok (.ireturn, 1) := by decide +kernel
theorem dX3_reset_0 : decode cX3_reset 0 = .ok (.aload_n 0, 1) := by decide +kernel
theorem dX3_reset_1 : decode cX3_reset 1 = .ok (.iconst 0, 1) := by decide +kernel
theorem dX3_reset_2 : decode cX3_reset 2 = .ok (.putfield 37, 3) := by decide +kernel
theorem dX3_reset_5 : decode cX3_reset 5 = .ok (.aload_n 0, 1) := by decide +kernel
theorem dX3_reset_6 : decode cX3_reset 6 = .ok (.iconst 0, 1) := by decide +kernel
theorem dX3_reset_7 : decode cX3_reset 7 = .ok (.putfield 74, 3) := by decide +kernel
theorem dX3_reset_10 : decode cX3_reset 10 = .ok (.aload_n 0, 1) := by decide +kernel
theorem dX3_reset_11 : decode cX3_reset 11 = .ok (.iconst 0, 1) := by decide +kernel
theorem dX3_reset_12 : decode cX3_reset 12 = .ok (.putfield 112, 3) := by decide +kernel
theorem dX3_reset_15 : decode cX3_reset 15 = .ok (.aload_n 0, 1) := by decide +kernel
theorem dX3_reset_16 : decode cX3_reset 16 = .ok (.iconst 0, 1) := by decide +kernel
theorem dX3_reset_17 : decode cX3_reset 17 = .ok (.putfield 115, 3) := by decide +kernel
theorem dX3_reset_20 : decode cX3_reset 20 = .ok (.aload_n 0, 1) := by decide +kernel
theorem dX3_reset_21 : decode cX3_reset 21 = .ok (.iconst 0, 1) := by decide +kernel
theorem dX3_reset_22 : decode cX3_reset 22 = .ok (.iconst (-1), 1) := by decide +kernel
theorem dX3_reset_23 : decode cX3_reset 23 = .ok (.iconst (-1), 1) := by decide +kernel
theorem dX3_reset_24 : decode cX3_reset 24 = .ok (.iconst 0, 1) := by decide +kernel
theorem dX3_reset_25 : decode cX3_reset 25 = .ok (.iconst 0, 1) := by decide +kernel
theorem dX3_reset_26 : decode cX3_reset 26 = .ok (.invokevirtual 33, 3) := by decide +kernel
theorem dX3_reset_29 : decode cX3_reset 29 = .ok (.aload_n 0, 1) := by decide +kernel
theorem dX3_reset_30 : decode cX3_reset 30 = .ok (.getfield 18, 3) := by decide +kernel
theorem dX3_reset_33 : decode cX3_reset 33 = .ok (.invokevirtual 118, 3) := by decide +kernel
theorem dX3_reset_36 : decode cX3_reset 36 = .ok (.iconst 0, 1) := by decide +kernel
theorem dX3_reset_37 : decode cX3_reset 37 = .ok (.istore_n 1, 1) := by decide +kernel
theorem dX3_reset_38 : decode cX3_reset 38 = .ok (.iload_n 1, 1) := by decide +kernel
theorem dX3_reset_39 : decode cX3_reset 39 = .ok (.aload_n 0, 1) := by decide +kernel
theorem dX3_reset_40 : decode cX3_reset 40 = .ok (.getfield 41, 3) := by decide +kernel
theorem dX3_reset_43 : decode cX3_reset 43 = .ok (.if_icmp .ge 18, 3) := by decide +kernel
theorem dX3_reset_46 : decode cX3_reset 46 = .ok (.aload_n 0, 1) := by decide +kernel
theorem dX3_reset_47 : decode cX3_reset 47 = .ok (.getfield 11, 3) := by decide +kernel
theorem dX3_reset_50 : decode cX3_reset 50 = .ok (.iload_n 1, 1) := by decide +kernel
theorem dX3_reset_51 : decode cX3_reset 51 = .ok (.aaload, 1) := by decide +kernel
theorem dX3_reset_52 : decode cX3_reset 52 = .ok (.invokevirtual 121, 3) := by decide +kernel
theorem dX3_reset_55 : decode cX3_reset 55 = .ok (.iinc 1 1, 3) := by decide +kernel
theorem dX3_reset_58 : decode cX3_reset 58 = .ok (.goto (-20), 3) := by decide +kernel
theorem dX3_reset_61 : decode cX3_reset 61 = .ok (.iconst 1, 1) := by decide +kernel
theorem dX3_reset_62 : decode cX3_reset 62 = .ok (.ireturn, 1) := by decide +kernel
theorem dX3_of_0 : decode cX3_of 0 = .ok (.aload_n 0, 1) := by decide +kernel
theorem dX3_of_1 : decode cX3_of 1 = .ok (.iload_n 1, 1) := by decide +kernel
theorem dX3_of_2 : decode cX3_of 2 = .ok (.invokevirtual 67, 3) := by decide +kernel
theorem dX3_of_5 : decode cX3_of 5 = .ok (.ifCond .ne 5, 3) := by decide +kernel
theorem dX3_of_8 : decode cX3_of 8 = .ok (.iconst (-1), 1) := by decide +kernel
theorem dX3_of_9 : decode cX3_of 9 = .ok (.ireturn, 1) := by decide +kernel
theorem dX3_of_10 : decode cX3_of 10 = .ok (.aload_n 0, 1) := by decide +kernel
theorem dX3_of_11 : decode cX3_of 11 = .ok (.getfield 11, 3) := by decide +kernel
theorem dX3_of_14 : decode cX3_of 14 = .ok (.iload_n 1, 1) := by decide +kernel
theorem dX3_of_15 : decode cX3_of 15 = .ok (.aaload, 1) := by decide +kernel
theorem dX3_of_16 : decode cX3_of 16 = .ok (.astore_n 3, 1) := by decide +kernel
theorem dX3_of_17 : decode cX3_of 17 = .ok (.iload_n 2, 1) := by decide +kernel
theorem dX3_of_18 : decode cX3_of 18 = .ok (.tableswitch 85 0 6 #[42, 47, 60, 65, 70, 75, 80], 42) := by decide +kernel
theorem dX3_of_60 : decode cX3_of 60 = .ok (.aload_n 3, 1) := by decide +kernel
theorem dX3_of_61 : decode cX3_of 61 = .ok (.getfield 90, 3) := by decide +kernel
theorem dX3_of_64 : decode cX3_of 64 = .ok (.ireturn, 1) := by decide +kernel
theorem dX3_of_65 : decode cX3_of 65 = .ok (.aload_n 3, 1) := by decide +kernel
theorem dX3_of_66 : decode cX3_of 66 = .ok (.getfield 71, 3) := by decide +kernel
theorem dX3_of_69 : decode cX3_of 69 = .ok (.ifCond .eq 7, 3) := by decide +kernel
theorem dX3_of_72 : decode cX3_of 72 = .ok (.iconst 1, 1) := by decide +kernel
theorem dX3_of_73 : decode cX3_of 73 = .ok (.goto 4, 3) := by decide +kernel
theorem dX3_of_76 : decode cX3_of 76 = .ok (.iconst 0, 1) := by decide +kernel
theorem dX3_of_77 : decode cX3_of 77 = .ok (.ireturn, 1) := by decide +kernel
theorem dX3_of_78 : decode cX3_of 78 = .ok (.aload_n 3, 1) := by decide +kernel
theorem dX3_of_79 : decode cX3_of 79 = .ok (.getfield 84, 3) := by decide +kernel
theorem dX3_of_82 : decode cX3_of 82 = .ok (.ireturn, 1) := by decide +kernel
theorem dX3_of_83 : decode cX3_of 83 = .ok (.aload_n 3, 1) := by decide +kernel
theorem dX3_of_84 : decode cX3_of 84 = .ok (.getfield 122, 3) := by decide +kernel
theorem dX3_of_87 : decode cX3_of 87 = .ok (.ireturn, 1) := by decide +kernel
theorem dX3_of_88 : decode cX3_of 88 = .ok (.aload_n 3, 1) := by decide +kernel
theorem dX3_of_89 : decode cX3_of 89 = .ok (.getfield 124, 3) := by decide +kernel
theorem dX3_of_92 : decode cX3_of 92 = .ok (.ireturn, 1) := by decide +kernel
theorem dX3_of_93 : decode cX3_of 93 = .ok (.aload_n 3, 1) := by decide +kernel
theorem dX3_of_94 : decode cX3_of 94 = .ok (.getfield 87, 3) := by decide +kernel
theorem dX3_of_97 : decode cX3_of 97 = .ok (.ireturn, 1) := by decide +kernel
theorem dX3_of_98 : decode cX3_of 98 = .ok (.aload_n 3, 1) := by decide +kernel
theorem dX3_of_99 : decode cX3_of 99 = .ok (.getfield 127, 3) := by decide +kernel
theorem dX3_of_102 : decode cX3_of 102 = .ok (.ireturn, 1) := by decide +kernel
theorem dX3_of_103 : decode cX3_of 103 = .ok (.iconst (-1), 1) := by decide +kernel
theorem dX3_of_104 : decode cX3_of 104 = .ok (.ireturn, 1) := by decide +kernel
theorem dX3_count_0 : decode cX3_count 0 = .ok (.iload_n 1, 1) := by decide +kernel
theorem dX3_count_1 : decode cX3_count 1 = .ok (.tableswitch 117 0 9 #[55, 63, 71, 76, 84, 89, 94, 99, 104, 109], 55) := by decide +kernel
theorem dX3_count_56 : decode cX3_count 56 = .ok (.aload_n 0, 1) := by decide +kernel
theorem dX3_count_57 : decode cX3_count 57 = .ok (.getfield 18, 3) := by decide +kernel
theorem dX3_count_60 : decode cX3_count 60 = .ok (.getfield 104, 3) := by decide +kernel
theorem dX3_count_63 : decode cX3_count 63 = .ok (.ireturn, 1) := by decide +kernel
theorem dX3_count_64 : decode cX3_count 64 = .ok (.aload_n 0, 1) := by decide +kernel
theorem dX3_count_65 : decode cX3_count 65 = .ok (.getfield 18, 3) := by decide +kernel
theorem dX3_count_68 : decode cX3_count 68 = .ok (.getfield 130, 3) := by decide +kernel
theorem dX3_count_71 : decode cX3_count 71 = .ok (.ireturn, 1) := by decide +kernel
theorem dX3_count_72 : decode cX3_count 72 = .ok (.aload_n 0, 1) := by decide +kernel
theorem dX3_count_73 : decode cX3_count 73 = .ok (.getfield 112, 3) := by decide +kernel
theorem dX3_count_76 : decode cX3_count 76 = .ok (.ireturn, 1) := by decide +kernel
theorem dX3_count_77 : decode cX3_count 77 = .ok (.aload_n 0, 1) := by decide +kernel
theorem dX3_count_78 : decode cX3_count 78 = .ok (.getfield 18, 3) := by decide +kernel
theorem dX3_count_81 : decode cX3_count 81 = .ok (.getfield 133, 3) := by decide +kernel
theorem dX3_count_84 : decode cX3_count 84 = .ok (.ireturn, 1) := by decide +kernel
theorem dX3_count_85 : decode cX3_count 85 = .ok (.aload_n 0, 1) := by decide +kernel
theorem dX3_count_86 : decode cX3_count 86 = .ok (.getfield 115, 3) := by decide +kernel
theorem dX3_count_89 : decode cX3_count 89 = .ok (.ireturn, 1) := by decide +kernel
theorem dX3_count_90 : decode cX3_count 90 = .ok (.aload_n 0, 1) := by decide +kernel
theorem dX3_count_91 : decode cX3_count 91 = .ok (.getfield 41, 3) := by decide +kernel
theorem dX3_count_94 : decode cX3_count 94 = .ok (.ireturn, 1) := by decide +kernel
theorem dX3_count_95 : decode cX3_count 95 = .ok (.aload_n 0, 1) := by decide +kernel
theorem dX3_count_96 : decode cX3_count 96 = .ok (.getfield 50, 3) := by decide +kernel
theorem dX3_count_99 : decode cX3_count 99 = .ok (.ireturn, 1) := by decide +kernel
theorem dX3_count_100 : decode cX3_count 100 = .ok (.aload_n 0, 1) := by decide +kernel
theorem dX3_count_101 : decode cX3_count 101 = .ok (.getfield 53, 3) := by decide +kernel
theorem dX3_count_104 : decode cX3_count 104 = .ok (.ireturn, 1) := by decide +kernel
theorem dX3_count_105 : decode cX3_count 105 = .ok (.aload_n 0, 1) := by decide +kernel
theorem dX3_count_106 : decode cX3_count 106 = .ok (.getfield 26, 3) := by decide +kernel
theorem dX3_count_109 : decode cX3_count 109 = .ok (.ireturn, 1) := by decide +kernel
theorem dX3_count_110 : decode cX3_count 110 = .ok (.aload_n 0, 1) := by decide +kernel
theorem dX3_count_111 : decode cX3_count 111 = .ok (.getfield 18, 3) := by decide +kernel
theorem dX3_count_114 : decode cX3_count 114 = .ok (.getfield 136, 3) := by decide +kernel
theorem dX3_count_117 : decode cX3_count 117 = .ok (.ireturn, 1) := by decide +kernel
theorem dX3_count_118 : decode cX3_count 118 = .ok (.iconst (-1), 1) := by decide +kernel
theorem dX3_count_119 : decode cX3_count 119 = .ok (.ireturn, 1) := by decide +kernel
theorem dX3_delay_0 : decode cX3_delay 0 = .ok (.aload_n 0, 1) := by decide +kernel
theorem dX3_delay_1 : decode cX3_delay 1 = .ok (.iload_n 1, 1) := by decide +kernel
theorem dX3_delay_2 : decode cX3_delay 2 = .ok (.iload_n 2, 1) := by decide +kernel
theorem dX3_delay_3 : decode cX3_delay 3 = .ok (.invokevirtual 56, 3) := by decide +kernel
theorem dX3_delay_6 : decode cX3_delay 6 = .ok (.ifCond .eq 17, 3) := by decide +kernel
theorem dX3_delay_9 : decode cX3_delay 9 = .ok (.aload_n 0, 1) := by decide +kernel
theorem dX3_delay_10 : decode cX3_delay 10 = .ok (.getfield 18, 3) := by decide +kernel
theorem dX3_delay_13 : decode cX3_delay 13 = .ok (.getfield 60, 3) := by decide +kernel
theorem dX3_delay_16 : decode cX3_delay 16 = .ok (.iload_n 1, 1) := by decide +kernel
theorem dX3_delay_17 : decode cX3_delay 17 = .ok (.aaload, 1) := by decide +kernel
theorem dX3_delay_18 : decode cX3_delay 18 = .ok (.iload_n 2, 1) := by decide +kernel
theorem dX3_delay_19 : decode cX3_delay 19 = .ok (.iaload, 1) := by decide +kernel
theorem dX3_delay_20 : decode cX3_delay 20 = .ok (.goto 4, 3) := by decide +kernel
theorem dX3_delay_23 : decode cX3_delay 23 = .ok (.iconst (-1), 1) := by decide +kernel
theorem dX3_delay_24 : decode cX3_delay 24 = .ok (.ireturn, 1) := by decide +kernel
theorem dX3_weight_0 : decode cX3_weight 0 = .ok (.iconst 0, 1) := by decide +kernel
theorem dX3_weight_1 : decode cX3_weight 1 = .ok (.istore_n 2, 1) := by decide +kernel
end
section
theorem dX3_weight_2 : decode cX3_weight 2 = .ok (.iconst 0, 1) := by decide +kernel
theorem dX3_weight_3 : decode cX3_weight 3 = .ok (.istore_n 3, 1) := by decide +kernel
theorem dX3_weight_4 : decode cX3_weight 4 = .ok (.iload_n 3, 1) := by decide +kernel
theorem dX3_weight_5 : decode cX3_weight 5 = .ok (.aload_n 0, 1) := by decide +kernel
theorem dX3_weight_6 : decode cX3_weight 6 = .ok (.getfield 41, 3) := by decide +kernel
theorem dX3_weight_9 : decode cX3_weight 9 = .ok (.if_icmp .ge 34, 3) := by decide +kernel
theorem dX3_weight_12 : decode cX3_weight 12 = .ok (.aload_n 0, 1) := by decide +kernel
theorem dX3_weight_13 : decode cX3_weight 13 = .ok (.getfield 11, 3) := by decide +kernel
theorem dX3_weight_16 : decode cX3_weight 16 = .ok (.iload_n 3, 1) := by decide +kernel
theorem dX3_weight_17 : decode cX3_weight 17 = .ok (.aaload, 1) := by decide +kernel
theorem dX3_weight_18 : decode cX3_weight 18 = .ok (.getfield 90, 3) := by decide +kernel
theorem dX3_weight_21 : decode cX3_weight 21 = .ok (.iload_n 1, 1) := by decide +kernel
theorem dX3_weight_22 : decode cX3_weight 22 = .ok (.if_icmp .ne 15, 3) := by decide +kernel
theorem dX3_weight_25 : decode cX3_weight 25 = .ok (.iload_n 2, 1) := by decide +kernel
theorem dX3_weight_26 : decode cX3_weight 26 = .ok (.aload_n 0, 1) := by decide +kernel
theorem dX3_weight_27 : decode cX3_weight 27 = .ok (.getfield 11, 3) := by decide +kernel
theorem dX3_weight_30 : decode cX3_weight 30 = .ok (.iload_n 3, 1) := by decide +kernel
theorem dX3_weight_31 : decode cX3_weight 31 = .ok (.aaload, 1) := by decide +kernel
theorem dX3_weight_32 : decode cX3_weight 32 = .ok (.getfield 124, 3) := by decide +kernel
theorem dX3_weight_35 : decode cX3_weight 35 = .ok (.iadd, 1) := by decide +kernel
theorem dX3_weight_36 : decode cX3_weight 36 = .ok (.istore_n 2, 1) := by decide +kernel
theorem dX3_weight_37 : decode cX3_weight 37 = .ok (.iinc 3 1, 3) := by decide +kernel
theorem dX3_weight_40 : decode cX3_weight 40 = .ok (.goto (-36), 3) := by decide +kernel
theorem dX3_weight_43 : decode cX3_weight 43 = .ok (.iload_n 2, 1) := by decide +kernel
theorem dX3_weight_44 : decode cX3_weight 44 = .ok (.ireturn, 1) := by decide +kernel
theorem dX3_latest_0 : decode cX3_latest 0 = .ok (.iload_n 1, 1) := by decide +kernel
theorem dX3_latest_1 : decode cX3_latest 1 = .ok (.ifCond .lt 17, 3) := by decide +kernel
theorem dX3_latest_4 : decode cX3_latest 4 = .ok (.iload_n 1, 1) := by decide +kernel
theorem dX3_latest_5 : decode cX3_latest 5 = .ok (.iconst 5, 1) := by decide +kernel
theorem dX3_latest_6 : decode cX3_latest 6 = .ok (.if_icmp .ge 12, 3) := by decide +kernel
theorem dX3_latest_9 : decode cX3_latest 9 = .ok (.aload_n 0, 1) := by decide +kernel
theorem dX3_latest_10 : decode cX3_latest 10 = .ok (.getfield 22, 3) := by decide +kernel
theorem dX3_latest_13 : decode cX3_latest 13 = .ok (.iload_n 1, 1) := by decide +kernel
theorem dX3_latest_14 : decode cX3_latest 14 = .ok (.iaload, 1) := by decide +kernel
theorem dX3_latest_15 : decode cX3_latest 15 = .ok (.goto 4, 3) := by decide +kernel
theorem dX3_latest_18 : decode cX3_latest 18 = .ok (.iconst (-1), 1) := by decide +kernel
theorem dX3_latest_19 : decode cX3_latest 19 = .ok (.ireturn, 1) := by decide +kernel
theorem dX3_check_0 : decode cX3_check 0 = .ok (.iconst 0, 1) := by decide +kernel
theorem dX3_check_1 : decode cX3_check 1 = .ok (.istore_n 1, 1) := by decide +kernel
theorem dX3_check_2 : decode cX3_check 2 = .ok (.iconst 0, 1) := by decide +kernel
theorem dX3_check_3 : decode cX3_check 3 = .ok (.istore_n 2, 1) := by decide +kernel
theorem dX3_check_4 : decode cX3_check 4 = .ok (.iconst 0, 1) := by decide +kernel
theorem dX3_check_5 : decode cX3_check 5 = .ok (.istore_n 3, 1) := by decide +kernel
theorem dX3_check_6 : decode cX3_check 6 = .ok (.iload_n 3, 1) := by decide +kernel
theorem dX3_check_7 : decode cX3_check 7 = .ok (.aload_n 0, 1) := by decide +kernel
theorem dX3_check_8 : decode cX3_check 8 = .ok (.getfield 41, 3) := by decide +kernel
theorem dX3_check_11 : decode cX3_check 11 = .ok (.if_icmp .ge 85, 3) := by decide +kernel
theorem dX3_check_14 : decode cX3_check 14 = .ok (.aload_n 0, 1) := by decide +kernel
theorem dX3_check_15 : decode cX3_check 15 = .ok (.getfield 37, 3) := by decide +kernel
theorem dX3_check_18 : decode cX3_check 18 = .ok (.ifCond .eq 18, 3) := by decide +kernel
theorem dX3_check_21 : decode cX3_check 21 = .ok (.aload_n 0, 1) := by decide +kernel
theorem dX3_check_22 : decode cX3_check 22 = .ok (.getfield 74, 3) := by decide +kernel
theorem dX3_check_25 : decode cX3_check 25 = .ok (.iload_n 3, 1) := by decide +kernel
theorem dX3_check_26 : decode cX3_check 26 = .ok (.invokestatic 64, 3) := by decide +kernel
theorem dX3_check_29 : decode cX3_check 29 = .ok (.ifCond .ne 7, 3) := by decide +kernel
theorem dX3_check_32 : decode cX3_check 32 = .ok (.iconst 1, 1) := by decide +kernel
theorem dX3_check_33 : decode cX3_check 33 = .ok (.goto 4, 3) := by decide +kernel
theorem dX3_check_36 : decode cX3_check 36 = .ok (.iconst 0, 1) := by decide +kernel
theorem dX3_check_37 : decode cX3_check 37 = .ok (.istore 4, 2) := by decide +kernel
theorem dX3_check_39 : decode cX3_check 39 = .ok (.iload_n 1, 1) := by decide +kernel
theorem dX3_check_40 : decode cX3_check 40 = .ok (.ifCond .ne 16, 3) := by decide +kernel
theorem dX3_check_43 : decode cX3_check 43 = .ok (.aload_n 0, 1) := by decide +kernel
theorem dX3_check_44 : decode cX3_check 44 = .ok (.getfield 11, 3) := by decide +kernel
theorem dX3_check_47 : decode cX3_check 47 = .ok (.iload_n 3, 1) := by decide +kernel
theorem dX3_check_48 : decode cX3_check 48 = .ok (.aaload, 1) := by decide +kernel
theorem dX3_check_49 : decode cX3_check 49 = .ok (.getfield 90, 3) := by decide +kernel
theorem dX3_check_52 : decode cX3_check 52 = .ok (.iconst 4, 1) := by decide +kernel
theorem dX3_check_53 : decode cX3_check 53 = .ok (.if_icmp .ne 7, 3) := by decide +kernel
theorem dX3_check_56 : decode cX3_check 56 = .ok (.iconst 1, 1) := by decide +kernel
theorem dX3_check_57 : decode cX3_check 57 = .ok (.goto 4, 3) := by decide +kernel
theorem dX3_check_60 : decode cX3_check 60 = .ok (.iconst 0, 1) := by decide +kernel
theorem dX3_check_61 : decode cX3_check 61 = .ok (.istore_n 1, 1) := by decide +kernel
theorem dX3_check_62 : decode cX3_check 62 = .ok (.iload_n 2, 1) := by decide +kernel
theorem dX3_check_63 : decode cX3_check 63 = .ok (.ifCond .ne 21, 3) := by decide +kernel
theorem dX3_check_66 : decode cX3_check 66 = .ok (.iload 4, 2) := by decide +kernel
theorem dX3_check_68 : decode cX3_check 68 = .ok (.ifCond .ne 16, 3) := by decide +kernel
theorem dX3_check_71 : decode cX3_check 71 = .ok (.aload_n 0, 1) := by decide +kernel
theorem dX3_check_72 : decode cX3_check 72 = .ok (.getfield 11, 3) := by decide +kernel
theorem dX3_check_75 : decode cX3_check 75 = .ok (.iload_n 3, 1) := by decide +kernel
theorem dX3_check_76 : decode cX3_check 76 = .ok (.aaload, 1) := by decide +kernel
theorem dX3_check_77 : decode cX3_check 77 = .ok (.getfield 90, 3) := by decide +kernel
theorem dX3_check_80 : decode cX3_check 80 = .ok (.iconst 5, 1) := by decide +kernel
theorem dX3_check_81 : decode cX3_check 81 = .ok (.if_icmp .ne 7, 3) := by decide +kernel
theorem dX3_check_84 : decode cX3_check 84 = .ok (.iconst 1, 1) := by decide +kernel
theorem dX3_check_85 : decode cX3_check 85 = .ok (.goto 4, 3) := by decide +kernel
theorem dX3_check_88 : decode cX3_check 88 = .ok (.iconst 0, 1) := by decide +kernel
theorem dX3_check_89 : decode cX3_check 89 = .ok (.istore_n 2, 1) := by decide +kernel
theorem dX3_check_90 : decode cX3_check 90 = .ok (.iinc 3 1, 3) := by decide +kernel
theorem dX3_check_93 : decode cX3_check 93 = .ok (.goto (-87), 3) := by decide +kernel
theorem dX3_check_96 : decode cX3_check 96 = .ok (.iload_n 1, 1) := by decide +kernel
theorem dX3_check_97 : decode cX3_check 97 = .ok (.ifCond .eq 11, 3) := by decide +kernel
theorem dX3_check_100 : decode cX3_check 100 = .ok (.iload_n 2, 1) := by decide +kernel
theorem dX3_check_101 : decode cX3_check 101 = .ok (.ifCond .eq 7, 3) := by decide +kernel
theorem dX3_check_104 : decode cX3_check 104 = .ok (.iconst 0, 1) := by decide +kernel
theorem dX3_check_105 : decode cX3_check 105 = .ok (.goto 4, 3) := by decide +kernel
theorem dX3_check_108 : decode cX3_check 108 = .ok (.iconst 1, 1) := by decide +kernel
theorem dX3_check_109 : decode cX3_check 109 = .ok (.ireturn, 1) := by decide +kernel
theorem dX3_isSite_0 : decode cX3_isSite 0 = .ok (.iload_n 1, 1) := by decide +kernel
theorem dX3_isSite_1 : decode cX3_isSite 1 = .ok (.ifCond .lt 15, 3) := by decide +kernel
theorem dX3_isSite_4 : decode cX3_isSite 4 = .ok (.iload_n 1, 1) := by decide +kernel
theorem dX3_isSite_5 : decode cX3_isSite 5 = .ok (.aload_n 0, 1) := by decide +kernel
theorem dX3_isSite_6 : decode cX3_isSite 6 = .ok (.getfield 41, 3) := by decide +kernel
theorem dX3_isSite_9 : decode cX3_isSite 9 = .ok (.if_icmp .ge 7, 3) := by decide +kernel
theorem dX3_isSite_12 : decode cX3_isSite 12 = .ok (.iconst 1, 1) := by decide +kernel
theorem dX3_isSite_13 : decode cX3_isSite 13 = .ok (.goto 4, 3) := by decide +kernel
theorem dX3_isSite_16 : decode cX3_isSite 16 = .ok (.iconst 0, 1) := by decide +kernel
theorem dX3_isSite_17 : decode cX3_isSite 17 = .ok (.ireturn, 1) := by decide +kernel
theorem dX3_isLink_0 : decode cX3_isLink 0 = .ok (.aload_n 0, 1) := by decide +kernel
theorem dX3_isLink_1 : decode cX3_isLink 1 = .ok (.iload_n 1, 1) := by decide +kernel
theorem dX3_isLink_2 : decode cX3_isLink 2 = .ok (.invokevirtual 67, 3) := by decide +kernel
theorem dX3_isLink_5 : decode cX3_isLink 5 = .ok (.ifCond .eq 20, 3) := by decide +kernel
theorem dX3_isLink_8 : decode cX3_isLink 8 = .ok (.aload_n 0, 1) := by decide +kernel
theorem dX3_isLink_9 : decode cX3_isLink 9 = .ok (.iload_n 2, 1) := by decide +kernel
theorem dX3_isLink_10 : decode cX3_isLink 10 = .ok (.invokevirtual 67, 3) := by decide +kernel
theorem dX3_isLink_13 : decode cX3_isLink 13 = .ok (.ifCond .eq 12, 3) := by decide +kernel
theorem dX3_isLink_16 : decode cX3_isLink 16 = .ok (.iload_n 1, 1) := by decide +kernel
theorem dX3_isLink_17 : decode cX3_isLink 17 = .ok (.iload_n 2, 1) := by decide +kernel
theorem dX3_isLink_18 : decode cX3_isLink 18 = .ok (.if_icmp .eq 7, 3) := by decide +kernel
theorem dX3_isLink_21 : decode cX3_isLink 21 = .ok (.iconst 1, 1) := by decide +kernel
theorem dX3_isLink_22 : decode cX3_isLink 22 = .ok (.goto 4, 3) := by decide +kernel
theorem dX3_isLink_25 : decode cX3_isLink 25 = .ok (.iconst 0, 1) := by decide +kernel
theorem dX3_isLink_26 : decode cX3_isLink 26 = .ok (.ireturn, 1) := by decide +kernel
theorem dX3_hasBit_0 : decode cX3_hasBit 0 = .ok (.iload_n 0, 1) := by decide +kernel
theorem dX3_hasBit_1 : decode cX3_hasBit 1 = .ok (.iload_n 1, 1) := by decide +kernel
theorem dX3_hasBit_2 : decode cX3_hasBit 2 = .ok (.ishr, 1) := by decide +kernel
theorem dX3_hasBit_3 : decode cX3_hasBit 3 = .ok (.iconst 1, 1) := by decide +kernel
theorem dX3_hasBit_4 : decode cX3_hasBit 4 = .ok (.iand, 1) := by decide +kernel
theorem dX3_hasBit_5 : decode cX3_hasBit 5 = .ok (.ifCond .eq 7, 3) := by decide +kernel
theorem dX3_hasBit_8 : decode cX3_hasBit 8 = .ok (.iconst 1, 1) := by decide +kernel
theorem dX3_hasBit_9 : decode cX3_hasBit 9 = .ok (.goto 4, 3) := by decide +kernel
theorem dX3_hasBit_12 : decode cX3_hasBit 12 = .ok (.iconst 0, 1) := by decide +kernel
theorem dX3_hasBit_13 : decode cX3_hasBit 13 = .ok (.ireturn, 1) := by decide +kernel
theorem dX3_everyone_0 : decode cX3_everyone 0 = .ok (.iconst 1, 1) := by decide +kernel
theorem dX3_everyone_1 : decode cX3_everyone 1 = .ok (.aload_n 0, 1) := by decide +kernel
theorem dX3_everyone_2 : decode cX3_everyone 2 = .ok (.getfield 41, 3) := by decide +kernel
theorem dX3_everyone_5 : decode cX3_everyone 5 = .ok (.ishl, 1) := by decide +kernel
theorem dX3_everyone_6 : decode cX3_everyone 6 = .ok (.iconst 1, 1) := by decide +kernel
theorem dX3_everyone_7 : decode cX3_everyone 7 = .ok (.isub, 1) := by decide +kernel
theorem dX3_everyone_8 : decode cX3_everyone 8 = .ok (.ireturn, 1) := by decide +kernel
theorem dX3_allBut_0 : decode cX3_allBut 0 = .ok (.aload_n 0, 1) := by decide +kernel
theorem dX3_allBut_1 : decode cX3_allBut 1 = .ok (.invokevirtual 139, 3) := by decide +kernel
theorem dX3_allBut_4 : decode cX3_allBut 4 = .ok (.iconst 1, 1) := by decide +kernel
theorem dX3_allBut_5 : decode cX3_allBut 5 = .ok (.iload_n 1, 1) := by decide +kernel
theorem dX3_allBut_6 : decode cX3_allBut 6 = .ok (.ishl, 1) := by decide +kernel
theorem dX3_allBut_7 : decode cX3_allBut 7 = .ok (.iconst (-1), 1) := by decide +kernel
theorem dX3_allBut_8 : decode cX3_allBut 8 = .ok (.ixor, 1) := by decide +kernel
theorem dX3_allBut_9 : decode cX3_allBut 9 = .ok (.iand, 1) := by decide +kernel
theorem dX3_allBut_10 : decode cX3_allBut 10 = .ok (.ireturn, 1) := by decide +kernel
theorem dX3_shareQuorums_0 : decode cX3_shareQuorums 0 = .ok (.aload_n 0, 1) := by decide +kernel
theorem dX3_shareQuorums_1 : decode cX3_shareQuorums 1 = .ok (.aload_n 0, 1) := by decide +kernel
theorem dX3_shareQuorums_2 : decode cX3_shareQuorums 2 = .ok (.getfield 47, 3) := by decide +kernel
theorem dX3_shareQuorums_5 : decode cX3_shareQuorums 5 = .ok (.iconst 2, 1) := by decide +kernel
theorem dX3_shareQuorums_6 : decode cX3_shareQuorums 6 = .ok (.idiv, 1) := by decide +kernel
theorem dX3_shareQuorums_7 : decode cX3_shareQuorums 7 = .ok (.iconst 1, 1) := by decide +kernel
theorem dX3_shareQuorums_8 : decode cX3_shareQuorums 8 = .ok (.iadd, 1) := by decide +kernel
theorem dX3_shareQuorums_9 : decode cX3_shareQuorums 9 = .ok (.putfield 50, 3) := by decide +kernel
theorem dX3_shareQuorums_12 : decode cX3_shareQuorums 12 = .ok (.aload_n 0, 1) := by decide +kernel
theorem dX3_shareQuorums_13 : decode cX3_shareQuorums 13 = .ok (.aload_n 0, 1) := by decide +kernel
theorem dX3_shareQuorums_14 : decode cX3_shareQuorums 14 = .ok (.getfield 47, 3) := by decide +kernel
theorem dX3_shareQuorums_17 : decode cX3_shareQuorums 17 = .ok (.iconst 2, 1) := by decide +kernel
theorem dX3_shareQuorums_18 : decode cX3_shareQuorums 18 = .ok (.idiv, 1) := by decide +kernel
theorem dX3_shareQuorums_19 : decode cX3_shareQuorums 19 = .ok (.iconst 1, 1) := by decide +kernel
theorem dX3_shareQuorums_20 : decode cX3_shareQuorums 20 = .ok (.iadd, 1) := by decide +kernel
theorem dX3_shareQuorums_21 : decode cX3_shareQuorums 21 = .ok (.putfield 53, 3) := by decide +kernel
theorem dX3_shareQuorums_24 : decode cX3_shareQuorums 24 = .ok (.return_, 1) := by decide +kernel
theorem dX3_note_0 : decode cX3_note 0 = .ok (.aload_n 0, 1) := by decide +kernel
theorem dX3_note_1 : decode cX3_note 1 = .ok (.getfield 22, 3) := by decide +kernel
theorem dX3_note_4 : decode cX3_note 4 = .ok (.iconst 0, 1) := by decide +kernel
theorem dX3_note_5 : decode cX3_note 5 = .ok (.iload_n 1, 1) := by decide +kernel
theorem dX3_note_6 : decode cX3_note 6 = .ok (.iastore, 1) := by decide +kernel
theorem dX3_note_7 : decode cX3_note 7 = .ok (.aload_n 0, 1) := by decide +kernel
theorem dX3_note_8 : decode cX3_note 8 = .ok (.getfield 22, 3) := by decide +kernel
theorem dX3_note_11 : decode cX3_note 11 = .ok (.iconst 1, 1) := by decide +kernel
theorem dX3_note_12 : decode cX3_note 12 = .ok (.iload_n 2, 1) := by decide +kernel
theorem dX3_note_13 : decode cX3_note 13 = .ok (.iastore, 1) := by decide +kernel
theorem dX3_note_14 : decode cX3_note 14 = .ok (.aload_n 0, 1) := by decide +kernel
theorem dX3_note_15 : decode cX3_note 15 = .ok (.getfield 22, 3) := by decide +kernel
theorem dX3_note_18 : decode cX3_note 18 = .ok (.iconst 2, 1) := by decide +kernel
theorem dX3_note_19 : decode cX3_note 19 = .ok (.iload_n 3, 1) := by decide +kernel
theorem dX3_note_20 : decode cX3_note 20 = .ok (.iastore, 1) := by decide +kernel
theorem dX3_note_21 : decode cX3_note 21 = .ok (.aload_n 0, 1) := by decide +kernel
theorem dX3_note_22 : decode cX3_note 22 = .ok (.getfield 22, 3) := by decide +kernel
theorem dX3_note_25 : decode cX3_note 25 = .ok (.iconst 3, 1) := by decide +kernel
theorem dX3_note_26 : decode cX3_note 26 = .ok (.iload 4, 2) := by decide +kernel
theorem dX3_note_28 : decode cX3_note 28 = .ok (.iastore, 1) := by decide +kernel
theorem dX3_note_29 : decode cX3_note 29 = .ok (.aload_n 0, 1) := by decide +kernel
theorem dX3_note_30 : decode cX3_note 30 = .ok (.getfield 22, 3) := by decide +kernel
theorem dX3_note_33 : decode cX3_note 33 = .ok (.iconst 4, 1) := by decide +kernel
theorem dX3_note_34 : decode cX3_note 34 = .ok (.iload 5, 2) := by decide +kernel
theorem dX3_note_36 : decode cX3_note 36 = .ok (.iastore, 1) := by decide +kernel
theorem dX3_note_37 : decode cX3_note 37 = .ok (.return_, 1) := by decide +kernel
theorem dX3_takeNext_0 : decode cX3_takeNext 0 = .ok (.aload_n 0, 1) := by decide +kernel
theorem dX3_takeNext_1 : decode cX3_takeNext 1 = .ok (.getfield 18, 3) := by decide +kernel
theorem dX3_takeNext_4 : decode cX3_takeNext 4 = .ok (.invokevirtual 143, 3) := by decide +kernel
theorem dX3_takeNext_7 : decode cX3_takeNext 7 = .ok (.astore_n 2, 1) := by decide +kernel
theorem dX3_takeNext_8 : decode cX3_takeNext 8 = .ok (.aload_n 0, 1) := by decide +kernel
theorem dX3_takeNext_9 : decode cX3_takeNext 9 = .ok (.invokevirtual 147, 3) := by decide +kernel
theorem dX3_takeNext_12 : decode cX3_takeNext 12 = .ok (.istore_n 3, 1) := by decide +kernel
theorem dX3_takeNext_13 : decode cX3_takeNext 13 = .ok (.iload_n 3, 1) := by decide +kernel
theorem dX3_takeNext_14 : decode cX3_takeNext 14 = .ok (.iconst (-1), 1) := by decide +kernel
theorem dX3_takeNext_15 : decode cX3_takeNext 15 = .ok (.if_icmp .eq 84, 3) := by decide +kernel
theorem dX3_takeNext_18 : decode cX3_takeNext 18 = .ok (.aload_n 0, 1) := by decide +kernel
theorem dX3_takeNext_19 : decode cX3_takeNext 19 = .ok (.getfield 11, 3) := by decide +kernel
theorem dX3_takeNext_22 : decode cX3_takeNext 22 = .ok (.iload_n 3, 1) := by decide +kernel
theorem dX3_takeNext_23 : decode cX3_takeNext 23 = .ok (.aaload, 1) := by decide +kernel
theorem dX3_takeNext_24 : decode cX3_takeNext 24 = .ok (.aload_n 2, 1) := by decide +kernel
theorem dX3_takeNext_25 : decode cX3_takeNext 25 = .ok (.invokevirtual 150, 3) := by decide +kernel
theorem dX3_takeNext_28 : decode cX3_takeNext 28 = .ok (.ifCond .eq 71, 3) := by decide +kernel
theorem dX3_takeNext_31 : decode cX3_takeNext 31 = .ok (.aload_n 0, 1) := by decide +kernel
theorem dX3_takeNext_32 : decode cX3_takeNext 32 = .ok (.getfield 11, 3) := by decide +kernel
theorem dX3_takeNext_35 : decode cX3_takeNext 35 = .ok (.iload_n 3, 1) := by decide +kernel
theorem dX3_takeNext_36 : decode cX3_takeNext 36 = .ok (.aaload, 1) := by decide +kernel
theorem dX3_takeNext_37 : decode cX3_takeNext 37 = .ok (.getfield 87, 3) := by decide +kernel
theorem dX3_takeNext_40 : decode cX3_takeNext 40 = .ok (.iload_n 1, 1) := by decide +kernel
theorem dX3_takeNext_41 : decode cX3_takeNext 41 = .ok (.if_icmp .le 5, 3) := by decide +kernel
theorem dX3_takeNext_44 : decode cX3_takeNext 44 = .ok (.iconst 0, 1) := by decide +kernel
theorem dX3_takeNext_45 : decode cX3_takeNext 45 = .ok (.ireturn, 1) := by decide +kernel
theorem dX3_takeNext_46 : decode cX3_takeNext 46 = .ok (.aload_n 0, 1) := by decide +kernel
theorem dX3_takeNext_47 : decode cX3_takeNext 47 = .ok (.getfield 18, 3) := by decide +kernel
theorem dX3_takeNext_50 : decode cX3_takeNext 50 = .ok (.aload_n 0, 1) := by decide +kernel
theorem dX3_takeNext_51 : decode cX3_takeNext 51 = .ok (.getfield 11, 3) := by decide +kernel
theorem dX3_takeNext_54 : decode cX3_takeNext 54 = .ok (.iload_n 3, 1) := by decide +kernel
theorem dX3_takeNext_55 : decode cX3_takeNext 55 = .ok (.aaload, 1) := by decide +kernel
theorem dX3_takeNext_56 : decode cX3_takeNext 56 = .ok (.getfield 87, 3) := by decide +kernel
theorem dX3_takeNext_59 : decode cX3_takeNext 59 = .ok (.putfield 104, 3) := by decide +kernel
theorem dX3_takeNext_62 : decode cX3_takeNext 62 = .ok (.aload_n 0, 1) := by decide +kernel
theorem dX3_takeNext_63 : decode cX3_takeNext 63 = .ok (.getfield 11, 3) := by decide +kernel
theorem dX3_takeNext_66 : decode cX3_takeNext 66 = .ok (.iload_n 3, 1) := by decide +kernel
theorem dX3_takeNext_67 : decode cX3_takeNext 67 = .ok (.aaload, 1) := by decide +kernel
theorem dX3_takeNext_68 : decode cX3_takeNext 68 = .ok (.iconst (-1), 1) := by decide +kernel
theorem dX3_takeNext_69 : decode cX3_takeNext 69 = .ok (.putfield 87, 3) := by decide +kernel
theorem dX3_takeNext_72 : decode cX3_takeNext 72 = .ok (.aload_n 0, 1) := by decide +kernel
theorem dX3_takeNext_73 : decode cX3_takeNext 73 = .ok (.dup, 1) := by decide +kernel
theorem dX3_takeNext_74 : decode cX3_takeNext 74 = .ok (.getfield 115, 3) := by decide +kernel
theorem dX3_takeNext_77 : decode cX3_takeNext 77 = .ok (.iconst 1, 1) := by decide +kernel
theorem dX3_takeNext_78 : decode cX3_takeNext 78 = .ok (.iadd, 1) := by decide +kernel
theorem dX3_takeNext_79 : decode cX3_takeNext 79 = .ok (.putfield 115, 3) := by decide +kernel
theorem dX3_takeNext_82 : decode cX3_takeNext 82 = .ok (.aload_n 0, 1) := by decide +kernel
theorem dX3_takeNext_83 : decode cX3_takeNext 83 = .ok (.bipush 11, 2) := by decide +kernel
theorem dX3_takeNext_85 : decode cX3_takeNext 85 = .ok (.iload_n 3, 1) := by decide +kernel
theorem dX3_takeNext_86 : decode cX3_takeNext 86 = .ok (.iload_n 3, 1) := by decide +kernel
theorem dX3_takeNext_87 : decode cX3_takeNext 87 = .ok (.iconst 0, 1) := by decide +kernel
theorem dX3_takeNext_88 : decode cX3_takeNext 88 = .ok (.iconst 0, 1) := by decide +kernel
theorem dX3_takeNext_89 : decode cX3_takeNext 89 = .ok (.invokevirtual 33, 3) := by decide +kernel
theorem dX3_takeNext_92 : decode cX3_takeNext 92 = .ok (.aload_n 0, 1) := by decide +kernel
theorem dX3_takeNext_93 : decode cX3_takeNext 93 = .ok (.iload_n 3, 1) := by decide +kernel
theorem dX3_takeNext_94 : decode cX3_takeNext 94 = .ok (.invokevirtual 154, 3) := by decide +kernel
theorem dX3_takeNext_97 : decode cX3_takeNext 97 = .ok (.iconst 2, 1) := by decide +kernel
theorem dX3_takeNext_98 : decode cX3_takeNext 98 = .ok (.ireturn, 1) := by decide +kernel
theorem dX3_takeNext_99 : decode cX3_takeNext 99 = .ok (.aload_n 2, 1) := by decide +kernel
theorem dX3_takeNext_100 : decode cX3_takeNext 100 = .ok (.ifnull 11, 3) := by decide +kernel
theorem dX3_takeNext_103 : decode cX3_takeNext 103 = .ok (.aload_n 2, 1) := by decide +kernel
theorem dX3_takeNext_104 : decode cX3_takeNext 104 = .ok (.getfield 157, 3) := by decide +kernel
theorem dX3_takeNext_107 : decode cX3_takeNext 107 = .ok (.iload_n 1, 1) := by decide +kernel
theorem dX3_takeNext_108 : decode cX3_takeNext 108 = .ok (.if_icmp .le 5, 3) := by decide +kernel
theorem dX3_takeNext_111 : decode cX3_takeNext 111 = .ok (.iconst 0, 1) := by decide +kernel
theorem dX3_takeNext_112 : decode cX3_takeNext 112 = .ok (.ireturn, 1) := by decide +kernel
theorem dX3_takeNext_113 : decode cX3_takeNext 113 = .ok (.aload_n 0, 1) := by decide +kernel
theorem dX3_takeNext_114 : decode cX3_takeNext 114 = .ok (.getfield 18, 3) := by decide +kernel
theorem dX3_takeNext_117 : decode cX3_takeNext 117 = .ok (.aload_n 2, 1) := by decide +kernel
theorem dX3_takeNext_118 : decode cX3_takeNext 118 = .ok (.getfield 157, 3) := by decide +kernel
theorem dX3_takeNext_121 : decode cX3_takeNext 121 = .ok (.putfield 104, 3) := by decide +kernel
theorem dX3_takeNext_124 : decode cX3_takeNext 124 = .ok (.aload_n 0, 1) := by decide +kernel
theorem dX3_takeNext_125 : decode cX3_takeNext 125 = .ok (.getfield 18, 3) := by decide +kernel
theorem dX3_takeNext_128 : decode cX3_takeNext 128 = .ok (.aload_n 2, 1) := by decide +kernel
theorem dX3_takeNext_129 : decode cX3_takeNext 129 = .ok (.invokevirtual 160, 3) := by decide +kernel
theorem dX3_takeNext_132 : decode cX3_takeNext 132 = .ok (.aload_n 0, 1) := by decide +kernel
theorem dX3_takeNext_133 : decode cX3_takeNext 133 = .ok (.getfield 11, 3) := by decide +kernel
theorem dX3_takeNext_136 : decode cX3_takeNext 136 = .ok (.aload_n 2, 1) := by decide +kernel
theorem dX3_takeNext_137 : decode cX3_takeNext 137 = .ok (.getfield 164, 3) := by decide +kernel
theorem dX3_takeNext_140 : decode cX3_takeNext 140 = .ok (.aaload, 1) := by decide +kernel
theorem dX3_takeNext_141 : decode cX3_takeNext 141 = .ok (.getfield 71, 3) := by decide +kernel
theorem dX3_takeNext_144 : decode cX3_takeNext 144 = .ok (.istore 4, 2) := by decide +kernel
theorem dX3_takeNext_146 : decode cX3_takeNext 146 = .ok (.iload 4, 2) := by decide +kernel
theorem dX3_takeNext_148 : decode cX3_takeNext 148 = .ok (.ifCond .eq 45, 3) := by decide +kernel
theorem dX3_takeNext_151 : decode cX3_takeNext 151 = .ok (.aload_n 0, 1) := by decide +kernel
theorem dX3_takeNext_152 : decode cX3_takeNext 152 = .ok (.dup, 1) := by decide +kernel
theorem dX3_takeNext_153 : decode cX3_takeNext 153 = .ok (.getfield 112, 3) := by decide +kernel
theorem dX3_takeNext_156 : decode cX3_takeNext 156 = .ok (.iconst 1, 1) := by decide +kernel
theorem dX3_takeNext_157 : decode cX3_takeNext 157 = .ok (.iadd, 1) := by decide +kernel
theorem dX3_takeNext_158 : decode cX3_takeNext 158 = .ok (.putfield 112, 3) := by decide +kernel
theorem dX3_takeNext_161 : decode cX3_takeNext 161 = .ok (.aload_n 0, 1) := by decide +kernel
theorem dX3_takeNext_162 : decode cX3_takeNext 162 = .ok (.aload_n 2, 1) := by decide +kernel
theorem dX3_takeNext_163 : decode cX3_takeNext 163 = .ok (.getfield 167, 3) := by decide +kernel
theorem dX3_takeNext_166 : decode cX3_takeNext 166 = .ok (.aload_n 2, 1) := by decide +kernel
theorem dX3_takeNext_167 : decode cX3_takeNext 167 = .ok (.getfield 164, 3) := by decide +kernel
theorem dX3_takeNext_170 : decode cX3_takeNext 170 = .ok (.aload_n 2, 1) := by decide +kernel
theorem dX3_takeNext_171 : decode cX3_takeNext 171 = .ok (.getfield 170, 3) := by decide +kernel
theorem dX3_takeNext_174 : decode cX3_takeNext 174 = .ok (.aload_n 2, 1) := by decide +kernel
theorem dX3_takeNext_175 : decode cX3_takeNext 175 = .ok (.getfield 173, 3) := by decide +kernel
theorem dX3_takeNext_178 : decode cX3_takeNext 178 = .ok (.aload_n 2, 1) := by decide +kernel
theorem dX3_takeNext_179 : decode cX3_takeNext 179 = .ok (.getfield 174, 3) := by decide +kernel
theorem dX3_takeNext_182 : decode cX3_takeNext 182 = .ok (.invokevirtual 33, 3) := by decide +kernel
theorem dX3_takeNext_185 : decode cX3_takeNext 185 = .ok (.aload_n 0, 1) := by decide +kernel
theorem dX3_takeNext_186 : decode cX3_takeNext 186 = .ok (.aload_n 2, 1) := by decide +kernel
theorem dX3_takeNext_187 : decode cX3_takeNext 187 = .ok (.invokevirtual 177, 3) := by decide +kernel
theorem dX3_takeNext_190 : decode cX3_takeNext 190 = .ok (.goto 16, 3) := by decide +kernel
theorem dX3_takeNext_193 : decode cX3_takeNext 193 = .ok (.aload_n 0, 1) := by decide +kernel
theorem dX3_takeNext_194 : decode cX3_takeNext 194 = .ok (.getfield 18, 3) := by decide +kernel
theorem dX3_takeNext_197 : decode cX3_takeNext 197 = .ok (.dup, 1) := by decide +kernel
theorem dX3_takeNext_198 : decode cX3_takeNext 198 = .ok (.getfield 133, 3) := by decide +kernel
theorem dX3_takeNext_201 : decode cX3_takeNext 201 = .ok (.iconst 1, 1) := by decide +kernel
theorem dX3_takeNext_202 : decode cX3_takeNext 202 = .ok (.iadd, 1) := by decide +kernel
theorem dX3_takeNext_203 : decode cX3_takeNext 203 = .ok (.putfield 133, 3) := by decide +kernel
theorem dX3_takeNext_206 : decode cX3_takeNext 206 = .ok (.aload_n 0, 1) := by decide +kernel
theorem dX3_takeNext_207 : decode cX3_takeNext 207 = .ok (.getfield 18, 3) := by decide +kernel
theorem dX3_takeNext_210 : decode cX3_takeNext 210 = .ok (.aload_n 2, 1) := by decide +kernel
theorem dX3_takeNext_211 : decode cX3_takeNext 211 = .ok (.invokevirtual 180, 3) := by decide +kernel
theorem dX3_takeNext_214 : decode cX3_takeNext 214 = .ok (.iload 4, 2) := by decide +kernel
theorem dX3_takeNext_216 : decode cX3_takeNext 216 = .ok (.ifCond .eq 7, 3) := by decide +kernel
theorem dX3_takeNext_219 : decode cX3_takeNext 219 = .ok (.iconst 2, 1) := by decide +kernel
theorem dX3_takeNext_220 : decode cX3_takeNext 220 = .ok (.goto 4, 3) := by decide +kernel
theorem dX3_takeNext_223 : decode cX3_takeNext 223 = .ok (.iconst 1, 1) := by decide +kernel
theorem dX3_takeNext_224 : decode cX3_takeNext 224 = .ok (.ireturn, 1) := by decide +kernel
theorem dX3_firstTimer_0 : decode cX3_firstTimer 0 = .ok (.iconst (-1), 1) := by decide +kernel
theorem dX3_firstTimer_1 : decode cX3_firstTimer 1 = .ok (.istore_n 1, 1) := by decide +kernel
theorem dX3_firstTimer_2 : decode cX3_firstTimer 2 = .ok (.iconst 0, 1) := by decide +kernel
theorem dX3_firstTimer_3 : decode cX3_firstTimer 3 = .ok (.istore_n 2, 1) := by decide +kernel
theorem dX3_firstTimer_4 : decode cX3_firstTimer 4 = .ok (.iload_n 2, 1) := by decide +kernel
theorem dX3_firstTimer_5 : decode cX3_firstTimer 5 = .ok (.aload_n 0, 1) := by decide +kernel
theorem dX3_firstTimer_6 : decode cX3_firstTimer 6 = .ok (.getfield 41, 3) := by decide +kernel
theorem dX3_firstTimer_9 : decode cX3_firstTimer 9 = .ok (.if_icmp .ge 47, 3) := by decide +kernel
theorem dX3_firstTimer_12 : decode cX3_firstTimer 12 = .ok (.aload_n 0, 1) := by decide +kernel
theorem dX3_firstTimer_13 : decode cX3_firstTimer 13 = .ok (.getfield 11, 3) := by decide +kernel
theorem dX3_firstTimer_16 : decode cX3_firstTimer 16 = .ok (.iload_n 2, 1) := by decide +kernel
theorem dX3_firstTimer_17 : decode cX3_firstTimer 17 = .ok (.aaload, 1) := by decide +kernel
theorem dX3_firstTimer_18 : decode cX3_firstTimer 18 = .ok (.getfield 87, 3) := by decide +kernel
theorem dX3_firstTimer_21 : decode cX3_firstTimer 21 = .ok (.iconst (-1), 1) := by decide +kernel
theorem dX3_firstTimer_22 : decode cX3_firstTimer 22 = .ok (.if_icmp .eq 28, 3) := by decide +kernel
theorem dX3_firstTimer_25 : decode cX3_firstTimer 25 = .ok (.iload_n 1, 1) := by decide +kernel
theorem dX3_firstTimer_26 : decode cX3_firstTimer 26 = .ok (.iconst (-1), 1) := by decide +kernel
theorem dX3_firstTimer_27 : decode cX3_firstTimer 27 = .ok (.if_icmp .eq 21, 3) := by decide +kernel
theorem dX3_firstTimer_30 : decode cX3_firstTimer 30 = .ok (.aload_n 0, 1) := by decide +kernel
theorem dX3_firstTimer_31 : decode cX3_firstTimer 31 = .ok (.getfield 11, 3) := by decide +kernel
theorem dX3_firstTimer_34 : decode cX3_firstTimer 34 = .ok (.iload_n 2, 1) := by decide +kernel
theorem dX3_firstTimer_35 : decode cX3_firstTimer 35 = .ok (.aaload, 1) := by decide +kernel
theorem dX3_firstTimer_36 : decode cX3_firstTimer 36 = .ok (.aload_n 0, 1) := by decide +kernel
theorem dX3_firstTimer_37 : decode cX3_firstTimer 37 = .ok (.getfield 11, 3) := by decide +kernel
theorem dX3_firstTimer_40 : decode cX3_firstTimer 40 = .ok (.iload_n 1, 1) := by decide +kernel
theorem dX3_firstTimer_41 : decode cX3_firstTimer 41 = .ok (.aaload, 1) := by decide +kernel
theorem dX3_firstTimer_42 : decode cX3_firstTimer 42 = .ok (.invokevirtual 183, 3) := by decide +kernel
theorem dX3_firstTimer_45 : decode cX3_firstTimer 45 = .ok (.ifCond .eq 5, 3) := by decide +kernel
theorem dX3_firstTimer_48 : decode cX3_firstTimer 48 = .ok (.iload_n 2, 1) := by decide +kernel
theorem dX3_firstTimer_49 : decode cX3_firstTimer 49 = .ok (.istore_n 1, 1) := by decide +kernel
theorem dX3_firstTimer_50 : decode cX3_firstTimer 50 = .ok (.iinc 2 1, 3) := by decide +kernel
theorem dX3_firstTimer_53 : decode cX3_firstTimer 53 = .ok (.goto (-49), 3) := by decide +kernel
theorem dX3_firstTimer_56 : decode cX3_firstTimer 56 = .ok (.iload_n 1, 1) := by decide +kernel
theorem dX3_firstTimer_57 : decode cX3_firstTimer 57 = .ok (.ireturn, 1) := by decide +kernel
theorem dX3_receive_0 : decode cX3_receive 0 = .ok (.aload_n 1, 1) := by decide +kernel
theorem dX3_receive_1 : decode cX3_receive 1 = .ok (.getfield 167, 3) := by decide +kernel
theorem dX3_receive_4 : decode cX3_receive 4 = .ok (.tableswitch 222 1 10 #[56, 71, 86, 97, 116, 139, 159, 179, 198, 210], 56) := by decide +kernel
theorem dX3_receive_60 : decode cX3_receive 60 = .ok (.aload_n 0, 1) := by decide +kernel
theorem dX3_receive_61 : decode cX3_receive 61 = .ok (.aload_n 1, 1) := by decide +kernel
theorem dX3_receive_62 : decode cX3_receive 62 = .ok (.getfield 164, 3) := by decide +kernel
theorem dX3_receive_65 : decode cX3_receive 65 = .ok (.aload_n 1, 1) := by decide +kernel
theorem dX3_receive_66 : decode cX3_receive 66 = .ok (.getfield 170, 3) := by decide +kernel
theorem dX3_receive_69 : decode cX3_receive 69 = .ok (.invokevirtual 187, 3) := by decide +kernel
theorem dX3_receive_72 : decode cX3_receive 72 = .ok (.goto 154, 3) := by decide +kernel
theorem dX3_receive_75 : decode cX3_receive 75 = .ok (.aload_n 0, 1) := by decide +kernel
theorem dX3_receive_76 : decode cX3_receive 76 = .ok (.aload_n 1, 1) := by decide +kernel
theorem dX3_receive_77 : decode cX3_receive 77 = .ok (.getfield 164, 3) := by decide +kernel
theorem dX3_receive_80 : decode cX3_receive 80 = .ok (.aload_n 1, 1) := by decide +kernel
theorem dX3_receive_81 : decode cX3_receive 81 = .ok (.getfield 170, 3) := by decide +kernel
theorem dX3_receive_84 : decode cX3_receive 84 = .ok (.invokevirtual 190, 3) := by decide +kernel
theorem dX3_receive_87 : decode cX3_receive 87 = .ok (.goto 139, 3) := by decide +kernel
theorem dX3_receive_90 : decode cX3_receive 90 = .ok (.aload_n 0, 1) := by decide +kernel
theorem dX3_receive_91 : decode cX3_receive 91 = .ok (.aload_n 1, 1) := by decide +kernel
theorem dX3_receive_92 : decode cX3_receive 92 = .ok (.getfield 164, 3) := by decide +kernel
theorem dX3_receive_95 : decode cX3_receive 95 = .ok (.invokevirtual 193, 3) := by decide +kernel
theorem dX3_receive_98 : decode cX3_receive 98 = .ok (.goto 128, 3) := by decide +kernel
theorem dX3_receive_101 : decode cX3_receive 101 = .ok (.aload_n 0, 1) := by decide +kernel
theorem dX3_receive_102 : decode cX3_receive 102 = .ok (.aload_n 1, 1) := by decide +kernel
theorem dX3_receive_103 : decode cX3_receive 103 = .ok (.getfield 164, 3) := by decide +kernel
theorem dX3_receive_106 : decode cX3_receive 106 = .ok (.aload_n 1, 1) := by decide +kernel
theorem dX3_receive_107 : decode cX3_receive 107 = .ok (.getfield 170, 3) := by decide +kernel
theorem dX3_receive_110 : decode cX3_receive 110 = .ok (.aload_n 1, 1) := by decide +kernel
theorem dX3_receive_111 : decode cX3_receive 111 = .ok (.getfield 173, 3) := by decide +kernel
theorem dX3_receive_114 : decode cX3_receive 114 = .ok (.invokevirtual 196, 3) := by decide +kernel
theorem dX3_receive_117 : decode cX3_receive 117 = .ok (.goto 109, 3) := by decide +kernel
theorem dX3_receive_120 : decode cX3_receive 120 = .ok (.aload_n 0, 1) := by decide +kernel
theorem dX3_receive_121 : decode cX3_receive 121 = .ok (.aload_n 1, 1) := by decide +kernel
theorem dX3_receive_122 : decode cX3_receive 122 = .ok (.getfield 164, 3) := by decide +kernel
theorem dX3_receive_125 : decode cX3_receive 125 = .ok (.aload_n 1, 1) := by decide +kernel
theorem dX3_receive_126 : decode cX3_receive 126 = .ok (.getfield 170, 3) := by decide +kernel
theorem dX3_receive_129 : decode cX3_receive 129 = .ok (.aload_n 1, 1) := by decide +kernel
theorem dX3_receive_130 : decode cX3_receive 130 = .ok (.getfield 173, 3) := by decide +kernel
theorem dX3_receive_133 : decode cX3_receive 133 = .ok (.aload_n 1, 1) := by decide +kernel
theorem dX3_receive_134 : decode cX3_receive 134 = .ok (.getfield 174, 3) := by decide +kernel
theorem dX3_receive_137 : decode cX3_receive 137 = .ok (.invokevirtual 200, 3) := by decide +kernel
theorem dX3_receive_140 : decode cX3_receive 140 = .ok (.goto 86, 3) := by decide +kernel
theorem dX3_receive_143 : decode cX3_receive 143 = .ok (.aload_n 0, 1) := by decide +kernel
theorem dX3_receive_144 : decode cX3_receive 144 = .ok (.aload_n 1, 1) := by decide +kernel
theorem dX3_receive_145 : decode cX3_receive 145 = .ok (.getfield 164, 3) := by decide +kernel
theorem dX3_receive_148 : decode cX3_receive 148 = .ok (.aload_n 1, 1) := by decide +kernel
theorem dX3_receive_149 : decode cX3_receive 149 = .ok (.getfield 170, 3) := by decide +kernel
theorem dX3_receive_152 : decode cX3_receive 152 = .ok (.aload_n 1, 1) := by decide +kernel
theorem dX3_receive_153 : decode cX3_receive 153 = .ok (.getfield 173, 3) := by decide +kernel
theorem dX3_receive_156 : decode cX3_receive 156 = .ok (.iconst 2, 1) := by decide +kernel
theorem dX3_receive_157 : decode cX3_receive 157 = .ok (.invokevirtual 204, 3) := by decide +kernel
theorem dX3_receive_160 : decode cX3_receive 160 = .ok (.goto 66, 3) := by decide +kernel
theorem dX3_receive_163 : decode cX3_receive 163 = .ok (.aload_n 0, 1) := by decide +kernel
theorem dX3_receive_164 : decode cX3_receive 164 = .ok (.aload_n 1, 1) := by decide +kernel
theorem dX3_receive_165 : decode cX3_receive 165 = .ok (.getfield 164, 3) := by decide +kernel
theorem dX3_receive_168 : decode cX3_receive 168 = .ok (.aload_n 1, 1) := by decide +kernel
theorem dX3_receive_169 : decode cX3_receive 169 = .ok (.getfield 170, 3) := by decide +kernel
theorem dX3_receive_172 : decode cX3_receive 172 = .ok (.aload_n 1, 1) := by decide +kernel
theorem dX3_receive_173 : decode cX3_receive 173 = .ok (.getfield 173, 3) := by decide +kernel
theorem dX3_receive_176 : decode cX3_receive 176 = .ok (.iconst 3, 1) := by decide +kernel
theorem dX3_receive_177 : decode cX3_receive 177 = .ok (.invokevirtual 204, 3) := by decide +kernel
theorem dX3_receive_180 : decode cX3_receive 180 = .ok (.goto 46, 3) := by decide +kernel
theorem dX3_receive_183 : decode cX3_receive 183 = .ok (.aload_n 0, 1) := by decide +kernel
theorem dX3_receive_184 : decode cX3_receive 184 = .ok (.aload_n 1, 1) := by decide +kernel
theorem dX3_receive_185 : decode cX3_receive 185 = .ok (.getfield 164, 3) := by decide +kernel
theorem dX3_receive_188 : decode cX3_receive 188 = .ok (.aload_n 1, 1) := by decide +kernel
theorem dX3_receive_189 : decode cX3_receive 189 = .ok (.getfield 170, 3) := by decide +kernel
theorem dX3_receive_192 : decode cX3_receive 192 = .ok (.aload_n 1, 1) := by decide +kernel
theorem dX3_receive_193 : decode cX3_receive 193 = .ok (.getfield 173, 3) := by decide +kernel
theorem dX3_receive_196 : decode cX3_receive 196 = .ok (.invokevirtual 207, 3) := by decide +kernel
theorem dX3_receive_199 : decode cX3_receive 199 = .ok (.goto 27, 3) := by decide +kernel
theorem dX3_receive_202 : decode cX3_receive 202 = .ok (.aload_n 0, 1) := by decide +kernel
theorem dX3_receive_203 : decode cX3_receive 203 = .ok (.aload_n 1, 1) := by decide +kernel
theorem dX3_receive_204 : decode cX3_receive 204 = .ok (.getfield 164, 3) := by decide +kernel
theorem dX3_receive_207 : decode cX3_receive 207 = .ok (.iconst 4, 1) := by decide +kernel
theorem dX3_receive_208 : decode cX3_receive 208 = .ok (.invokevirtual 210, 3) := by decide +kernel
theorem dX3_receive_211 : decode cX3_receive 211 = .ok (.goto 15, 3) := by decide +kernel
theorem dX3_receive_214 : decode cX3_receive 214 = .ok (.aload_n 0, 1) := by decide +kernel
theorem dX3_receive_215 : decode cX3_receive 215 = .ok (.aload_n 1, 1) := by decide +kernel
theorem dX3_receive_216 : decode cX3_receive 216 = .ok (.getfield 164, 3) := by decide +kernel
theorem dX3_receive_219 : decode cX3_receive 219 = .ok (.iconst 5, 1) := by decide +kernel
theorem dX3_receive_220 : decode cX3_receive 220 = .ok (.invokevirtual 210, 3) := by decide +kernel
theorem dX3_receive_223 : decode cX3_receive 223 = .ok (.goto 3, 3) := by decide +kernel
theorem dX3_receive_226 : decode cX3_receive 226 = .ok (.return_, 1) := by decide +kernel
theorem dX3_onAskVote_0 : decode cX3_onAskVote 0 = .ok (.aload_n 0, 1) := by decide +kernel
theorem dX3_onAskVote_1 : decode cX3_onAskVote 1 = .ok (.getfield 11, 3) := by decide +kernel
theorem dX3_onAskVote_4 : decode cX3_onAskVote 4 = .ok (.iload_n 1, 1) := by decide +kernel
theorem dX3_onAskVote_5 : decode cX3_onAskVote 5 = .ok (.aaload, 1) := by decide +kernel
theorem dX3_onAskVote_6 : decode cX3_onAskVote 6 = .ok (.astore_n 3, 1) := by decide +kernel
theorem dX3_onAskVote_7 : decode cX3_onAskVote 7 = .ok (.aload_n 3, 1) := by decide +kernel
theorem dX3_onAskVote_8 : decode cX3_onAskVote 8 = .ok (.getfield 90, 3) := by decide +kernel
theorem dX3_onAskVote_11 : decode cX3_onAskVote 11 = .ok (.ifCond .eq 4, 3) := by decide +kernel
theorem dX3_onAskVote_14 : decode cX3_onAskVote 14 = .ok (.return_, 1) := by decide +kernel
theorem dX3_onAskVote_15 : decode cX3_onAskVote 15 = .ok (.aload_n 0, 1) := by decide +kernel
theorem dX3_onAskVote_16 : decode cX3_onAskVote 16 = .ok (.getfield 74, 3) := by decide +kernel
theorem dX3_onAskVote_19 : decode cX3_onAskVote 19 = .ok (.iload_n 1, 1) := by decide +kernel
theorem dX3_onAskVote_20 : decode cX3_onAskVote 20 = .ok (.invokestatic 64, 3) := by decide +kernel
theorem dX3_onAskVote_23 : decode cX3_onAskVote 23 = .ok (.ifCond .eq 37, 3) := by decide +kernel
theorem dX3_onAskVote_26 : decode cX3_onAskVote 26 = .ok (.aload_n 0, 1) := by decide +kernel
theorem dX3_onAskVote_27 : decode cX3_onAskVote 27 = .ok (.aload_n 3, 1) := by decide +kernel
theorem dX3_onAskVote_28 : decode cX3_onAskVote 28 = .ok (.iconst 1, 1) := by decide +kernel
theorem dX3_onAskVote_29 : decode cX3_onAskVote 29 = .ok (.invokevirtual 93, 3) := by decide +kernel
theorem dX3_onAskVote_32 : decode cX3_onAskVote 32 = .ok (.aload_n 0, 1) := by decide +kernel
theorem dX3_onAskVote_33 : decode cX3_onAskVote 33 = .ok (.getfield 18, 3) := by decide +kernel
theorem dX3_onAskVote_36 : decode cX3_onAskVote 36 = .ok (.iload_n 1, 1) := by decide +kernel
theorem dX3_onAskVote_37 : decode cX3_onAskVote 37 = .ok (.iconst 1, 1) := by decide +kernel
theorem dX3_onAskVote_38 : decode cX3_onAskVote 38 = .ok (.iload_n 2, 1) := by decide +kernel
theorem dX3_onAskVote_39 : decode cX3_onAskVote 39 = .ok (.ishl, 1) := by decide +kernel
theorem dX3_onAskVote_40 : decode cX3_onAskVote 40 = .ok (.iconst 2, 1) := by decide +kernel
theorem dX3_onAskVote_41 : decode cX3_onAskVote 41 = .ok (.iconst 0, 1) := by decide +kernel
theorem dX3_onAskVote_42 : decode cX3_onAskVote 42 = .ok (.iconst 0, 1) := by decide +kernel
theorem dX3_onAskVote_43 : decode cX3_onAskVote 43 = .ok (.invokevirtual 213, 3) := by decide +kernel
theorem dX3_onAskVote_46 : decode cX3_onAskVote 46 = .ok (.aload_n 0, 1) := by decide +kernel
theorem dX3_onAskVote_47 : decode cX3_onAskVote 47 = .ok (.aload_n 3, 1) := by decide +kernel
theorem dX3_onAskVote_48 : decode cX3_onAskVote 48 = .ok (.aload_n 0, 1) := by decide +kernel
theorem dX3_onAskVote_49 : decode cX3_onAskVote 49 = .ok (.getfield 26, 3) := by decide +kernel
theorem dX3_onAskVote_52 : decode cX3_onAskVote 52 = .ok (.iload_n 1, 1) := by decide +kernel
theorem dX3_onAskVote_53 : decode cX3_onAskVote 53 = .ok (.iadd, 1) := by decide +kernel
theorem dX3_onAskVote_54 : decode cX3_onAskVote 54 = .ok (.invokevirtual 216, 3) := by decide +kernel
theorem dX3_onAskVote_57 : decode cX3_onAskVote 57 = .ok (.goto 23, 3) := by decide +kernel
theorem dX3_onAskVote_60 : decode cX3_onAskVote 60 = .ok (.aload_n 0, 1) := by decide +kernel
theorem dX3_onAskVote_61 : decode cX3_onAskVote 61 = .ok (.aload_n 3, 1) := by decide +kernel
theorem dX3_onAskVote_62 : decode cX3_onAskVote 62 = .ok (.iconst 5, 1) := by decide +kernel
theorem dX3_onAskVote_63 : decode cX3_onAskVote 63 = .ok (.invokevirtual 93, 3) := by decide +kernel
theorem dX3_onAskVote_66 : decode cX3_onAskVote 66 = .ok (.aload_n 0, 1) := by decide +kernel
theorem dX3_onAskVote_67 : decode cX3_onAskVote 67 = .ok (.getfield 18, 3) := by decide +kernel
theorem dX3_onAskVote_70 : decode cX3_onAskVote 70 = .ok (.iload_n 1, 1) := by decide +kernel
theorem dX3_onAskVote_71 : decode cX3_onAskVote 71 = .ok (.iconst 1, 1) := by decide +kernel
theorem dX3_onAskVote_72 : decode cX3_onAskVote 72 = .ok (.iload_n 2, 1) := by decide +kernel
theorem dX3_onAskVote_73 : decode cX3_onAskVote 73 = .ok (.ishl, 1) := by decide +kernel
theorem dX3_onAskVote_74 : decode cX3_onAskVote 74 = .ok (.iconst 3, 1) := by decide +kernel
theorem dX3_onAskVote_75 : decode cX3_onAskVote 75 = .ok (.iconst 0, 1) := by decide +kernel
theorem dX3_onAskVote_76 : decode cX3_onAskVote 76 = .ok (.iconst 0, 1) := by decide +kernel
theorem dX3_onAskVote_77 : decode cX3_onAskVote 77 = .ok (.invokevirtual 213, 3) := by decide +kernel
theorem dX3_onAskVote_80 : decode cX3_onAskVote 80 = .ok (.return_, 1) := by decide +kernel
theorem dX3_onYes_0 : decode cX3_onYes 0 = .ok (.aload_n 0, 1) := by decide +kernel
theorem dX3_onYes_1 : decode cX3_onYes 1 = .ok (.getfield 11, 3) := by decide +kernel
theorem dX3_onYes_4 : decode cX3_onYes 4 = .ok (.iload_n 1, 1) := by decide +kernel
theorem dX3_onYes_5 : decode cX3_onYes 5 = .ok (.aaload, 1) := by decide +kernel
theorem dX3_onYes_6 : decode cX3_onYes 6 = .ok (.astore_n 3, 1) := by decide +kernel
theorem dX3_onYes_7 : decode cX3_onYes 7 = .ok (.aload_n 3, 1) := by decide +kernel
theorem dX3_onYes_8 : decode cX3_onYes 8 = .ok (.getfield 84, 3) := by decide +kernel
theorem dX3_onYes_11 : decode cX3_onYes 11 = .ok (.iconst 1, 1) := by decide +kernel
theorem dX3_onYes_12 : decode cX3_onYes 12 = .ok (.if_icmp .eq 4, 3) := by decide +kernel
theorem dX3_onYes_15 : decode cX3_onYes 15 = .ok (.return_, 1) := by decide +kernel
theorem dX3_onYes_16 : decode cX3_onYes 16 = .ok (.aload_n 3, 1) := by decide +kernel
theorem dX3_onYes_17 : decode cX3_onYes 17 = .ok (.dup, 1) := by decide +kernel
theorem dX3_onYes_18 : decode cX3_onYes 18 = .ok (.getfield 219, 3) := by decide +kernel
theorem dX3_onYes_21 : decode cX3_onYes 21 = .ok (.iconst 1, 1) := by decide +kernel
theorem dX3_onYes_22 : decode cX3_onYes 22 = .ok (.iload_n 2, 1) := by decide +kernel
theorem dX3_onYes_23 : decode cX3_onYes 23 = .ok (.ishl, 1) := by decide +kernel
theorem dX3_onYes_24 : decode cX3_onYes 24 = .ok (.ior, 1) := by decide +kernel
theorem dX3_onYes_25 : decode cX3_onYes 25 = .ok (.putfield 219, 3) := by decide +kernel
theorem dX3_onYes_28 : decode cX3_onYes 28 = .ok (.aload_n 3, 1) := by decide +kernel
theorem dX3_onYes_29 : decode cX3_onYes 29 = .ok (.getfield 219, 3) := by decide +kernel
theorem dX3_onYes_32 : decode cX3_onYes 32 = .ok (.aload_n 0, 1) := by decide +kernel
theorem dX3_onYes_33 : decode cX3_onYes 33 = .ok (.invokevirtual 139, 3) := by decide +kernel
theorem dX3_onYes_36 : decode cX3_onYes 36 = .ok (.if_icmp .ne 19, 3) := by decide +kernel
theorem dX3_onYes_39 : decode cX3_onYes 39 = .ok (.aload_n 3, 1) := by decide +kernel
theorem dX3_onYes_40 : decode cX3_onYes 40 = .ok (.dup, 1) := by decide +kernel
theorem dX3_onYes_41 : decode cX3_onYes 41 = .ok (.getfield 122, 3) := by decide +kernel
theorem dX3_onYes_44 : decode cX3_onYes 44 = .ok (.iconst 1, 1) := by decide +kernel
theorem dX3_onYes_45 : decode cX3_onYes 45 = .ok (.iadd, 1) := by decide +kernel
theorem dX3_onYes_46 : decode cX3_onYes 46 = .ok (.putfield 122, 3) := by decide +kernel
theorem dX3_onYes_49 : decode cX3_onYes 49 = .ok (.aload_n 0, 1) := by decide +kernel
theorem dX3_onYes_50 : decode cX3_onYes 50 = .ok (.iload_n 1, 1) := by decide +kernel
theorem dX3_onYes_51 : decode cX3_onYes 51 = .ok (.iconst 2, 1) := by decide +kernel
theorem dX3_onYes_52 : decode cX3_onYes 52 = .ok (.invokevirtual 222, 3) := by decide +kernel
theorem dX3_onYes_55 : decode cX3_onYes 55 = .ok (.return_, 1) := by decide +kernel
theorem dX3_onNo_0 : decode cX3_onNo 0 = .ok (.aload_n 0, 1) := by decide +kernel
theorem dX3_onNo_1 : decode cX3_onNo 1 = .ok (.getfield 11, 3) := by decide +kernel
theorem dX3_onNo_4 : decode cX3_onNo 4 = .ok (.iload_n 1, 1) := by decide +kernel
theorem dX3_onNo_5 : decode cX3_onNo 5 = .ok (.aaload, 1) := by decide +kernel
theorem dX3_onNo_6 : decode cX3_onNo 6 = .ok (.getfield 84, 3) := by decide +kernel
theorem dX3_onNo_9 : decode cX3_onNo 9 = .ok (.iconst 1, 1) := by decide +kernel
theorem dX3_onNo_10 : decode cX3_onNo 10 = .ok (.if_icmp .ne 9, 3) := by decide +kernel
theorem dX3_onNo_13 : decode cX3_onNo 13 = .ok (.aload_n 0, 1) := by decide +kernel
theorem dX3_onNo_14 : decode cX3_onNo 14 = .ok (.iload_n 1, 1) := by decide +kernel
theorem dX3_onNo_15 : decode cX3_onNo 15 = .ok (.iconst 5, 1) := by decide +kernel
theorem dX3_onNo_16 : decode cX3_onNo 16 = .ok (.invokevirtual 80, 3) := by decide +kernel
theorem dX3_onNo_19 : decode cX3_onNo 19 = .ok (.return_, 1) := by decide +kernel
theorem dX3_onAskState_0 : decode cX3_onAskState 0 = .ok (.aload_n 0, 1) := by decide +kernel
theorem dX3_onAskState_1 : decode cX3_onAskState 1 = .ok (.getfield 11, 3) := by decide +kernel
theorem dX3_onAskState_4 : decode cX3_onAskState 4 = .ok (.iload_n 1, 1) := by decide +kernel
theorem dX3_onAskState_5 : decode cX3_onAskState 5 = .ok (.aaload, 1) := by decide +kernel
theorem dX3_onAskState_6 : decode cX3_onAskState 6 = .ok (.astore 4, 2) := by decide +kernel
theorem dX3_onAskState_8 : decode cX3_onAskState 8 = .ok (.aload 4, 2) := by decide +kernel
theorem dX3_onAskState_10 : decode cX3_onAskState 10 = .ok (.getfield 90, 3) := by decide +kernel
theorem dX3_onAskState_13 : decode cX3_onAskState 13 = .ok (.ifCond .ne 10, 3) := by decide +kernel
theorem dX3_onAskState_16 : decode cX3_onAskState 16 = .ok (.aload_n 0, 1) := by decide +kernel
theorem dX3_onAskState_17 : decode cX3_onAskState 17 = .ok (.aload 4, 2) := by decide +kernel
theorem dX3_onAskState_19 : decode cX3_onAskState 19 = .ok (.iconst 5, 1) := by decide +kernel
theorem dX3_onAskState_20 : decode cX3_onAskState 20 = .ok (.invokevirtual 93, 3) := by decide +kernel
theorem dX3_onAskState_23 : decode cX3_onAskState 23 = .ok (.aload_n 0, 1) := by decide +kernel
theorem dX3_onAskState_24 : decode cX3_onAskState 24 = .ok (.iload_n 1, 1) := by decide +kernel
theorem dX3_onAskState_25 : decode cX3_onAskState 25 = .ok (.iload_n 2, 1) := by decide +kernel
theorem dX3_onAskState_26 : decode cX3_onAskState 26 = .ok (.invokevirtual 225, 3) := by decide +kernel
theorem dX3_onAskState_29 : decode cX3_onAskState 29 = .ok (.aload_n 0, 1) := by decide +kernel
theorem dX3_onAskState_30 : decode cX3_onAskState 30 = .ok (.getfield 18, 3) := by decide +kernel
theorem dX3_onAskState_33 : decode cX3_onAskState 33 = .ok (.iload_n 1, 1) := by decide +kernel
theorem dX3_onAskState_34 : decode cX3_onAskState 34 = .ok (.iconst 1, 1) := by decide +kernel
theorem dX3_onAskState_35 : decode cX3_onAskState 35 = .ok (.iload_n 2, 1) := by decide +kernel
theorem dX3_onAskState_36 : decode cX3_onAskState 36 = .ok (.ishl, 1) := by decide +kernel
theorem dX3_onAskState_37 : decode cX3_onAskState 37 = .ok (.iconst 5, 1) := by decide +kernel
theorem dX3_onAskState_38 : decode cX3_onAskState 38 = .ok (.iload_n 3, 1) := by decide +kernel
theorem dX3_onAskState_39 : decode cX3_onAskState 39 = .ok (.aload 4, 2) := by decide +kernel
theorem dX3_onAskState_41 : decode cX3_onAskState 41 = .ok (.getfield 90, 3) := by decide +kernel
theorem dX3_onAskState_44 : decode cX3_onAskState 44 = .ok (.invokevirtual 213, 3) := by decide +kernel
theorem dX3_onAskState_47 : decode cX3_onAskState 47 = .ok (.return_, 1) := by decide +kernel
theorem dX3_onState_0 : decode cX3_onState 0 = .ok (.aload_n 0, 1) := by decide +kernel
theorem dX3_onState_1 : decode cX3_onState 1 = .ok (.getfield 11, 3) := by decide +kernel
theorem dX3_onState_4 : decode cX3_onState 4 = .ok (.iload_n 1, 1) := by decide +kernel
theorem dX3_onState_5 : decode cX3_onState 5 = .ok (.aaload, 1) := by decide +kernel
theorem dX3_onState_6 : decode cX3_onState 6 = .ok (.astore 5, 2) := by decide +kernel
theorem dX3_onState_8 : decode cX3_onState 8 = .ok (.aload 5, 2) := by decide +kernel
theorem dX3_onState_10 : decode cX3_onState 10 = .ok (.getfield 84, 3) := by decide +kernel
theorem dX3_onState_13 : decode cX3_onState 13 = .ok (.iconst 3, 1) := by decide +kernel
theorem dX3_onState_14 : decode cX3_onState 14 = .ok (.if_icmp .ne 12, 3) := by decide +kernel
theorem dX3_onState_17 : decode cX3_onState 17 = .ok (.aload 5, 2) := by decide +kernel
theorem dX3_onState_19 : decode cX3_onState 19 = .ok (.getfield 122, 3) := by decide +kernel
theorem dX3_onState_22 : decode cX3_onState 22 = .ok (.iload_n 3, 1) := by decide +kernel
theorem dX3_onState_23 : decode cX3_onState 23 = .ok (.if_icmp .eq 4, 3) := by decide +kernel
theorem dX3_onState_26 : decode cX3_onState 26 = .ok (.return_, 1) := by decide +kernel
theorem dX3_onState_27 : decode cX3_onState 27 = .ok (.iload 4, 2) := by decide +kernel
theorem dX3_onState_29 : decode cX3_onState 29 = .ok (.iconst 4, 1) := by decide +kernel
theorem dX3_onState_30 : decode cX3_onState 30 = .ok (.if_icmp .eq 9, 3) := by decide +kernel
theorem dX3_onState_33 : decode cX3_onState 33 = .ok (.iload 4, 2) := by decide +kernel
theorem dX3_onState_35 : decode cX3_onState 35 = .ok (.iconst 5, 1) := by decide +kernel
theorem dX3_onState_36 : decode cX3_onState 36 = .ok (.if_icmp .ne 13, 3) := by decide +kernel
theorem dX3_onState_39 : decode cX3_onState 39 = .ok (.aload_n 0, 1) := by decide +kernel
theorem dX3_onState_40 : decode cX3_onState 40 = .ok (.iload_n 1, 1) := by decide +kernel
theorem dX3_onState_41 : decode cX3_onState 41 = .ok (.iload 4, 2) := by decide +kernel
theorem dX3_onState_43 : decode cX3_onState 43 = .ok (.invokevirtual 80, 3) := by decide +kernel
theorem dX3_onState_46 : decode cX3_onState 46 = .ok (.goto 25, 3) := by decide +kernel
theorem dX3_onState_49 : decode cX3_onState 49 = .ok (.aload 5, 2) := by decide +kernel
theorem dX3_onState_51 : decode cX3_onState 51 = .ok (.dup, 1) := by decide +kernel
theorem dX3_onState_52 : decode cX3_onState 52 = .ok (.getfield 219, 3) := by decide +kernel
theorem dX3_onState_55 : decode cX3_onState 55 = .ok (.iconst 1, 1) := by decide +kernel
theorem dX3_onState_56 : decode cX3_onState 56 = .ok (.iload_n 2, 1) := by decide +kernel
theorem dX3_onState_57 : decode cX3_onState 57 = .ok (.ishl, 1) := by decide +kernel
theorem dX3_onState_58 : decode cX3_onState 58 = .ok (.ior, 1) := by decide +kernel
theorem dX3_onState_59 : decode cX3_onState 59 = .ok (.putfield 219, 3) := by decide +kernel
theorem dX3_onState_62 : decode cX3_onState 62 = .ok (.aload 5, 2) := by decide +kernel
theorem dX3_onState_64 : decode cX3_onState 64 = .ok (.getfield 228, 3) := by decide +kernel
theorem dX3_onState_67 : decode cX3_onState 67 = .ok (.iload_n 2, 1) := by decide +kernel
theorem dX3_onState_68 : decode cX3_onState 68 = .ok (.iload 4, 2) := by decide +kernel
theorem dX3_onState_70 : decode cX3_onState 70 = .ok (.iastore, 1) := by decide +kernel
theorem dX3_onState_71 : decode cX3_onState 71 = .ok (.return_, 1) := by decide +kernel
theorem dX3_onAskReady_0 : decode cX3_onAskReady 0 = .ok (.aload_n 0, 1) := by decide +kernel
theorem dX3_onAskReady_1 : decode cX3_onAskReady 1 = .ok (.getfield 11, 3) := by decide +kernel
theorem dX3_onAskReady_4 : decode cX3_onAskReady 4 = .ok (.iload_n 1, 1) := by decide +kernel
theorem dX3_onAskReady_5 : decode cX3_onAskReady 5 = .ok (.aaload, 1) := by decide +kernel
theorem dX3_onAskReady_6 : decode cX3_onAskReady 6 = .ok (.astore 5, 2) := by decide +kernel
theorem dX3_onAskReady_8 : decode cX3_onAskReady 8 = .ok (.aload 5, 2) := by decide +kernel
theorem dX3_onAskReady_10 : decode cX3_onAskReady 10 = .ok (.invokevirtual 97, 3) := by decide +kernel
theorem dX3_onAskReady_13 : decode cX3_onAskReady 13 = .ok (.ifCond .eq 25, 3) := by decide +kernel
theorem dX3_onAskReady_16 : decode cX3_onAskReady 16 = .ok (.aload_n 0, 1) := by decide +kernel
theorem dX3_onAskReady_17 : decode cX3_onAskReady 17 = .ok (.getfield 18, 3) := by decide +kernel
theorem dX3_onAskReady_20 : decode cX3_onAskReady 20 = .ok (.iload_n 1, 1) := by decide +kernel
theorem dX3_onAskReady_21 : decode cX3_onAskReady 21 = .ok (.iconst 1, 1) := by decide +kernel
theorem dX3_onAskReady_22 : decode cX3_onAskReady 22 = .ok (.iload_n 2, 1) := by decide +kernel
theorem dX3_onAskReady_23 : decode cX3_onAskReady 23 = .ok (.ishl, 1) := by decide +kernel
theorem dX3_onAskReady_24 : decode cX3_onAskReady 24 = .ok (.aload 5, 2) := by decide +kernel
theorem dX3_onAskReady_26 : decode cX3_onAskReady 26 = .ok (.getfield 90, 3) := by decide +kernel
theorem dX3_onAskReady_29 : decode cX3_onAskReady 29 = .ok (.invokestatic 231, 3) := by decide +kernel
theorem dX3_onAskReady_32 : decode cX3_onAskReady 32 = .ok (.iconst 0, 1) := by decide +kernel
theorem dX3_onAskReady_33 : decode cX3_onAskReady 33 = .ok (.iconst 0, 1) := by decide +kernel
theorem dX3_onAskReady_34 : decode cX3_onAskReady 34 = .ok (.invokevirtual 213, 3) := by decide +kernel
theorem dX3_onAskReady_37 : decode cX3_onAskReady 37 = .ok (.return_, 1) := by decide +kernel
theorem dX3_onAskReady_38 : decode cX3_onAskReady 38 = .ok (.aload_n 0, 1) := by decide +kernel
theorem dX3_onAskReady_39 : decode cX3_onAskReady 39 = .ok (.iload_n 1, 1) := by decide +kernel
theorem dX3_onAskReady_40 : decode cX3_onAskReady 40 = .ok (.iload_n 2, 1) := by decide +kernel
theorem dX3_onAskReady_41 : decode cX3_onAskReady 41 = .ok (.invokevirtual 225, 3) := by decide +kernel
theorem dX3_onAskReady_44 : decode cX3_onAskReady 44 = .ok (.aload 5, 2) := by decide +kernel
theorem dX3_onAskReady_46 : decode cX3_onAskReady 46 = .ok (.getfield 90, 3) := by decide +kernel
theorem dX3_onAskReady_49 : decode cX3_onAskReady 49 = .ok (.iconst 1, 1) := by decide +kernel
theorem dX3_onAskReady_50 : decode cX3_onAskReady 50 = .ok (.if_icmp .ne 11, 3) := by decide +kernel
theorem dX3_onAskReady_53 : decode cX3_onAskReady 53 = .ok (.aload_n 0, 1) := by decide +kernel
theorem dX3_onAskReady_54 : decode cX3_onAskReady 54 = .ok (.aload 5, 2) := by decide +kernel
theorem dX3_onAskReady_56 : decode cX3_onAskReady 56 = .ok (.iload 4, 2) := by decide +kernel
theorem dX3_onAskReady_58 : decode cX3_onAskReady 58 = .ok (.invokevirtual 93, 3) := by decide +kernel
theorem dX3_onAskReady_61 : decode cX3_onAskReady 61 = .ok (.aload 5, 2) := by decide +kernel
theorem dX3_onAskReady_63 : decode cX3_onAskReady 63 = .ok (.getfield 90, 3) := by decide +kernel
theorem dX3_onAskReady_66 : decode cX3_onAskReady 66 = .ok (.iload 4, 2) := by decide +kernel
theorem dX3_onAskReady_68 : decode cX3_onAskReady 68 = .ok (.if_icmp .ne 18, 3) := by decide +kernel
theorem dX3_onAskReady_71 : decode cX3_onAskReady 71 = .ok (.aload_n 0, 1) := by decide +kernel
theorem dX3_onAskReady_72 : decode cX3_onAskReady 72 = .ok (.getfield 18, 3) := by decide +kernel
theorem dX3_onAskReady_75 : decode cX3_onAskReady 75 = .ok (.iload_n 1, 1) := by decide +kernel
theorem dX3_onAskReady_76 : decode cX3_onAskReady 76 = .ok (.iconst 1, 1) := by decide +kernel
theorem dX3_onAskReady_77 : decode cX3_onAskReady 77 = .ok (.iload_n 2, 1) := by decide +kernel
theorem dX3_onAskReady_78 : decode cX3_onAskReady 78 = .ok (.ishl, 1) := by decide +kernel
theorem dX3_onAskReady_79 : decode cX3_onAskReady 79 = .ok (.bipush 8, 2) := by decide +kernel
theorem dX3_onAskReady_81 : decode cX3_onAskReady 81 = .ok (.iload_n 3, 1) := by decide +kernel
theorem dX3_onAskReady_82 : decode cX3_onAskReady 82 = .ok (.iconst 0, 1) := by decide +kernel
theorem dX3_onAskReady_83 : decode cX3_onAskReady 83 = .ok (.invokevirtual 213, 3) := by decide +kernel
theorem dX3_onAskReady_86 : decode cX3_onAskReady 86 = .ok (.return_, 1) := by decide +kernel
theorem dX3_onAcknowledge_0 : decode cX3_onAcknowledge 0 = .ok (.aload_n 0, 1) := by decide +kernel
theorem dX3_onAcknowledge_1 : decode cX3_onAcknowledge 1 = .ok (.getfield 11, 3) := by decide +kernel
theorem dX3_onAcknowledge_4 : decode cX3_onAcknowledge 4 = .ok (.iload_n 1, 1) := by decide +kernel
theorem dX3_onAcknowledge_5 : decode cX3_onAcknowledge 5 = .ok (.aaload, 1) := by decide +kernel
theorem dX3_onAcknowledge_6 : decode cX3_onAcknowledge 6 = .ok (.astore 4, 2) := by decide +kernel
theorem dX3_onAcknowledge_8 : decode cX3_onAcknowledge 8 = .ok (.aload 4, 2) := by decide +kernel
theorem dX3_onAcknowledge_10 : decode cX3_onAcknowledge 10 = .ok (.invokevirtual 234, 3) := by decide +kernel
theorem dX3_onAcknowledge_13 : decode cX3_onAcknowledge 13 = .ok (.ifCond .eq 12, 3) := by decide +kernel
theorem dX3_onAcknowledge_16 : decode cX3_onAcknowledge 16 = .ok (.aload 4, 2) := by decide +kernel
theorem dX3_onAcknowledge_18 : decode cX3_onAcknowledge 18 = .ok (.getfield 122, 3) := by decide +kernel
theorem dX3_onAcknowledge_21 : decode cX3_onAcknowledge 21 = .ok (.iload_n 3, 1) := by decide +kernel
theorem dX3_onAcknowledge_22 : decode cX3_onAcknowledge 22 = .ok (.if_icmp .eq 4, 3) := by decide +kernel
theorem dX3_onAcknowledge_25 : decode cX3_onAcknowledge 25 = .ok (.return_, 1) := by decide +kernel
theorem dX3_onAcknowledge_26 : decode cX3_onAcknowledge 26 = .ok (.aload 4, 2) := by decide +kernel
theorem dX3_onAcknowledge_28 : decode cX3_onAcknowledge 28 = .ok (.dup, 1) := by decide +kernel
theorem dX3_onAcknowledge_29 : decode cX3_onAcknowledge 29 = .ok (.getfield 219, 3) := by decide +kernel
theorem dX3_onAcknowledge_32 : decode cX3_onAcknowledge 32 = .ok (.iconst 1, 1) := by decide +kernel
theorem dX3_onAcknowledge_33 : decode cX3_onAcknowledge 33 = .ok (.iload_n 2, 1) := by decide +kernel
theorem dX3_onAcknowledge_34 : decode cX3_onAcknowledge 34 = .ok (.ishl, 1) := by decide +kernel
theorem dX3_onAcknowledge_35 : decode cX3_onAcknowledge 35 = .ok (.ior, 1) := by decide +kernel
theorem dX3_onAcknowledge_36 : decode cX3_onAcknowledge 36 = .ok (.putfield 219, 3) := by decide +kernel
theorem dX3_onAcknowledge_39 : decode cX3_onAcknowledge 39 = .ok (.aload_n 0, 1) := by decide +kernel
theorem dX3_onAcknowledge_40 : decode cX3_onAcknowledge 40 = .ok (.aload 4, 2) := by decide +kernel
theorem dX3_onAcknowledge_42 : decode cX3_onAcknowledge 42 = .ok (.invokevirtual 237, 3) := by decide +kernel
theorem dX3_onAcknowledge_45 : decode cX3_onAcknowledge 45 = .ok (.ifCond .eq 22, 3) := by decide +kernel
theorem dX3_onAcknowledge_48 : decode cX3_onAcknowledge 48 = .ok (.aload_n 0, 1) := by decide +kernel
theorem dX3_onAcknowledge_49 : decode cX3_onAcknowledge 49 = .ok (.iload_n 1, 1) := by decide +kernel
theorem dX3_onAcknowledge_50 : decode cX3_onAcknowledge 50 = .ok (.aload 4, 2) := by decide +kernel
theorem dX3_onAcknowledge_52 : decode cX3_onAcknowledge 52 = .ok (.getfield 84, 3) := by decide +kernel
theorem dX3_onAcknowledge_55 : decode cX3_onAcknowledge 55 = .ok (.iconst 2, 1) := by decide +kernel
theorem dX3_onAcknowledge_56 : decode cX3_onAcknowledge 56 = .ok (.if_icmp .ne 7, 3) := by decide +kernel
theorem dX3_onAcknowledge_59 : decode cX3_onAcknowledge 59 = .ok (.iconst 4, 1) := by decide +kernel
theorem dX3_onAcknowledge_60 : decode cX3_onAcknowledge 60 = .ok (.goto 4, 3) := by decide +kernel
theorem dX3_onAcknowledge_63 : decode cX3_onAcknowledge 63 = .ok (.iconst 5, 1) := by decide +kernel
theorem dX3_onAcknowledge_64 : decode cX3_onAcknowledge 64 = .ok (.invokevirtual 80, 3) := by decide +kernel
theorem dX3_onAcknowledge_67 : decode cX3_onAcknowledge 67 = .ok (.return_, 1) := by decide +kernel
theorem dX3_onDecision_0 : decode cX3_onDecision 0 = .ok (.aload_n 0, 1) := by decide +kernel
theorem dX3_onDecision_1 : decode cX3_onDecision 1 = .ok (.getfield 11, 3) := by decide +kernel
theorem dX3_onDecision_4 : decode cX3_onDecision 4 = .ok (.iload_n 1, 1) := by decide +kernel
theorem dX3_onDecision_5 : decode cX3_onDecision 5 = .ok (.aaload, 1) := by decide +kernel
theorem dX3_onDecision_6 : decode cX3_onDecision 6 = .ok (.astore_n 3, 1) := by decide +kernel
theorem dX3_onDecision_7 : decode cX3_onDecision 7 = .ok (.aload_n 3, 1) := by decide +kernel
theorem dX3_onDecision_8 : decode cX3_onDecision 8 = .ok (.invokevirtual 97, 3) := by decide +kernel
theorem dX3_onDecision_11 : decode cX3_onDecision 11 = .ok (.ifCond .ne 14, 3) := by decide +kernel
theorem dX3_onDecision_14 : decode cX3_onDecision 14 = .ok (.aload_n 0, 1) := by decide +kernel
theorem dX3_onDecision_15 : decode cX3_onDecision 15 = .ok (.aload_n 3, 1) := by decide +kernel
theorem dX3_onDecision_16 : decode cX3_onDecision 16 = .ok (.iload_n 2, 1) := by decide +kernel
theorem dX3_onDecision_17 : decode cX3_onDecision 17 = .ok (.invokevirtual 93, 3) := by decide +kernel
theorem dX3_onDecision_20 : decode cX3_onDecision 20 = .ok (.aload_n 3, 1) := by decide +kernel
theorem dX3_onDecision_21 : decode cX3_onDecision 21 = .ok (.iconst 0, 1) := by decide +kernel
theorem dX3_onDecision_22 : decode cX3_onDecision 22 = .ok (.putfield 84, 3) := by decide +kernel
theorem dX3_onDecision_25 : decode cX3_onDecision 25 = .ok (.return_, 1) := by decide +kernel
theorem dX3_runOut_0 : decode cX3_runOut 0 = .ok (.aload_n 0, 1) := by decide +kernel
theorem dX3_runOut_1 : decode cX3_runOut 1 = .ok (.getfield 11, 3) := by decide +kernel
theorem dX3_runOut_4 : decode cX3_runOut 4 = .ok (.iload_n 1, 1) := by decide +kernel
theorem dX3_runOut_5 : decode cX3_runOut 5 = .ok (.aaload, 1) := by decide +kernel
theorem dX3_runOut_6 : decode cX3_runOut 6 = .ok (.astore_n 2, 1) := by decide +kernel
theorem dX3_runOut_7 : decode cX3_runOut 7 = .ok (.aload_n 2, 1) := by decide +kernel
theorem dX3_runOut_8 : decode cX3_runOut 8 = .ok (.getfield 84, 3) := by decide +kernel
theorem dX3_runOut_11 : decode cX3_runOut 11 = .ok (.iconst 1, 1) := by decide +kernel
theorem dX3_runOut_12 : decode cX3_runOut 12 = .ok (.if_icmp .ne 12, 3) := by decide +kernel
theorem dX3_runOut_15 : decode cX3_runOut 15 = .ok (.aload_n 0, 1) := by decide +kernel
theorem dX3_runOut_16 : decode cX3_runOut 16 = .ok (.iload_n 1, 1) := by decide +kernel
theorem dX3_runOut_17 : decode cX3_runOut 17 = .ok (.iconst 5, 1) := by decide +kernel
theorem dX3_runOut_18 : decode cX3_runOut 18 = .ok (.invokevirtual 80, 3) := by decide +kernel
theorem dX3_runOut_21 : decode cX3_runOut 21 = .ok (.goto 102, 3) := by decide +kernel
theorem dX3_runOut_24 : decode cX3_runOut 24 = .ok (.aload_n 2, 1) := by decide +kernel
theorem dX3_runOut_25 : decode cX3_runOut 25 = .ok (.getfield 84, 3) := by decide +kernel
theorem dX3_runOut_28 : decode cX3_runOut 28 = .ok (.iconst 3, 1) := by decide +kernel
theorem dX3_runOut_29 : decode cX3_runOut 29 = .ok (.if_icmp .eq 11, 3) := by decide +kernel
theorem dX3_runOut_32 : decode cX3_runOut 32 = .ok (.aload_n 0, 1) := by decide +kernel
theorem dX3_runOut_33 : decode cX3_runOut 33 = .ok (.iload_n 1, 1) := by decide +kernel
theorem dX3_runOut_34 : decode cX3_runOut 34 = .ok (.invokevirtual 101, 3) := by decide +kernel
theorem dX3_runOut_37 : decode cX3_runOut 37 = .ok (.goto 86, 3) := by decide +kernel
theorem dX3_runOut_40 : decode cX3_runOut 40 = .ok (.aload_n 0, 1) := by decide +kernel
theorem dX3_runOut_41 : decode cX3_runOut 41 = .ok (.aload_n 2, 1) := by decide +kernel
theorem dX3_runOut_42 : decode cX3_runOut 42 = .ok (.iconst 2, 1) := by decide +kernel
theorem dX3_runOut_43 : decode cX3_runOut 43 = .ok (.invokevirtual 240, 3) := by decide +kernel
theorem dX3_runOut_46 : decode cX3_runOut 46 = .ok (.ifCond .le 32, 3) := by decide +kernel
theorem dX3_runOut_49 : decode cX3_runOut 49 = .ok (.aload_n 0, 1) := by decide +kernel
theorem dX3_runOut_50 : decode cX3_runOut 50 = .ok (.aload_n 2, 1) := by decide +kernel
theorem dX3_runOut_51 : decode cX3_runOut 51 = .ok (.iconst 1, 1) := by decide +kernel
theorem dX3_runOut_52 : decode cX3_runOut 52 = .ok (.invokevirtual 240, 3) := by decide +kernel
theorem dX3_runOut_55 : decode cX3_runOut 55 = .ok (.aload_n 0, 1) := by decide +kernel
theorem dX3_runOut_56 : decode cX3_runOut 56 = .ok (.aload_n 2, 1) := by decide +kernel
theorem dX3_runOut_57 : decode cX3_runOut 57 = .ok (.iconst 2, 1) := by decide +kernel
theorem dX3_runOut_58 : decode cX3_runOut 58 = .ok (.invokevirtual 240, 3) := by decide +kernel
theorem dX3_runOut_61 : decode cX3_runOut 61 = .ok (.iadd, 1) := by decide +kernel
theorem dX3_runOut_62 : decode cX3_runOut 62 = .ok (.aload_n 0, 1) := by decide +kernel
theorem dX3_runOut_63 : decode cX3_runOut 63 = .ok (.getfield 50, 3) := by decide +kernel
theorem dX3_runOut_66 : decode cX3_runOut 66 = .ok (.if_icmp .lt 12, 3) := by decide +kernel
theorem dX3_runOut_69 : decode cX3_runOut 69 = .ok (.aload_n 0, 1) := by decide +kernel
theorem dX3_runOut_70 : decode cX3_runOut 70 = .ok (.iload_n 1, 1) := by decide +kernel
theorem dX3_runOut_71 : decode cX3_runOut 71 = .ok (.iconst 2, 1) := by decide +kernel
theorem dX3_runOut_72 : decode cX3_runOut 72 = .ok (.invokevirtual 222, 3) := by decide +kernel
theorem dX3_runOut_75 : decode cX3_runOut 75 = .ok (.goto 48, 3) := by decide +kernel
theorem dX3_runOut_78 : decode cX3_runOut 78 = .ok (.aload_n 0, 1) := by decide +kernel
theorem dX3_runOut_79 : decode cX3_runOut 79 = .ok (.aload_n 2, 1) := by decide +kernel
theorem dX3_runOut_80 : decode cX3_runOut 80 = .ok (.iconst 1, 1) := by decide +kernel
theorem dX3_runOut_81 : decode cX3_runOut 81 = .ok (.invokevirtual 240, 3) := by decide +kernel
theorem dX3_runOut_84 : decode cX3_runOut 84 = .ok (.aload_n 0, 1) := by decide +kernel
theorem dX3_runOut_85 : decode cX3_runOut 85 = .ok (.aload_n 2, 1) := by decide +kernel
theorem dX3_runOut_86 : decode cX3_runOut 86 = .ok (.iconst 3, 1) := by decide +kernel
theorem dX3_runOut_87 : decode cX3_runOut 87 = .ok (.invokevirtual 240, 3) := by decide +kernel
theorem dX3_runOut_90 : decode cX3_runOut 90 = .ok (.iadd, 1) := by decide +kernel
theorem dX3_runOut_91 : decode cX3_runOut 91 = .ok (.aload_n 0, 1) := by decide +kernel
theorem dX3_runOut_92 : decode cX3_runOut 92 = .ok (.getfield 53, 3) := by decide +kernel
theorem dX3_runOut_95 : decode cX3_runOut 95 = .ok (.if_icmp .lt 12, 3) := by decide +kernel
theorem dX3_runOut_98 : decode cX3_runOut 98 = .ok (.aload_n 0, 1) := by decide +kernel
theorem dX3_runOut_99 : decode cX3_runOut 99 = .ok (.iload_n 1, 1) := by decide +kernel
theorem dX3_runOut_100 : decode cX3_runOut 100 = .ok (.iconst 3, 1) := by decide +kernel
theorem dX3_runOut_101 : decode cX3_runOut 101 = .ok (.invokevirtual 222, 3) := by decide +kernel
theorem dX3_runOut_104 : decode cX3_runOut 104 = .ok (.goto 19, 3) := by decide +kernel
theorem dX3_runOut_107 : decode cX3_runOut 107 = .ok (.aload_n 2, 1) := by decide +kernel
theorem dX3_runOut_108 : decode cX3_runOut 108 = .ok (.iconst 0, 1) := by decide +kernel
theorem dX3_runOut_109 : decode cX3_runOut 109 = .ok (.putfield 84, 3) := by decide +kernel
theorem dX3_runOut_112 : decode cX3_runOut 112 = .ok (.aload_n 0, 1) := by decide +kernel
theorem dX3_runOut_113 : decode cX3_runOut 113 = .ok (.aload_n 2, 1) := by decide +kernel
theorem dX3_runOut_114 : decode cX3_runOut 114 = .ok (.aload_n 0, 1) := by decide +kernel
theorem dX3_runOut_115 : decode cX3_runOut 115 = .ok (.getfield 26, 3) := by decide +kernel
theorem dX3_runOut_118 : decode cX3_runOut 118 = .ok (.iload_n 1, 1) := by decide +kernel
theorem dX3_runOut_119 : decode cX3_runOut 119 = .ok (.iadd, 1) := by decide +kernel
theorem dX3_runOut_120 : decode cX3_runOut 120 = .ok (.invokevirtual 216, 3) := by decide +kernel
theorem dX3_runOut_123 : decode cX3_runOut 123 = .ok (.return_, 1) := by decide +kernel
theorem dX3_askVotes_0 : decode cX3_askVotes 0 = .ok (.aload_n 0, 1) := by decide +kernel
theorem dX3_askVotes_1 : decode cX3_askVotes 1 = .ok (.getfield 11, 3) := by decide +kernel
theorem dX3_askVotes_4 : decode cX3_askVotes 4 = .ok (.iload_n 1, 1) := by decide +kernel
theorem dX3_askVotes_5 : decode cX3_askVotes 5 = .ok (.aaload, 1) := by decide +kernel
theorem dX3_askVotes_6 : decode cX3_askVotes 6 = .ok (.astore_n 2, 1) := by decide +kernel
theorem dX3_askVotes_7 : decode cX3_askVotes 7 = .ok (.aload_n 0, 1) := by decide +kernel
theorem dX3_askVotes_8 : decode cX3_askVotes 8 = .ok (.aload_n 2, 1) := by decide +kernel
theorem dX3_askVotes_9 : decode cX3_askVotes 9 = .ok (.iconst 1, 1) := by decide +kernel
theorem dX3_askVotes_10 : decode cX3_askVotes 10 = .ok (.invokevirtual 93, 3) := by decide +kernel
theorem dX3_askVotes_13 : decode cX3_askVotes 13 = .ok (.aload_n 2, 1) := by decide +kernel
theorem dX3_askVotes_14 : decode cX3_askVotes 14 = .ok (.iconst 1, 1) := by decide +kernel
theorem dX3_askVotes_15 : decode cX3_askVotes 15 = .ok (.putfield 84, 3) := by decide +kernel
theorem dX3_askVotes_18 : decode cX3_askVotes 18 = .ok (.aload_n 2, 1) := by decide +kernel
theorem dX3_askVotes_19 : decode cX3_askVotes 19 = .ok (.iconst 1, 1) := by decide +kernel
theorem dX3_askVotes_20 : decode cX3_askVotes 20 = .ok (.iload_n 1, 1) := by decide +kernel
theorem dX3_askVotes_21 : decode cX3_askVotes 21 = .ok (.ishl, 1) := by decide +kernel
theorem dX3_askVotes_22 : decode cX3_askVotes 22 = .ok (.putfield 219, 3) := by decide +kernel
theorem dX3_askVotes_25 : decode cX3_askVotes 25 = .ok (.aload_n 0, 1) := by decide +kernel
theorem dX3_askVotes_26 : decode cX3_askVotes 26 = .ok (.getfield 18, 3) := by decide +kernel
theorem dX3_askVotes_29 : decode cX3_askVotes 29 = .ok (.iload_n 1, 1) := by decide +kernel
theorem dX3_askVotes_30 : decode cX3_askVotes 30 = .ok (.aload_n 0, 1) := by decide +kernel
theorem dX3_askVotes_31 : decode cX3_askVotes 31 = .ok (.iload_n 1, 1) := by decide +kernel
theorem dX3_askVotes_32 : decode cX3_askVotes 32 = .ok (.invokevirtual 244, 3) := by decide +kernel
theorem dX3_askVotes_35 : decode cX3_askVotes 35 = .ok (.iconst 1, 1) := by decide +kernel
theorem dX3_askVotes_36 : decode cX3_askVotes 36 = .ok (.iconst 0, 1) := by decide +kernel
theorem dX3_askVotes_37 : decode cX3_askVotes 37 = .ok (.iconst 0, 1) := by decide +kernel
theorem dX3_askVotes_38 : decode cX3_askVotes 38 = .ok (.invokevirtual 213, 3) := by decide +kernel
theorem dX3_askVotes_41 : decode cX3_askVotes 41 = .ok (.aload_n 0, 1) := by decide +kernel
theorem dX3_askVotes_42 : decode cX3_askVotes 42 = .ok (.aload_n 2, 1) := by decide +kernel
theorem dX3_askVotes_43 : decode cX3_askVotes 43 = .ok (.aload_n 0, 1) := by decide +kernel
theorem dX3_askVotes_44 : decode cX3_askVotes 44 = .ok (.getfield 26, 3) := by decide +kernel
theorem dX3_askVotes_47 : decode cX3_askVotes 47 = .ok (.invokevirtual 216, 3) := by decide +kernel
theorem dX3_askVotes_50 : decode cX3_askVotes 50 = .ok (.aload_n 2, 1) := by decide +kernel
theorem dX3_askVotes_51 : decode cX3_askVotes 51 = .ok (.getfield 219, 3) := by decide +kernel
theorem dX3_askVotes_54 : decode cX3_askVotes 54 = .ok (.aload_n 0, 1) := by decide +kernel
theorem dX3_askVotes_55 : decode cX3_askVotes 55 = .ok (.invokevirtual 139, 3) := by decide +kernel
theorem dX3_askVotes_58 : decode cX3_askVotes 58 = .ok (.if_icmp .ne 19, 3) := by decide +kernel
theorem dX3_askVotes_61 : decode cX3_askVotes 61 = .ok (.aload_n 2, 1) := by decide +kernel
theorem dX3_askVotes_62 : decode cX3_askVotes 62 = .ok (.dup, 1) := by decide +kernel
theorem dX3_askVotes_63 : decode cX3_askVotes 63 = .ok (.getfield 122, 3) := by decide +kernel
theorem dX3_askVotes_66 : decode cX3_askVotes 66 = .ok (.iconst 1, 1) := by decide +kernel
theorem dX3_askVotes_67 : decode cX3_askVotes 67 = .ok (.iadd, 1) := by decide +kernel
theorem dX3_askVotes_68 : decode cX3_askVotes 68 = .ok (.putfield 122, 3) := by decide +kernel
theorem dX3_askVotes_71 : decode cX3_askVotes 71 = .ok (.aload_n 0, 1) := by decide +kernel
theorem dX3_askVotes_72 : decode cX3_askVotes 72 = .ok (.iload_n 1, 1) := by decide +kernel
theorem dX3_askVotes_73 : decode cX3_askVotes 73 = .ok (.iconst 2, 1) := by decide +kernel
theorem dX3_askVotes_74 : decode cX3_askVotes 74 = .ok (.invokevirtual 222, 3) := by decide +kernel
theorem dX3_askVotes_77 : decode cX3_askVotes 77 = .ok (.return_, 1) := by decide +kernel
theorem dX3_attempt_0 : decode cX3_attempt 0 = .ok (.aload_n 0, 1) := by decide +kernel
theorem dX3_attempt_1 : decode cX3_attempt 1 = .ok (.getfield 11, 3) := by decide +kernel
theorem dX3_attempt_4 : decode cX3_attempt 4 = .ok (.iload_n 1, 1) := by decide +kernel
theorem dX3_attempt_5 : decode cX3_attempt 5 = .ok (.aaload, 1) := by decide +kernel
theorem dX3_attempt_6 : decode cX3_attempt 6 = .ok (.astore_n 2, 1) := by decide +kernel
theorem dX3_attempt_7 : decode cX3_attempt 7 = .ok (.aload_n 2, 1) := by decide +kernel
theorem dX3_attempt_8 : decode cX3_attempt 8 = .ok (.dup, 1) := by decide +kernel
theorem dX3_attempt_9 : decode cX3_attempt 9 = .ok (.getfield 122, 3) := by decide +kernel
theorem dX3_attempt_12 : decode cX3_attempt 12 = .ok (.iconst 1, 1) := by decide +kernel
theorem dX3_attempt_13 : decode cX3_attempt 13 = .ok (.iadd, 1) := by decide +kernel
theorem dX3_attempt_14 : decode cX3_attempt 14 = .ok (.putfield 122, 3) := by decide +kernel
theorem dX3_attempt_17 : decode cX3_attempt 17 = .ok (.aload_n 2, 1) := by decide +kernel
theorem dX3_attempt_18 : decode cX3_attempt 18 = .ok (.iconst 3, 1) := by decide +kernel
theorem dX3_attempt_19 : decode cX3_attempt 19 = .ok (.putfield 84, 3) := by decide +kernel
theorem dX3_attempt_22 : decode cX3_attempt 22 = .ok (.aload_n 2, 1) := by decide +kernel
theorem dX3_attempt_23 : decode cX3_attempt 23 = .ok (.iconst 1, 1) := by decide +kernel
theorem dX3_attempt_24 : decode cX3_attempt 24 = .ok (.iload_n 1, 1) := by decide +kernel
theorem dX3_attempt_25 : decode cX3_attempt 25 = .ok (.ishl, 1) := by decide +kernel
theorem dX3_attempt_26 : decode cX3_attempt 26 = .ok (.putfield 219, 3) := by decide +kernel
theorem dX3_attempt_29 : decode cX3_attempt 29 = .ok (.aload_n 2, 1) := by decide +kernel
theorem dX3_attempt_30 : decode cX3_attempt 30 = .ok (.getfield 228, 3) := by decide +kernel
theorem dX3_attempt_33 : decode cX3_attempt 33 = .ok (.iload_n 1, 1) := by decide +kernel
theorem dX3_attempt_34 : decode cX3_attempt 34 = .ok (.aload_n 2, 1) := by decide +kernel
theorem dX3_attempt_35 : decode cX3_attempt 35 = .ok (.getfield 90, 3) := by decide +kernel
theorem dX3_attempt_38 : decode cX3_attempt 38 = .ok (.iastore, 1) := by decide +kernel
theorem dX3_attempt_39 : decode cX3_attempt 39 = .ok (.aload_n 0, 1) := by decide +kernel
theorem dX3_attempt_40 : decode cX3_attempt 40 = .ok (.getfield 18, 3) := by decide +kernel
theorem dX3_attempt_43 : decode cX3_attempt 43 = .ok (.iload_n 1, 1) := by decide +kernel
theorem dX3_attempt_44 : decode cX3_attempt 44 = .ok (.aload_n 0, 1) := by decide +kernel
theorem dX3_attempt_45 : decode cX3_attempt 45 = .ok (.iload_n 1, 1) := by decide +kernel
theorem dX3_attempt_46 : decode cX3_attempt 46 = .ok (.invokevirtual 244, 3) := by decide +kernel
theorem dX3_attempt_49 : decode cX3_attempt 49 = .ok (.iconst 4, 1) := by decide +kernel
theorem dX3_attempt_50 : decode cX3_attempt 50 = .ok (.aload_n 2, 1) := by decide +kernel
theorem dX3_attempt_51 : decode cX3_attempt 51 = .ok (.getfield 122, 3) := by decide +kernel
theorem dX3_attempt_54 : decode cX3_attempt 54 = .ok (.iconst 0, 1) := by decide +kernel
theorem dX3_attempt_55 : decode cX3_attempt 55 = .ok (.invokevirtual 213, 3) := by decide +kernel
theorem dX3_attempt_58 : decode cX3_attempt 58 = .ok (.aload_n 0, 1) := by decide +kernel
theorem dX3_attempt_59 : decode cX3_attempt 59 = .ok (.aload_n 2, 1) := by decide +kernel
theorem dX3_attempt_60 : decode cX3_attempt 60 = .ok (.aload_n 0, 1) := by decide +kernel
theorem dX3_attempt_61 : decode cX3_attempt 61 = .ok (.getfield 26, 3) := by decide +kernel
theorem dX3_attempt_64 : decode cX3_attempt 64 = .ok (.invokevirtual 216, 3) := by decide +kernel
theorem dX3_attempt_67 : decode cX3_attempt 67 = .ok (.return_, 1) := by decide +kernel
theorem dX3_lead_0 : decode cX3_lead 0 = .ok (.aload_n 0, 1) := by decide +kernel
theorem dX3_lead_1 : decode cX3_lead 1 = .ok (.getfield 11, 3) := by decide +kernel
theorem dX3_lead_4 : decode cX3_lead 4 = .ok (.iload_n 1, 1) := by decide +kernel
theorem dX3_lead_5 : decode cX3_lead 5 = .ok (.aaload, 1) := by decide +kernel
theorem dX3_lead_6 : decode cX3_lead 6 = .ok (.astore_n 3, 1) := by decide +kernel
theorem dX3_lead_7 : decode cX3_lead 7 = .ok (.iload_n 2, 1) := by decide +kernel
theorem dX3_lead_8 : decode cX3_lead 8 = .ok (.iconst 2, 1) := by decide +kernel
theorem dX3_lead_9 : decode cX3_lead 9 = .ok (.if_icmp .ne 7, 3) := by decide +kernel
theorem dX3_lead_12 : decode cX3_lead 12 = .ok (.iconst 1, 1) := by decide +kernel
theorem dX3_lead_13 : decode cX3_lead 13 = .ok (.goto 4, 3) := by decide +kernel
theorem dX3_lead_16 : decode cX3_lead 16 = .ok (.iconst 0, 1) := by decide +kernel
theorem dX3_lead_17 : decode cX3_lead 17 = .ok (.istore 4, 2) := by decide +kernel
theorem dX3_lead_19 : decode cX3_lead 19 = .ok (.aload_n 3, 1) := by decide +kernel
theorem dX3_lead_20 : decode cX3_lead 20 = .ok (.getfield 90, 3) := by decide +kernel
theorem dX3_lead_23 : decode cX3_lead 23 = .ok (.iconst 1, 1) := by decide +kernel
theorem dX3_lead_24 : decode cX3_lead 24 = .ok (.if_icmp .ne 9, 3) := by decide +kernel
theorem dX3_lead_27 : decode cX3_lead 27 = .ok (.aload_n 0, 1) := by decide +kernel
theorem dX3_lead_28 : decode cX3_lead 28 = .ok (.aload_n 3, 1) := by decide +kernel
theorem dX3_lead_29 : decode cX3_lead 29 = .ok (.iload_n 2, 1) := by decide +kernel
theorem dX3_lead_30 : decode cX3_lead 30 = .ok (.invokevirtual 93, 3) := by decide +kernel
theorem dX3_lead_33 : decode cX3_lead 33 = .ok (.aload_n 3, 1) := by decide +kernel
theorem dX3_lead_34 : decode cX3_lead 34 = .ok (.iload 4, 2) := by decide +kernel
theorem dX3_lead_36 : decode cX3_lead 36 = .ok (.ifCond .eq 7, 3) := by decide +kernel
theorem dX3_lead_39 : decode cX3_lead 39 = .ok (.iconst 2, 1) := by decide +kernel
theorem dX3_lead_40 : decode cX3_lead 40 = .ok (.goto 4, 3) := by decide +kernel
theorem dX3_lead_43 : decode cX3_lead 43 = .ok (.iconst 4, 1) := by decide +kernel
theorem dX3_lead_44 : decode cX3_lead 44 = .ok (.putfield 84, 3) := by decide +kernel
theorem dX3_lead_47 : decode cX3_lead 47 = .ok (.aload_n 3, 1) := by decide +kernel
theorem dX3_lead_48 : decode cX3_lead 48 = .ok (.aload_n 3, 1) := by decide +kernel
theorem dX3_lead_49 : decode cX3_lead 49 = .ok (.getfield 90, 3) := by decide +kernel
theorem dX3_lead_52 : decode cX3_lead 52 = .ok (.iload_n 2, 1) := by decide +kernel
theorem dX3_lead_53 : decode cX3_lead 53 = .ok (.if_icmp .ne 9, 3) := by decide +kernel
theorem dX3_lead_56 : decode cX3_lead 56 = .ok (.iconst 1, 1) := by decide +kernel
theorem dX3_lead_57 : decode cX3_lead 57 = .ok (.iload_n 1, 1) := by decide +kernel
theorem dX3_lead_58 : decode cX3_lead 58 = .ok (.ishl, 1) := by decide +kernel
theorem dX3_lead_59 : decode cX3_lead 59 = .ok (.goto 4, 3) := by decide +kernel
theorem dX3_lead_62 : decode cX3_lead 62 = .ok (.iconst 0, 1) := by decide +kernel
theorem dX3_lead_63 : decode cX3_lead 63 = .ok (.putfield 219, 3) := by decide +kernel
theorem dX3_lead_66 : decode cX3_lead 66 = .ok (.aload_n 0, 1) := by decide +kernel
theorem dX3_lead_67 : decode cX3_lead 67 = .ok (.getfield 18, 3) := by decide +kernel
theorem dX3_lead_70 : decode cX3_lead 70 = .ok (.iload_n 1, 1) := by decide +kernel
theorem dX3_lead_71 : decode cX3_lead 71 = .ok (.aload_n 0, 1) := by decide +kernel
end
section
theorem dX3_lead_72 : decode cX3_lead 72 = .ok (.iload_n 1, 1) := by decide +kernel
theorem dX3_lead_73 : decode cX3_lead 73 = .ok (.invokevirtual 244, 3) := by decide +kernel
theorem dX3_lead_76 : decode cX3_lead 76 = .ok (.iload 4, 2) := by decide +kernel
theorem dX3_lead_78 : decode cX3_lead 78 = .ok (.ifCond .eq 8, 3) := by decide +kernel
theorem dX3_lead_81 : decode cX3_lead 81 = .ok (.bipush 6, 2) := by decide +kernel
theorem dX3_lead_83 : decode cX3_lead 83 = .ok (.goto 5, 3) := by decide +kernel
theorem dX3_lead_86 : decode cX3_lead 86 = .ok (.bipush 7, 2) := by decide +kernel
theorem dX3_lead_88 : decode cX3_lead 88 = .ok (.aload_n 3, 1) := by decide +kernel
theorem dX3_lead_89 : decode cX3_lead 89 = .ok (.getfield 122, 3) := by decide +kernel
theorem dX3_lead_92 : decode cX3_lead 92 = .ok (.iconst 0, 1) := by decide +kernel
theorem dX3_lead_93 : decode cX3_lead 93 = .ok (.invokevirtual 213, 3) := by decide +kernel
theorem dX3_lead_96 : decode cX3_lead 96 = .ok (.aload_n 0, 1) := by decide +kernel
theorem dX3_lead_97 : decode cX3_lead 97 = .ok (.aload_n 3, 1) := by decide +kernel
theorem dX3_lead_98 : decode cX3_lead 98 = .ok (.aload_n 0, 1) := by decide +kernel
theorem dX3_lead_99 : decode cX3_lead 99 = .ok (.getfield 26, 3) := by decide +kernel
theorem dX3_lead_102 : decode cX3_lead 102 = .ok (.invokevirtual 216, 3) := by decide +kernel
theorem dX3_lead_105 : decode cX3_lead 105 = .ok (.aload_n 0, 1) := by decide +kernel
theorem dX3_lead_106 : decode cX3_lead 106 = .ok (.aload_n 3, 1) := by decide +kernel
theorem dX3_lead_107 : decode cX3_lead 107 = .ok (.invokevirtual 237, 3) := by decide +kernel
theorem dX3_lead_110 : decode cX3_lead 110 = .ok (.ifCond .eq 18, 3) := by decide +kernel
theorem dX3_lead_113 : decode cX3_lead 113 = .ok (.aload_n 0, 1) := by decide +kernel
theorem dX3_lead_114 : decode cX3_lead 114 = .ok (.iload_n 1, 1) := by decide +kernel
theorem dX3_lead_115 : decode cX3_lead 115 = .ok (.iload 4, 2) := by decide +kernel
theorem dX3_lead_117 : decode cX3_lead 117 = .ok (.ifCond .eq 7, 3) := by decide +kernel
theorem dX3_lead_120 : decode cX3_lead 120 = .ok (.iconst 4, 1) := by decide +kernel
theorem dX3_lead_121 : decode cX3_lead 121 = .ok (.goto 4, 3) := by decide +kernel
theorem dX3_lead_124 : decode cX3_lead 124 = .ok (.iconst 5, 1) := by decide +kernel
theorem dX3_lead_125 : decode cX3_lead 125 = .ok (.invokevirtual 80, 3) := by decide +kernel
theorem dX3_lead_128 : decode cX3_lead 128 = .ok (.return_, 1) := by decide +kernel
theorem dX3_decide_0 : decode cX3_decide 0 = .ok (.aload_n 0, 1) := by decide +kernel
theorem dX3_decide_1 : decode cX3_decide 1 = .ok (.getfield 11, 3) := by decide +kernel
theorem dX3_decide_4 : decode cX3_decide 4 = .ok (.iload_n 1, 1) := by decide +kernel
theorem dX3_decide_5 : decode cX3_decide 5 = .ok (.aaload, 1) := by decide +kernel
theorem dX3_decide_6 : decode cX3_decide 6 = .ok (.astore_n 3, 1) := by decide +kernel
theorem dX3_decide_7 : decode cX3_decide 7 = .ok (.aload_n 0, 1) := by decide +kernel
theorem dX3_decide_8 : decode cX3_decide 8 = .ok (.aload_n 3, 1) := by decide +kernel
theorem dX3_decide_9 : decode cX3_decide 9 = .ok (.iload_n 2, 1) := by decide +kernel
theorem dX3_decide_10 : decode cX3_decide 10 = .ok (.invokevirtual 93, 3) := by decide +kernel
theorem dX3_decide_13 : decode cX3_decide 13 = .ok (.aload_n 3, 1) := by decide +kernel
theorem dX3_decide_14 : decode cX3_decide 14 = .ok (.iconst 0, 1) := by decide +kernel
theorem dX3_decide_15 : decode cX3_decide 15 = .ok (.putfield 84, 3) := by decide +kernel
theorem dX3_decide_18 : decode cX3_decide 18 = .ok (.aload_n 0, 1) := by decide +kernel
theorem dX3_decide_19 : decode cX3_decide 19 = .ok (.getfield 18, 3) := by decide +kernel
theorem dX3_decide_22 : decode cX3_decide 22 = .ok (.iload_n 1, 1) := by decide +kernel
theorem dX3_decide_23 : decode cX3_decide 23 = .ok (.aload_n 0, 1) := by decide +kernel
theorem dX3_decide_24 : decode cX3_decide 24 = .ok (.iload_n 1, 1) := by decide +kernel
theorem dX3_decide_25 : decode cX3_decide 25 = .ok (.invokevirtual 244, 3) := by decide +kernel
theorem dX3_decide_28 : decode cX3_decide 28 = .ok (.iload_n 2, 1) := by decide +kernel
theorem dX3_decide_29 : decode cX3_decide 29 = .ok (.invokestatic 231, 3) := by decide +kernel
theorem dX3_decide_32 : decode cX3_decide 32 = .ok (.iconst 0, 1) := by decide +kernel
theorem dX3_decide_33 : decode cX3_decide 33 = .ok (.iconst 0, 1) := by decide +kernel
theorem dX3_decide_34 : decode cX3_decide 34 = .ok (.invokevirtual 213, 3) := by decide +kernel
theorem dX3_decide_37 : decode cX3_decide 37 = .ok (.return_, 1) := by decide +kernel
theorem dX3_tidingsOf_0 : decode cX3_tidingsOf 0 = .ok (.iload_n 0, 1) := by decide +kernel
theorem dX3_tidingsOf_1 : decode cX3_tidingsOf 1 = .ok (.iconst 4, 1) := by decide +kernel
theorem dX3_tidingsOf_2 : decode cX3_tidingsOf 2 = .ok (.if_icmp .ne 8, 3) := by decide +kernel
theorem dX3_tidingsOf_5 : decode cX3_tidingsOf 5 = .ok (.bipush 9, 2) := by decide +kernel
theorem dX3_tidingsOf_7 : decode cX3_tidingsOf 7 = .ok (.goto 5, 3) := by decide +kernel
theorem dX3_tidingsOf_10 : decode cX3_tidingsOf 10 = .ok (.bipush 10, 2) := by decide +kernel
theorem dX3_tidingsOf_12 : decode cX3_tidingsOf 12 = .ok (.ireturn, 1) := by decide +kernel
theorem dX3_yieldTo_0 : decode cX3_yieldTo 0 = .ok (.aload_n 0, 1) := by decide +kernel
theorem dX3_yieldTo_1 : decode cX3_yieldTo 1 = .ok (.getfield 11, 3) := by decide +kernel
theorem dX3_yieldTo_4 : decode cX3_yieldTo 4 = .ok (.iload_n 1, 1) := by decide +kernel
theorem dX3_yieldTo_5 : decode cX3_yieldTo 5 = .ok (.aaload, 1) := by decide +kernel
theorem dX3_yieldTo_6 : decode cX3_yieldTo 6 = .ok (.astore_n 3, 1) := by decide +kernel
theorem dX3_yieldTo_7 : decode cX3_yieldTo 7 = .ok (.aload_n 3, 1) := by decide +kernel
theorem dX3_yieldTo_8 : decode cX3_yieldTo 8 = .ok (.getfield 84, 3) := by decide +kernel
theorem dX3_yieldTo_11 : decode cX3_yieldTo 11 = .ok (.iconst 2, 1) := by decide +kernel
theorem dX3_yieldTo_12 : decode cX3_yieldTo 12 = .ok (.if_icmp .lt 12, 3) := by decide +kernel
theorem dX3_yieldTo_15 : decode cX3_yieldTo 15 = .ok (.iload_n 2, 1) := by decide +kernel
theorem dX3_yieldTo_16 : decode cX3_yieldTo 16 = .ok (.iload_n 1, 1) := by decide +kernel
theorem dX3_yieldTo_17 : decode cX3_yieldTo 17 = .ok (.if_icmp .le 7, 3) := by decide +kernel
theorem dX3_yieldTo_20 : decode cX3_yieldTo 20 = .ok (.iconst 1, 1) := by decide +kernel
theorem dX3_yieldTo_21 : decode cX3_yieldTo 21 = .ok (.goto 4, 3) := by decide +kernel
theorem dX3_yieldTo_24 : decode cX3_yieldTo 24 = .ok (.iconst 0, 1) := by decide +kernel
theorem dX3_yieldTo_25 : decode cX3_yieldTo 25 = .ok (.istore 4, 2) := by decide +kernel
theorem dX3_yieldTo_27 : decode cX3_yieldTo 27 = .ok (.aload_n 3, 1) := by decide +kernel
theorem dX3_yieldTo_28 : decode cX3_yieldTo 28 = .ok (.invokevirtual 97, 3) := by decide +kernel
theorem dX3_yieldTo_31 : decode cX3_yieldTo 31 = .ok (.ifCond .ne 16, 3) := by decide +kernel
theorem dX3_yieldTo_34 : decode cX3_yieldTo 34 = .ok (.aload_n 3, 1) := by decide +kernel
theorem dX3_yieldTo_35 : decode cX3_yieldTo 35 = .ok (.getfield 84, 3) := by decide +kernel
theorem dX3_yieldTo_38 : decode cX3_yieldTo 38 = .ok (.iconst 1, 1) := by decide +kernel
theorem dX3_yieldTo_39 : decode cX3_yieldTo 39 = .ok (.if_icmp .eq 8, 3) := by decide +kernel
theorem dX3_yieldTo_42 : decode cX3_yieldTo 42 = .ok (.iload 4, 2) := by decide +kernel
theorem dX3_yieldTo_44 : decode cX3_yieldTo 44 = .ok (.ifCond .eq 4, 3) := by decide +kernel
theorem dX3_yieldTo_47 : decode cX3_yieldTo 47 = .ok (.return_, 1) := by decide +kernel
theorem dX3_yieldTo_48 : decode cX3_yieldTo 48 = .ok (.aload_n 3, 1) := by decide +kernel
theorem dX3_yieldTo_49 : decode cX3_yieldTo 49 = .ok (.iconst 0, 1) := by decide +kernel
theorem dX3_yieldTo_50 : decode cX3_yieldTo 50 = .ok (.putfield 84, 3) := by decide +kernel
theorem dX3_yieldTo_53 : decode cX3_yieldTo 53 = .ok (.aload_n 0, 1) := by decide +kernel
theorem dX3_yieldTo_54 : decode cX3_yieldTo 54 = .ok (.aload_n 3, 1) := by decide +kernel
theorem dX3_yieldTo_55 : decode cX3_yieldTo 55 = .ok (.aload_n 0, 1) := by decide +kernel
theorem dX3_yieldTo_56 : decode cX3_yieldTo 56 = .ok (.getfield 26, 3) := by decide +kernel
theorem dX3_yieldTo_59 : decode cX3_yieldTo 59 = .ok (.iload_n 1, 1) := by decide +kernel
theorem dX3_yieldTo_60 : decode cX3_yieldTo 60 = .ok (.iadd, 1) := by decide +kernel
theorem dX3_yieldTo_61 : decode cX3_yieldTo 61 = .ok (.invokevirtual 216, 3) := by decide +kernel
theorem dX3_yieldTo_64 : decode cX3_yieldTo 64 = .ok (.return_, 1) := by decide +kernel
theorem dX3_become_0 : decode cX3_become 0 = .ok (.aload_n 1, 1) := by decide +kernel
theorem dX3_become_1 : decode cX3_become 1 = .ok (.getfield 90, 3) := by decide +kernel
theorem dX3_become_4 : decode cX3_become 4 = .ok (.iload_n 2, 1) := by decide +kernel
theorem dX3_become_5 : decode cX3_become 5 = .ok (.if_icmp .eq 19, 3) := by decide +kernel
theorem dX3_become_8 : decode cX3_become 8 = .ok (.aload_n 1, 1) := by decide +kernel
theorem dX3_become_9 : decode cX3_become 9 = .ok (.iload_n 2, 1) := by decide +kernel
theorem dX3_become_10 : decode cX3_become 10 = .ok (.putfield 90, 3) := by decide +kernel
theorem dX3_become_13 : decode cX3_become 13 = .ok (.aload_n 1, 1) := by decide +kernel
theorem dX3_become_14 : decode cX3_become 14 = .ok (.aload_n 0, 1) := by decide +kernel
theorem dX3_become_15 : decode cX3_become 15 = .ok (.getfield 18, 3) := by decide +kernel
theorem dX3_become_18 : decode cX3_become 18 = .ok (.getfield 104, 3) := by decide +kernel
theorem dX3_become_21 : decode cX3_become 21 = .ok (.putfield 127, 3) := by decide +kernel
theorem dX3_become_24 : decode cX3_become 24 = .ok (.aload_n 1, 1) := by decide +kernel
theorem dX3_become_25 : decode cX3_become 25 = .ok (.invokevirtual 97, 3) := by decide +kernel
theorem dX3_become_28 : decode cX3_become 28 = .ok (.ifCond .eq 8, 3) := by decide +kernel
theorem dX3_become_31 : decode cX3_become 31 = .ok (.aload_n 1, 1) := by decide +kernel
theorem dX3_become_32 : decode cX3_become 32 = .ok (.iconst (-1), 1) := by decide +kernel
theorem dX3_become_33 : decode cX3_become 33 = .ok (.putfield 87, 3) := by decide +kernel
theorem dX3_become_36 : decode cX3_become 36 = .ok (.return_, 1) := by decide +kernel
theorem dX3_setTimer_0 : decode cX3_setTimer 0 = .ok (.aload_n 1, 1) := by decide +kernel
theorem dX3_setTimer_1 : decode cX3_setTimer 1 = .ok (.aload_n 0, 1) := by decide +kernel
theorem dX3_setTimer_2 : decode cX3_setTimer 2 = .ok (.getfield 18, 3) := by decide +kernel
theorem dX3_setTimer_5 : decode cX3_setTimer 5 = .ok (.getfield 104, 3) := by decide +kernel
theorem dX3_setTimer_8 : decode cX3_setTimer 8 = .ok (.iload_n 2, 1) := by decide +kernel
theorem dX3_setTimer_9 : decode cX3_setTimer 9 = .ok (.iadd, 1) := by decide +kernel
theorem dX3_setTimer_10 : decode cX3_setTimer 10 = .ok (.putfield 87, 3) := by decide +kernel
theorem dX3_setTimer_13 : decode cX3_setTimer 13 = .ok (.aload_n 1, 1) := by decide +kernel
theorem dX3_setTimer_14 : decode cX3_setTimer 14 = .ok (.aload_n 0, 1) := by decide +kernel
theorem dX3_setTimer_15 : decode cX3_setTimer 15 = .ok (.getfield 18, 3) := by decide +kernel
theorem dX3_setTimer_18 : decode cX3_setTimer 18 = .ok (.invokevirtual 247, 3) := by decide +kernel
theorem dX3_setTimer_21 : decode cX3_setTimer 21 = .ok (.putfield 250, 3) := by decide +kernel
theorem dX3_setTimer_24 : decode cX3_setTimer 24 = .ok (.return_, 1) := by decide +kernel
theorem dX3_hasQuorum_0 : decode cX3_hasQuorum 0 = .ok (.iconst 0, 1) := by decide +kernel
theorem dX3_hasQuorum_1 : decode cX3_hasQuorum 1 = .ok (.istore_n 2, 1) := by decide +kernel
theorem dX3_hasQuorum_2 : decode cX3_hasQuorum 2 = .ok (.iconst 0, 1) := by decide +kernel
theorem dX3_hasQuorum_3 : decode cX3_hasQuorum 3 = .ok (.istore_n 3, 1) := by decide +kernel
theorem dX3_hasQuorum_4 : decode cX3_hasQuorum 4 = .ok (.iload_n 3, 1) := by decide +kernel
theorem dX3_hasQuorum_5 : decode cX3_hasQuorum 5 = .ok (.aload_n 0, 1) := by decide +kernel
theorem dX3_hasQuorum_6 : decode cX3_hasQuorum 6 = .ok (.getfield 41, 3) := by decide +kernel
theorem dX3_hasQuorum_9 : decode cX3_hasQuorum 9 = .ok (.if_icmp .ge 32, 3) := by decide +kernel
theorem dX3_hasQuorum_12 : decode cX3_hasQuorum 12 = .ok (.aload_n 1, 1) := by decide +kernel
theorem dX3_hasQuorum_13 : decode cX3_hasQuorum 13 = .ok (.getfield 219, 3) := by decide +kernel
theorem dX3_hasQuorum_16 : decode cX3_hasQuorum 16 = .ok (.iload_n 3, 1) := by decide +kernel
theorem dX3_hasQuorum_17 : decode cX3_hasQuorum 17 = .ok (.invokestatic 64, 3) := by decide +kernel
theorem dX3_hasQuorum_20 : decode cX3_hasQuorum 20 = .ok (.ifCond .eq 15, 3) := by decide +kernel
theorem dX3_hasQuorum_23 : decode cX3_hasQuorum 23 = .ok (.iload_n 2, 1) := by decide +kernel
theorem dX3_hasQuorum_24 : decode cX3_hasQuorum 24 = .ok (.aload_n 0, 1) := by decide +kernel
theorem dX3_hasQuorum_25 : decode cX3_hasQuorum 25 = .ok (.getfield 11, 3) := by decide +kernel
theorem dX3_hasQuorum_28 : decode cX3_hasQuorum 28 = .ok (.iload_n 3, 1) := by decide +kernel
theorem dX3_hasQuorum_29 : decode cX3_hasQuorum 29 = .ok (.aaload, 1) := by decide +kernel
theorem dX3_hasQuorum_30 : decode cX3_hasQuorum 30 = .ok (.getfield 124, 3) := by decide +kernel
theorem dX3_hasQuorum_33 : decode cX3_hasQuorum 33 = .ok (.iadd, 1) := by decide +kernel
theorem dX3_hasQuorum_34 : decode cX3_hasQuorum 34 = .ok (.istore_n 2, 1) := by decide +kernel
theorem dX3_hasQuorum_35 : decode cX3_hasQuorum 35 = .ok (.iinc 3 1, 3) := by decide +kernel
theorem dX3_hasQuorum_38 : decode cX3_hasQuorum 38 = .ok (.goto (-34), 3) := by decide +kernel
theorem dX3_hasQuorum_41 : decode cX3_hasQuorum 41 = .ok (.iload_n 2, 1) := by decide +kernel
theorem dX3_hasQuorum_42 : decode cX3_hasQuorum 42 = .ok (.aload_n 1, 1) := by decide +kernel
theorem dX3_hasQuorum_43 : decode cX3_hasQuorum 43 = .ok (.getfield 84, 3) := by decide +kernel
theorem dX3_hasQuorum_46 : decode cX3_hasQuorum 46 = .ok (.iconst 2, 1) := by decide +kernel
theorem dX3_hasQuorum_47 : decode cX3_hasQuorum 47 = .ok (.if_icmp .ne 10, 3) := by decide +kernel
theorem dX3_hasQuorum_50 : decode cX3_hasQuorum 50 = .ok (.aload_n 0, 1) := by decide +kernel
theorem dX3_hasQuorum_51 : decode cX3_hasQuorum 51 = .ok (.getfield 50, 3) := by decide +kernel
theorem dX3_hasQuorum_54 : decode cX3_hasQuorum 54 = .ok (.goto 7, 3) := by decide +kernel
theorem dX3_hasQuorum_57 : decode cX3_hasQuorum 57 = .ok (.aload_n 0, 1) := by decide +kernel
theorem dX3_hasQuorum_58 : decode cX3_hasQuorum 58 = .ok (.getfield 53, 3) := by decide +kernel
theorem dX3_hasQuorum_61 : decode cX3_hasQuorum 61 = .ok (.if_icmp .lt 7, 3) := by decide +kernel
theorem dX3_hasQuorum_64 : decode cX3_hasQuorum 64 = .ok (.iconst 1, 1) := by decide +kernel
theorem dX3_hasQuorum_65 : decode cX3_hasQuorum 65 = .ok (.goto 4, 3) := by decide +kernel
theorem dX3_hasQuorum_68 : decode cX3_hasQuorum 68 = .ok (.iconst 0, 1) := by decide +kernel
theorem dX3_hasQuorum_69 : decode cX3_hasQuorum 69 = .ok (.ireturn, 1) := by decide +kernel
theorem dX3_toldWeight_0 : decode cX3_toldWeight 0 = .ok (.iconst 0, 1) := by decide +kernel
theorem dX3_toldWeight_1 : decode cX3_toldWeight 1 = .ok (.istore_n 3, 1) := by decide +kernel
theorem dX3_toldWeight_2 : decode cX3_toldWeight 2 = .ok (.iconst 0, 1) := by decide +kernel
theorem dX3_toldWeight_3 : decode cX3_toldWeight 3 = .ok (.istore 4, 2) := by decide +kernel
theorem dX3_toldWeight_5 : decode cX3_toldWeight 5 = .ok (.iload 4, 2) := by decide +kernel
theorem dX3_toldWeight_7 : decode cX3_toldWeight 7 = .ok (.aload_n 0, 1) := by decide +kernel
theorem dX3_toldWeight_8 : decode cX3_toldWeight 8 = .ok (.getfield 41, 3) := by decide +kernel
theorem dX3_toldWeight_11 : decode cX3_toldWeight 11 = .ok (.if_icmp .ge 45, 3) := by decide +kernel
theorem dX3_toldWeight_14 : decode cX3_toldWeight 14 = .ok (.aload_n 1, 1) := by decide +kernel
theorem dX3_toldWeight_15 : decode cX3_toldWeight 15 = .ok (.getfield 219, 3) := by decide +kernel
theorem dX3_toldWeight_18 : decode cX3_toldWeight 18 = .ok (.iload 4, 2) := by decide +kernel
theorem dX3_toldWeight_20 : decode cX3_toldWeight 20 = .ok (.invokestatic 64, 3) := by decide +kernel
theorem dX3_toldWeight_23 : decode cX3_toldWeight 23 = .ok (.ifCond .eq 27, 3) := by decide +kernel
theorem dX3_toldWeight_26 : decode cX3_toldWeight 26 = .ok (.aload_n 1, 1) := by decide +kernel
theorem dX3_toldWeight_27 : decode cX3_toldWeight 27 = .ok (.getfield 228, 3) := by decide +kernel
theorem dX3_toldWeight_30 : decode cX3_toldWeight 30 = .ok (.iload 4, 2) := by decide +kernel
theorem dX3_toldWeight_32 : decode cX3_toldWeight 32 = .ok (.iaload, 1) := by decide +kernel
theorem dX3_toldWeight_33 : decode cX3_toldWeight 33 = .ok (.iload_n 2, 1) := by decide +kernel
theorem dX3_toldWeight_34 : decode cX3_toldWeight 34 = .ok (.if_icmp .ne 16, 3) := by decide +kernel
theorem dX3_toldWeight_37 : decode cX3_toldWeight 37 = .ok (.iload_n 3, 1) := by decide +kernel
theorem dX3_toldWeight_38 : decode cX3_toldWeight 38 = .ok (.aload_n 0, 1) := by decide +kernel
theorem dX3_toldWeight_39 : decode cX3_toldWeight 39 = .ok (.getfield 11, 3) := by decide +kernel
theorem dX3_toldWeight_42 : decode cX3_toldWeight 42 = .ok (.iload 4, 2) := by decide +kernel
theorem dX3_toldWeight_44 : decode cX3_toldWeight 44 = .ok (.aaload, 1) := by decide +kernel
theorem dX3_toldWeight_45 : decode cX3_toldWeight 45 = .ok (.getfield 124, 3) := by decide +kernel
theorem dX3_toldWeight_48 : decode cX3_toldWeight 48 = .ok (.iadd, 1) := by decide +kernel
theorem dX3_toldWeight_49 : decode cX3_toldWeight 49 = .ok (.istore_n 3, 1) := by decide +kernel
theorem dX3_toldWeight_50 : decode cX3_toldWeight 50 = .ok (.iinc 4 1, 3) := by decide +kernel
theorem dX3_toldWeight_53 : decode cX3_toldWeight 53 = .ok (.goto (-48), 3) := by decide +kernel
theorem dX3_toldWeight_56 : decode cX3_toldWeight 56 = .ok (.iload_n 3, 1) := by decide +kernel
theorem dX3_toldWeight_57 : decode cX3_toldWeight 57 = .ok (.ireturn, 1) := by decide +kernel
theorem dX4_init_0 : decode cX4_init 0 = .ok (.aload_n 0, 1) := by decide +kernel
theorem dX4_init_1 : decode cX4_init 1 = .ok (.invokespecial 1, 3) := by decide +kernel
theorem dX4_init_4 : decode cX4_init 4 = .ok (.aload_n 0, 1) := by decide +kernel
theorem dX4_init_5 : decode cX4_init 5 = .ok (.bipush 8, 2) := by decide +kernel
theorem dX4_init_7 : decode cX4_init 7 = .ok (.newarray .int, 2) := by decide +kernel
theorem dX4_init_9 : decode cX4_init 9 = .ok (.putfield 7, 3) := by decide +kernel
theorem dX4_init_12 : decode cX4_init 12 = .ok (.aload_n 0, 1) := by decide +kernel
theorem dX4_init_13 : decode cX4_init 13 = .ok (.bipush 10, 2) := by decide +kernel
theorem dX4_init_15 : decode cX4_init 15 = .ok (.putfield 13, 3) := by decide +kernel
theorem dX4_init_18 : decode cX4_init 18 = .ok (.aload_n 0, 1) := by decide +kernel
theorem dX4_init_19 : decode cX4_init 19 = .ok (.bipush 64, 2) := by decide +kernel
theorem dX4_init_21 : decode cX4_init 21 = .ok (.newarray .int, 2) := by decide +kernel
theorem dX4_init_23 : decode cX4_init 23 = .ok (.putfield 17, 3) := by decide +kernel
theorem dX4_init_26 : decode cX4_init 26 = .ok (.aload_n 0, 1) := by decide +kernel
theorem dX4_init_27 : decode cX4_init 27 = .ok (.bipush 8, 2) := by decide +kernel
theorem dX4_init_29 : decode cX4_init 29 = .ok (.newarray .int, 2) := by decide +kernel
theorem dX4_init_31 : decode cX4_init 31 = .ok (.putfield 20, 3) := by decide +kernel
theorem dX4_init_34 : decode cX4_init 34 = .ok (.aload_n 0, 1) := by decide +kernel
theorem dX4_init_35 : decode cX4_init 35 = .ok (.bipush 8, 2) := by decide +kernel
theorem dX4_init_37 : decode cX4_init 37 = .ok (.newarray .int, 2) := by decide +kernel
theorem dX4_init_39 : decode cX4_init 39 = .ok (.putfield 23, 3) := by decide +kernel
theorem dX4_init_42 : decode cX4_init 42 = .ok (.aload_n 0, 1) := by decide +kernel
theorem dX4_init_43 : decode cX4_init 43 = .ok (.bipush 8, 2) := by decide +kernel
theorem dX4_init_45 : decode cX4_init 45 = .ok (.newarray .boolean, 2) := by decide +kernel
theorem dX4_init_47 : decode cX4_init 47 = .ok (.putfield 26, 3) := by decide +kernel
theorem dX4_init_50 : decode cX4_init 50 = .ok (.aload_n 0, 1) := by decide +kernel
theorem dX4_init_51 : decode cX4_init 51 = .ok (.bipush 8, 2) := by decide +kernel
theorem dX4_init_53 : decode cX4_init 53 = .ok (.newarray .boolean, 2) := by decide +kernel
theorem dX4_init_55 : decode cX4_init 55 = .ok (.putfield 30, 3) := by decide +kernel
theorem dX4_init_58 : decode cX4_init 58 = .ok (.aload_n 0, 1) := by decide +kernel
theorem dX4_init_59 : decode cX4_init 59 = .ok (.bipush 8, 2) := by decide +kernel
theorem dX4_init_61 : decode cX4_init 61 = .ok (.newarray .int, 2) := by decide +kernel
theorem dX4_init_63 : decode cX4_init 63 = .ok (.putfield 33, 3) := by decide +kernel
theorem dX4_init_66 : decode cX4_init 66 = .ok (.aload_n 0, 1) := by decide +kernel
theorem dX4_init_67 : decode cX4_init 67 = .ok (.bipush 8, 2) := by decide +kernel
theorem dX4_init_69 : decode cX4_init 69 = .ok (.newarray .int, 2) := by decide +kernel
theorem dX4_init_71 : decode cX4_init 71 = .ok (.putfield 36, 3) := by decide +kernel
theorem dX4_init_74 : decode cX4_init 74 = .ok (.aload_n 0, 1) := by decide +kernel
theorem dX4_init_75 : decode cX4_init 75 = .ok (.bipush 64, 2) := by decide +kernel
theorem dX4_init_77 : decode cX4_init 77 = .ok (.newarray .int, 2) := by decide +kernel
theorem dX4_init_79 : decode cX4_init 79 = .ok (.putfield 39, 3) := by decide +kernel
theorem dX4_init_82 : decode cX4_init 82 = .ok (.aload_n 0, 1) := by decide +kernel
theorem dX4_init_83 : decode cX4_init 83 = .ok (.bipush 8, 2) := by decide +kernel
theorem dX4_init_85 : decode cX4_init 85 = .ok (.newarray .int, 2) := by decide +kernel
theorem dX4_init_87 : decode cX4_init 87 = .ok (.putfield 42, 3) := by decide +kernel
theorem dX4_init_90 : decode cX4_init 90 = .ok (.aload_n 0, 1) := by decide +kernel
theorem dX4_init_91 : decode cX4_init 91 = .ok (.bipush 8, 2) := by decide +kernel
theorem dX4_init_93 : decode cX4_init 93 = .ok (.newarray .int, 2) := by decide +kernel
theorem dX4_init_95 : decode cX4_init 95 = .ok (.putfield 45, 3) := by decide +kernel
theorem dX4_init_98 : decode cX4_init 98 = .ok (.aload_n 0, 1) := by decide +kernel
theorem dX4_init_99 : decode cX4_init 99 = .ok (.ldc 48, 2) := by decide +kernel
theorem dX4_init_101 : decode cX4_init 101 = .ok (.newarray .int, 2) := by decide +kernel
theorem dX4_init_103 : decode cX4_init 103 = .ok (.putfield 49, 3) := by decide +kernel
theorem dX4_init_106 : decode cX4_init 106 = .ok (.aload_n 0, 1) := by decide +kernel
theorem dX4_init_107 : decode cX4_init 107 = .ok (.ldc 48, 2) := by decide +kernel
theorem dX4_init_109 : decode cX4_init 109 = .ok (.newarray .int, 2) := by decide +kernel
theorem dX4_init_111 : decode cX4_init 111 = .ok (.putfield 52, 3) := by decide +kernel
theorem dX4_init_114 : decode cX4_init 114 = .ok (.aload_n 0, 1) := by decide +kernel
theorem dX4_init_115 : decode cX4_init 115 = .ok (.ldc 48, 2) := by decide +kernel
theorem dX4_init_117 : decode cX4_init 117 = .ok (.newarray .int, 2) := by decide +kernel
theorem dX4_init_119 : decode cX4_init 119 = .ok (.putfield 55, 3) := by decide +kernel
theorem dX4_init_122 : decode cX4_init 122 = .ok (.aload_n 0, 1) := by decide +kernel
theorem dX4_init_123 : decode cX4_init 123 = .ok (.ldc 48, 2) := by decide +kernel
theorem dX4_init_125 : decode cX4_init 125 = .ok (.newarray .int, 2) := by decide +kernel
theorem dX4_init_127 : decode cX4_init 127 = .ok (.putfield 58, 3) := by decide +kernel
theorem dX4_init_130 : decode cX4_init 130 = .ok (.aload_n 0, 1) := by decide +kernel
theorem dX4_init_131 : decode cX4_init 131 = .ok (.ldc 48, 2) := by decide +kernel
theorem dX4_init_133 : decode cX4_init 133 = .ok (.newarray .int, 2) := by decide +kernel
theorem dX4_init_135 : decode cX4_init 135 = .ok (.putfield 61, 3) := by decide +kernel
theorem dX4_init_138 : decode cX4_init 138 = .ok (.aload_n 0, 1) := by decide +kernel
theorem dX4_init_139 : decode cX4_init 139 = .ok (.ldc 48, 2) := by decide +kernel
theorem dX4_init_141 : decode cX4_init 141 = .ok (.newarray .int, 2) := by decide +kernel
theorem dX4_init_143 : decode cX4_init 143 = .ok (.putfield 64, 3) := by decide +kernel
theorem dX4_init_146 : decode cX4_init 146 = .ok (.aload_n 0, 1) := by decide +kernel
theorem dX4_init_147 : decode cX4_init 147 = .ok (.ldc 48, 2) := by decide +kernel
theorem dX4_init_149 : decode cX4_init 149 = .ok (.newarray .int, 2) := by decide +kernel
theorem dX4_init_151 : decode cX4_init 151 = .ok (.putfield 67, 3) := by decide +kernel
theorem dX4_init_154 : decode cX4_init 154 = .ok (.aload_n 0, 1) := by decide +kernel
theorem dX4_init_155 : decode cX4_init 155 = .ok (.iconst 5, 1) := by decide +kernel
theorem dX4_init_156 : decode cX4_init 156 = .ok (.newarray .int, 2) := by decide +kernel
theorem dX4_init_158 : decode cX4_init 158 = .ok (.putfield 70, 3) := by decide +kernel
theorem dX4_init_161 : decode cX4_init 161 = .ok (.return_, 1) := by decide +kernel
theorem dX4_isSite_0 : decode cX4_isSite 0 = .ok (.iload_n 1, 1) := by decide +kernel
theorem dX4_isSite_1 : decode cX4_isSite 1 = .ok (.ifCond .lt 15, 3) := by decide +kernel
theorem dX4_isSite_4 : decode cX4_isSite 4 = .ok (.iload_n 1, 1) := by decide +kernel
theorem dX4_isSite_5 : decode cX4_isSite 5 = .ok (.aload_n 0, 1) := by decide +kernel
theorem dX4_isSite_6 : decode cX4_isSite 6 = .ok (.getfield 76, 3) := by decide +kernel
theorem dX4_isSite_9 : decode cX4_isSite 9 = .ok (.if_icmp .ge 7, 3) := by decide +kernel
theorem dX4_isSite_12 : decode cX4_isSite 12 = .ok (.iconst 1, 1) := by decide +kernel
theorem dX4_isSite_13 : decode cX4_isSite 13 = .ok (.goto 4, 3) := by decide +kernel
theorem dX4_isSite_16 : decode cX4_isSite 16 = .ok (.iconst 0, 1) := by decide +kernel
theorem dX4_isSite_17 : decode cX4_isSite 17 = .ok (.ireturn, 1) := by decide +kernel
theorem dX4_all_0 : decode cX4_all 0 = .ok (.iconst 0, 1) := by decide +kernel
theorem dX4_all_1 : decode cX4_all 1 = .ok (.istore_n 1, 1) := by decide +kernel
theorem dX4_all_2 : decode cX4_all 2 = .ok (.iconst 0, 1) := by decide +kernel
theorem dX4_all_3 : decode cX4_all 3 = .ok (.istore_n 2, 1) := by decide +kernel
theorem dX4_all_4 : decode cX4_all 4 = .ok (.iload_n 2, 1) := by decide +kernel
theorem dX4_all_5 : decode cX4_all 5 = .ok (.aload_n 0, 1) := by decide +kernel
theorem dX4_all_6 : decode cX4_all 6 = .ok (.getfield 76, 3) := by decide +kernel
theorem dX4_all_9 : decode cX4_all 9 = .ok (.if_icmp .ge 18, 3) := by decide +kernel
theorem dX4_all_12 : decode cX4_all 12 = .ok (.iload_n 1, 1) := by decide +kernel
theorem dX4_all_13 : decode cX4_all 13 = .ok (.aload_n 0, 1) := by decide +kernel
theorem dX4_all_14 : decode cX4_all 14 = .ok (.getfield 7, 3) := by decide +kernel
theorem dX4_all_17 : decode cX4_all 17 = .ok (.iload_n 2, 1) := by decide +kernel
theorem dX4_all_18 : decode cX4_all 18 = .ok (.iaload, 1) := by decide +kernel
theorem dX4_all_19 : decode cX4_all 19 = .ok (.iadd, 1) := by decide +kernel
theorem dX4_all_20 : decode cX4_all 20 = .ok (.istore_n 1, 1) := by decide +kernel
theorem dX4_all_21 : decode cX4_all 21 = .ok (.iinc 2 1, 3) := by decide +kernel
theorem dX4_all_24 : decode cX4_all 24 = .ok (.goto (-20), 3) := by decide +kernel
theorem dX4_all_27 : decode cX4_all 27 = .ok (.iload_n 1, 1) := by decide +kernel
theorem dX4_all_28 : decode cX4_all 28 = .ok (.ireturn, 1) := by decide +kernel
theorem dX4_site_0 : decode cX4_site 0 = .ok (.aload_n 0, 1) := by decide +kernel
theorem dX4_site_1 : decode cX4_site 1 = .ok (.iconst 0, 1) := by decide +kernel
theorem dX4_site_2 : decode cX4_site 2 = .ok (.putfield 73, 3) := by decide +kernel
theorem dX4_site_5 : decode cX4_site 5 = .ok (.iload_n 1, 1) := by decide +kernel
theorem dX4_site_6 : decode cX4_site 6 = .ok (.iconst 1, 1) := by decide +kernel
theorem dX4_site_7 : decode cX4_site 7 = .ok (.if_icmp .lt 25, 3) := by decide +kernel
theorem dX4_site_10 : decode cX4_site 10 = .ok (.iload_n 1, 1) := by decide +kernel
theorem dX4_site_11 : decode cX4_site 11 = .ok (.bipush 9, 2) := by decide +kernel
theorem dX4_site_13 : decode cX4_site 13 = .ok (.if_icmp .gt 19, 3) := by decide +kernel
theorem dX4_site_16 : decode cX4_site 16 = .ok (.aload_n 0, 1) := by decide +kernel
theorem dX4_site_17 : decode cX4_site 17 = .ok (.getfield 79, 3) := by decide +kernel
theorem dX4_site_20 : decode cX4_site 20 = .ok (.ifCond .ne 12, 3) := by decide +kernel
theorem dX4_site_23 : decode cX4_site 23 = .ok (.aload_n 0, 1) := by decide +kernel
theorem dX4_site_24 : decode cX4_site 24 = .ok (.getfield 76, 3) := by decide +kernel
theorem dX4_site_27 : decode cX4_site 27 = .ok (.bipush 8, 2) := by decide +kernel
theorem dX4_site_29 : decode cX4_site 29 = .ok (.if_icmp .ne 5, 3) := by decide +kernel
theorem dX4_site_32 : decode cX4_site 32 = .ok (.iconst (-1), 1) := by decide +kernel
theorem dX4_site_33 : decode cX4_site 33 = .ok (.ireturn, 1) := by decide +kernel
theorem dX4_site_34 : decode cX4_site 34 = .ok (.aload_n 0, 1) := by decide +kernel
theorem dX4_site_35 : decode cX4_site 35 = .ok (.getfield 7, 3) := by decide +kernel
theorem dX4_site_38 : decode cX4_site 38 = .ok (.aload_n 0, 1) := by decide +kernel
theorem dX4_site_39 : decode cX4_site 39 = .ok (.getfield 76, 3) := by decide +kernel
theorem dX4_site_42 : decode cX4_site 42 = .ok (.iload_n 1, 1) := by decide +kernel
theorem dX4_site_43 : decode cX4_site 43 = .ok (.iastore, 1) := by decide +kernel
theorem dX4_site_44 : decode cX4_site 44 = .ok (.aload_n 0, 1) := by decide +kernel
theorem dX4_site_45 : decode cX4_site 45 = .ok (.getfield 42, 3) := by decide +kernel
theorem dX4_site_48 : decode cX4_site 48 = .ok (.aload_n 0, 1) := by decide +kernel
theorem dX4_site_49 : decode cX4_site 49 = .ok (.getfield 76, 3) := by decide +kernel
theorem dX4_site_52 : decode cX4_site 52 = .ok (.iconst (-1), 1) := by decide +kernel
theorem dX4_site_53 : decode cX4_site 53 = .ok (.iastore, 1) := by decide +kernel
theorem dX4_site_54 : decode cX4_site 54 = .ok (.iconst 0, 1) := by decide +kernel
theorem dX4_site_55 : decode cX4_site 55 = .ok (.istore_n 2, 1) := by decide +kernel
theorem dX4_site_56 : decode cX4_site 56 = .ok (.iload_n 2, 1) := by decide +kernel
theorem dX4_site_57 : decode cX4_site 57 = .ok (.aload_n 0, 1) := by decide +kernel
theorem dX4_site_58 : decode cX4_site 58 = .ok (.getfield 76, 3) := by decide +kernel
theorem dX4_site_61 : decode cX4_site 61 = .ok (.if_icmp .ge 39, 3) := by decide +kernel
theorem dX4_site_64 : decode cX4_site 64 = .ok (.aload_n 0, 1) := by decide +kernel
theorem dX4_site_65 : decode cX4_site 65 = .ok (.getfield 17, 3) := by decide +kernel
theorem dX4_site_68 : decode cX4_site 68 = .ok (.bipush 8, 2) := by decide +kernel
theorem dX4_site_70 : decode cX4_site 70 = .ok (.iload_n 2, 1) := by decide +kernel
theorem dX4_site_71 : decode cX4_site 71 = .ok (.imul, 1) := by decide +kernel
theorem dX4_site_72 : decode cX4_site 72 = .ok (.aload_n 0, 1) := by decide +kernel
theorem dX4_site_73 : decode cX4_site 73 = .ok (.getfield 76, 3) := by decide +kernel
theorem dX4_site_76 : decode cX4_site 76 = .ok (.iadd, 1) := by decide +kernel
theorem dX4_site_77 : decode cX4_site 77 = .ok (.iconst 1, 1) := by decide +kernel
theorem dX4_site_78 : decode cX4_site 78 = .ok (.iastore, 1) := by decide +kernel
theorem dX4_site_79 : decode cX4_site 79 = .ok (.aload_n 0, 1) := by decide +kernel
theorem dX4_site_80 : decode cX4_site 80 = .ok (.getfield 17, 3) := by decide +kernel
theorem dX4_site_83 : decode cX4_site 83 = .ok (.bipush 8, 2) := by decide +kernel
theorem dX4_site_85 : decode cX4_site 85 = .ok (.aload_n 0, 1) := by decide +kernel
theorem dX4_site_86 : decode cX4_site 86 = .ok (.getfield 76, 3) := by decide +kernel
theorem dX4_site_89 : decode cX4_site 89 = .ok (.imul, 1) := by decide +kernel
theorem dX4_site_90 : decode cX4_site 90 = .ok (.iload_n 2, 1) := by decide +kernel
theorem dX4_site_91 : decode cX4_site 91 = .ok (.iadd, 1) := by decide +kernel
theorem dX4_site_92 : decode cX4_site 92 = .ok (.iconst 1, 1) := by decide +kernel
theorem dX4_site_93 : decode cX4_site 93 = .ok (.iastore, 1) := by decide +kernel
theorem dX4_site_94 : decode cX4_site 94 = .ok (.iinc 2 1, 3) := by decide +kernel
theorem dX4_site_97 : decode cX4_site 97 = .ok (.goto (-41), 3) := by decide +kernel
theorem dX4_site_100 : decode cX4_site 100 = .ok (.aload_n 0, 1) := by decide +kernel
theorem dX4_site_101 : decode cX4_site 101 = .ok (.dup, 1) := by decide +kernel
theorem dX4_site_102 : decode cX4_site 102 = .ok (.getfield 76, 3) := by decide +kernel
theorem dX4_site_105 : decode cX4_site 105 = .ok (.iconst 1, 1) := by decide +kernel
theorem dX4_site_106 : decode cX4_site 106 = .ok (.iadd, 1) := by decide +kernel
theorem dX4_site_107 : decode cX4_site 107 = .ok (.putfield 76, 3) := by decide +kernel
theorem dX4_site_110 : decode cX4_site 110 = .ok (.aload_n 0, 1) := by decide +kernel
theorem dX4_site_111 : decode cX4_site 111 = .ok (.aload_n 0, 1) := by decide +kernel
theorem dX4_site_112 : decode cX4_site 112 = .ok (.invokevirtual 83, 3) := by decide +kernel
theorem dX4_site_115 : decode cX4_site 115 = .ok (.iconst 2, 1) := by decide +kernel
theorem dX4_site_116 : decode cX4_site 116 = .ok (.idiv, 1) := by decide +kernel
theorem dX4_site_117 : decode cX4_site 117 = .ok (.iconst 1, 1) := by decide +kernel
theorem dX4_site_118 : decode cX4_site 118 = .ok (.iadd, 1) := by decide +kernel
theorem dX4_site_119 : decode cX4_site 119 = .ok (.putfield 87, 3) := by decide +kernel
theorem dX4_site_122 : decode cX4_site 122 = .ok (.aload_n 0, 1) := by decide +kernel
theorem dX4_site_123 : decode cX4_site 123 = .ok (.aload_n 0, 1) := by decide +kernel
theorem dX4_site_124 : decode cX4_site 124 = .ok (.getfield 87, 3) := by decide +kernel
theorem dX4_site_127 : decode cX4_site 127 = .ok (.putfield 90, 3) := by decide +kernel
theorem dX4_site_130 : decode cX4_site 130 = .ok (.aload_n 0, 1) := by decide +kernel
theorem dX4_site_131 : decode cX4_site 131 = .ok (.getfield 76, 3) := by decide +kernel
theorem dX4_site_134 : decode cX4_site 134 = .ok (.iconst 1, 1) := by decide +kernel
theorem dX4_site_135 : decode cX4_site 135 = .ok (.isub, 1) := by decide +kernel
theorem dX4_site_136 : decode cX4_site 136 = .ok (.ireturn, 1) := by decide +kernel
theorem dX4_quorums_0 : decode cX4_quorums 0 = .ok (.aload_n 0, 1) := by decide +kernel
theorem dX4_quorums_1 : decode cX4_quorums 1 = .ok (.iconst 0, 1) := by decide +kernel
theorem dX4_quorums_2 : decode cX4_quorums 2 = .ok (.putfield 73, 3) := by decide +kernel
theorem dX4_quorums_5 : decode cX4_quorums 5 = .ok (.aload_n 0, 1) := by decide +kernel
theorem dX4_quorums_6 : decode cX4_quorums 6 = .ok (.invokevirtual 83, 3) := by decide +kernel
theorem dX4_quorums_9 : decode cX4_quorums 9 = .ok (.istore_n 3, 1) := by decide +kernel
theorem dX4_quorums_10 : decode cX4_quorums 10 = .ok (.aload_n 0, 1) := by decide +kernel
theorem dX4_quorums_11 : decode cX4_quorums 11 = .ok (.getfield 79, 3) := by decide +kernel
theorem dX4_quorums_14 : decode cX4_quorums 14 = .ok (.ifCond .ne 30, 3) := by decide +kernel
theorem dX4_quorums_17 : decode cX4_quorums 17 = .ok (.iload_n 1, 1) := by decide +kernel
theorem dX4_quorums_18 : decode cX4_quorums 18 = .ok (.iconst 1, 1) := by decide +kernel
theorem dX4_quorums_19 : decode cX4_quorums 19 = .ok (.if_icmp .lt 25, 3) := by decide +kernel
theorem dX4_quorums_22 : decode cX4_quorums 22 = .ok (.iload_n 1, 1) := by decide +kernel
theorem dX4_quorums_23 : decode cX4_quorums 23 = .ok (.iload_n 3, 1) := by decide +kernel
theorem dX4_quorums_24 : decode cX4_quorums 24 = .ok (.if_icmp .gt 20, 3) := by decide +kernel
theorem dX4_quorums_27 : decode cX4_quorums 27 = .ok (.iload_n 2, 1) := by decide +kernel
theorem dX4_quorums_28 : decode cX4_quorums 28 = .ok (.iconst 1, 1) := by decide +kernel
theorem dX4_quorums_29 : decode cX4_quorums 29 = .ok (.if_icmp .lt 15, 3) := by decide +kernel
theorem dX4_quorums_32 : decode cX4_quorums 32 = .ok (.iload_n 2, 1) := by decide +kernel
theorem dX4_quorums_33 : decode cX4_quorums 33 = .ok (.iload_n 3, 1) := by decide +kernel
theorem dX4_quorums_34 : decode cX4_quorums 34 = .ok (.if_icmp .gt 10, 3) := by decide +kernel
theorem dX4_quorums_37 : decode cX4_quorums 37 = .ok (.iload_n 1, 1) := by decide +kernel
theorem dX4_quorums_38 : decode cX4_quorums 38 = .ok (.iload_n 2, 1) := by decide +kernel
theorem dX4_quorums_39 : decode cX4_quorums 39 = .ok (.iadd, 1) := by decide +kernel
theorem dX4_quorums_40 : decode cX4_quorums 40 = .ok (.iload_n 3, 1) := by decide +kernel
theorem dX4_quorums_41 : decode cX4_quorums 41 = .ok (.if_icmp .gt 5, 3) := by decide +kernel
theorem dX4_quorums_44 : decode cX4_quorums 44 = .ok (.iconst 0, 1) := by decide +kernel
theorem dX4_quorums_45 : decode cX4_quorums 45 = .ok (.ireturn, 1) := by decide +kernel
theorem dX4_quorums_46 : decode cX4_quorums 46 = .ok (.aload_n 0, 1) := by decide +kernel
theorem dX4_quorums_47 : decode cX4_quorums 47 = .ok (.iload_n 1, 1) := by decide +kernel
theorem dX4_quorums_48 : decode cX4_quorums 48 = .ok (.putfield 87, 3) := by decide +kernel
theorem dX4_quorums_51 : decode cX4_quorums 51 = .ok (.aload_n 0, 1) := by decide +kernel
theorem dX4_quorums_52 : decode cX4_quorums 52 = .ok (.iload_n 2, 1) := by decide +kernel
theorem dX4_quorums_53 : decode cX4_quorums 53 = .ok (.putfield 90, 3) := by decide +kernel
theorem dX4_quorums_56 : decode cX4_quorums 56 = .ok (.iconst 1, 1) := by decide +kernel
theorem dX4_quorums_57 : decode cX4_quorums 57 = .ok (.ireturn, 1) := by decide +kernel
theorem dX4_link_0 : decode cX4_link 0 = .ok (.aload_n 0, 1) := by decide +kernel
theorem dX4_link_1 : decode cX4_link 1 = .ok (.iconst 0, 1) := by decide +kernel
theorem dX4_link_2 : decode cX4_link 2 = .ok (.putfield 73, 3) := by decide +kernel
theorem dX4_link_5 : decode cX4_link 5 = .ok (.aload_n 0, 1) := by decide +kernel
theorem dX4_link_6 : decode cX4_link 6 = .ok (.iload_n 1, 1) := by decide +kernel
theorem dX4_link_7 : decode cX4_link 7 = .ok (.invokevirtual 93, 3) := by decide +kernel
theorem dX4_link_10 : decode cX4_link 10 = .ok (.ifCond .eq 26, 3) := by decide +kernel
theorem dX4_link_13 : decode cX4_link 13 = .ok (.aload_n 0, 1) := by decide +kernel
theorem dX4_link_14 : decode cX4_link 14 = .ok (.iload_n 2, 1) := by decide +kernel
theorem dX4_link_15 : decode cX4_link 15 = .ok (.invokevirtual 93, 3) := by decide +kernel
theorem dX4_link_18 : decode cX4_link 18 = .ok (.ifCond .eq 18, 3) := by decide +kernel
theorem dX4_link_21 : decode cX4_link 21 = .ok (.iload_n 1, 1) := by decide +kernel
theorem dX4_link_22 : decode cX4_link 22 = .ok (.iload_n 2, 1) := by decide +kernel
theorem dX4_link_23 : decode cX4_link 23 = .ok (.if_icmp .eq 13, 3) := by decide +kernel
theorem dX4_link_26 : decode cX4_link 26 = .ok (.iload_n 3, 1) := by decide +kernel
theorem dX4_link_27 : decode cX4_link 27 = .ok (.ifCond .lt 9, 3) := by decide +kernel
theorem dX4_link_30 : decode cX4_link 30 = .ok (.iload_n 3, 1) := by decide +kernel
theorem dX4_link_31 : decode cX4_link 31 = .ok (.bipush 20, 2) := by decide +kernel
theorem dX4_link_33 : decode cX4_link 33 = .ok (.if_icmp .le 5, 3) := by decide +kernel
theorem dX4_link_36 : decode cX4_link 36 = .ok (.iconst 0, 1) := by decide +kernel
theorem dX4_link_37 : decode cX4_link 37 = .ok (.ireturn, 1) := by decide +kernel
theorem dX4_link_38 : decode cX4_link 38 = .ok (.aload_n 0, 1) := by decide +kernel
theorem dX4_link_39 : decode cX4_link 39 = .ok (.getfield 17, 3) := by decide +kernel
theorem dX4_link_42 : decode cX4_link 42 = .ok (.bipush 8, 2) := by decide +kernel
theorem dX4_link_44 : decode cX4_link 44 = .ok (.iload_n 1, 1) := by decide +kernel
theorem dX4_link_45 : decode cX4_link 45 = .ok (.imul, 1) := by decide +kernel
theorem dX4_link_46 : decode cX4_link 46 = .ok (.iload_n 2, 1) := by decide +kernel
theorem dX4_link_47 : decode cX4_link 47 = .ok (.iadd, 1) := by decide +kernel
theorem dX4_link_48 : decode cX4_link 48 = .ok (.iload_n 3, 1) := by decide +kernel
theorem dX4_link_49 : decode cX4_link 49 = .ok (.iastore, 1) := by decide +kernel
theorem dX4_link_50 : decode cX4_link 50 = .ok (.iconst 1, 1) := by decide +kernel
theorem dX4_link_51 : decode cX4_link 51 = .ok (.ireturn, 1) := by decide +kernel
theorem dX4_part_0 : decode cX4_part 0 = .ok (.aload_n 0, 1) := by decide +kernel
theorem dX4_part_1 : decode cX4_part 1 = .ok (.iconst 0, 1) := by decide +kernel
theorem dX4_part_2 : decode cX4_part 2 = .ok (.putfield 73, 3) := by decide +kernel
theorem dX4_part_5 : decode cX4_part 5 = .ok (.iload_n 2, 1) := by decide +kernel
theorem dX4_part_6 : decode cX4_part 6 = .ok (.iconst 1, 1) := by decide +kernel
theorem dX4_part_7 : decode cX4_part 7 = .ok (.if_icmp .lt 9, 3) := by decide +kernel
theorem dX4_part_10 : decode cX4_part 10 = .ok (.iload_n 2, 1) := by decide +kernel
theorem dX4_part_11 : decode cX4_part 11 = .ok (.bipush 20, 2) := by decide +kernel
theorem dX4_part_13 : decode cX4_part 13 = .ok (.if_icmp .le 5, 3) := by decide +kernel
theorem dX4_part_16 : decode cX4_part 16 = .ok (.iconst (-1), 1) := by decide +kernel
theorem dX4_part_17 : decode cX4_part 17 = .ok (.ireturn, 1) := by decide +kernel
theorem dX4_part_18 : decode cX4_part 18 = .ok (.iconst 0, 1) := by decide +kernel
theorem dX4_part_19 : decode cX4_part 19 = .ok (.istore_n 3, 1) := by decide +kernel
theorem dX4_part_20 : decode cX4_part 20 = .ok (.iload_n 3, 1) := by decide +kernel
theorem dX4_part_21 : decode cX4_part 21 = .ok (.aload_n 0, 1) := by decide +kernel
theorem dX4_part_22 : decode cX4_part 22 = .ok (.getfield 76, 3) := by decide +kernel
theorem dX4_part_25 : decode cX4_part 25 = .ok (.if_icmp .ge 76, 3) := by decide +kernel
theorem dX4_part_28 : decode cX4_part 28 = .ok (.iconst 0, 1) := by decide +kernel
theorem dX4_part_29 : decode cX4_part 29 = .ok (.istore 4, 2) := by decide +kernel
theorem dX4_part_31 : decode cX4_part 31 = .ok (.iload 4, 2) := by decide +kernel
theorem dX4_part_33 : decode cX4_part 33 = .ok (.aload_n 0, 1) := by decide +kernel
theorem dX4_part_34 : decode cX4_part 34 = .ok (.getfield 76, 3) := by decide +kernel
theorem dX4_part_37 : decode cX4_part 37 = .ok (.if_icmp .ge 58, 3) := by decide +kernel
theorem dX4_part_40 : decode cX4_part 40 = .ok (.iload_n 1, 1) := by decide +kernel
theorem dX4_part_41 : decode cX4_part 41 = .ok (.iload_n 3, 1) := by decide +kernel
theorem dX4_part_42 : decode cX4_part 42 = .ok (.ishr, 1) := by decide +kernel
theorem dX4_part_43 : decode cX4_part 43 = .ok (.iconst 1, 1) := by decide +kernel
theorem dX4_part_44 : decode cX4_part 44 = .ok (.iand, 1) := by decide +kernel
theorem dX4_part_45 : decode cX4_part 45 = .ok (.iload_n 1, 1) := by decide +kernel
theorem dX4_part_46 : decode cX4_part 46 = .ok (.iload 4, 2) := by decide +kernel
theorem dX4_part_48 : decode cX4_part 48 = .ok (.ishr, 1) := by decide +kernel
theorem dX4_part_49 : decode cX4_part 49 = .ok (.iconst 1, 1) := by decide +kernel
theorem dX4_part_50 : decode cX4_part 50 = .ok (.iand, 1) := by decide +kernel
theorem dX4_part_51 : decode cX4_part 51 = .ok (.if_icmp .eq 7, 3) := by decide +kernel
theorem dX4_part_54 : decode cX4_part 54 = .ok (.iconst 1, 1) := by decide +kernel
theorem dX4_part_55 : decode cX4_part 55 = .ok (.goto 4, 3) := by decide +kernel
theorem dX4_part_58 : decode cX4_part 58 = .ok (.iconst 0, 1) := by decide +kernel
theorem dX4_part_59 : decode cX4_part 59 = .ok (.istore 5, 2) := by decide +kernel
theorem dX4_part_61 : decode cX4_part 61 = .ok (.aload_n 0, 1) := by decide +kernel
theorem dX4_part_62 : decode cX4_part 62 = .ok (.getfield 17, 3) := by decide +kernel
theorem dX4_part_65 : decode cX4_part 65 = .ok (.bipush 8, 2) := by decide +kernel
theorem dX4_part_67 : decode cX4_part 67 = .ok (.iload_n 3, 1) := by decide +kernel
theorem dX4_part_68 : decode cX4_part 68 = .ok (.imul, 1) := by decide +kernel
theorem dX4_part_69 : decode cX4_part 69 = .ok (.iload 4, 2) := by decide +kernel
theorem dX4_part_71 : decode cX4_part 71 = .ok (.iadd, 1) := by decide +kernel
theorem dX4_part_72 : decode cX4_part 72 = .ok (.iload_n 3, 1) := by decide +kernel
theorem dX4_part_73 : decode cX4_part 73 = .ok (.iload 4, 2) := by decide +kernel
theorem dX4_part_75 : decode cX4_part 75 = .ok (.if_icmp .eq 8, 3) := by decide +kernel
theorem dX4_part_78 : decode cX4_part 78 = .ok (.iload 5, 2) := by decide +kernel
theorem dX4_part_80 : decode cX4_part 80 = .ok (.ifCond .eq 7, 3) := by decide +kernel
theorem dX4_part_83 : decode cX4_part 83 = .ok (.iconst 0, 1) := by decide +kernel
theorem dX4_part_84 : decode cX4_part 84 = .ok (.goto 4, 3) := by decide +kernel
theorem dX4_part_87 : decode cX4_part 87 = .ok (.iload_n 2, 1) := by decide +kernel
theorem dX4_part_88 : decode cX4_part 88 = .ok (.iastore, 1) := by decide +kernel
theorem dX4_part_89 : decode cX4_part 89 = .ok (.iinc 4 1, 3) := by decide +kernel
theorem dX4_part_92 : decode cX4_part 92 = .ok (.goto (-61), 3) := by decide +kernel
theorem dX4_part_95 : decode cX4_part 95 = .ok (.iinc 3 1, 3) := by decide +kernel
theorem dX4_part_98 : decode cX4_part 98 = .ok (.goto (-78), 3) := by decide +kernel
theorem dX4_part_101 : decode cX4_part 101 = .ok (.aload_n 0, 1) := by decide +kernel
theorem dX4_part_102 : decode cX4_part 102 = .ok (.getfield 76, 3) := by decide +kernel
theorem dX4_part_105 : decode cX4_part 105 = .ok (.aload_n 0, 1) := by decide +kernel
theorem dX4_part_106 : decode cX4_part 106 = .ok (.getfield 76, 3) := by decide +kernel
theorem dX4_part_109 : decode cX4_part 109 = .ok (.iconst 1, 1) := by decide +kernel
theorem dX4_part_110 : decode cX4_part 110 = .ok (.isub, 1) := by decide +kernel
theorem dX4_part_111 : decode cX4_part 111 = .ok (.imul, 1) := by decide +kernel
theorem dX4_part_112 : decode cX4_part 112 = .ok (.ireturn, 1) := by decide +kernel
theorem dX4_patience_0 : decode cX4_patience 0 = .ok (.aload_n 0, 1) := by decide +kernel
theorem dX4_patience_1 : decode cX4_patience 1 = .ok (.iconst 0, 1) := by decide +kernel
theorem dX4_patience_2 : decode cX4_patience 2 = .ok (.putfield 73, 3) := by decide +kernel
theorem dX4_patience_5 : decode cX4_patience 5 = .ok (.iload_n 1, 1) := by decide +kernel
theorem dX4_patience_6 : decode cX4_patience 6 = .ok (.iconst 5, 1) := by decide +kernel
theorem dX4_patience_7 : decode cX4_patience 7 = .ok (.if_icmp .lt 16, 3) := by decide +kernel
theorem dX4_patience_10 : decode cX4_patience 10 = .ok (.iload_n 1, 1) := by decide +kernel
theorem dX4_patience_11 : decode cX4_patience 11 = .ok (.bipush 100, 2) := by decide +kernel
theorem dX4_patience_13 : decode cX4_patience 13 = .ok (.if_icmp .gt 10, 3) := by decide +kernel
theorem dX4_patience_16 : decode cX4_patience 16 = .ok (.aload_n 0, 1) := by decide +kernel
theorem dX4_patience_17 : decode cX4_patience 17 = .ok (.getfield 79, 3) := by decide +kernel
theorem dX4_patience_20 : decode cX4_patience 20 = .ok (.ifCond .eq 5, 3) := by decide +kernel
theorem dX4_patience_23 : decode cX4_patience 23 = .ok (.iconst 0, 1) := by decide +kernel
theorem dX4_patience_24 : decode cX4_patience 24 = .ok (.ireturn, 1) := by decide +kernel
theorem dX4_patience_25 : decode cX4_patience 25 = .ok (.aload_n 0, 1) := by decide +kernel
theorem dX4_patience_26 : decode cX4_patience 26 = .ok (.iload_n 1, 1) := by decide +kernel
theorem dX4_patience_27 : decode cX4_patience 27 = .ok (.putfield 13, 3) := by decide +kernel
theorem dX4_patience_30 : decode cX4_patience 30 = .ok (.iconst 1, 1) := by decide +kernel
theorem dX4_patience_31 : decode cX4_patience 31 = .ok (.ireturn, 1) := by decide +kernel
theorem dX4_send_0 : decode cX4_send 0 = .ok (.aload_n 0, 1) := by decide +kernel
theorem dX4_send_1 : decode cX4_send 1 = .ok (.dup, 1) := by decide +kernel
theorem dX4_send_2 : decode cX4_send 2 = .ok (.getfield 97, 3) := by decide +kernel
theorem dX4_send_5 : decode cX4_send 5 = .ok (.iconst 1, 1) := by decide +kernel
theorem dX4_send_6 : decode cX4_send 6 = .ok (.iadd, 1) := by decide +kernel
theorem dX4_send_7 : decode cX4_send 7 = .ok (.putfield 97, 3) := by decide +kernel
theorem dX4_send_10 : decode cX4_send 10 = .ok (.aload_n 0, 1) := by decide +kernel
theorem dX4_send_11 : decode cX4_send 11 = .ok (.getfield 17, 3) := by decide +kernel
theorem dX4_send_14 : decode cX4_send 14 = .ok (.bipush 8, 2) := by decide +kernel
theorem dX4_send_16 : decode cX4_send 16 = .ok (.iload_n 2, 1) := by decide +kernel
theorem dX4_send_17 : decode cX4_send 17 = .ok (.imul, 1) := by decide +kernel
theorem dX4_send_18 : decode cX4_send 18 = .ok (.iload_n 3, 1) := by decide +kernel
theorem dX4_send_19 : decode cX4_send 19 = .ok (.iadd, 1) := by decide +kernel
theorem dX4_send_20 : decode cX4_send 20 = .ok (.iaload, 1) := by decide +kernel
theorem dX4_send_21 : decode cX4_send 21 = .ok (.istore 6, 2) := by decide +kernel
theorem dX4_send_23 : decode cX4_send 23 = .ok (.iload 6, 2) := by decide +kernel
theorem dX4_send_25 : decode cX4_send 25 = .ok (.ifCond .ne 14, 3) := by decide +kernel
theorem dX4_send_28 : decode cX4_send 28 = .ok (.aload_n 0, 1) := by decide +kernel
theorem dX4_send_29 : decode cX4_send 29 = .ok (.dup, 1) := by decide +kernel
theorem dX4_send_30 : decode cX4_send 30 = .ok (.getfield 100, 3) := by decide +kernel
theorem dX4_send_33 : decode cX4_send 33 = .ok (.iconst 1, 1) := by decide +kernel
theorem dX4_send_34 : decode cX4_send 34 = .ok (.iadd, 1) := by decide +kernel
theorem dX4_send_35 : decode cX4_send 35 = .ok (.putfield 100, 3) := by decide +kernel
theorem dX4_send_38 : decode cX4_send 38 = .ok (.return_, 1) := by decide +kernel
theorem dX4_send_39 : decode cX4_send 39 = .ok (.aload_n 0, 1) := by decide +kernel
theorem dX4_send_40 : decode cX4_send 40 = .ok (.getfield 49, 3) := by decide +kernel
theorem dX4_send_43 : decode cX4_send 43 = .ok (.aload_n 0, 1) := by decide +kernel
theorem dX4_send_44 : decode cX4_send 44 = .ok (.getfield 103, 3) := by decide +kernel
theorem dX4_send_47 : decode cX4_send 47 = .ok (.iload_n 1, 1) := by decide +kernel
theorem dX4_send_48 : decode cX4_send 48 = .ok (.iastore, 1) := by decide +kernel
theorem dX4_send_49 : decode cX4_send 49 = .ok (.aload_n 0, 1) := by decide +kernel
theorem dX4_send_50 : decode cX4_send 50 = .ok (.getfield 52, 3) := by decide +kernel
theorem dX4_send_53 : decode cX4_send 53 = .ok (.aload_n 0, 1) := by decide +kernel
theorem dX4_send_54 : decode cX4_send 54 = .ok (.getfield 103, 3) := by decide +kernel
theorem dX4_send_57 : decode cX4_send 57 = .ok (.iload_n 2, 1) := by decide +kernel
theorem dX4_send_58 : decode cX4_send 58 = .ok (.iastore, 1) := by decide +kernel
theorem dX4_send_59 : decode cX4_send 59 = .ok (.aload_n 0, 1) := by decide +kernel
theorem dX4_send_60 : decode cX4_send 60 = .ok (.getfield 55, 3) := by decide +kernel
theorem dX4_send_63 : decode cX4_send 63 = .ok (.aload_n 0, 1) := by decide +kernel
theorem dX4_send_64 : decode cX4_send 64 = .ok (.getfield 103, 3) := by decide +kernel
theorem dX4_send_67 : decode cX4_send 67 = .ok (.iload_n 3, 1) := by decide +kernel
theorem dX4_send_68 : decode cX4_send 68 = .ok (.iastore, 1) := by decide +kernel
theorem dX4_send_69 : decode cX4_send 69 = .ok (.aload_n 0, 1) := by decide +kernel
theorem dX4_send_70 : decode cX4_send 70 = .ok (.getfield 58, 3) := by decide +kernel
theorem dX4_send_73 : decode cX4_send 73 = .ok (.aload_n 0, 1) := by decide +kernel
theorem dX4_send_74 : decode cX4_send 74 = .ok (.getfield 103, 3) := by decide +kernel
theorem dX4_send_77 : decode cX4_send 77 = .ok (.iload 4, 2) := by decide +kernel
theorem dX4_send_79 : decode cX4_send 79 = .ok (.iastore, 1) := by decide +kernel
theorem dX4_send_80 : decode cX4_send 80 = .ok (.aload_n 0, 1) := by decide +kernel
theorem dX4_send_81 : decode cX4_send 81 = .ok (.getfield 61, 3) := by decide +kernel
theorem dX4_send_84 : decode cX4_send 84 = .ok (.aload_n 0, 1) := by decide +kernel
theorem dX4_send_85 : decode cX4_send 85 = .ok (.getfield 103, 3) := by decide +kernel
theorem dX4_send_88 : decode cX4_send 88 = .ok (.iload 5, 2) := by decide +kernel
theorem dX4_send_90 : decode cX4_send 90 = .ok (.iastore, 1) := by decide +kernel
theorem dX4_send_91 : decode cX4_send 91 = .ok (.aload_n 0, 1) := by decide +kernel
theorem dX4_send_92 : decode cX4_send 92 = .ok (.getfield 64, 3) := by decide +kernel
theorem dX4_send_95 : decode cX4_send 95 = .ok (.aload_n 0, 1) := by decide +kernel
theorem dX4_send_96 : decode cX4_send 96 = .ok (.getfield 103, 3) := by decide +kernel
theorem dX4_send_99 : decode cX4_send 99 = .ok (.aload_n 0, 1) := by decide +kernel
theorem dX4_send_100 : decode cX4_send 100 = .ok (.getfield 106, 3) := by decide +kernel
theorem dX4_send_103 : decode cX4_send 103 = .ok (.iload 6, 2) := by decide +kernel
theorem dX4_send_105 : decode cX4_send 105 = .ok (.iadd, 1) := by decide +kernel
theorem dX4_send_106 : decode cX4_send 106 = .ok (.iastore, 1) := by decide +kernel
theorem dX4_send_107 : decode cX4_send 107 = .ok (.aload_n 0, 1) := by decide +kernel
theorem dX4_send_108 : decode cX4_send 108 = .ok (.getfield 67, 3) := by decide +kernel
theorem dX4_send_111 : decode cX4_send 111 = .ok (.aload_n 0, 1) := by decide +kernel
theorem dX4_send_112 : decode cX4_send 112 = .ok (.getfield 103, 3) := by decide +kernel
theorem dX4_send_115 : decode cX4_send 115 = .ok (.aload_n 0, 1) := by decide +kernel
theorem dX4_send_116 : decode cX4_send 116 = .ok (.getfield 109, 3) := by decide +kernel
theorem dX4_send_119 : decode cX4_send 119 = .ok (.iastore, 1) := by decide +kernel
theorem dX4_send_120 : decode cX4_send 120 = .ok (.aload_n 0, 1) := by decide +kernel
theorem dX4_send_121 : decode cX4_send 121 = .ok (.dup, 1) := by decide +kernel
theorem dX4_send_122 : decode cX4_send 122 = .ok (.getfield 109, 3) := by decide +kernel
theorem dX4_send_125 : decode cX4_send 125 = .ok (.iconst 1, 1) := by decide +kernel
theorem dX4_send_126 : decode cX4_send 126 = .ok (.iadd, 1) := by decide +kernel
theorem dX4_send_127 : decode cX4_send 127 = .ok (.putfield 109, 3) := by decide +kernel
theorem dX4_send_130 : decode cX4_send 130 = .ok (.aload_n 0, 1) := by decide +kernel
theorem dX4_send_131 : decode cX4_send 131 = .ok (.dup, 1) := by decide +kernel
theorem dX4_send_132 : decode cX4_send 132 = .ok (.getfield 103, 3) := by decide +kernel
theorem dX4_send_135 : decode cX4_send 135 = .ok (.iconst 1, 1) := by decide +kernel
theorem dX4_send_136 : decode cX4_send 136 = .ok (.iadd, 1) := by decide +kernel
theorem dX4_send_137 : decode cX4_send 137 = .ok (.putfield 103, 3) := by decide +kernel
theorem dX4_send_140 : decode cX4_send 140 = .ok (.return_, 1) := by decide +kernel
theorem dX4_sendAll_0 : decode cX4_sendAll 0 = .ok (.iconst 0, 1) := by decide +kernel
theorem dX4_sendAll_1 : decode cX4_sendAll 1 = .ok (.istore 4, 2) := by decide +kernel
theorem dX4_sendAll_3 : decode cX4_sendAll 3 = .ok (.iload 4, 2) := by decide +kernel
theorem dX4_sendAll_5 : decode cX4_sendAll 5 = .ok (.aload_n 0, 1) := by decide +kernel
theorem dX4_sendAll_6 : decode cX4_sendAll 6 = .ok (.getfield 76, 3) := by decide +kernel
theorem dX4_sendAll_9 : decode cX4_sendAll 9 = .ok (.if_icmp .ge 25, 3) := by decide +kernel
theorem dX4_sendAll_12 : decode cX4_sendAll 12 = .ok (.iload 4, 2) := by decide +kernel
theorem dX4_sendAll_14 : decode cX4_sendAll 14 = .ok (.iload_n 2, 1) := by decide +kernel
theorem dX4_sendAll_15 : decode cX4_sendAll 15 = .ok (.if_icmp .eq 13, 3) := by decide +kernel
theorem dX4_sendAll_18 : decode cX4_sendAll 18 = .ok (.aload_n 0, 1) := by decide +kernel
theorem dX4_sendAll_19 : decode cX4_sendAll 19 = .ok (.iload_n 1, 1) := by decide +kernel
theorem dX4_sendAll_20 : decode cX4_sendAll 20 = .ok (.iload_n 2, 1) := by decide +kernel
theorem dX4_sendAll_21 : decode cX4_sendAll 21 = .ok (.iload 4, 2) := by decide +kernel
theorem dX4_sendAll_23 : decode cX4_sendAll 23 = .ok (.iload_n 3, 1) := by decide +kernel
theorem dX4_sendAll_24 : decode cX4_sendAll 24 = .ok (.iconst 0, 1) := by decide +kernel
theorem dX4_sendAll_25 : decode cX4_sendAll 25 = .ok (.invokevirtual 112, 3) := by decide +kernel
theorem dX4_sendAll_28 : decode cX4_sendAll 28 = .ok (.iinc 4 1, 3) := by decide +kernel
theorem dX4_sendAll_31 : decode cX4_sendAll 31 = .ok (.goto (-28), 3) := by decide +kernel
theorem dX4_sendAll_34 : decode cX4_sendAll 34 = .ok (.return_, 1) := by decide +kernel
theorem dX4_setTimer_0 : decode cX4_setTimer 0 = .ok (.aload_n 0, 1) := by decide +kernel
theorem dX4_setTimer_1 : decode cX4_setTimer 1 = .ok (.getfield 42, 3) := by decide +kernel
theorem dX4_setTimer_4 : decode cX4_setTimer 4 = .ok (.iload_n 1, 1) := by decide +kernel
theorem dX4_setTimer_5 : decode cX4_setTimer 5 = .ok (.aload_n 0, 1) := by decide +kernel
theorem dX4_setTimer_6 : decode cX4_setTimer 6 = .ok (.getfield 106, 3) := by decide +kernel
theorem dX4_setTimer_9 : decode cX4_setTimer 9 = .ok (.iload_n 2, 1) := by decide +kernel
theorem dX4_setTimer_10 : decode cX4_setTimer 10 = .ok (.iadd, 1) := by decide +kernel
theorem dX4_setTimer_11 : decode cX4_setTimer 11 = .ok (.iastore, 1) := by decide +kernel
theorem dX4_setTimer_12 : decode cX4_setTimer 12 = .ok (.aload_n 0, 1) := by decide +kernel
theorem dX4_setTimer_13 : decode cX4_setTimer 13 = .ok (.getfield 45, 3) := by decide +kernel
theorem dX4_setTimer_16 : decode cX4_setTimer 16 = .ok (.iload_n 1, 1) := by decide +kernel
theorem dX4_setTimer_17 : decode cX4_setTimer 17 = .ok (.aload_n 0, 1) := by decide +kernel
theorem dX4_setTimer_18 : decode cX4_setTimer 18 = .ok (.getfield 109, 3) := by decide +kernel
theorem dX4_setTimer_21 : decode cX4_setTimer 21 = .ok (.iastore, 1) := by decide +kernel
theorem dX4_setTimer_22 : decode cX4_setTimer 22 = .ok (.aload_n 0, 1) := by decide +kernel
theorem dX4_setTimer_23 : decode cX4_setTimer 23 = .ok (.dup, 1) := by decide +kernel
theorem dX4_setTimer_24 : decode cX4_setTimer 24 = .ok (.getfield 109, 3) := by decide +kernel
theorem dX4_setTimer_27 : decode cX4_setTimer 27 = .ok (.iconst 1, 1) := by decide +kernel
theorem dX4_setTimer_28 : decode cX4_setTimer 28 = .ok (.iadd, 1) := by decide +kernel
theorem dX4_setTimer_29 : decode cX4_setTimer 29 = .ok (.putfield 109, 3) := by decide +kernel
theorem dX4_setTimer_32 : decode cX4_setTimer 32 = .ok (.return_, 1) := by decide +kernel
theorem dX4_isDecided_0 : decode cX4_isDecided 0 = .ok (.aload_n 0, 1) := by decide +kernel
theorem dX4_isDecided_1 : decode cX4_isDecided 1 = .ok (.getfield 20, 3) := by decide +kernel
theorem dX4_isDecided_4 : decode cX4_isDecided 4 = .ok (.iload_n 1, 1) := by decide +kernel
theorem dX4_isDecided_5 : decode cX4_isDecided 5 = .ok (.iaload, 1) := by decide +kernel
theorem dX4_isDecided_6 : decode cX4_isDecided 6 = .ok (.iconst 4, 1) := by decide +kernel
theorem dX4_isDecided_7 : decode cX4_isDecided 7 = .ok (.if_icmp .eq 13, 3) := by decide +kernel
theorem dX4_isDecided_10 : decode cX4_isDecided 10 = .ok (.aload_n 0, 1) := by decide +kernel
theorem dX4_isDecided_11 : decode cX4_isDecided 11 = .ok (.getfield 20, 3) := by decide +kernel
theorem dX4_isDecided_14 : decode cX4_isDecided 14 = .ok (.iload_n 1, 1) := by decide +kernel
theorem dX4_isDecided_15 : decode cX4_isDecided 15 = .ok (.iaload, 1) := by decide +kernel
theorem dX4_isDecided_16 : decode cX4_isDecided 16 = .ok (.iconst 5, 1) := by decide +kernel
theorem dX4_isDecided_17 : decode cX4_isDecided 17 = .ok (.if_icmp .ne 7, 3) := by decide +kernel
theorem dX4_isDecided_20 : decode cX4_isDecided 20 = .ok (.iconst 1, 1) := by decide +kernel
theorem dX4_isDecided_21 : decode cX4_isDecided 21 = .ok (.goto 4, 3) := by decide +kernel
theorem dX4_isDecided_24 : decode cX4_isDecided 24 = .ok (.iconst 0, 1) := by decide +kernel
theorem dX4_isDecided_25 : decode cX4_isDecided 25 = .ok (.ireturn, 1) := by decide +kernel
theorem dX4_become_0 : decode cX4_become 0 = .ok (.aload_n 0, 1) := by decide +kernel
theorem dX4_become_1 : decode cX4_become 1 = .ok (.getfield 20, 3) := by decide +kernel
theorem dX4_become_4 : decode cX4_become 4 = .ok (.iload_n 1, 1) := by decide +kernel
theorem dX4_become_5 : decode cX4_become 5 = .ok (.iload_n 2, 1) := by decide +kernel
theorem dX4_become_6 : decode cX4_become 6 = .ok (.iastore, 1) := by decide +kernel
theorem dX4_become_7 : decode cX4_become 7 = .ok (.aload_n 0, 1) := by decide +kernel
theorem dX4_become_8 : decode cX4_become 8 = .ok (.getfield 23, 3) := by decide +kernel
theorem dX4_become_11 : decode cX4_become 11 = .ok (.iload_n 1, 1) := by decide +kernel
theorem dX4_become_12 : decode cX4_become 12 = .ok (.aload_n 0, 1) := by decide +kernel
theorem dX4_become_13 : decode cX4_become 13 = .ok (.getfield 106, 3) := by decide +kernel
theorem dX4_become_16 : decode cX4_become 16 = .ok (.iastore, 1) := by decide +kernel
theorem dX4_become_17 : decode cX4_become 17 = .ok (.iload_n 2, 1) := by decide +kernel
theorem dX4_become_18 : decode cX4_become 18 = .ok (.iconst 4, 1) := by decide +kernel
theorem dX4_become_19 : decode cX4_become 19 = .ok (.if_icmp .lt 17, 3) := by decide +kernel
theorem dX4_become_22 : decode cX4_become 22 = .ok (.aload_n 0, 1) := by decide +kernel
theorem dX4_become_23 : decode cX4_become 23 = .ok (.getfield 33, 3) := by decide +kernel
theorem dX4_become_26 : decode cX4_become 26 = .ok (.iload_n 1, 1) := by decide +kernel
theorem dX4_become_27 : decode cX4_become 27 = .ok (.iconst 0, 1) := by decide +kernel
theorem dX4_become_28 : decode cX4_become 28 = .ok (.iastore, 1) := by decide +kernel
theorem dX4_become_29 : decode cX4_become 29 = .ok (.aload_n 0, 1) := by decide +kernel
theorem dX4_become_30 : decode cX4_become 30 = .ok (.getfield 42, 3) := by decide +kernel
theorem dX4_become_33 : decode cX4_become 33 = .ok (.iload_n 1, 1) := by decide +kernel
theorem dX4_become_34 : decode cX4_become 34 = .ok (.iconst (-1), 1) := by decide +kernel
theorem dX4_become_35 : decode cX4_become 35 = .ok (.iastore, 1) := by decide +kernel
theorem dX4_become_36 : decode cX4_become 36 = .ok (.return_, 1) := by decide +kernel
theorem dX4_decide_0 : decode cX4_decide 0 = .ok (.aload_n 0, 1) := by decide +kernel
theorem dX4_decide_1 : decode cX4_decide 1 = .ok (.iload_n 1, 1) := by decide +kernel
theorem dX4_decide_2 : decode cX4_decide 2 = .ok (.iload_n 2, 1) := by decide +kernel
theorem dX4_decide_3 : decode cX4_decide 3 = .ok (.invokevirtual 116, 3) := by decide +kernel
theorem dX4_decide_6 : decode cX4_decide 6 = .ok (.aload_n 0, 1) := by decide +kernel
theorem dX4_decide_7 : decode cX4_decide 7 = .ok (.iload_n 2, 1) := by decide +kernel
theorem dX4_decide_8 : decode cX4_decide 8 = .ok (.iconst 4, 1) := by decide +kernel
theorem dX4_decide_9 : decode cX4_decide 9 = .ok (.if_icmp .ne 8, 3) := by decide +kernel
theorem dX4_decide_12 : decode cX4_decide 12 = .ok (.bipush 9, 2) := by decide +kernel
theorem dX4_decide_14 : decode cX4_decide 14 = .ok (.goto 5, 3) := by decide +kernel
theorem dX4_decide_17 : decode cX4_decide 17 = .ok (.bipush 10, 2) := by decide +kernel
theorem dX4_decide_19 : decode cX4_decide 19 = .ok (.iload_n 1, 1) := by decide +kernel
theorem dX4_decide_20 : decode cX4_decide 20 = .ok (.iconst 0, 1) := by decide +kernel
theorem dX4_decide_21 : decode cX4_decide 21 = .ok (.invokevirtual 120, 3) := by decide +kernel
theorem dX4_decide_24 : decode cX4_decide 24 = .ok (.return_, 1) := by decide +kernel
theorem dX4_clearThere_0 : decode cX4_clearThere 0 = .ok (.iconst 0, 1) := by decide +kernel
theorem dX4_clearThere_1 : decode cX4_clearThere 1 = .ok (.istore_n 3, 1) := by decide +kernel
theorem dX4_clearThere_2 : decode cX4_clearThere 2 = .ok (.iload_n 3, 1) := by decide +kernel
theorem dX4_clearThere_3 : decode cX4_clearThere 3 = .ok (.bipush 8, 2) := by decide +kernel
theorem dX4_clearThere_5 : decode cX4_clearThere 5 = .ok (.if_icmp .ge 30, 3) := by decide +kernel
theorem dX4_clearThere_8 : decode cX4_clearThere 8 = .ok (.aload_n 0, 1) := by decide +kernel
theorem dX4_clearThere_9 : decode cX4_clearThere 9 = .ok (.getfield 39, 3) := by decide +kernel
theorem dX4_clearThere_12 : decode cX4_clearThere 12 = .ok (.bipush 8, 2) := by decide +kernel
theorem dX4_clearThere_14 : decode cX4_clearThere 14 = .ok (.iload_n 1, 1) := by decide +kernel
theorem dX4_clearThere_15 : decode cX4_clearThere 15 = .ok (.imul, 1) := by decide +kernel
theorem dX4_clearThere_16 : decode cX4_clearThere 16 = .ok (.iload_n 3, 1) := by decide +kernel
theorem dX4_clearThere_17 : decode cX4_clearThere 17 = .ok (.iadd, 1) := by decide +kernel
theorem dX4_clearThere_18 : decode cX4_clearThere 18 = .ok (.iload_n 3, 1) := by decide +kernel
theorem dX4_clearThere_19 : decode cX4_clearThere 19 = .ok (.iload_n 1, 1) := by decide +kernel
theorem dX4_clearThere_20 : decode cX4_clearThere 20 = .ok (.if_icmp .ne 7, 3) := by decide +kernel
theorem dX4_clearThere_23 : decode cX4_clearThere 23 = .ok (.iload_n 2, 1) := by decide +kernel
theorem dX4_clearThere_24 : decode cX4_clearThere 24 = .ok (.goto 4, 3) := by decide +kernel
theorem dX4_clearThere_27 : decode cX4_clearThere 27 = .ok (.iconst 0, 1) := by decide +kernel
theorem dX4_clearThere_28 : decode cX4_clearThere 28 = .ok (.iastore, 1) := by decide +kernel
theorem dX4_clearThere_29 : decode cX4_clearThere 29 = .ok (.iinc 3 1, 3) := by decide +kernel
theorem dX4_clearThere_32 : decode cX4_clearThere 32 = .ok (.goto (-30), 3) := by decide +kernel
theorem dX4_clearThere_35 : decode cX4_clearThere 35 = .ok (.return_, 1) := by decide +kernel
theorem dX4_weightThere_0 : decode cX4_weightThere 0 = .ok (.iconst 0, 1) := by decide +kernel
theorem dX4_weightThere_1 : decode cX4_weightThere 1 = .ok (.istore_n 2, 1) := by decide +kernel
theorem dX4_weightThere_2 : decode cX4_weightThere 2 = .ok (.iconst 0, 1) := by decide +kernel
theorem dX4_weightThere_3 : decode cX4_weightThere 3 = .ok (.istore_n 3, 1) := by decide +kernel
theorem dX4_weightThere_4 : decode cX4_weightThere 4 = .ok (.iload_n 3, 1) := by decide +kernel
theorem dX4_weightThere_5 : decode cX4_weightThere 5 = .ok (.aload_n 0, 1) := by decide +kernel
theorem dX4_weightThere_6 : decode cX4_weightThere 6 = .ok (.getfield 76, 3) := by decide +kernel
theorem dX4_weightThere_9 : decode cX4_weightThere 9 = .ok (.if_icmp .ge 36, 3) := by decide +kernel
theorem dX4_weightThere_12 : decode cX4_weightThere 12 = .ok (.aload_n 0, 1) := by decide +kernel
theorem dX4_weightThere_13 : decode cX4_weightThere 13 = .ok (.getfield 39, 3) := by decide +kernel
theorem dX4_weightThere_16 : decode cX4_weightThere 16 = .ok (.bipush 8, 2) := by decide +kernel
theorem dX4_weightThere_18 : decode cX4_weightThere 18 = .ok (.iload_n 1, 1) := by decide +kernel
theorem dX4_weightThere_19 : decode cX4_weightThere 19 = .ok (.imul, 1) := by decide +kernel
theorem dX4_weightThere_20 : decode cX4_weightThere 20 = .ok (.iload_n 3, 1) := by decide +kernel
theorem dX4_weightThere_21 : decode cX4_weightThere 21 = .ok (.iadd, 1) := by decide +kernel
theorem dX4_weightThere_22 : decode cX4_weightThere 22 = .ok (.iaload, 1) := by decide +kernel
theorem dX4_weightThere_23 : decode cX4_weightThere 23 = .ok (.ifCond .le 14, 3) := by decide +kernel
theorem dX4_weightThere_26 : decode cX4_weightThere 26 = .ok (.iload_n 2, 1) := by decide +kernel
theorem dX4_weightThere_27 : decode cX4_weightThere 27 = .ok (.aload_n 0, 1) := by decide +kernel
theorem dX4_weightThere_28 : decode cX4_weightThere 28 = .ok (.getfield 7, 3) := by decide +kernel
theorem dX4_weightThere_31 : decode cX4_weightThere 31 = .ok (.iload_n 3, 1) := by decide +kernel
theorem dX4_weightThere_32 : decode cX4_weightThere 32 = .ok (.iaload, 1) := by decide +kernel
theorem dX4_weightThere_33 : decode cX4_weightThere 33 = .ok (.iadd, 1) := by decide +kernel
theorem dX4_weightThere_34 : decode cX4_weightThere 34 = .ok (.goto 4, 3) := by decide +kernel
theorem dX4_weightThere_37 : decode cX4_weightThere 37 = .ok (.iload_n 2, 1) := by decide +kernel
theorem dX4_weightThere_38 : decode cX4_weightThere 38 = .ok (.istore_n 2, 1) := by decide +kernel
theorem dX4_weightThere_39 : decode cX4_weightThere 39 = .ok (.iinc 3 1, 3) := by decide +kernel
theorem dX4_weightThere_42 : decode cX4_weightThere 42 = .ok (.goto (-38), 3) := by decide +kernel
theorem dX4_weightThere_45 : decode cX4_weightThere 45 = .ok (.iload_n 2, 1) := by decide +kernel
theorem dX4_weightThere_46 : decode cX4_weightThere 46 = .ok (.ireturn, 1) := by decide +kernel
theorem dX4_checkVotes_0 : decode cX4_checkVotes 0 = .ok (.iconst 1, 1) := by decide +kernel
theorem dX4_checkVotes_1 : decode cX4_checkVotes 1 = .ok (.istore_n 2, 1) := by decide +kernel
theorem dX4_checkVotes_2 : decode cX4_checkVotes 2 = .ok (.iconst 0, 1) := by decide +kernel
theorem dX4_checkVotes_3 : decode cX4_checkVotes 3 = .ok (.istore_n 3, 1) := by decide +kernel
theorem dX4_checkVotes_4 : decode cX4_checkVotes 4 = .ok (.iload_n 3, 1) := by decide +kernel
theorem dX4_checkVotes_5 : decode cX4_checkVotes 5 = .ok (.aload_n 0, 1) := by decide +kernel
theorem dX4_checkVotes_6 : decode cX4_checkVotes 6 = .ok (.getfield 76, 3) := by decide +kernel
theorem dX4_checkVotes_9 : decode cX4_checkVotes 9 = .ok (.if_icmp .ge 33, 3) := by decide +kernel
theorem dX4_checkVotes_12 : decode cX4_checkVotes 12 = .ok (.iload_n 2, 1) := by decide +kernel
theorem dX4_checkVotes_13 : decode cX4_checkVotes 13 = .ok (.ifCond .eq 21, 3) := by decide +kernel
theorem dX4_checkVotes_16 : decode cX4_checkVotes 16 = .ok (.aload_n 0, 1) := by decide +kernel
theorem dX4_checkVotes_17 : decode cX4_checkVotes 17 = .ok (.getfield 39, 3) := by decide +kernel
theorem dX4_checkVotes_20 : decode cX4_checkVotes 20 = .ok (.bipush 8, 2) := by decide +kernel
theorem dX4_checkVotes_22 : decode cX4_checkVotes 22 = .ok (.iload_n 1, 1) := by decide +kernel
theorem dX4_checkVotes_23 : decode cX4_checkVotes 23 = .ok (.imul, 1) := by decide +kernel
theorem dX4_checkVotes_24 : decode cX4_checkVotes 24 = .ok (.iload_n 3, 1) := by decide +kernel
theorem dX4_checkVotes_25 : decode cX4_checkVotes 25 = .ok (.iadd, 1) := by decide +kernel
theorem dX4_checkVotes_26 : decode cX4_checkVotes 26 = .ok (.iaload, 1) := by decide +kernel
theorem dX4_checkVotes_27 : decode cX4_checkVotes 27 = .ok (.ifCond .le 7, 3) := by decide +kernel
theorem dX4_checkVotes_30 : decode cX4_checkVotes 30 = .ok (.iconst 1, 1) := by decide +kernel
theorem dX4_checkVotes_31 : decode cX4_checkVotes 31 = .ok (.goto 4, 3) := by decide +kernel
theorem dX4_checkVotes_34 : decode cX4_checkVotes 34 = .ok (.iconst 0, 1) := by decide +kernel
theorem dX4_checkVotes_35 : decode cX4_checkVotes 35 = .ok (.istore_n 2, 1) := by decide +kernel
theorem dX4_checkVotes_36 : decode cX4_checkVotes 36 = .ok (.iinc 3 1, 3) := by decide +kernel
theorem dX4_checkVotes_39 : decode cX4_checkVotes 39 = .ok (.goto (-35), 3) := by decide +kernel
theorem dX4_checkVotes_42 : decode cX4_checkVotes 42 = .ok (.iload_n 2, 1) := by decide +kernel
theorem dX4_checkVotes_43 : decode cX4_checkVotes 43 = .ok (.ifCond .eq 19, 3) := by decide +kernel
theorem dX4_checkVotes_46 : decode cX4_checkVotes 46 = .ok (.aload_n 0, 1) := by decide +kernel
theorem dX4_checkVotes_47 : decode cX4_checkVotes 47 = .ok (.getfield 36, 3) := by decide +kernel
theorem dX4_checkVotes_50 : decode cX4_checkVotes 50 = .ok (.iload_n 1, 1) := by decide +kernel
theorem dX4_checkVotes_51 : decode cX4_checkVotes 51 = .ok (.dup2, 1) := by decide +kernel
theorem dX4_checkVotes_52 : decode cX4_checkVotes 52 = .ok (.iaload, 1) := by decide +kernel
theorem dX4_checkVotes_53 : decode cX4_checkVotes 53 = .ok (.iconst 1, 1) := by decide +kernel
theorem dX4_checkVotes_54 : decode cX4_checkVotes 54 = .ok (.iadd, 1) := by decide +kernel
theorem dX4_checkVotes_55 : decode cX4_checkVotes 55 = .ok (.iastore, 1) := by decide +kernel
theorem dX4_checkVotes_56 : decode cX4_checkVotes 56 = .ok (.aload_n 0, 1) := by decide +kernel
theorem dX4_checkVotes_57 : decode cX4_checkVotes 57 = .ok (.iload_n 1, 1) := by decide +kernel
theorem dX4_checkVotes_58 : decode cX4_checkVotes 58 = .ok (.iconst 2, 1) := by decide +kernel
theorem dX4_checkVotes_59 : decode cX4_checkVotes 59 = .ok (.invokevirtual 124, 3) := by decide +kernel
theorem dX4_checkVotes_62 : decode cX4_checkVotes 62 = .ok (.return_, 1) := by decide +kernel
theorem dX4_lead_0 : decode cX4_lead 0 = .ok (.aload_n 0, 1) := by decide +kernel
theorem dX4_lead_1 : decode cX4_lead 1 = .ok (.getfield 20, 3) := by decide +kernel
theorem dX4_lead_4 : decode cX4_lead 4 = .ok (.iload_n 1, 1) := by decide +kernel
theorem dX4_lead_5 : decode cX4_lead 5 = .ok (.iaload, 1) := by decide +kernel
theorem dX4_lead_6 : decode cX4_lead 6 = .ok (.iconst 1, 1) := by decide +kernel
theorem dX4_lead_7 : decode cX4_lead 7 = .ok (.if_icmp .ne 9, 3) := by decide +kernel
theorem dX4_lead_10 : decode cX4_lead 10 = .ok (.aload_n 0, 1) := by decide +kernel
theorem dX4_lead_11 : decode cX4_lead 11 = .ok (.iload_n 1, 1) := by decide +kernel
theorem dX4_lead_12 : decode cX4_lead 12 = .ok (.iload_n 2, 1) := by decide +kernel
theorem dX4_lead_13 : decode cX4_lead 13 = .ok (.invokevirtual 116, 3) := by decide +kernel
theorem dX4_lead_16 : decode cX4_lead 16 = .ok (.aload_n 0, 1) := by decide +kernel
theorem dX4_lead_17 : decode cX4_lead 17 = .ok (.getfield 33, 3) := by decide +kernel
theorem dX4_lead_20 : decode cX4_lead 20 = .ok (.iload_n 1, 1) := by decide +kernel
theorem dX4_lead_21 : decode cX4_lead 21 = .ok (.iload_n 2, 1) := by decide +kernel
theorem dX4_lead_22 : decode cX4_lead 22 = .ok (.iconst 2, 1) := by decide +kernel
theorem dX4_lead_23 : decode cX4_lead 23 = .ok (.if_icmp .ne 7, 3) := by decide +kernel
theorem dX4_lead_26 : decode cX4_lead 26 = .ok (.iconst 2, 1) := by decide +kernel
theorem dX4_lead_27 : decode cX4_lead 27 = .ok (.goto 4, 3) := by decide +kernel
theorem dX4_lead_30 : decode cX4_lead 30 = .ok (.iconst 4, 1) := by decide +kernel
theorem dX4_lead_31 : decode cX4_lead 31 = .ok (.iastore, 1) := by decide +kernel
theorem dX4_lead_32 : decode cX4_lead 32 = .ok (.aload_n 0, 1) := by decide +kernel
theorem dX4_lead_33 : decode cX4_lead 33 = .ok (.iload_n 1, 1) := by decide +kernel
theorem dX4_lead_34 : decode cX4_lead 34 = .ok (.aload_n 0, 1) := by decide +kernel
theorem dX4_lead_35 : decode cX4_lead 35 = .ok (.getfield 20, 3) := by decide +kernel
theorem dX4_lead_38 : decode cX4_lead 38 = .ok (.iload_n 1, 1) := by decide +kernel
theorem dX4_lead_39 : decode cX4_lead 39 = .ok (.iaload, 1) := by decide +kernel
theorem dX4_lead_40 : decode cX4_lead 40 = .ok (.iload_n 2, 1) := by decide +kernel
theorem dX4_lead_41 : decode cX4_lead 41 = .ok (.if_icmp .ne 7, 3) := by decide +kernel
theorem dX4_lead_44 : decode cX4_lead 44 = .ok (.iconst 1, 1) := by decide +kernel
theorem dX4_lead_45 : decode cX4_lead 45 = .ok (.goto 4, 3) := by decide +kernel
theorem dX4_lead_48 : decode cX4_lead 48 = .ok (.iconst 0, 1) := by decide +kernel
theorem dX4_lead_49 : decode cX4_lead 49 = .ok (.invokevirtual 127, 3) := by decide +kernel
theorem dX4_lead_52 : decode cX4_lead 52 = .ok (.aload_n 0, 1) := by decide +kernel
theorem dX4_lead_53 : decode cX4_lead 53 = .ok (.iload_n 2, 1) := by decide +kernel
theorem dX4_lead_54 : decode cX4_lead 54 = .ok (.iconst 2, 1) := by decide +kernel
theorem dX4_lead_55 : decode cX4_lead 55 = .ok (.if_icmp .ne 8, 3) := by decide +kernel
theorem dX4_lead_58 : decode cX4_lead 58 = .ok (.bipush 6, 2) := by decide +kernel
theorem dX4_lead_60 : decode cX4_lead 60 = .ok (.goto 5, 3) := by decide +kernel
theorem dX4_lead_63 : decode cX4_lead 63 = .ok (.bipush 7, 2) := by decide +kernel
theorem dX4_lead_65 : decode cX4_lead 65 = .ok (.iload_n 1, 1) := by decide +kernel
theorem dX4_lead_66 : decode cX4_lead 66 = .ok (.aload_n 0, 1) := by decide +kernel
theorem dX4_lead_67 : decode cX4_lead 67 = .ok (.getfield 36, 3) := by decide +kernel
theorem dX4_lead_70 : decode cX4_lead 70 = .ok (.iload_n 1, 1) := by decide +kernel
theorem dX4_lead_71 : decode cX4_lead 71 = .ok (.iaload, 1) := by decide +kernel
theorem dX4_lead_72 : decode cX4_lead 72 = .ok (.invokevirtual 120, 3) := by decide +kernel
theorem dX4_lead_75 : decode cX4_lead 75 = .ok (.aload_n 0, 1) := by decide +kernel
theorem dX4_lead_76 : decode cX4_lead 76 = .ok (.iload_n 1, 1) := by decide +kernel
theorem dX4_lead_77 : decode cX4_lead 77 = .ok (.aload_n 0, 1) := by decide +kernel
theorem dX4_lead_78 : decode cX4_lead 78 = .ok (.getfield 13, 3) := by decide +kernel
theorem dX4_lead_81 : decode cX4_lead 81 = .ok (.invokevirtual 130, 3) := by decide +kernel
theorem dX4_lead_84 : decode cX4_lead 84 = .ok (.aload_n 0, 1) := by decide +kernel
theorem dX4_lead_85 : decode cX4_lead 85 = .ok (.iload_n 1, 1) := by decide +kernel
theorem dX4_lead_86 : decode cX4_lead 86 = .ok (.invokevirtual 133, 3) := by decide +kernel
theorem dX4_lead_89 : decode cX4_lead 89 = .ok (.return_, 1) := by decide +kernel
theorem dX4_checkQuorum_0 : decode cX4_checkQuorum 0 = .ok (.aload_n 0, 1) := by decide +kernel
theorem dX4_checkQuorum_1 : decode cX4_checkQuorum 1 = .ok (.iload_n 1, 1) := by decide +kernel
theorem dX4_checkQuorum_2 : decode cX4_checkQuorum 2 = .ok (.invokevirtual 137, 3) := by decide +kernel
theorem dX4_checkQuorum_5 : decode cX4_checkQuorum 5 = .ok (.istore_n 2, 1) := by decide +kernel
theorem dX4_checkQuorum_6 : decode cX4_checkQuorum 6 = .ok (.aload_n 0, 1) := by decide +kernel
theorem dX4_checkQuorum_7 : decode cX4_checkQuorum 7 = .ok (.getfield 33, 3) := by decide +kernel
theorem dX4_checkQuorum_10 : decode cX4_checkQuorum 10 = .ok (.iload_n 1, 1) := by decide +kernel
theorem dX4_checkQuorum_11 : decode cX4_checkQuorum 11 = .ok (.iaload, 1) := by decide +kernel
theorem dX4_checkQuorum_12 : decode cX4_checkQuorum 12 = .ok (.iconst 2, 1) := by decide +kernel
theorem dX4_checkQuorum_13 : decode cX4_checkQuorum 13 = .ok (.if_icmp .ne 20, 3) := by decide +kernel
theorem dX4_checkQuorum_16 : decode cX4_checkQuorum 16 = .ok (.iload_n 2, 1) := by decide +kernel
theorem dX4_checkQuorum_17 : decode cX4_checkQuorum 17 = .ok (.aload_n 0, 1) := by decide +kernel
theorem dX4_checkQuorum_18 : decode cX4_checkQuorum 18 = .ok (.getfield 87, 3) := by decide +kernel
theorem dX4_checkQuorum_21 : decode cX4_checkQuorum 21 = .ok (.if_icmp .lt 12, 3) := by decide +kernel
theorem dX4_checkQuorum_24 : decode cX4_checkQuorum 24 = .ok (.aload_n 0, 1) := by decide +kernel
theorem dX4_checkQuorum_25 : decode cX4_checkQuorum 25 = .ok (.iload_n 1, 1) := by decide +kernel
theorem dX4_checkQuorum_26 : decode cX4_checkQuorum 26 = .ok (.iconst 4, 1) := by decide +kernel
theorem dX4_checkQuorum_27 : decode cX4_checkQuorum 27 = .ok (.invokevirtual 141, 3) := by decide +kernel
theorem dX4_checkQuorum_30 : decode cX4_checkQuorum 30 = .ok (.goto 27, 3) := by decide +kernel
theorem dX4_checkQuorum_33 : decode cX4_checkQuorum 33 = .ok (.aload_n 0, 1) := by decide +kernel
theorem dX4_checkQuorum_34 : decode cX4_checkQuorum 34 = .ok (.getfield 33, 3) := by decide +kernel
theorem dX4_checkQuorum_37 : decode cX4_checkQuorum 37 = .ok (.iload_n 1, 1) := by decide +kernel
theorem dX4_checkQuorum_38 : decode cX4_checkQuorum 38 = .ok (.iaload, 1) := by decide +kernel
theorem dX4_checkQuorum_39 : decode cX4_checkQuorum 39 = .ok (.iconst 4, 1) := by decide +kernel
theorem dX4_checkQuorum_40 : decode cX4_checkQuorum 40 = .ok (.if_icmp .ne 17, 3) := by decide +kernel
theorem dX4_checkQuorum_43 : decode cX4_checkQuorum 43 = .ok (.iload_n 2, 1) := by decide +kernel
theorem dX4_checkQuorum_44 : decode cX4_checkQuorum 44 = .ok (.aload_n 0, 1) := by decide +kernel
theorem dX4_checkQuorum_45 : decode cX4_checkQuorum 45 = .ok (.getfield 90, 3) := by decide +kernel
theorem dX4_checkQuorum_48 : decode cX4_checkQuorum 48 = .ok (.if_icmp .lt 9, 3) := by decide +kernel
theorem dX4_checkQuorum_51 : decode cX4_checkQuorum 51 = .ok (.aload_n 0, 1) := by decide +kernel
theorem dX4_checkQuorum_52 : decode cX4_checkQuorum 52 = .ok (.iload_n 1, 1) := by decide +kernel
theorem dX4_checkQuorum_53 : decode cX4_checkQuorum 53 = .ok (.iconst 5, 1) := by decide +kernel
end
section
theorem dX4_checkQuorum_54 : decode cX4_checkQuorum 54 = .ok (.invokevirtual 141, 3) := by decide +kernel
theorem dX4_checkQuorum_57 : decode cX4_checkQuorum 57 = .ok (.return_, 1) := by decide +kernel
theorem dX4_attempt_0 : decode cX4_attempt 0 = .ok (.aload_n 0, 1) := by decide +kernel
theorem dX4_attempt_1 : decode cX4_attempt 1 = .ok (.getfield 36, 3) := by decide +kernel
theorem dX4_attempt_4 : decode cX4_attempt 4 = .ok (.iload_n 1, 1) := by decide +kernel
theorem dX4_attempt_5 : decode cX4_attempt 5 = .ok (.dup2, 1) := by decide +kernel
theorem dX4_attempt_6 : decode cX4_attempt 6 = .ok (.iaload, 1) := by decide +kernel
theorem dX4_attempt_7 : decode cX4_attempt 7 = .ok (.iconst 1, 1) := by decide +kernel
theorem dX4_attempt_8 : decode cX4_attempt 8 = .ok (.iadd, 1) := by decide +kernel
theorem dX4_attempt_9 : decode cX4_attempt 9 = .ok (.iastore, 1) := by decide +kernel
theorem dX4_attempt_10 : decode cX4_attempt 10 = .ok (.aload_n 0, 1) := by decide +kernel
theorem dX4_attempt_11 : decode cX4_attempt 11 = .ok (.getfield 33, 3) := by decide +kernel
theorem dX4_attempt_14 : decode cX4_attempt 14 = .ok (.iload_n 1, 1) := by decide +kernel
theorem dX4_attempt_15 : decode cX4_attempt 15 = .ok (.iconst 3, 1) := by decide +kernel
theorem dX4_attempt_16 : decode cX4_attempt 16 = .ok (.iastore, 1) := by decide +kernel
theorem dX4_attempt_17 : decode cX4_attempt 17 = .ok (.aload_n 0, 1) := by decide +kernel
theorem dX4_attempt_18 : decode cX4_attempt 18 = .ok (.iload_n 1, 1) := by decide +kernel
theorem dX4_attempt_19 : decode cX4_attempt 19 = .ok (.aload_n 0, 1) := by decide +kernel
theorem dX4_attempt_20 : decode cX4_attempt 20 = .ok (.getfield 20, 3) := by decide +kernel
theorem dX4_attempt_23 : decode cX4_attempt 23 = .ok (.iload_n 1, 1) := by decide +kernel
theorem dX4_attempt_24 : decode cX4_attempt 24 = .ok (.iaload, 1) := by decide +kernel
theorem dX4_attempt_25 : decode cX4_attempt 25 = .ok (.iconst 1, 1) := by decide +kernel
theorem dX4_attempt_26 : decode cX4_attempt 26 = .ok (.iadd, 1) := by decide +kernel
theorem dX4_attempt_27 : decode cX4_attempt 27 = .ok (.invokevirtual 127, 3) := by decide +kernel
theorem dX4_attempt_30 : decode cX4_attempt 30 = .ok (.aload_n 0, 1) := by decide +kernel
theorem dX4_attempt_31 : decode cX4_attempt 31 = .ok (.iconst 4, 1) := by decide +kernel
theorem dX4_attempt_32 : decode cX4_attempt 32 = .ok (.iload_n 1, 1) := by decide +kernel
theorem dX4_attempt_33 : decode cX4_attempt 33 = .ok (.aload_n 0, 1) := by decide +kernel
theorem dX4_attempt_34 : decode cX4_attempt 34 = .ok (.getfield 36, 3) := by decide +kernel
theorem dX4_attempt_37 : decode cX4_attempt 37 = .ok (.iload_n 1, 1) := by decide +kernel
theorem dX4_attempt_38 : decode cX4_attempt 38 = .ok (.iaload, 1) := by decide +kernel
theorem dX4_attempt_39 : decode cX4_attempt 39 = .ok (.invokevirtual 120, 3) := by decide +kernel
theorem dX4_attempt_42 : decode cX4_attempt 42 = .ok (.aload_n 0, 1) := by decide +kernel
theorem dX4_attempt_43 : decode cX4_attempt 43 = .ok (.iload_n 1, 1) := by decide +kernel
theorem dX4_attempt_44 : decode cX4_attempt 44 = .ok (.aload_n 0, 1) := by decide +kernel
theorem dX4_attempt_45 : decode cX4_attempt 45 = .ok (.getfield 13, 3) := by decide +kernel
theorem dX4_attempt_48 : decode cX4_attempt 48 = .ok (.invokevirtual 130, 3) := by decide +kernel
theorem dX4_attempt_51 : decode cX4_attempt 51 = .ok (.return_, 1) := by decide +kernel
theorem dX4_begin_0 : decode cX4_begin 0 = .ok (.aload_n 0, 1) := by decide +kernel
theorem dX4_begin_1 : decode cX4_begin 1 = .ok (.iconst 0, 1) := by decide +kernel
theorem dX4_begin_2 : decode cX4_begin 2 = .ok (.putfield 73, 3) := by decide +kernel
theorem dX4_begin_5 : decode cX4_begin 5 = .ok (.aload_n 0, 1) := by decide +kernel
theorem dX4_begin_6 : decode cX4_begin 6 = .ok (.iload_n 1, 1) := by decide +kernel
theorem dX4_begin_7 : decode cX4_begin 7 = .ok (.invokevirtual 93, 3) := by decide +kernel
theorem dX4_begin_10 : decode cX4_begin 10 = .ok (.ifCond .eq 19, 3) := by decide +kernel
theorem dX4_begin_13 : decode cX4_begin 13 = .ok (.aload_n 0, 1) := by decide +kernel
theorem dX4_begin_14 : decode cX4_begin 14 = .ok (.getfield 26, 3) := by decide +kernel
theorem dX4_begin_17 : decode cX4_begin 17 = .ok (.iload_n 1, 1) := by decide +kernel
theorem dX4_begin_18 : decode cX4_begin 18 = .ok (.baload, 1) := by decide +kernel
theorem dX4_begin_19 : decode cX4_begin 19 = .ok (.ifCond .ne 10, 3) := by decide +kernel
theorem dX4_begin_22 : decode cX4_begin 22 = .ok (.aload_n 0, 1) := by decide +kernel
theorem dX4_begin_23 : decode cX4_begin 23 = .ok (.getfield 79, 3) := by decide +kernel
theorem dX4_begin_26 : decode cX4_begin 26 = .ok (.ifCond .eq 5, 3) := by decide +kernel
theorem dX4_begin_29 : decode cX4_begin 29 = .ok (.iconst 0, 1) := by decide +kernel
theorem dX4_begin_30 : decode cX4_begin 30 = .ok (.ireturn, 1) := by decide +kernel
theorem dX4_begin_31 : decode cX4_begin 31 = .ok (.aload_n 0, 1) := by decide +kernel
theorem dX4_begin_32 : decode cX4_begin 32 = .ok (.iconst 1, 1) := by decide +kernel
theorem dX4_begin_33 : decode cX4_begin 33 = .ok (.putfield 79, 3) := by decide +kernel
theorem dX4_begin_36 : decode cX4_begin 36 = .ok (.iconst 0, 1) := by decide +kernel
theorem dX4_begin_37 : decode cX4_begin 37 = .ok (.istore_n 3, 1) := by decide +kernel
theorem dX4_begin_38 : decode cX4_begin 38 = .ok (.iload_n 3, 1) := by decide +kernel
theorem dX4_begin_39 : decode cX4_begin 39 = .ok (.aload_n 0, 1) := by decide +kernel
theorem dX4_begin_40 : decode cX4_begin 40 = .ok (.getfield 76, 3) := by decide +kernel
theorem dX4_begin_43 : decode cX4_begin 43 = .ok (.if_icmp .ge 29, 3) := by decide +kernel
theorem dX4_begin_46 : decode cX4_begin 46 = .ok (.aload_n 0, 1) := by decide +kernel
theorem dX4_begin_47 : decode cX4_begin 47 = .ok (.getfield 30, 3) := by decide +kernel
theorem dX4_begin_50 : decode cX4_begin 50 = .ok (.iload_n 3, 1) := by decide +kernel
theorem dX4_begin_51 : decode cX4_begin 51 = .ok (.iload_n 2, 1) := by decide +kernel
theorem dX4_begin_52 : decode cX4_begin 52 = .ok (.iload_n 3, 1) := by decide +kernel
theorem dX4_begin_53 : decode cX4_begin 53 = .ok (.ishr, 1) := by decide +kernel
theorem dX4_begin_54 : decode cX4_begin 54 = .ok (.iconst 1, 1) := by decide +kernel
theorem dX4_begin_55 : decode cX4_begin 55 = .ok (.iand, 1) := by decide +kernel
theorem dX4_begin_56 : decode cX4_begin 56 = .ok (.iconst 1, 1) := by decide +kernel
theorem dX4_begin_57 : decode cX4_begin 57 = .ok (.if_icmp .ne 7, 3) := by decide +kernel
theorem dX4_begin_60 : decode cX4_begin 60 = .ok (.iconst 1, 1) := by decide +kernel
theorem dX4_begin_61 : decode cX4_begin 61 = .ok (.goto 4, 3) := by decide +kernel
theorem dX4_begin_64 : decode cX4_begin 64 = .ok (.iconst 0, 1) := by decide +kernel
theorem dX4_begin_65 : decode cX4_begin 65 = .ok (.bastore, 1) := by decide +kernel
theorem dX4_begin_66 : decode cX4_begin 66 = .ok (.iinc 3 1, 3) := by decide +kernel
theorem dX4_begin_69 : decode cX4_begin 69 = .ok (.goto (-31), 3) := by decide +kernel
theorem dX4_begin_72 : decode cX4_begin 72 = .ok (.aload_n 0, 1) := by decide +kernel
theorem dX4_begin_73 : decode cX4_begin 73 = .ok (.getfield 30, 3) := by decide +kernel
theorem dX4_begin_76 : decode cX4_begin 76 = .ok (.iload_n 1, 1) := by decide +kernel
theorem dX4_begin_77 : decode cX4_begin 77 = .ok (.baload, 1) := by decide +kernel
theorem dX4_begin_78 : decode cX4_begin 78 = .ok (.ifCond .ne 11, 3) := by decide +kernel
theorem dX4_begin_81 : decode cX4_begin 81 = .ok (.aload_n 0, 1) := by decide +kernel
theorem dX4_begin_82 : decode cX4_begin 82 = .ok (.iload_n 1, 1) := by decide +kernel
theorem dX4_begin_83 : decode cX4_begin 83 = .ok (.iconst 5, 1) := by decide +kernel
theorem dX4_begin_84 : decode cX4_begin 84 = .ok (.invokevirtual 141, 3) := by decide +kernel
theorem dX4_begin_87 : decode cX4_begin 87 = .ok (.iconst 1, 1) := by decide +kernel
theorem dX4_begin_88 : decode cX4_begin 88 = .ok (.ireturn, 1) := by decide +kernel
theorem dX4_begin_89 : decode cX4_begin 89 = .ok (.aload_n 0, 1) := by decide +kernel
theorem dX4_begin_90 : decode cX4_begin 90 = .ok (.iload_n 1, 1) := by decide +kernel
theorem dX4_begin_91 : decode cX4_begin 91 = .ok (.iconst 1, 1) := by decide +kernel
theorem dX4_begin_92 : decode cX4_begin 92 = .ok (.invokevirtual 116, 3) := by decide +kernel
theorem dX4_begin_95 : decode cX4_begin 95 = .ok (.aload_n 0, 1) := by decide +kernel
theorem dX4_begin_96 : decode cX4_begin 96 = .ok (.getfield 33, 3) := by decide +kernel
theorem dX4_begin_99 : decode cX4_begin 99 = .ok (.iload_n 1, 1) := by decide +kernel
theorem dX4_begin_100 : decode cX4_begin 100 = .ok (.iconst 1, 1) := by decide +kernel
theorem dX4_begin_101 : decode cX4_begin 101 = .ok (.iastore, 1) := by decide +kernel
theorem dX4_begin_102 : decode cX4_begin 102 = .ok (.aload_n 0, 1) := by decide +kernel
theorem dX4_begin_103 : decode cX4_begin 103 = .ok (.iload_n 1, 1) := by decide +kernel
theorem dX4_begin_104 : decode cX4_begin 104 = .ok (.iconst 1, 1) := by decide +kernel
theorem dX4_begin_105 : decode cX4_begin 105 = .ok (.invokevirtual 127, 3) := by decide +kernel
theorem dX4_begin_108 : decode cX4_begin 108 = .ok (.aload_n 0, 1) := by decide +kernel
theorem dX4_begin_109 : decode cX4_begin 109 = .ok (.iconst 1, 1) := by decide +kernel
theorem dX4_begin_110 : decode cX4_begin 110 = .ok (.iload_n 1, 1) := by decide +kernel
theorem dX4_begin_111 : decode cX4_begin 111 = .ok (.iconst 0, 1) := by decide +kernel
theorem dX4_begin_112 : decode cX4_begin 112 = .ok (.invokevirtual 120, 3) := by decide +kernel
theorem dX4_begin_115 : decode cX4_begin 115 = .ok (.aload_n 0, 1) := by decide +kernel
theorem dX4_begin_116 : decode cX4_begin 116 = .ok (.iload_n 1, 1) := by decide +kernel
theorem dX4_begin_117 : decode cX4_begin 117 = .ok (.aload_n 0, 1) := by decide +kernel
theorem dX4_begin_118 : decode cX4_begin 118 = .ok (.getfield 13, 3) := by decide +kernel
theorem dX4_begin_121 : decode cX4_begin 121 = .ok (.invokevirtual 130, 3) := by decide +kernel
theorem dX4_begin_124 : decode cX4_begin 124 = .ok (.aload_n 0, 1) := by decide +kernel
theorem dX4_begin_125 : decode cX4_begin 125 = .ok (.iload_n 1, 1) := by decide +kernel
theorem dX4_begin_126 : decode cX4_begin 126 = .ok (.invokevirtual 144, 3) := by decide +kernel
theorem dX4_begin_129 : decode cX4_begin 129 = .ok (.iconst 1, 1) := by decide +kernel
theorem dX4_begin_130 : decode cX4_begin 130 = .ok (.ireturn, 1) := by decide +kernel
theorem dX4_crash_0 : decode cX4_crash 0 = .ok (.aload_n 0, 1) := by decide +kernel
theorem dX4_crash_1 : decode cX4_crash 1 = .ok (.iconst 0, 1) := by decide +kernel
theorem dX4_crash_2 : decode cX4_crash 2 = .ok (.putfield 73, 3) := by decide +kernel
theorem dX4_crash_5 : decode cX4_crash 5 = .ok (.aload_n 0, 1) := by decide +kernel
theorem dX4_crash_6 : decode cX4_crash 6 = .ok (.iload_n 1, 1) := by decide +kernel
theorem dX4_crash_7 : decode cX4_crash 7 = .ok (.invokevirtual 93, 3) := by decide +kernel
theorem dX4_crash_10 : decode cX4_crash 10 = .ok (.ifCond .eq 12, 3) := by decide +kernel
theorem dX4_crash_13 : decode cX4_crash 13 = .ok (.aload_n 0, 1) := by decide +kernel
theorem dX4_crash_14 : decode cX4_crash 14 = .ok (.getfield 26, 3) := by decide +kernel
theorem dX4_crash_17 : decode cX4_crash 17 = .ok (.iload_n 1, 1) := by decide +kernel
theorem dX4_crash_18 : decode cX4_crash 18 = .ok (.baload, 1) := by decide +kernel
theorem dX4_crash_19 : decode cX4_crash 19 = .ok (.ifCond .eq 5, 3) := by decide +kernel
theorem dX4_crash_22 : decode cX4_crash 22 = .ok (.iconst 0, 1) := by decide +kernel
theorem dX4_crash_23 : decode cX4_crash 23 = .ok (.ireturn, 1) := by decide +kernel
theorem dX4_crash_24 : decode cX4_crash 24 = .ok (.aload_n 0, 1) := by decide +kernel
theorem dX4_crash_25 : decode cX4_crash 25 = .ok (.getfield 26, 3) := by decide +kernel
theorem dX4_crash_28 : decode cX4_crash 28 = .ok (.iload_n 1, 1) := by decide +kernel
theorem dX4_crash_29 : decode cX4_crash 29 = .ok (.iconst 1, 1) := by decide +kernel
theorem dX4_crash_30 : decode cX4_crash 30 = .ok (.bastore, 1) := by decide +kernel
theorem dX4_crash_31 : decode cX4_crash 31 = .ok (.aload_n 0, 1) := by decide +kernel
theorem dX4_crash_32 : decode cX4_crash 32 = .ok (.getfield 33, 3) := by decide +kernel
theorem dX4_crash_35 : decode cX4_crash 35 = .ok (.iload_n 1, 1) := by decide +kernel
theorem dX4_crash_36 : decode cX4_crash 36 = .ok (.iconst 0, 1) := by decide +kernel
theorem dX4_crash_37 : decode cX4_crash 37 = .ok (.iastore, 1) := by decide +kernel
theorem dX4_crash_38 : decode cX4_crash 38 = .ok (.aload_n 0, 1) := by decide +kernel
theorem dX4_crash_39 : decode cX4_crash 39 = .ok (.getfield 42, 3) := by decide +kernel
theorem dX4_crash_42 : decode cX4_crash 42 = .ok (.iload_n 1, 1) := by decide +kernel
theorem dX4_crash_43 : decode cX4_crash 43 = .ok (.iconst (-1), 1) := by decide +kernel
theorem dX4_crash_44 : decode cX4_crash 44 = .ok (.iastore, 1) := by decide +kernel
theorem dX4_crash_45 : decode cX4_crash 45 = .ok (.iconst 1, 1) := by decide +kernel
theorem dX4_crash_46 : decode cX4_crash 46 = .ok (.ireturn, 1) := by decide +kernel
theorem dX4_recover_0 : decode cX4_recover 0 = .ok (.aload_n 0, 1) := by decide +kernel
theorem dX4_recover_1 : decode cX4_recover 1 = .ok (.iconst 0, 1) := by decide +kernel
theorem dX4_recover_2 : decode cX4_recover 2 = .ok (.putfield 73, 3) := by decide +kernel
theorem dX4_recover_5 : decode cX4_recover 5 = .ok (.aload_n 0, 1) := by decide +kernel
theorem dX4_recover_6 : decode cX4_recover 6 = .ok (.iload_n 1, 1) := by decide +kernel
theorem dX4_recover_7 : decode cX4_recover 7 = .ok (.invokevirtual 93, 3) := by decide +kernel
theorem dX4_recover_10 : decode cX4_recover 10 = .ok (.ifCond .eq 12, 3) := by decide +kernel
theorem dX4_recover_13 : decode cX4_recover 13 = .ok (.aload_n 0, 1) := by decide +kernel
theorem dX4_recover_14 : decode cX4_recover 14 = .ok (.getfield 26, 3) := by decide +kernel
theorem dX4_recover_17 : decode cX4_recover 17 = .ok (.iload_n 1, 1) := by decide +kernel
theorem dX4_recover_18 : decode cX4_recover 18 = .ok (.baload, 1) := by decide +kernel
theorem dX4_recover_19 : decode cX4_recover 19 = .ok (.ifCond .ne 5, 3) := by decide +kernel
theorem dX4_recover_22 : decode cX4_recover 22 = .ok (.iconst 0, 1) := by decide +kernel
theorem dX4_recover_23 : decode cX4_recover 23 = .ok (.ireturn, 1) := by decide +kernel
theorem dX4_recover_24 : decode cX4_recover 24 = .ok (.aload_n 0, 1) := by decide +kernel
theorem dX4_recover_25 : decode cX4_recover 25 = .ok (.getfield 26, 3) := by decide +kernel
theorem dX4_recover_28 : decode cX4_recover 28 = .ok (.iload_n 1, 1) := by decide +kernel
theorem dX4_recover_29 : decode cX4_recover 29 = .ok (.iconst 0, 1) := by decide +kernel
theorem dX4_recover_30 : decode cX4_recover 30 = .ok (.bastore, 1) := by decide +kernel
theorem dX4_recover_31 : decode cX4_recover 31 = .ok (.aload_n 0, 1) := by decide +kernel
theorem dX4_recover_32 : decode cX4_recover 32 = .ok (.getfield 79, 3) := by decide +kernel
theorem dX4_recover_35 : decode cX4_recover 35 = .ok (.ifCond .eq 21, 3) := by decide +kernel
theorem dX4_recover_38 : decode cX4_recover 38 = .ok (.aload_n 0, 1) := by decide +kernel
theorem dX4_recover_39 : decode cX4_recover 39 = .ok (.getfield 20, 3) := by decide +kernel
theorem dX4_recover_42 : decode cX4_recover 42 = .ok (.iload_n 1, 1) := by decide +kernel
theorem dX4_recover_43 : decode cX4_recover 43 = .ok (.iaload, 1) := by decide +kernel
theorem dX4_recover_44 : decode cX4_recover 44 = .ok (.ifCond .ne 12, 3) := by decide +kernel
theorem dX4_recover_47 : decode cX4_recover 47 = .ok (.aload_n 0, 1) := by decide +kernel
theorem dX4_recover_48 : decode cX4_recover 48 = .ok (.iload_n 1, 1) := by decide +kernel
theorem dX4_recover_49 : decode cX4_recover 49 = .ok (.iconst 5, 1) := by decide +kernel
theorem dX4_recover_50 : decode cX4_recover 50 = .ok (.invokevirtual 116, 3) := by decide +kernel
theorem dX4_recover_53 : decode cX4_recover 53 = .ok (.goto 23, 3) := by decide +kernel
theorem dX4_recover_56 : decode cX4_recover 56 = .ok (.aload_n 0, 1) := by decide +kernel
theorem dX4_recover_57 : decode cX4_recover 57 = .ok (.getfield 79, 3) := by decide +kernel
theorem dX4_recover_60 : decode cX4_recover 60 = .ok (.ifCond .eq 16, 3) := by decide +kernel
theorem dX4_recover_63 : decode cX4_recover 63 = .ok (.aload_n 0, 1) := by decide +kernel
theorem dX4_recover_64 : decode cX4_recover 64 = .ok (.iload_n 1, 1) := by decide +kernel
theorem dX4_recover_65 : decode cX4_recover 65 = .ok (.invokevirtual 147, 3) := by decide +kernel
theorem dX4_recover_68 : decode cX4_recover 68 = .ok (.ifCond .ne 8, 3) := by decide +kernel
theorem dX4_recover_71 : decode cX4_recover 71 = .ok (.aload_n 0, 1) := by decide +kernel
theorem dX4_recover_72 : decode cX4_recover 72 = .ok (.iload_n 1, 1) := by decide +kernel
theorem dX4_recover_73 : decode cX4_recover 73 = .ok (.invokevirtual 150, 3) := by decide +kernel
theorem dX4_recover_76 : decode cX4_recover 76 = .ok (.iconst 1, 1) := by decide +kernel
theorem dX4_recover_77 : decode cX4_recover 77 = .ok (.ireturn, 1) := by decide +kernel
theorem dX4_yieldTo_0 : decode cX4_yieldTo 0 = .ok (.aload_n 0, 1) := by decide +kernel
theorem dX4_yieldTo_1 : decode cX4_yieldTo 1 = .ok (.iload_n 1, 1) := by decide +kernel
theorem dX4_yieldTo_2 : decode cX4_yieldTo 2 = .ok (.invokevirtual 147, 3) := by decide +kernel
theorem dX4_yieldTo_5 : decode cX4_yieldTo 5 = .ok (.ifCond .ne 28, 3) := by decide +kernel
theorem dX4_yieldTo_8 : decode cX4_yieldTo 8 = .ok (.aload_n 0, 1) := by decide +kernel
theorem dX4_yieldTo_9 : decode cX4_yieldTo 9 = .ok (.getfield 33, 3) := by decide +kernel
theorem dX4_yieldTo_12 : decode cX4_yieldTo 12 = .ok (.iload_n 1, 1) := by decide +kernel
theorem dX4_yieldTo_13 : decode cX4_yieldTo 13 = .ok (.iaload, 1) := by decide +kernel
theorem dX4_yieldTo_14 : decode cX4_yieldTo 14 = .ok (.iconst 1, 1) := by decide +kernel
theorem dX4_yieldTo_15 : decode cX4_yieldTo 15 = .ok (.if_icmp .eq 18, 3) := by decide +kernel
theorem dX4_yieldTo_18 : decode cX4_yieldTo 18 = .ok (.aload_n 0, 1) := by decide +kernel
theorem dX4_yieldTo_19 : decode cX4_yieldTo 19 = .ok (.getfield 33, 3) := by decide +kernel
theorem dX4_yieldTo_22 : decode cX4_yieldTo 22 = .ok (.iload_n 1, 1) := by decide +kernel
theorem dX4_yieldTo_23 : decode cX4_yieldTo 23 = .ok (.iaload, 1) := by decide +kernel
theorem dX4_yieldTo_24 : decode cX4_yieldTo 24 = .ok (.iconst 2, 1) := by decide +kernel
theorem dX4_yieldTo_25 : decode cX4_yieldTo 25 = .ok (.if_icmp .lt 12, 3) := by decide +kernel
theorem dX4_yieldTo_28 : decode cX4_yieldTo 28 = .ok (.iload_n 2, 1) := by decide +kernel
theorem dX4_yieldTo_29 : decode cX4_yieldTo 29 = .ok (.iload_n 1, 1) := by decide +kernel
theorem dX4_yieldTo_30 : decode cX4_yieldTo 30 = .ok (.if_icmp .le 7, 3) := by decide +kernel
theorem dX4_yieldTo_33 : decode cX4_yieldTo 33 = .ok (.iconst 1, 1) := by decide +kernel
theorem dX4_yieldTo_34 : decode cX4_yieldTo 34 = .ok (.goto 4, 3) := by decide +kernel
theorem dX4_yieldTo_37 : decode cX4_yieldTo 37 = .ok (.iconst 0, 1) := by decide +kernel
theorem dX4_yieldTo_38 : decode cX4_yieldTo 38 = .ok (.istore_n 3, 1) := by decide +kernel
theorem dX4_yieldTo_39 : decode cX4_yieldTo 39 = .ok (.iload_n 3, 1) := by decide +kernel
theorem dX4_yieldTo_40 : decode cX4_yieldTo 40 = .ok (.ifCond .ne 21, 3) := by decide +kernel
theorem dX4_yieldTo_43 : decode cX4_yieldTo 43 = .ok (.aload_n 0, 1) := by decide +kernel
theorem dX4_yieldTo_44 : decode cX4_yieldTo 44 = .ok (.getfield 33, 3) := by decide +kernel
theorem dX4_yieldTo_47 : decode cX4_yieldTo 47 = .ok (.iload_n 1, 1) := by decide +kernel
theorem dX4_yieldTo_48 : decode cX4_yieldTo 48 = .ok (.iconst 0, 1) := by decide +kernel
theorem dX4_yieldTo_49 : decode cX4_yieldTo 49 = .ok (.iastore, 1) := by decide +kernel
theorem dX4_yieldTo_50 : decode cX4_yieldTo 50 = .ok (.aload_n 0, 1) := by decide +kernel
theorem dX4_yieldTo_51 : decode cX4_yieldTo 51 = .ok (.iload_n 1, 1) := by decide +kernel
theorem dX4_yieldTo_52 : decode cX4_yieldTo 52 = .ok (.aload_n 0, 1) := by decide +kernel
theorem dX4_yieldTo_53 : decode cX4_yieldTo 53 = .ok (.getfield 13, 3) := by decide +kernel
theorem dX4_yieldTo_56 : decode cX4_yieldTo 56 = .ok (.iload_n 1, 1) := by decide +kernel
theorem dX4_yieldTo_57 : decode cX4_yieldTo 57 = .ok (.iadd, 1) := by decide +kernel
theorem dX4_yieldTo_58 : decode cX4_yieldTo 58 = .ok (.invokevirtual 130, 3) := by decide +kernel
theorem dX4_yieldTo_61 : decode cX4_yieldTo 61 = .ok (.return_, 1) := by decide +kernel
theorem dX4_handle_0 : decode cX4_handle 0 = .ok (.iload_n 2, 1) := by decide +kernel
theorem dX4_handle_1 : decode cX4_handle 1 = .ok (.iconst 1, 1) := by decide +kernel
theorem dX4_handle_2 : decode cX4_handle 2 = .ok (.if_icmp .ne 76, 3) := by decide +kernel
theorem dX4_handle_5 : decode cX4_handle 5 = .ok (.aload_n 0, 1) := by decide +kernel
theorem dX4_handle_6 : decode cX4_handle 6 = .ok (.getfield 20, 3) := by decide +kernel
theorem dX4_handle_9 : decode cX4_handle 9 = .ok (.iload_n 1, 1) := by decide +kernel
theorem dX4_handle_10 : decode cX4_handle 10 = .ok (.iaload, 1) := by decide +kernel
theorem dX4_handle_11 : decode cX4_handle 11 = .ok (.ifCond .ne 357, 3) := by decide +kernel
theorem dX4_handle_14 : decode cX4_handle 14 = .ok (.aload_n 0, 1) := by decide +kernel
theorem dX4_handle_15 : decode cX4_handle 15 = .ok (.iload_n 1, 1) := by decide +kernel
theorem dX4_handle_16 : decode cX4_handle 16 = .ok (.aload_n 0, 1) := by decide +kernel
theorem dX4_handle_17 : decode cX4_handle 17 = .ok (.getfield 30, 3) := by decide +kernel
theorem dX4_handle_20 : decode cX4_handle 20 = .ok (.iload_n 1, 1) := by decide +kernel
theorem dX4_handle_21 : decode cX4_handle 21 = .ok (.baload, 1) := by decide +kernel
theorem dX4_handle_22 : decode cX4_handle 22 = .ok (.ifCond .eq 7, 3) := by decide +kernel
theorem dX4_handle_25 : decode cX4_handle 25 = .ok (.iconst 1, 1) := by decide +kernel
theorem dX4_handle_26 : decode cX4_handle 26 = .ok (.goto 4, 3) := by decide +kernel
theorem dX4_handle_29 : decode cX4_handle 29 = .ok (.iconst 5, 1) := by decide +kernel
theorem dX4_handle_30 : decode cX4_handle 30 = .ok (.invokevirtual 116, 3) := by decide +kernel
theorem dX4_handle_33 : decode cX4_handle 33 = .ok (.aload_n 0, 1) := by decide +kernel
theorem dX4_handle_34 : decode cX4_handle 34 = .ok (.aload_n 0, 1) := by decide +kernel
theorem dX4_handle_35 : decode cX4_handle 35 = .ok (.getfield 30, 3) := by decide +kernel
theorem dX4_handle_38 : decode cX4_handle 38 = .ok (.iload_n 1, 1) := by decide +kernel
theorem dX4_handle_39 : decode cX4_handle 39 = .ok (.baload, 1) := by decide +kernel
theorem dX4_handle_40 : decode cX4_handle 40 = .ok (.ifCond .eq 7, 3) := by decide +kernel
theorem dX4_handle_43 : decode cX4_handle 43 = .ok (.iconst 2, 1) := by decide +kernel
theorem dX4_handle_44 : decode cX4_handle 44 = .ok (.goto 4, 3) := by decide +kernel
theorem dX4_handle_47 : decode cX4_handle 47 = .ok (.iconst 3, 1) := by decide +kernel
theorem dX4_handle_48 : decode cX4_handle 48 = .ok (.iload_n 1, 1) := by decide +kernel
theorem dX4_handle_49 : decode cX4_handle 49 = .ok (.iload_n 3, 1) := by decide +kernel
theorem dX4_handle_50 : decode cX4_handle 50 = .ok (.iconst 0, 1) := by decide +kernel
theorem dX4_handle_51 : decode cX4_handle 51 = .ok (.iconst 0, 1) := by decide +kernel
theorem dX4_handle_52 : decode cX4_handle 52 = .ok (.invokevirtual 112, 3) := by decide +kernel
theorem dX4_handle_55 : decode cX4_handle 55 = .ok (.aload_n 0, 1) := by decide +kernel
theorem dX4_handle_56 : decode cX4_handle 56 = .ok (.getfield 30, 3) := by decide +kernel
theorem dX4_handle_59 : decode cX4_handle 59 = .ok (.iload_n 1, 1) := by decide +kernel
theorem dX4_handle_60 : decode cX4_handle 60 = .ok (.baload, 1) := by decide +kernel
theorem dX4_handle_61 : decode cX4_handle 61 = .ok (.ifCond .eq 307, 3) := by decide +kernel
theorem dX4_handle_64 : decode cX4_handle 64 = .ok (.aload_n 0, 1) := by decide +kernel
theorem dX4_handle_65 : decode cX4_handle 65 = .ok (.iload_n 1, 1) := by decide +kernel
theorem dX4_handle_66 : decode cX4_handle 66 = .ok (.aload_n 0, 1) := by decide +kernel
theorem dX4_handle_67 : decode cX4_handle 67 = .ok (.getfield 13, 3) := by decide +kernel
theorem dX4_handle_70 : decode cX4_handle 70 = .ok (.iload_n 1, 1) := by decide +kernel
theorem dX4_handle_71 : decode cX4_handle 71 = .ok (.iadd, 1) := by decide +kernel
theorem dX4_handle_72 : decode cX4_handle 72 = .ok (.invokevirtual 130, 3) := by decide +kernel
theorem dX4_handle_75 : decode cX4_handle 75 = .ok (.goto 293, 3) := by decide +kernel
theorem dX4_handle_78 : decode cX4_handle 78 = .ok (.iload_n 2, 1) := by decide +kernel
theorem dX4_handle_79 : decode cX4_handle 79 = .ok (.iconst 2, 1) := by decide +kernel
theorem dX4_handle_80 : decode cX4_handle 80 = .ok (.if_icmp .ne 33, 3) := by decide +kernel
theorem dX4_handle_83 : decode cX4_handle 83 = .ok (.aload_n 0, 1) := by decide +kernel
theorem dX4_handle_84 : decode cX4_handle 84 = .ok (.getfield 33, 3) := by decide +kernel
theorem dX4_handle_87 : decode cX4_handle 87 = .ok (.iload_n 1, 1) := by decide +kernel
theorem dX4_handle_88 : decode cX4_handle 88 = .ok (.iaload, 1) := by decide +kernel
theorem dX4_handle_89 : decode cX4_handle 89 = .ok (.iconst 1, 1) := by decide +kernel
theorem dX4_handle_90 : decode cX4_handle 90 = .ok (.if_icmp .ne 23, 3) := by decide +kernel
theorem dX4_handle_93 : decode cX4_handle 93 = .ok (.aload_n 0, 1) := by decide +kernel
theorem dX4_handle_94 : decode cX4_handle 94 = .ok (.getfield 39, 3) := by decide +kernel
theorem dX4_handle_97 : decode cX4_handle 97 = .ok (.bipush 8, 2) := by decide +kernel
theorem dX4_handle_99 : decode cX4_handle 99 = .ok (.iload_n 1, 1) := by decide +kernel
theorem dX4_handle_100 : decode cX4_handle 100 = .ok (.imul, 1) := by decide +kernel
theorem dX4_handle_101 : decode cX4_handle 101 = .ok (.iload_n 3, 1) := by decide +kernel
theorem dX4_handle_102 : decode cX4_handle 102 = .ok (.iadd, 1) := by decide +kernel
theorem dX4_handle_103 : decode cX4_handle 103 = .ok (.iconst 1, 1) := by decide +kernel
theorem dX4_handle_104 : decode cX4_handle 104 = .ok (.iastore, 1) := by decide +kernel
theorem dX4_handle_105 : decode cX4_handle 105 = .ok (.aload_n 0, 1) := by decide +kernel
theorem dX4_handle_106 : decode cX4_handle 106 = .ok (.iload_n 1, 1) := by decide +kernel
theorem dX4_handle_107 : decode cX4_handle 107 = .ok (.invokevirtual 144, 3) := by decide +kernel
theorem dX4_handle_110 : decode cX4_handle 110 = .ok (.goto 258, 3) := by decide +kernel
theorem dX4_handle_113 : decode cX4_handle 113 = .ok (.iload_n 2, 1) := by decide +kernel
theorem dX4_handle_114 : decode cX4_handle 114 = .ok (.iconst 3, 1) := by decide +kernel
theorem dX4_handle_115 : decode cX4_handle 115 = .ok (.if_icmp .ne 22, 3) := by decide +kernel
theorem dX4_handle_118 : decode cX4_handle 118 = .ok (.aload_n 0, 1) := by decide +kernel
theorem dX4_handle_119 : decode cX4_handle 119 = .ok (.getfield 33, 3) := by decide +kernel
theorem dX4_handle_122 : decode cX4_handle 122 = .ok (.iload_n 1, 1) := by decide +kernel
theorem dX4_handle_123 : decode cX4_handle 123 = .ok (.iaload, 1) := by decide +kernel
theorem dX4_handle_124 : decode cX4_handle 124 = .ok (.iconst 1, 1) := by decide +kernel
theorem dX4_handle_125 : decode cX4_handle 125 = .ok (.if_icmp .ne 12, 3) := by decide +kernel
theorem dX4_handle_128 : decode cX4_handle 128 = .ok (.aload_n 0, 1) := by decide +kernel
theorem dX4_handle_129 : decode cX4_handle 129 = .ok (.iload_n 1, 1) := by decide +kernel
theorem dX4_handle_130 : decode cX4_handle 130 = .ok (.iconst 5, 1) := by decide +kernel
theorem dX4_handle_131 : decode cX4_handle 131 = .ok (.invokevirtual 141, 3) := by decide +kernel
theorem dX4_handle_134 : decode cX4_handle 134 = .ok (.goto 234, 3) := by decide +kernel
theorem dX4_handle_137 : decode cX4_handle 137 = .ok (.iload_n 2, 1) := by decide +kernel
theorem dX4_handle_138 : decode cX4_handle 138 = .ok (.iconst 4, 1) := by decide +kernel
theorem dX4_handle_139 : decode cX4_handle 139 = .ok (.if_icmp .ne 42, 3) := by decide +kernel
theorem dX4_handle_142 : decode cX4_handle 142 = .ok (.aload_n 0, 1) := by decide +kernel
theorem dX4_handle_143 : decode cX4_handle 143 = .ok (.getfield 20, 3) := by decide +kernel
theorem dX4_handle_146 : decode cX4_handle 146 = .ok (.iload_n 1, 1) := by decide +kernel
theorem dX4_handle_147 : decode cX4_handle 147 = .ok (.iaload, 1) := by decide +kernel
theorem dX4_handle_148 : decode cX4_handle 148 = .ok (.ifCond .ne 9, 3) := by decide +kernel
theorem dX4_handle_151 : decode cX4_handle 151 = .ok (.aload_n 0, 1) := by decide +kernel
theorem dX4_handle_152 : decode cX4_handle 152 = .ok (.iload_n 1, 1) := by decide +kernel
theorem dX4_handle_153 : decode cX4_handle 153 = .ok (.iconst 5, 1) := by decide +kernel
theorem dX4_handle_154 : decode cX4_handle 154 = .ok (.invokevirtual 116, 3) := by decide +kernel
theorem dX4_handle_157 : decode cX4_handle 157 = .ok (.aload_n 0, 1) := by decide +kernel
theorem dX4_handle_158 : decode cX4_handle 158 = .ok (.iload_n 1, 1) := by decide +kernel
theorem dX4_handle_159 : decode cX4_handle 159 = .ok (.iload_n 3, 1) := by decide +kernel
theorem dX4_handle_160 : decode cX4_handle 160 = .ok (.invokevirtual 153, 3) := by decide +kernel
theorem dX4_handle_163 : decode cX4_handle 163 = .ok (.aload_n 0, 1) := by decide +kernel
theorem dX4_handle_164 : decode cX4_handle 164 = .ok (.iconst 5, 1) := by decide +kernel
theorem dX4_handle_165 : decode cX4_handle 165 = .ok (.iload_n 1, 1) := by decide +kernel
theorem dX4_handle_166 : decode cX4_handle 166 = .ok (.iload_n 3, 1) := by decide +kernel
theorem dX4_handle_167 : decode cX4_handle 167 = .ok (.iload 4, 2) := by decide +kernel
theorem dX4_handle_169 : decode cX4_handle 169 = .ok (.aload_n 0, 1) := by decide +kernel
theorem dX4_handle_170 : decode cX4_handle 170 = .ok (.getfield 20, 3) := by decide +kernel
theorem dX4_handle_173 : decode cX4_handle 173 = .ok (.iload_n 1, 1) := by decide +kernel
theorem dX4_handle_174 : decode cX4_handle 174 = .ok (.iaload, 1) := by decide +kernel
theorem dX4_handle_175 : decode cX4_handle 175 = .ok (.invokevirtual 112, 3) := by decide +kernel
theorem dX4_handle_178 : decode cX4_handle 178 = .ok (.goto 190, 3) := by decide +kernel
theorem dX4_handle_181 : decode cX4_handle 181 = .ok (.iload_n 2, 1) := by decide +kernel
theorem dX4_handle_182 : decode cX4_handle 182 = .ok (.iconst 5, 1) := by decide +kernel
theorem dX4_handle_183 : decode cX4_handle 183 = .ok (.if_icmp .ne 58, 3) := by decide +kernel
theorem dX4_handle_186 : decode cX4_handle 186 = .ok (.aload_n 0, 1) := by decide +kernel
theorem dX4_handle_187 : decode cX4_handle 187 = .ok (.getfield 33, 3) := by decide +kernel
theorem dX4_handle_190 : decode cX4_handle 190 = .ok (.iload_n 1, 1) := by decide +kernel
theorem dX4_handle_191 : decode cX4_handle 191 = .ok (.iaload, 1) := by decide +kernel
theorem dX4_handle_192 : decode cX4_handle 192 = .ok (.iconst 3, 1) := by decide +kernel
theorem dX4_handle_193 : decode cX4_handle 193 = .ok (.if_icmp .ne 48, 3) := by decide +kernel
theorem dX4_handle_196 : decode cX4_handle 196 = .ok (.iload 4, 2) := by decide +kernel
theorem dX4_handle_198 : decode cX4_handle 198 = .ok (.aload_n 0, 1) := by decide +kernel
theorem dX4_handle_199 : decode cX4_handle 199 = .ok (.getfield 36, 3) := by decide +kernel
theorem dX4_handle_202 : decode cX4_handle 202 = .ok (.iload_n 1, 1) := by decide +kernel
theorem dX4_handle_203 : decode cX4_handle 203 = .ok (.iaload, 1) := by decide +kernel
theorem dX4_handle_204 : decode cX4_handle 204 = .ok (.if_icmp .ne 37, 3) := by decide +kernel
theorem dX4_handle_207 : decode cX4_handle 207 = .ok (.iload 5, 2) := by decide +kernel
theorem dX4_handle_209 : decode cX4_handle 209 = .ok (.iconst 4, 1) := by decide +kernel
theorem dX4_handle_210 : decode cX4_handle 210 = .ok (.if_icmp .lt 13, 3) := by decide +kernel
theorem dX4_handle_213 : decode cX4_handle 213 = .ok (.aload_n 0, 1) := by decide +kernel
theorem dX4_handle_214 : decode cX4_handle 214 = .ok (.iload_n 1, 1) := by decide +kernel
theorem dX4_handle_215 : decode cX4_handle 215 = .ok (.iload 5, 2) := by decide +kernel
theorem dX4_handle_217 : decode cX4_handle 217 = .ok (.invokevirtual 141, 3) := by decide +kernel
theorem dX4_handle_220 : decode cX4_handle 220 = .ok (.goto 148, 3) := by decide +kernel
theorem dX4_handle_223 : decode cX4_handle 223 = .ok (.aload_n 0, 1) := by decide +kernel
theorem dX4_handle_224 : decode cX4_handle 224 = .ok (.getfield 39, 3) := by decide +kernel
theorem dX4_handle_227 : decode cX4_handle 227 = .ok (.bipush 8, 2) := by decide +kernel
theorem dX4_handle_229 : decode cX4_handle 229 = .ok (.iload_n 1, 1) := by decide +kernel
theorem dX4_handle_230 : decode cX4_handle 230 = .ok (.imul, 1) := by decide +kernel
theorem dX4_handle_231 : decode cX4_handle 231 = .ok (.iload_n 3, 1) := by decide +kernel
theorem dX4_handle_232 : decode cX4_handle 232 = .ok (.iadd, 1) := by decide +kernel
theorem dX4_handle_233 : decode cX4_handle 233 = .ok (.iload 5, 2) := by decide +kernel
theorem dX4_handle_235 : decode cX4_handle 235 = .ok (.iconst 1, 1) := by decide +kernel
theorem dX4_handle_236 : decode cX4_handle 236 = .ok (.iadd, 1) := by decide +kernel
theorem dX4_handle_237 : decode cX4_handle 237 = .ok (.iastore, 1) := by decide +kernel
theorem dX4_handle_238 : decode cX4_handle 238 = .ok (.goto 130, 3) := by decide +kernel
theorem dX4_handle_241 : decode cX4_handle 241 = .ok (.iload_n 2, 1) := by decide +kernel
theorem dX4_handle_242 : decode cX4_handle 242 = .ok (.bipush 6, 2) := by decide +kernel
theorem dX4_handle_244 : decode cX4_handle 244 = .ok (.if_icmp .eq 9, 3) := by decide +kernel
theorem dX4_handle_247 : decode cX4_handle 247 = .ok (.iload_n 2, 1) := by decide +kernel
theorem dX4_handle_248 : decode cX4_handle 248 = .ok (.bipush 7, 2) := by decide +kernel
theorem dX4_handle_250 : decode cX4_handle 250 = .ok (.if_icmp .ne 25, 3) := by decide +kernel
theorem dX4_handle_253 : decode cX4_handle 253 = .ok (.aload_n 0, 1) := by decide +kernel
theorem dX4_handle_254 : decode cX4_handle 254 = .ok (.iload_n 1, 1) := by decide +kernel
theorem dX4_handle_255 : decode cX4_handle 255 = .ok (.iload_n 3, 1) := by decide +kernel
theorem dX4_handle_256 : decode cX4_handle 256 = .ok (.iload 4, 2) := by decide +kernel
theorem dX4_handle_258 : decode cX4_handle 258 = .ok (.iload_n 2, 1) := by decide +kernel
theorem dX4_handle_259 : decode cX4_handle 259 = .ok (.bipush 6, 2) := by decide +kernel
theorem dX4_handle_261 : decode cX4_handle 261 = .ok (.if_icmp .ne 7, 3) := by decide +kernel
theorem dX4_handle_264 : decode cX4_handle 264 = .ok (.iconst 2, 1) := by decide +kernel
theorem dX4_handle_265 : decode cX4_handle 265 = .ok (.goto 4, 3) := by decide +kernel
theorem dX4_handle_268 : decode cX4_handle 268 = .ok (.iconst 3, 1) := by decide +kernel
theorem dX4_handle_269 : decode cX4_handle 269 = .ok (.invokevirtual 156, 3) := by decide +kernel
theorem dX4_handle_272 : decode cX4_handle 272 = .ok (.goto 96, 3) := by decide +kernel
theorem dX4_handle_275 : decode cX4_handle 275 = .ok (.iload_n 2, 1) := by decide +kernel
theorem dX4_handle_276 : decode cX4_handle 276 = .ok (.bipush 8, 2) := by decide +kernel
theorem dX4_handle_278 : decode cX4_handle 278 = .ok (.if_icmp .ne 54, 3) := by decide +kernel
theorem dX4_handle_281 : decode cX4_handle 281 = .ok (.aload_n 0, 1) := by decide +kernel
theorem dX4_handle_282 : decode cX4_handle 282 = .ok (.getfield 33, 3) := by decide +kernel
theorem dX4_handle_285 : decode cX4_handle 285 = .ok (.iload_n 1, 1) := by decide +kernel
theorem dX4_handle_286 : decode cX4_handle 286 = .ok (.iaload, 1) := by decide +kernel
theorem dX4_handle_287 : decode cX4_handle 287 = .ok (.iconst 2, 1) := by decide +kernel
theorem dX4_handle_288 : decode cX4_handle 288 = .ok (.if_icmp .eq 13, 3) := by decide +kernel
theorem dX4_handle_291 : decode cX4_handle 291 = .ok (.aload_n 0, 1) := by decide +kernel
theorem dX4_handle_292 : decode cX4_handle 292 = .ok (.getfield 33, 3) := by decide +kernel
theorem dX4_handle_295 : decode cX4_handle 295 = .ok (.iload_n 1, 1) := by decide +kernel
theorem dX4_handle_296 : decode cX4_handle 296 = .ok (.iaload, 1) := by decide +kernel
theorem dX4_handle_297 : decode cX4_handle 297 = .ok (.iconst 4, 1) := by decide +kernel
theorem dX4_handle_298 : decode cX4_handle 298 = .ok (.if_icmp .ne 34, 3) := by decide +kernel
theorem dX4_handle_301 : decode cX4_handle 301 = .ok (.iload 4, 2) := by decide +kernel
theorem dX4_handle_303 : decode cX4_handle 303 = .ok (.aload_n 0, 1) := by decide +kernel
theorem dX4_handle_304 : decode cX4_handle 304 = .ok (.getfield 36, 3) := by decide +kernel
theorem dX4_handle_307 : decode cX4_handle 307 = .ok (.iload_n 1, 1) := by decide +kernel
theorem dX4_handle_308 : decode cX4_handle 308 = .ok (.iaload, 1) := by decide +kernel
theorem dX4_handle_309 : decode cX4_handle 309 = .ok (.if_icmp .ne 23, 3) := by decide +kernel
theorem dX4_handle_312 : decode cX4_handle 312 = .ok (.aload_n 0, 1) := by decide +kernel
theorem dX4_handle_313 : decode cX4_handle 313 = .ok (.getfield 39, 3) := by decide +kernel
theorem dX4_handle_316 : decode cX4_handle 316 = .ok (.bipush 8, 2) := by decide +kernel
theorem dX4_handle_318 : decode cX4_handle 318 = .ok (.iload_n 1, 1) := by decide +kernel
theorem dX4_handle_319 : decode cX4_handle 319 = .ok (.imul, 1) := by decide +kernel
theorem dX4_handle_320 : decode cX4_handle 320 = .ok (.iload_n 3, 1) := by decide +kernel
theorem dX4_handle_321 : decode cX4_handle 321 = .ok (.iadd, 1) := by decide +kernel
theorem dX4_handle_322 : decode cX4_handle 322 = .ok (.iconst 1, 1) := by decide +kernel
theorem dX4_handle_323 : decode cX4_handle 323 = .ok (.iastore, 1) := by decide +kernel
theorem dX4_handle_324 : decode cX4_handle 324 = .ok (.aload_n 0, 1) := by decide +kernel
theorem dX4_handle_325 : decode cX4_handle 325 = .ok (.iload_n 1, 1) := by decide +kernel
theorem dX4_handle_326 : decode cX4_handle 326 = .ok (.invokevirtual 133, 3) := by decide +kernel
theorem dX4_handle_329 : decode cX4_handle 329 = .ok (.goto 39, 3) := by decide +kernel
theorem dX4_handle_332 : decode cX4_handle 332 = .ok (.iload_n 2, 1) := by decide +kernel
theorem dX4_handle_333 : decode cX4_handle 333 = .ok (.bipush 9, 2) := by decide +kernel
theorem dX4_handle_335 : decode cX4_handle 335 = .ok (.if_icmp .eq 9, 3) := by decide +kernel
theorem dX4_handle_338 : decode cX4_handle 338 = .ok (.iload_n 2, 1) := by decide +kernel
theorem dX4_handle_339 : decode cX4_handle 339 = .ok (.bipush 10, 2) := by decide +kernel
theorem dX4_handle_341 : decode cX4_handle 341 = .ok (.if_icmp .ne 27, 3) := by decide +kernel
theorem dX4_handle_344 : decode cX4_handle 344 = .ok (.aload_n 0, 1) := by decide +kernel
theorem dX4_handle_345 : decode cX4_handle 345 = .ok (.iload_n 1, 1) := by decide +kernel
theorem dX4_handle_346 : decode cX4_handle 346 = .ok (.invokevirtual 147, 3) := by decide +kernel
theorem dX4_handle_349 : decode cX4_handle 349 = .ok (.ifCond .ne 19, 3) := by decide +kernel
theorem dX4_handle_352 : decode cX4_handle 352 = .ok (.aload_n 0, 1) := by decide +kernel
theorem dX4_handle_353 : decode cX4_handle 353 = .ok (.iload_n 1, 1) := by decide +kernel
theorem dX4_handle_354 : decode cX4_handle 354 = .ok (.iload_n 2, 1) := by decide +kernel
theorem dX4_handle_355 : decode cX4_handle 355 = .ok (.bipush 9, 2) := by decide +kernel
theorem dX4_handle_357 : decode cX4_handle 357 = .ok (.if_icmp .ne 7, 3) := by decide +kernel
theorem dX4_handle_360 : decode cX4_handle 360 = .ok (.iconst 4, 1) := by decide +kernel
theorem dX4_handle_361 : decode cX4_handle 361 = .ok (.goto 4, 3) := by decide +kernel
theorem dX4_handle_364 : decode cX4_handle 364 = .ok (.iconst 5, 1) := by decide +kernel
theorem dX4_handle_365 : decode cX4_handle 365 = .ok (.invokevirtual 116, 3) := by decide +kernel
theorem dX4_handle_368 : decode cX4_handle 368 = .ok (.return_, 1) := by decide +kernel
theorem dX4_prepare_0 : decode cX4_prepare 0 = .ok (.aload_n 0, 1) := by decide +kernel
theorem dX4_prepare_1 : decode cX4_prepare 1 = .ok (.iload_n 1, 1) := by decide +kernel
theorem dX4_prepare_2 : decode cX4_prepare 2 = .ok (.invokevirtual 147, 3) := by decide +kernel
theorem dX4_prepare_5 : decode cX4_prepare 5 = .ok (.ifCond .eq 29, 3) := by decide +kernel
theorem dX4_prepare_8 : decode cX4_prepare 8 = .ok (.aload_n 0, 1) := by decide +kernel
theorem dX4_prepare_9 : decode cX4_prepare 9 = .ok (.aload_n 0, 1) := by decide +kernel
theorem dX4_prepare_10 : decode cX4_prepare 10 = .ok (.getfield 20, 3) := by decide +kernel
theorem dX4_prepare_13 : decode cX4_prepare 13 = .ok (.iload_n 1, 1) := by decide +kernel
theorem dX4_prepare_14 : decode cX4_prepare 14 = .ok (.iaload, 1) := by decide +kernel
theorem dX4_prepare_15 : decode cX4_prepare 15 = .ok (.iconst 4, 1) := by decide +kernel
theorem dX4_prepare_16 : decode cX4_prepare 16 = .ok (.if_icmp .ne 8, 3) := by decide +kernel
theorem dX4_prepare_19 : decode cX4_prepare 19 = .ok (.bipush 9, 2) := by decide +kernel
theorem dX4_prepare_21 : decode cX4_prepare 21 = .ok (.goto 5, 3) := by decide +kernel
theorem dX4_prepare_24 : decode cX4_prepare 24 = .ok (.bipush 10, 2) := by decide +kernel
theorem dX4_prepare_26 : decode cX4_prepare 26 = .ok (.iload_n 1, 1) := by decide +kernel
theorem dX4_prepare_27 : decode cX4_prepare 27 = .ok (.iload_n 2, 1) := by decide +kernel
theorem dX4_prepare_28 : decode cX4_prepare 28 = .ok (.iconst 0, 1) := by decide +kernel
theorem dX4_prepare_29 : decode cX4_prepare 29 = .ok (.iconst 0, 1) := by decide +kernel
theorem dX4_prepare_30 : decode cX4_prepare 30 = .ok (.invokevirtual 112, 3) := by decide +kernel
theorem dX4_prepare_33 : decode cX4_prepare 33 = .ok (.return_, 1) := by decide +kernel
theorem dX4_prepare_34 : decode cX4_prepare 34 = .ok (.aload_n 0, 1) := by decide +kernel
theorem dX4_prepare_35 : decode cX4_prepare 35 = .ok (.iload_n 1, 1) := by decide +kernel
theorem dX4_prepare_36 : decode cX4_prepare 36 = .ok (.iload_n 2, 1) := by decide +kernel
theorem dX4_prepare_37 : decode cX4_prepare 37 = .ok (.invokevirtual 153, 3) := by decide +kernel
theorem dX4_prepare_40 : decode cX4_prepare 40 = .ok (.aload_n 0, 1) := by decide +kernel
theorem dX4_prepare_41 : decode cX4_prepare 41 = .ok (.getfield 20, 3) := by decide +kernel
theorem dX4_prepare_44 : decode cX4_prepare 44 = .ok (.iload_n 1, 1) := by decide +kernel
theorem dX4_prepare_45 : decode cX4_prepare 45 = .ok (.iaload, 1) := by decide +kernel
theorem dX4_prepare_46 : decode cX4_prepare 46 = .ok (.iconst 1, 1) := by decide +kernel
theorem dX4_prepare_47 : decode cX4_prepare 47 = .ok (.if_icmp .ne 10, 3) := by decide +kernel
theorem dX4_prepare_50 : decode cX4_prepare 50 = .ok (.aload_n 0, 1) := by decide +kernel
theorem dX4_prepare_51 : decode cX4_prepare 51 = .ok (.iload_n 1, 1) := by decide +kernel
theorem dX4_prepare_52 : decode cX4_prepare 52 = .ok (.iload 4, 2) := by decide +kernel
theorem dX4_prepare_54 : decode cX4_prepare 54 = .ok (.invokevirtual 116, 3) := by decide +kernel
theorem dX4_prepare_57 : decode cX4_prepare 57 = .ok (.aload_n 0, 1) := by decide +kernel
theorem dX4_prepare_58 : decode cX4_prepare 58 = .ok (.getfield 20, 3) := by decide +kernel
theorem dX4_prepare_61 : decode cX4_prepare 61 = .ok (.iload_n 1, 1) := by decide +kernel
theorem dX4_prepare_62 : decode cX4_prepare 62 = .ok (.iaload, 1) := by decide +kernel
theorem dX4_prepare_63 : decode cX4_prepare 63 = .ok (.iload 4, 2) := by decide +kernel
theorem dX4_prepare_65 : decode cX4_prepare 65 = .ok (.if_icmp .ne 13, 3) := by decide +kernel
theorem dX4_prepare_68 : decode cX4_prepare 68 = .ok (.aload_n 0, 1) := by decide +kernel
theorem dX4_prepare_69 : decode cX4_prepare 69 = .ok (.bipush 8, 2) := by decide +kernel
theorem dX4_prepare_71 : decode cX4_prepare 71 = .ok (.iload_n 1, 1) := by decide +kernel
theorem dX4_prepare_72 : decode cX4_prepare 72 = .ok (.iload_n 2, 1) := by decide +kernel
theorem dX4_prepare_73 : decode cX4_prepare 73 = .ok (.iload_n 3, 1) := by decide +kernel
theorem dX4_prepare_74 : decode cX4_prepare 74 = .ok (.iconst 0, 1) := by decide +kernel
theorem dX4_prepare_75 : decode cX4_prepare 75 = .ok (.invokevirtual 112, 3) := by decide +kernel
theorem dX4_prepare_78 : decode cX4_prepare 78 = .ok (.return_, 1) := by decide +kernel
theorem dX4_weightOf_0 : decode cX4_weightOf 0 = .ok (.iconst 0, 1) := by decide +kernel
theorem dX4_weightOf_1 : decode cX4_weightOf 1 = .ok (.istore_n 3, 1) := by decide +kernel
theorem dX4_weightOf_2 : decode cX4_weightOf 2 = .ok (.iconst 0, 1) := by decide +kernel
theorem dX4_weightOf_3 : decode cX4_weightOf 3 = .ok (.istore 4, 2) := by decide +kernel
theorem dX4_weightOf_5 : decode cX4_weightOf 5 = .ok (.iload 4, 2) := by decide +kernel
theorem dX4_weightOf_7 : decode cX4_weightOf 7 = .ok (.aload_n 0, 1) := by decide +kernel
theorem dX4_weightOf_8 : decode cX4_weightOf 8 = .ok (.getfield 76, 3) := by decide +kernel
theorem dX4_weightOf_11 : decode cX4_weightOf 11 = .ok (.if_icmp .ge 51, 3) := by decide +kernel
theorem dX4_weightOf_14 : decode cX4_weightOf 14 = .ok (.aload_n 0, 1) := by decide +kernel
theorem dX4_weightOf_15 : decode cX4_weightOf 15 = .ok (.getfield 39, 3) := by decide +kernel
theorem dX4_weightOf_18 : decode cX4_weightOf 18 = .ok (.bipush 8, 2) := by decide +kernel
theorem dX4_weightOf_20 : decode cX4_weightOf 20 = .ok (.iload_n 1, 1) := by decide +kernel
theorem dX4_weightOf_21 : decode cX4_weightOf 21 = .ok (.imul, 1) := by decide +kernel
theorem dX4_weightOf_22 : decode cX4_weightOf 22 = .ok (.iload 4, 2) := by decide +kernel
theorem dX4_weightOf_24 : decode cX4_weightOf 24 = .ok (.iadd, 1) := by decide +kernel
theorem dX4_weightOf_25 : decode cX4_weightOf 25 = .ok (.iaload, 1) := by decide +kernel
theorem dX4_weightOf_26 : decode cX4_weightOf 26 = .ok (.iconst 1, 1) := by decide +kernel
theorem dX4_weightOf_27 : decode cX4_weightOf 27 = .ok (.isub, 1) := by decide +kernel
theorem dX4_weightOf_28 : decode cX4_weightOf 28 = .ok (.istore 5, 2) := by decide +kernel
theorem dX4_weightOf_30 : decode cX4_weightOf 30 = .ok (.iload 5, 2) := by decide +kernel
theorem dX4_weightOf_32 : decode cX4_weightOf 32 = .ok (.iconst 1, 1) := by decide +kernel
theorem dX4_weightOf_33 : decode cX4_weightOf 33 = .ok (.if_icmp .eq 9, 3) := by decide +kernel
theorem dX4_weightOf_36 : decode cX4_weightOf 36 = .ok (.iload 5, 2) := by decide +kernel
theorem dX4_weightOf_38 : decode cX4_weightOf 38 = .ok (.iload_n 2, 1) := by decide +kernel
theorem dX4_weightOf_39 : decode cX4_weightOf 39 = .ok (.if_icmp .ne 15, 3) := by decide +kernel
theorem dX4_weightOf_42 : decode cX4_weightOf 42 = .ok (.iload_n 3, 1) := by decide +kernel
theorem dX4_weightOf_43 : decode cX4_weightOf 43 = .ok (.aload_n 0, 1) := by decide +kernel
theorem dX4_weightOf_44 : decode cX4_weightOf 44 = .ok (.getfield 7, 3) := by decide +kernel
theorem dX4_weightOf_47 : decode cX4_weightOf 47 = .ok (.iload 4, 2) := by decide +kernel
theorem dX4_weightOf_49 : decode cX4_weightOf 49 = .ok (.iaload, 1) := by decide +kernel
theorem dX4_weightOf_50 : decode cX4_weightOf 50 = .ok (.iadd, 1) := by decide +kernel
theorem dX4_weightOf_51 : decode cX4_weightOf 51 = .ok (.goto 4, 3) := by decide +kernel
theorem dX4_weightOf_54 : decode cX4_weightOf 54 = .ok (.iload_n 3, 1) := by decide +kernel
theorem dX4_weightOf_55 : decode cX4_weightOf 55 = .ok (.istore_n 3, 1) := by decide +kernel
theorem dX4_weightOf_56 : decode cX4_weightOf 56 = .ok (.iinc 4 1, 3) := by decide +kernel
theorem dX4_weightOf_59 : decode cX4_weightOf 59 = .ok (.goto (-54), 3) := by decide +kernel
theorem dX4_weightOf_62 : decode cX4_weightOf 62 = .ok (.iload_n 3, 1) := by decide +kernel
theorem dX4_weightOf_63 : decode cX4_weightOf 63 = .ok (.ireturn, 1) := by decide +kernel
theorem dX4_ring_0 : decode cX4_ring 0 = .ok (.aload_n 0, 1) := by decide +kernel
theorem dX4_ring_1 : decode cX4_ring 1 = .ok (.getfield 42, 3) := by decide +kernel
theorem dX4_ring_4 : decode cX4_ring 4 = .ok (.iload_n 1, 1) := by decide +kernel
theorem dX4_ring_5 : decode cX4_ring 5 = .ok (.iconst (-1), 1) := by decide +kernel
theorem dX4_ring_6 : decode cX4_ring 6 = .ok (.iastore, 1) := by decide +kernel
theorem dX4_ring_7 : decode cX4_ring 7 = .ok (.aload_n 0, 1) := by decide +kernel
theorem dX4_ring_8 : decode cX4_ring 8 = .ok (.getfield 33, 3) := by decide +kernel
theorem dX4_ring_11 : decode cX4_ring 11 = .ok (.iload_n 1, 1) := by decide +kernel
theorem dX4_ring_12 : decode cX4_ring 12 = .ok (.iaload, 1) := by decide +kernel
theorem dX4_ring_13 : decode cX4_ring 13 = .ok (.iconst 1, 1) := by decide +kernel
theorem dX4_ring_14 : decode cX4_ring 14 = .ok (.if_icmp .ne 12, 3) := by decide +kernel
theorem dX4_ring_17 : decode cX4_ring 17 = .ok (.aload_n 0, 1) := by decide +kernel
theorem dX4_ring_18 : decode cX4_ring 18 = .ok (.iload_n 1, 1) := by decide +kernel
theorem dX4_ring_19 : decode cX4_ring 19 = .ok (.iconst 5, 1) := by decide +kernel
theorem dX4_ring_20 : decode cX4_ring 20 = .ok (.invokevirtual 141, 3) := by decide +kernel
theorem dX4_ring_23 : decode cX4_ring 23 = .ok (.goto 130, 3) := by decide +kernel
theorem dX4_ring_26 : decode cX4_ring 26 = .ok (.aload_n 0, 1) := by decide +kernel
theorem dX4_ring_27 : decode cX4_ring 27 = .ok (.getfield 33, 3) := by decide +kernel
theorem dX4_ring_30 : decode cX4_ring 30 = .ok (.iload_n 1, 1) := by decide +kernel
theorem dX4_ring_31 : decode cX4_ring 31 = .ok (.iaload, 1) := by decide +kernel
theorem dX4_ring_32 : decode cX4_ring 32 = .ok (.iconst 3, 1) := by decide +kernel
theorem dX4_ring_33 : decode cX4_ring 33 = .ok (.if_icmp .eq 11, 3) := by decide +kernel
theorem dX4_ring_36 : decode cX4_ring 36 = .ok (.aload_n 0, 1) := by decide +kernel
theorem dX4_ring_37 : decode cX4_ring 37 = .ok (.iload_n 1, 1) := by decide +kernel
theorem dX4_ring_38 : decode cX4_ring 38 = .ok (.invokevirtual 150, 3) := by decide +kernel
theorem dX4_ring_41 : decode cX4_ring 41 = .ok (.goto 112, 3) := by decide +kernel
theorem dX4_ring_44 : decode cX4_ring 44 = .ok (.iconst 0, 1) := by decide +kernel
theorem dX4_ring_45 : decode cX4_ring 45 = .ok (.istore_n 2, 1) := by decide +kernel
theorem dX4_ring_46 : decode cX4_ring 46 = .ok (.iconst 0, 1) := by decide +kernel
theorem dX4_ring_47 : decode cX4_ring 47 = .ok (.istore_n 3, 1) := by decide +kernel
theorem dX4_ring_48 : decode cX4_ring 48 = .ok (.iload_n 3, 1) := by decide +kernel
theorem dX4_ring_49 : decode cX4_ring 49 = .ok (.aload_n 0, 1) := by decide +kernel
theorem dX4_ring_50 : decode cX4_ring 50 = .ok (.getfield 76, 3) := by decide +kernel
theorem dX4_ring_53 : decode cX4_ring 53 = .ok (.if_icmp .ge 34, 3) := by decide +kernel
theorem dX4_ring_56 : decode cX4_ring 56 = .ok (.iload_n 2, 1) := by decide +kernel
theorem dX4_ring_57 : decode cX4_ring 57 = .ok (.ifCond .ne 18, 3) := by decide +kernel
theorem dX4_ring_60 : decode cX4_ring 60 = .ok (.aload_n 0, 1) := by decide +kernel
theorem dX4_ring_61 : decode cX4_ring 61 = .ok (.getfield 39, 3) := by decide +kernel
theorem dX4_ring_64 : decode cX4_ring 64 = .ok (.bipush 8, 2) := by decide +kernel
theorem dX4_ring_66 : decode cX4_ring 66 = .ok (.iload_n 1, 1) := by decide +kernel
theorem dX4_ring_67 : decode cX4_ring 67 = .ok (.imul, 1) := by decide +kernel
theorem dX4_ring_68 : decode cX4_ring 68 = .ok (.iload_n 3, 1) := by decide +kernel
theorem dX4_ring_69 : decode cX4_ring 69 = .ok (.iadd, 1) := by decide +kernel
theorem dX4_ring_70 : decode cX4_ring 70 = .ok (.iaload, 1) := by decide +kernel
theorem dX4_ring_71 : decode cX4_ring 71 = .ok (.iconst 3, 1) := by decide +kernel
theorem dX4_ring_72 : decode cX4_ring 72 = .ok (.if_icmp .ne 7, 3) := by decide +kernel
theorem dX4_ring_75 : decode cX4_ring 75 = .ok (.iconst 1, 1) := by decide +kernel
theorem dX4_ring_76 : decode cX4_ring 76 = .ok (.goto 4, 3) := by decide +kernel
theorem dX4_ring_79 : decode cX4_ring 79 = .ok (.iconst 0, 1) := by decide +kernel
theorem dX4_ring_80 : decode cX4_ring 80 = .ok (.istore_n 2, 1) := by decide +kernel
theorem dX4_ring_81 : decode cX4_ring 81 = .ok (.iinc 3 1, 3) := by decide +kernel
theorem dX4_ring_84 : decode cX4_ring 84 = .ok (.goto (-36), 3) := by decide +kernel
theorem dX4_ring_87 : decode cX4_ring 87 = .ok (.iload_n 2, 1) := by decide +kernel
theorem dX4_ring_88 : decode cX4_ring 88 = .ok (.ifCond .eq 25, 3) := by decide +kernel
theorem dX4_ring_91 : decode cX4_ring 91 = .ok (.aload_n 0, 1) := by decide +kernel
theorem dX4_ring_92 : decode cX4_ring 92 = .ok (.iload_n 1, 1) := by decide +kernel
theorem dX4_ring_93 : decode cX4_ring 93 = .ok (.iconst 2, 1) := by decide +kernel
theorem dX4_ring_94 : decode cX4_ring 94 = .ok (.invokevirtual 160, 3) := by decide +kernel
theorem dX4_ring_97 : decode cX4_ring 97 = .ok (.aload_n 0, 1) := by decide +kernel
theorem dX4_ring_98 : decode cX4_ring 98 = .ok (.getfield 87, 3) := by decide +kernel
theorem dX4_ring_101 : decode cX4_ring 101 = .ok (.if_icmp .lt 12, 3) := by decide +kernel
theorem dX4_ring_104 : decode cX4_ring 104 = .ok (.aload_n 0, 1) := by decide +kernel
theorem dX4_ring_105 : decode cX4_ring 105 = .ok (.iload_n 1, 1) := by decide +kernel
theorem dX4_ring_106 : decode cX4_ring 106 = .ok (.iconst 2, 1) := by decide +kernel
theorem dX4_ring_107 : decode cX4_ring 107 = .ok (.invokevirtual 124, 3) := by decide +kernel
theorem dX4_ring_110 : decode cX4_ring 110 = .ok (.goto 43, 3) := by decide +kernel
theorem dX4_ring_113 : decode cX4_ring 113 = .ok (.aload_n 0, 1) := by decide +kernel
theorem dX4_ring_114 : decode cX4_ring 114 = .ok (.iload_n 1, 1) := by decide +kernel
theorem dX4_ring_115 : decode cX4_ring 115 = .ok (.iconst 3, 1) := by decide +kernel
theorem dX4_ring_116 : decode cX4_ring 116 = .ok (.invokevirtual 160, 3) := by decide +kernel
theorem dX4_ring_119 : decode cX4_ring 119 = .ok (.aload_n 0, 1) := by decide +kernel
theorem dX4_ring_120 : decode cX4_ring 120 = .ok (.getfield 90, 3) := by decide +kernel
theorem dX4_ring_123 : decode cX4_ring 123 = .ok (.if_icmp .lt 12, 3) := by decide +kernel
theorem dX4_ring_126 : decode cX4_ring 126 = .ok (.aload_n 0, 1) := by decide +kernel
theorem dX4_ring_127 : decode cX4_ring 127 = .ok (.iload_n 1, 1) := by decide +kernel
theorem dX4_ring_128 : decode cX4_ring 128 = .ok (.iconst 3, 1) := by decide +kernel
theorem dX4_ring_129 : decode cX4_ring 129 = .ok (.invokevirtual 124, 3) := by decide +kernel
theorem dX4_ring_132 : decode cX4_ring 132 = .ok (.goto 21, 3) := by decide +kernel
theorem dX4_ring_135 : decode cX4_ring 135 = .ok (.aload_n 0, 1) := by decide +kernel
theorem dX4_ring_136 : decode cX4_ring 136 = .ok (.getfield 33, 3) := by decide +kernel
theorem dX4_ring_139 : decode cX4_ring 139 = .ok (.iload_n 1, 1) := by decide +kernel
theorem dX4_ring_140 : decode cX4_ring 140 = .ok (.iconst 0, 1) := by decide +kernel
theorem dX4_ring_141 : decode cX4_ring 141 = .ok (.iastore, 1) := by decide +kernel
theorem dX4_ring_142 : decode cX4_ring 142 = .ok (.aload_n 0, 1) := by decide +kernel
theorem dX4_ring_143 : decode cX4_ring 143 = .ok (.iload_n 1, 1) := by decide +kernel
theorem dX4_ring_144 : decode cX4_ring 144 = .ok (.aload_n 0, 1) := by decide +kernel
theorem dX4_ring_145 : decode cX4_ring 145 = .ok (.getfield 13, 3) := by decide +kernel
theorem dX4_ring_148 : decode cX4_ring 148 = .ok (.iload_n 1, 1) := by decide +kernel
theorem dX4_ring_149 : decode cX4_ring 149 = .ok (.iadd, 1) := by decide +kernel
theorem dX4_ring_150 : decode cX4_ring 150 = .ok (.invokevirtual 130, 3) := by decide +kernel
theorem dX4_ring_153 : decode cX4_ring 153 = .ok (.return_, 1) := by decide +kernel
theorem dX4_findNext_0 : decode cX4_findNext 0 = .ok (.aload_n 0, 1) := by decide +kernel
theorem dX4_findNext_1 : decode cX4_findNext 1 = .ok (.iconst (-1), 1) := by decide +kernel
theorem dX4_findNext_2 : decode cX4_findNext 2 = .ok (.putfield 164, 3) := by decide +kernel
theorem dX4_findNext_5 : decode cX4_findNext 5 = .ok (.aload_n 0, 1) := by decide +kernel
theorem dX4_findNext_6 : decode cX4_findNext 6 = .ok (.iconst 0, 1) := by decide +kernel
theorem dX4_findNext_7 : decode cX4_findNext 7 = .ok (.putfield 167, 3) := by decide +kernel
theorem dX4_findNext_10 : decode cX4_findNext 10 = .ok (.iconst 0, 1) := by decide +kernel
theorem dX4_findNext_11 : decode cX4_findNext 11 = .ok (.istore_n 1, 1) := by decide +kernel
theorem dX4_findNext_12 : decode cX4_findNext 12 = .ok (.iconst 0, 1) := by decide +kernel
theorem dX4_findNext_13 : decode cX4_findNext 13 = .ok (.istore_n 2, 1) := by decide +kernel
theorem dX4_findNext_14 : decode cX4_findNext 14 = .ok (.iload_n 2, 1) := by decide +kernel
theorem dX4_findNext_15 : decode cX4_findNext 15 = .ok (.aload_n 0, 1) := by decide +kernel
theorem dX4_findNext_16 : decode cX4_findNext 16 = .ok (.getfield 103, 3) := by decide +kernel
theorem dX4_findNext_19 : decode cX4_findNext 19 = .ok (.if_icmp .ge 75, 3) := by decide +kernel
theorem dX4_findNext_22 : decode cX4_findNext 22 = .ok (.aload_n 0, 1) := by decide +kernel
theorem dX4_findNext_23 : decode cX4_findNext 23 = .ok (.getfield 164, 3) := by decide +kernel
theorem dX4_findNext_26 : decode cX4_findNext 26 = .ok (.iconst (-1), 1) := by decide +kernel
theorem dX4_findNext_27 : decode cX4_findNext 27 = .ok (.if_icmp .eq 39, 3) := by decide +kernel
theorem dX4_findNext_30 : decode cX4_findNext 30 = .ok (.aload_n 0, 1) := by decide +kernel
theorem dX4_findNext_31 : decode cX4_findNext 31 = .ok (.getfield 64, 3) := by decide +kernel
theorem dX4_findNext_34 : decode cX4_findNext 34 = .ok (.iload_n 2, 1) := by decide +kernel
theorem dX4_findNext_35 : decode cX4_findNext 35 = .ok (.iaload, 1) := by decide +kernel
theorem dX4_findNext_36 : decode cX4_findNext 36 = .ok (.aload_n 0, 1) := by decide +kernel
theorem dX4_findNext_37 : decode cX4_findNext 37 = .ok (.getfield 167, 3) := by decide +kernel
theorem dX4_findNext_40 : decode cX4_findNext 40 = .ok (.if_icmp .lt 26, 3) := by decide +kernel
theorem dX4_findNext_43 : decode cX4_findNext 43 = .ok (.aload_n 0, 1) := by decide +kernel
theorem dX4_findNext_44 : decode cX4_findNext 44 = .ok (.getfield 64, 3) := by decide +kernel
theorem dX4_findNext_47 : decode cX4_findNext 47 = .ok (.iload_n 2, 1) := by decide +kernel
theorem dX4_findNext_48 : decode cX4_findNext 48 = .ok (.iaload, 1) := by decide +kernel
theorem dX4_findNext_49 : decode cX4_findNext 49 = .ok (.aload_n 0, 1) := by decide +kernel
theorem dX4_findNext_50 : decode cX4_findNext 50 = .ok (.getfield 167, 3) := by decide +kernel
theorem dX4_findNext_53 : decode cX4_findNext 53 = .ok (.if_icmp .ne 35, 3) := by decide +kernel
theorem dX4_findNext_56 : decode cX4_findNext 56 = .ok (.aload_n 0, 1) := by decide +kernel
theorem dX4_findNext_57 : decode cX4_findNext 57 = .ok (.getfield 67, 3) := by decide +kernel
theorem dX4_findNext_60 : decode cX4_findNext 60 = .ok (.iload_n 2, 1) := by decide +kernel
theorem dX4_findNext_61 : decode cX4_findNext 61 = .ok (.iaload, 1) := by decide +kernel
theorem dX4_findNext_62 : decode cX4_findNext 62 = .ok (.iload_n 1, 1) := by decide +kernel
theorem dX4_findNext_63 : decode cX4_findNext 63 = .ok (.if_icmp .ge 25, 3) := by decide +kernel
theorem dX4_findNext_66 : decode cX4_findNext 66 = .ok (.aload_n 0, 1) := by decide +kernel
theorem dX4_findNext_67 : decode cX4_findNext 67 = .ok (.iload_n 2, 1) := by decide +kernel
theorem dX4_findNext_68 : decode cX4_findNext 68 = .ok (.putfield 164, 3) := by decide +kernel
theorem dX4_findNext_71 : decode cX4_findNext 71 = .ok (.aload_n 0, 1) := by decide +kernel
theorem dX4_findNext_72 : decode cX4_findNext 72 = .ok (.aload_n 0, 1) := by decide +kernel
theorem dX4_findNext_73 : decode cX4_findNext 73 = .ok (.getfield 64, 3) := by decide +kernel
theorem dX4_findNext_76 : decode cX4_findNext 76 = .ok (.iload_n 2, 1) := by decide +kernel
theorem dX4_findNext_77 : decode cX4_findNext 77 = .ok (.iaload, 1) := by decide +kernel
theorem dX4_findNext_78 : decode cX4_findNext 78 = .ok (.putfield 167, 3) := by decide +kernel
theorem dX4_findNext_81 : decode cX4_findNext 81 = .ok (.aload_n 0, 1) := by decide +kernel
theorem dX4_findNext_82 : decode cX4_findNext 82 = .ok (.getfield 67, 3) := by decide +kernel
theorem dX4_findNext_85 : decode cX4_findNext 85 = .ok (.iload_n 2, 1) := by decide +kernel
theorem dX4_findNext_86 : decode cX4_findNext 86 = .ok (.iaload, 1) := by decide +kernel
theorem dX4_findNext_87 : decode cX4_findNext 87 = .ok (.istore_n 1, 1) := by decide +kernel
theorem dX4_findNext_88 : decode cX4_findNext 88 = .ok (.iinc 2 1, 3) := by decide +kernel
theorem dX4_findNext_91 : decode cX4_findNext 91 = .ok (.goto (-77), 3) := by decide +kernel
theorem dX4_findNext_94 : decode cX4_findNext 94 = .ok (.iconst 0, 1) := by decide +kernel
theorem dX4_findNext_95 : decode cX4_findNext 95 = .ok (.istore_n 2, 1) := by decide +kernel
theorem dX4_findNext_96 : decode cX4_findNext 96 = .ok (.iload_n 2, 1) := by decide +kernel
theorem dX4_findNext_97 : decode cX4_findNext 97 = .ok (.aload_n 0, 1) := by decide +kernel
theorem dX4_findNext_98 : decode cX4_findNext 98 = .ok (.getfield 76, 3) := by decide +kernel
theorem dX4_findNext_101 : decode cX4_findNext 101 = .ok (.if_icmp .ge 97, 3) := by decide +kernel
theorem dX4_findNext_104 : decode cX4_findNext 104 = .ok (.aload_n 0, 1) := by decide +kernel
theorem dX4_findNext_105 : decode cX4_findNext 105 = .ok (.getfield 164, 3) := by decide +kernel
theorem dX4_findNext_108 : decode cX4_findNext 108 = .ok (.iconst (-1), 1) := by decide +kernel
theorem dX4_findNext_109 : decode cX4_findNext 109 = .ok (.if_icmp .eq 39, 3) := by decide +kernel
theorem dX4_findNext_112 : decode cX4_findNext 112 = .ok (.aload_n 0, 1) := by decide +kernel
theorem dX4_findNext_113 : decode cX4_findNext 113 = .ok (.getfield 42, 3) := by decide +kernel
theorem dX4_findNext_116 : decode cX4_findNext 116 = .ok (.iload_n 2, 1) := by decide +kernel
theorem dX4_findNext_117 : decode cX4_findNext 117 = .ok (.iaload, 1) := by decide +kernel
theorem dX4_findNext_118 : decode cX4_findNext 118 = .ok (.aload_n 0, 1) := by decide +kernel
theorem dX4_findNext_119 : decode cX4_findNext 119 = .ok (.getfield 167, 3) := by decide +kernel
theorem dX4_findNext_122 : decode cX4_findNext 122 = .ok (.if_icmp .lt 26, 3) := by decide +kernel
theorem dX4_findNext_125 : decode cX4_findNext 125 = .ok (.aload_n 0, 1) := by decide +kernel
theorem dX4_findNext_126 : decode cX4_findNext 126 = .ok (.getfield 42, 3) := by decide +kernel
theorem dX4_findNext_129 : decode cX4_findNext 129 = .ok (.iload_n 2, 1) := by decide +kernel
theorem dX4_findNext_130 : decode cX4_findNext 130 = .ok (.iaload, 1) := by decide +kernel
theorem dX4_findNext_131 : decode cX4_findNext 131 = .ok (.aload_n 0, 1) := by decide +kernel
theorem dX4_findNext_132 : decode cX4_findNext 132 = .ok (.getfield 167, 3) := by decide +kernel
theorem dX4_findNext_135 : decode cX4_findNext 135 = .ok (.if_icmp .ne 17, 3) := by decide +kernel
theorem dX4_findNext_138 : decode cX4_findNext 138 = .ok (.aload_n 0, 1) := by decide +kernel
theorem dX4_findNext_139 : decode cX4_findNext 139 = .ok (.getfield 45, 3) := by decide +kernel
theorem dX4_findNext_142 : decode cX4_findNext 142 = .ok (.iload_n 2, 1) := by decide +kernel
theorem dX4_findNext_143 : decode cX4_findNext 143 = .ok (.iaload, 1) := by decide +kernel
theorem dX4_findNext_144 : decode cX4_findNext 144 = .ok (.iload_n 1, 1) := by decide +kernel
theorem dX4_findNext_145 : decode cX4_findNext 145 = .ok (.if_icmp .ge 7, 3) := by decide +kernel
theorem dX4_findNext_148 : decode cX4_findNext 148 = .ok (.iconst 1, 1) := by decide +kernel
theorem dX4_findNext_149 : decode cX4_findNext 149 = .ok (.goto 4, 3) := by decide +kernel
theorem dX4_findNext_152 : decode cX4_findNext 152 = .ok (.iconst 0, 1) := by decide +kernel
theorem dX4_findNext_153 : decode cX4_findNext 153 = .ok (.istore_n 3, 1) := by decide +kernel
theorem dX4_findNext_154 : decode cX4_findNext 154 = .ok (.aload_n 0, 1) := by decide +kernel
theorem dX4_findNext_155 : decode cX4_findNext 155 = .ok (.getfield 42, 3) := by decide +kernel
theorem dX4_findNext_158 : decode cX4_findNext 158 = .ok (.iload_n 2, 1) := by decide +kernel
theorem dX4_findNext_159 : decode cX4_findNext 159 = .ok (.iaload, 1) := by decide +kernel
theorem dX4_findNext_160 : decode cX4_findNext 160 = .ok (.ifCond .lt 32, 3) := by decide +kernel
theorem dX4_findNext_163 : decode cX4_findNext 163 = .ok (.iload_n 3, 1) := by decide +kernel
theorem dX4_findNext_164 : decode cX4_findNext 164 = .ok (.ifCond .eq 28, 3) := by decide +kernel
theorem dX4_findNext_167 : decode cX4_findNext 167 = .ok (.aload_n 0, 1) := by decide +kernel
theorem dX4_findNext_168 : decode cX4_findNext 168 = .ok (.bipush (-2), 2) := by decide +kernel
theorem dX4_findNext_170 : decode cX4_findNext 170 = .ok (.iload_n 2, 1) := by decide +kernel
theorem dX4_findNext_171 : decode cX4_findNext 171 = .ok (.isub, 1) := by decide +kernel
theorem dX4_findNext_172 : decode cX4_findNext 172 = .ok (.putfield 164, 3) := by decide +kernel
theorem dX4_findNext_175 : decode cX4_findNext 175 = .ok (.aload_n 0, 1) := by decide +kernel
theorem dX4_findNext_176 : decode cX4_findNext 176 = .ok (.aload_n 0, 1) := by decide +kernel
theorem dX4_findNext_177 : decode cX4_findNext 177 = .ok (.getfield 42, 3) := by decide +kernel
theorem dX4_findNext_180 : decode cX4_findNext 180 = .ok (.iload_n 2, 1) := by decide +kernel
theorem dX4_findNext_181 : decode cX4_findNext 181 = .ok (.iaload, 1) := by decide +kernel
theorem dX4_findNext_182 : decode cX4_findNext 182 = .ok (.putfield 167, 3) := by decide +kernel
theorem dX4_findNext_185 : decode cX4_findNext 185 = .ok (.aload_n 0, 1) := by decide +kernel
theorem dX4_findNext_186 : decode cX4_findNext 186 = .ok (.getfield 45, 3) := by decide +kernel
theorem dX4_findNext_189 : decode cX4_findNext 189 = .ok (.iload_n 2, 1) := by decide +kernel
theorem dX4_findNext_190 : decode cX4_findNext 190 = .ok (.iaload, 1) := by decide +kernel
theorem dX4_findNext_191 : decode cX4_findNext 191 = .ok (.istore_n 1, 1) := by decide +kernel
theorem dX4_findNext_192 : decode cX4_findNext 192 = .ok (.iinc 2 1, 3) := by decide +kernel
theorem dX4_findNext_195 : decode cX4_findNext 195 = .ok (.goto (-99), 3) := by decide +kernel
theorem dX4_findNext_198 : decode cX4_findNext 198 = .ok (.return_, 1) := by decide +kernel
theorem dX4_tell_0 : decode cX4_tell 0 = .ok (.aload_n 0, 1) := by decide +kernel
theorem dX4_tell_1 : decode cX4_tell 1 = .ok (.getfield 70, 3) := by decide +kernel
theorem dX4_tell_4 : decode cX4_tell 4 = .ok (.iconst 0, 1) := by decide +kernel
theorem dX4_tell_5 : decode cX4_tell 5 = .ok (.iload_n 1, 1) := by decide +kernel
theorem dX4_tell_6 : decode cX4_tell 6 = .ok (.iastore, 1) := by decide +kernel
theorem dX4_tell_7 : decode cX4_tell 7 = .ok (.aload_n 0, 1) := by decide +kernel
theorem dX4_tell_8 : decode cX4_tell 8 = .ok (.getfield 70, 3) := by decide +kernel
theorem dX4_tell_11 : decode cX4_tell 11 = .ok (.iconst 1, 1) := by decide +kernel
theorem dX4_tell_12 : decode cX4_tell 12 = .ok (.iload_n 2, 1) := by decide +kernel
theorem dX4_tell_13 : decode cX4_tell 13 = .ok (.iastore, 1) := by decide +kernel
theorem dX4_tell_14 : decode cX4_tell 14 = .ok (.aload_n 0, 1) := by decide +kernel
theorem dX4_tell_15 : decode cX4_tell 15 = .ok (.getfield 70, 3) := by decide +kernel
theorem dX4_tell_18 : decode cX4_tell 18 = .ok (.iconst 2, 1) := by decide +kernel
theorem dX4_tell_19 : decode cX4_tell 19 = .ok (.iload_n 3, 1) := by decide +kernel
theorem dX4_tell_20 : decode cX4_tell 20 = .ok (.iastore, 1) := by decide +kernel
theorem dX4_tell_21 : decode cX4_tell 21 = .ok (.aload_n 0, 1) := by decide +kernel
theorem dX4_tell_22 : decode cX4_tell 22 = .ok (.getfield 70, 3) := by decide +kernel
theorem dX4_tell_25 : decode cX4_tell 25 = .ok (.iconst 3, 1) := by decide +kernel
theorem dX4_tell_26 : decode cX4_tell 26 = .ok (.iload 4, 2) := by decide +kernel
theorem dX4_tell_28 : decode cX4_tell 28 = .ok (.iastore, 1) := by decide +kernel
theorem dX4_tell_29 : decode cX4_tell 29 = .ok (.aload_n 0, 1) := by decide +kernel
theorem dX4_tell_30 : decode cX4_tell 30 = .ok (.getfield 70, 3) := by decide +kernel
theorem dX4_tell_33 : decode cX4_tell 33 = .ok (.iconst 4, 1) := by decide +kernel
theorem dX4_tell_34 : decode cX4_tell 34 = .ok (.iload 5, 2) := by decide +kernel
theorem dX4_tell_36 : decode cX4_tell 36 = .ok (.iastore, 1) := by decide +kernel
theorem dX4_tell_37 : decode cX4_tell 37 = .ok (.return_, 1) := by decide +kernel
theorem dX4_take_0 : decode cX4_take 0 = .ok (.aload_n 0, 1) := by decide +kernel
theorem dX4_take_1 : decode cX4_take 1 = .ok (.aload_n 0, 1) := by decide +kernel
theorem dX4_take_2 : decode cX4_take 2 = .ok (.getfield 167, 3) := by decide +kernel
theorem dX4_take_5 : decode cX4_take 5 = .ok (.putfield 106, 3) := by decide +kernel
theorem dX4_take_8 : decode cX4_take 8 = .ok (.aload_n 0, 1) := by decide +kernel
theorem dX4_take_9 : decode cX4_take 9 = .ok (.getfield 164, 3) := by decide +kernel
theorem dX4_take_12 : decode cX4_take 12 = .ok (.ifCond .ge 38, 3) := by decide +kernel
theorem dX4_take_15 : decode cX4_take 15 = .ok (.bipush (-2), 2) := by decide +kernel
theorem dX4_take_17 : decode cX4_take 17 = .ok (.aload_n 0, 1) := by decide +kernel
theorem dX4_take_18 : decode cX4_take 18 = .ok (.getfield 164, 3) := by decide +kernel
theorem dX4_take_21 : decode cX4_take 21 = .ok (.isub, 1) := by decide +kernel
theorem dX4_take_22 : decode cX4_take 22 = .ok (.istore_n 1, 1) := by decide +kernel
theorem dX4_take_23 : decode cX4_take 23 = .ok (.aload_n 0, 1) := by decide +kernel
theorem dX4_take_24 : decode cX4_take 24 = .ok (.dup, 1) := by decide +kernel
theorem dX4_take_25 : decode cX4_take 25 = .ok (.getfield 170, 3) := by decide +kernel
theorem dX4_take_28 : decode cX4_take 28 = .ok (.iconst 1, 1) := by decide +kernel
theorem dX4_take_29 : decode cX4_take 29 = .ok (.iadd, 1) := by decide +kernel
theorem dX4_take_30 : decode cX4_take 30 = .ok (.putfield 170, 3) := by decide +kernel
theorem dX4_take_33 : decode cX4_take 33 = .ok (.aload_n 0, 1) := by decide +kernel
theorem dX4_take_34 : decode cX4_take 34 = .ok (.bipush 11, 2) := by decide +kernel
theorem dX4_take_36 : decode cX4_take 36 = .ok (.iload_n 1, 1) := by decide +kernel
theorem dX4_take_37 : decode cX4_take 37 = .ok (.iload_n 1, 1) := by decide +kernel
theorem dX4_take_38 : decode cX4_take 38 = .ok (.iconst 0, 1) := by decide +kernel
theorem dX4_take_39 : decode cX4_take 39 = .ok (.iconst 0, 1) := by decide +kernel
theorem dX4_take_40 : decode cX4_take 40 = .ok (.invokevirtual 173, 3) := by decide +kernel
theorem dX4_take_43 : decode cX4_take 43 = .ok (.aload_n 0, 1) := by decide +kernel
theorem dX4_take_44 : decode cX4_take 44 = .ok (.iload_n 1, 1) := by decide +kernel
theorem dX4_take_45 : decode cX4_take 45 = .ok (.invokevirtual 176, 3) := by decide +kernel
theorem dX4_take_48 : decode cX4_take 48 = .ok (.iconst 1, 1) := by decide +kernel
theorem dX4_take_49 : decode cX4_take 49 = .ok (.ireturn, 1) := by decide +kernel
theorem dX4_take_50 : decode cX4_take 50 = .ok (.aload_n 0, 1) := by decide +kernel
theorem dX4_take_51 : decode cX4_take 51 = .ok (.getfield 164, 3) := by decide +kernel
theorem dX4_take_54 : decode cX4_take 54 = .ok (.istore_n 1, 1) := by decide +kernel
theorem dX4_take_55 : decode cX4_take 55 = .ok (.aload_n 0, 1) := by decide +kernel
theorem dX4_take_56 : decode cX4_take 56 = .ok (.getfield 49, 3) := by decide +kernel
theorem dX4_take_59 : decode cX4_take 59 = .ok (.iload_n 1, 1) := by decide +kernel
theorem dX4_take_60 : decode cX4_take 60 = .ok (.iaload, 1) := by decide +kernel
theorem dX4_take_61 : decode cX4_take 61 = .ok (.istore_n 2, 1) := by decide +kernel
theorem dX4_take_62 : decode cX4_take 62 = .ok (.aload_n 0, 1) := by decide +kernel
theorem dX4_take_63 : decode cX4_take 63 = .ok (.getfield 52, 3) := by decide +kernel
theorem dX4_take_66 : decode cX4_take 66 = .ok (.iload_n 1, 1) := by decide +kernel
theorem dX4_take_67 : decode cX4_take 67 = .ok (.iaload, 1) := by decide +kernel
theorem dX4_take_68 : decode cX4_take 68 = .ok (.istore_n 3, 1) := by decide +kernel
theorem dX4_take_69 : decode cX4_take 69 = .ok (.aload_n 0, 1) := by decide +kernel
theorem dX4_take_70 : decode cX4_take 70 = .ok (.getfield 55, 3) := by decide +kernel
theorem dX4_take_73 : decode cX4_take 73 = .ok (.iload_n 1, 1) := by decide +kernel
theorem dX4_take_74 : decode cX4_take 74 = .ok (.iaload, 1) := by decide +kernel
theorem dX4_take_75 : decode cX4_take 75 = .ok (.istore 4, 2) := by decide +kernel
theorem dX4_take_77 : decode cX4_take 77 = .ok (.aload_n 0, 1) := by decide +kernel
theorem dX4_take_78 : decode cX4_take 78 = .ok (.getfield 58, 3) := by decide +kernel
theorem dX4_take_81 : decode cX4_take 81 = .ok (.iload_n 1, 1) := by decide +kernel
theorem dX4_take_82 : decode cX4_take 82 = .ok (.iaload, 1) := by decide +kernel
theorem dX4_take_83 : decode cX4_take 83 = .ok (.istore 5, 2) := by decide +kernel
theorem dX4_take_85 : decode cX4_take 85 = .ok (.aload_n 0, 1) := by decide +kernel
theorem dX4_take_86 : decode cX4_take 86 = .ok (.getfield 61, 3) := by decide +kernel
theorem dX4_take_89 : decode cX4_take 89 = .ok (.iload_n 1, 1) := by decide +kernel
theorem dX4_take_90 : decode cX4_take 90 = .ok (.iaload, 1) := by decide +kernel
theorem dX4_take_91 : decode cX4_take 91 = .ok (.istore 6, 2) := by decide +kernel
theorem dX4_take_93 : decode cX4_take 93 = .ok (.aload_n 0, 1) := by decide +kernel
theorem dX4_take_94 : decode cX4_take 94 = .ok (.dup, 1) := by decide +kernel
theorem dX4_take_95 : decode cX4_take 95 = .ok (.getfield 103, 3) := by decide +kernel
theorem dX4_take_98 : decode cX4_take 98 = .ok (.iconst 1, 1) := by decide +kernel
theorem dX4_take_99 : decode cX4_take 99 = .ok (.isub, 1) := by decide +kernel
theorem dX4_take_100 : decode cX4_take 100 = .ok (.putfield 103, 3) := by decide +kernel
theorem dX4_take_103 : decode cX4_take 103 = .ok (.aload_n 0, 1) := by decide +kernel
theorem dX4_take_104 : decode cX4_take 104 = .ok (.getfield 49, 3) := by decide +kernel
theorem dX4_take_107 : decode cX4_take 107 = .ok (.iload_n 1, 1) := by decide +kernel
theorem dX4_take_108 : decode cX4_take 108 = .ok (.aload_n 0, 1) := by decide +kernel
theorem dX4_take_109 : decode cX4_take 109 = .ok (.getfield 49, 3) := by decide +kernel
theorem dX4_take_112 : decode cX4_take 112 = .ok (.aload_n 0, 1) := by decide +kernel
theorem dX4_take_113 : decode cX4_take 113 = .ok (.getfield 103, 3) := by decide +kernel
theorem dX4_take_116 : decode cX4_take 116 = .ok (.iaload, 1) := by decide +kernel
theorem dX4_take_117 : decode cX4_take 117 = .ok (.iastore, 1) := by decide +kernel
theorem dX4_take_118 : decode cX4_take 118 = .ok (.aload_n 0, 1) := by decide +kernel
theorem dX4_take_119 : decode cX4_take 119 = .ok (.getfield 52, 3) := by decide +kernel
theorem dX4_take_122 : decode cX4_take 122 = .ok (.iload_n 1, 1) := by decide +kernel
theorem dX4_take_123 : decode cX4_take 123 = .ok (.aload_n 0, 1) := by decide +kernel
theorem dX4_take_124 : decode cX4_take 124 = .ok (.getfield 52, 3) := by decide +kernel
theorem dX4_take_127 : decode cX4_take 127 = .ok (.aload_n 0, 1) := by decide +kernel
theorem dX4_take_128 : decode cX4_take 128 = .ok (.getfield 103, 3) := by decide +kernel
theorem dX4_take_131 : decode cX4_take 131 = .ok (.iaload, 1) := by decide +kernel
theorem dX4_take_132 : decode cX4_take 132 = .ok (.iastore, 1) := by decide +kernel
theorem dX4_take_133 : decode cX4_take 133 = .ok (.aload_n 0, 1) := by decide +kernel
theorem dX4_take_134 : decode cX4_take 134 = .ok (.getfield 55, 3) := by decide +kernel
theorem dX4_take_137 : decode cX4_take 137 = .ok (.iload_n 1, 1) := by decide +kernel
theorem dX4_take_138 : decode cX4_take 138 = .ok (.aload_n 0, 1) := by decide +kernel
theorem dX4_take_139 : decode cX4_take 139 = .ok (.getfield 55, 3) := by decide +kernel
theorem dX4_take_142 : decode cX4_take 142 = .ok (.aload_n 0, 1) := by decide +kernel
theorem dX4_take_143 : decode cX4_take 143 = .ok (.getfield 103, 3) := by decide +kernel
theorem dX4_take_146 : decode cX4_take 146 = .ok (.iaload, 1) := by decide +kernel
theorem dX4_take_147 : decode cX4_take 147 = .ok (.iastore, 1) := by decide +kernel
theorem dX4_take_148 : decode cX4_take 148 = .ok (.aload_n 0, 1) := by decide +kernel
theorem dX4_take_149 : decode cX4_take 149 = .ok (.getfield 58, 3) := by decide +kernel
theorem dX4_take_152 : decode cX4_take 152 = .ok (.iload_n 1, 1) := by decide +kernel
theorem dX4_take_153 : decode cX4_take 153 = .ok (.aload_n 0, 1) := by decide +kernel
theorem dX4_take_154 : decode cX4_take 154 = .ok (.getfield 58, 3) := by decide +kernel
theorem dX4_take_157 : decode cX4_take 157 = .ok (.aload_n 0, 1) := by decide +kernel
theorem dX4_take_158 : decode cX4_take 158 = .ok (.getfield 103, 3) := by decide +kernel
theorem dX4_take_161 : decode cX4_take 161 = .ok (.iaload, 1) := by decide +kernel
theorem dX4_take_162 : decode cX4_take 162 = .ok (.iastore, 1) := by decide +kernel
theorem dX4_take_163 : decode cX4_take 163 = .ok (.aload_n 0, 1) := by decide +kernel
theorem dX4_take_164 : decode cX4_take 164 = .ok (.getfield 61, 3) := by decide +kernel
theorem dX4_take_167 : decode cX4_take 167 = .ok (.iload_n 1, 1) := by decide +kernel
theorem dX4_take_168 : decode cX4_take 168 = .ok (.aload_n 0, 1) := by decide +kernel
theorem dX4_take_169 : decode cX4_take 169 = .ok (.getfield 61, 3) := by decide +kernel
theorem dX4_take_172 : decode cX4_take 172 = .ok (.aload_n 0, 1) := by decide +kernel
theorem dX4_take_173 : decode cX4_take 173 = .ok (.getfield 103, 3) := by decide +kernel
theorem dX4_take_176 : decode cX4_take 176 = .ok (.iaload, 1) := by decide +kernel
theorem dX4_take_177 : decode cX4_take 177 = .ok (.iastore, 1) := by decide +kernel
theorem dX4_take_178 : decode cX4_take 178 = .ok (.aload_n 0, 1) := by decide +kernel
theorem dX4_take_179 : decode cX4_take 179 = .ok (.getfield 64, 3) := by decide +kernel
theorem dX4_take_182 : decode cX4_take 182 = .ok (.iload_n 1, 1) := by decide +kernel
theorem dX4_take_183 : decode cX4_take 183 = .ok (.aload_n 0, 1) := by decide +kernel
theorem dX4_take_184 : decode cX4_take 184 = .ok (.getfield 64, 3) := by decide +kernel
theorem dX4_take_187 : decode cX4_take 187 = .ok (.aload_n 0, 1) := by decide +kernel
theorem dX4_take_188 : decode cX4_take 188 = .ok (.getfield 103, 3) := by decide +kernel
theorem dX4_take_191 : decode cX4_take 191 = .ok (.iaload, 1) := by decide +kernel
theorem dX4_take_192 : decode cX4_take 192 = .ok (.iastore, 1) := by decide +kernel
theorem dX4_take_193 : decode cX4_take 193 = .ok (.aload_n 0, 1) := by decide +kernel
theorem dX4_take_194 : decode cX4_take 194 = .ok (.getfield 67, 3) := by decide +kernel
theorem dX4_take_197 : decode cX4_take 197 = .ok (.iload_n 1, 1) := by decide +kernel
theorem dX4_take_198 : decode cX4_take 198 = .ok (.aload_n 0, 1) := by decide +kernel
theorem dX4_take_199 : decode cX4_take 199 = .ok (.getfield 67, 3) := by decide +kernel
theorem dX4_take_202 : decode cX4_take 202 = .ok (.aload_n 0, 1) := by decide +kernel
theorem dX4_take_203 : decode cX4_take 203 = .ok (.getfield 103, 3) := by decide +kernel
theorem dX4_take_206 : decode cX4_take 206 = .ok (.iaload, 1) := by decide +kernel
theorem dX4_take_207 : decode cX4_take 207 = .ok (.iastore, 1) := by decide +kernel
theorem dX4_take_208 : decode cX4_take 208 = .ok (.aload_n 0, 1) := by decide +kernel
theorem dX4_take_209 : decode cX4_take 209 = .ok (.getfield 26, 3) := by decide +kernel
theorem dX4_take_212 : decode cX4_take 212 = .ok (.iload 4, 2) := by decide +kernel
theorem dX4_take_214 : decode cX4_take 214 = .ok (.baload, 1) := by decide +kernel
theorem dX4_take_215 : decode cX4_take 215 = .ok (.ifCond .eq 15, 3) := by decide +kernel
theorem dX4_take_218 : decode cX4_take 218 = .ok (.aload_n 0, 1) := by decide +kernel
theorem dX4_take_219 : decode cX4_take 219 = .ok (.dup, 1) := by decide +kernel
theorem dX4_take_220 : decode cX4_take 220 = .ok (.getfield 100, 3) := by decide +kernel
end
section
theorem dX4_take_223 : decode cX4_take 223 = .ok (.iconst 1, 1) := by decide +kernel
theorem dX4_take_224 : decode cX4_take 224 = .ok (.iadd, 1) := by decide +kernel
theorem dX4_take_225 : decode cX4_take 225 = .ok (.putfield 100, 3) := by decide +kernel
theorem dX4_take_228 : decode cX4_take 228 = .ok (.iconst 0, 1) := by decide +kernel
theorem dX4_take_229 : decode cX4_take 229 = .ok (.ireturn, 1) := by decide +kernel
theorem dX4_take_230 : decode cX4_take 230 = .ok (.aload_n 0, 1) := by decide +kernel
theorem dX4_take_231 : decode cX4_take 231 = .ok (.dup, 1) := by decide +kernel
theorem dX4_take_232 : decode cX4_take 232 = .ok (.getfield 179, 3) := by decide +kernel
theorem dX4_take_235 : decode cX4_take 235 = .ok (.iconst 1, 1) := by decide +kernel
theorem dX4_take_236 : decode cX4_take 236 = .ok (.iadd, 1) := by decide +kernel
theorem dX4_take_237 : decode cX4_take 237 = .ok (.putfield 179, 3) := by decide +kernel
theorem dX4_take_240 : decode cX4_take 240 = .ok (.aload_n 0, 1) := by decide +kernel
theorem dX4_take_241 : decode cX4_take 241 = .ok (.iload_n 2, 1) := by decide +kernel
theorem dX4_take_242 : decode cX4_take 242 = .ok (.iload 4, 2) := by decide +kernel
theorem dX4_take_244 : decode cX4_take 244 = .ok (.iload_n 3, 1) := by decide +kernel
theorem dX4_take_245 : decode cX4_take 245 = .ok (.iload 5, 2) := by decide +kernel
theorem dX4_take_247 : decode cX4_take 247 = .ok (.iload 6, 2) := by decide +kernel
theorem dX4_take_249 : decode cX4_take 249 = .ok (.invokevirtual 173, 3) := by decide +kernel
theorem dX4_take_252 : decode cX4_take 252 = .ok (.aload_n 0, 1) := by decide +kernel
theorem dX4_take_253 : decode cX4_take 253 = .ok (.iload 4, 2) := by decide +kernel
theorem dX4_take_255 : decode cX4_take 255 = .ok (.iload_n 2, 1) := by decide +kernel
theorem dX4_take_256 : decode cX4_take 256 = .ok (.iload_n 3, 1) := by decide +kernel
theorem dX4_take_257 : decode cX4_take 257 = .ok (.iload 5, 2) := by decide +kernel
theorem dX4_take_259 : decode cX4_take 259 = .ok (.iload 6, 2) := by decide +kernel
theorem dX4_take_261 : decode cX4_take 261 = .ok (.invokevirtual 182, 3) := by decide +kernel
theorem dX4_take_264 : decode cX4_take 264 = .ok (.iconst 1, 1) := by decide +kernel
theorem dX4_take_265 : decode cX4_take 265 = .ok (.ireturn, 1) := by decide +kernel
theorem dX4_run_0 : decode cX4_run 0 = .ok (.aload_n 0, 1) := by decide +kernel
theorem dX4_run_1 : decode cX4_run 1 = .ok (.iconst 0, 1) := by decide +kernel
theorem dX4_run_2 : decode cX4_run 2 = .ok (.putfield 73, 3) := by decide +kernel
theorem dX4_run_5 : decode cX4_run 5 = .ok (.iload_n 1, 1) := by decide +kernel
theorem dX4_run_6 : decode cX4_run 6 = .ok (.ifCond .lt 22, 3) := by decide +kernel
theorem dX4_run_9 : decode cX4_run 9 = .ok (.iload_n 1, 1) := by decide +kernel
theorem dX4_run_10 : decode cX4_run 10 = .ok (.sipush 500, 3) := by decide +kernel
theorem dX4_run_13 : decode cX4_run 13 = .ok (.if_icmp .gt 15, 3) := by decide +kernel
theorem dX4_run_16 : decode cX4_run 16 = .ok (.aload_n 0, 1) := by decide +kernel
theorem dX4_run_17 : decode cX4_run 17 = .ok (.getfield 106, 3) := by decide +kernel
theorem dX4_run_20 : decode cX4_run 20 = .ok (.iload_n 1, 1) := by decide +kernel
theorem dX4_run_21 : decode cX4_run 21 = .ok (.iadd, 1) := by decide +kernel
theorem dX4_run_22 : decode cX4_run 22 = .ok (.sipush 4000, 3) := by decide +kernel
theorem dX4_run_25 : decode cX4_run 25 = .ok (.if_icmp .le 5, 3) := by decide +kernel
theorem dX4_run_28 : decode cX4_run 28 = .ok (.iconst (-1), 1) := by decide +kernel
theorem dX4_run_29 : decode cX4_run 29 = .ok (.ireturn, 1) := by decide +kernel
theorem dX4_run_30 : decode cX4_run 30 = .ok (.aload_n 0, 1) := by decide +kernel
theorem dX4_run_31 : decode cX4_run 31 = .ok (.getfield 106, 3) := by decide +kernel
theorem dX4_run_34 : decode cX4_run 34 = .ok (.iload_n 1, 1) := by decide +kernel
theorem dX4_run_35 : decode cX4_run 35 = .ok (.iadd, 1) := by decide +kernel
theorem dX4_run_36 : decode cX4_run 36 = .ok (.istore_n 2, 1) := by decide +kernel
theorem dX4_run_37 : decode cX4_run 37 = .ok (.iconst 0, 1) := by decide +kernel
theorem dX4_run_38 : decode cX4_run 38 = .ok (.istore_n 3, 1) := by decide +kernel
theorem dX4_run_39 : decode cX4_run 39 = .ok (.aload_n 0, 1) := by decide +kernel
theorem dX4_run_40 : decode cX4_run 40 = .ok (.invokevirtual 185, 3) := by decide +kernel
theorem dX4_run_43 : decode cX4_run 43 = .ok (.aload_n 0, 1) := by decide +kernel
theorem dX4_run_44 : decode cX4_run 44 = .ok (.getfield 164, 3) := by decide +kernel
theorem dX4_run_47 : decode cX4_run 47 = .ok (.iconst (-1), 1) := by decide +kernel
theorem dX4_run_48 : decode cX4_run 48 = .ok (.if_icmp .eq 33, 3) := by decide +kernel
theorem dX4_run_51 : decode cX4_run 51 = .ok (.aload_n 0, 1) := by decide +kernel
theorem dX4_run_52 : decode cX4_run 52 = .ok (.getfield 167, 3) := by decide +kernel
theorem dX4_run_55 : decode cX4_run 55 = .ok (.iload_n 2, 1) := by decide +kernel
theorem dX4_run_56 : decode cX4_run 56 = .ok (.if_icmp .gt 25, 3) := by decide +kernel
theorem dX4_run_59 : decode cX4_run 59 = .ok (.aload_n 0, 1) := by decide +kernel
theorem dX4_run_60 : decode cX4_run 60 = .ok (.invokevirtual 188, 3) := by decide +kernel
theorem dX4_run_63 : decode cX4_run 63 = .ok (.ifCond .eq 9, 3) := by decide +kernel
theorem dX4_run_66 : decode cX4_run 66 = .ok (.iload_n 3, 1) := by decide +kernel
theorem dX4_run_67 : decode cX4_run 67 = .ok (.iconst 1, 1) := by decide +kernel
theorem dX4_run_68 : decode cX4_run 68 = .ok (.iadd, 1) := by decide +kernel
theorem dX4_run_69 : decode cX4_run 69 = .ok (.goto 4, 3) := by decide +kernel
theorem dX4_run_72 : decode cX4_run 72 = .ok (.iload_n 3, 1) := by decide +kernel
theorem dX4_run_73 : decode cX4_run 73 = .ok (.istore_n 3, 1) := by decide +kernel
theorem dX4_run_74 : decode cX4_run 74 = .ok (.aload_n 0, 1) := by decide +kernel
theorem dX4_run_75 : decode cX4_run 75 = .ok (.invokevirtual 185, 3) := by decide +kernel
theorem dX4_run_78 : decode cX4_run 78 = .ok (.goto (-35), 3) := by decide +kernel
theorem dX4_run_81 : decode cX4_run 81 = .ok (.aload_n 0, 1) := by decide +kernel
theorem dX4_run_82 : decode cX4_run 82 = .ok (.iload_n 2, 1) := by decide +kernel
theorem dX4_run_83 : decode cX4_run 83 = .ok (.putfield 106, 3) := by decide +kernel
theorem dX4_run_86 : decode cX4_run 86 = .ok (.iload_n 3, 1) := by decide +kernel
theorem dX4_run_87 : decode cX4_run 87 = .ok (.ireturn, 1) := by decide +kernel
theorem dX4_step_0 : decode cX4_step 0 = .ok (.aload_n 0, 1) := by decide +kernel
theorem dX4_step_1 : decode cX4_step 1 = .ok (.iconst 0, 1) := by decide +kernel
theorem dX4_step_2 : decode cX4_step 2 = .ok (.putfield 73, 3) := by decide +kernel
theorem dX4_step_5 : decode cX4_step 5 = .ok (.aload_n 0, 1) := by decide +kernel
theorem dX4_step_6 : decode cX4_step 6 = .ok (.invokevirtual 185, 3) := by decide +kernel
theorem dX4_step_9 : decode cX4_step 9 = .ok (.aload_n 0, 1) := by decide +kernel
theorem dX4_step_10 : decode cX4_step 10 = .ok (.getfield 164, 3) := by decide +kernel
theorem dX4_step_13 : decode cX4_step 13 = .ok (.iconst (-1), 1) := by decide +kernel
theorem dX4_step_14 : decode cX4_step 14 = .ok (.if_icmp .eq 32, 3) := by decide +kernel
theorem dX4_step_17 : decode cX4_step 17 = .ok (.aload_n 0, 1) := by decide +kernel
theorem dX4_step_18 : decode cX4_step 18 = .ok (.getfield 167, 3) := by decide +kernel
theorem dX4_step_21 : decode cX4_step 21 = .ok (.sipush 4000, 3) := by decide +kernel
theorem dX4_step_24 : decode cX4_step 24 = .ok (.if_icmp .gt 22, 3) := by decide +kernel
theorem dX4_step_27 : decode cX4_step 27 = .ok (.aload_n 0, 1) := by decide +kernel
theorem dX4_step_28 : decode cX4_step 28 = .ok (.invokevirtual 188, 3) := by decide +kernel
theorem dX4_step_31 : decode cX4_step 31 = .ok (.ifCond .eq 8, 3) := by decide +kernel
theorem dX4_step_34 : decode cX4_step 34 = .ok (.aload_n 0, 1) := by decide +kernel
theorem dX4_step_35 : decode cX4_step 35 = .ok (.getfield 106, 3) := by decide +kernel
theorem dX4_step_38 : decode cX4_step 38 = .ok (.ireturn, 1) := by decide +kernel
theorem dX4_step_39 : decode cX4_step 39 = .ok (.aload_n 0, 1) := by decide +kernel
theorem dX4_step_40 : decode cX4_step 40 = .ok (.invokevirtual 185, 3) := by decide +kernel
theorem dX4_step_43 : decode cX4_step 43 = .ok (.goto (-34), 3) := by decide +kernel
theorem dX4_step_46 : decode cX4_step 46 = .ok (.iconst (-1), 1) := by decide +kernel
theorem dX4_step_47 : decode cX4_step 47 = .ok (.ireturn, 1) := by decide +kernel
theorem dX4_reset_0 : decode cX4_reset 0 = .ok (.aload_n 0, 1) := by decide +kernel
theorem dX4_reset_1 : decode cX4_reset 1 = .ok (.iconst 0, 1) := by decide +kernel
theorem dX4_reset_2 : decode cX4_reset 2 = .ok (.putfield 73, 3) := by decide +kernel
theorem dX4_reset_5 : decode cX4_reset 5 = .ok (.aload_n 0, 1) := by decide +kernel
theorem dX4_reset_6 : decode cX4_reset 6 = .ok (.iconst 0, 1) := by decide +kernel
theorem dX4_reset_7 : decode cX4_reset 7 = .ok (.putfield 79, 3) := by decide +kernel
theorem dX4_reset_10 : decode cX4_reset 10 = .ok (.aload_n 0, 1) := by decide +kernel
theorem dX4_reset_11 : decode cX4_reset 11 = .ok (.iconst 0, 1) := by decide +kernel
theorem dX4_reset_12 : decode cX4_reset 12 = .ok (.putfield 106, 3) := by decide +kernel
theorem dX4_reset_15 : decode cX4_reset 15 = .ok (.aload_n 0, 1) := by decide +kernel
theorem dX4_reset_16 : decode cX4_reset 16 = .ok (.iconst 0, 1) := by decide +kernel
theorem dX4_reset_17 : decode cX4_reset 17 = .ok (.putfield 109, 3) := by decide +kernel
theorem dX4_reset_20 : decode cX4_reset 20 = .ok (.aload_n 0, 1) := by decide +kernel
theorem dX4_reset_21 : decode cX4_reset 21 = .ok (.iconst 0, 1) := by decide +kernel
theorem dX4_reset_22 : decode cX4_reset 22 = .ok (.putfield 97, 3) := by decide +kernel
theorem dX4_reset_25 : decode cX4_reset 25 = .ok (.aload_n 0, 1) := by decide +kernel
theorem dX4_reset_26 : decode cX4_reset 26 = .ok (.iconst 0, 1) := by decide +kernel
theorem dX4_reset_27 : decode cX4_reset 27 = .ok (.putfield 179, 3) := by decide +kernel
theorem dX4_reset_30 : decode cX4_reset 30 = .ok (.aload_n 0, 1) := by decide +kernel
theorem dX4_reset_31 : decode cX4_reset 31 = .ok (.iconst 0, 1) := by decide +kernel
theorem dX4_reset_32 : decode cX4_reset 32 = .ok (.putfield 100, 3) := by decide +kernel
theorem dX4_reset_35 : decode cX4_reset 35 = .ok (.aload_n 0, 1) := by decide +kernel
theorem dX4_reset_36 : decode cX4_reset 36 = .ok (.iconst 0, 1) := by decide +kernel
theorem dX4_reset_37 : decode cX4_reset 37 = .ok (.putfield 170, 3) := by decide +kernel
theorem dX4_reset_40 : decode cX4_reset 40 = .ok (.aload_n 0, 1) := by decide +kernel
theorem dX4_reset_41 : decode cX4_reset 41 = .ok (.iconst 0, 1) := by decide +kernel
theorem dX4_reset_42 : decode cX4_reset 42 = .ok (.putfield 103, 3) := by decide +kernel
theorem dX4_reset_45 : decode cX4_reset 45 = .ok (.aload_n 0, 1) := by decide +kernel
theorem dX4_reset_46 : decode cX4_reset 46 = .ok (.iconst 0, 1) := by decide +kernel
theorem dX4_reset_47 : decode cX4_reset 47 = .ok (.iconst 0, 1) := by decide +kernel
theorem dX4_reset_48 : decode cX4_reset 48 = .ok (.iconst 0, 1) := by decide +kernel
theorem dX4_reset_49 : decode cX4_reset 49 = .ok (.iconst 0, 1) := by decide +kernel
theorem dX4_reset_50 : decode cX4_reset 50 = .ok (.iconst 0, 1) := by decide +kernel
theorem dX4_reset_51 : decode cX4_reset 51 = .ok (.invokevirtual 173, 3) := by decide +kernel
theorem dX4_reset_54 : decode cX4_reset 54 = .ok (.iconst 0, 1) := by decide +kernel
theorem dX4_reset_55 : decode cX4_reset 55 = .ok (.istore_n 1, 1) := by decide +kernel
theorem dX4_reset_56 : decode cX4_reset 56 = .ok (.iload_n 1, 1) := by decide +kernel
theorem dX4_reset_57 : decode cX4_reset 57 = .ok (.bipush 8, 2) := by decide +kernel
theorem dX4_reset_59 : decode cX4_reset 59 = .ok (.if_icmp .ge 58, 3) := by decide +kernel
theorem dX4_reset_62 : decode cX4_reset 62 = .ok (.aload_n 0, 1) := by decide +kernel
theorem dX4_reset_63 : decode cX4_reset 63 = .ok (.getfield 20, 3) := by decide +kernel
theorem dX4_reset_66 : decode cX4_reset 66 = .ok (.iload_n 1, 1) := by decide +kernel
theorem dX4_reset_67 : decode cX4_reset 67 = .ok (.iconst 0, 1) := by decide +kernel
theorem dX4_reset_68 : decode cX4_reset 68 = .ok (.iastore, 1) := by decide +kernel
theorem dX4_reset_69 : decode cX4_reset 69 = .ok (.aload_n 0, 1) := by decide +kernel
theorem dX4_reset_70 : decode cX4_reset 70 = .ok (.getfield 23, 3) := by decide +kernel
theorem dX4_reset_73 : decode cX4_reset 73 = .ok (.iload_n 1, 1) := by decide +kernel
theorem dX4_reset_74 : decode cX4_reset 74 = .ok (.iconst 0, 1) := by decide +kernel
theorem dX4_reset_75 : decode cX4_reset 75 = .ok (.iastore, 1) := by decide +kernel
theorem dX4_reset_76 : decode cX4_reset 76 = .ok (.aload_n 0, 1) := by decide +kernel
theorem dX4_reset_77 : decode cX4_reset 77 = .ok (.getfield 26, 3) := by decide +kernel
theorem dX4_reset_80 : decode cX4_reset 80 = .ok (.iload_n 1, 1) := by decide +kernel
theorem dX4_reset_81 : decode cX4_reset 81 = .ok (.iconst 0, 1) := by decide +kernel
theorem dX4_reset_82 : decode cX4_reset 82 = .ok (.bastore, 1) := by decide +kernel
theorem dX4_reset_83 : decode cX4_reset 83 = .ok (.aload_n 0, 1) := by decide +kernel
theorem dX4_reset_84 : decode cX4_reset 84 = .ok (.getfield 30, 3) := by decide +kernel
theorem dX4_reset_87 : decode cX4_reset 87 = .ok (.iload_n 1, 1) := by decide +kernel
theorem dX4_reset_88 : decode cX4_reset 88 = .ok (.iconst 0, 1) := by decide +kernel
theorem dX4_reset_89 : decode cX4_reset 89 = .ok (.bastore, 1) := by decide +kernel
theorem dX4_reset_90 : decode cX4_reset 90 = .ok (.aload_n 0, 1) := by decide +kernel
theorem dX4_reset_91 : decode cX4_reset 91 = .ok (.getfield 33, 3) := by decide +kernel
theorem dX4_reset_94 : decode cX4_reset 94 = .ok (.iload_n 1, 1) := by decide +kernel
theorem dX4_reset_95 : decode cX4_reset 95 = .ok (.iconst 0, 1) := by decide +kernel
theorem dX4_reset_96 : decode cX4_reset 96 = .ok (.iastore, 1) := by decide +kernel
theorem dX4_reset_97 : decode cX4_reset 97 = .ok (.aload_n 0, 1) := by decide +kernel
theorem dX4_reset_98 : decode cX4_reset 98 = .ok (.getfield 36, 3) := by decide +kernel
theorem dX4_reset_101 : decode cX4_reset 101 = .ok (.iload_n 1, 1) := by decide +kernel
theorem dX4_reset_102 : decode cX4_reset 102 = .ok (.iconst 0, 1) := by decide +kernel
theorem dX4_reset_103 : decode cX4_reset 103 = .ok (.iastore, 1) := by decide +kernel
theorem dX4_reset_104 : decode cX4_reset 104 = .ok (.aload_n 0, 1) := by decide +kernel
theorem dX4_reset_105 : decode cX4_reset 105 = .ok (.getfield 42, 3) := by decide +kernel
theorem dX4_reset_108 : decode cX4_reset 108 = .ok (.iload_n 1, 1) := by decide +kernel
theorem dX4_reset_109 : decode cX4_reset 109 = .ok (.iconst (-1), 1) := by decide +kernel
theorem dX4_reset_110 : decode cX4_reset 110 = .ok (.iastore, 1) := by decide +kernel
theorem dX4_reset_111 : decode cX4_reset 111 = .ok (.iinc 1 1, 3) := by decide +kernel
theorem dX4_reset_114 : decode cX4_reset 114 = .ok (.goto (-58), 3) := by decide +kernel
theorem dX4_reset_117 : decode cX4_reset 117 = .ok (.iconst 1, 1) := by decide +kernel
theorem dX4_reset_118 : decode cX4_reset 118 = .ok (.ireturn, 1) := by decide +kernel
theorem dX4_of_0 : decode cX4_of 0 = .ok (.aload_n 0, 1) := by decide +kernel
theorem dX4_of_1 : decode cX4_of 1 = .ok (.iconst 0, 1) := by decide +kernel
theorem dX4_of_2 : decode cX4_of 2 = .ok (.putfield 73, 3) := by decide +kernel
theorem dX4_of_5 : decode cX4_of 5 = .ok (.aload_n 0, 1) := by decide +kernel
theorem dX4_of_6 : decode cX4_of 6 = .ok (.iload_n 1, 1) := by decide +kernel
theorem dX4_of_7 : decode cX4_of 7 = .ok (.invokevirtual 93, 3) := by decide +kernel
theorem dX4_of_10 : decode cX4_of 10 = .ok (.ifCond .ne 5, 3) := by decide +kernel
theorem dX4_of_13 : decode cX4_of 13 = .ok (.iconst (-1), 1) := by decide +kernel
theorem dX4_of_14 : decode cX4_of 14 = .ok (.ireturn, 1) := by decide +kernel
theorem dX4_of_15 : decode cX4_of 15 = .ok (.iload_n 2, 1) := by decide +kernel
theorem dX4_of_16 : decode cX4_of 16 = .ok (.ifCond .ne 12, 3) := by decide +kernel
theorem dX4_of_19 : decode cX4_of 19 = .ok (.aload_n 0, 1) := by decide +kernel
theorem dX4_of_20 : decode cX4_of 20 = .ok (.getfield 20, 3) := by decide +kernel
theorem dX4_of_23 : decode cX4_of 23 = .ok (.iload_n 1, 1) := by decide +kernel
theorem dX4_of_24 : decode cX4_of 24 = .ok (.iaload, 1) := by decide +kernel
theorem dX4_of_25 : decode cX4_of 25 = .ok (.goto 97, 3) := by decide +kernel
theorem dX4_of_28 : decode cX4_of 28 = .ok (.iload_n 2, 1) := by decide +kernel
theorem dX4_of_29 : decode cX4_of 29 = .ok (.iconst 1, 1) := by decide +kernel
theorem dX4_of_30 : decode cX4_of 30 = .ok (.if_icmp .ne 20, 3) := by decide +kernel
theorem dX4_of_33 : decode cX4_of 33 = .ok (.aload_n 0, 1) := by decide +kernel
theorem dX4_of_34 : decode cX4_of 34 = .ok (.getfield 26, 3) := by decide +kernel
theorem dX4_of_37 : decode cX4_of 37 = .ok (.iload_n 1, 1) := by decide +kernel
theorem dX4_of_38 : decode cX4_of 38 = .ok (.baload, 1) := by decide +kernel
theorem dX4_of_39 : decode cX4_of 39 = .ok (.ifCond .eq 7, 3) := by decide +kernel
theorem dX4_of_42 : decode cX4_of 42 = .ok (.iconst 0, 1) := by decide +kernel
theorem dX4_of_43 : decode cX4_of 43 = .ok (.goto 79, 3) := by decide +kernel
theorem dX4_of_46 : decode cX4_of 46 = .ok (.iconst 1, 1) := by decide +kernel
theorem dX4_of_47 : decode cX4_of 47 = .ok (.goto 75, 3) := by decide +kernel
theorem dX4_of_50 : decode cX4_of 50 = .ok (.iload_n 2, 1) := by decide +kernel
theorem dX4_of_51 : decode cX4_of 51 = .ok (.iconst 2, 1) := by decide +kernel
theorem dX4_of_52 : decode cX4_of 52 = .ok (.if_icmp .ne 12, 3) := by decide +kernel
theorem dX4_of_55 : decode cX4_of 55 = .ok (.aload_n 0, 1) := by decide +kernel
theorem dX4_of_56 : decode cX4_of 56 = .ok (.getfield 33, 3) := by decide +kernel
theorem dX4_of_59 : decode cX4_of 59 = .ok (.iload_n 1, 1) := by decide +kernel
theorem dX4_of_60 : decode cX4_of 60 = .ok (.iaload, 1) := by decide +kernel
theorem dX4_of_61 : decode cX4_of 61 = .ok (.goto 61, 3) := by decide +kernel
theorem dX4_of_64 : decode cX4_of 64 = .ok (.iload_n 2, 1) := by decide +kernel
theorem dX4_of_65 : decode cX4_of 65 = .ok (.iconst 3, 1) := by decide +kernel
theorem dX4_of_66 : decode cX4_of 66 = .ok (.if_icmp .ne 12, 3) := by decide +kernel
theorem dX4_of_69 : decode cX4_of 69 = .ok (.aload_n 0, 1) := by decide +kernel
theorem dX4_of_70 : decode cX4_of 70 = .ok (.getfield 36, 3) := by decide +kernel
theorem dX4_of_73 : decode cX4_of 73 = .ok (.iload_n 1, 1) := by decide +kernel
theorem dX4_of_74 : decode cX4_of 74 = .ok (.iaload, 1) := by decide +kernel
theorem dX4_of_75 : decode cX4_of 75 = .ok (.goto 47, 3) := by decide +kernel
theorem dX4_of_78 : decode cX4_of 78 = .ok (.iload_n 2, 1) := by decide +kernel
theorem dX4_of_79 : decode cX4_of 79 = .ok (.iconst 4, 1) := by decide +kernel
theorem dX4_of_80 : decode cX4_of 80 = .ok (.if_icmp .ne 12, 3) := by decide +kernel
theorem dX4_of_83 : decode cX4_of 83 = .ok (.aload_n 0, 1) := by decide +kernel
theorem dX4_of_84 : decode cX4_of 84 = .ok (.getfield 7, 3) := by decide +kernel
theorem dX4_of_87 : decode cX4_of 87 = .ok (.iload_n 1, 1) := by decide +kernel
theorem dX4_of_88 : decode cX4_of 88 = .ok (.iaload, 1) := by decide +kernel
theorem dX4_of_89 : decode cX4_of 89 = .ok (.goto 33, 3) := by decide +kernel
theorem dX4_of_92 : decode cX4_of 92 = .ok (.iload_n 2, 1) := by decide +kernel
theorem dX4_of_93 : decode cX4_of 93 = .ok (.iconst 5, 1) := by decide +kernel
theorem dX4_of_94 : decode cX4_of 94 = .ok (.if_icmp .ne 12, 3) := by decide +kernel
theorem dX4_of_97 : decode cX4_of 97 = .ok (.aload_n 0, 1) := by decide +kernel
theorem dX4_of_98 : decode cX4_of 98 = .ok (.getfield 42, 3) := by decide +kernel
theorem dX4_of_101 : decode cX4_of 101 = .ok (.iload_n 1, 1) := by decide +kernel
theorem dX4_of_102 : decode cX4_of 102 = .ok (.iaload, 1) := by decide +kernel
theorem dX4_of_103 : decode cX4_of 103 = .ok (.goto 19, 3) := by decide +kernel
theorem dX4_of_106 : decode cX4_of 106 = .ok (.iload_n 2, 1) := by decide +kernel
theorem dX4_of_107 : decode cX4_of 107 = .ok (.bipush 6, 2) := by decide +kernel
theorem dX4_of_109 : decode cX4_of 109 = .ok (.if_icmp .ne 12, 3) := by decide +kernel
theorem dX4_of_112 : decode cX4_of 112 = .ok (.aload_n 0, 1) := by decide +kernel
theorem dX4_of_113 : decode cX4_of 113 = .ok (.getfield 23, 3) := by decide +kernel
theorem dX4_of_116 : decode cX4_of 116 = .ok (.iload_n 1, 1) := by decide +kernel
theorem dX4_of_117 : decode cX4_of 117 = .ok (.iaload, 1) := by decide +kernel
theorem dX4_of_118 : decode cX4_of 118 = .ok (.goto 4, 3) := by decide +kernel
theorem dX4_of_121 : decode cX4_of 121 = .ok (.iconst (-1), 1) := by decide +kernel
theorem dX4_of_122 : decode cX4_of 122 = .ok (.ireturn, 1) := by decide +kernel
theorem dX4_count_0 : decode cX4_count 0 = .ok (.aload_n 0, 1) := by decide +kernel
theorem dX4_count_1 : decode cX4_count 1 = .ok (.iconst 0, 1) := by decide +kernel
theorem dX4_count_2 : decode cX4_count 2 = .ok (.putfield 73, 3) := by decide +kernel
theorem dX4_count_5 : decode cX4_count 5 = .ok (.iload_n 1, 1) := by decide +kernel
theorem dX4_count_6 : decode cX4_count 6 = .ok (.tableswitch 104 0 9 #[54, 59, 64, 69, 74, 79, 84, 89, 94, 99], 54) := by decide +kernel
theorem dX4_count_60 : decode cX4_count 60 = .ok (.aload_n 0, 1) := by decide +kernel
theorem dX4_count_61 : decode cX4_count 61 = .ok (.getfield 106, 3) := by decide +kernel
theorem dX4_count_64 : decode cX4_count 64 = .ok (.ireturn, 1) := by decide +kernel
theorem dX4_count_65 : decode cX4_count 65 = .ok (.aload_n 0, 1) := by decide +kernel
theorem dX4_count_66 : decode cX4_count 66 = .ok (.getfield 97, 3) := by decide +kernel
theorem dX4_count_69 : decode cX4_count 69 = .ok (.ireturn, 1) := by decide +kernel
theorem dX4_count_70 : decode cX4_count 70 = .ok (.aload_n 0, 1) := by decide +kernel
theorem dX4_count_71 : decode cX4_count 71 = .ok (.getfield 179, 3) := by decide +kernel
theorem dX4_count_74 : decode cX4_count 74 = .ok (.ireturn, 1) := by decide +kernel
theorem dX4_count_75 : decode cX4_count 75 = .ok (.aload_n 0, 1) := by decide +kernel
theorem dX4_count_76 : decode cX4_count 76 = .ok (.getfield 100, 3) := by decide +kernel
theorem dX4_count_79 : decode cX4_count 79 = .ok (.ireturn, 1) := by decide +kernel
theorem dX4_count_80 : decode cX4_count 80 = .ok (.aload_n 0, 1) := by decide +kernel
theorem dX4_count_81 : decode cX4_count 81 = .ok (.getfield 170, 3) := by decide +kernel
theorem dX4_count_84 : decode cX4_count 84 = .ok (.ireturn, 1) := by decide +kernel
theorem dX4_count_85 : decode cX4_count 85 = .ok (.aload_n 0, 1) := by decide +kernel
theorem dX4_count_86 : decode cX4_count 86 = .ok (.getfield 76, 3) := by decide +kernel
theorem dX4_count_89 : decode cX4_count 89 = .ok (.ireturn, 1) := by decide +kernel
theorem dX4_count_90 : decode cX4_count 90 = .ok (.aload_n 0, 1) := by decide +kernel
theorem dX4_count_91 : decode cX4_count 91 = .ok (.getfield 87, 3) := by decide +kernel
theorem dX4_count_94 : decode cX4_count 94 = .ok (.ireturn, 1) := by decide +kernel
theorem dX4_count_95 : decode cX4_count 95 = .ok (.aload_n 0, 1) := by decide +kernel
theorem dX4_count_96 : decode cX4_count 96 = .ok (.getfield 90, 3) := by decide +kernel
theorem dX4_count_99 : decode cX4_count 99 = .ok (.ireturn, 1) := by decide +kernel
theorem dX4_count_100 : decode cX4_count 100 = .ok (.aload_n 0, 1) := by decide +kernel
theorem dX4_count_101 : decode cX4_count 101 = .ok (.getfield 13, 3) := by decide +kernel
theorem dX4_count_104 : decode cX4_count 104 = .ok (.ireturn, 1) := by decide +kernel
theorem dX4_count_105 : decode cX4_count 105 = .ok (.aload_n 0, 1) := by decide +kernel
theorem dX4_count_106 : decode cX4_count 106 = .ok (.getfield 103, 3) := by decide +kernel
theorem dX4_count_109 : decode cX4_count 109 = .ok (.ireturn, 1) := by decide +kernel
theorem dX4_count_110 : decode cX4_count 110 = .ok (.iconst (-1), 1) := by decide +kernel
theorem dX4_count_111 : decode cX4_count 111 = .ok (.ireturn, 1) := by decide +kernel
theorem dX4_delay_0 : decode cX4_delay 0 = .ok (.aload_n 0, 1) := by decide +kernel
theorem dX4_delay_1 : decode cX4_delay 1 = .ok (.iconst 0, 1) := by decide +kernel
theorem dX4_delay_2 : decode cX4_delay 2 = .ok (.putfield 73, 3) := by decide +kernel
theorem dX4_delay_5 : decode cX4_delay 5 = .ok (.aload_n 0, 1) := by decide +kernel
theorem dX4_delay_6 : decode cX4_delay 6 = .ok (.iload_n 1, 1) := by decide +kernel
theorem dX4_delay_7 : decode cX4_delay 7 = .ok (.invokevirtual 93, 3) := by decide +kernel
theorem dX4_delay_10 : decode cX4_delay 10 = .ok (.ifCond .eq 30, 3) := by decide +kernel
theorem dX4_delay_13 : decode cX4_delay 13 = .ok (.aload_n 0, 1) := by decide +kernel
theorem dX4_delay_14 : decode cX4_delay 14 = .ok (.iload_n 2, 1) := by decide +kernel
theorem dX4_delay_15 : decode cX4_delay 15 = .ok (.invokevirtual 93, 3) := by decide +kernel
theorem dX4_delay_18 : decode cX4_delay 18 = .ok (.ifCond .eq 22, 3) := by decide +kernel
theorem dX4_delay_21 : decode cX4_delay 21 = .ok (.iload_n 1, 1) := by decide +kernel
theorem dX4_delay_22 : decode cX4_delay 22 = .ok (.iload_n 2, 1) := by decide +kernel
theorem dX4_delay_23 : decode cX4_delay 23 = .ok (.if_icmp .eq 17, 3) := by decide +kernel
theorem dX4_delay_26 : decode cX4_delay 26 = .ok (.aload_n 0, 1) := by decide +kernel
theorem dX4_delay_27 : decode cX4_delay 27 = .ok (.getfield 17, 3) := by decide +kernel
theorem dX4_delay_30 : decode cX4_delay 30 = .ok (.bipush 8, 2) := by decide +kernel
theorem dX4_delay_32 : decode cX4_delay 32 = .ok (.iload_n 1, 1) := by decide +kernel
theorem dX4_delay_33 : decode cX4_delay 33 = .ok (.imul, 1) := by decide +kernel
theorem dX4_delay_34 : decode cX4_delay 34 = .ok (.iload_n 2, 1) := by decide +kernel
theorem dX4_delay_35 : decode cX4_delay 35 = .ok (.iadd, 1) := by decide +kernel
theorem dX4_delay_36 : decode cX4_delay 36 = .ok (.iaload, 1) := by decide +kernel
theorem dX4_delay_37 : decode cX4_delay 37 = .ok (.goto 4, 3) := by decide +kernel
theorem dX4_delay_40 : decode cX4_delay 40 = .ok (.iconst (-1), 1) := by decide +kernel
theorem dX4_delay_41 : decode cX4_delay 41 = .ok (.ireturn, 1) := by decide +kernel
theorem dX4_weight_0 : decode cX4_weight 0 = .ok (.aload_n 0, 1) := by decide +kernel
theorem dX4_weight_1 : decode cX4_weight 1 = .ok (.iconst 0, 1) := by decide +kernel
theorem dX4_weight_2 : decode cX4_weight 2 = .ok (.putfield 73, 3) := by decide +kernel
theorem dX4_weight_5 : decode cX4_weight 5 = .ok (.iconst 0, 1) := by decide +kernel
theorem dX4_weight_6 : decode cX4_weight 6 = .ok (.istore_n 2, 1) := by decide +kernel
theorem dX4_weight_7 : decode cX4_weight 7 = .ok (.iconst 0, 1) := by decide +kernel
theorem dX4_weight_8 : decode cX4_weight 8 = .ok (.istore_n 3, 1) := by decide +kernel
theorem dX4_weight_9 : decode cX4_weight 9 = .ok (.iload_n 3, 1) := by decide +kernel
theorem dX4_weight_10 : decode cX4_weight 10 = .ok (.aload_n 0, 1) := by decide +kernel
theorem dX4_weight_11 : decode cX4_weight 11 = .ok (.getfield 76, 3) := by decide +kernel
theorem dX4_weight_14 : decode cX4_weight 14 = .ok (.if_icmp .ge 32, 3) := by decide +kernel
theorem dX4_weight_17 : decode cX4_weight 17 = .ok (.aload_n 0, 1) := by decide +kernel
theorem dX4_weight_18 : decode cX4_weight 18 = .ok (.getfield 20, 3) := by decide +kernel
theorem dX4_weight_21 : decode cX4_weight 21 = .ok (.iload_n 3, 1) := by decide +kernel
theorem dX4_weight_22 : decode cX4_weight 22 = .ok (.iaload, 1) := by decide +kernel
theorem dX4_weight_23 : decode cX4_weight 23 = .ok (.iload_n 1, 1) := by decide +kernel
theorem dX4_weight_24 : decode cX4_weight 24 = .ok (.if_icmp .ne 14, 3) := by decide +kernel
theorem dX4_weight_27 : decode cX4_weight 27 = .ok (.iload_n 2, 1) := by decide +kernel
theorem dX4_weight_28 : decode cX4_weight 28 = .ok (.aload_n 0, 1) := by decide +kernel
theorem dX4_weight_29 : decode cX4_weight 29 = .ok (.getfield 7, 3) := by decide +kernel
theorem dX4_weight_32 : decode cX4_weight 32 = .ok (.iload_n 3, 1) := by decide +kernel
theorem dX4_weight_33 : decode cX4_weight 33 = .ok (.iaload, 1) := by decide +kernel
theorem dX4_weight_34 : decode cX4_weight 34 = .ok (.iadd, 1) := by decide +kernel
theorem dX4_weight_35 : decode cX4_weight 35 = .ok (.goto 4, 3) := by decide +kernel
theorem dX4_weight_38 : decode cX4_weight 38 = .ok (.iload_n 2, 1) := by decide +kernel
theorem dX4_weight_39 : decode cX4_weight 39 = .ok (.istore_n 2, 1) := by decide +kernel
theorem dX4_weight_40 : decode cX4_weight 40 = .ok (.iinc 3 1, 3) := by decide +kernel
theorem dX4_weight_43 : decode cX4_weight 43 = .ok (.goto (-34), 3) := by decide +kernel
theorem dX4_weight_46 : decode cX4_weight 46 = .ok (.iload_n 2, 1) := by decide +kernel
theorem dX4_weight_47 : decode cX4_weight 47 = .ok (.ireturn, 1) := by decide +kernel
theorem dX4_latest_0 : decode cX4_latest 0 = .ok (.aload_n 0, 1) := by decide +kernel
theorem dX4_latest_1 : decode cX4_latest 1 = .ok (.iconst 0, 1) := by decide +kernel
theorem dX4_latest_2 : decode cX4_latest 2 = .ok (.putfield 73, 3) := by decide +kernel
theorem dX4_latest_5 : decode cX4_latest 5 = .ok (.iload_n 1, 1) := by decide +kernel
theorem dX4_latest_6 : decode cX4_latest 6 = .ok (.ifCond .lt 17, 3) := by decide +kernel
theorem dX4_latest_9 : decode cX4_latest 9 = .ok (.iload_n 1, 1) := by decide +kernel
theorem dX4_latest_10 : decode cX4_latest 10 = .ok (.iconst 4, 1) := by decide +kernel
theorem dX4_latest_11 : decode cX4_latest 11 = .ok (.if_icmp .gt 12, 3) := by decide +kernel
theorem dX4_latest_14 : decode cX4_latest 14 = .ok (.aload_n 0, 1) := by decide +kernel
theorem dX4_latest_15 : decode cX4_latest 15 = .ok (.getfield 70, 3) := by decide +kernel
theorem dX4_latest_18 : decode cX4_latest 18 = .ok (.iload_n 1, 1) := by decide +kernel
theorem dX4_latest_19 : decode cX4_latest 19 = .ok (.iaload, 1) := by decide +kernel
theorem dX4_latest_20 : decode cX4_latest 20 = .ok (.goto 4, 3) := by decide +kernel
theorem dX4_latest_23 : decode cX4_latest 23 = .ok (.iconst (-1), 1) := by decide +kernel
theorem dX4_latest_24 : decode cX4_latest 24 = .ok (.ireturn, 1) := by decide +kernel
theorem dX4_check_0 : decode cX4_check 0 = .ok (.aload_n 0, 1) := by decide +kernel
theorem dX4_check_1 : decode cX4_check 1 = .ok (.iconst 0, 1) := by decide +kernel
theorem dX4_check_2 : decode cX4_check 2 = .ok (.putfield 73, 3) := by decide +kernel
theorem dX4_check_5 : decode cX4_check 5 = .ok (.iconst 1, 1) := by decide +kernel
theorem dX4_check_6 : decode cX4_check 6 = .ok (.ireturn, 1) := by decide +kernel
theorem dL_law_0 : decode cL_law 0 = .ok (.new 7, 3) := by decide +kernel
theorem dL_law_3 : decode cL_law 3 = .ok (.dup, 1) := by decide +kernel
theorem dL_law_4 : decode cL_law 4 = .ok (.invokespecial 9, 3) := by decide +kernel
theorem dL_law_7 : decode cL_law 7 = .ok (.astore_n 1, 1) := by decide +kernel
theorem dL_law_8 : decode cL_law 8 = .ok (.new 10, 3) := by decide +kernel
theorem dL_law_11 : decode cL_law 11 = .ok (.dup, 1) := by decide +kernel
theorem dL_law_12 : decode cL_law 12 = .ok (.invokespecial 12, 3) := by decide +kernel
theorem dL_law_15 : decode cL_law 15 = .ok (.astore_n 2, 1) := by decide +kernel
theorem dL_law_16 : decode cL_law 16 = .ok (.iconst 0, 1) := by decide +kernel
theorem dL_law_17 : decode cL_law 17 = .ok (.istore_n 3, 1) := by decide +kernel
theorem dL_law_18 : decode cL_law 18 = .ok (.iload_n 3, 1) := by decide +kernel
theorem dL_law_19 : decode cL_law 19 = .ok (.aload_n 0, 1) := by decide +kernel
theorem dL_law_20 : decode cL_law 20 = .ok (.arraylength, 1) := by decide +kernel
theorem dL_law_21 : decode cL_law 21 = .ok (.iconst 4, 1) := by decide +kernel
theorem dL_law_22 : decode cL_law 22 = .ok (.isub, 1) := by decide +kernel
theorem dL_law_23 : decode cL_law 23 = .ok (.if_icmp .gt 530, 3) := by decide +kernel
theorem dL_law_26 : decode cL_law 26 = .ok (.aload_n 0, 1) := by decide +kernel
theorem dL_law_27 : decode cL_law 27 = .ok (.iload_n 3, 1) := by decide +kernel
theorem dL_law_28 : decode cL_law 28 = .ok (.iaload, 1) := by decide +kernel
theorem dL_law_29 : decode cL_law 29 = .ok (.bipush 31, 2) := by decide +kernel
theorem dL_law_31 : decode cL_law 31 = .ok (.iand, 1) := by decide +kernel
theorem dL_law_32 : decode cL_law 32 = .ok (.tableswitch 515 0 16 #[84, 107, 140, 183, 216, 239, 272, 295, 318, 341, 354, 367, 400, 423, 456, 479, 502], 84) := by decide +kernel
theorem dL_law_116 : decode cL_law 116 = .ok (.aload_n 1, 1) := by decide +kernel
theorem dL_law_117 : decode cL_law 117 = .ok (.aload_n 0, 1) := by decide +kernel
theorem dL_law_118 : decode cL_law 118 = .ok (.iload_n 3, 1) := by decide +kernel
theorem dL_law_119 : decode cL_law 119 = .ok (.iconst 1, 1) := by decide +kernel
theorem dL_law_120 : decode cL_law 120 = .ok (.iadd, 1) := by decide +kernel
theorem dL_law_121 : decode cL_law 121 = .ok (.iaload, 1) := by decide +kernel
theorem dL_law_122 : decode cL_law 122 = .ok (.invokevirtual 13, 3) := by decide +kernel
theorem dL_law_125 : decode cL_law 125 = .ok (.pop, 1) := by decide +kernel
theorem dL_law_126 : decode cL_law 126 = .ok (.aload_n 2, 1) := by decide +kernel
theorem dL_law_127 : decode cL_law 127 = .ok (.aload_n 0, 1) := by decide +kernel
theorem dL_law_128 : decode cL_law 128 = .ok (.iload_n 3, 1) := by decide +kernel
theorem dL_law_129 : decode cL_law 129 = .ok (.iconst 1, 1) := by decide +kernel
theorem dL_law_130 : decode cL_law 130 = .ok (.iadd, 1) := by decide +kernel
theorem dL_law_131 : decode cL_law 131 = .ok (.iaload, 1) := by decide +kernel
theorem dL_law_132 : decode cL_law 132 = .ok (.invokevirtual 17, 3) := by decide +kernel
theorem dL_law_135 : decode cL_law 135 = .ok (.pop, 1) := by decide +kernel
theorem dL_law_136 : decode cL_law 136 = .ok (.goto 411, 3) := by decide +kernel
theorem dL_law_139 : decode cL_law 139 = .ok (.aload_n 1, 1) := by decide +kernel
theorem dL_law_140 : decode cL_law 140 = .ok (.aload_n 0, 1) := by decide +kernel
theorem dL_law_141 : decode cL_law 141 = .ok (.iload_n 3, 1) := by decide +kernel
theorem dL_law_142 : decode cL_law 142 = .ok (.iconst 1, 1) := by decide +kernel
theorem dL_law_143 : decode cL_law 143 = .ok (.iadd, 1) := by decide +kernel
theorem dL_law_144 : decode cL_law 144 = .ok (.iaload, 1) := by decide +kernel
theorem dL_law_145 : decode cL_law 145 = .ok (.aload_n 0, 1) := by decide +kernel
theorem dL_law_146 : decode cL_law 146 = .ok (.iload_n 3, 1) := by decide +kernel
theorem dL_law_147 : decode cL_law 147 = .ok (.iconst 2, 1) := by decide +kernel
theorem dL_law_148 : decode cL_law 148 = .ok (.iadd, 1) := by decide +kernel
theorem dL_law_149 : decode cL_law 149 = .ok (.iaload, 1) := by decide +kernel
theorem dL_law_150 : decode cL_law 150 = .ok (.invokevirtual 18, 3) := by decide +kernel
theorem dL_law_153 : decode cL_law 153 = .ok (.pop, 1) := by decide +kernel
theorem dL_law_154 : decode cL_law 154 = .ok (.aload_n 2, 1) := by decide +kernel
theorem dL_law_155 : decode cL_law 155 = .ok (.aload_n 0, 1) := by decide +kernel
theorem dL_law_156 : decode cL_law 156 = .ok (.iload_n 3, 1) := by decide +kernel
theorem dL_law_157 : decode cL_law 157 = .ok (.iconst 1, 1) := by decide +kernel
theorem dL_law_158 : decode cL_law 158 = .ok (.iadd, 1) := by decide +kernel
theorem dL_law_159 : decode cL_law 159 = .ok (.iaload, 1) := by decide +kernel
theorem dL_law_160 : decode cL_law 160 = .ok (.aload_n 0, 1) := by decide +kernel
theorem dL_law_161 : decode cL_law 161 = .ok (.iload_n 3, 1) := by decide +kernel
theorem dL_law_162 : decode cL_law 162 = .ok (.iconst 2, 1) := by decide +kernel
theorem dL_law_163 : decode cL_law 163 = .ok (.iadd, 1) := by decide +kernel
theorem dL_law_164 : decode cL_law 164 = .ok (.iaload, 1) := by decide +kernel
theorem dL_law_165 : decode cL_law 165 = .ok (.invokevirtual 22, 3) := by decide +kernel
theorem dL_law_168 : decode cL_law 168 = .ok (.pop, 1) := by decide +kernel
theorem dL_law_169 : decode cL_law 169 = .ok (.goto 378, 3) := by decide +kernel
theorem dL_law_172 : decode cL_law 172 = .ok (.aload_n 1, 1) := by decide +kernel
theorem dL_law_173 : decode cL_law 173 = .ok (.aload_n 0, 1) := by decide +kernel
theorem dL_law_174 : decode cL_law 174 = .ok (.iload_n 3, 1) := by decide +kernel
theorem dL_law_175 : decode cL_law 175 = .ok (.iconst 1, 1) := by decide +kernel
theorem dL_law_176 : decode cL_law 176 = .ok (.iadd, 1) := by decide +kernel
theorem dL_law_177 : decode cL_law 177 = .ok (.iaload, 1) := by decide +kernel
theorem dL_law_178 : decode cL_law 178 = .ok (.aload_n 0, 1) := by decide +kernel
theorem dL_law_179 : decode cL_law 179 = .ok (.iload_n 3, 1) := by decide +kernel
theorem dL_law_180 : decode cL_law 180 = .ok (.iconst 2, 1) := by decide +kernel
theorem dL_law_181 : decode cL_law 181 = .ok (.iadd, 1) := by decide +kernel
theorem dL_law_182 : decode cL_law 182 = .ok (.iaload, 1) := by decide +kernel
theorem dL_law_183 : decode cL_law 183 = .ok (.aload_n 0, 1) := by decide +kernel
theorem dL_law_184 : decode cL_law 184 = .ok (.iload_n 3, 1) := by decide +kernel
theorem dL_law_185 : decode cL_law 185 = .ok (.iconst 3, 1) := by decide +kernel
theorem dL_law_186 : decode cL_law 186 = .ok (.iadd, 1) := by decide +kernel
theorem dL_law_187 : decode cL_law 187 = .ok (.iaload, 1) := by decide +kernel
theorem dL_law_188 : decode cL_law 188 = .ok (.invokevirtual 23, 3) := by decide +kernel
theorem dL_law_191 : decode cL_law 191 = .ok (.pop, 1) := by decide +kernel
theorem dL_law_192 : decode cL_law 192 = .ok (.aload_n 2, 1) := by decide +kernel
theorem dL_law_193 : decode cL_law 193 = .ok (.aload_n 0, 1) := by decide +kernel
theorem dL_law_194 : decode cL_law 194 = .ok (.iload_n 3, 1) := by decide +kernel
theorem dL_law_195 : decode cL_law 195 = .ok (.iconst 1, 1) := by decide +kernel
theorem dL_law_196 : decode cL_law 196 = .ok (.iadd, 1) := by decide +kernel
theorem dL_law_197 : decode cL_law 197 = .ok (.iaload, 1) := by decide +kernel
theorem dL_law_198 : decode cL_law 198 = .ok (.aload_n 0, 1) := by decide +kernel
theorem dL_law_199 : decode cL_law 199 = .ok (.iload_n 3, 1) := by decide +kernel
theorem dL_law_200 : decode cL_law 200 = .ok (.iconst 2, 1) := by decide +kernel
theorem dL_law_201 : decode cL_law 201 = .ok (.iadd, 1) := by decide +kernel
theorem dL_law_202 : decode cL_law 202 = .ok (.iaload, 1) := by decide +kernel
theorem dL_law_203 : decode cL_law 203 = .ok (.aload_n 0, 1) := by decide +kernel
theorem dL_law_204 : decode cL_law 204 = .ok (.iload_n 3, 1) := by decide +kernel
theorem dL_law_205 : decode cL_law 205 = .ok (.iconst 3, 1) := by decide +kernel
theorem dL_law_206 : decode cL_law 206 = .ok (.iadd, 1) := by decide +kernel
theorem dL_law_207 : decode cL_law 207 = .ok (.iaload, 1) := by decide +kernel
theorem dL_law_208 : decode cL_law 208 = .ok (.invokevirtual 27, 3) := by decide +kernel
theorem dL_law_211 : decode cL_law 211 = .ok (.pop, 1) := by decide +kernel
theorem dL_law_212 : decode cL_law 212 = .ok (.goto 335, 3) := by decide +kernel
theorem dL_law_215 : decode cL_law 215 = .ok (.aload_n 1, 1) := by decide +kernel
theorem dL_law_216 : decode cL_law 216 = .ok (.aload_n 0, 1) := by decide +kernel
theorem dL_law_217 : decode cL_law 217 = .ok (.iload_n 3, 1) := by decide +kernel
theorem dL_law_218 : decode cL_law 218 = .ok (.iconst 1, 1) := by decide +kernel
theorem dL_law_219 : decode cL_law 219 = .ok (.iadd, 1) := by decide +kernel
theorem dL_law_220 : decode cL_law 220 = .ok (.iaload, 1) := by decide +kernel
theorem dL_law_221 : decode cL_law 221 = .ok (.aload_n 0, 1) := by decide +kernel
theorem dL_law_222 : decode cL_law 222 = .ok (.iload_n 3, 1) := by decide +kernel
theorem dL_law_223 : decode cL_law 223 = .ok (.iconst 2, 1) := by decide +kernel
theorem dL_law_224 : decode cL_law 224 = .ok (.iadd, 1) := by decide +kernel
theorem dL_law_225 : decode cL_law 225 = .ok (.iaload, 1) := by decide +kernel
theorem dL_law_226 : decode cL_law 226 = .ok (.invokevirtual 28, 3) := by decide +kernel
theorem dL_law_229 : decode cL_law 229 = .ok (.pop, 1) := by decide +kernel
theorem dL_law_230 : decode cL_law 230 = .ok (.aload_n 2, 1) := by decide +kernel
theorem dL_law_231 : decode cL_law 231 = .ok (.aload_n 0, 1) := by decide +kernel
theorem dL_law_232 : decode cL_law 232 = .ok (.iload_n 3, 1) := by decide +kernel
theorem dL_law_233 : decode cL_law 233 = .ok (.iconst 1, 1) := by decide +kernel
theorem dL_law_234 : decode cL_law 234 = .ok (.iadd, 1) := by decide +kernel
theorem dL_law_235 : decode cL_law 235 = .ok (.iaload, 1) := by decide +kernel
theorem dL_law_236 : decode cL_law 236 = .ok (.aload_n 0, 1) := by decide +kernel
theorem dL_law_237 : decode cL_law 237 = .ok (.iload_n 3, 1) := by decide +kernel
theorem dL_law_238 : decode cL_law 238 = .ok (.iconst 2, 1) := by decide +kernel
theorem dL_law_239 : decode cL_law 239 = .ok (.iadd, 1) := by decide +kernel
theorem dL_law_240 : decode cL_law 240 = .ok (.iaload, 1) := by decide +kernel
theorem dL_law_241 : decode cL_law 241 = .ok (.invokevirtual 31, 3) := by decide +kernel
theorem dL_law_244 : decode cL_law 244 = .ok (.pop, 1) := by decide +kernel
theorem dL_law_245 : decode cL_law 245 = .ok (.goto 302, 3) := by decide +kernel
theorem dL_law_248 : decode cL_law 248 = .ok (.aload_n 1, 1) := by decide +kernel
theorem dL_law_249 : decode cL_law 249 = .ok (.aload_n 0, 1) := by decide +kernel
theorem dL_law_250 : decode cL_law 250 = .ok (.iload_n 3, 1) := by decide +kernel
theorem dL_law_251 : decode cL_law 251 = .ok (.iconst 1, 1) := by decide +kernel
theorem dL_law_252 : decode cL_law 252 = .ok (.iadd, 1) := by decide +kernel
theorem dL_law_253 : decode cL_law 253 = .ok (.iaload, 1) := by decide +kernel
theorem dL_law_254 : decode cL_law 254 = .ok (.invokevirtual 32, 3) := by decide +kernel
theorem dL_law_257 : decode cL_law 257 = .ok (.pop, 1) := by decide +kernel
theorem dL_law_258 : decode cL_law 258 = .ok (.aload_n 2, 1) := by decide +kernel
theorem dL_law_259 : decode cL_law 259 = .ok (.aload_n 0, 1) := by decide +kernel
theorem dL_law_260 : decode cL_law 260 = .ok (.iload_n 3, 1) := by decide +kernel
theorem dL_law_261 : decode cL_law 261 = .ok (.iconst 1, 1) := by decide +kernel
theorem dL_law_262 : decode cL_law 262 = .ok (.iadd, 1) := by decide +kernel
theorem dL_law_263 : decode cL_law 263 = .ok (.iaload, 1) := by decide +kernel
theorem dL_law_264 : decode cL_law 264 = .ok (.invokevirtual 35, 3) := by decide +kernel
theorem dL_law_267 : decode cL_law 267 = .ok (.pop, 1) := by decide +kernel
theorem dL_law_268 : decode cL_law 268 = .ok (.goto 279, 3) := by decide +kernel
theorem dL_law_271 : decode cL_law 271 = .ok (.aload_n 1, 1) := by decide +kernel
theorem dL_law_272 : decode cL_law 272 = .ok (.aload_n 0, 1) := by decide +kernel
theorem dL_law_273 : decode cL_law 273 = .ok (.iload_n 3, 1) := by decide +kernel
theorem dL_law_274 : decode cL_law 274 = .ok (.iconst 1, 1) := by decide +kernel
theorem dL_law_275 : decode cL_law 275 = .ok (.iadd, 1) := by decide +kernel
theorem dL_law_276 : decode cL_law 276 = .ok (.iaload, 1) := by decide +kernel
theorem dL_law_277 : decode cL_law 277 = .ok (.aload_n 0, 1) := by decide +kernel
theorem dL_law_278 : decode cL_law 278 = .ok (.iload_n 3, 1) := by decide +kernel
theorem dL_law_279 : decode cL_law 279 = .ok (.iconst 2, 1) := by decide +kernel
theorem dL_law_280 : decode cL_law 280 = .ok (.iadd, 1) := by decide +kernel
theorem dL_law_281 : decode cL_law 281 = .ok (.iaload, 1) := by decide +kernel
theorem dL_law_282 : decode cL_law 282 = .ok (.invokevirtual 36, 3) := by decide +kernel
theorem dL_law_285 : decode cL_law 285 = .ok (.pop, 1) := by decide +kernel
theorem dL_law_286 : decode cL_law 286 = .ok (.aload_n 2, 1) := by decide +kernel
theorem dL_law_287 : decode cL_law 287 = .ok (.aload_n 0, 1) := by decide +kernel
theorem dL_law_288 : decode cL_law 288 = .ok (.iload_n 3, 1) := by decide +kernel
theorem dL_law_289 : decode cL_law 289 = .ok (.iconst 1, 1) := by decide +kernel
theorem dL_law_290 : decode cL_law 290 = .ok (.iadd, 1) := by decide +kernel
theorem dL_law_291 : decode cL_law 291 = .ok (.iaload, 1) := by decide +kernel
theorem dL_law_292 : decode cL_law 292 = .ok (.aload_n 0, 1) := by decide +kernel
theorem dL_law_293 : decode cL_law 293 = .ok (.iload_n 3, 1) := by decide +kernel
theorem dL_law_294 : decode cL_law 294 = .ok (.iconst 2, 1) := by decide +kernel
theorem dL_law_295 : decode cL_law 295 = .ok (.iadd, 1) := by decide +kernel
theorem dL_law_296 : decode cL_law 296 = .ok (.iaload, 1) := by decide +kernel
theorem dL_law_297 : decode cL_law 297 = .ok (.invokevirtual 39, 3) := by decide +kernel
theorem dL_law_300 : decode cL_law 300 = .ok (.pop, 1) := by decide +kernel
theorem dL_law_301 : decode cL_law 301 = .ok (.goto 246, 3) := by decide +kernel
theorem dL_law_304 : decode cL_law 304 = .ok (.aload_n 1, 1) := by decide +kernel
theorem dL_law_305 : decode cL_law 305 = .ok (.aload_n 0, 1) := by decide +kernel
theorem dL_law_306 : decode cL_law 306 = .ok (.iload_n 3, 1) := by decide +kernel
theorem dL_law_307 : decode cL_law 307 = .ok (.iconst 1, 1) := by decide +kernel
theorem dL_law_308 : decode cL_law 308 = .ok (.iadd, 1) := by decide +kernel
theorem dL_law_309 : decode cL_law 309 = .ok (.iaload, 1) := by decide +kernel
theorem dL_law_310 : decode cL_law 310 = .ok (.invokevirtual 40, 3) := by decide +kernel
theorem dL_law_313 : decode cL_law 313 = .ok (.pop, 1) := by decide +kernel
theorem dL_law_314 : decode cL_law 314 = .ok (.aload_n 2, 1) := by decide +kernel
theorem dL_law_315 : decode cL_law 315 = .ok (.aload_n 0, 1) := by decide +kernel
theorem dL_law_316 : decode cL_law 316 = .ok (.iload_n 3, 1) := by decide +kernel
theorem dL_law_317 : decode cL_law 317 = .ok (.iconst 1, 1) := by decide +kernel
theorem dL_law_318 : decode cL_law 318 = .ok (.iadd, 1) := by decide +kernel
theorem dL_law_319 : decode cL_law 319 = .ok (.iaload, 1) := by decide +kernel
theorem dL_law_320 : decode cL_law 320 = .ok (.invokevirtual 43, 3) := by decide +kernel
theorem dL_law_323 : decode cL_law 323 = .ok (.pop, 1) := by decide +kernel
theorem dL_law_324 : decode cL_law 324 = .ok (.goto 223, 3) := by decide +kernel
theorem dL_law_327 : decode cL_law 327 = .ok (.aload_n 1, 1) := by decide +kernel
theorem dL_law_328 : decode cL_law 328 = .ok (.aload_n 0, 1) := by decide +kernel
theorem dL_law_329 : decode cL_law 329 = .ok (.iload_n 3, 1) := by decide +kernel
theorem dL_law_330 : decode cL_law 330 = .ok (.iconst 1, 1) := by decide +kernel
theorem dL_law_331 : decode cL_law 331 = .ok (.iadd, 1) := by decide +kernel
theorem dL_law_332 : decode cL_law 332 = .ok (.iaload, 1) := by decide +kernel
theorem dL_law_333 : decode cL_law 333 = .ok (.invokevirtual 44, 3) := by decide +kernel
theorem dL_law_336 : decode cL_law 336 = .ok (.pop, 1) := by decide +kernel
theorem dL_law_337 : decode cL_law 337 = .ok (.aload_n 2, 1) := by decide +kernel
theorem dL_law_338 : decode cL_law 338 = .ok (.aload_n 0, 1) := by decide +kernel
theorem dL_law_339 : decode cL_law 339 = .ok (.iload_n 3, 1) := by decide +kernel
theorem dL_law_340 : decode cL_law 340 = .ok (.iconst 1, 1) := by decide +kernel
theorem dL_law_341 : decode cL_law 341 = .ok (.iadd, 1) := by decide +kernel
theorem dL_law_342 : decode cL_law 342 = .ok (.iaload, 1) := by decide +kernel
theorem dL_law_343 : decode cL_law 343 = .ok (.invokevirtual 47, 3) := by decide +kernel
theorem dL_law_346 : decode cL_law 346 = .ok (.pop, 1) := by decide +kernel
theorem dL_law_347 : decode cL_law 347 = .ok (.goto 200, 3) := by decide +kernel
theorem dL_law_350 : decode cL_law 350 = .ok (.aload_n 1, 1) := by decide +kernel
theorem dL_law_351 : decode cL_law 351 = .ok (.aload_n 0, 1) := by decide +kernel
theorem dL_law_352 : decode cL_law 352 = .ok (.iload_n 3, 1) := by decide +kernel
theorem dL_law_353 : decode cL_law 353 = .ok (.iconst 1, 1) := by decide +kernel
theorem dL_law_354 : decode cL_law 354 = .ok (.iadd, 1) := by decide +kernel
theorem dL_law_355 : decode cL_law 355 = .ok (.iaload, 1) := by decide +kernel
theorem dL_law_356 : decode cL_law 356 = .ok (.invokevirtual 48, 3) := by decide +kernel
theorem dL_law_359 : decode cL_law 359 = .ok (.pop, 1) := by decide +kernel
theorem dL_law_360 : decode cL_law 360 = .ok (.aload_n 2, 1) := by decide +kernel
theorem dL_law_361 : decode cL_law 361 = .ok (.aload_n 0, 1) := by decide +kernel
theorem dL_law_362 : decode cL_law 362 = .ok (.iload_n 3, 1) := by decide +kernel
theorem dL_law_363 : decode cL_law 363 = .ok (.iconst 1, 1) := by decide +kernel
theorem dL_law_364 : decode cL_law 364 = .ok (.iadd, 1) := by decide +kernel
theorem dL_law_365 : decode cL_law 365 = .ok (.iaload, 1) := by decide +kernel
theorem dL_law_366 : decode cL_law 366 = .ok (.invokevirtual 51, 3) := by decide +kernel
theorem dL_law_369 : decode cL_law 369 = .ok (.pop, 1) := by decide +kernel
theorem dL_law_370 : decode cL_law 370 = .ok (.goto 177, 3) := by decide +kernel
theorem dL_law_373 : decode cL_law 373 = .ok (.aload_n 1, 1) := by decide +kernel
theorem dL_law_374 : decode cL_law 374 = .ok (.invokevirtual 52, 3) := by decide +kernel
theorem dL_law_377 : decode cL_law 377 = .ok (.pop, 1) := by decide +kernel
theorem dL_law_378 : decode cL_law 378 = .ok (.aload_n 2, 1) := by decide +kernel
theorem dL_law_379 : decode cL_law 379 = .ok (.invokevirtual 56, 3) := by decide +kernel
theorem dL_law_382 : decode cL_law 382 = .ok (.pop, 1) := by decide +kernel
theorem dL_law_383 : decode cL_law 383 = .ok (.goto 164, 3) := by decide +kernel
theorem dL_law_386 : decode cL_law 386 = .ok (.aload_n 1, 1) := by decide +kernel
theorem dL_law_387 : decode cL_law 387 = .ok (.invokevirtual 57, 3) := by decide +kernel
theorem dL_law_390 : decode cL_law 390 = .ok (.aload_n 2, 1) := by decide +kernel
theorem dL_law_391 : decode cL_law 391 = .ok (.invokevirtual 60, 3) := by decide +kernel
theorem dL_law_394 : decode cL_law 394 = .ok (.if_icmp .eq 153, 3) := by decide +kernel
theorem dL_law_397 : decode cL_law 397 = .ok (.iconst 0, 1) := by decide +kernel
theorem dL_law_398 : decode cL_law 398 = .ok (.ireturn, 1) := by decide +kernel
theorem dL_law_399 : decode cL_law 399 = .ok (.aload_n 1, 1) := by decide +kernel
theorem dL_law_400 : decode cL_law 400 = .ok (.aload_n 0, 1) := by decide +kernel
theorem dL_law_401 : decode cL_law 401 = .ok (.iload_n 3, 1) := by decide +kernel
theorem dL_law_402 : decode cL_law 402 = .ok (.iconst 1, 1) := by decide +kernel
theorem dL_law_403 : decode cL_law 403 = .ok (.iadd, 1) := by decide +kernel
theorem dL_law_404 : decode cL_law 404 = .ok (.iaload, 1) := by decide +kernel
theorem dL_law_405 : decode cL_law 405 = .ok (.aload_n 0, 1) := by decide +kernel
theorem dL_law_406 : decode cL_law 406 = .ok (.iload_n 3, 1) := by decide +kernel
theorem dL_law_407 : decode cL_law 407 = .ok (.iconst 2, 1) := by decide +kernel
theorem dL_law_408 : decode cL_law 408 = .ok (.iadd, 1) := by decide +kernel
theorem dL_law_409 : decode cL_law 409 = .ok (.iaload, 1) := by decide +kernel
theorem dL_law_410 : decode cL_law 410 = .ok (.invokevirtual 61, 3) := by decide +kernel
theorem dL_law_413 : decode cL_law 413 = .ok (.pop, 1) := by decide +kernel
theorem dL_law_414 : decode cL_law 414 = .ok (.aload_n 2, 1) := by decide +kernel
theorem dL_law_415 : decode cL_law 415 = .ok (.aload_n 0, 1) := by decide +kernel
theorem dL_law_416 : decode cL_law 416 = .ok (.iload_n 3, 1) := by decide +kernel
theorem dL_law_417 : decode cL_law 417 = .ok (.iconst 1, 1) := by decide +kernel
theorem dL_law_418 : decode cL_law 418 = .ok (.iadd, 1) := by decide +kernel
theorem dL_law_419 : decode cL_law 419 = .ok (.iaload, 1) := by decide +kernel
theorem dL_law_420 : decode cL_law 420 = .ok (.aload_n 0, 1) := by decide +kernel
theorem dL_law_421 : decode cL_law 421 = .ok (.iload_n 3, 1) := by decide +kernel
theorem dL_law_422 : decode cL_law 422 = .ok (.iconst 2, 1) := by decide +kernel
theorem dL_law_423 : decode cL_law 423 = .ok (.iadd, 1) := by decide +kernel
theorem dL_law_424 : decode cL_law 424 = .ok (.iaload, 1) := by decide +kernel
theorem dL_law_425 : decode cL_law 425 = .ok (.invokevirtual 64, 3) := by decide +kernel
theorem dL_law_428 : decode cL_law 428 = .ok (.pop, 1) := by decide +kernel
theorem dL_law_429 : decode cL_law 429 = .ok (.goto 118, 3) := by decide +kernel
theorem dL_law_432 : decode cL_law 432 = .ok (.aload_n 1, 1) := by decide +kernel
theorem dL_law_433 : decode cL_law 433 = .ok (.aload_n 0, 1) := by decide +kernel
theorem dL_law_434 : decode cL_law 434 = .ok (.iload_n 3, 1) := by decide +kernel
theorem dL_law_435 : decode cL_law 435 = .ok (.iconst 1, 1) := by decide +kernel
theorem dL_law_436 : decode cL_law 436 = .ok (.iadd, 1) := by decide +kernel
theorem dL_law_437 : decode cL_law 437 = .ok (.iaload, 1) := by decide +kernel
theorem dL_law_438 : decode cL_law 438 = .ok (.invokevirtual 65, 3) := by decide +kernel
theorem dL_law_441 : decode cL_law 441 = .ok (.pop, 1) := by decide +kernel
theorem dL_law_442 : decode cL_law 442 = .ok (.aload_n 2, 1) := by decide +kernel
theorem dL_law_443 : decode cL_law 443 = .ok (.aload_n 0, 1) := by decide +kernel
theorem dL_law_444 : decode cL_law 444 = .ok (.iload_n 3, 1) := by decide +kernel
theorem dL_law_445 : decode cL_law 445 = .ok (.iconst 1, 1) := by decide +kernel
theorem dL_law_446 : decode cL_law 446 = .ok (.iadd, 1) := by decide +kernel
theorem dL_law_447 : decode cL_law 447 = .ok (.iaload, 1) := by decide +kernel
theorem dL_law_448 : decode cL_law 448 = .ok (.invokevirtual 68, 3) := by decide +kernel
theorem dL_law_451 : decode cL_law 451 = .ok (.pop, 1) := by decide +kernel
theorem dL_law_452 : decode cL_law 452 = .ok (.goto 95, 3) := by decide +kernel
theorem dL_law_455 : decode cL_law 455 = .ok (.aload_n 1, 1) := by decide +kernel
theorem dL_law_456 : decode cL_law 456 = .ok (.aload_n 0, 1) := by decide +kernel
theorem dL_law_457 : decode cL_law 457 = .ok (.iload_n 3, 1) := by decide +kernel
theorem dL_law_458 : decode cL_law 458 = .ok (.iconst 1, 1) := by decide +kernel
theorem dL_law_459 : decode cL_law 459 = .ok (.iadd, 1) := by decide +kernel
theorem dL_law_460 : decode cL_law 460 = .ok (.iaload, 1) := by decide +kernel
theorem dL_law_461 : decode cL_law 461 = .ok (.aload_n 0, 1) := by decide +kernel
theorem dL_law_462 : decode cL_law 462 = .ok (.iload_n 3, 1) := by decide +kernel
theorem dL_law_463 : decode cL_law 463 = .ok (.iconst 2, 1) := by decide +kernel
theorem dL_law_464 : decode cL_law 464 = .ok (.iadd, 1) := by decide +kernel
theorem dL_law_465 : decode cL_law 465 = .ok (.iaload, 1) := by decide +kernel
theorem dL_law_466 : decode cL_law 466 = .ok (.invokevirtual 69, 3) := by decide +kernel
theorem dL_law_469 : decode cL_law 469 = .ok (.pop, 1) := by decide +kernel
theorem dL_law_470 : decode cL_law 470 = .ok (.aload_n 2, 1) := by decide +kernel
theorem dL_law_471 : decode cL_law 471 = .ok (.aload_n 0, 1) := by decide +kernel
theorem dL_law_472 : decode cL_law 472 = .ok (.iload_n 3, 1) := by decide +kernel
theorem dL_law_473 : decode cL_law 473 = .ok (.iconst 1, 1) := by decide +kernel
theorem dL_law_474 : decode cL_law 474 = .ok (.iadd, 1) := by decide +kernel
theorem dL_law_475 : decode cL_law 475 = .ok (.iaload, 1) := by decide +kernel
theorem dL_law_476 : decode cL_law 476 = .ok (.aload_n 0, 1) := by decide +kernel
theorem dL_law_477 : decode cL_law 477 = .ok (.iload_n 3, 1) := by decide +kernel
theorem dL_law_478 : decode cL_law 478 = .ok (.iconst 2, 1) := by decide +kernel
theorem dL_law_479 : decode cL_law 479 = .ok (.iadd, 1) := by decide +kernel
theorem dL_law_480 : decode cL_law 480 = .ok (.iaload, 1) := by decide +kernel
theorem dL_law_481 : decode cL_law 481 = .ok (.invokevirtual 72, 3) := by decide +kernel
theorem dL_law_484 : decode cL_law 484 = .ok (.pop, 1) := by decide +kernel
theorem dL_law_485 : decode cL_law 485 = .ok (.goto 62, 3) := by decide +kernel
theorem dL_law_488 : decode cL_law 488 = .ok (.aload_n 1, 1) := by decide +kernel
theorem dL_law_489 : decode cL_law 489 = .ok (.aload_n 0, 1) := by decide +kernel
theorem dL_law_490 : decode cL_law 490 = .ok (.iload_n 3, 1) := by decide +kernel
theorem dL_law_491 : decode cL_law 491 = .ok (.iconst 1, 1) := by decide +kernel
theorem dL_law_492 : decode cL_law 492 = .ok (.iadd, 1) := by decide +kernel
theorem dL_law_493 : decode cL_law 493 = .ok (.iaload, 1) := by decide +kernel
theorem dL_law_494 : decode cL_law 494 = .ok (.invokevirtual 73, 3) := by decide +kernel
theorem dL_law_497 : decode cL_law 497 = .ok (.pop, 1) := by decide +kernel
theorem dL_law_498 : decode cL_law 498 = .ok (.aload_n 2, 1) := by decide +kernel
theorem dL_law_499 : decode cL_law 499 = .ok (.aload_n 0, 1) := by decide +kernel
theorem dL_law_500 : decode cL_law 500 = .ok (.iload_n 3, 1) := by decide +kernel
theorem dL_law_501 : decode cL_law 501 = .ok (.iconst 1, 1) := by decide +kernel
theorem dL_law_502 : decode cL_law 502 = .ok (.iadd, 1) := by decide +kernel
theorem dL_law_503 : decode cL_law 503 = .ok (.iaload, 1) := by decide +kernel
theorem dL_law_504 : decode cL_law 504 = .ok (.invokevirtual 76, 3) := by decide +kernel
theorem dL_law_507 : decode cL_law 507 = .ok (.pop, 1) := by decide +kernel
theorem dL_law_508 : decode cL_law 508 = .ok (.goto 39, 3) := by decide +kernel
theorem dL_law_511 : decode cL_law 511 = .ok (.aload_n 1, 1) := by decide +kernel
theorem dL_law_512 : decode cL_law 512 = .ok (.aload_n 0, 1) := by decide +kernel
theorem dL_law_513 : decode cL_law 513 = .ok (.iload_n 3, 1) := by decide +kernel
theorem dL_law_514 : decode cL_law 514 = .ok (.iconst 1, 1) := by decide +kernel
theorem dL_law_515 : decode cL_law 515 = .ok (.iadd, 1) := by decide +kernel
theorem dL_law_516 : decode cL_law 516 = .ok (.iaload, 1) := by decide +kernel
theorem dL_law_517 : decode cL_law 517 = .ok (.invokevirtual 77, 3) := by decide +kernel
theorem dL_law_520 : decode cL_law 520 = .ok (.pop, 1) := by decide +kernel
theorem dL_law_521 : decode cL_law 521 = .ok (.aload_n 2, 1) := by decide +kernel
theorem dL_law_522 : decode cL_law 522 = .ok (.aload_n 0, 1) := by decide +kernel
theorem dL_law_523 : decode cL_law 523 = .ok (.iload_n 3, 1) := by decide +kernel
theorem dL_law_524 : decode cL_law 524 = .ok (.iconst 1, 1) := by decide +kernel
theorem dL_law_525 : decode cL_law 525 = .ok (.iadd, 1) := by decide +kernel
theorem dL_law_526 : decode cL_law 526 = .ok (.iaload, 1) := by decide +kernel
theorem dL_law_527 : decode cL_law 527 = .ok (.invokevirtual 80, 3) := by decide +kernel
theorem dL_law_530 : decode cL_law 530 = .ok (.pop, 1) := by decide +kernel
theorem dL_law_531 : decode cL_law 531 = .ok (.goto 16, 3) := by decide +kernel
theorem dL_law_534 : decode cL_law 534 = .ok (.aload_n 1, 1) := by decide +kernel
theorem dL_law_535 : decode cL_law 535 = .ok (.invokevirtual 81, 3) := by decide +kernel
theorem dL_law_538 : decode cL_law 538 = .ok (.pop, 1) := by decide +kernel
theorem dL_law_539 : decode cL_law 539 = .ok (.aload_n 2, 1) := by decide +kernel
theorem dL_law_540 : decode cL_law 540 = .ok (.invokevirtual 84, 3) := by decide +kernel
theorem dL_law_543 : decode cL_law 543 = .ok (.pop, 1) := by decide +kernel
theorem dL_law_544 : decode cL_law 544 = .ok (.goto 3, 3) := by decide +kernel
theorem dL_law_547 : decode cL_law 547 = .ok (.iinc 3 4, 3) := by decide +kernel
theorem dL_law_550 : decode cL_law 550 = .ok (.goto (-532), 3) := by decide +kernel
theorem dL_law_553 : decode cL_law 553 = .ok (.iconst 1, 1) := by decide +kernel
theorem dL_law_554 : decode cL_law 554 = .ok (.ireturn, 1) := by decide +kernel
end
