/-- the words that a callee may be handed -/
def lw_B : List Cond := lw_tbl.filter goodWord
theorem it_tables_1_1 : ∀ w ∈ tables_1_1, w ∈ lw_tbl := fun _ h => List.mem_append_right _ (List.mem_append_left _ h)
theorem it_tables_1_2 : ∀ w ∈ tables_1_2, w ∈ lw_tbl := fun _ h => List.mem_append_right _ (List.mem_append_right _ (List.mem_append_left _ h))
theorem it_tables_1_3 : ∀ w ∈ tables_1_3, w ∈ lw_tbl := fun _ h => List.mem_append_right _ (List.mem_append_right _ (List.mem_append_right _ h))
theorem tw_0 : (Cond.initialized "CommitSitesLaw") ∈ lw_B := List.mem_filter.mpr ⟨it_tables_1_1 _ (List.mem_of_getElem? (i := 0) rfl), rfl⟩
theorem tw_1 : (Cond.initialized "CommitSites") ∈ lw_B := List.mem_filter.mpr ⟨it_tables_1_1 _ (List.mem_of_getElem? (i := 1) rfl), rfl⟩
theorem tw_2 : (Cond.initialized "CommitSites$Network") ∈ lw_B := List.mem_filter.mpr ⟨it_tables_1_1 _ (List.mem_of_getElem? (i := 2) rfl), rfl⟩
theorem tw_3 : (Cond.initialized "CommitSitesModel") ∈ lw_B := List.mem_filter.mpr ⟨it_tables_1_1 _ (List.mem_of_getElem? (i := 3) rfl), rfl⟩
theorem tw_4 : (Cond.initialized "CommitSites$Site") ∈ lw_B := List.mem_filter.mpr ⟨it_tables_1_1 _ (List.mem_of_getElem? (i := 4) rfl), rfl⟩
theorem tw_5 : (Cond.initialized "CommitSites$Message") ∈ lw_B := List.mem_filter.mpr ⟨it_tables_1_1 _ (List.mem_of_getElem? (i := 5) rfl), rfl⟩
theorem tw_6 : (Cond.classLink "CommitSitesLaw" 7 "CommitSites") ∈ lw_B := List.mem_filter.mpr ⟨it_tables_1_1 _ (List.mem_of_getElem? (i := 6) rfl), rfl⟩
theorem tw_7 : (Cond.instantiable "CommitSites" 12) ∈ lw_B := List.mem_filter.mpr ⟨it_tables_1_1 _ (List.mem_of_getElem? (i := 7) rfl), rfl⟩
theorem tw_8 : (Cond.methodLink "CommitSitesLaw" 9 yX3_init) ∈ lw_B := List.mem_filter.mpr ⟨it_tables_1_1 _ (List.mem_of_getElem? (i := 8) rfl), rfl⟩
theorem tw_9 : (Cond.instanceMethod yX3_init) ∈ lw_B := List.mem_filter.mpr ⟨it_tables_1_1 _ (List.mem_of_getElem? (i := 9) rfl), rfl⟩
theorem tw_10 : (Cond.code yX3_init cX3_init 1 none) ∈ lw_B := List.mem_filter.mpr ⟨it_tables_1_1 _ (List.mem_of_getElem? (i := 10) rfl), rfl⟩
theorem tw_11 : (Cond.methodLink "CommitSites" 1 objectInit) ∈ lw_B := List.mem_filter.mpr ⟨it_tables_1_1 _ (List.mem_of_getElem? (i := 11) rfl), rfl⟩
theorem tw_12 : (Cond.instanceMethod objectInit) ∈ lw_B := List.mem_filter.mpr ⟨it_tables_1_1 _ (List.mem_of_getElem? (i := 12) rfl), rfl⟩
theorem tw_13 : (Cond.code objectInit ⟨#[0xb1]⟩ 1 none) ∈ lw_B := List.mem_filter.mpr ⟨it_tables_1_1 _ (List.mem_of_getElem? (i := 13) rfl), rfl⟩
theorem tw_14 : (Cond.classLink "CommitSites" 9 "CommitSites$Site") ∈ lw_B := List.mem_filter.mpr ⟨it_tables_1_1 _ (List.mem_of_getElem? (i := 14) rfl), rfl⟩
theorem tw_15 : (Cond.arrayOver (.object "CommitSites$Site")) ∈ lw_tbl := it_tables_1_1 _ (List.mem_of_getElem? (i := 15) rfl)
theorem tw_16 : (Cond.classLink "CommitSites" 15 "CommitSites$Network") ∈ lw_B := List.mem_filter.mpr ⟨it_tables_1_1 _ (List.mem_of_getElem? (i := 16) rfl), rfl⟩
theorem tw_17 : (Cond.instantiable "CommitSites$Network" 9) ∈ lw_B := List.mem_filter.mpr ⟨it_tables_1_1 _ (List.mem_of_getElem? (i := 17) rfl), rfl⟩
theorem tw_18 : (Cond.methodLink "CommitSites" 17 yX1_init) ∈ lw_B := List.mem_filter.mpr ⟨it_tables_1_1 _ (List.mem_of_getElem? (i := 18) rfl), rfl⟩
theorem tw_19 : (Cond.instanceMethod yX1_init) ∈ lw_B := List.mem_filter.mpr ⟨it_tables_1_1 _ (List.mem_of_getElem? (i := 19) rfl), rfl⟩
theorem tw_20 : (Cond.code yX1_init cX1_init 3 none) ∈ lw_B := List.mem_filter.mpr ⟨it_tables_1_1 _ (List.mem_of_getElem? (i := 20) rfl), rfl⟩
theorem tw_21 : (Cond.methodLink "CommitSites$Network" 3 objectInit) ∈ lw_B := List.mem_filter.mpr ⟨it_tables_1_1 _ (List.mem_of_getElem? (i := 21) rfl), rfl⟩
theorem tw_22 : (Cond.classLink "CommitSites$Network" 9 "[[I") ∈ lw_B := List.mem_filter.mpr ⟨it_tables_1_1 _ (List.mem_of_getElem? (i := 22) rfl), rfl⟩
theorem tw_23 : (Cond.arrayOver (.array .int)) ∈ lw_tbl := it_tables_1_1 _ (List.mem_of_getElem? (i := 23) rfl)
theorem tw_24 : (Cond.classLink "CommitSites$Network" 16 "CommitSites$Message") ∈ lw_B := List.mem_filter.mpr ⟨it_tables_1_1 _ (List.mem_of_getElem? (i := 24) rfl), rfl⟩
theorem tw_25 : (Cond.arrayOver (.object "CommitSites$Message")) ∈ lw_tbl := it_tables_1_1 _ (List.mem_of_getElem? (i := 25) rfl)
theorem tw_26 : (Cond.fieldLink "CommitSites$Network" 11 "CommitSites$Network" "delays" "[[I") ∈ lw_B := List.mem_filter.mpr ⟨it_tables_1_1 _ (List.mem_of_getElem? (i := 26) rfl), rfl⟩
theorem tw_27 : (Cond.fieldLink "CommitSites" 60 "CommitSites$Network" "delays" "[[I") ∈ lw_B := List.mem_filter.mpr ⟨it_tables_1_1 _ (List.mem_of_getElem? (i := 27) rfl), rfl⟩
theorem tw_28 : (Cond.fieldLink "CommitSites$Network" 18 "CommitSites$Network" "heads" "[LCommitSites$Message;") ∈ lw_B := List.mem_filter.mpr ⟨it_tables_1_1 _ (List.mem_of_getElem? (i := 28) rfl), rfl⟩
theorem tw_29 : (Cond.fieldLink "CommitSites$Network" 22 "CommitSites$Network" "tails" "[LCommitSites$Message;") ∈ lw_B := List.mem_filter.mpr ⟨it_tables_1_1 _ (List.mem_of_getElem? (i := 29) rfl), rfl⟩
theorem tw_30 : (Cond.fieldLink "CommitSites$Network" 25 "CommitSites$Network" "spare" "LCommitSites$Message;") ∈ lw_B := List.mem_filter.mpr ⟨it_tables_1_1 _ (List.mem_of_getElem? (i := 30) rfl), rfl⟩
theorem tw_31 : (Cond.fieldLink "CommitSites$Network" 32 "CommitSites$Network" "time" "I") ∈ lw_B := List.mem_filter.mpr ⟨it_tables_1_1 _ (List.mem_of_getElem? (i := 31) rfl), rfl⟩
theorem tw_32 : (Cond.fieldLink "CommitSites" 104 "CommitSites$Network" "time" "I") ∈ lw_B := List.mem_filter.mpr ⟨it_tables_1_1 _ (List.mem_of_getElem? (i := 32) rfl), rfl⟩
theorem tw_33 : (Cond.fieldLink "CommitSites$Network" 36 "CommitSites$Network" "order" "I") ∈ lw_B := List.mem_filter.mpr ⟨it_tables_1_1 _ (List.mem_of_getElem? (i := 33) rfl), rfl⟩
theorem tw_34 : (Cond.fieldLink "CommitSites$Network" 39 "CommitSites$Network" "sent" "I") ∈ lw_B := List.mem_filter.mpr ⟨it_tables_1_1 _ (List.mem_of_getElem? (i := 34) rfl), rfl⟩
theorem tw_35 : (Cond.fieldLink "CommitSites" 130 "CommitSites$Network" "sent" "I") ∈ lw_B := List.mem_filter.mpr ⟨it_tables_1_1 _ (List.mem_of_getElem? (i := 35) rfl), rfl⟩
theorem tw_36 : (Cond.fieldLink "CommitSites$Network" 42 "CommitSites$Network" "lost" "I") ∈ lw_B := List.mem_filter.mpr ⟨it_tables_1_1 _ (List.mem_of_getElem? (i := 36) rfl), rfl⟩
theorem tw_37 : (Cond.fieldLink "CommitSites" 133 "CommitSites$Network" "lost" "I") ∈ lw_B := List.mem_filter.mpr ⟨it_tables_1_1 _ (List.mem_of_getElem? (i := 37) rfl), rfl⟩
theorem tw_38 : (Cond.fieldLink "CommitSites$Network" 45 "CommitSites$Network" "onWay" "I") ∈ lw_B := List.mem_filter.mpr ⟨it_tables_1_1 _ (List.mem_of_getElem? (i := 38) rfl), rfl⟩
theorem tw_39 : (Cond.fieldLink "CommitSites" 136 "CommitSites$Network" "onWay" "I") ∈ lw_B := List.mem_filter.mpr ⟨it_tables_1_1 _ (List.mem_of_getElem? (i := 39) rfl), rfl⟩
theorem tw_40 : (Cond.arrayClass (.int)) ∈ lw_B := List.mem_filter.mpr ⟨it_tables_1_1 _ (List.mem_of_getElem? (i := 59) rfl), rfl⟩
theorem tw_41 : (Cond.methodLink "CommitSites" 30 yX3_shareQuorums) ∈ lw_B := List.mem_filter.mpr ⟨it_tables_1_1 _ (List.mem_of_getElem? (i := 60) rfl), rfl⟩
theorem tw_42 : (Cond.instanceMethod yX3_shareQuorums) ∈ lw_B := List.mem_filter.mpr ⟨it_tables_1_1 _ (List.mem_of_getElem? (i := 62) rfl), rfl⟩
theorem tw_43 : (Cond.code yX3_shareQuorums cX3_shareQuorums 1 none) ∈ lw_B := List.mem_filter.mpr ⟨it_tables_1_1 _ (List.mem_of_getElem? (i := 63) rfl), rfl⟩
theorem tw_44 : (Cond.methodLink "CommitSites" 33 yX3_note) ∈ lw_B := List.mem_filter.mpr ⟨it_tables_1_1 _ (List.mem_of_getElem? (i := 64) rfl), rfl⟩
theorem tw_45 : (Cond.instanceMethod yX3_note) ∈ lw_B := List.mem_filter.mpr ⟨it_tables_1_1 _ (List.mem_of_getElem? (i := 66) rfl), rfl⟩
theorem tw_46 : (Cond.code yX3_note cX3_note 6 none) ∈ lw_B := List.mem_filter.mpr ⟨it_tables_1_1 _ (List.mem_of_getElem? (i := 67) rfl), rfl⟩
theorem tw_47 : (Cond.fieldLink "CommitSites" 11 "CommitSites" "sites" "[LCommitSites$Site;") ∈ lw_B := List.mem_filter.mpr ⟨it_tables_1_1 _ (List.mem_of_getElem? (i := 68) rfl), rfl⟩
theorem tw_48 : (Cond.fieldLink "CommitSites" 18 "CommitSites" "network" "LCommitSites$Network;") ∈ lw_B := List.mem_filter.mpr ⟨it_tables_1_1 _ (List.mem_of_getElem? (i := 69) rfl), rfl⟩
theorem tw_49 : (Cond.fieldLink "CommitSites" 22 "CommitSites" "latestEvent" "[I") ∈ lw_B := List.mem_filter.mpr ⟨it_tables_1_1 _ (List.mem_of_getElem? (i := 70) rfl), rfl⟩
theorem tw_50 : (Cond.fieldLink "CommitSites" 41 "CommitSites" "siteCount" "I") ∈ lw_B := List.mem_filter.mpr ⟨it_tables_1_1 _ (List.mem_of_getElem? (i := 71) rfl), rfl⟩
theorem tw_51 : (Cond.fieldLink "CommitSites" 47 "CommitSites" "allWeight" "I") ∈ lw_B := List.mem_filter.mpr ⟨it_tables_1_1 _ (List.mem_of_getElem? (i := 72) rfl), rfl⟩
theorem tw_52 : (Cond.fieldLink "CommitSites" 50 "CommitSites" "commitQuorum" "I") ∈ lw_B := List.mem_filter.mpr ⟨it_tables_1_1 _ (List.mem_of_getElem? (i := 73) rfl), rfl⟩
theorem tw_53 : (Cond.fieldLink "CommitSites" 53 "CommitSites" "abortQuorum" "I") ∈ lw_B := List.mem_filter.mpr ⟨it_tables_1_1 _ (List.mem_of_getElem? (i := 74) rfl), rfl⟩
theorem tw_54 : (Cond.fieldLink "CommitSites" 26 "CommitSites" "patienceTicks" "I") ∈ lw_B := List.mem_filter.mpr ⟨it_tables_1_1 _ (List.mem_of_getElem? (i := 75) rfl), rfl⟩
theorem tw_55 : (Cond.fieldLink "CommitSites" 37 "CommitSites" "begun" "Z") ∈ lw_B := List.mem_filter.mpr ⟨it_tables_1_1 _ (List.mem_of_getElem? (i := 76) rfl), rfl⟩
theorem tw_56 : (Cond.fieldLink "CommitSites" 74 "CommitSites" "yesVotes" "I") ∈ lw_B := List.mem_filter.mpr ⟨it_tables_1_1 _ (List.mem_of_getElem? (i := 77) rfl), rfl⟩
theorem tw_57 : (Cond.fieldLink "CommitSites" 112 "CommitSites" "messagesCome" "I") ∈ lw_B := List.mem_filter.mpr ⟨it_tables_1_1 _ (List.mem_of_getElem? (i := 78) rfl), rfl⟩
theorem tw_58 : (Cond.fieldLink "CommitSites" 115 "CommitSites" "timersRunOut" "I") ∈ lw_B := List.mem_filter.mpr ⟨it_tables_1_1 _ (List.mem_of_getElem? (i := 79) rfl), rfl⟩
theorem tw_59 : (Cond.methodLink "CommitSitesLaw" 13 yX3_site) ∈ lw_B := List.mem_filter.mpr ⟨it_tables_1_1 _ (List.mem_of_getElem? (i := 105) rfl), rfl⟩
theorem tw_60 : (Cond.instanceMethod yX3_site) ∈ lw_B := List.mem_filter.mpr ⟨it_tables_1_1 _ (List.mem_of_getElem? (i := 106) rfl), rfl⟩
theorem tw_61 : (Cond.selects "CommitSites" yX3_site yX3_site) ∈ lw_B := List.mem_filter.mpr ⟨it_tables_1_1 _ (List.mem_of_getElem? (i := 107) rfl), rfl⟩
theorem tw_62 : (Cond.code yX3_site cX3_site 2 (some .int)) ∈ lw_B := List.mem_filter.mpr ⟨it_tables_1_1 _ (List.mem_of_getElem? (i := 108) rfl), rfl⟩
theorem tw_63 : (Cond.instantiable "CommitSites$Site" 10) ∈ lw_B := List.mem_filter.mpr ⟨it_tables_1_1 _ (List.mem_of_getElem? (i := 109) rfl), rfl⟩
theorem tw_64 : (Cond.methodLink "CommitSites" 44 yX2_init) ∈ lw_B := List.mem_filter.mpr ⟨it_tables_1_1 _ (List.mem_of_getElem? (i := 110) rfl), rfl⟩
theorem tw_65 : (Cond.instanceMethod yX2_init) ∈ lw_B := List.mem_filter.mpr ⟨it_tables_1_1 _ (List.mem_of_getElem? (i := 111) rfl), rfl⟩
theorem tw_66 : (Cond.code yX2_init cX2_init 2 none) ∈ lw_B := List.mem_filter.mpr ⟨it_tables_1_1 _ (List.mem_of_getElem? (i := 112) rfl), rfl⟩
theorem tw_67 : (Cond.methodLink "CommitSites$Site" 3 objectInit) ∈ lw_B := List.mem_filter.mpr ⟨it_tables_1_1 _ (List.mem_of_getElem? (i := 113) rfl), rfl⟩
theorem tw_68 : (Cond.methodLink "CommitSites$Site" 19 yX2_startAnew) ∈ lw_B := List.mem_filter.mpr ⟨it_tables_1_1 _ (List.mem_of_getElem? (i := 114) rfl), rfl⟩
theorem tw_69 : (Cond.instanceMethod yX2_startAnew) ∈ lw_B := List.mem_filter.mpr ⟨it_tables_1_1 _ (List.mem_of_getElem? (i := 115) rfl), rfl⟩
theorem tw_70 : (Cond.selects "CommitSites$Site" yX2_startAnew yX2_startAnew) ∈ lw_B := List.mem_filter.mpr ⟨it_tables_1_1 _ (List.mem_of_getElem? (i := 116) rfl), rfl⟩
theorem tw_71 : (Cond.code yX2_startAnew cX2_startAnew 1 none) ∈ lw_B := List.mem_filter.mpr ⟨it_tables_1_1 _ (List.mem_of_getElem? (i := 117) rfl), rfl⟩
theorem tw_72 : (Cond.fieldLink "CommitSites$Site" 15 "CommitSites$Site" "weight" "I") ∈ lw_B := List.mem_filter.mpr ⟨it_tables_1_1 _ (List.mem_of_getElem? (i := 118) rfl), rfl⟩
theorem tw_73 : (Cond.fieldLink "CommitSites" 124 "CommitSites$Site" "weight" "I") ∈ lw_B := List.mem_filter.mpr ⟨it_tables_1_1 _ (List.mem_of_getElem? (i := 119) rfl), rfl⟩
theorem tw_74 : (Cond.fieldLink "CommitSites$Site" 9 "CommitSites$Site" "stateOf" "[I") ∈ lw_B := List.mem_filter.mpr ⟨it_tables_1_1 _ (List.mem_of_getElem? (i := 120) rfl), rfl⟩
theorem tw_75 : (Cond.fieldLink "CommitSites" 228 "CommitSites$Site" "stateOf" "[I") ∈ lw_B := List.mem_filter.mpr ⟨it_tables_1_1 _ (List.mem_of_getElem? (i := 121) rfl), rfl⟩
theorem tw_76 : (Cond.fieldLink "CommitSites$Site" 22 "CommitSites$Site" "there" "I") ∈ lw_B := List.mem_filter.mpr ⟨it_tables_1_1 _ (List.mem_of_getElem? (i := 122) rfl), rfl⟩
theorem tw_77 : (Cond.fieldLink "CommitSites" 219 "CommitSites$Site" "there" "I") ∈ lw_B := List.mem_filter.mpr ⟨it_tables_1_1 _ (List.mem_of_getElem? (i := 123) rfl), rfl⟩
theorem tw_78 : (Cond.fieldLink "CommitSites$Site" 25 "CommitSites$Site" "up" "Z") ∈ lw_B := List.mem_filter.mpr ⟨it_tables_1_1 _ (List.mem_of_getElem? (i := 124) rfl), rfl⟩
theorem tw_79 : (Cond.fieldLink "CommitSites" 71 "CommitSites$Site" "up" "Z") ∈ lw_B := List.mem_filter.mpr ⟨it_tables_1_1 _ (List.mem_of_getElem? (i := 125) rfl), rfl⟩
theorem tw_80 : (Cond.fieldLink "CommitSites$Site" 29 "CommitSites$Site" "state" "I") ∈ lw_B := List.mem_filter.mpr ⟨it_tables_1_1 _ (List.mem_of_getElem? (i := 126) rfl), rfl⟩
theorem tw_81 : (Cond.fieldLink "CommitSites" 90 "CommitSites$Site" "state" "I") ∈ lw_B := List.mem_filter.mpr ⟨it_tables_1_1 _ (List.mem_of_getElem? (i := 127) rfl), rfl⟩
theorem tw_82 : (Cond.fieldLink "CommitSites$Site" 32 "CommitSites$Site" "since" "I") ∈ lw_B := List.mem_filter.mpr ⟨it_tables_1_1 _ (List.mem_of_getElem? (i := 128) rfl), rfl⟩
theorem tw_83 : (Cond.fieldLink "CommitSites" 127 "CommitSites$Site" "since" "I") ∈ lw_B := List.mem_filter.mpr ⟨it_tables_1_1 _ (List.mem_of_getElem? (i := 129) rfl), rfl⟩
theorem tw_84 : (Cond.fieldLink "CommitSites$Site" 35 "CommitSites$Site" "does" "I") ∈ lw_B := List.mem_filter.mpr ⟨it_tables_1_1 _ (List.mem_of_getElem? (i := 130) rfl), rfl⟩
theorem tw_85 : (Cond.fieldLink "CommitSites" 84 "CommitSites$Site" "does" "I") ∈ lw_B := List.mem_filter.mpr ⟨it_tables_1_1 _ (List.mem_of_getElem? (i := 131) rfl), rfl⟩
theorem tw_86 : (Cond.fieldLink "CommitSites$Site" 38 "CommitSites$Site" "attempt" "I") ∈ lw_B := List.mem_filter.mpr ⟨it_tables_1_1 _ (List.mem_of_getElem? (i := 132) rfl), rfl⟩
theorem tw_87 : (Cond.fieldLink "CommitSites" 122 "CommitSites$Site" "attempt" "I") ∈ lw_B := List.mem_filter.mpr ⟨it_tables_1_1 _ (List.mem_of_getElem? (i := 133) rfl), rfl⟩
theorem tw_88 : (Cond.fieldLink "CommitSites$Site" 41 "CommitSites$Site" "timer" "I") ∈ lw_B := List.mem_filter.mpr ⟨it_tables_1_1 _ (List.mem_of_getElem? (i := 134) rfl), rfl⟩
theorem tw_89 : (Cond.fieldLink "CommitSites" 87 "CommitSites$Site" "timer" "I") ∈ lw_B := List.mem_filter.mpr ⟨it_tables_1_1 _ (List.mem_of_getElem? (i := 135) rfl), rfl⟩
theorem tw_90 : (Cond.fieldLink "CommitSites$Site" 44 "CommitSites$Site" "timerOrder" "I") ∈ lw_B := List.mem_filter.mpr ⟨it_tables_1_1 _ (List.mem_of_getElem? (i := 136) rfl), rfl⟩
theorem tw_91 : (Cond.fieldLink "CommitSites" 250 "CommitSites$Site" "timerOrder" "I") ∈ lw_B := List.mem_filter.mpr ⟨it_tables_1_1 _ (List.mem_of_getElem? (i := 137) rfl), rfl⟩
theorem tw_92 : (Cond.methodLink "CommitSitesLaw" 18 yX3_quorums) ∈ lw_B := List.mem_filter.mpr ⟨it_tables_1_1 _ (List.mem_of_getElem? (i := 159) rfl), rfl⟩
theorem tw_93 : (Cond.instanceMethod yX3_quorums) ∈ lw_B := List.mem_filter.mpr ⟨it_tables_1_1 _ (List.mem_of_getElem? (i := 160) rfl), rfl⟩
theorem tw_94 : (Cond.selects "CommitSites" yX3_quorums yX3_quorums) ∈ lw_B := List.mem_filter.mpr ⟨it_tables_1_1 _ (List.mem_of_getElem? (i := 161) rfl), rfl⟩
theorem tw_95 : (Cond.code yX3_quorums cX3_quorums 4 (some .int)) ∈ lw_B := List.mem_filter.mpr ⟨it_tables_1_1 _ (List.mem_of_getElem? (i := 162) rfl), rfl⟩
theorem tw_96 : (Cond.methodLink "CommitSitesLaw" 23 yX3_link) ∈ lw_B := List.mem_filter.mpr ⟨it_tables_1_1 _ (List.mem_of_getElem? (i := 163) rfl), rfl⟩
theorem tw_97 : (Cond.instanceMethod yX3_link) ∈ lw_B := List.mem_filter.mpr ⟨it_tables_1_1 _ (List.mem_of_getElem? (i := 164) rfl), rfl⟩
theorem tw_98 : (Cond.selects "CommitSites" yX3_link yX3_link) ∈ lw_B := List.mem_filter.mpr ⟨it_tables_1_1 _ (List.mem_of_getElem? (i := 165) rfl), rfl⟩
theorem tw_99 : (Cond.code yX3_link cX3_link 4 (some .int)) ∈ lw_B := List.mem_filter.mpr ⟨it_tables_1_1 _ (List.mem_of_getElem? (i := 166) rfl), rfl⟩
theorem tw_100 : (Cond.methodLink "CommitSites" 56 yX3_isLink) ∈ lw_B := List.mem_filter.mpr ⟨it_tables_1_1 _ (List.mem_of_getElem? (i := 167) rfl), rfl⟩
theorem tw_101 : (Cond.instanceMethod yX3_isLink) ∈ lw_B := List.mem_filter.mpr ⟨it_tables_1_1 _ (List.mem_of_getElem? (i := 169) rfl), rfl⟩
theorem tw_102 : (Cond.code yX3_isLink cX3_isLink 3 (some .boolean)) ∈ lw_B := List.mem_filter.mpr ⟨it_tables_1_1 _ (List.mem_of_getElem? (i := 170) rfl), rfl⟩
theorem tw_103 : (Cond.methodLink "CommitSites" 67 yX3_isSite) ∈ lw_B := List.mem_filter.mpr ⟨it_tables_1_1 _ (List.mem_of_getElem? (i := 171) rfl), rfl⟩
theorem tw_104 : (Cond.instanceMethod yX3_isSite) ∈ lw_B := List.mem_filter.mpr ⟨it_tables_1_1 _ (List.mem_of_getElem? (i := 173) rfl), rfl⟩
theorem tw_105 : (Cond.code yX3_isSite cX3_isSite 2 (some .boolean)) ∈ lw_B := List.mem_filter.mpr ⟨it_tables_1_1 _ (List.mem_of_getElem? (i := 174) rfl), rfl⟩
theorem tw_106 : (Cond.methodLink "CommitSitesLaw" 28 yX3_part) ∈ lw_B := List.mem_filter.mpr ⟨it_tables_1_1 _ (List.mem_of_getElem? (i := 175) rfl), rfl⟩
theorem tw_107 : (Cond.instanceMethod yX3_part) ∈ lw_B := List.mem_filter.mpr ⟨it_tables_1_1 _ (List.mem_of_getElem? (i := 176) rfl), rfl⟩
theorem tw_108 : (Cond.selects "CommitSites" yX3_part yX3_part) ∈ lw_B := List.mem_filter.mpr ⟨it_tables_1_1 _ (List.mem_of_getElem? (i := 177) rfl), rfl⟩
theorem tw_109 : (Cond.code yX3_part cX3_part 7 (some .int)) ∈ lw_B := List.mem_filter.mpr ⟨it_tables_1_1 _ (List.mem_of_getElem? (i := 178) rfl), rfl⟩
theorem tw_110 : (Cond.methodLink "CommitSites" 64 yX3_hasBit) ∈ lw_B := List.mem_filter.mpr ⟨it_tables_1_1 _ (List.mem_of_getElem? (i := 179) rfl), rfl⟩
theorem tw_111 : (Cond.static yX3_hasBit) ∈ lw_B := List.mem_filter.mpr ⟨it_tables_1_1 _ (List.mem_of_getElem? (i := 180) rfl), rfl⟩
theorem tw_112 : (Cond.code yX3_hasBit cX3_hasBit 2 (some .boolean)) ∈ lw_B := List.mem_filter.mpr ⟨it_tables_1_1 _ (List.mem_of_getElem? (i := 181) rfl), rfl⟩
theorem tw_113 : (Cond.methodLink "CommitSitesLaw" 32 yX3_patience) ∈ lw_B := List.mem_filter.mpr ⟨it_tables_1_1 _ (List.mem_of_getElem? (i := 182) rfl), rfl⟩
theorem tw_114 : (Cond.instanceMethod yX3_patience) ∈ lw_B := List.mem_filter.mpr ⟨it_tables_1_1 _ (List.mem_of_getElem? (i := 183) rfl), rfl⟩
theorem tw_115 : (Cond.selects "CommitSites" yX3_patience yX3_patience) ∈ lw_B := List.mem_filter.mpr ⟨it_tables_1_1 _ (List.mem_of_getElem? (i := 184) rfl), rfl⟩
theorem tw_116 : (Cond.code yX3_patience cX3_patience 2 (some .int)) ∈ lw_B := List.mem_filter.mpr ⟨it_tables_1_1 _ (List.mem_of_getElem? (i := 185) rfl), rfl⟩
theorem tw_117 : (Cond.methodLink "CommitSitesLaw" 36 yX3_begin) ∈ lw_B := List.mem_filter.mpr ⟨it_tables_1_1 _ (List.mem_of_getElem? (i := 186) rfl), rfl⟩
theorem tw_118 : (Cond.instanceMethod yX3_begin) ∈ lw_B := List.mem_filter.mpr ⟨it_tables_1_1 _ (List.mem_of_getElem? (i := 187) rfl), rfl⟩
theorem tw_119 : (Cond.selects "CommitSites" yX3_begin yX3_begin) ∈ lw_B := List.mem_filter.mpr ⟨it_tables_1_1 _ (List.mem_of_getElem? (i := 188) rfl), rfl⟩
theorem tw_120 : (Cond.code yX3_begin cX3_begin 3 (some .int)) ∈ lw_B := List.mem_filter.mpr ⟨it_tables_1_1 _ (List.mem_of_getElem? (i := 189) rfl), rfl⟩
theorem tw_121 : (Cond.methodLink "CommitSites" 77 yX3_askVotes) ∈ lw_B := List.mem_filter.mpr ⟨it_tables_1_1 _ (List.mem_of_getElem? (i := 190) rfl), rfl⟩
theorem tw_122 : (Cond.instanceMethod yX3_askVotes) ∈ lw_B := List.mem_filter.mpr ⟨it_tables_1_1 _ (List.mem_of_getElem? (i := 192) rfl), rfl⟩
theorem tw_123 : (Cond.code yX3_askVotes cX3_askVotes 3 none) ∈ lw_B := List.mem_filter.mpr ⟨it_tables_1_1 _ (List.mem_of_getElem? (i := 193) rfl), rfl⟩
theorem tw_124 : (Cond.methodLink "CommitSites" 93 yX3_become) ∈ lw_B := List.mem_filter.mpr ⟨it_tables_1_1 _ (List.mem_of_getElem? (i := 194) rfl), rfl⟩
theorem tw_125 : (Cond.instanceMethod yX3_become) ∈ lw_B := List.mem_filter.mpr ⟨it_tables_1_1 _ (List.mem_of_getElem? (i := 196) rfl), rfl⟩
theorem tw_126 : (Cond.code yX3_become cX3_become 3 none) ∈ lw_B := List.mem_filter.mpr ⟨it_tables_1_1 _ (List.mem_of_getElem? (i := 197) rfl), rfl⟩
theorem tw_127 : (Cond.methodLink "CommitSites" 97 yX2_isDecided) ∈ lw_B := List.mem_filter.mpr ⟨it_tables_1_1 _ (List.mem_of_getElem? (i := 198) rfl), rfl⟩
theorem tw_128 : (Cond.instanceMethod yX2_isDecided) ∈ lw_B := List.mem_filter.mpr ⟨it_tables_1_1 _ (List.mem_of_getElem? (i := 199) rfl), rfl⟩
theorem tw_129 : (Cond.selects "CommitSites$Site" yX2_isDecided yX2_isDecided) ∈ lw_B := List.mem_filter.mpr ⟨it_tables_1_1 _ (List.mem_of_getElem? (i := 200) rfl), rfl⟩
theorem tw_130 : (Cond.code yX2_isDecided cX2_isDecided 1 (some .boolean)) ∈ lw_B := List.mem_filter.mpr ⟨it_tables_1_1 _ (List.mem_of_getElem? (i := 201) rfl), rfl⟩
theorem tw_131 : (Cond.methodLink "CommitSites" 244 yX3_allBut) ∈ lw_B := List.mem_filter.mpr ⟨it_tables_1_1 _ (List.mem_of_getElem? (i := 202) rfl), rfl⟩
theorem tw_132 : (Cond.instanceMethod yX3_allBut) ∈ lw_B := List.mem_filter.mpr ⟨it_tables_1_1 _ (List.mem_of_getElem? (i := 204) rfl), rfl⟩
theorem tw_133 : (Cond.code yX3_allBut cX3_allBut 2 (some .int)) ∈ lw_B := List.mem_filter.mpr ⟨it_tables_1_1 _ (List.mem_of_getElem? (i := 205) rfl), rfl⟩
theorem tw_134 : (Cond.methodLink "CommitSites" 139 yX3_everyone) ∈ lw_B := List.mem_filter.mpr ⟨it_tables_1_1 _ (List.mem_of_getElem? (i := 206) rfl), rfl⟩
theorem tw_135 : (Cond.instanceMethod yX3_everyone) ∈ lw_B := List.mem_filter.mpr ⟨it_tables_1_1 _ (List.mem_of_getElem? (i := 208) rfl), rfl⟩
theorem tw_136 : (Cond.code yX3_everyone cX3_everyone 1 (some .int)) ∈ lw_B := List.mem_filter.mpr ⟨it_tables_1_1 _ (List.mem_of_getElem? (i := 209) rfl), rfl⟩
theorem tw_137 : (Cond.methodLink "CommitSites" 213 yX1_send) ∈ lw_B := List.mem_filter.mpr ⟨it_tables_1_1 _ (List.mem_of_getElem? (i := 210) rfl), rfl⟩
theorem tw_138 : (Cond.instanceMethod yX1_send) ∈ lw_B := List.mem_filter.mpr ⟨it_tables_1_1 _ (List.mem_of_getElem? (i := 211) rfl), rfl⟩
theorem tw_139 : (Cond.selects "CommitSites$Network" yX1_send yX1_send) ∈ lw_B := List.mem_filter.mpr ⟨it_tables_1_1 _ (List.mem_of_getElem? (i := 212) rfl), rfl⟩
theorem tw_140 : (Cond.code yX1_send cX1_send 8 none) ∈ lw_B := List.mem_filter.mpr ⟨it_tables_1_1 _ (List.mem_of_getElem? (i := 213) rfl), rfl⟩
theorem tw_141 : (Cond.methodLinkNest "CommitSites$Network" 48 yX3_hasBit "CommitSites") ∈ lw_tbl := it_tables_1_1 _ (List.mem_of_getElem? (i := 214) rfl)
theorem tw_142 : (Cond.instantiable "CommitSites$Message" 8) ∈ lw_B := List.mem_filter.mpr ⟨it_tables_1_1 _ (List.mem_of_getElem? (i := 215) rfl), rfl⟩
theorem tw_143 : (Cond.methodLinkNest "CommitSites$Network" 52 yX0_init "CommitSites") ∈ lw_tbl := it_tables_1_1 _ (List.mem_of_getElem? (i := 216) rfl)
theorem tw_144 : (Cond.instanceMethod yX0_init) ∈ lw_B := List.mem_filter.mpr ⟨it_tables_1_1 _ (List.mem_of_getElem? (i := 217) rfl), rfl⟩
theorem tw_145 : (Cond.code yX0_init cX0_init 1 none) ∈ lw_B := List.mem_filter.mpr ⟨it_tables_1_1 _ (List.mem_of_getElem? (i := 218) rfl), rfl⟩
theorem tw_146 : (Cond.methodLink "CommitSites$Message" 1 objectInit) ∈ lw_B := List.mem_filter.mpr ⟨it_tables_1_1 _ (List.mem_of_getElem? (i := 219) rfl), rfl⟩
theorem tw_147 : (Cond.fieldLink "CommitSites$Network" 72 "CommitSites$Message" "time" "I") ∈ lw_B := List.mem_filter.mpr ⟨it_tables_1_1 _ (List.mem_of_getElem? (i := 220) rfl), rfl⟩
theorem tw_148 : (Cond.fieldLink "CommitSites$Site" 47 "CommitSites$Message" "time" "I") ∈ lw_B := List.mem_filter.mpr ⟨it_tables_1_1 _ (List.mem_of_getElem? (i := 221) rfl), rfl⟩
theorem tw_149 : (Cond.fieldLink "CommitSites" 157 "CommitSites$Message" "time" "I") ∈ lw_B := List.mem_filter.mpr ⟨it_tables_1_1 _ (List.mem_of_getElem? (i := 222) rfl), rfl⟩
theorem tw_150 : (Cond.fieldLink "CommitSites$Network" 73 "CommitSites$Message" "order" "I") ∈ lw_B := List.mem_filter.mpr ⟨it_tables_1_1 _ (List.mem_of_getElem? (i := 223) rfl), rfl⟩
theorem tw_151 : (Cond.fieldLink "CommitSites$Site" 52 "CommitSites$Message" "order" "I") ∈ lw_B := List.mem_filter.mpr ⟨it_tables_1_1 _ (List.mem_of_getElem? (i := 224) rfl), rfl⟩
theorem tw_152 : (Cond.fieldLink "CommitSites$Network" 53 "CommitSites$Message" "kind" "I") ∈ lw_B := List.mem_filter.mpr ⟨it_tables_1_1 _ (List.mem_of_getElem? (i := 225) rfl), rfl⟩
theorem tw_153 : (Cond.fieldLink "CommitSites" 167 "CommitSites$Message" "kind" "I") ∈ lw_B := List.mem_filter.mpr ⟨it_tables_1_1 _ (List.mem_of_getElem? (i := 226) rfl), rfl⟩
theorem tw_154 : (Cond.fieldLink "CommitSites$Network" 56 "CommitSites$Message" "from" "I") ∈ lw_B := List.mem_filter.mpr ⟨it_tables_1_1 _ (List.mem_of_getElem? (i := 227) rfl), rfl⟩
theorem tw_155 : (Cond.fieldLink "CommitSites" 170 "CommitSites$Message" "from" "I") ∈ lw_B := List.mem_filter.mpr ⟨it_tables_1_1 _ (List.mem_of_getElem? (i := 228) rfl), rfl⟩
theorem tw_156 : (Cond.fieldLink "CommitSites$Network" 59 "CommitSites$Message" "to" "I") ∈ lw_B := List.mem_filter.mpr ⟨it_tables_1_1 _ (List.mem_of_getElem? (i := 229) rfl), rfl⟩
theorem tw_157 : (Cond.fieldLink "CommitSites" 164 "CommitSites$Message" "to" "I") ∈ lw_B := List.mem_filter.mpr ⟨it_tables_1_1 _ (List.mem_of_getElem? (i := 230) rfl), rfl⟩
theorem tw_158 : (Cond.fieldLink "CommitSites$Network" 62 "CommitSites$Message" "attempt" "I") ∈ lw_B := List.mem_filter.mpr ⟨it_tables_1_1 _ (List.mem_of_getElem? (i := 231) rfl), rfl⟩
theorem tw_159 : (Cond.fieldLink "CommitSites" 173 "CommitSites$Message" "attempt" "I") ∈ lw_B := List.mem_filter.mpr ⟨it_tables_1_1 _ (List.mem_of_getElem? (i := 232) rfl), rfl⟩
theorem tw_160 : (Cond.fieldLink "CommitSites$Network" 65 "CommitSites$Message" "told" "I") ∈ lw_B := List.mem_filter.mpr ⟨it_tables_1_1 _ (List.mem_of_getElem? (i := 233) rfl), rfl⟩
theorem tw_161 : (Cond.fieldLink "CommitSites" 174 "CommitSites$Message" "told" "I") ∈ lw_B := List.mem_filter.mpr ⟨it_tables_1_1 _ (List.mem_of_getElem? (i := 234) rfl), rfl⟩
theorem tw_162 : (Cond.fieldLink "CommitSites$Network" 29 "CommitSites$Message" "next" "LCommitSites$Message;") ∈ lw_B := List.mem_filter.mpr ⟨it_tables_1_1 _ (List.mem_of_getElem? (i := 235) rfl), rfl⟩
theorem tw_163 : (Cond.methodLink "CommitSites$Network" 68 yX1_putOn) ∈ lw_B := List.mem_filter.mpr ⟨it_tables_1_2 _ (List.mem_of_getElem? (i := 13) rfl), rfl⟩
theorem tw_164 : (Cond.instanceMethod yX1_putOn) ∈ lw_B := List.mem_filter.mpr ⟨it_tables_1_2 _ (List.mem_of_getElem? (i := 14) rfl), rfl⟩
theorem tw_165 : (Cond.selects "CommitSites$Network" yX1_putOn yX1_putOn) ∈ lw_B := List.mem_filter.mpr ⟨it_tables_1_2 _ (List.mem_of_getElem? (i := 15) rfl), rfl⟩
theorem tw_166 : (Cond.code yX1_putOn cX1_putOn 3 none) ∈ lw_B := List.mem_filter.mpr ⟨it_tables_1_2 _ (List.mem_of_getElem? (i := 16) rfl), rfl⟩
theorem tw_167 : (Cond.methodLink "CommitSites" 216 yX3_setTimer) ∈ lw_B := List.mem_filter.mpr ⟨it_tables_1_2 _ (List.mem_of_getElem? (i := 17) rfl), rfl⟩
theorem tw_168 : (Cond.instanceMethod yX3_setTimer) ∈ lw_B := List.mem_filter.mpr ⟨it_tables_1_2 _ (List.mem_of_getElem? (i := 19) rfl), rfl⟩
theorem tw_169 : (Cond.code yX3_setTimer cX3_setTimer 3 none) ∈ lw_B := List.mem_filter.mpr ⟨it_tables_1_2 _ (List.mem_of_getElem? (i := 20) rfl), rfl⟩
theorem tw_170 : (Cond.methodLink "CommitSites" 247 yX1_nextOrder) ∈ lw_B := List.mem_filter.mpr ⟨it_tables_1_2 _ (List.mem_of_getElem? (i := 21) rfl), rfl⟩
theorem tw_171 : (Cond.instanceMethod yX1_nextOrder) ∈ lw_B := List.mem_filter.mpr ⟨it_tables_1_2 _ (List.mem_of_getElem? (i := 22) rfl), rfl⟩
theorem tw_172 : (Cond.selects "CommitSites$Network" yX1_nextOrder yX1_nextOrder) ∈ lw_B := List.mem_filter.mpr ⟨it_tables_1_2 _ (List.mem_of_getElem? (i := 23) rfl), rfl⟩
theorem tw_173 : (Cond.code yX1_nextOrder cX1_nextOrder 1 (some .int)) ∈ lw_B := List.mem_filter.mpr ⟨it_tables_1_2 _ (List.mem_of_getElem? (i := 24) rfl), rfl⟩
theorem tw_174 : (Cond.methodLink "CommitSites" 222 yX3_lead) ∈ lw_B := List.mem_filter.mpr ⟨it_tables_1_2 _ (List.mem_of_getElem? (i := 25) rfl), rfl⟩
theorem tw_175 : (Cond.instanceMethod yX3_lead) ∈ lw_B := List.mem_filter.mpr ⟨it_tables_1_2 _ (List.mem_of_getElem? (i := 27) rfl), rfl⟩
theorem tw_176 : (Cond.code yX3_lead cX3_lead 5 none) ∈ lw_B := List.mem_filter.mpr ⟨it_tables_1_2 _ (List.mem_of_getElem? (i := 28) rfl), rfl⟩
theorem tw_177 : (Cond.methodLink "CommitSites" 237 yX3_hasQuorum) ∈ lw_B := List.mem_filter.mpr ⟨it_tables_1_2 _ (List.mem_of_getElem? (i := 29) rfl), rfl⟩
theorem tw_178 : (Cond.instanceMethod yX3_hasQuorum) ∈ lw_B := List.mem_filter.mpr ⟨it_tables_1_2 _ (List.mem_of_getElem? (i := 31) rfl), rfl⟩
theorem tw_179 : (Cond.code yX3_hasQuorum cX3_hasQuorum 4 (some .boolean)) ∈ lw_B := List.mem_filter.mpr ⟨it_tables_1_2 _ (List.mem_of_getElem? (i := 32) rfl), rfl⟩
theorem tw_180 : (Cond.methodLink "CommitSites" 80 yX3_decide) ∈ lw_B := List.mem_filter.mpr ⟨it_tables_1_2 _ (List.mem_of_getElem? (i := 33) rfl), rfl⟩
theorem tw_181 : (Cond.instanceMethod yX3_decide) ∈ lw_B := List.mem_filter.mpr ⟨it_tables_1_2 _ (List.mem_of_getElem? (i := 35) rfl), rfl⟩
theorem tw_182 : (Cond.code yX3_decide cX3_decide 4 none) ∈ lw_B := List.mem_filter.mpr ⟨it_tables_1_2 _ (List.mem_of_getElem? (i := 36) rfl), rfl⟩
theorem tw_183 : (Cond.methodLink "CommitSites" 231 yX3_tidingsOf) ∈ lw_B := List.mem_filter.mpr ⟨it_tables_1_2 _ (List.mem_of_getElem? (i := 37) rfl), rfl⟩
theorem tw_184 : (Cond.static yX3_tidingsOf) ∈ lw_B := List.mem_filter.mpr ⟨it_tables_1_2 _ (List.mem_of_getElem? (i := 38) rfl), rfl⟩
theorem tw_185 : (Cond.code yX3_tidingsOf cX3_tidingsOf 1 (some .int)) ∈ lw_B := List.mem_filter.mpr ⟨it_tables_1_2 _ (List.mem_of_getElem? (i := 39) rfl), rfl⟩
theorem tw_186 : (Cond.methodLink "CommitSitesLaw" 40 yX3_crash) ∈ lw_B := List.mem_filter.mpr ⟨it_tables_1_2 _ (List.mem_of_getElem? (i := 40) rfl), rfl⟩
theorem tw_187 : (Cond.instanceMethod yX3_crash) ∈ lw_B := List.mem_filter.mpr ⟨it_tables_1_2 _ (List.mem_of_getElem? (i := 41) rfl), rfl⟩
theorem tw_188 : (Cond.selects "CommitSites" yX3_crash yX3_crash) ∈ lw_B := List.mem_filter.mpr ⟨it_tables_1_2 _ (List.mem_of_getElem? (i := 42) rfl), rfl⟩
theorem tw_189 : (Cond.code yX3_crash cX3_crash 3 (some .int)) ∈ lw_B := List.mem_filter.mpr ⟨it_tables_1_2 _ (List.mem_of_getElem? (i := 43) rfl), rfl⟩
theorem tw_190 : (Cond.methodLink "CommitSitesLaw" 44 yX3_recover) ∈ lw_B := List.mem_filter.mpr ⟨it_tables_1_2 _ (List.mem_of_getElem? (i := 44) rfl), rfl⟩
theorem tw_191 : (Cond.instanceMethod yX3_recover) ∈ lw_B := List.mem_filter.mpr ⟨it_tables_1_2 _ (List.mem_of_getElem? (i := 45) rfl), rfl⟩
theorem tw_192 : (Cond.selects "CommitSites" yX3_recover yX3_recover) ∈ lw_B := List.mem_filter.mpr ⟨it_tables_1_2 _ (List.mem_of_getElem? (i := 46) rfl), rfl⟩
theorem tw_193 : (Cond.code yX3_recover cX3_recover 3 (some .int)) ∈ lw_B := List.mem_filter.mpr ⟨it_tables_1_2 _ (List.mem_of_getElem? (i := 47) rfl), rfl⟩
theorem tw_194 : (Cond.methodLink "CommitSites" 101 yX3_attempt) ∈ lw_B := List.mem_filter.mpr ⟨it_tables_1_2 _ (List.mem_of_getElem? (i := 48) rfl), rfl⟩
theorem tw_195 : (Cond.instanceMethod yX3_attempt) ∈ lw_B := List.mem_filter.mpr ⟨it_tables_1_2 _ (List.mem_of_getElem? (i := 50) rfl), rfl⟩
theorem tw_196 : (Cond.code yX3_attempt cX3_attempt 3 none) ∈ lw_B := List.mem_filter.mpr ⟨it_tables_1_2 _ (List.mem_of_getElem? (i := 51) rfl), rfl⟩
theorem tw_197 : (Cond.methodLink "CommitSitesLaw" 48 yX3_run) ∈ lw_B := List.mem_filter.mpr ⟨it_tables_1_2 _ (List.mem_of_getElem? (i := 52) rfl), rfl⟩
theorem tw_198 : (Cond.instanceMethod yX3_run) ∈ lw_B := List.mem_filter.mpr ⟨it_tables_1_2 _ (List.mem_of_getElem? (i := 53) rfl), rfl⟩
theorem tw_199 : (Cond.selects "CommitSites" yX3_run yX3_run) ∈ lw_B := List.mem_filter.mpr ⟨it_tables_1_2 _ (List.mem_of_getElem? (i := 54) rfl), rfl⟩
theorem tw_200 : (Cond.code yX3_run cX3_run 6 (some .int)) ∈ lw_B := List.mem_filter.mpr ⟨it_tables_1_2 _ (List.mem_of_getElem? (i := 55) rfl), rfl⟩
theorem tw_201 : (Cond.constant "CommitSites" 107 1000000) ∈ lw_B := List.mem_filter.mpr ⟨it_tables_1_2 _ (List.mem_of_getElem? (i := 56) rfl), rfl⟩
theorem tw_202 : (Cond.methodLink "CommitSites" 108 yX3_takeNext) ∈ lw_B := List.mem_filter.mpr ⟨it_tables_1_2 _ (List.mem_of_getElem? (i := 57) rfl), rfl⟩
theorem tw_203 : (Cond.instanceMethod yX3_takeNext) ∈ lw_B := List.mem_filter.mpr ⟨it_tables_1_2 _ (List.mem_of_getElem? (i := 59) rfl), rfl⟩
theorem tw_204 : (Cond.code yX3_takeNext cX3_takeNext 5 (some .int)) ∈ lw_B := List.mem_filter.mpr ⟨it_tables_1_2 _ (List.mem_of_getElem? (i := 60) rfl), rfl⟩
theorem tw_205 : (Cond.methodLink "CommitSites" 143 yX1_first) ∈ lw_B := List.mem_filter.mpr ⟨it_tables_1_2 _ (List.mem_of_getElem? (i := 61) rfl), rfl⟩
theorem tw_206 : (Cond.instanceMethod yX1_first) ∈ lw_B := List.mem_filter.mpr ⟨it_tables_1_2 _ (List.mem_of_getElem? (i := 62) rfl), rfl⟩
theorem tw_207 : (Cond.selects "CommitSites$Network" yX1_first yX1_first) ∈ lw_B := List.mem_filter.mpr ⟨it_tables_1_2 _ (List.mem_of_getElem? (i := 63) rfl), rfl⟩
theorem tw_208 : (Cond.code yX1_first cX1_first 2 (some (.object "CommitSites$Message"))) ∈ lw_B := List.mem_filter.mpr ⟨it_tables_1_2 _ (List.mem_of_getElem? (i := 64) rfl), rfl⟩
theorem tw_209 : (Cond.methodLink "CommitSites" 147 yX3_firstTimer) ∈ lw_B := List.mem_filter.mpr ⟨it_tables_1_2 _ (List.mem_of_getElem? (i := 65) rfl), rfl⟩
theorem tw_210 : (Cond.instanceMethod yX3_firstTimer) ∈ lw_B := List.mem_filter.mpr ⟨it_tables_1_2 _ (List.mem_of_getElem? (i := 67) rfl), rfl⟩
theorem tw_211 : (Cond.code yX3_firstTimer cX3_firstTimer 3 (some .int)) ∈ lw_B := List.mem_filter.mpr ⟨it_tables_1_2 _ (List.mem_of_getElem? (i := 68) rfl), rfl⟩
theorem tw_212 : (Cond.methodLink "CommitSites" 183 yX2_runsOutEarlier) ∈ lw_B := List.mem_filter.mpr ⟨it_tables_1_2 _ (List.mem_of_getElem? (i := 69) rfl), rfl⟩
theorem tw_213 : (Cond.instanceMethod yX2_runsOutEarlier) ∈ lw_B := List.mem_filter.mpr ⟨it_tables_1_2 _ (List.mem_of_getElem? (i := 70) rfl), rfl⟩
theorem tw_214 : (Cond.selects "CommitSites$Site" yX2_runsOutEarlier yX2_runsOutEarlier) ∈ lw_B := List.mem_filter.mpr ⟨it_tables_1_2 _ (List.mem_of_getElem? (i := 71) rfl), rfl⟩
theorem tw_215 : (Cond.code yX2_runsOutEarlier cX2_runsOutEarlier 2 (some .boolean)) ∈ lw_B := List.mem_filter.mpr ⟨it_tables_1_2 _ (List.mem_of_getElem? (i := 72) rfl), rfl⟩
theorem tw_216 : (Cond.methodLink "CommitSites" 150 yX2_runsOutBefore) ∈ lw_B := List.mem_filter.mpr ⟨it_tables_1_2 _ (List.mem_of_getElem? (i := 73) rfl), rfl⟩
theorem tw_217 : (Cond.instanceMethod yX2_runsOutBefore) ∈ lw_B := List.mem_filter.mpr ⟨it_tables_1_2 _ (List.mem_of_getElem? (i := 74) rfl), rfl⟩
theorem tw_218 : (Cond.selects "CommitSites$Site" yX2_runsOutBefore yX2_runsOutBefore) ∈ lw_B := List.mem_filter.mpr ⟨it_tables_1_2 _ (List.mem_of_getElem? (i := 75) rfl), rfl⟩
theorem tw_219 : (Cond.code yX2_runsOutBefore cX2_runsOutBefore 2 (some .boolean)) ∈ lw_B := List.mem_filter.mpr ⟨it_tables_1_2 _ (List.mem_of_getElem? (i := 76) rfl), rfl⟩
theorem tw_220 : (Cond.methodLink "CommitSites" 154 yX3_runOut) ∈ lw_B := List.mem_filter.mpr ⟨it_tables_1_2 _ (List.mem_of_getElem? (i := 77) rfl), rfl⟩
theorem tw_221 : (Cond.instanceMethod yX3_runOut) ∈ lw_B := List.mem_filter.mpr ⟨it_tables_1_2 _ (List.mem_of_getElem? (i := 79) rfl), rfl⟩
theorem tw_222 : (Cond.code yX3_runOut cX3_runOut 3 none) ∈ lw_B := List.mem_filter.mpr ⟨it_tables_1_2 _ (List.mem_of_getElem? (i := 80) rfl), rfl⟩
theorem tw_223 : (Cond.methodLink "CommitSites" 240 yX3_toldWeight) ∈ lw_B := List.mem_filter.mpr ⟨it_tables_1_2 _ (List.mem_of_getElem? (i := 81) rfl), rfl⟩
theorem tw_224 : (Cond.instanceMethod yX3_toldWeight) ∈ lw_B := List.mem_filter.mpr ⟨it_tables_1_2 _ (List.mem_of_getElem? (i := 83) rfl), rfl⟩
theorem tw_225 : (Cond.code yX3_toldWeight cX3_toldWeight 5 (some .int)) ∈ lw_B := List.mem_filter.mpr ⟨it_tables_1_2 _ (List.mem_of_getElem? (i := 84) rfl), rfl⟩
theorem tw_226 : (Cond.methodLink "CommitSites" 160 yX1_takeOff) ∈ lw_B := List.mem_filter.mpr ⟨it_tables_1_2 _ (List.mem_of_getElem? (i := 85) rfl), rfl⟩
theorem tw_227 : (Cond.instanceMethod yX1_takeOff) ∈ lw_B := List.mem_filter.mpr ⟨it_tables_1_2 _ (List.mem_of_getElem? (i := 86) rfl), rfl⟩
theorem tw_228 : (Cond.selects "CommitSites$Network" yX1_takeOff yX1_takeOff) ∈ lw_B := List.mem_filter.mpr ⟨it_tables_1_2 _ (List.mem_of_getElem? (i := 87) rfl), rfl⟩
theorem tw_229 : (Cond.code yX1_takeOff cX1_takeOff 3 none) ∈ lw_B := List.mem_filter.mpr ⟨it_tables_1_2 _ (List.mem_of_getElem? (i := 88) rfl), rfl⟩
theorem tw_230 : (Cond.methodLink "CommitSites" 177 yX3_receive) ∈ lw_B := List.mem_filter.mpr ⟨it_tables_1_2 _ (List.mem_of_getElem? (i := 89) rfl), rfl⟩
theorem tw_231 : (Cond.instanceMethod yX3_receive) ∈ lw_B := List.mem_filter.mpr ⟨it_tables_1_2 _ (List.mem_of_getElem? (i := 91) rfl), rfl⟩
theorem tw_232 : (Cond.code yX3_receive cX3_receive 2 none) ∈ lw_B := List.mem_filter.mpr ⟨it_tables_1_2 _ (List.mem_of_getElem? (i := 92) rfl), rfl⟩
theorem tw_233 : (Cond.methodLink "CommitSites" 187 yX3_onAskVote) ∈ lw_B := List.mem_filter.mpr ⟨it_tables_1_2 _ (List.mem_of_getElem? (i := 93) rfl), rfl⟩
theorem tw_234 : (Cond.instanceMethod yX3_onAskVote) ∈ lw_B := List.mem_filter.mpr ⟨it_tables_1_2 _ (List.mem_of_getElem? (i := 95) rfl), rfl⟩
theorem tw_235 : (Cond.code yX3_onAskVote cX3_onAskVote 4 none) ∈ lw_B := List.mem_filter.mpr ⟨it_tables_1_2 _ (List.mem_of_getElem? (i := 96) rfl), rfl⟩
theorem tw_236 : (Cond.methodLink "CommitSites" 190 yX3_onYes) ∈ lw_B := List.mem_filter.mpr ⟨it_tables_1_2 _ (List.mem_of_getElem? (i := 97) rfl), rfl⟩
theorem tw_237 : (Cond.instanceMethod yX3_onYes) ∈ lw_B := List.mem_filter.mpr ⟨it_tables_1_2 _ (List.mem_of_getElem? (i := 99) rfl), rfl⟩
theorem tw_238 : (Cond.code yX3_onYes cX3_onYes 4 none) ∈ lw_B := List.mem_filter.mpr ⟨it_tables_1_2 _ (List.mem_of_getElem? (i := 100) rfl), rfl⟩
theorem tw_239 : (Cond.methodLink "CommitSites" 193 yX3_onNo) ∈ lw_B := List.mem_filter.mpr ⟨it_tables_1_2 _ (List.mem_of_getElem? (i := 101) rfl), rfl⟩
theorem tw_240 : (Cond.instanceMethod yX3_onNo) ∈ lw_B := List.mem_filter.mpr ⟨it_tables_1_2 _ (List.mem_of_getElem? (i := 103) rfl), rfl⟩
theorem tw_241 : (Cond.code yX3_onNo cX3_onNo 2 none) ∈ lw_B := List.mem_filter.mpr ⟨it_tables_1_2 _ (List.mem_of_getElem? (i := 104) rfl), rfl⟩
theorem tw_242 : (Cond.methodLink "CommitSites" 196 yX3_onAskState) ∈ lw_B := List.mem_filter.mpr ⟨it_tables_1_2 _ (List.mem_of_getElem? (i := 105) rfl), rfl⟩
theorem tw_243 : (Cond.instanceMethod yX3_onAskState) ∈ lw_B := List.mem_filter.mpr ⟨it_tables_1_2 _ (List.mem_of_getElem? (i := 107) rfl), rfl⟩
theorem tw_244 : (Cond.code yX3_onAskState cX3_onAskState 5 none) ∈ lw_B := List.mem_filter.mpr ⟨it_tables_1_2 _ (List.mem_of_getElem? (i := 108) rfl), rfl⟩
theorem tw_245 : (Cond.methodLink "CommitSites" 225 yX3_yieldTo) ∈ lw_B := List.mem_filter.mpr ⟨it_tables_1_2 _ (List.mem_of_getElem? (i := 109) rfl), rfl⟩
theorem tw_246 : (Cond.instanceMethod yX3_yieldTo) ∈ lw_B := List.mem_filter.mpr ⟨it_tables_1_2 _ (List.mem_of_getElem? (i := 111) rfl), rfl⟩
theorem tw_247 : (Cond.code yX3_yieldTo cX3_yieldTo 5 none) ∈ lw_B := List.mem_filter.mpr ⟨it_tables_1_2 _ (List.mem_of_getElem? (i := 112) rfl), rfl⟩
theorem tw_248 : (Cond.methodLink "CommitSites" 200 yX3_onState) ∈ lw_B := List.mem_filter.mpr ⟨it_tables_1_2 _ (List.mem_of_getElem? (i := 113) rfl), rfl⟩
theorem tw_249 : (Cond.instanceMethod yX3_onState) ∈ lw_B := List.mem_filter.mpr ⟨it_tables_1_2 _ (List.mem_of_getElem? (i := 115) rfl), rfl⟩
theorem tw_250 : (Cond.code yX3_onState cX3_onState 6 none) ∈ lw_B := List.mem_filter.mpr ⟨it_tables_1_2 _ (List.mem_of_getElem? (i := 116) rfl), rfl⟩
theorem tw_251 : (Cond.methodLink "CommitSites" 204 yX3_onAskReady) ∈ lw_B := List.mem_filter.mpr ⟨it_tables_1_2 _ (List.mem_of_getElem? (i := 117) rfl), rfl⟩
theorem tw_252 : (Cond.instanceMethod yX3_onAskReady) ∈ lw_B := List.mem_filter.mpr ⟨it_tables_1_2 _ (List.mem_of_getElem? (i := 119) rfl), rfl⟩
theorem tw_253 : (Cond.code yX3_onAskReady cX3_onAskReady 6 none) ∈ lw_B := List.mem_filter.mpr ⟨it_tables_1_2 _ (List.mem_of_getElem? (i := 120) rfl), rfl⟩
theorem tw_254 : (Cond.methodLink "CommitSites" 207 yX3_onAcknowledge) ∈ lw_B := List.mem_filter.mpr ⟨it_tables_1_2 _ (List.mem_of_getElem? (i := 121) rfl), rfl⟩
theorem tw_255 : (Cond.instanceMethod yX3_onAcknowledge) ∈ lw_B := List.mem_filter.mpr ⟨it_tables_1_2 _ (List.mem_of_getElem? (i := 123) rfl), rfl⟩
theorem tw_256 : (Cond.code yX3_onAcknowledge cX3_onAcknowledge 5 none) ∈ lw_B := List.mem_filter.mpr ⟨it_tables_1_2 _ (List.mem_of_getElem? (i := 124) rfl), rfl⟩
theorem tw_257 : (Cond.methodLink "CommitSites" 234 yX2_collectsAcks) ∈ lw_B := List.mem_filter.mpr ⟨it_tables_1_2 _ (List.mem_of_getElem? (i := 125) rfl), rfl⟩
theorem tw_258 : (Cond.instanceMethod yX2_collectsAcks) ∈ lw_B := List.mem_filter.mpr ⟨it_tables_1_2 _ (List.mem_of_getElem? (i := 126) rfl), rfl⟩
theorem tw_259 : (Cond.selects "CommitSites$Site" yX2_collectsAcks yX2_collectsAcks) ∈ lw_B := List.mem_filter.mpr ⟨it_tables_1_2 _ (List.mem_of_getElem? (i := 127) rfl), rfl⟩
theorem tw_260 : (Cond.code yX2_collectsAcks cX2_collectsAcks 1 (some .boolean)) ∈ lw_B := List.mem_filter.mpr ⟨it_tables_1_2 _ (List.mem_of_getElem? (i := 128) rfl), rfl⟩
theorem tw_261 : (Cond.methodLink "CommitSites" 210 yX3_onDecision) ∈ lw_B := List.mem_filter.mpr ⟨it_tables_1_2 _ (List.mem_of_getElem? (i := 129) rfl), rfl⟩
theorem tw_262 : (Cond.instanceMethod yX3_onDecision) ∈ lw_B := List.mem_filter.mpr ⟨it_tables_1_2 _ (List.mem_of_getElem? (i := 131) rfl), rfl⟩
theorem tw_263 : (Cond.code yX3_onDecision cX3_onDecision 4 none) ∈ lw_B := List.mem_filter.mpr ⟨it_tables_1_2 _ (List.mem_of_getElem? (i := 132) rfl), rfl⟩
theorem tw_264 : (Cond.methodLink "CommitSites" 180 yX1_keepSpare) ∈ lw_B := List.mem_filter.mpr ⟨it_tables_1_2 _ (List.mem_of_getElem? (i := 133) rfl), rfl⟩
theorem tw_265 : (Cond.instanceMethod yX1_keepSpare) ∈ lw_B := List.mem_filter.mpr ⟨it_tables_1_2 _ (List.mem_of_getElem? (i := 134) rfl), rfl⟩
theorem tw_266 : (Cond.selects "CommitSites$Network" yX1_keepSpare yX1_keepSpare) ∈ lw_B := List.mem_filter.mpr ⟨it_tables_1_2 _ (List.mem_of_getElem? (i := 135) rfl), rfl⟩
theorem tw_267 : (Cond.code yX1_keepSpare cX1_keepSpare 2 none) ∈ lw_B := List.mem_filter.mpr ⟨it_tables_1_2 _ (List.mem_of_getElem? (i := 136) rfl), rfl⟩
theorem tw_268 : (Cond.methodLink "CommitSitesLaw" 52 yX3_step) ∈ lw_B := List.mem_filter.mpr ⟨it_tables_1_2 _ (List.mem_of_getElem? (i := 137) rfl), rfl⟩
theorem tw_269 : (Cond.instanceMethod yX3_step) ∈ lw_B := List.mem_filter.mpr ⟨it_tables_1_2 _ (List.mem_of_getElem? (i := 138) rfl), rfl⟩
theorem tw_270 : (Cond.selects "CommitSites" yX3_step yX3_step) ∈ lw_B := List.mem_filter.mpr ⟨it_tables_1_2 _ (List.mem_of_getElem? (i := 139) rfl), rfl⟩
theorem tw_271 : (Cond.code yX3_step cX3_step 3 (some .int)) ∈ lw_B := List.mem_filter.mpr ⟨it_tables_1_2 _ (List.mem_of_getElem? (i := 140) rfl), rfl⟩
theorem tw_272 : (Cond.methodLink "CommitSitesLaw" 57 yX3_reset) ∈ lw_B := List.mem_filter.mpr ⟨it_tables_1_2 _ (List.mem_of_getElem? (i := 141) rfl), rfl⟩
theorem tw_273 : (Cond.instanceMethod yX3_reset) ∈ lw_B := List.mem_filter.mpr ⟨it_tables_1_2 _ (List.mem_of_getElem? (i := 142) rfl), rfl⟩
theorem tw_274 : (Cond.selects "CommitSites" yX3_reset yX3_reset) ∈ lw_B := List.mem_filter.mpr ⟨it_tables_1_2 _ (List.mem_of_getElem? (i := 143) rfl), rfl⟩
theorem tw_275 : (Cond.code yX3_reset cX3_reset 2 (some .int)) ∈ lw_B := List.mem_filter.mpr ⟨it_tables_1_2 _ (List.mem_of_getElem? (i := 144) rfl), rfl⟩
theorem tw_276 : (Cond.methodLink "CommitSites" 118 yX1_startAnew) ∈ lw_B := List.mem_filter.mpr ⟨it_tables_1_2 _ (List.mem_of_getElem? (i := 145) rfl), rfl⟩
theorem tw_277 : (Cond.instanceMethod yX1_startAnew) ∈ lw_B := List.mem_filter.mpr ⟨it_tables_1_2 _ (List.mem_of_getElem? (i := 146) rfl), rfl⟩
theorem tw_278 : (Cond.selects "CommitSites$Network" yX1_startAnew yX1_startAnew) ∈ lw_B := List.mem_filter.mpr ⟨it_tables_1_2 _ (List.mem_of_getElem? (i := 147) rfl), rfl⟩
theorem tw_279 : (Cond.code yX1_startAnew cX1_startAnew 2 none) ∈ lw_B := List.mem_filter.mpr ⟨it_tables_1_2 _ (List.mem_of_getElem? (i := 148) rfl), rfl⟩
theorem tw_280 : (Cond.methodLink "CommitSites" 121 yX2_startAnew) ∈ lw_B := List.mem_filter.mpr ⟨it_tables_1_2 _ (List.mem_of_getElem? (i := 149) rfl), rfl⟩
theorem tw_281 : (Cond.methodLink "CommitSitesLaw" 61 yX3_of) ∈ lw_B := List.mem_filter.mpr ⟨it_tables_1_2 _ (List.mem_of_getElem? (i := 150) rfl), rfl⟩
theorem tw_282 : (Cond.instanceMethod yX3_of) ∈ lw_B := List.mem_filter.mpr ⟨it_tables_1_2 _ (List.mem_of_getElem? (i := 151) rfl), rfl⟩
theorem tw_283 : (Cond.selects "CommitSites" yX3_of yX3_of) ∈ lw_B := List.mem_filter.mpr ⟨it_tables_1_2 _ (List.mem_of_getElem? (i := 152) rfl), rfl⟩
theorem tw_284 : (Cond.code yX3_of cX3_of 4 (some .int)) ∈ lw_B := List.mem_filter.mpr ⟨it_tables_1_2 _ (List.mem_of_getElem? (i := 153) rfl), rfl⟩
theorem tw_285 : (Cond.methodLink "CommitSitesLaw" 65 yX3_count) ∈ lw_B := List.mem_filter.mpr ⟨it_tables_1_2 _ (List.mem_of_getElem? (i := 154) rfl), rfl⟩
theorem tw_286 : (Cond.instanceMethod yX3_count) ∈ lw_B := List.mem_filter.mpr ⟨it_tables_1_2 _ (List.mem_of_getElem? (i := 155) rfl), rfl⟩
theorem tw_287 : (Cond.selects "CommitSites" yX3_count yX3_count) ∈ lw_B := List.mem_filter.mpr ⟨it_tables_1_2 _ (List.mem_of_getElem? (i := 156) rfl), rfl⟩
theorem tw_288 : (Cond.code yX3_count cX3_count 2 (some .int)) ∈ lw_B := List.mem_filter.mpr ⟨it_tables_1_2 _ (List.mem_of_getElem? (i := 157) rfl), rfl⟩
theorem tw_289 : (Cond.methodLink "CommitSitesLaw" 69 yX3_delay) ∈ lw_B := List.mem_filter.mpr ⟨it_tables_1_2 _ (List.mem_of_getElem? (i := 158) rfl), rfl⟩
theorem tw_290 : (Cond.instanceMethod yX3_delay) ∈ lw_B := List.mem_filter.mpr ⟨it_tables_1_2 _ (List.mem_of_getElem? (i := 159) rfl), rfl⟩
theorem tw_291 : (Cond.selects "CommitSites" yX3_delay yX3_delay) ∈ lw_B := List.mem_filter.mpr ⟨it_tables_1_2 _ (List.mem_of_getElem? (i := 160) rfl), rfl⟩
theorem tw_292 : (Cond.code yX3_delay cX3_delay 3 (some .int)) ∈ lw_B := List.mem_filter.mpr ⟨it_tables_1_2 _ (List.mem_of_getElem? (i := 161) rfl), rfl⟩
theorem tw_293 : (Cond.methodLink "CommitSitesLaw" 73 yX3_weight) ∈ lw_B := List.mem_filter.mpr ⟨it_tables_1_2 _ (List.mem_of_getElem? (i := 162) rfl), rfl⟩
theorem tw_294 : (Cond.instanceMethod yX3_weight) ∈ lw_B := List.mem_filter.mpr ⟨it_tables_1_2 _ (List.mem_of_getElem? (i := 163) rfl), rfl⟩
theorem tw_295 : (Cond.selects "CommitSites" yX3_weight yX3_weight) ∈ lw_B := List.mem_filter.mpr ⟨it_tables_1_2 _ (List.mem_of_getElem? (i := 164) rfl), rfl⟩
theorem tw_296 : (Cond.code yX3_weight cX3_weight 4 (some .int)) ∈ lw_B := List.mem_filter.mpr ⟨it_tables_1_2 _ (List.mem_of_getElem? (i := 165) rfl), rfl⟩
theorem tw_297 : (Cond.methodLink "CommitSitesLaw" 77 yX3_latest) ∈ lw_B := List.mem_filter.mpr ⟨it_tables_1_2 _ (List.mem_of_getElem? (i := 166) rfl), rfl⟩
theorem tw_298 : (Cond.instanceMethod yX3_latest) ∈ lw_B := List.mem_filter.mpr ⟨it_tables_1_2 _ (List.mem_of_getElem? (i := 167) rfl), rfl⟩
theorem tw_299 : (Cond.selects "CommitSites" yX3_latest yX3_latest) ∈ lw_B := List.mem_filter.mpr ⟨it_tables_1_2 _ (List.mem_of_getElem? (i := 168) rfl), rfl⟩
theorem tw_300 : (Cond.code yX3_latest cX3_latest 2 (some .int)) ∈ lw_B := List.mem_filter.mpr ⟨it_tables_1_2 _ (List.mem_of_getElem? (i := 169) rfl), rfl⟩
theorem tw_301 : (Cond.methodLink "CommitSitesLaw" 81 yX3_check) ∈ lw_B := List.mem_filter.mpr ⟨it_tables_1_2 _ (List.mem_of_getElem? (i := 170) rfl), rfl⟩
theorem tw_302 : (Cond.instanceMethod yX3_check) ∈ lw_B := List.mem_filter.mpr ⟨it_tables_1_2 _ (List.mem_of_getElem? (i := 171) rfl), rfl⟩
theorem tw_303 : (Cond.selects "CommitSites" yX3_check yX3_check) ∈ lw_B := List.mem_filter.mpr ⟨it_tables_1_2 _ (List.mem_of_getElem? (i := 172) rfl), rfl⟩
theorem tw_304 : (Cond.code yX3_check cX3_check 5 (some .int)) ∈ lw_B := List.mem_filter.mpr ⟨it_tables_1_2 _ (List.mem_of_getElem? (i := 173) rfl), rfl⟩
theorem tw_305 : (Cond.classLink "CommitSitesLaw" 10 "CommitSitesModel") ∈ lw_B := List.mem_filter.mpr ⟨it_tables_1_2 _ (List.mem_of_getElem? (i := 174) rfl), rfl⟩
theorem tw_306 : (Cond.instantiable "CommitSitesModel" 34) ∈ lw_B := List.mem_filter.mpr ⟨it_tables_1_2 _ (List.mem_of_getElem? (i := 175) rfl), rfl⟩
theorem tw_307 : (Cond.methodLink "CommitSitesLaw" 12 yX4_init) ∈ lw_B := List.mem_filter.mpr ⟨it_tables_1_2 _ (List.mem_of_getElem? (i := 176) rfl), rfl⟩
theorem tw_308 : (Cond.instanceMethod yX4_init) ∈ lw_B := List.mem_filter.mpr ⟨it_tables_1_2 _ (List.mem_of_getElem? (i := 177) rfl), rfl⟩
theorem tw_309 : (Cond.code yX4_init cX4_init 1 none) ∈ lw_B := List.mem_filter.mpr ⟨it_tables_1_2 _ (List.mem_of_getElem? (i := 178) rfl), rfl⟩
theorem tw_310 : (Cond.methodLink "CommitSitesModel" 1 objectInit) ∈ lw_B := List.mem_filter.mpr ⟨it_tables_1_2 _ (List.mem_of_getElem? (i := 179) rfl), rfl⟩
theorem tw_311 : (Cond.constant "CommitSitesModel" 48 60000) ∈ lw_B := List.mem_filter.mpr ⟨it_tables_1_2 _ (List.mem_of_getElem? (i := 180) rfl), rfl⟩
theorem tw_312 : (Cond.fieldLink "CommitSitesModel" 73 "CommitSitesModel" "thrown" "I") ∈ lw_B := List.mem_filter.mpr ⟨it_tables_1_2 _ (List.mem_of_getElem? (i := 181) rfl), rfl⟩
theorem tw_313 : (Cond.fieldLink "CommitSitesModel" 76 "CommitSitesModel" "sites" "I") ∈ lw_B := List.mem_filter.mpr ⟨it_tables_1_2 _ (List.mem_of_getElem? (i := 182) rfl), rfl⟩
theorem tw_314 : (Cond.fieldLink "CommitSitesModel" 7 "CommitSitesModel" "weights" "[I") ∈ lw_B := List.mem_filter.mpr ⟨it_tables_1_2 _ (List.mem_of_getElem? (i := 183) rfl), rfl⟩
theorem tw_315 : (Cond.fieldLink "CommitSitesModel" 87 "CommitSitesModel" "commitQuorum" "I") ∈ lw_B := List.mem_filter.mpr ⟨it_tables_1_2 _ (List.mem_of_getElem? (i := 184) rfl), rfl⟩
theorem tw_316 : (Cond.fieldLink "CommitSitesModel" 90 "CommitSitesModel" "abortQuorum" "I") ∈ lw_B := List.mem_filter.mpr ⟨it_tables_1_2 _ (List.mem_of_getElem? (i := 185) rfl), rfl⟩
theorem tw_317 : (Cond.fieldLink "CommitSitesModel" 13 "CommitSitesModel" "patience" "I") ∈ lw_B := List.mem_filter.mpr ⟨it_tables_1_2 _ (List.mem_of_getElem? (i := 186) rfl), rfl⟩
theorem tw_318 : (Cond.fieldLink "CommitSitesModel" 17 "CommitSitesModel" "delays" "[I") ∈ lw_B := List.mem_filter.mpr ⟨it_tables_1_2 _ (List.mem_of_getElem? (i := 187) rfl), rfl⟩
theorem tw_319 : (Cond.fieldLink "CommitSitesModel" 79 "CommitSitesModel" "begun" "Z") ∈ lw_B := List.mem_filter.mpr ⟨it_tables_1_2 _ (List.mem_of_getElem? (i := 188) rfl), rfl⟩
theorem tw_320 : (Cond.fieldLink "CommitSitesModel" 106 "CommitSitesModel" "now" "I") ∈ lw_B := List.mem_filter.mpr ⟨it_tables_1_2 _ (List.mem_of_getElem? (i := 189) rfl), rfl⟩
theorem tw_321 : (Cond.fieldLink "CommitSitesModel" 109 "CommitSitesModel" "numbers" "I") ∈ lw_B := List.mem_filter.mpr ⟨it_tables_1_2 _ (List.mem_of_getElem? (i := 190) rfl), rfl⟩
theorem tw_322 : (Cond.fieldLink "CommitSitesModel" 97 "CommitSitesModel" "sent" "I") ∈ lw_B := List.mem_filter.mpr ⟨it_tables_1_2 _ (List.mem_of_getElem? (i := 191) rfl), rfl⟩
theorem tw_323 : (Cond.fieldLink "CommitSitesModel" 179 "CommitSitesModel" "come" "I") ∈ lw_B := List.mem_filter.mpr ⟨it_tables_1_2 _ (List.mem_of_getElem? (i := 192) rfl), rfl⟩
theorem tw_324 : (Cond.fieldLink "CommitSitesModel" 100 "CommitSitesModel" "lost" "I") ∈ lw_B := List.mem_filter.mpr ⟨it_tables_1_2 _ (List.mem_of_getElem? (i := 193) rfl), rfl⟩
theorem tw_325 : (Cond.fieldLink "CommitSitesModel" 170 "CommitSitesModel" "rang" "I") ∈ lw_B := List.mem_filter.mpr ⟨it_tables_1_2 _ (List.mem_of_getElem? (i := 194) rfl), rfl⟩
theorem tw_326 : (Cond.fieldLink "CommitSitesModel" 20 "CommitSitesModel" "states" "[I") ∈ lw_B := List.mem_filter.mpr ⟨it_tables_1_2 _ (List.mem_of_getElem? (i := 195) rfl), rfl⟩
theorem tw_327 : (Cond.fieldLink "CommitSitesModel" 23 "CommitSitesModel" "since" "[I") ∈ lw_B := List.mem_filter.mpr ⟨it_tables_1_2 _ (List.mem_of_getElem? (i := 196) rfl), rfl⟩
theorem tw_328 : (Cond.fieldLink "CommitSitesModel" 26 "CommitSitesModel" "down" "[Z") ∈ lw_B := List.mem_filter.mpr ⟨it_tables_1_2 _ (List.mem_of_getElem? (i := 197) rfl), rfl⟩
theorem tw_329 : (Cond.fieldLink "CommitSitesModel" 30 "CommitSitesModel" "votes" "[Z") ∈ lw_B := List.mem_filter.mpr ⟨it_tables_1_2 _ (List.mem_of_getElem? (i := 198) rfl), rfl⟩
theorem tw_330 : (Cond.fieldLink "CommitSitesModel" 33 "CommitSitesModel" "doing" "[I") ∈ lw_B := List.mem_filter.mpr ⟨it_tables_1_2 _ (List.mem_of_getElem? (i := 199) rfl), rfl⟩
theorem tw_331 : (Cond.fieldLink "CommitSitesModel" 36 "CommitSitesModel" "attempts" "[I") ∈ lw_B := List.mem_filter.mpr ⟨it_tables_1_2 _ (List.mem_of_getElem? (i := 200) rfl), rfl⟩
theorem tw_332 : (Cond.fieldLink "CommitSitesModel" 39 "CommitSitesModel" "there" "[I") ∈ lw_B := List.mem_filter.mpr ⟨it_tables_1_2 _ (List.mem_of_getElem? (i := 201) rfl), rfl⟩
theorem tw_333 : (Cond.fieldLink "CommitSitesModel" 42 "CommitSitesModel" "timers" "[I") ∈ lw_B := List.mem_filter.mpr ⟨it_tables_1_2 _ (List.mem_of_getElem? (i := 202) rfl), rfl⟩
theorem tw_334 : (Cond.fieldLink "CommitSitesModel" 45 "CommitSitesModel" "timerNumbers" "[I") ∈ lw_B := List.mem_filter.mpr ⟨it_tables_1_2 _ (List.mem_of_getElem? (i := 203) rfl), rfl⟩
theorem tw_335 : (Cond.fieldLink "CommitSitesModel" 49 "CommitSitesModel" "kinds" "[I") ∈ lw_B := List.mem_filter.mpr ⟨it_tables_1_2 _ (List.mem_of_getElem? (i := 204) rfl), rfl⟩
theorem tw_336 : (Cond.fieldLink "CommitSitesModel" 52 "CommitSitesModel" "froms" "[I") ∈ lw_B := List.mem_filter.mpr ⟨it_tables_1_2 _ (List.mem_of_getElem? (i := 205) rfl), rfl⟩
theorem tw_337 : (Cond.fieldLink "CommitSitesModel" 55 "CommitSitesModel" "tos" "[I") ∈ lw_B := List.mem_filter.mpr ⟨it_tables_1_2 _ (List.mem_of_getElem? (i := 206) rfl), rfl⟩
theorem tw_338 : (Cond.fieldLink "CommitSitesModel" 58 "CommitSitesModel" "attemptsTold" "[I") ∈ lw_B := List.mem_filter.mpr ⟨it_tables_1_2 _ (List.mem_of_getElem? (i := 207) rfl), rfl⟩
theorem tw_339 : (Cond.fieldLink "CommitSitesModel" 61 "CommitSitesModel" "statesTold" "[I") ∈ lw_B := List.mem_filter.mpr ⟨it_tables_1_2 _ (List.mem_of_getElem? (i := 208) rfl), rfl⟩
theorem tw_340 : (Cond.fieldLink "CommitSitesModel" 64 "CommitSitesModel" "times" "[I") ∈ lw_B := List.mem_filter.mpr ⟨it_tables_1_2 _ (List.mem_of_getElem? (i := 209) rfl), rfl⟩
theorem tw_341 : (Cond.fieldLink "CommitSitesModel" 67 "CommitSitesModel" "order" "[I") ∈ lw_B := List.mem_filter.mpr ⟨it_tables_1_2 _ (List.mem_of_getElem? (i := 210) rfl), rfl⟩
theorem tw_342 : (Cond.fieldLink "CommitSitesModel" 103 "CommitSitesModel" "messages" "I") ∈ lw_B := List.mem_filter.mpr ⟨it_tables_1_2 _ (List.mem_of_getElem? (i := 211) rfl), rfl⟩
theorem tw_343 : (Cond.fieldLink "CommitSitesModel" 70 "CommitSitesModel" "latest" "[I") ∈ lw_B := List.mem_filter.mpr ⟨it_tables_1_2 _ (List.mem_of_getElem? (i := 212) rfl), rfl⟩
theorem tw_344 : (Cond.fieldLink "CommitSitesModel" 164 "CommitSitesModel" "nextWhat" "I") ∈ lw_B := List.mem_filter.mpr ⟨it_tables_1_2 _ (List.mem_of_getElem? (i := 213) rfl), rfl⟩
theorem tw_345 : (Cond.fieldLink "CommitSitesModel" 167 "CommitSitesModel" "nextTime" "I") ∈ lw_B := List.mem_filter.mpr ⟨it_tables_1_2 _ (List.mem_of_getElem? (i := 214) rfl), rfl⟩
theorem tw_346 : (Cond.arrayClass (.boolean)) ∈ lw_B := List.mem_filter.mpr ⟨it_tables_1_3 _ (List.mem_of_getElem? (i := 44) rfl), rfl⟩
theorem tw_347 : (Cond.methodLink "CommitSitesLaw" 17 yX4_site) ∈ lw_B := List.mem_filter.mpr ⟨it_tables_1_3 _ (List.mem_of_getElem? (i := 45) rfl), rfl⟩
theorem tw_348 : (Cond.instanceMethod yX4_site) ∈ lw_B := List.mem_filter.mpr ⟨it_tables_1_3 _ (List.mem_of_getElem? (i := 46) rfl), rfl⟩
theorem tw_349 : (Cond.selects "CommitSitesModel" yX4_site yX4_site) ∈ lw_B := List.mem_filter.mpr ⟨it_tables_1_3 _ (List.mem_of_getElem? (i := 47) rfl), rfl⟩
theorem tw_350 : (Cond.code yX4_site cX4_site 3 (some .int)) ∈ lw_B := List.mem_filter.mpr ⟨it_tables_1_3 _ (List.mem_of_getElem? (i := 48) rfl), rfl⟩
theorem tw_351 : (Cond.methodLink "CommitSitesModel" 83 yX4_all) ∈ lw_B := List.mem_filter.mpr ⟨it_tables_1_3 _ (List.mem_of_getElem? (i := 49) rfl), rfl⟩
theorem tw_352 : (Cond.instanceMethod yX4_all) ∈ lw_B := List.mem_filter.mpr ⟨it_tables_1_3 _ (List.mem_of_getElem? (i := 51) rfl), rfl⟩
theorem tw_353 : (Cond.code yX4_all cX4_all 3 (some .int)) ∈ lw_B := List.mem_filter.mpr ⟨it_tables_1_3 _ (List.mem_of_getElem? (i := 52) rfl), rfl⟩
theorem tw_354 : (Cond.methodLink "CommitSitesLaw" 22 yX4_quorums) ∈ lw_B := List.mem_filter.mpr ⟨it_tables_1_3 _ (List.mem_of_getElem? (i := 53) rfl), rfl⟩
theorem tw_355 : (Cond.instanceMethod yX4_quorums) ∈ lw_B := List.mem_filter.mpr ⟨it_tables_1_3 _ (List.mem_of_getElem? (i := 54) rfl), rfl⟩
theorem tw_356 : (Cond.selects "CommitSitesModel" yX4_quorums yX4_quorums) ∈ lw_B := List.mem_filter.mpr ⟨it_tables_1_3 _ (List.mem_of_getElem? (i := 55) rfl), rfl⟩
theorem tw_357 : (Cond.code yX4_quorums cX4_quorums 4 (some .int)) ∈ lw_B := List.mem_filter.mpr ⟨it_tables_1_3 _ (List.mem_of_getElem? (i := 56) rfl), rfl⟩
theorem tw_358 : (Cond.methodLink "CommitSitesLaw" 27 yX4_link) ∈ lw_B := List.mem_filter.mpr ⟨it_tables_1_3 _ (List.mem_of_getElem? (i := 57) rfl), rfl⟩
theorem tw_359 : (Cond.instanceMethod yX4_link) ∈ lw_B := List.mem_filter.mpr ⟨it_tables_1_3 _ (List.mem_of_getElem? (i := 58) rfl), rfl⟩
theorem tw_360 : (Cond.selects "CommitSitesModel" yX4_link yX4_link) ∈ lw_B := List.mem_filter.mpr ⟨it_tables_1_3 _ (List.mem_of_getElem? (i := 59) rfl), rfl⟩
theorem tw_361 : (Cond.code yX4_link cX4_link 4 (some .int)) ∈ lw_B := List.mem_filter.mpr ⟨it_tables_1_3 _ (List.mem_of_getElem? (i := 60) rfl), rfl⟩
theorem tw_362 : (Cond.methodLink "CommitSitesModel" 93 yX4_isSite) ∈ lw_B := List.mem_filter.mpr ⟨it_tables_1_3 _ (List.mem_of_getElem? (i := 61) rfl), rfl⟩
theorem tw_363 : (Cond.instanceMethod yX4_isSite) ∈ lw_B := List.mem_filter.mpr ⟨it_tables_1_3 _ (List.mem_of_getElem? (i := 63) rfl), rfl⟩
theorem tw_364 : (Cond.code yX4_isSite cX4_isSite 2 (some .boolean)) ∈ lw_B := List.mem_filter.mpr ⟨it_tables_1_3 _ (List.mem_of_getElem? (i := 64) rfl), rfl⟩
theorem tw_365 : (Cond.methodLink "CommitSitesLaw" 31 yX4_part) ∈ lw_B := List.mem_filter.mpr ⟨it_tables_1_3 _ (List.mem_of_getElem? (i := 65) rfl), rfl⟩
theorem tw_366 : (Cond.instanceMethod yX4_part) ∈ lw_B := List.mem_filter.mpr ⟨it_tables_1_3 _ (List.mem_of_getElem? (i := 66) rfl), rfl⟩
theorem tw_367 : (Cond.selects "CommitSitesModel" yX4_part yX4_part) ∈ lw_B := List.mem_filter.mpr ⟨it_tables_1_3 _ (List.mem_of_getElem? (i := 67) rfl), rfl⟩
theorem tw_368 : (Cond.code yX4_part cX4_part 6 (some .int)) ∈ lw_B := List.mem_filter.mpr ⟨it_tables_1_3 _ (List.mem_of_getElem? (i := 68) rfl), rfl⟩
theorem tw_369 : (Cond.methodLink "CommitSitesLaw" 35 yX4_patience) ∈ lw_B := List.mem_filter.mpr ⟨it_tables_1_3 _ (List.mem_of_getElem? (i := 69) rfl), rfl⟩
theorem tw_370 : (Cond.instanceMethod yX4_patience) ∈ lw_B := List.mem_filter.mpr ⟨it_tables_1_3 _ (List.mem_of_getElem? (i := 70) rfl), rfl⟩
theorem tw_371 : (Cond.selects "CommitSitesModel" yX4_patience yX4_patience) ∈ lw_B := List.mem_filter.mpr ⟨it_tables_1_3 _ (List.mem_of_getElem? (i := 71) rfl), rfl⟩
theorem tw_372 : (Cond.code yX4_patience cX4_patience 2 (some .int)) ∈ lw_B := List.mem_filter.mpr ⟨it_tables_1_3 _ (List.mem_of_getElem? (i := 72) rfl), rfl⟩
theorem tw_373 : (Cond.methodLink "CommitSitesLaw" 39 yX4_begin) ∈ lw_B := List.mem_filter.mpr ⟨it_tables_1_3 _ (List.mem_of_getElem? (i := 73) rfl), rfl⟩
theorem tw_374 : (Cond.instanceMethod yX4_begin) ∈ lw_B := List.mem_filter.mpr ⟨it_tables_1_3 _ (List.mem_of_getElem? (i := 74) rfl), rfl⟩
theorem tw_375 : (Cond.selects "CommitSitesModel" yX4_begin yX4_begin) ∈ lw_B := List.mem_filter.mpr ⟨it_tables_1_3 _ (List.mem_of_getElem? (i := 75) rfl), rfl⟩
theorem tw_376 : (Cond.code yX4_begin cX4_begin 4 (some .int)) ∈ lw_B := List.mem_filter.mpr ⟨it_tables_1_3 _ (List.mem_of_getElem? (i := 76) rfl), rfl⟩
theorem tw_377 : (Cond.methodLink "CommitSitesModel" 141 yX4_decide) ∈ lw_B := List.mem_filter.mpr ⟨it_tables_1_3 _ (List.mem_of_getElem? (i := 77) rfl), rfl⟩
theorem tw_378 : (Cond.instanceMethod yX4_decide) ∈ lw_B := List.mem_filter.mpr ⟨it_tables_1_3 _ (List.mem_of_getElem? (i := 79) rfl), rfl⟩
theorem tw_379 : (Cond.code yX4_decide cX4_decide 3 none) ∈ lw_B := List.mem_filter.mpr ⟨it_tables_1_3 _ (List.mem_of_getElem? (i := 80) rfl), rfl⟩
theorem tw_380 : (Cond.methodLink "CommitSitesModel" 116 yX4_become) ∈ lw_B := List.mem_filter.mpr ⟨it_tables_1_3 _ (List.mem_of_getElem? (i := 81) rfl), rfl⟩
theorem tw_381 : (Cond.instanceMethod yX4_become) ∈ lw_B := List.mem_filter.mpr ⟨it_tables_1_3 _ (List.mem_of_getElem? (i := 83) rfl), rfl⟩
theorem tw_382 : (Cond.code yX4_become cX4_become 3 none) ∈ lw_B := List.mem_filter.mpr ⟨it_tables_1_3 _ (List.mem_of_getElem? (i := 84) rfl), rfl⟩
theorem tw_383 : (Cond.methodLink "CommitSitesModel" 120 yX4_sendAll) ∈ lw_B := List.mem_filter.mpr ⟨it_tables_1_3 _ (List.mem_of_getElem? (i := 85) rfl), rfl⟩
theorem tw_384 : (Cond.instanceMethod yX4_sendAll) ∈ lw_B := List.mem_filter.mpr ⟨it_tables_1_3 _ (List.mem_of_getElem? (i := 87) rfl), rfl⟩
theorem tw_385 : (Cond.code yX4_sendAll cX4_sendAll 5 none) ∈ lw_B := List.mem_filter.mpr ⟨it_tables_1_3 _ (List.mem_of_getElem? (i := 88) rfl), rfl⟩
theorem tw_386 : (Cond.methodLink "CommitSitesModel" 112 yX4_send) ∈ lw_B := List.mem_filter.mpr ⟨it_tables_1_3 _ (List.mem_of_getElem? (i := 89) rfl), rfl⟩
theorem tw_387 : (Cond.instanceMethod yX4_send) ∈ lw_B := List.mem_filter.mpr ⟨it_tables_1_3 _ (List.mem_of_getElem? (i := 91) rfl), rfl⟩
theorem tw_388 : (Cond.code yX4_send cX4_send 7 none) ∈ lw_B := List.mem_filter.mpr ⟨it_tables_1_3 _ (List.mem_of_getElem? (i := 92) rfl), rfl⟩
theorem tw_389 : (Cond.methodLink "CommitSitesModel" 127 yX4_clearThere) ∈ lw_B := List.mem_filter.mpr ⟨it_tables_1_3 _ (List.mem_of_getElem? (i := 93) rfl), rfl⟩
theorem tw_390 : (Cond.instanceMethod yX4_clearThere) ∈ lw_B := List.mem_filter.mpr ⟨it_tables_1_3 _ (List.mem_of_getElem? (i := 95) rfl), rfl⟩
theorem tw_391 : (Cond.code yX4_clearThere cX4_clearThere 4 none) ∈ lw_B := List.mem_filter.mpr ⟨it_tables_1_3 _ (List.mem_of_getElem? (i := 96) rfl), rfl⟩
theorem tw_392 : (Cond.methodLink "CommitSitesModel" 130 yX4_setTimer) ∈ lw_B := List.mem_filter.mpr ⟨it_tables_1_3 _ (List.mem_of_getElem? (i := 97) rfl), rfl⟩
theorem tw_393 : (Cond.instanceMethod yX4_setTimer) ∈ lw_B := List.mem_filter.mpr ⟨it_tables_1_3 _ (List.mem_of_getElem? (i := 99) rfl), rfl⟩
theorem tw_394 : (Cond.code yX4_setTimer cX4_setTimer 3 none) ∈ lw_B := List.mem_filter.mpr ⟨it_tables_1_3 _ (List.mem_of_getElem? (i := 100) rfl), rfl⟩
theorem tw_395 : (Cond.methodLink "CommitSitesModel" 144 yX4_checkVotes) ∈ lw_B := List.mem_filter.mpr ⟨it_tables_1_3 _ (List.mem_of_getElem? (i := 101) rfl), rfl⟩
theorem tw_396 : (Cond.instanceMethod yX4_checkVotes) ∈ lw_B := List.mem_filter.mpr ⟨it_tables_1_3 _ (List.mem_of_getElem? (i := 103) rfl), rfl⟩
theorem tw_397 : (Cond.code yX4_checkVotes cX4_checkVotes 4 none) ∈ lw_B := List.mem_filter.mpr ⟨it_tables_1_3 _ (List.mem_of_getElem? (i := 104) rfl), rfl⟩
theorem tw_398 : (Cond.methodLink "CommitSitesModel" 124 yX4_lead) ∈ lw_B := List.mem_filter.mpr ⟨it_tables_1_3 _ (List.mem_of_getElem? (i := 105) rfl), rfl⟩
theorem tw_399 : (Cond.instanceMethod yX4_lead) ∈ lw_B := List.mem_filter.mpr ⟨it_tables_1_3 _ (List.mem_of_getElem? (i := 107) rfl), rfl⟩
theorem tw_400 : (Cond.code yX4_lead cX4_lead 3 none) ∈ lw_B := List.mem_filter.mpr ⟨it_tables_1_3 _ (List.mem_of_getElem? (i := 108) rfl), rfl⟩
theorem tw_401 : (Cond.methodLink "CommitSitesModel" 133 yX4_checkQuorum) ∈ lw_B := List.mem_filter.mpr ⟨it_tables_1_3 _ (List.mem_of_getElem? (i := 109) rfl), rfl⟩
theorem tw_402 : (Cond.instanceMethod yX4_checkQuorum) ∈ lw_B := List.mem_filter.mpr ⟨it_tables_1_3 _ (List.mem_of_getElem? (i := 111) rfl), rfl⟩
theorem tw_403 : (Cond.code yX4_checkQuorum cX4_checkQuorum 3 none) ∈ lw_B := List.mem_filter.mpr ⟨it_tables_1_3 _ (List.mem_of_getElem? (i := 112) rfl), rfl⟩
theorem tw_404 : (Cond.methodLink "CommitSitesModel" 137 yX4_weightThere) ∈ lw_B := List.mem_filter.mpr ⟨it_tables_1_3 _ (List.mem_of_getElem? (i := 113) rfl), rfl⟩
theorem tw_405 : (Cond.instanceMethod yX4_weightThere) ∈ lw_B := List.mem_filter.mpr ⟨it_tables_1_3 _ (List.mem_of_getElem? (i := 115) rfl), rfl⟩
theorem tw_406 : (Cond.code yX4_weightThere cX4_weightThere 4 (some .int)) ∈ lw_B := List.mem_filter.mpr ⟨it_tables_1_3 _ (List.mem_of_getElem? (i := 116) rfl), rfl⟩
theorem tw_407 : (Cond.methodLink "CommitSitesLaw" 43 yX4_crash) ∈ lw_B := List.mem_filter.mpr ⟨it_tables_1_3 _ (List.mem_of_getElem? (i := 117) rfl), rfl⟩
theorem tw_408 : (Cond.instanceMethod yX4_crash) ∈ lw_B := List.mem_filter.mpr ⟨it_tables_1_3 _ (List.mem_of_getElem? (i := 118) rfl), rfl⟩
theorem tw_409 : (Cond.selects "CommitSitesModel" yX4_crash yX4_crash) ∈ lw_B := List.mem_filter.mpr ⟨it_tables_1_3 _ (List.mem_of_getElem? (i := 119) rfl), rfl⟩
theorem tw_410 : (Cond.code yX4_crash cX4_crash 2 (some .int)) ∈ lw_B := List.mem_filter.mpr ⟨it_tables_1_3 _ (List.mem_of_getElem? (i := 120) rfl), rfl⟩
theorem tw_411 : (Cond.methodLink "CommitSitesLaw" 47 yX4_recover) ∈ lw_B := List.mem_filter.mpr ⟨it_tables_1_3 _ (List.mem_of_getElem? (i := 121) rfl), rfl⟩
theorem tw_412 : (Cond.instanceMethod yX4_recover) ∈ lw_B := List.mem_filter.mpr ⟨it_tables_1_3 _ (List.mem_of_getElem? (i := 122) rfl), rfl⟩
theorem tw_413 : (Cond.selects "CommitSitesModel" yX4_recover yX4_recover) ∈ lw_B := List.mem_filter.mpr ⟨it_tables_1_3 _ (List.mem_of_getElem? (i := 123) rfl), rfl⟩
theorem tw_414 : (Cond.code yX4_recover cX4_recover 2 (some .int)) ∈ lw_B := List.mem_filter.mpr ⟨it_tables_1_3 _ (List.mem_of_getElem? (i := 124) rfl), rfl⟩
theorem tw_415 : (Cond.methodLink "CommitSitesModel" 147 yX4_isDecided) ∈ lw_B := List.mem_filter.mpr ⟨it_tables_1_3 _ (List.mem_of_getElem? (i := 125) rfl), rfl⟩
theorem tw_416 : (Cond.instanceMethod yX4_isDecided) ∈ lw_B := List.mem_filter.mpr ⟨it_tables_1_3 _ (List.mem_of_getElem? (i := 127) rfl), rfl⟩
theorem tw_417 : (Cond.code yX4_isDecided cX4_isDecided 2 (some .boolean)) ∈ lw_B := List.mem_filter.mpr ⟨it_tables_1_3 _ (List.mem_of_getElem? (i := 128) rfl), rfl⟩
theorem tw_418 : (Cond.methodLink "CommitSitesModel" 150 yX4_attempt) ∈ lw_B := List.mem_filter.mpr ⟨it_tables_1_3 _ (List.mem_of_getElem? (i := 129) rfl), rfl⟩
theorem tw_419 : (Cond.instanceMethod yX4_attempt) ∈ lw_B := List.mem_filter.mpr ⟨it_tables_1_3 _ (List.mem_of_getElem? (i := 131) rfl), rfl⟩
theorem tw_420 : (Cond.code yX4_attempt cX4_attempt 2 none) ∈ lw_B := List.mem_filter.mpr ⟨it_tables_1_3 _ (List.mem_of_getElem? (i := 132) rfl), rfl⟩
theorem tw_421 : (Cond.methodLink "CommitSitesLaw" 51 yX4_run) ∈ lw_B := List.mem_filter.mpr ⟨it_tables_1_3 _ (List.mem_of_getElem? (i := 133) rfl), rfl⟩
theorem tw_422 : (Cond.instanceMethod yX4_run) ∈ lw_B := List.mem_filter.mpr ⟨it_tables_1_3 _ (List.mem_of_getElem? (i := 134) rfl), rfl⟩
theorem tw_423 : (Cond.selects "CommitSitesModel" yX4_run yX4_run) ∈ lw_B := List.mem_filter.mpr ⟨it_tables_1_3 _ (List.mem_of_getElem? (i := 135) rfl), rfl⟩
theorem tw_424 : (Cond.code yX4_run cX4_run 4 (some .int)) ∈ lw_B := List.mem_filter.mpr ⟨it_tables_1_3 _ (List.mem_of_getElem? (i := 136) rfl), rfl⟩
theorem tw_425 : (Cond.methodLink "CommitSitesModel" 185 yX4_findNext) ∈ lw_B := List.mem_filter.mpr ⟨it_tables_1_3 _ (List.mem_of_getElem? (i := 137) rfl), rfl⟩
theorem tw_426 : (Cond.instanceMethod yX4_findNext) ∈ lw_B := List.mem_filter.mpr ⟨it_tables_1_3 _ (List.mem_of_getElem? (i := 139) rfl), rfl⟩
theorem tw_427 : (Cond.code yX4_findNext cX4_findNext 4 none) ∈ lw_B := List.mem_filter.mpr ⟨it_tables_1_3 _ (List.mem_of_getElem? (i := 140) rfl), rfl⟩
theorem tw_428 : (Cond.methodLink "CommitSitesModel" 188 yX4_take) ∈ lw_B := List.mem_filter.mpr ⟨it_tables_1_3 _ (List.mem_of_getElem? (i := 141) rfl), rfl⟩
theorem tw_429 : (Cond.instanceMethod yX4_take) ∈ lw_B := List.mem_filter.mpr ⟨it_tables_1_3 _ (List.mem_of_getElem? (i := 143) rfl), rfl⟩
theorem tw_430 : (Cond.code yX4_take cX4_take 7 (some .boolean)) ∈ lw_B := List.mem_filter.mpr ⟨it_tables_1_3 _ (List.mem_of_getElem? (i := 144) rfl), rfl⟩
theorem tw_431 : (Cond.methodLink "CommitSitesModel" 173 yX4_tell) ∈ lw_B := List.mem_filter.mpr ⟨it_tables_1_3 _ (List.mem_of_getElem? (i := 145) rfl), rfl⟩
theorem tw_432 : (Cond.instanceMethod yX4_tell) ∈ lw_B := List.mem_filter.mpr ⟨it_tables_1_3 _ (List.mem_of_getElem? (i := 147) rfl), rfl⟩
theorem tw_433 : (Cond.code yX4_tell cX4_tell 6 none) ∈ lw_B := List.mem_filter.mpr ⟨it_tables_1_3 _ (List.mem_of_getElem? (i := 148) rfl), rfl⟩
theorem tw_434 : (Cond.methodLink "CommitSitesModel" 176 yX4_ring) ∈ lw_B := List.mem_filter.mpr ⟨it_tables_1_3 _ (List.mem_of_getElem? (i := 149) rfl), rfl⟩
theorem tw_435 : (Cond.instanceMethod yX4_ring) ∈ lw_B := List.mem_filter.mpr ⟨it_tables_1_3 _ (List.mem_of_getElem? (i := 151) rfl), rfl⟩
theorem tw_436 : (Cond.code yX4_ring cX4_ring 4 none) ∈ lw_B := List.mem_filter.mpr ⟨it_tables_1_3 _ (List.mem_of_getElem? (i := 152) rfl), rfl⟩
theorem tw_437 : (Cond.methodLink "CommitSitesModel" 160 yX4_weightOf) ∈ lw_B := List.mem_filter.mpr ⟨it_tables_1_3 _ (List.mem_of_getElem? (i := 153) rfl), rfl⟩
theorem tw_438 : (Cond.instanceMethod yX4_weightOf) ∈ lw_B := List.mem_filter.mpr ⟨it_tables_1_3 _ (List.mem_of_getElem? (i := 155) rfl), rfl⟩
theorem tw_439 : (Cond.code yX4_weightOf cX4_weightOf 6 (some .int)) ∈ lw_B := List.mem_filter.mpr ⟨it_tables_1_3 _ (List.mem_of_getElem? (i := 156) rfl), rfl⟩
theorem tw_440 : (Cond.methodLink "CommitSitesModel" 182 yX4_handle) ∈ lw_B := List.mem_filter.mpr ⟨it_tables_1_3 _ (List.mem_of_getElem? (i := 157) rfl), rfl⟩
theorem tw_441 : (Cond.instanceMethod yX4_handle) ∈ lw_B := List.mem_filter.mpr ⟨it_tables_1_3 _ (List.mem_of_getElem? (i := 159) rfl), rfl⟩
theorem tw_442 : (Cond.code yX4_handle cX4_handle 6 none) ∈ lw_B := List.mem_filter.mpr ⟨it_tables_1_3 _ (List.mem_of_getElem? (i := 160) rfl), rfl⟩
theorem tw_443 : (Cond.methodLink "CommitSitesModel" 153 yX4_yieldTo) ∈ lw_B := List.mem_filter.mpr ⟨it_tables_1_3 _ (List.mem_of_getElem? (i := 161) rfl), rfl⟩
theorem tw_444 : (Cond.instanceMethod yX4_yieldTo) ∈ lw_B := List.mem_filter.mpr ⟨it_tables_1_3 _ (List.mem_of_getElem? (i := 163) rfl), rfl⟩
theorem tw_445 : (Cond.code yX4_yieldTo cX4_yieldTo 4 none) ∈ lw_B := List.mem_filter.mpr ⟨it_tables_1_3 _ (List.mem_of_getElem? (i := 164) rfl), rfl⟩
theorem tw_446 : (Cond.methodLink "CommitSitesModel" 156 yX4_prepare) ∈ lw_B := List.mem_filter.mpr ⟨it_tables_1_3 _ (List.mem_of_getElem? (i := 165) rfl), rfl⟩
theorem tw_447 : (Cond.instanceMethod yX4_prepare) ∈ lw_B := List.mem_filter.mpr ⟨it_tables_1_3 _ (List.mem_of_getElem? (i := 167) rfl), rfl⟩
theorem tw_448 : (Cond.code yX4_prepare cX4_prepare 5 none) ∈ lw_B := List.mem_filter.mpr ⟨it_tables_1_3 _ (List.mem_of_getElem? (i := 168) rfl), rfl⟩
theorem tw_449 : (Cond.methodLink "CommitSitesLaw" 56 yX4_step) ∈ lw_B := List.mem_filter.mpr ⟨it_tables_1_3 _ (List.mem_of_getElem? (i := 169) rfl), rfl⟩
theorem tw_450 : (Cond.instanceMethod yX4_step) ∈ lw_B := List.mem_filter.mpr ⟨it_tables_1_3 _ (List.mem_of_getElem? (i := 170) rfl), rfl⟩
theorem tw_451 : (Cond.selects "CommitSitesModel" yX4_step yX4_step) ∈ lw_B := List.mem_filter.mpr ⟨it_tables_1_3 _ (List.mem_of_getElem? (i := 171) rfl), rfl⟩
theorem tw_452 : (Cond.code yX4_step cX4_step 1 (some .int)) ∈ lw_B := List.mem_filter.mpr ⟨it_tables_1_3 _ (List.mem_of_getElem? (i := 172) rfl), rfl⟩
theorem tw_453 : (Cond.methodLink "CommitSitesLaw" 60 yX4_reset) ∈ lw_B := List.mem_filter.mpr ⟨it_tables_1_3 _ (List.mem_of_getElem? (i := 173) rfl), rfl⟩
theorem tw_454 : (Cond.instanceMethod yX4_reset) ∈ lw_B := List.mem_filter.mpr ⟨it_tables_1_3 _ (List.mem_of_getElem? (i := 174) rfl), rfl⟩
theorem tw_455 : (Cond.selects "CommitSitesModel" yX4_reset yX4_reset) ∈ lw_B := List.mem_filter.mpr ⟨it_tables_1_3 _ (List.mem_of_getElem? (i := 175) rfl), rfl⟩
theorem tw_456 : (Cond.code yX4_reset cX4_reset 2 (some .int)) ∈ lw_B := List.mem_filter.mpr ⟨it_tables_1_3 _ (List.mem_of_getElem? (i := 176) rfl), rfl⟩
theorem tw_457 : (Cond.methodLink "CommitSitesLaw" 64 yX4_of) ∈ lw_B := List.mem_filter.mpr ⟨it_tables_1_3 _ (List.mem_of_getElem? (i := 177) rfl), rfl⟩
theorem tw_458 : (Cond.instanceMethod yX4_of) ∈ lw_B := List.mem_filter.mpr ⟨it_tables_1_3 _ (List.mem_of_getElem? (i := 178) rfl), rfl⟩
theorem tw_459 : (Cond.selects "CommitSitesModel" yX4_of yX4_of) ∈ lw_B := List.mem_filter.mpr ⟨it_tables_1_3 _ (List.mem_of_getElem? (i := 179) rfl), rfl⟩
theorem tw_460 : (Cond.code yX4_of cX4_of 3 (some .int)) ∈ lw_B := List.mem_filter.mpr ⟨it_tables_1_3 _ (List.mem_of_getElem? (i := 180) rfl), rfl⟩
theorem tw_461 : (Cond.methodLink "CommitSitesLaw" 68 yX4_count) ∈ lw_B := List.mem_filter.mpr ⟨it_tables_1_3 _ (List.mem_of_getElem? (i := 181) rfl), rfl⟩
theorem tw_462 : (Cond.instanceMethod yX4_count) ∈ lw_B := List.mem_filter.mpr ⟨it_tables_1_3 _ (List.mem_of_getElem? (i := 182) rfl), rfl⟩
theorem tw_463 : (Cond.selects "CommitSitesModel" yX4_count yX4_count) ∈ lw_B := List.mem_filter.mpr ⟨it_tables_1_3 _ (List.mem_of_getElem? (i := 183) rfl), rfl⟩
theorem tw_464 : (Cond.code yX4_count cX4_count 2 (some .int)) ∈ lw_B := List.mem_filter.mpr ⟨it_tables_1_3 _ (List.mem_of_getElem? (i := 184) rfl), rfl⟩
theorem tw_465 : (Cond.methodLink "CommitSitesLaw" 72 yX4_delay) ∈ lw_B := List.mem_filter.mpr ⟨it_tables_1_3 _ (List.mem_of_getElem? (i := 185) rfl), rfl⟩
theorem tw_466 : (Cond.instanceMethod yX4_delay) ∈ lw_B := List.mem_filter.mpr ⟨it_tables_1_3 _ (List.mem_of_getElem? (i := 186) rfl), rfl⟩
theorem tw_467 : (Cond.selects "CommitSitesModel" yX4_delay yX4_delay) ∈ lw_B := List.mem_filter.mpr ⟨it_tables_1_3 _ (List.mem_of_getElem? (i := 187) rfl), rfl⟩
theorem tw_468 : (Cond.code yX4_delay cX4_delay 3 (some .int)) ∈ lw_B := List.mem_filter.mpr ⟨it_tables_1_3 _ (List.mem_of_getElem? (i := 188) rfl), rfl⟩
theorem tw_469 : (Cond.methodLink "CommitSitesLaw" 76 yX4_weight) ∈ lw_B := List.mem_filter.mpr ⟨it_tables_1_3 _ (List.mem_of_getElem? (i := 189) rfl), rfl⟩
theorem tw_470 : (Cond.instanceMethod yX4_weight) ∈ lw_B := List.mem_filter.mpr ⟨it_tables_1_3 _ (List.mem_of_getElem? (i := 190) rfl), rfl⟩
theorem tw_471 : (Cond.selects "CommitSitesModel" yX4_weight yX4_weight) ∈ lw_B := List.mem_filter.mpr ⟨it_tables_1_3 _ (List.mem_of_getElem? (i := 191) rfl), rfl⟩
theorem tw_472 : (Cond.code yX4_weight cX4_weight 4 (some .int)) ∈ lw_B := List.mem_filter.mpr ⟨it_tables_1_3 _ (List.mem_of_getElem? (i := 192) rfl), rfl⟩
theorem tw_473 : (Cond.methodLink "CommitSitesLaw" 80 yX4_latest) ∈ lw_B := List.mem_filter.mpr ⟨it_tables_1_3 _ (List.mem_of_getElem? (i := 193) rfl), rfl⟩
theorem tw_474 : (Cond.instanceMethod yX4_latest) ∈ lw_B := List.mem_filter.mpr ⟨it_tables_1_3 _ (List.mem_of_getElem? (i := 194) rfl), rfl⟩
theorem tw_475 : (Cond.selects "CommitSitesModel" yX4_latest yX4_latest) ∈ lw_B := List.mem_filter.mpr ⟨it_tables_1_3 _ (List.mem_of_getElem? (i := 195) rfl), rfl⟩
theorem tw_476 : (Cond.code yX4_latest cX4_latest 2 (some .int)) ∈ lw_B := List.mem_filter.mpr ⟨it_tables_1_3 _ (List.mem_of_getElem? (i := 196) rfl), rfl⟩
theorem tw_477 : (Cond.methodLink "CommitSitesLaw" 84 yX4_check) ∈ lw_B := List.mem_filter.mpr ⟨it_tables_1_3 _ (List.mem_of_getElem? (i := 197) rfl), rfl⟩
theorem tw_478 : (Cond.instanceMethod yX4_check) ∈ lw_B := List.mem_filter.mpr ⟨it_tables_1_3 _ (List.mem_of_getElem? (i := 198) rfl), rfl⟩
theorem tw_479 : (Cond.selects "CommitSitesModel" yX4_check yX4_check) ∈ lw_B := List.mem_filter.mpr ⟨it_tables_1_3 _ (List.mem_of_getElem? (i := 199) rfl), rfl⟩
theorem tw_480 : (Cond.code yX4_check cX4_check 1 (some .int)) ∈ lw_B := List.mem_filter.mpr ⟨it_tables_1_3 _ (List.mem_of_getElem? (i := 200) rfl), rfl⟩
theorem tw_481 : (Cond.selects "CommitSites" yX3_shareQuorums yX3_shareQuorums) ∈ lw_B := List.mem_filter.mpr ⟨List.mem_append_left _ (List.mem_map.mpr ⟨(⟨"CommitSites", "shareQuorums", "()V"⟩, 12), (List.mem_append_left _ (List.mem_of_getElem? (i := 0) rfl)), rfl⟩), rfl⟩
theorem tw_482 : (Cond.selects "CommitSites" yX3_note yX3_note) ∈ lw_B := List.mem_filter.mpr ⟨List.mem_append_left _ (List.mem_map.mpr ⟨(⟨"CommitSites", "note", "(IIIII)V"⟩, 12), (List.mem_append_left _ (List.mem_of_getElem? (i := 1) rfl)), rfl⟩), rfl⟩
theorem tw_483 : (Cond.selects "CommitSites" yX3_isLink yX3_isLink) ∈ lw_B := List.mem_filter.mpr ⟨List.mem_append_left _ (List.mem_map.mpr ⟨(⟨"CommitSites", "isLink", "(II)Z"⟩, 12), (List.mem_append_left _ (List.mem_of_getElem? (i := 2) rfl)), rfl⟩), rfl⟩
theorem tw_484 : (Cond.selects "CommitSites" yX3_isSite yX3_isSite) ∈ lw_B := List.mem_filter.mpr ⟨List.mem_append_left _ (List.mem_map.mpr ⟨(⟨"CommitSites", "isSite", "(I)Z"⟩, 12), (List.mem_append_left _ (List.mem_of_getElem? (i := 3) rfl)), rfl⟩), rfl⟩
theorem tw_485 : (Cond.selects "CommitSites" yX3_askVotes yX3_askVotes) ∈ lw_B := List.mem_filter.mpr ⟨List.mem_append_left _ (List.mem_map.mpr ⟨(⟨"CommitSites", "askVotes", "(I)V"⟩, 12), (List.mem_append_left _ (List.mem_of_getElem? (i := 4) rfl)), rfl⟩), rfl⟩
theorem tw_486 : (Cond.selects "CommitSites" yX3_become yX3_become) ∈ lw_B := List.mem_filter.mpr ⟨List.mem_append_left _ (List.mem_map.mpr ⟨(⟨"CommitSites", "become", "(LCommitSites$Site;I)V"⟩, 12), (List.mem_append_left _ (List.mem_of_getElem? (i := 5) rfl)), rfl⟩), rfl⟩
theorem tw_487 : (Cond.selects "CommitSites" yX3_allBut yX3_allBut) ∈ lw_B := List.mem_filter.mpr ⟨List.mem_append_left _ (List.mem_map.mpr ⟨(⟨"CommitSites", "allBut", "(I)I"⟩, 12), (List.mem_append_left _ (List.mem_of_getElem? (i := 6) rfl)), rfl⟩), rfl⟩
theorem tw_488 : (Cond.selects "CommitSites" yX3_everyone yX3_everyone) ∈ lw_B := List.mem_filter.mpr ⟨List.mem_append_left _ (List.mem_map.mpr ⟨(⟨"CommitSites", "everyone", "()I"⟩, 12), (List.mem_append_left _ (List.mem_of_getElem? (i := 7) rfl)), rfl⟩), rfl⟩
theorem tw_489 : (Cond.selects "CommitSites" yX3_setTimer yX3_setTimer) ∈ lw_B := List.mem_filter.mpr ⟨List.mem_append_left _ (List.mem_map.mpr ⟨(⟨"CommitSites", "setTimer", "(LCommitSites$Site;I)V"⟩, 12), (List.mem_append_left _ (List.mem_of_getElem? (i := 8) rfl)), rfl⟩), rfl⟩
theorem tw_490 : (Cond.selects "CommitSites" yX3_lead yX3_lead) ∈ lw_B := List.mem_filter.mpr ⟨List.mem_append_left _ (List.mem_map.mpr ⟨(⟨"CommitSites", "lead", "(II)V"⟩, 12), (List.mem_append_left _ (List.mem_of_getElem? (i := 9) rfl)), rfl⟩), rfl⟩
theorem tw_491 : (Cond.selects "CommitSites" yX3_hasQuorum yX3_hasQuorum) ∈ lw_B := List.mem_filter.mpr ⟨List.mem_append_left _ (List.mem_map.mpr ⟨(⟨"CommitSites", "hasQuorum", "(LCommitSites$Site;)Z"⟩, 12), (List.mem_append_left _ (List.mem_of_getElem? (i := 10) rfl)), rfl⟩), rfl⟩
theorem tw_492 : (Cond.selects "CommitSites" yX3_decide yX3_decide) ∈ lw_B := List.mem_filter.mpr ⟨List.mem_append_left _ (List.mem_map.mpr ⟨(⟨"CommitSites", "decide", "(II)V"⟩, 12), (List.mem_append_left _ (List.mem_of_getElem? (i := 11) rfl)), rfl⟩), rfl⟩
theorem tw_493 : (Cond.selects "CommitSites" yX3_attempt yX3_attempt) ∈ lw_B := List.mem_filter.mpr ⟨List.mem_append_left _ (List.mem_map.mpr ⟨(⟨"CommitSites", "attempt", "(I)V"⟩, 12), (List.mem_append_left _ (List.mem_of_getElem? (i := 12) rfl)), rfl⟩), rfl⟩
theorem tw_494 : (Cond.selects "CommitSites" yX3_takeNext yX3_takeNext) ∈ lw_B := List.mem_filter.mpr ⟨List.mem_append_left _ (List.mem_map.mpr ⟨(⟨"CommitSites", "takeNext", "(I)I"⟩, 12), (List.mem_append_left _ (List.mem_of_getElem? (i := 13) rfl)), rfl⟩), rfl⟩
theorem tw_495 : (Cond.selects "CommitSites" yX3_firstTimer yX3_firstTimer) ∈ lw_B := List.mem_filter.mpr ⟨List.mem_append_left _ (List.mem_map.mpr ⟨(⟨"CommitSites", "firstTimer", "()I"⟩, 12), (List.mem_append_left _ (List.mem_of_getElem? (i := 14) rfl)), rfl⟩), rfl⟩
theorem tw_496 : (Cond.selects "CommitSites" yX3_runOut yX3_runOut) ∈ lw_B := List.mem_filter.mpr ⟨List.mem_append_left _ (List.mem_map.mpr ⟨(⟨"CommitSites", "runOut", "(I)V"⟩, 12), (List.mem_append_left _ (List.mem_of_getElem? (i := 15) rfl)), rfl⟩), rfl⟩
theorem tw_497 : (Cond.selects "CommitSites" yX3_toldWeight yX3_toldWeight) ∈ lw_B := List.mem_filter.mpr ⟨List.mem_append_left _ (List.mem_map.mpr ⟨(⟨"CommitSites", "toldWeight", "(LCommitSites$Site;I)I"⟩, 12), (List.mem_append_right _ (List.mem_append_left _ (List.mem_of_getElem? (i := 0) rfl))), rfl⟩), rfl⟩
theorem tw_498 : (Cond.selects "CommitSites" yX3_receive yX3_receive) ∈ lw_B := List.mem_filter.mpr ⟨List.mem_append_left _ (List.mem_map.mpr ⟨(⟨"CommitSites", "receive", "(LCommitSites$Message;)V"⟩, 12), (List.mem_append_right _ (List.mem_append_left _ (List.mem_of_getElem? (i := 1) rfl))), rfl⟩), rfl⟩
theorem tw_499 : (Cond.selects "CommitSites" yX3_onAskVote yX3_onAskVote) ∈ lw_B := List.mem_filter.mpr ⟨List.mem_append_left _ (List.mem_map.mpr ⟨(⟨"CommitSites", "onAskVote", "(II)V"⟩, 12), (List.mem_append_right _ (List.mem_append_left _ (List.mem_of_getElem? (i := 2) rfl))), rfl⟩), rfl⟩
theorem tw_500 : (Cond.selects "CommitSites" yX3_onYes yX3_onYes) ∈ lw_B := List.mem_filter.mpr ⟨List.mem_append_left _ (List.mem_map.mpr ⟨(⟨"CommitSites", "onYes", "(II)V"⟩, 12), (List.mem_append_right _ (List.mem_append_left _ (List.mem_of_getElem? (i := 3) rfl))), rfl⟩), rfl⟩
theorem tw_501 : (Cond.selects "CommitSites" yX3_onNo yX3_onNo) ∈ lw_B := List.mem_filter.mpr ⟨List.mem_append_left _ (List.mem_map.mpr ⟨(⟨"CommitSites", "onNo", "(I)V"⟩, 12), (List.mem_append_right _ (List.mem_append_left _ (List.mem_of_getElem? (i := 4) rfl))), rfl⟩), rfl⟩
theorem tw_502 : (Cond.selects "CommitSites" yX3_onAskState yX3_onAskState) ∈ lw_B := List.mem_filter.mpr ⟨List.mem_append_left _ (List.mem_map.mpr ⟨(⟨"CommitSites", "onAskState", "(III)V"⟩, 12), (List.mem_append_right _ (List.mem_append_left _ (List.mem_of_getElem? (i := 5) rfl))), rfl⟩), rfl⟩
theorem tw_503 : (Cond.selects "CommitSites" yX3_yieldTo yX3_yieldTo) ∈ lw_B := List.mem_filter.mpr ⟨List.mem_append_left _ (List.mem_map.mpr ⟨(⟨"CommitSites", "yieldTo", "(II)V"⟩, 12), (List.mem_append_right _ (List.mem_append_left _ (List.mem_of_getElem? (i := 6) rfl))), rfl⟩), rfl⟩
theorem tw_504 : (Cond.selects "CommitSites" yX3_onState yX3_onState) ∈ lw_B := List.mem_filter.mpr ⟨List.mem_append_left _ (List.mem_map.mpr ⟨(⟨"CommitSites", "onState", "(IIII)V"⟩, 12), (List.mem_append_right _ (List.mem_append_left _ (List.mem_of_getElem? (i := 7) rfl))), rfl⟩), rfl⟩
theorem tw_505 : (Cond.selects "CommitSites" yX3_onAskReady yX3_onAskReady) ∈ lw_B := List.mem_filter.mpr ⟨List.mem_append_left _ (List.mem_map.mpr ⟨(⟨"CommitSites", "onAskReady", "(IIII)V"⟩, 12), (List.mem_append_right _ (List.mem_append_left _ (List.mem_of_getElem? (i := 8) rfl))), rfl⟩), rfl⟩
theorem tw_506 : (Cond.selects "CommitSites" yX3_onAcknowledge yX3_onAcknowledge) ∈ lw_B := List.mem_filter.mpr ⟨List.mem_append_left _ (List.mem_map.mpr ⟨(⟨"CommitSites", "onAcknowledge", "(III)V"⟩, 12), (List.mem_append_right _ (List.mem_append_left _ (List.mem_of_getElem? (i := 9) rfl))), rfl⟩), rfl⟩
theorem tw_507 : (Cond.selects "CommitSites" yX3_onDecision yX3_onDecision) ∈ lw_B := List.mem_filter.mpr ⟨List.mem_append_left _ (List.mem_map.mpr ⟨(⟨"CommitSites", "onDecision", "(II)V"⟩, 12), (List.mem_append_right _ (List.mem_append_left _ (List.mem_of_getElem? (i := 10) rfl))), rfl⟩), rfl⟩
theorem tw_508 : (Cond.selects "CommitSitesModel" yX4_all yX4_all) ∈ lw_B := List.mem_filter.mpr ⟨List.mem_append_left _ (List.mem_map.mpr ⟨(⟨"CommitSitesModel", "all", "()I"⟩, 34), (List.mem_append_right _ (List.mem_append_left _ (List.mem_of_getElem? (i := 11) rfl))), rfl⟩), rfl⟩
theorem tw_509 : (Cond.selects "CommitSitesModel" yX4_isSite yX4_isSite) ∈ lw_B := List.mem_filter.mpr ⟨List.mem_append_left _ (List.mem_map.mpr ⟨(⟨"CommitSitesModel", "isSite", "(I)Z"⟩, 34), (List.mem_append_right _ (List.mem_append_left _ (List.mem_of_getElem? (i := 12) rfl))), rfl⟩), rfl⟩
theorem tw_510 : (Cond.selects "CommitSitesModel" yX4_decide yX4_decide) ∈ lw_B := List.mem_filter.mpr ⟨List.mem_append_left _ (List.mem_map.mpr ⟨(⟨"CommitSitesModel", "decide", "(II)V"⟩, 34), (List.mem_append_right _ (List.mem_append_left _ (List.mem_of_getElem? (i := 13) rfl))), rfl⟩), rfl⟩
theorem tw_511 : (Cond.selects "CommitSitesModel" yX4_become yX4_become) ∈ lw_B := List.mem_filter.mpr ⟨List.mem_append_left _ (List.mem_map.mpr ⟨(⟨"CommitSitesModel", "become", "(II)V"⟩, 34), (List.mem_append_right _ (List.mem_append_left _ (List.mem_of_getElem? (i := 14) rfl))), rfl⟩), rfl⟩
theorem tw_512 : (Cond.selects "CommitSitesModel" yX4_sendAll yX4_sendAll) ∈ lw_B := List.mem_filter.mpr ⟨List.mem_append_left _ (List.mem_map.mpr ⟨(⟨"CommitSitesModel", "sendAll", "(III)V"⟩, 34), (List.mem_append_right _ (List.mem_append_left _ (List.mem_of_getElem? (i := 15) rfl))), rfl⟩), rfl⟩
theorem tw_513 : (Cond.selects "CommitSitesModel" yX4_send yX4_send) ∈ lw_B := List.mem_filter.mpr ⟨List.mem_append_left _ (List.mem_map.mpr ⟨(⟨"CommitSitesModel", "send", "(IIIII)V"⟩, 34), (List.mem_append_right _ (List.mem_append_right _ (List.mem_append_left _ (List.mem_of_getElem? (i := 0) rfl)))), rfl⟩), rfl⟩
theorem tw_514 : (Cond.selects "CommitSitesModel" yX4_clearThere yX4_clearThere) ∈ lw_B := List.mem_filter.mpr ⟨List.mem_append_left _ (List.mem_map.mpr ⟨(⟨"CommitSitesModel", "clearThere", "(II)V"⟩, 34), (List.mem_append_right _ (List.mem_append_right _ (List.mem_append_left _ (List.mem_of_getElem? (i := 1) rfl)))), rfl⟩), rfl⟩
theorem tw_515 : (Cond.selects "CommitSitesModel" yX4_setTimer yX4_setTimer) ∈ lw_B := List.mem_filter.mpr ⟨List.mem_append_left _ (List.mem_map.mpr ⟨(⟨"CommitSitesModel", "setTimer", "(II)V"⟩, 34), (List.mem_append_right _ (List.mem_append_right _ (List.mem_append_left _ (List.mem_of_getElem? (i := 2) rfl)))), rfl⟩), rfl⟩
theorem tw_516 : (Cond.selects "CommitSitesModel" yX4_checkVotes yX4_checkVotes) ∈ lw_B := List.mem_filter.mpr ⟨List.mem_append_left _ (List.mem_map.mpr ⟨(⟨"CommitSitesModel", "checkVotes", "(I)V"⟩, 34), (List.mem_append_right _ (List.mem_append_right _ (List.mem_append_left _ (List.mem_of_getElem? (i := 3) rfl)))), rfl⟩), rfl⟩
theorem tw_517 : (Cond.selects "CommitSitesModel" yX4_lead yX4_lead) ∈ lw_B := List.mem_filter.mpr ⟨List.mem_append_left _ (List.mem_map.mpr ⟨(⟨"CommitSitesModel", "lead", "(II)V"⟩, 34), (List.mem_append_right _ (List.mem_append_right _ (List.mem_append_left _ (List.mem_of_getElem? (i := 4) rfl)))), rfl⟩), rfl⟩
theorem tw_518 : (Cond.selects "CommitSitesModel" yX4_checkQuorum yX4_checkQuorum) ∈ lw_B := List.mem_filter.mpr ⟨List.mem_append_left _ (List.mem_map.mpr ⟨(⟨"CommitSitesModel", "checkQuorum", "(I)V"⟩, 34), (List.mem_append_right _ (List.mem_append_right _ (List.mem_append_left _ (List.mem_of_getElem? (i := 5) rfl)))), rfl⟩), rfl⟩
theorem tw_519 : (Cond.selects "CommitSitesModel" yX4_weightThere yX4_weightThere) ∈ lw_B := List.mem_filter.mpr ⟨List.mem_append_left _ (List.mem_map.mpr ⟨(⟨"CommitSitesModel", "weightThere", "(I)I"⟩, 34), (List.mem_append_right _ (List.mem_append_right _ (List.mem_append_left _ (List.mem_of_getElem? (i := 6) rfl)))), rfl⟩), rfl⟩
theorem tw_520 : (Cond.selects "CommitSitesModel" yX4_isDecided yX4_isDecided) ∈ lw_B := List.mem_filter.mpr ⟨List.mem_append_left _ (List.mem_map.mpr ⟨(⟨"CommitSitesModel", "isDecided", "(I)Z"⟩, 34), (List.mem_append_right _ (List.mem_append_right _ (List.mem_append_left _ (List.mem_of_getElem? (i := 7) rfl)))), rfl⟩), rfl⟩
theorem tw_521 : (Cond.selects "CommitSitesModel" yX4_attempt yX4_attempt) ∈ lw_B := List.mem_filter.mpr ⟨List.mem_append_left _ (List.mem_map.mpr ⟨(⟨"CommitSitesModel", "attempt", "(I)V"⟩, 34), (List.mem_append_right _ (List.mem_append_right _ (List.mem_append_left _ (List.mem_of_getElem? (i := 8) rfl)))), rfl⟩), rfl⟩
theorem tw_522 : (Cond.selects "CommitSitesModel" yX4_findNext yX4_findNext) ∈ lw_B := List.mem_filter.mpr ⟨List.mem_append_left _ (List.mem_map.mpr ⟨(⟨"CommitSitesModel", "findNext", "()V"⟩, 34), (List.mem_append_right _ (List.mem_append_right _ (List.mem_append_left _ (List.mem_of_getElem? (i := 9) rfl)))), rfl⟩), rfl⟩
theorem tw_523 : (Cond.selects "CommitSitesModel" yX4_take yX4_take) ∈ lw_B := List.mem_filter.mpr ⟨List.mem_append_left _ (List.mem_map.mpr ⟨(⟨"CommitSitesModel", "take", "()Z"⟩, 34), (List.mem_append_right _ (List.mem_append_right _ (List.mem_append_left _ (List.mem_of_getElem? (i := 10) rfl)))), rfl⟩), rfl⟩
theorem tw_524 : (Cond.selects "CommitSitesModel" yX4_tell yX4_tell) ∈ lw_B := List.mem_filter.mpr ⟨List.mem_append_left _ (List.mem_map.mpr ⟨(⟨"CommitSitesModel", "tell", "(IIIII)V"⟩, 34), (List.mem_append_right _ (List.mem_append_right _ (List.mem_append_left _ (List.mem_of_getElem? (i := 11) rfl)))), rfl⟩), rfl⟩
theorem tw_525 : (Cond.selects "CommitSitesModel" yX4_ring yX4_ring) ∈ lw_B := List.mem_filter.mpr ⟨List.mem_append_left _ (List.mem_map.mpr ⟨(⟨"CommitSitesModel", "ring", "(I)V"⟩, 34), (List.mem_append_right _ (List.mem_append_right _ (List.mem_append_left _ (List.mem_of_getElem? (i := 12) rfl)))), rfl⟩), rfl⟩
theorem tw_526 : (Cond.selects "CommitSitesModel" yX4_weightOf yX4_weightOf) ∈ lw_B := List.mem_filter.mpr ⟨List.mem_append_left _ (List.mem_map.mpr ⟨(⟨"CommitSitesModel", "weightOf", "(II)I"⟩, 34), (List.mem_append_right _ (List.mem_append_right _ (List.mem_append_left _ (List.mem_of_getElem? (i := 13) rfl)))), rfl⟩), rfl⟩
theorem tw_527 : (Cond.selects "CommitSitesModel" yX4_handle yX4_handle) ∈ lw_B := List.mem_filter.mpr ⟨List.mem_append_left _ (List.mem_map.mpr ⟨(⟨"CommitSitesModel", "handle", "(IIIII)V"⟩, 34), (List.mem_append_right _ (List.mem_append_right _ (List.mem_append_left _ (List.mem_of_getElem? (i := 14) rfl)))), rfl⟩), rfl⟩
theorem tw_528 : (Cond.selects "CommitSitesModel" yX4_yieldTo yX4_yieldTo) ∈ lw_B := List.mem_filter.mpr ⟨List.mem_append_left _ (List.mem_map.mpr ⟨(⟨"CommitSitesModel", "yieldTo", "(II)V"⟩, 34), (List.mem_append_right _ (List.mem_append_right _ (List.mem_append_left _ (List.mem_of_getElem? (i := 15) rfl)))), rfl⟩), rfl⟩
theorem tw_529 : (Cond.selects "CommitSitesModel" yX4_prepare yX4_prepare) ∈ lw_B := List.mem_filter.mpr ⟨List.mem_append_left _ (List.mem_map.mpr ⟨(⟨"CommitSitesModel", "prepare", "(IIII)V"⟩, 34), (List.mem_append_right _ (List.mem_append_right _ (List.mem_append_right _ (List.mem_of_getElem? (i := 0) rfl)))), rfl⟩), rfl⟩
theorem tl_X0_0 : u_lay RX0 TX0 0 ∈ lw_B := List.mem_filter.mpr ⟨it_tables_1_1 _ (List.mem_of_getElem? (i := 236) rfl), rfl⟩
theorem tl_X0_1 : u_lay RX0 TX0 1 ∈ lw_B := List.mem_filter.mpr ⟨it_tables_1_1 _ (List.mem_of_getElem? (i := 238) rfl), rfl⟩
theorem tl_X0_2 : u_lay RX0 TX0 2 ∈ lw_B := List.mem_filter.mpr ⟨it_tables_1_2 _ (List.mem_of_getElem? (i := 0) rfl), rfl⟩
theorem tl_X0_3 : u_lay RX0 TX0 3 ∈ lw_B := List.mem_filter.mpr ⟨it_tables_1_2 _ (List.mem_of_getElem? (i := 2) rfl), rfl⟩
theorem tl_X0_4 : u_lay RX0 TX0 4 ∈ lw_B := List.mem_filter.mpr ⟨it_tables_1_2 _ (List.mem_of_getElem? (i := 4) rfl), rfl⟩
theorem tl_X0_5 : u_lay RX0 TX0 5 ∈ lw_B := List.mem_filter.mpr ⟨it_tables_1_2 _ (List.mem_of_getElem? (i := 6) rfl), rfl⟩
theorem tl_X0_6 : u_lay RX0 TX0 6 ∈ lw_B := List.mem_filter.mpr ⟨it_tables_1_2 _ (List.mem_of_getElem? (i := 8) rfl), rfl⟩
theorem tl_X0_7 : u_lay RX0 TX0 7 ∈ lw_B := List.mem_filter.mpr ⟨it_tables_1_2 _ (List.mem_of_getElem? (i := 10) rfl), rfl⟩
theorem tl_X0 : ∀ k, k < 8 → u_lay RX0 TX0 k ∈ lw_B := fun k hk => match k, hk with | 0, _ => tl_X0_0 | 1, _ => tl_X0_1 | 2, _ => tl_X0_2 | 3, _ => tl_X0_3 | 4, _ => tl_X0_4 | 5, _ => tl_X0_5 | 6, _ => tl_X0_6 | 7, _ => tl_X0_7 | n + 8, h => absurd h (by omega)
theorem in_X0 : ∀ w ∈ u_ws RX0 TX0 8, w ∈ lw_B := fun w h => by obtain ⟨k, hk, rfl⟩ := List.mem_map.mp h; exact tl_X0 k (List.mem_range.mp hk)
theorem tl_X1_0 : u_lay RX1 TX1 0 ∈ lw_B := List.mem_filter.mpr ⟨it_tables_1_1 _ (List.mem_of_getElem? (i := 40) rfl), rfl⟩
theorem tl_X1_1 : u_lay RX1 TX1 1 ∈ lw_B := List.mem_filter.mpr ⟨it_tables_1_1 _ (List.mem_of_getElem? (i := 42) rfl), rfl⟩
theorem tl_X1_2 : u_lay RX1 TX1 2 ∈ lw_B := List.mem_filter.mpr ⟨it_tables_1_1 _ (List.mem_of_getElem? (i := 44) rfl), rfl⟩
theorem tl_X1_3 : u_lay RX1 TX1 3 ∈ lw_B := List.mem_filter.mpr ⟨it_tables_1_1 _ (List.mem_of_getElem? (i := 46) rfl), rfl⟩
theorem tl_X1_4 : u_lay RX1 TX1 4 ∈ lw_B := List.mem_filter.mpr ⟨it_tables_1_1 _ (List.mem_of_getElem? (i := 48) rfl), rfl⟩
theorem tl_X1_5 : u_lay RX1 TX1 5 ∈ lw_B := List.mem_filter.mpr ⟨it_tables_1_1 _ (List.mem_of_getElem? (i := 50) rfl), rfl⟩
theorem tl_X1_6 : u_lay RX1 TX1 6 ∈ lw_B := List.mem_filter.mpr ⟨it_tables_1_1 _ (List.mem_of_getElem? (i := 52) rfl), rfl⟩
theorem tl_X1_7 : u_lay RX1 TX1 7 ∈ lw_B := List.mem_filter.mpr ⟨it_tables_1_1 _ (List.mem_of_getElem? (i := 54) rfl), rfl⟩
theorem tl_X1_8 : u_lay RX1 TX1 8 ∈ lw_B := List.mem_filter.mpr ⟨it_tables_1_1 _ (List.mem_of_getElem? (i := 56) rfl), rfl⟩
theorem tl_X1 : ∀ k, k < 9 → u_lay RX1 TX1 k ∈ lw_B := fun k hk => match k, hk with | 0, _ => tl_X1_0 | 1, _ => tl_X1_1 | 2, _ => tl_X1_2 | 3, _ => tl_X1_3 | 4, _ => tl_X1_4 | 5, _ => tl_X1_5 | 6, _ => tl_X1_6 | 7, _ => tl_X1_7 | 8, _ => tl_X1_8 | n + 9, h => absurd h (by omega)
theorem in_X1 : ∀ w ∈ u_ws RX1 TX1 9, w ∈ lw_B := fun w h => by obtain ⟨k, hk, rfl⟩ := List.mem_map.mp h; exact tl_X1 k (List.mem_range.mp hk)
theorem tl_X2_0 : u_lay RX2 TX2 0 ∈ lw_B := List.mem_filter.mpr ⟨it_tables_1_1 _ (List.mem_of_getElem? (i := 138) rfl), rfl⟩
theorem tl_X2_1 : u_lay RX2 TX2 1 ∈ lw_B := List.mem_filter.mpr ⟨it_tables_1_1 _ (List.mem_of_getElem? (i := 140) rfl), rfl⟩
theorem tl_X2_2 : u_lay RX2 TX2 2 ∈ lw_B := List.mem_filter.mpr ⟨it_tables_1_1 _ (List.mem_of_getElem? (i := 142) rfl), rfl⟩
theorem tl_X2_3 : u_lay RX2 TX2 3 ∈ lw_B := List.mem_filter.mpr ⟨it_tables_1_1 _ (List.mem_of_getElem? (i := 144) rfl), rfl⟩
theorem tl_X2_4 : u_lay RX2 TX2 4 ∈ lw_B := List.mem_filter.mpr ⟨it_tables_1_1 _ (List.mem_of_getElem? (i := 146) rfl), rfl⟩
theorem tl_X2_5 : u_lay RX2 TX2 5 ∈ lw_B := List.mem_filter.mpr ⟨it_tables_1_1 _ (List.mem_of_getElem? (i := 148) rfl), rfl⟩
theorem tl_X2_6 : u_lay RX2 TX2 6 ∈ lw_B := List.mem_filter.mpr ⟨it_tables_1_1 _ (List.mem_of_getElem? (i := 150) rfl), rfl⟩
theorem tl_X2_7 : u_lay RX2 TX2 7 ∈ lw_B := List.mem_filter.mpr ⟨it_tables_1_1 _ (List.mem_of_getElem? (i := 152) rfl), rfl⟩
theorem tl_X2_8 : u_lay RX2 TX2 8 ∈ lw_B := List.mem_filter.mpr ⟨it_tables_1_1 _ (List.mem_of_getElem? (i := 154) rfl), rfl⟩
theorem tl_X2_9 : u_lay RX2 TX2 9 ∈ lw_B := List.mem_filter.mpr ⟨it_tables_1_1 _ (List.mem_of_getElem? (i := 156) rfl), rfl⟩
theorem tl_X2 : ∀ k, k < 10 → u_lay RX2 TX2 k ∈ lw_B := fun k hk => match k, hk with | 0, _ => tl_X2_0 | 1, _ => tl_X2_1 | 2, _ => tl_X2_2 | 3, _ => tl_X2_3 | 4, _ => tl_X2_4 | 5, _ => tl_X2_5 | 6, _ => tl_X2_6 | 7, _ => tl_X2_7 | 8, _ => tl_X2_8 | 9, _ => tl_X2_9 | n + 10, h => absurd h (by omega)
theorem in_X2 : ∀ w ∈ u_ws RX2 TX2 10, w ∈ lw_B := fun w h => by obtain ⟨k, hk, rfl⟩ := List.mem_map.mp h; exact tl_X2 k (List.mem_range.mp hk)
theorem tl_X3_0 : u_lay RX3 TX3 0 ∈ lw_B := List.mem_filter.mpr ⟨it_tables_1_1 _ (List.mem_of_getElem? (i := 80) rfl), rfl⟩
theorem tl_X3_1 : u_lay RX3 TX3 1 ∈ lw_B := List.mem_filter.mpr ⟨it_tables_1_1 _ (List.mem_of_getElem? (i := 82) rfl), rfl⟩
theorem tl_X3_2 : u_lay RX3 TX3 2 ∈ lw_B := List.mem_filter.mpr ⟨it_tables_1_1 _ (List.mem_of_getElem? (i := 84) rfl), rfl⟩
theorem tl_X3_3 : u_lay RX3 TX3 3 ∈ lw_B := List.mem_filter.mpr ⟨it_tables_1_1 _ (List.mem_of_getElem? (i := 86) rfl), rfl⟩
theorem tl_X3_4 : u_lay RX3 TX3 4 ∈ lw_B := List.mem_filter.mpr ⟨it_tables_1_1 _ (List.mem_of_getElem? (i := 88) rfl), rfl⟩
theorem tl_X3_5 : u_lay RX3 TX3 5 ∈ lw_B := List.mem_filter.mpr ⟨it_tables_1_1 _ (List.mem_of_getElem? (i := 90) rfl), rfl⟩
theorem tl_X3_6 : u_lay RX3 TX3 6 ∈ lw_B := List.mem_filter.mpr ⟨it_tables_1_1 _ (List.mem_of_getElem? (i := 92) rfl), rfl⟩
theorem tl_X3_7 : u_lay RX3 TX3 7 ∈ lw_B := List.mem_filter.mpr ⟨it_tables_1_1 _ (List.mem_of_getElem? (i := 94) rfl), rfl⟩
theorem tl_X3_8 : u_lay RX3 TX3 8 ∈ lw_B := List.mem_filter.mpr ⟨it_tables_1_1 _ (List.mem_of_getElem? (i := 96) rfl), rfl⟩
theorem tl_X3_9 : u_lay RX3 TX3 9 ∈ lw_B := List.mem_filter.mpr ⟨it_tables_1_1 _ (List.mem_of_getElem? (i := 98) rfl), rfl⟩
theorem tl_X3_10 : u_lay RX3 TX3 10 ∈ lw_B := List.mem_filter.mpr ⟨it_tables_1_1 _ (List.mem_of_getElem? (i := 100) rfl), rfl⟩
theorem tl_X3_11 : u_lay RX3 TX3 11 ∈ lw_B := List.mem_filter.mpr ⟨it_tables_1_1 _ (List.mem_of_getElem? (i := 102) rfl), rfl⟩
theorem tl_X3 : ∀ k, k < 12 → u_lay RX3 TX3 k ∈ lw_B := fun k hk => match k, hk with | 0, _ => tl_X3_0 | 1, _ => tl_X3_1 | 2, _ => tl_X3_2 | 3, _ => tl_X3_3 | 4, _ => tl_X3_4 | 5, _ => tl_X3_5 | 6, _ => tl_X3_6 | 7, _ => tl_X3_7 | 8, _ => tl_X3_8 | 9, _ => tl_X3_9 | 10, _ => tl_X3_10 | 11, _ => tl_X3_11 | n + 12, h => absurd h (by omega)
theorem in_X3 : ∀ w ∈ u_ws RX3 TX3 12, w ∈ lw_B := fun w h => by obtain ⟨k, hk, rfl⟩ := List.mem_map.mp h; exact tl_X3 k (List.mem_range.mp hk)
theorem tl_X4_0 : u_lay RX4 TX4 0 ∈ lw_B := List.mem_filter.mpr ⟨it_tables_1_2 _ (List.mem_of_getElem? (i := 215) rfl), rfl⟩
theorem tl_X4_1 : u_lay RX4 TX4 1 ∈ lw_B := List.mem_filter.mpr ⟨it_tables_1_2 _ (List.mem_of_getElem? (i := 217) rfl), rfl⟩
theorem tl_X4_2 : u_lay RX4 TX4 2 ∈ lw_B := List.mem_filter.mpr ⟨it_tables_1_2 _ (List.mem_of_getElem? (i := 219) rfl), rfl⟩
theorem tl_X4_3 : u_lay RX4 TX4 3 ∈ lw_B := List.mem_filter.mpr ⟨it_tables_1_2 _ (List.mem_of_getElem? (i := 221) rfl), rfl⟩
theorem tl_X4_4 : u_lay RX4 TX4 4 ∈ lw_B := List.mem_filter.mpr ⟨it_tables_1_2 _ (List.mem_of_getElem? (i := 223) rfl), rfl⟩
theorem tl_X4_5 : u_lay RX4 TX4 5 ∈ lw_B := List.mem_filter.mpr ⟨it_tables_1_2 _ (List.mem_of_getElem? (i := 225) rfl), rfl⟩
theorem tl_X4_6 : u_lay RX4 TX4 6 ∈ lw_B := List.mem_filter.mpr ⟨it_tables_1_2 _ (List.mem_of_getElem? (i := 227) rfl), rfl⟩
theorem tl_X4_7 : u_lay RX4 TX4 7 ∈ lw_B := List.mem_filter.mpr ⟨it_tables_1_2 _ (List.mem_of_getElem? (i := 229) rfl), rfl⟩
theorem tl_X4_8 : u_lay RX4 TX4 8 ∈ lw_B := List.mem_filter.mpr ⟨it_tables_1_2 _ (List.mem_of_getElem? (i := 231) rfl), rfl⟩
theorem tl_X4_9 : u_lay RX4 TX4 9 ∈ lw_B := List.mem_filter.mpr ⟨it_tables_1_2 _ (List.mem_of_getElem? (i := 233) rfl), rfl⟩
theorem tl_X4_10 : u_lay RX4 TX4 10 ∈ lw_B := List.mem_filter.mpr ⟨it_tables_1_2 _ (List.mem_of_getElem? (i := 235) rfl), rfl⟩
theorem tl_X4_11 : u_lay RX4 TX4 11 ∈ lw_B := List.mem_filter.mpr ⟨it_tables_1_2 _ (List.mem_of_getElem? (i := 237) rfl), rfl⟩
theorem tl_X4_12 : u_lay RX4 TX4 12 ∈ lw_B := List.mem_filter.mpr ⟨it_tables_1_2 _ (List.mem_of_getElem? (i := 239) rfl), rfl⟩
theorem tl_X4_13 : u_lay RX4 TX4 13 ∈ lw_B := List.mem_filter.mpr ⟨it_tables_1_3 _ (List.mem_of_getElem? (i := 1) rfl), rfl⟩
theorem tl_X4_14 : u_lay RX4 TX4 14 ∈ lw_B := List.mem_filter.mpr ⟨it_tables_1_3 _ (List.mem_of_getElem? (i := 3) rfl), rfl⟩
theorem tl_X4_15 : u_lay RX4 TX4 15 ∈ lw_B := List.mem_filter.mpr ⟨it_tables_1_3 _ (List.mem_of_getElem? (i := 5) rfl), rfl⟩
theorem tl_X4_16 : u_lay RX4 TX4 16 ∈ lw_B := List.mem_filter.mpr ⟨it_tables_1_3 _ (List.mem_of_getElem? (i := 7) rfl), rfl⟩
theorem tl_X4_17 : u_lay RX4 TX4 17 ∈ lw_B := List.mem_filter.mpr ⟨it_tables_1_3 _ (List.mem_of_getElem? (i := 9) rfl), rfl⟩
theorem tl_X4_18 : u_lay RX4 TX4 18 ∈ lw_B := List.mem_filter.mpr ⟨it_tables_1_3 _ (List.mem_of_getElem? (i := 11) rfl), rfl⟩
theorem tl_X4_19 : u_lay RX4 TX4 19 ∈ lw_B := List.mem_filter.mpr ⟨it_tables_1_3 _ (List.mem_of_getElem? (i := 13) rfl), rfl⟩
theorem tl_X4_20 : u_lay RX4 TX4 20 ∈ lw_B := List.mem_filter.mpr ⟨it_tables_1_3 _ (List.mem_of_getElem? (i := 15) rfl), rfl⟩
theorem tl_X4_21 : u_lay RX4 TX4 21 ∈ lw_B := List.mem_filter.mpr ⟨it_tables_1_3 _ (List.mem_of_getElem? (i := 17) rfl), rfl⟩
theorem tl_X4_22 : u_lay RX4 TX4 22 ∈ lw_B := List.mem_filter.mpr ⟨it_tables_1_3 _ (List.mem_of_getElem? (i := 19) rfl), rfl⟩
theorem tl_X4_23 : u_lay RX4 TX4 23 ∈ lw_B := List.mem_filter.mpr ⟨it_tables_1_3 _ (List.mem_of_getElem? (i := 21) rfl), rfl⟩
theorem tl_X4_24 : u_lay RX4 TX4 24 ∈ lw_B := List.mem_filter.mpr ⟨it_tables_1_3 _ (List.mem_of_getElem? (i := 23) rfl), rfl⟩
theorem tl_X4_25 : u_lay RX4 TX4 25 ∈ lw_B := List.mem_filter.mpr ⟨it_tables_1_3 _ (List.mem_of_getElem? (i := 25) rfl), rfl⟩
theorem tl_X4_26 : u_lay RX4 TX4 26 ∈ lw_B := List.mem_filter.mpr ⟨it_tables_1_3 _ (List.mem_of_getElem? (i := 27) rfl), rfl⟩
theorem tl_X4_27 : u_lay RX4 TX4 27 ∈ lw_B := List.mem_filter.mpr ⟨it_tables_1_3 _ (List.mem_of_getElem? (i := 29) rfl), rfl⟩
theorem tl_X4_28 : u_lay RX4 TX4 28 ∈ lw_B := List.mem_filter.mpr ⟨it_tables_1_3 _ (List.mem_of_getElem? (i := 31) rfl), rfl⟩
theorem tl_X4_29 : u_lay RX4 TX4 29 ∈ lw_B := List.mem_filter.mpr ⟨it_tables_1_3 _ (List.mem_of_getElem? (i := 33) rfl), rfl⟩
theorem tl_X4_30 : u_lay RX4 TX4 30 ∈ lw_B := List.mem_filter.mpr ⟨it_tables_1_3 _ (List.mem_of_getElem? (i := 35) rfl), rfl⟩
theorem tl_X4_31 : u_lay RX4 TX4 31 ∈ lw_B := List.mem_filter.mpr ⟨it_tables_1_3 _ (List.mem_of_getElem? (i := 37) rfl), rfl⟩
theorem tl_X4_32 : u_lay RX4 TX4 32 ∈ lw_B := List.mem_filter.mpr ⟨it_tables_1_3 _ (List.mem_of_getElem? (i := 39) rfl), rfl⟩
theorem tl_X4_33 : u_lay RX4 TX4 33 ∈ lw_B := List.mem_filter.mpr ⟨it_tables_1_3 _ (List.mem_of_getElem? (i := 41) rfl), rfl⟩
theorem tl_X4 : ∀ k, k < 34 → u_lay RX4 TX4 k ∈ lw_B := fun k hk => match k, hk with | 0, _ => tl_X4_0 | 1, _ => tl_X4_1 | 2, _ => tl_X4_2 | 3, _ => tl_X4_3 | 4, _ => tl_X4_4 | 5, _ => tl_X4_5 | 6, _ => tl_X4_6 | 7, _ => tl_X4_7 | 8, _ => tl_X4_8 | 9, _ => tl_X4_9 | 10, _ => tl_X4_10 | 11, _ => tl_X4_11 | 12, _ => tl_X4_12 | 13, _ => tl_X4_13 | 14, _ => tl_X4_14 | 15, _ => tl_X4_15 | 16, _ => tl_X4_16 | 17, _ => tl_X4_17 | 18, _ => tl_X4_18 | 19, _ => tl_X4_19 | 20, _ => tl_X4_20 | 21, _ => tl_X4_21 | 22, _ => tl_X4_22 | 23, _ => tl_X4_23 | 24, _ => tl_X4_24 | 25, _ => tl_X4_25 | 26, _ => tl_X4_26 | 27, _ => tl_X4_27 | 28, _ => tl_X4_28 | 29, _ => tl_X4_29 | 30, _ => tl_X4_30 | 31, _ => tl_X4_31 | 32, _ => tl_X4_32 | 33, _ => tl_X4_33 | n + 34, h => absurd h (by omega)
theorem in_X4 : ∀ w ∈ u_ws RX4 TX4 34, w ∈ lw_B := fun w h => by obtain ⟨k, hk, rfl⟩ := List.mem_map.mp h; exact tl_X4 k (List.mem_range.mp hk)
theorem tw_in : ∀ w ∈ lw_B, w ∈ lw_tbl := fun w h => (List.mem_filter.mp h).1
theorem tw_good : ∀ w ∈ lw_B, (w.onTables && w.keeps) = true ∨ ∃ ty, w = .arrayClass ty := fun w h => good_of_word (List.mem_filter.mp h).2
theorem tw_V {c1 cn : Cond} {own C : String} {idx : Nat} {y : MethodName} (h1 : Cond.methodLink own idx y ∈ lw_B) (h2 : Cond.instanceMethod y ∈ lw_B) (h3 : Cond.selects C y y ∈ lw_B) (h4 : Cond.initialized C ∈ lw_B) (h5 : cn ∈ lw_B) : GoodIn (c1 :: lw_B) (wsV own idx C y (cn :: lw_B)) := by
  have key : ∀ w, w ∈ lw_B → w ∈ c1 :: lw_B ∧ ((w.onTables && w.keeps) = true ∨ ∃ ty, w = .arrayClass ty) := fun w h => ⟨List.mem_cons_of_mem _ h, tw_good w h⟩
  intro w hw
  rcases List.mem_append.mp hw with hw | hw
  · rcases List.mem_cons.mp hw with rfl | hw
    · exact key _ h1
    · rcases List.mem_cons.mp hw with rfl | hw
      · exact key _ h2
      · rcases List.mem_cons.mp hw with rfl | hw
        · exact key _ h3
        · rcases List.mem_cons.mp hw with rfl | hw
          · exact key _ h4
          · cases hw
  · rcases List.mem_cons.mp hw with rfl | hw
    · exact key _ h5
    · exact key _ hw
theorem tw_I {c1 cn : Cond} (h5 : cn ∈ lw_B) : GoodIn (c1 :: lw_B) (cn :: lw_B) := by
  intro w hw
  rcases List.mem_cons.mp hw with rfl | hw
  · exact ⟨List.mem_cons_of_mem _ h5, tw_good _ h5⟩
  · exact ⟨List.mem_cons_of_mem _ hw, tw_good _ hw⟩
theorem tw_S {c1 cn : Cond} {own : String} {idx : Nat} {y : MethodName} (h1 : Cond.methodLink own idx y ∈ lw_B) (h2 : Cond.static y ∈ lw_B) (h4 : Cond.initialized y.cls ∈ lw_B) (h5 : cn ∈ lw_B) : GoodIn (c1 :: lw_B) (va_wsS own idx y (cn :: lw_B)) := by
  have key : ∀ w, w ∈ lw_B → w ∈ c1 :: lw_B ∧ ((w.onTables && w.keeps) = true ∨ ∃ ty, w = .arrayClass ty) := fun w h => ⟨List.mem_cons_of_mem _ h, tw_good w h⟩
  intro w hw
  rcases List.mem_append.mp hw with hw | hw
  · rcases List.mem_cons.mp hw with rfl | hw
    · exact key _ h1
    · rcases List.mem_cons.mp hw with rfl | hw
      · exact key _ h2
      · rcases List.mem_cons.mp hw with rfl | hw
        · exact key _ h4
        · cases hw
  · rcases List.mem_cons.mp hw with rfl | hw
    · exact key _ h5
    · exact key _ hw
