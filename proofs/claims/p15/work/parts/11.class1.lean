theorem cs_is1 {x : Int32} {n : Nat} (h0 : ¬ x < 0) (h1 : ¬ nI n ≤ x) (hn : n ≤ 8 := by assumption) : ∃ i, i < n ∧ x = nI i := by
  rcases pk_ix x (n := n) (by omega) with h | h | h
  · exact absurd h h0
  · exact absurd h h1
  · exact h
theorem cs_is0 {x : Int32} {n : Nat} (h : x < 0 ∨ nI n ≤ x) (hn : n ≤ 8 := by assumption) : ¬ ∃ i, i < n ∧ x = nI i := by
  rintro ⟨i, hi, rfl⟩
  rcases h with h | h
  · exact nI_pos (by omega) h
  · exact nI_ge hi (by omega) h
/-- a bit, as hasBit answers -/
def hb_ (x i : Int32) : Int32 := if ((x >>> (i &&& 31)) &&& 1) = 0 then 0 else 1

set_option maxHeartbeats 4000000 in
set_option maxRecDepth 100000 in
theorem c_isSite (l : Launch) (D : va_G) (tc : Nat → ClassId) {fa : Nat → Nat} {n : Nat} {v : hv_V} (x : Int32) (hS : cs_S fa n v) (hn : hv_i v 303 (fa 0) = nI n) : Met l yX3_isSite (Cond.code yX3_isSite cX3_isSite 2 (some .boolean) :: lw_B) ({ frames := 0, cells := 0, slots := 0, locals := 0 }) (va_Pc [.ref (fa 0), .int x] (hv_Pre D tc v)) (va_Qi (fun (r : Int32) (v1 : hv_V) => v1 = v ∧ ((r = 1 ∧ ∃ i, i < n ∧ x = nI i) ∨ (r = 0 ∧ ¬ ∃ i, i < n ∧ x = nI i))) (hv_Post D tc (hv_A v)) (hv_A v)) (0) (0) (hv_A v) := by
  refine hv_meti l (by decide) (Nat.le_of_ble_eq_true rfl) ?_
  intro p e s m args below meth c Q X hret hK hz H locs ls hT hl
  obtain ⟨hx, hb, hml, hts, hown, hin0⟩ := X
  have hown : s.vm.findClass "CommitSites" = some m.cls := hown
  have hl : lv_has ls 2 [(0, .ref (fa 0)), (1, .int x)] := hl
  have hn8 := cs_n8 hS
  refine lv_iload_n hx hb dX3_isSite_0 rfl (lv_at hl 1 rfl) ?_
  refine lv_if_lt (tgt := 16) hx hb dX3_isSite_1 (by decide) (fun c1 => ?_) (fun c1 => ?_)
  · skip
    refine lv_iconst (v := 0) hx hb dX3_isSite_16 (by decide) ?_
    exact hret _ 0 v _ _ _ _ _ dX3_isSite_17 rfl hT ⟨rfl, Or.inr ⟨rfl, cs_is0 (Or.inl c1)⟩⟩ (by decide) (by decide)
  · skip
    refine lv_iload_n hx hb dX3_isSite_4 rfl (lv_at hl 1 rfl) ?_
    refine lv_aload_n hx hb dX3_isSite_5 rfl (lv_at hl 0 rfl) ?_
    refine hv_geti (ci := 3) (C := RX3) (T := TX3) (N := 12) hx hb hts (tw_cs in_X3) hown hK hT (cs_kX hS) (by decide) rfl 3 (by decide) (hts _ (tw_c tw_50)) rfl dX3_isSite_6 ?_
    refine lv_topi (fun g1 eg1 => ?_)
    refine lv_icmp_ge (tgt := 16) hx hb dX3_isSite_9 (by decide) (fun c9 => ?_) (fun c9 => ?_)
    · skip
      refine lv_iconst (v := 0) hx hb dX3_isSite_16 (by decide) ?_
      exact hret _ 0 v _ _ _ _ _ dX3_isSite_17 rfl hT ⟨rfl, Or.inr ⟨rfl, cs_is0 (Or.inr (by rw [← hn, ← eg1]; exact c9))⟩⟩ (by decide) (by decide)
    · skip
      refine lv_iconst (v := 1) hx hb dX3_isSite_12 (by decide) ?_
      refine lv_goto (tgt := 17) hx hb dX3_isSite_13 (by decide) ?_
      exact hret _ 1 v _ _ _ _ _ dX3_isSite_17 rfl hT ⟨rfl, Or.inl ⟨rfl, cs_is1 c1 (by rw [← hn, ← eg1]; exact c9)⟩⟩ (by decide) (by decide)

set_option maxHeartbeats 4000000 in
set_option maxRecDepth 100000 in
theorem c_isLink (l : Launch) (D : va_G) (tc : Nat → ClassId) {fa : Nat → Nat} {n : Nat} {v : hv_V} (x y : Int32) (hS : cs_S fa n v) (hn : hv_i v 303 (fa 0) = nI n) : Met l yX3_isLink (Cond.code yX3_isLink cX3_isLink 3 (some .boolean) :: lw_B) ({ frames := 1, cells := 0, slots := 0, locals := 21 }) (va_Pc [.ref (fa 0), .int x, .int y] (hv_Pre D tc v)) (va_Qi (fun (r : Int32) (v1 : hv_V) => v1 = v ∧ ((r = 1 ∧ ∃ i j, i < n ∧ j < n ∧ i ≠ j ∧ x = nI i ∧ y = nI j) ∨ (r = 0 ∧ ¬ ∃ i j, i < n ∧ j < n ∧ i ≠ j ∧ x = nI i ∧ y = nI j))) (hv_Post D tc (hv_A v)) (hv_A v)) (0) (0) (hv_A v) := by
  refine hv_meti l (by decide) (Nat.le_of_ble_eq_true rfl) ?_
  intro p e s m args below meth c Q X hret hK hz H locs ls hT hl
  obtain ⟨hx, hb, hml, hts, hown, hin0⟩ := X
  have hown : s.vm.findClass "CommitSites" = some m.cls := hown
  have hl : lv_has ls 3 [(0, .ref (fa 0)), (1, .int x), (2, .int y)] := hl
  refine lv_aload_n hx hb dX3_isLink_0 rfl (lv_at hl 0 rfl) ?_
  refine lv_iload_n hx hb dX3_isLink_1 rfl (lv_at hl 1 rfl) ?_
  refine hv_calli (va_runV (As := [.int x]) (rest := []) ⟨hx, hb, hml, hown, hts⟩ (c_isSite l D tc x hS hn) (cwV 1 hts (tw_V tw_103 tw_104 tw_484 tw_1 tw_105) rfl rfl rfl (by decide +kernel) ⟨Nat.le_of_ble_eq_true rfl, Nat.le_of_ble_eq_true rfl⟩) (hv_preV (ci := 3) hK hT.1 (cs_kX hS) (by decide) rfl rfl) rfl rfl hl.1 rfl (lv_room (Nat.le_of_ble_eq_true rfl)) dX3_isLink_2 ⟨Nat.le_of_ble_eq_true rfl, Nat.le_of_ble_eq_true rfl⟩) hT (fun r3 v1 H locs hp2 hT => ?_)
  obtain ⟨evhp2, qhp2⟩ := hp2
  rw [evhp2] at hT
  refine lv_if_eq (tgt := 25) hx hb dX3_isLink_5 (by decide) (fun c5 => ?_) (fun c5 => ?_)
  · skip
    refine lv_iconst (v := 0) hx hb dX3_isLink_25 (by decide) ?_
    exact hret _ 0 v _ _ _ _ _ dX3_isLink_26 rfl hT ⟨rfl, Or.inr ⟨rfl, (fun ⟨i, j, hi, hj, hne, e1, e2⟩ => (qhp2.resolve_left (fun q => absurd (q.1.symm.trans c5) (by decide))).2 ⟨i, hi, e1⟩)⟩⟩ (by decide) (by decide)
  · skip
    refine lv_aload_n hx hb dX3_isLink_8 rfl (lv_at hl 0 rfl) ?_
    refine lv_iload_n hx hb dX3_isLink_9 rfl (lv_at hl 2 rfl) ?_
    refine hv_calli (va_runV (As := [.int y]) (rest := []) ⟨hx, hb, hml, hown, hts⟩ (c_isSite l D tc y hS hn) (cwV 1 hts (tw_V tw_103 tw_104 tw_484 tw_1 tw_105) rfl rfl rfl (by decide +kernel) ⟨Nat.le_of_ble_eq_true rfl, Nat.le_of_ble_eq_true rfl⟩) (hv_preV (ci := 3) hK hT.1 (cs_kX hS) (by decide) rfl rfl) rfl rfl hl.1 rfl (lv_room (Nat.le_of_ble_eq_true rfl)) dX3_isLink_10 ⟨Nat.le_of_ble_eq_true rfl, Nat.le_of_ble_eq_true rfl⟩) hT (fun r6 v4 H locs hp5 hT => ?_)
    obtain ⟨evhp5, qhp5⟩ := hp5
    rw [evhp5] at hT
    refine lv_if_eq (tgt := 25) hx hb dX3_isLink_13 (by decide) (fun c13 => ?_) (fun c13 => ?_)
    · skip
      refine lv_iconst (v := 0) hx hb dX3_isLink_25 (by decide) ?_
      exact hret _ 0 v _ _ _ _ _ dX3_isLink_26 rfl hT ⟨rfl, Or.inr ⟨rfl, (fun ⟨i, j, hi, hj, hne, e1, e2⟩ => (qhp5.resolve_left (fun q => absurd (q.1.symm.trans c13) (by decide))).2 ⟨j, hj, e2⟩)⟩⟩ (by decide) (by decide)
    · skip
      refine lv_iload_n hx hb dX3_isLink_16 rfl (lv_at hl 1 rfl) ?_
      refine lv_iload_n hx hb dX3_isLink_17 rfl (lv_at hl 2 rfl) ?_
      refine lv_icmp_eq (tgt := 25) hx hb dX3_isLink_18 (by decide) (fun c18 => ?_) (fun c18 => ?_)
      · skip
        refine lv_iconst (v := 0) hx hb dX3_isLink_25 (by decide) ?_
        exact hret _ 0 v _ _ _ _ _ dX3_isLink_26 rfl hT ⟨rfl, Or.inr ⟨rfl, (fun ⟨i, j, hi, hj, hne, e1, e2⟩ => hne ((nI_eq (by have := cs_lt8 hS hi; omega) (by have := cs_lt8 hS hj; omega)).mp (by rw [← e1, ← e2]; exact c18)))⟩⟩ (by decide) (by decide)
      · skip
        refine lv_iconst (v := 1) hx hb dX3_isLink_21 (by decide) ?_
        refine lv_goto (tgt := 26) hx hb dX3_isLink_22 (by decide) ?_
        exact hret _ 1 v _ _ _ _ _ dX3_isLink_26 rfl hT (by obtain ⟨i, hi, e1⟩ := (qhp2.resolve_right (fun q => c5 q.1)).2; obtain ⟨j, hj, e2⟩ := (qhp5.resolve_right (fun q => c13 q.1)).2; exact ⟨rfl, Or.inl ⟨rfl, i, j, hi, hj, fun q => c18 (by rw [e1, e2, q]), e1, e2⟩⟩) (by decide) (by decide)

set_option maxHeartbeats 4000000 in
set_option maxRecDepth 100000 in
theorem c_hasBit (l : Launch) (D : va_G) (tc : Nat → ClassId) {v : hv_V} (x i : Int32) : Met l yX3_hasBit (Cond.code yX3_hasBit cX3_hasBit 2 (some .boolean) :: lw_B) ({ frames := 0, cells := 0, slots := 0, locals := 0 }) (va_Pc [.int x, .int i] (hv_Pre D tc v)) (va_Qi (fun (r : Int32) (v1 : hv_V) => v1 = v ∧ r = hb_ x i) (hv_Post D tc (hv_A v)) (hv_A v)) (0) (0) (hv_A v) := by
  refine hv_meti l (by decide) (Nat.le_of_ble_eq_true rfl) ?_
  intro p e s m args below meth c Q X hret hK hz H locs ls hT hl
  obtain ⟨hx, hb, hml, hts, hown, hin0⟩ := X
  have hown : s.vm.findClass "CommitSites" = some m.cls := hown
  have hl : lv_has ls 2 [(0, .int x), (1, .int i)] := hl
  refine lv_iload_n hx hb dX3_hasBit_0 rfl (lv_at hl 0 rfl) ?_
  refine lv_iload_n hx hb dX3_hasBit_1 rfl (lv_at hl 1 rfl) ?_
  refine lv_ishr hx hb dX3_hasBit_2 ?_
  refine lv_iconst (v := 1) hx hb dX3_hasBit_3 (by decide) ?_
  refine lv_iand hx hb dX3_hasBit_4 ?_
  refine lv_if_eq (tgt := 12) hx hb dX3_hasBit_5 (by decide) (fun c5 => ?_) (fun c5 => ?_)
  · skip
    refine lv_iconst (v := 0) hx hb dX3_hasBit_12 (by decide) ?_
    exact hret _ 0 v _ _ _ _ _ dX3_hasBit_13 rfl hT ⟨rfl, by unfold hb_; rw [if_pos c5]⟩ (by decide) (by decide)
  · skip
    refine lv_iconst (v := 1) hx hb dX3_hasBit_8 (by decide) ?_
    refine lv_goto (tgt := 13) hx hb dX3_hasBit_9 (by decide) ?_
    exact hret _ 1 v _ _ _ _ _ dX3_hasBit_13 rfl hT ⟨rfl, by unfold hb_; rw [if_neg c5]⟩ (by decide) (by decide)

set_option maxHeartbeats 4000000 in
set_option maxRecDepth 100000 in
theorem c_everyone (l : Launch) (D : va_G) (tc : Nat → ClassId) {fa : Nat → Nat} {n : Nat} {v : hv_V} (hS : cs_S fa n v) (hn : hv_i v 303 (fa 0) = nI n) : Met l yX3_everyone (Cond.code yX3_everyone cX3_everyone 1 (some .int) :: lw_B) ({ frames := 0, cells := 0, slots := 0, locals := 0 }) (va_Pc [.ref (fa 0)] (hv_Pre D tc v)) (va_Qi (fun (r : Int32) (v1 : hv_V) => v1 = v ∧ r = ((1 : Int32) <<< (nI n &&& 31)) - 1) (hv_Post D tc (hv_A v)) (hv_A v)) (0) (0) (hv_A v) := by
  refine hv_meti l (by decide) (Nat.le_of_ble_eq_true rfl) ?_
  intro p e s m args below meth c Q X hret hK hz H locs ls hT hl
  obtain ⟨hx, hb, hml, hts, hown, hin0⟩ := X
  have hown : s.vm.findClass "CommitSites" = some m.cls := hown
  have hl : lv_has ls 1 [(0, .ref (fa 0))] := hl
  refine lv_iconst (v := 1) hx hb dX3_everyone_0 (by decide) ?_
  refine lv_aload_n hx hb dX3_everyone_1 rfl (lv_at hl 0 rfl) ?_
  refine hv_geti (ci := 3) (C := RX3) (T := TX3) (N := 12) hx hb hts (tw_cs in_X3) hown hK hT (cs_kX hS) (by decide) rfl 3 (by decide) (hts _ (tw_c tw_50)) rfl dX3_everyone_2 ?_
  refine lv_topi (fun g1 eg1 => ?_)
  refine lv_ishl hx hb dX3_everyone_5 ?_
  refine lv_iconst (v := 1) hx hb dX3_everyone_6 (by decide) ?_
  refine lv_isub hx hb dX3_everyone_7 ?_
  exact hret _ ((1 <<< (g1 &&& 31)) - 1) v _ _ _ _ _ dX3_everyone_8 rfl hT ⟨rfl, by rw [← hn, ← eg1]⟩ (by decide) (by decide)

set_option maxHeartbeats 4000000 in
set_option maxRecDepth 100000 in
theorem c_allBut (l : Launch) (D : va_G) (tc : Nat → ClassId) {fa : Nat → Nat} {n : Nat} {v : hv_V} (hS : cs_S fa n v) (hn : hv_i v 303 (fa 0) = nI n) (x : Int32) : Met l yX3_allBut (Cond.code yX3_allBut cX3_allBut 2 (some .int) :: lw_B) ({ frames := 1, cells := 0, slots := 0, locals := 20 }) (va_Pc [.ref (fa 0), .int x] (hv_Pre D tc v)) (va_Qi (fun (r : Int32) (v1 : hv_V) => v1 = v ∧ r = (((1 : Int32) <<< (nI n &&& 31)) - 1) &&& (((1 : Int32) <<< (x &&& 31)) ^^^ (-1))) (hv_Post D tc (hv_A v)) (hv_A v)) (0) (0) (hv_A v) := by
  refine hv_meti l (by decide) (Nat.le_of_ble_eq_true rfl) ?_
  intro p e s m args below meth c Q X hret hK hz H locs ls hT hl
  obtain ⟨hx, hb, hml, hts, hown, hin0⟩ := X
  have hown : s.vm.findClass "CommitSites" = some m.cls := hown
  have hl : lv_has ls 2 [(0, .ref (fa 0)), (1, .int x)] := hl
  refine lv_aload_n hx hb dX3_allBut_0 rfl (lv_at hl 0 rfl) ?_
  refine hv_calli (va_runV (As := []) (rest := []) ⟨hx, hb, hml, hown, hts⟩ (c_everyone l D tc hS hn) (cwV 0 hts (tw_V tw_134 tw_135 tw_488 tw_1 tw_136) rfl rfl rfl (by decide +kernel) ⟨Nat.le_of_ble_eq_true rfl, Nat.le_of_ble_eq_true rfl⟩) (hv_preV (ci := 3) hK hT.1 (cs_kX hS) (by decide) rfl rfl) rfl rfl hl.1 rfl (lv_room (Nat.le_of_ble_eq_true rfl)) dX3_allBut_1 ⟨Nat.le_of_ble_eq_true rfl, Nat.le_of_ble_eq_true rfl⟩) hT (fun r3 v1 H locs hp2 hT => ?_)
  obtain ⟨evhp2, qhp2⟩ := hp2
  rw [evhp2] at hT
  refine lv_iconst (v := 1) hx hb dX3_allBut_4 (by decide) ?_
  refine lv_iload_n hx hb dX3_allBut_5 rfl (lv_at hl 1 rfl) ?_
  refine lv_ishl hx hb dX3_allBut_6 ?_
  refine lv_iconst (v := (-1)) hx hb dX3_allBut_7 (by decide) ?_
  refine lv_ixor hx hb dX3_allBut_8 ?_
  refine lv_iand hx hb dX3_allBut_9 ?_
  exact hret _ (r3 &&& ((1 <<< (x &&& 31)) ^^^ (-1))) v _ _ _ _ _ dX3_allBut_10 rfl hT ⟨rfl, by rw [qhp2]⟩ (by decide) (by decide)

set_option maxHeartbeats 4000000 in
set_option maxRecDepth 100000 in
theorem c_shareQuorums (l : Launch) (D : va_G) (tc : Nat → ClassId) {v : hv_V} {a : Nat} (ha : hv_k v a = (4, 0)) : Met l yX3_shareQuorums (Cond.code yX3_shareQuorums cX3_shareQuorums 1 none :: lw_B) ({ frames := 0, cells := 0, slots := 0, locals := 0 }) (va_Pc [.ref a] (hv_Pre D tc v)) (va_Qv (fun (v1 : hv_V) => ∃ q1 q2 : Int32, v1 = hv_si (hv_si v 305 a q1) 306 a q2) (hv_Post D tc (hv_A v)) (hv_A v)) (0) (0) (hv_A v) := by
  refine hv_metv l (by decide) (Nat.le_of_ble_eq_true rfl) ?_
  intro p e s m args below meth c Q X hret hK hz H locs ls hT hl
  obtain ⟨hx, hb, hml, hts, hown, hin0⟩ := X
  have hown : s.vm.findClass "CommitSites" = some m.cls := hown
  have hl : lv_has ls 1 [(0, .ref a)] := hl
  refine lv_aload_n hx hb dX3_shareQuorums_0 rfl (lv_at hl 0 rfl) ?_
  refine lv_aload_n hx hb dX3_shareQuorums_1 rfl (lv_at hl 0 rfl) ?_
  refine hv_geti (ci := 3) (C := RX3) (T := TX3) (N := 12) hx hb hts (tw_cs in_X3) hown hK hT ha (by decide) rfl 4 (by decide) (hts _ (tw_c tw_51)) rfl dX3_shareQuorums_2 ?_
  refine lv_topi (fun g1 eg1 => ?_)
  refine lv_iconst (v := 2) hx hb dX3_shareQuorums_5 (by decide) ?_
  refine lv_idiv hx hb dX3_shareQuorums_6 (by decide) ?_
  refine lv_iconst (v := 1) hx hb dX3_shareQuorums_7 (by decide) ?_
  refine lv_iadd hx hb dX3_shareQuorums_8 ?_
  refine hv_puti (ci := 3) (C := RX3) (T := TX3) (N := 12) hx hb hts (tw_cs in_X3) tyX3 tyX3_ok nmX3 hown hK hT ha (by decide) rfl 5 (by decide) (hts _ (tw_c tw_52)) rfl rfl (x := ((g1 / 2) + 1)) rfl rfl dX3_shareQuorums_9 (fun H locs hT => ?_)
  refine lv_aload_n hx hb dX3_shareQuorums_12 rfl (lv_at hl 0 rfl) ?_
  refine lv_aload_n hx hb dX3_shareQuorums_13 rfl (lv_at hl 0 rfl) ?_
  refine hv_geti (ci := 3) (C := RX3) (T := TX3) (N := 12) hx hb hts (tw_cs in_X3) hown hK hT ha (by decide) rfl 4 (by decide) (hts _ (tw_c tw_51)) rfl dX3_shareQuorums_14 ?_
  refine lv_topi (fun g2 eg2 => ?_)
  refine lv_iconst (v := 2) hx hb dX3_shareQuorums_17 (by decide) ?_
  refine lv_idiv hx hb dX3_shareQuorums_18 (by decide) ?_
  refine lv_iconst (v := 1) hx hb dX3_shareQuorums_19 (by decide) ?_
  refine lv_iadd hx hb dX3_shareQuorums_20 ?_
  refine hv_puti (ci := 3) (C := RX3) (T := TX3) (N := 12) hx hb hts (tw_cs in_X3) tyX3 tyX3_ok nmX3 hown hK hT ha (by decide) rfl 6 (by decide) (hts _ (tw_c tw_53)) rfl rfl (x := ((g2 / 2) + 1)) rfl rfl dX3_shareQuorums_21 (fun H locs hT => ?_)
  exact hret _ (hv_si (hv_si v 305 a ((g1 / 2) + 1)) 306 a ((g2 / 2) + 1)) _ _ _ _ _ dX3_shareQuorums_24 hT ⟨_, _, rfl⟩ (by decide) (by decide)

set_option maxHeartbeats 4000000 in
set_option maxRecDepth 100000 in
theorem c_note (l : Launch) (D : va_G) (tc : Nat → ClassId) {fa : Nat → Nat} {n : Nat} {w u : Nat → Nat} {b : Nat} {d : Nat → Nat → Nat} {g : Nat × Nat} {k : Nat} {hd : List Nat} {v : hv_V} (hI : ci_I fa n w u b d g k hd v) (x1 x2 x3 x4 x5 : Int32) : Met l yX3_note (Cond.code yX3_note cX3_note 6 none :: lw_B) ({ frames := 0, cells := 0, slots := 0, locals := 0 }) (va_Pc [.ref (fa 0), .int x1, .int x2, .int x3, .int x4, .int x5] (hv_Pre D tc v)) (va_Qv (fun (v1 : hv_V) => ci_I fa n w u b d g k hd v1) (hv_Post D tc (hv_A v)) (hv_A v)) (0) (0) (hv_A v) := by
  refine hv_metv l (by decide) (Nat.le_of_ble_eq_true rfl) ?_
  intro p e s m args below meth c Q X hret hK hz H locs ls hT hl
  obtain ⟨hx, hb, hml, hts, hown, hin0⟩ := X
  have hown : s.vm.findClass "CommitSites" = some m.cls := hown
  have hl : lv_has ls 6 [(0, .ref (fa 0)), (1, .int x1), (2, .int x2), (3, .int x3), (4, .int x4), (5, .int x5)] := hl
  have hS := hI.1
  refine lv_aload_n hx hb dX3_note_0 rfl (lv_at hl 0 rfl) ?_
  refine hv_gets (ci := 3) (C := RX3) (T := TX3) (N := 12) hx hb hts (tw_cs in_X3) hown hK hT (cs_kX hS) (by decide) rfl 2 (by decide) (hts _ (tw_c tw_49)) rfl (x := (fa 3)) (cs_pL hS) dX3_note_1 ?_
  refine lv_iconst (v := 0) hx hb dX3_note_4 (by decide) ?_
  refine lv_iload_n hx hb dX3_note_5 rfl (lv_at hl 1 rfl) ?_
  refine hv_iast (x := x1) hx hb hK hT (cs_kL hS) (by unfold vp_in; decide) dX3_note_6 (fun H locs hT => ?_)
  have hI := ci_putL (j := (0 : Int32).toNatClampNeg) (x := x1) hI
  have hS := hI.1
  refine lv_aload_n hx hb dX3_note_7 rfl (lv_at hl 0 rfl) ?_
  refine hv_gets (ci := 3) (C := RX3) (T := TX3) (N := 12) hx hb hts (tw_cs in_X3) hown hK hT (cs_kX hS) (by decide) rfl 2 (by decide) (hts _ (tw_c tw_49)) rfl (x := (fa 3)) (cs_pL hS) dX3_note_8 ?_
  refine lv_iconst (v := 1) hx hb dX3_note_11 (by decide) ?_
  refine lv_iload_n hx hb dX3_note_12 rfl (lv_at hl 2 rfl) ?_
  refine hv_iast (x := x2) hx hb hK hT (cs_kL hS) (by unfold vp_in; decide) dX3_note_13 (fun H locs hT => ?_)
  have hI := ci_putL (j := (1 : Int32).toNatClampNeg) (x := x2) hI
  have hS := hI.1
  refine lv_aload_n hx hb dX3_note_14 rfl (lv_at hl 0 rfl) ?_
  refine hv_gets (ci := 3) (C := RX3) (T := TX3) (N := 12) hx hb hts (tw_cs in_X3) hown hK hT (cs_kX hS) (by decide) rfl 2 (by decide) (hts _ (tw_c tw_49)) rfl (x := (fa 3)) (cs_pL hS) dX3_note_15 ?_
  refine lv_iconst (v := 2) hx hb dX3_note_18 (by decide) ?_
  refine lv_iload_n hx hb dX3_note_19 rfl (lv_at hl 3 rfl) ?_
  refine hv_iast (x := x3) hx hb hK hT (cs_kL hS) (by unfold vp_in; decide) dX3_note_20 (fun H locs hT => ?_)
  have hI := ci_putL (j := (2 : Int32).toNatClampNeg) (x := x3) hI
  have hS := hI.1
  refine lv_aload_n hx hb dX3_note_21 rfl (lv_at hl 0 rfl) ?_
  refine hv_gets (ci := 3) (C := RX3) (T := TX3) (N := 12) hx hb hts (tw_cs in_X3) hown hK hT (cs_kX hS) (by decide) rfl 2 (by decide) (hts _ (tw_c tw_49)) rfl (x := (fa 3)) (cs_pL hS) dX3_note_22 ?_
  refine lv_iconst (v := 3) hx hb dX3_note_25 (by decide) ?_
  refine lv_iload hx hb dX3_note_26 (lv_at hl 4 rfl) ?_
  refine hv_iast (x := x4) hx hb hK hT (cs_kL hS) (by unfold vp_in; decide) dX3_note_28 (fun H locs hT => ?_)
  have hI := ci_putL (j := (3 : Int32).toNatClampNeg) (x := x4) hI
  have hS := hI.1
  refine lv_aload_n hx hb dX3_note_29 rfl (lv_at hl 0 rfl) ?_
  refine hv_gets (ci := 3) (C := RX3) (T := TX3) (N := 12) hx hb hts (tw_cs in_X3) hown hK hT (cs_kX hS) (by decide) rfl 2 (by decide) (hts _ (tw_c tw_49)) rfl (x := (fa 3)) (cs_pL hS) dX3_note_30 ?_
  refine lv_iconst (v := 4) hx hb dX3_note_33 (by decide) ?_
  refine lv_iload hx hb dX3_note_34 (lv_at hl 5 rfl) ?_
  refine hv_iast (x := x5) hx hb hK hT (cs_kL hS) (by unfold vp_in; decide) dX3_note_36 (fun H locs hT => ?_)
  have hI := ci_putL (j := (4 : Int32).toNatClampNeg) (x := x5) hI
  have hS := hI.1
  exact hret _ (hv_sa (hv_sa (hv_sa (hv_sa (hv_sa v (fa 3) (0 : Int32).toNatClampNeg x1) (fa 3) (1 : Int32).toNatClampNeg x2) (fa 3) (2 : Int32).toNatClampNeg x3) (fa 3) (3 : Int32).toNatClampNeg x4) (fa 3) (4 : Int32).toNatClampNeg x5) _ _ _ _ _ dX3_note_37 hT hI (by decide) (by decide)

set_option maxHeartbeats 4000000 in
set_option maxRecDepth 100000 in
theorem c_tidingsOf (l : Launch) (D : va_G) (tc : Nat → ClassId) {v : hv_V} (x : Int32) : Met l yX3_tidingsOf (Cond.code yX3_tidingsOf cX3_tidingsOf 1 (some .int) :: lw_B) ({ frames := 0, cells := 0, slots := 0, locals := 0 }) (va_Pc [.int x] (hv_Pre D tc v)) (va_Qi (fun (r : Int32) (v1 : hv_V) => v1 = v) (hv_Post D tc (hv_A v)) (hv_A v)) (0) (0) (hv_A v) := by
  refine hv_meti l (by decide) (Nat.le_of_ble_eq_true rfl) ?_
  intro p e s m args below meth c Q X hret hK hz H locs ls hT hl
  obtain ⟨hx, hb, hml, hts, hown, hin0⟩ := X
  have hown : s.vm.findClass "CommitSites" = some m.cls := hown
  have hl : lv_has ls 1 [(0, .int x)] := hl
  refine lv_iload_n hx hb dX3_tidingsOf_0 rfl (lv_at hl 0 rfl) ?_
  refine lv_iconst (v := 4) hx hb dX3_tidingsOf_1 (by decide) ?_
  refine lv_icmp_ne (tgt := 10) hx hb dX3_tidingsOf_2 (by decide) (fun c2 => ?_) (fun c2 => ?_)
  · skip
    refine lv_bipush (v := 10) hx hb dX3_tidingsOf_10 (by decide) ?_
    exact hret _ 10 v _ _ _ _ _ dX3_tidingsOf_12 rfl hT rfl (by decide) (by decide)
  · skip
    refine lv_bipush (v := 9) hx hb dX3_tidingsOf_5 (by decide) ?_
    refine lv_goto (tgt := 12) hx hb dX3_tidingsOf_7 (by decide) ?_
    exact hret _ 9 v _ _ _ _ _ dX3_tidingsOf_12 rfl hT rfl (by decide) (by decide)

set_option maxHeartbeats 4000000 in
set_option maxRecDepth 100000 in
theorem c_isDecided (l : Launch) (D : va_G) (tc : Nat → ClassId) {fa : Nat → Nat} {n : Nat} {v : hv_V} (hS : cs_S fa n v) {i : Nat} (hi : i < n) : Met l yX2_isDecided (Cond.code yX2_isDecided cX2_isDecided 1 (some .boolean) :: lw_B) ({ frames := 0, cells := 0, slots := 0, locals := 0 }) (va_Pc [.ref (fa (16 + i))] (hv_Pre D tc v)) (va_Qi (fun (r : Int32) (v1 : hv_V) => v1 = v) (hv_Post D tc (hv_A v)) (hv_A v)) (0) (0) (hv_A v) := by
  refine hv_meti l (by decide) (Nat.le_of_ble_eq_true rfl) ?_
  intro p e s m args below meth c Q X hret hK hz H locs ls hT hl
  obtain ⟨hx, hb, hml, hts, hown, hin0⟩ := X
  have hown : s.vm.findClass "CommitSites$Site" = some m.cls := hown
  have hl : lv_has ls 1 [(0, .ref (fa (16 + i)))] := hl
  refine lv_aload_n hx hb dX2_isDecided_0 rfl (lv_at hl 0 rfl) ?_
  refine hv_geti (ci := 2) (C := RX2) (T := TX2) (N := 10) hx hb hts (tw_cs in_X2) hown hK hT (cs_ks hS hi) (by decide) rfl 4 (by decide) (hts _ (tw_c tw_80)) rfl dX2_isDecided_1 ?_
  refine lv_topi (fun g1 eg1 => ?_)
  refine lv_iconst (v := 4) hx hb dX2_isDecided_4 (by decide) ?_
  refine lv_icmp_eq (tgt := 16) hx hb dX2_isDecided_5 (by decide) (fun c5 => ?_) (fun c5 => ?_)
  · skip
    refine lv_iconst (v := 1) hx hb dX2_isDecided_16 (by decide) ?_
    refine lv_goto (tgt := 21) hx hb dX2_isDecided_17 (by decide) ?_
    exact hret _ 1 v _ _ _ _ _ dX2_isDecided_21 rfl hT rfl (by decide) (by decide)
  · skip
    refine lv_aload_n hx hb dX2_isDecided_8 rfl (lv_at hl 0 rfl) ?_
    refine hv_geti (ci := 2) (C := RX2) (T := TX2) (N := 10) hx hb hts (tw_cs in_X2) hown hK hT (cs_ks hS hi) (by decide) rfl 4 (by decide) (hts _ (tw_c tw_80)) rfl dX2_isDecided_9 ?_
    refine lv_topi (fun g2 eg2 => ?_)
    refine lv_iconst (v := 5) hx hb dX2_isDecided_12 (by decide) ?_
    refine lv_icmp_ne (tgt := 20) hx hb dX2_isDecided_13 (by decide) (fun c13 => ?_) (fun c13 => ?_)
    · skip
      refine lv_iconst (v := 0) hx hb dX2_isDecided_20 (by decide) ?_
      exact hret _ 0 v _ _ _ _ _ dX2_isDecided_21 rfl hT rfl (by decide) (by decide)
    · skip
      refine lv_iconst (v := 1) hx hb dX2_isDecided_16 (by decide) ?_
      refine lv_goto (tgt := 21) hx hb dX2_isDecided_17 (by decide) ?_
      exact hret _ 1 v _ _ _ _ _ dX2_isDecided_21 rfl hT rfl (by decide) (by decide)

set_option maxHeartbeats 4000000 in
set_option maxRecDepth 100000 in
theorem c_collectsAcks (l : Launch) (D : va_G) (tc : Nat → ClassId) {fa : Nat → Nat} {n : Nat} {v : hv_V} (hS : cs_S fa n v) {i : Nat} (hi : i < n) : Met l yX2_collectsAcks (Cond.code yX2_collectsAcks cX2_collectsAcks 1 (some .boolean) :: lw_B) ({ frames := 0, cells := 0, slots := 0, locals := 0 }) (va_Pc [.ref (fa (16 + i))] (hv_Pre D tc v)) (va_Qi (fun (r : Int32) (v1 : hv_V) => v1 = v) (hv_Post D tc (hv_A v)) (hv_A v)) (0) (0) (hv_A v) := by
  refine hv_meti l (by decide) (Nat.le_of_ble_eq_true rfl) ?_
  intro p e s m args below meth c Q X hret hK hz H locs ls hT hl
  obtain ⟨hx, hb, hml, hts, hown, hin0⟩ := X
  have hown : s.vm.findClass "CommitSites$Site" = some m.cls := hown
  have hl : lv_has ls 1 [(0, .ref (fa (16 + i)))] := hl
  refine lv_aload_n hx hb dX2_collectsAcks_0 rfl (lv_at hl 0 rfl) ?_
  refine hv_geti (ci := 2) (C := RX2) (T := TX2) (N := 10) hx hb hts (tw_cs in_X2) hown hK hT (cs_ks hS hi) (by decide) rfl 6 (by decide) (hts _ (tw_c tw_84)) rfl dX2_collectsAcks_1 ?_
  refine lv_topi (fun g1 eg1 => ?_)
  refine lv_iconst (v := 2) hx hb dX2_collectsAcks_4 (by decide) ?_
  refine lv_icmp_eq (tgt := 16) hx hb dX2_collectsAcks_5 (by decide) (fun c5 => ?_) (fun c5 => ?_)
  · skip
    refine lv_iconst (v := 1) hx hb dX2_collectsAcks_16 (by decide) ?_
    refine lv_goto (tgt := 21) hx hb dX2_collectsAcks_17 (by decide) ?_
    exact hret _ 1 v _ _ _ _ _ dX2_collectsAcks_21 rfl hT rfl (by decide) (by decide)
  · skip
    refine lv_aload_n hx hb dX2_collectsAcks_8 rfl (lv_at hl 0 rfl) ?_
    refine hv_geti (ci := 2) (C := RX2) (T := TX2) (N := 10) hx hb hts (tw_cs in_X2) hown hK hT (cs_ks hS hi) (by decide) rfl 6 (by decide) (hts _ (tw_c tw_84)) rfl dX2_collectsAcks_9 ?_
    refine lv_topi (fun g2 eg2 => ?_)
    refine lv_iconst (v := 4) hx hb dX2_collectsAcks_12 (by decide) ?_
    refine lv_icmp_ne (tgt := 20) hx hb dX2_collectsAcks_13 (by decide) (fun c13 => ?_) (fun c13 => ?_)
    · skip
      refine lv_iconst (v := 0) hx hb dX2_collectsAcks_20 (by decide) ?_
      exact hret _ 0 v _ _ _ _ _ dX2_collectsAcks_21 rfl hT rfl (by decide) (by decide)
    · skip
      refine lv_iconst (v := 1) hx hb dX2_collectsAcks_16 (by decide) ?_
      refine lv_goto (tgt := 21) hx hb dX2_collectsAcks_17 (by decide) ?_
      exact hret _ 1 v _ _ _ _ _ dX2_collectsAcks_21 rfl hT rfl (by decide) (by decide)

set_option maxHeartbeats 4000000 in
set_option maxRecDepth 100000 in
theorem c_runsOutEarlier (l : Launch) (D : va_G) (tc : Nat → ClassId) {fa : Nat → Nat} {n : Nat} {v : hv_V} (hS : cs_S fa n v) {i : Nat} (hi : i < n) {j : Nat} (hj : j < n) : Met l yX2_runsOutEarlier (Cond.code yX2_runsOutEarlier cX2_runsOutEarlier 2 (some .boolean) :: lw_B) ({ frames := 0, cells := 0, slots := 0, locals := 0 }) (va_Pc [.ref (fa (16 + i)), .ref (fa (16 + j))] (hv_Pre D tc v)) (va_Qi (fun (r : Int32) (v1 : hv_V) => v1 = v) (hv_Post D tc (hv_A v)) (hv_A v)) (0) (0) (hv_A v) := by
  refine hv_meti l (by decide) (Nat.le_of_ble_eq_true rfl) ?_
  intro p e s m args below meth c Q X hret hK hz H locs ls hT hl
  obtain ⟨hx, hb, hml, hts, hown, hin0⟩ := X
  have hown : s.vm.findClass "CommitSites$Site" = some m.cls := hown
  have hl : lv_has ls 2 [(0, .ref (fa (16 + i))), (1, .ref (fa (16 + j)))] := hl
  refine lv_aload_n hx hb dX2_runsOutEarlier_0 rfl (lv_at hl 0 rfl) ?_
  refine hv_geti (ci := 2) (C := RX2) (T := TX2) (N := 10) hx hb hts (tw_cs in_X2) hown hK hT (cs_ks hS hi) (by decide) rfl 8 (by decide) (hts _ (tw_c tw_88)) rfl dX2_runsOutEarlier_1 ?_
  refine lv_topi (fun g1 eg1 => ?_)
  refine lv_aload_n hx hb dX2_runsOutEarlier_4 rfl (lv_at hl 1 rfl) ?_
  refine hv_geti (ci := 2) (C := RX2) (T := TX2) (N := 10) hx hb hts (tw_cs in_X2) hown hK hT (cs_ks hS hj) (by decide) rfl 8 (by decide) (hts _ (tw_c tw_88)) rfl dX2_runsOutEarlier_5 ?_
  refine lv_topi (fun g2 eg2 => ?_)
  refine lv_icmp_lt (tgt := 33) hx hb dX2_runsOutEarlier_8 (by decide) (fun c8 => ?_) (fun c8 => ?_)
  · skip
    refine lv_iconst (v := 1) hx hb dX2_runsOutEarlier_33 (by decide) ?_
    refine lv_goto (tgt := 38) hx hb dX2_runsOutEarlier_34 (by decide) ?_
    exact hret _ 1 v _ _ _ _ _ dX2_runsOutEarlier_38 rfl hT rfl (by decide) (by decide)
  · skip
    refine lv_aload_n hx hb dX2_runsOutEarlier_11 rfl (lv_at hl 0 rfl) ?_
    refine hv_geti (ci := 2) (C := RX2) (T := TX2) (N := 10) hx hb hts (tw_cs in_X2) hown hK hT (cs_ks hS hi) (by decide) rfl 8 (by decide) (hts _ (tw_c tw_88)) rfl dX2_runsOutEarlier_12 ?_
    refine lv_topi (fun g3 eg3 => ?_)
    refine lv_aload_n hx hb dX2_runsOutEarlier_15 rfl (lv_at hl 1 rfl) ?_
    refine hv_geti (ci := 2) (C := RX2) (T := TX2) (N := 10) hx hb hts (tw_cs in_X2) hown hK hT (cs_ks hS hj) (by decide) rfl 8 (by decide) (hts _ (tw_c tw_88)) rfl dX2_runsOutEarlier_16 ?_
    refine lv_topi (fun g4 eg4 => ?_)
    refine lv_icmp_ne (tgt := 37) hx hb dX2_runsOutEarlier_19 (by decide) (fun c19 => ?_) (fun c19 => ?_)
    · skip
      refine lv_iconst (v := 0) hx hb dX2_runsOutEarlier_37 (by decide) ?_
      exact hret _ 0 v _ _ _ _ _ dX2_runsOutEarlier_38 rfl hT rfl (by decide) (by decide)
    · skip
      refine lv_aload_n hx hb dX2_runsOutEarlier_22 rfl (lv_at hl 0 rfl) ?_
      refine hv_geti (ci := 2) (C := RX2) (T := TX2) (N := 10) hx hb hts (tw_cs in_X2) hown hK hT (cs_ks hS hi) (by decide) rfl 9 (by decide) (hts _ (tw_c tw_90)) rfl dX2_runsOutEarlier_23 ?_
      refine lv_topi (fun g5 eg5 => ?_)
      refine lv_aload_n hx hb dX2_runsOutEarlier_26 rfl (lv_at hl 1 rfl) ?_
      refine hv_geti (ci := 2) (C := RX2) (T := TX2) (N := 10) hx hb hts (tw_cs in_X2) hown hK hT (cs_ks hS hj) (by decide) rfl 9 (by decide) (hts _ (tw_c tw_90)) rfl dX2_runsOutEarlier_27 ?_
      refine lv_topi (fun g6 eg6 => ?_)
      refine lv_icmp_ge (tgt := 37) hx hb dX2_runsOutEarlier_30 (by decide) (fun c30 => ?_) (fun c30 => ?_)
      · skip
        refine lv_iconst (v := 0) hx hb dX2_runsOutEarlier_37 (by decide) ?_
        exact hret _ 0 v _ _ _ _ _ dX2_runsOutEarlier_38 rfl hT rfl (by decide) (by decide)
      · skip
        refine lv_iconst (v := 1) hx hb dX2_runsOutEarlier_33 (by decide) ?_
        refine lv_goto (tgt := 38) hx hb dX2_runsOutEarlier_34 (by decide) ?_
        exact hret _ 1 v _ _ _ _ _ dX2_runsOutEarlier_38 rfl hT rfl (by decide) (by decide)

set_option maxHeartbeats 4000000 in
set_option maxRecDepth 100000 in
theorem c_runsOutBefore (l : Launch) (D : va_G) (tc : Nat → ClassId) {fa : Nat → Nat} {n : Nat} {v : hv_V} (hS : cs_S fa n v) {i : Nat} (hi : i < n) {a : Nat} (ha : hv_k v a = (1, 0)) : Met l yX2_runsOutBefore (Cond.code yX2_runsOutBefore cX2_runsOutBefore 2 (some .boolean) :: lw_B) ({ frames := 0, cells := 0, slots := 0, locals := 0 }) (va_Pc [.ref (fa (16 + i)), .ref a] (hv_Pre D tc v)) (va_Qi (fun (r : Int32) (v1 : hv_V) => v1 = v) (hv_Post D tc (hv_A v)) (hv_A v)) (0) (0) (hv_A v) := by
  refine hv_meti l (by decide) (Nat.le_of_ble_eq_true rfl) ?_
  intro p e s m args below meth c Q X hret hK hz H locs ls hT hl
  obtain ⟨hx, hb, hml, hts, hown, hin0⟩ := X
  have hown : s.vm.findClass "CommitSites$Site" = some m.cls := hown
  have hl : lv_has ls 2 [(0, .ref (fa (16 + i))), (1, .ref a)] := hl
  refine lv_aload_n hx hb dX2_runsOutBefore_0 rfl (lv_at hl 1 rfl) ?_
  refine lv_ifnull hx hb dX2_runsOutBefore_1 ?_
  refine lv_aload_n hx hb dX2_runsOutBefore_4 rfl (lv_at hl 0 rfl) ?_
  refine hv_geti (ci := 2) (C := RX2) (T := TX2) (N := 10) hx hb hts (tw_cs in_X2) hown hK hT (cs_ks hS hi) (by decide) rfl 8 (by decide) (hts _ (tw_c tw_88)) rfl dX2_runsOutBefore_5 ?_
  refine lv_topi (fun g1 eg1 => ?_)
  refine lv_aload_n hx hb dX2_runsOutBefore_8 rfl (lv_at hl 1 rfl) ?_
  refine hv_geti (ci := 0) (C := RX0) (T := TX0) (N := 8) hx hb hts (tw_cs in_X0) hown hK hT ha (by decide) rfl 0 (by decide) (hts _ (tw_c tw_148)) rfl dX2_runsOutBefore_9 ?_
  refine lv_topi (fun g2 eg2 => ?_)
  refine lv_icmp_lt (tgt := 37) hx hb dX2_runsOutBefore_12 (by decide) (fun c12 => ?_) (fun c12 => ?_)
  · skip
    refine lv_iconst (v := 1) hx hb dX2_runsOutBefore_37 (by decide) ?_
    refine lv_goto (tgt := 42) hx hb dX2_runsOutBefore_38 (by decide) ?_
    exact hret _ 1 v _ _ _ _ _ dX2_runsOutBefore_42 rfl hT rfl (by decide) (by decide)
  · skip
    refine lv_aload_n hx hb dX2_runsOutBefore_15 rfl (lv_at hl 0 rfl) ?_
    refine hv_geti (ci := 2) (C := RX2) (T := TX2) (N := 10) hx hb hts (tw_cs in_X2) hown hK hT (cs_ks hS hi) (by decide) rfl 8 (by decide) (hts _ (tw_c tw_88)) rfl dX2_runsOutBefore_16 ?_
    refine lv_topi (fun g3 eg3 => ?_)
    refine lv_aload_n hx hb dX2_runsOutBefore_19 rfl (lv_at hl 1 rfl) ?_
    refine hv_geti (ci := 0) (C := RX0) (T := TX0) (N := 8) hx hb hts (tw_cs in_X0) hown hK hT ha (by decide) rfl 0 (by decide) (hts _ (tw_c tw_148)) rfl dX2_runsOutBefore_20 ?_
    refine lv_topi (fun g4 eg4 => ?_)
    refine lv_icmp_ne (tgt := 41) hx hb dX2_runsOutBefore_23 (by decide) (fun c23 => ?_) (fun c23 => ?_)
    · skip
      refine lv_iconst (v := 0) hx hb dX2_runsOutBefore_41 (by decide) ?_
      exact hret _ 0 v _ _ _ _ _ dX2_runsOutBefore_42 rfl hT rfl (by decide) (by decide)
    · skip
      refine lv_aload_n hx hb dX2_runsOutBefore_26 rfl (lv_at hl 0 rfl) ?_
      refine hv_geti (ci := 2) (C := RX2) (T := TX2) (N := 10) hx hb hts (tw_cs in_X2) hown hK hT (cs_ks hS hi) (by decide) rfl 9 (by decide) (hts _ (tw_c tw_90)) rfl dX2_runsOutBefore_27 ?_
      refine lv_topi (fun g5 eg5 => ?_)
      refine lv_aload_n hx hb dX2_runsOutBefore_30 rfl (lv_at hl 1 rfl) ?_
      refine hv_geti (ci := 0) (C := RX0) (T := TX0) (N := 8) hx hb hts (tw_cs in_X0) hown hK hT ha (by decide) rfl 1 (by decide) (hts _ (tw_c tw_151)) rfl dX2_runsOutBefore_31 ?_
      refine lv_topi (fun g6 eg6 => ?_)
      refine lv_icmp_ge (tgt := 41) hx hb dX2_runsOutBefore_34 (by decide) (fun c34 => ?_) (fun c34 => ?_)
      · skip
        refine lv_iconst (v := 0) hx hb dX2_runsOutBefore_41 (by decide) ?_
        exact hret _ 0 v _ _ _ _ _ dX2_runsOutBefore_42 rfl hT rfl (by decide) (by decide)
      · skip
        refine lv_iconst (v := 1) hx hb dX2_runsOutBefore_37 (by decide) ?_
        refine lv_goto (tgt := 42) hx hb dX2_runsOutBefore_38 (by decide) ?_
        exact hret _ 1 v _ _ _ _ _ dX2_runsOutBefore_42 rfl hT rfl (by decide) (by decide)

set_option maxHeartbeats 4000000 in
set_option maxRecDepth 100000 in
theorem c_runsOutBefore0 (l : Launch) (D : va_G) (tc : Nat → ClassId) {fa : Nat → Nat} {n : Nat} {v : hv_V} (hS : cs_S fa n v) {i : Nat} (hi : i < n) : Met l yX2_runsOutBefore (Cond.code yX2_runsOutBefore cX2_runsOutBefore 2 (some .boolean) :: lw_B) ({ frames := 0, cells := 0, slots := 0, locals := 0 }) (va_Pc [.ref (fa (16 + i)), .null] (hv_Pre D tc v)) (va_Qi (fun (r : Int32) (v1 : hv_V) => v1 = v) (hv_Post D tc (hv_A v)) (hv_A v)) (0) (0) (hv_A v) := by
  refine hv_meti l (by decide) (Nat.le_of_ble_eq_true rfl) ?_
  intro p e s m args below meth c Q X hret hK hz H locs ls hT hl
  obtain ⟨hx, hb, hml, hts, hown, hin0⟩ := X
  have hown : s.vm.findClass "CommitSites$Site" = some m.cls := hown
  have hl : lv_has ls 2 [(0, .ref (fa (16 + i))), (1, .null)] := hl
  refine lv_aload_nN hx hb dX2_runsOutBefore_0 rfl (lv_at hl 1 rfl) ?_
  refine lv_ifnullN (tgt := 37) hx hb dX2_runsOutBefore_1 (by decide) ?_
  refine lv_iconst (v := 1) hx hb dX2_runsOutBefore_37 (by decide) ?_
  refine lv_goto (tgt := 42) hx hb dX2_runsOutBefore_38 (by decide) ?_
  exact hret _ 1 v _ _ _ _ _ dX2_runsOutBefore_42 rfl hT rfl (by decide) (by decide)

set_option maxHeartbeats 4000000 in
set_option maxRecDepth 100000 in
theorem c_siteAnew (l : Launch) (D : va_G) (tc : Nat → ClassId) {v : hv_V} {a : Nat} (ha : hv_k v a = (3, 0)) : Met l yX2_startAnew (Cond.code yX2_startAnew cX2_startAnew 1 none :: lw_B) ({ frames := 0, cells := 0, slots := 0, locals := 0 }) (va_Pc [.ref a] (hv_Pre D tc v)) (va_Qv (fun (v1 : hv_V) => v1 = (hv_si (hv_si (hv_si (hv_si (hv_si (hv_si (hv_si (hv_si v 202 a 0) 203 a 1) 204 a 0) 205 a 0) 206 a 0) 207 a 0) 208 a (-1)) 209 a 0)) (hv_Post D tc (hv_A v)) (hv_A v)) (0) (0) (hv_A v) := by
  refine hv_metv l (by decide) (Nat.le_of_ble_eq_true rfl) ?_
  intro p e s m args below meth c Q X hret hK hz H locs ls hT hl
  obtain ⟨hx, hb, hml, hts, hown, hin0⟩ := X
  have hown : s.vm.findClass "CommitSites$Site" = some m.cls := hown
  have hl : lv_has ls 1 [(0, .ref a)] := hl
  refine lv_aload_n hx hb dX2_startAnew_0 rfl (lv_at hl 0 rfl) ?_
  refine lv_iconst (v := 0) hx hb dX2_startAnew_1 (by decide) ?_
  refine hv_puti (ci := 2) (C := RX2) (T := TX2) (N := 10) hx hb hts (tw_cs in_X2) tyX2 tyX2_ok nmX2 hown hK hT ha (by decide) rfl 2 (by decide) (hts _ (tw_c tw_76)) rfl rfl (x := 0) rfl rfl dX2_startAnew_2 (fun H locs hT => ?_)
  refine lv_aload_n hx hb dX2_startAnew_5 rfl (lv_at hl 0 rfl) ?_
  refine lv_iconst (v := 1) hx hb dX2_startAnew_6 (by decide) ?_
  refine hv_puti (ci := 2) (C := RX2) (T := TX2) (N := 10) hx hb hts (tw_cs in_X2) tyX2 tyX2_ok nmX2 hown hK hT ha (by decide) rfl 3 (by decide) (hts _ (tw_c tw_78)) rfl rfl (x := 1) rfl rfl dX2_startAnew_7 (fun H locs hT => ?_)
  refine lv_aload_n hx hb dX2_startAnew_10 rfl (lv_at hl 0 rfl) ?_
  refine lv_iconst (v := 0) hx hb dX2_startAnew_11 (by decide) ?_
  refine hv_puti (ci := 2) (C := RX2) (T := TX2) (N := 10) hx hb hts (tw_cs in_X2) tyX2 tyX2_ok nmX2 hown hK hT ha (by decide) rfl 4 (by decide) (hts _ (tw_c tw_80)) rfl rfl (x := 0) rfl rfl dX2_startAnew_12 (fun H locs hT => ?_)
  refine lv_aload_n hx hb dX2_startAnew_15 rfl (lv_at hl 0 rfl) ?_
  refine lv_iconst (v := 0) hx hb dX2_startAnew_16 (by decide) ?_
  refine hv_puti (ci := 2) (C := RX2) (T := TX2) (N := 10) hx hb hts (tw_cs in_X2) tyX2 tyX2_ok nmX2 hown hK hT ha (by decide) rfl 5 (by decide) (hts _ (tw_c tw_82)) rfl rfl (x := 0) rfl rfl dX2_startAnew_17 (fun H locs hT => ?_)
  refine lv_aload_n hx hb dX2_startAnew_20 rfl (lv_at hl 0 rfl) ?_
  refine lv_iconst (v := 0) hx hb dX2_startAnew_21 (by decide) ?_
  refine hv_puti (ci := 2) (C := RX2) (T := TX2) (N := 10) hx hb hts (tw_cs in_X2) tyX2 tyX2_ok nmX2 hown hK hT ha (by decide) rfl 6 (by decide) (hts _ (tw_c tw_84)) rfl rfl (x := 0) rfl rfl dX2_startAnew_22 (fun H locs hT => ?_)
  refine lv_aload_n hx hb dX2_startAnew_25 rfl (lv_at hl 0 rfl) ?_
  refine lv_iconst (v := 0) hx hb dX2_startAnew_26 (by decide) ?_
  refine hv_puti (ci := 2) (C := RX2) (T := TX2) (N := 10) hx hb hts (tw_cs in_X2) tyX2 tyX2_ok nmX2 hown hK hT ha (by decide) rfl 7 (by decide) (hts _ (tw_c tw_86)) rfl rfl (x := 0) rfl rfl dX2_startAnew_27 (fun H locs hT => ?_)
  refine lv_aload_n hx hb dX2_startAnew_30 rfl (lv_at hl 0 rfl) ?_
  refine lv_iconst (v := (-1)) hx hb dX2_startAnew_31 (by decide) ?_
  refine hv_puti (ci := 2) (C := RX2) (T := TX2) (N := 10) hx hb hts (tw_cs in_X2) tyX2 tyX2_ok nmX2 hown hK hT ha (by decide) rfl 8 (by decide) (hts _ (tw_c tw_88)) rfl rfl (x := (-1)) rfl rfl dX2_startAnew_32 (fun H locs hT => ?_)
  refine lv_aload_n hx hb dX2_startAnew_35 rfl (lv_at hl 0 rfl) ?_
  refine lv_iconst (v := 0) hx hb dX2_startAnew_36 (by decide) ?_
  refine hv_puti (ci := 2) (C := RX2) (T := TX2) (N := 10) hx hb hts (tw_cs in_X2) tyX2 tyX2_ok nmX2 hown hK hT ha (by decide) rfl 9 (by decide) (hts _ (tw_c tw_90)) rfl rfl (x := 0) rfl rfl dX2_startAnew_37 (fun H locs hT => ?_)
  exact hret _ (hv_si (hv_si (hv_si (hv_si (hv_si (hv_si (hv_si (hv_si v 202 a 0) 203 a 1) 204 a 0) 205 a 0) 206 a 0) 207 a 0) 208 a (-1)) 209 a 0) _ _ _ _ _ dX2_startAnew_40 hT rfl (by decide) (by decide)

set_option maxHeartbeats 4000000 in
set_option maxRecDepth 100000 in
theorem c_nextOrder (l : Launch) (D : va_G) (tc : Nat → ClassId) {fa : Nat → Nat} {n : Nat} {w u : Nat → Nat} {b : Nat} {d : Nat → Nat → Nat} {g : Nat × Nat} {k : Nat} {hd : List Nat} {v : hv_V} (hI : ci_I fa n w u b d g k hd v) : Met l yX1_nextOrder (Cond.code yX1_nextOrder cX1_nextOrder 1 (some .int) :: lw_B) ({ frames := 0, cells := 0, slots := 0, locals := 0 }) (va_Pc [.ref (fa 2)] (hv_Pre D tc v)) (va_Qi (fun (r : Int32) (v1 : hv_V) => ci_I fa n w u b d g k hd v1) (hv_Post D tc (hv_A v)) (hv_A v)) (0) (0) (hv_A v) := by
  refine hv_meti l (by decide) (Nat.le_of_ble_eq_true rfl) ?_
  intro p e s m args below meth c Q X hret hK hz H locs ls hT hl
  obtain ⟨hx, hb, hml, hts, hown, hin0⟩ := X
  have hown : s.vm.findClass "CommitSites$Network" = some m.cls := hown
  have hl : lv_has ls 1 [(0, .ref (fa 2))] := hl
  have hS := hI.1
  refine lv_aload_n hx hb dX1_nextOrder_0 rfl (lv_at hl 0 rfl) ?_
  refine lv_dup hx hb dX1_nextOrder_1 rfl ?_
  refine hv_geti (ci := 1) (C := RX1) (T := TX1) (N := 9) hx hb hts (tw_cs in_X1) hown hK hT (cs_kN hS) (by decide) rfl 5 (by decide) (hts _ (tw_c tw_33)) rfl dX1_nextOrder_2 ?_
  refine lv_topi (fun g1 eg1 => ?_)
  refine lv_dup_x1 hx hb dX1_nextOrder_5 rfl rfl ?_
  refine lv_iconst (v := 1) hx hb dX1_nextOrder_6 (by decide) ?_
  refine lv_iadd hx hb dX1_nextOrder_7 ?_
  refine hv_puti (ci := 1) (C := RX1) (T := TX1) (N := 9) hx hb hts (tw_cs in_X1) tyX1 tyX1_ok nmX1 hown hK hT (cs_kN hS) (by decide) rfl 5 (by decide) (hts _ (tw_c tw_33)) rfl rfl (x := (g1 + 1)) rfl rfl dX1_nextOrder_8 (fun H locs hT => ?_)
  have hI := ci_put (f := 105) (a := (fa 2)) (x := (g1 + 1)) rfl hI
  have hS := hI.1
  exact hret _ g1 (hv_si v 105 (fa 2) (g1 + 1)) _ _ _ _ _ dX1_nextOrder_11 rfl hT hI (by decide) (by decide)

set_option maxHeartbeats 4000000 in
set_option maxRecDepth 100000 in
theorem c_become (l : Launch) (D : va_G) (tc : Nat → ClassId) {fa : Nat → Nat} {n : Nat} {w u : Nat → Nat} {b : Nat} {d : Nat → Nat → Nat} {g : Nat × Nat} {k : Nat} {hd : List Nat} {v : hv_V} (hI : ci_I fa n w u b d g k hd v) {i : Nat} (hi : i < n) (x : Int32) : Met l yX3_become (Cond.code yX3_become cX3_become 3 none :: lw_B) ({ frames := 1, cells := 0, slots := 0, locals := 20 }) (va_Pc [.ref (fa 0), .ref (fa (16 + i)), .int x] (hv_Pre D tc v)) (va_Qv (fun (v1 : hv_V) => ci_I fa n w u b d g k hd v1) (hv_Post D tc (hv_A v)) (hv_A v)) (0) (0) (hv_A v) := by
  refine hv_metv l (by decide) (Nat.le_of_ble_eq_true rfl) ?_
  intro p e s m args below meth c Q X hret hK hz H locs ls hT hl
  obtain ⟨hx, hb, hml, hts, hown, hin0⟩ := X
  have hown : s.vm.findClass "CommitSites" = some m.cls := hown
  have hl : lv_has ls 3 [(0, .ref (fa 0)), (1, .ref (fa (16 + i))), (2, .int x)] := hl
  have hS := hI.1
  refine lv_aload_n hx hb dX3_become_0 rfl (lv_at hl 1 rfl) ?_
  refine hv_geti (ci := 2) (C := RX2) (T := TX2) (N := 10) hx hb hts (tw_cs in_X2) hown hK hT (cs_ks hS hi) (by decide) rfl 4 (by decide) (hts _ (tw_c tw_81)) rfl dX3_become_1 ?_
  refine lv_topi (fun g1 eg1 => ?_)
  refine lv_iload_n hx hb dX3_become_4 rfl (lv_at hl 2 rfl) ?_
  refine lv_icmp_eq (tgt := 24) hx hb dX3_become_5 (by decide) (fun c5 => ?_) (fun c5 => ?_)
  · skip
    refine lv_aload_n hx hb dX3_become_24 rfl (lv_at hl 1 rfl) ?_
    refine hv_calli (va_runV (As := []) (rest := []) ⟨hx, hb, hml, hown, hts⟩ (c_isDecided l D tc hS hi) (cwV 0 hts (tw_V tw_127 tw_128 tw_129 tw_4 tw_130) rfl rfl rfl (by decide +kernel) ⟨Nat.le_of_ble_eq_true rfl, Nat.le_of_ble_eq_true rfl⟩) (hv_preV (ci := 2) hK hT.1 (cs_ks hS hi) (by decide) rfl rfl) rfl rfl hl.1 rfl (lv_room (Nat.le_of_ble_eq_true rfl)) dX3_become_25 ⟨Nat.le_of_ble_eq_true rfl, Nat.le_of_ble_eq_true rfl⟩) hT (fun r4 v2 H locs hp3 hT => ?_)
    rw [hp3] at hT
    refine lv_if_eq (tgt := 36) hx hb dX3_become_28 (by decide) (fun c28 => ?_) (fun c28 => ?_)
    · skip
      exact hret _ v _ _ _ _ _ dX3_become_36 hT hI (by decide) (by decide)
    · skip
      refine lv_aload_n hx hb dX3_become_31 rfl (lv_at hl 1 rfl) ?_
      refine lv_iconst (v := (-1)) hx hb dX3_become_32 (by decide) ?_
      refine hv_puti (ci := 2) (C := RX2) (T := TX2) (N := 10) hx hb hts (tw_cs in_X2) tyX2 tyX2_ok nmX2 hown hK hT (cs_ks hS hi) (by decide) rfl 8 (by decide) (hts _ (tw_c tw_89)) rfl rfl (x := (-1)) rfl rfl dX3_become_33 (fun H locs hT => ?_)
      have hI := ci_putT (i := i) (x := (-1)) (Or.inl rfl) hI hi
      have hS := hI.1
      exact hret _ (hv_si v 208 (fa (16 + i)) (-1)) _ _ _ _ _ dX3_become_36 hT hI (by decide) (by decide)
  · skip
    refine lv_aload_n hx hb dX3_become_8 rfl (lv_at hl 1 rfl) ?_
    refine lv_iload_n hx hb dX3_become_9 rfl (lv_at hl 2 rfl) ?_
    refine hv_puti (ci := 2) (C := RX2) (T := TX2) (N := 10) hx hb hts (tw_cs in_X2) tyX2 tyX2_ok nmX2 hown hK hT (cs_ks hS hi) (by decide) rfl 4 (by decide) (hts _ (tw_c tw_81)) rfl rfl (x := x) rfl rfl dX3_become_10 (fun H locs hT => ?_)
    have hI := ci_put (f := 204) (a := (fa (16 + i))) (x := x) rfl hI
    have hS := hI.1
    refine lv_aload_n hx hb dX3_become_13 rfl (lv_at hl 1 rfl) ?_
    refine lv_aload_n hx hb dX3_become_14 rfl (lv_at hl 0 rfl) ?_
    refine hv_gets (ci := 3) (C := RX3) (T := TX3) (N := 12) hx hb hts (tw_cs in_X3) hown hK hT (cs_kX hS) (by decide) rfl 1 (by decide) (hts _ (tw_c tw_48)) rfl (x := (fa 2)) (cs_pN hS) dX3_become_15 ?_
    refine hv_geti (ci := 1) (C := RX1) (T := TX1) (N := 9) hx hb hts (tw_cs in_X1) hown hK hT (cs_kN hS) (by decide) rfl 4 (by decide) (hts _ (tw_c tw_32)) rfl dX3_become_18 ?_
    refine lv_topi (fun g5 eg5 => ?_)
    refine hv_puti (ci := 2) (C := RX2) (T := TX2) (N := 10) hx hb hts (tw_cs in_X2) tyX2 tyX2_ok nmX2 hown hK hT (cs_ks hS hi) (by decide) rfl 5 (by decide) (hts _ (tw_c tw_83)) rfl rfl (x := g5) rfl rfl dX3_become_21 (fun H locs hT => ?_)
    have hI := ci_put (f := 205) (a := (fa (16 + i))) (x := g5) rfl hI
    have hS := hI.1
    refine lv_aload_n hx hb dX3_become_24 rfl (lv_at hl 1 rfl) ?_
    refine hv_calli (va_runV (As := []) (rest := []) ⟨hx, hb, hml, hown, hts⟩ (c_isDecided l D tc hS hi) (cwV 0 hts (tw_V tw_127 tw_128 tw_129 tw_4 tw_130) rfl rfl rfl (by decide +kernel) ⟨Nat.le_of_ble_eq_true rfl, Nat.le_of_ble_eq_true rfl⟩) (hv_preV (ci := 2) hK hT.1 (cs_ks hS hi) (by decide) rfl rfl) rfl rfl hl.1 rfl (lv_room (Nat.le_of_ble_eq_true rfl)) dX3_become_25 ⟨Nat.le_of_ble_eq_true rfl, Nat.le_of_ble_eq_true rfl⟩) hT (fun r8 v6 H locs hp7 hT => ?_)
    rw [hp7] at hT
    refine lv_if_eq (tgt := 36) hx hb dX3_become_28 (by decide) (fun c28 => ?_) (fun c28 => ?_)
    · skip
      exact hret _ (hv_si (hv_si v 204 (fa (16 + i)) x) 205 (fa (16 + i)) g5) _ _ _ _ _ dX3_become_36 hT hI (by decide) (by decide)
    · skip
      refine lv_aload_n hx hb dX3_become_31 rfl (lv_at hl 1 rfl) ?_
      refine lv_iconst (v := (-1)) hx hb dX3_become_32 (by decide) ?_
      refine hv_puti (ci := 2) (C := RX2) (T := TX2) (N := 10) hx hb hts (tw_cs in_X2) tyX2 tyX2_ok nmX2 hown hK hT (cs_ks hS hi) (by decide) rfl 8 (by decide) (hts _ (tw_c tw_89)) rfl rfl (x := (-1)) rfl rfl dX3_become_33 (fun H locs hT => ?_)
      have hI := ci_putT (i := i) (x := (-1)) (Or.inl rfl) hI hi
      have hS := hI.1
      exact hret _ (hv_si (hv_si (hv_si v 204 (fa (16 + i)) x) 205 (fa (16 + i)) g5) 208 (fa (16 + i)) (-1)) _ _ _ _ _ dX3_become_36 hT hI (by decide) (by decide)

set_option maxHeartbeats 4000000 in
set_option maxRecDepth 100000 in
theorem c_setTimer (l : Launch) (D : va_G) (tc : Nat → ClassId) {fa : Nat → Nat} {n : Nat} {w u : Nat → Nat} {b : Nat} {d : Nat → Nat → Nat} {g : Nat × Nat} {k : Nat} {hd : List Nat} {v : hv_V} (hI : ci_I fa n w u b d g k hd v) {i : Nat} (hi : i < n) {q : Nat} (hq : q ≤ 200) : Met l yX3_setTimer (Cond.code yX3_setTimer cX3_setTimer 3 none :: lw_B) ({ frames := 1, cells := 0, slots := 0, locals := 20 }) (va_Pc [.ref (fa 0), .ref (fa (16 + i)), .int (nI q)] (hv_Pre D tc v)) (va_Qv (fun (v1 : hv_V) => ci_I fa n w u b d g k hd v1) (hv_Post D tc (hv_A v)) (hv_A v)) (0) (0) (hv_A v) := by
  refine hv_metv l (by decide) (Nat.le_of_ble_eq_true rfl) ?_
  intro p e s m args below meth c Q X hret hK hz H locs ls hT hl
  obtain ⟨hx, hb, hml, hts, hown, hin0⟩ := X
  have hown : s.vm.findClass "CommitSites" = some m.cls := hown
  have hl : lv_has ls 3 [(0, .ref (fa 0)), (1, .ref (fa (16 + i))), (2, .int (nI q))] := hl
  have hS := hI.1
  obtain ⟨t, ht4, ht⟩ := hI.2.1.2.2.2.2.1
  refine lv_aload_n hx hb dX3_setTimer_0 rfl (lv_at hl 1 rfl) ?_
  refine lv_aload_n hx hb dX3_setTimer_1 rfl (lv_at hl 0 rfl) ?_
  refine hv_gets (ci := 3) (C := RX3) (T := TX3) (N := 12) hx hb hts (tw_cs in_X3) hown hK hT (cs_kX hS) (by decide) rfl 1 (by decide) (hts _ (tw_c tw_48)) rfl (x := (fa 2)) (cs_pN hS) dX3_setTimer_2 ?_
  refine hv_geti (ci := 1) (C := RX1) (T := TX1) (N := 9) hx hb hts (tw_cs in_X1) hown hK hT (cs_kN hS) (by decide) rfl 4 (by decide) (hts _ (tw_c tw_32)) rfl dX3_setTimer_5 ?_
  refine lv_topi (fun g1 eg1 => ?_)
  refine lv_iload_n hx hb dX3_setTimer_8 rfl (lv_at hl 2 rfl) ?_
  refine lv_iadd hx hb dX3_setTimer_9 ?_
  refine hv_puti (ci := 2) (C := RX2) (T := TX2) (N := 10) hx hb hts (tw_cs in_X2) tyX2 tyX2_ok nmX2 hown hK hT (cs_ks hS hi) (by decide) rfl 8 (by decide) (hts _ (tw_c tw_89)) rfl rfl (x := (g1 + (nI q))) rfl rfl dX3_setTimer_10 (fun H locs hT => ?_)
  have hI := ci_putT (i := i) (x := (g1 + (nI q))) (Or.inr ⟨t + q, by omega, by rw [eg1, ht, nI_add]⟩) hI hi
  have hS := hI.1
  refine lv_aload_n hx hb dX3_setTimer_13 rfl (lv_at hl 1 rfl) ?_
  refine lv_aload_n hx hb dX3_setTimer_14 rfl (lv_at hl 0 rfl) ?_
  refine hv_gets (ci := 3) (C := RX3) (T := TX3) (N := 12) hx hb hts (tw_cs in_X3) hown hK hT (cs_kX hS) (by decide) rfl 1 (by decide) (hts _ (tw_c tw_48)) rfl (x := (fa 2)) (cs_pN hS) dX3_setTimer_15 ?_
  refine hv_calli (va_runV (As := []) (rest := [.ref (fa (16 + i))]) ⟨hx, hb, hml, hown, hts⟩ (c_nextOrder l D tc hI) (cwV 0 hts (tw_V tw_170 tw_171 tw_172 tw_2 tw_173) rfl rfl rfl (by decide +kernel) ⟨Nat.le_of_ble_eq_true rfl, Nat.le_of_ble_eq_true rfl⟩) (hv_preV (ci := 1) hK hT.1 (cs_kN hS) (by decide) rfl rfl) rfl rfl hl.1 rfl (lv_room (Nat.le_of_ble_eq_true rfl)) dX3_setTimer_18 ⟨Nat.le_of_ble_eq_true rfl, Nat.le_of_ble_eq_true rfl⟩) hT (fun r4 v2 H locs hp3 hT => ?_)
  have hI := hp3
  have hS := hI.1
  refine hv_puti (ci := 2) (C := RX2) (T := TX2) (N := 10) hx hb hts (tw_cs in_X2) tyX2 tyX2_ok nmX2 hown hK hT (cs_ks hS hi) (by decide) rfl 9 (by decide) (hts _ (tw_c tw_91)) rfl rfl (x := r4) rfl rfl dX3_setTimer_21 (fun H locs hT => ?_)
  have hI := ci_put (f := 209) (a := (fa (16 + i))) (x := r4) rfl hI
  have hS := hI.1
  exact hret _ (hv_si v2 209 (fa (16 + i)) r4) _ _ _ _ _ dX3_setTimer_24 hT hI (by decide) (by decide)
