theorem cs_all {n i : Nat} {r : Int32} (hr : r = (((1 : Int32) <<< (nI n &&& 31)) - 1) &&& (((1 : Int32) <<< (nI i &&& 31)) ^^^ (-1))) (hn : n ≤ 8) (hi : i < 8) : ∀ t, t < 8 → ¬ hb_ r (nI t) = 0 → t < n := by
  have key : ∀ n, n < 9 → ∀ i, i < 8 → ∀ t, t < 8 → ¬ hb_ ((((1 : Int32) <<< (nI n &&& 31)) - 1) &&& (((1 : Int32) <<< (nI i &&& 31)) ^^^ (-1))) (nI t) = 0 → t < n := by decide +kernel
  subst hr
  exact key n (by omega) i hi
theorem cs_bit {n j : Nat} (hj8 : j < 8) (hj : j < n) : ∀ t, t < 8 → ¬ hb_ ((1 : Int32) <<< (nI j &&& 31)) (nI t) = 0 → t < n := by
  have key : ∀ j, j < 8 → ∀ t, t < 8 → ¬ hb_ ((1 : Int32) <<< (nI j &&& 31)) (nI t) = 0 → t = j := by decide +kernel
  intro t ht h
  rw [key j hj8 t ht h]
  exact hj

set_option maxHeartbeats 4000000 in
set_option maxRecDepth 100000 in
theorem c_decide (l : Launch) (D : va_G) (tc : Nat → ClassId) {fa : Nat → Nat} {n : Nat} {w u : Nat → Nat} {b : Nat} {d : Nat → Nat → Nat} {g : Nat × Nat} {k : Nat} {hd : List Nat} {v : hv_V} (hI : ci_I fa n w u b d g k hd v) {i : Nat} (hi : i < n) (hh : hd.length ≤ 1) (x : Int32) : Met l yX3_decide (Cond.code yX3_decide cX3_decide 4 none :: lw_B) ({ frames := 3, cells := 8, slots := 64, locals := 67 }) (va_Pc [.ref (fa 0), .int (nI i), .int x] (hv_Pre D tc v)) (va_Qv (fun (v1 : hv_V) => ∃ k1, ci_I fa n w u b d g k1 hd v1) (hv_Post D tc (hv_A v)) (hv_A v)) (8) (64) (hv_A v) := by
  refine hv_metv l (by decide) (Nat.le_of_ble_eq_true rfl) ?_
  intro p e s m args below meth c Q X hret hK hz H locs ls hT hl
  obtain ⟨hx, hb, hml, hts, hown, hin0⟩ := X
  have hown : s.vm.findClass "CommitSites" = some m.cls := hown
  have hl : lv_has ls 4 [(0, .ref (fa 0)), (1, .int (nI i)), (2, .int x)] := hl
  have hS := hI.1
  refine lv_aload_n hx hb dX3_decide_0 rfl (lv_at hl 0 rfl) ?_
  refine hv_gets (ci := 3) (C := RX3) (T := TX3) (N := 12) hx hb hts (tw_cs in_X3) hown hK hT (cs_kX hS) (by decide) rfl 0 (by decide) (hts _ (tw_c tw_47)) rfl (x := (fa 1)) (cs_pS hS) dX3_decide_1 ?_
  refine lv_iload_n hx hb dX3_decide_4 rfl (lv_at hl 1 rfl) ?_
  refine hv_alds (t := 0) hx hb hK hT (cs_kS hS) rfl rfl (cs_in8 (cs_lt8 hS hi)) (x := (fa (16 + i))) (cs_qS hS hi) dX3_decide_5 ?_
  refine lv_astore_n (lv' := [(3, _), (0, _), (1, _), (2, _)]) hx hb dX3_decide_6 rfl hl (by decide) rfl (fun ls hl => ?_)
  refine lv_aload_n hx hb dX3_decide_7 rfl (lv_at hl 1 rfl) ?_
  refine lv_aload_n hx hb dX3_decide_8 rfl (lv_at hl 0 rfl) ?_
  refine lv_iload_n hx hb dX3_decide_9 rfl (lv_at hl 3 rfl) ?_
  refine hv_callv (va_runV (As := [.ref (fa (16 + i)), .int x]) (rest := []) ⟨hx, hb, hml, hown, hts⟩ (c_become l D tc hI hi x) (cwV 2 hts (tw_V tw_124 tw_125 tw_486 tw_1 tw_126) rfl rfl rfl (by decide +kernel) ⟨Nat.le_of_ble_eq_true rfl, Nat.le_of_ble_eq_true rfl⟩) (hv_preV (ci := 3) hK hT.1 (cs_kX hS) (by decide) rfl rfl) rfl rfl hl.1 rfl (lv_room (Nat.le_of_ble_eq_true rfl)) dX3_decide_10 ⟨by show 0 + 0 ≤ 8; omega, by show 0 + 0 ≤ 64; omega⟩) hT (fun v1 H locs hp2 hT => ?_)
  have hI := hp2
  have hS := hI.1
  refine lv_aload_n hx hb dX3_decide_13 rfl (lv_at hl 0 rfl) ?_
  refine lv_iconst (v := 0) hx hb dX3_decide_14 (by decide) ?_
  refine hv_puti (ci := 2) (C := RX2) (T := TX2) (N := 10) hx hb hts (tw_cs in_X2) tyX2 tyX2_ok nmX2 hown hK hT (cs_ks hS hi) (by decide) rfl 6 (by decide) (hts _ (tw_c tw_85)) rfl rfl (x := 0) rfl rfl dX3_decide_15 (fun H locs hT => ?_)
  have hI := ci_put (f := 206) (a := (fa (16 + i))) (x := 0) rfl hI
  have hS := hI.1
  refine lv_aload_n hx hb dX3_decide_18 rfl (lv_at hl 1 rfl) ?_
  refine hv_gets (ci := 3) (C := RX3) (T := TX3) (N := 12) hx hb hts (tw_cs in_X3) hown hK hT (cs_kX hS) (by decide) rfl 1 (by decide) (hts _ (tw_c tw_48)) rfl (x := (fa 2)) (cs_pN hS) dX3_decide_19 ?_
  refine lv_iload_n hx hb dX3_decide_22 rfl (lv_at hl 2 rfl) ?_
  refine lv_aload_n hx hb dX3_decide_23 rfl (lv_at hl 1 rfl) ?_
  refine lv_iload_n hx hb dX3_decide_24 rfl (lv_at hl 2 rfl) ?_
  refine hv_calli (va_runV (As := [.int (nI i)]) (rest := [.int (nI i), .ref (fa 2)]) ⟨hx, hb, hml, hown, hts⟩ (c_allBut l D tc hS hI.2.1.1 (nI i)) (cwV 1 hts (tw_V tw_131 tw_132 tw_487 tw_1 tw_133) rfl rfl rfl (by decide +kernel) ⟨Nat.le_of_ble_eq_true rfl, Nat.le_of_ble_eq_true rfl⟩) (hv_preV (ci := 3) hK hT.1 (cs_kX hS) (by decide) rfl rfl) rfl rfl hl.1 rfl (lv_room (Nat.le_of_ble_eq_true rfl)) dX3_decide_25 ⟨by show 0 + 0 + 0 ≤ 8; omega, by show 0 + 0 + 0 ≤ 64; omega⟩) hT (fun r5 v3 H locs hp4 hT => ?_)
  obtain ⟨evhp4, qhp4⟩ := hp4
  rw [evhp4] at hT
  refine lv_iload_n hx hb dX3_decide_28 rfl (lv_at hl 3 rfl) ?_
  refine hv_calli (va_runS (As := [.int x]) (rest := [.int r5, .int (nI i), .ref (fa 2)]) ⟨hx, hb, hml, hown, hts⟩ (c_tidingsOf l D tc x) (va_cwS 1 hts (tw_S tw_183 tw_184 tw_1 tw_185) rfl rfl rfl (by decide +kernel) ⟨Nat.le_of_ble_eq_true rfl, Nat.le_of_ble_eq_true rfl⟩) (hv_preS hK hT.1) rfl rfl hl.1 rfl (lv_room (Nat.le_of_ble_eq_true rfl)) dX3_decide_29 ⟨by show 0 + 0 + 0 + 0 ≤ 8; omega, by show 0 + 0 + 0 + 0 ≤ 64; omega⟩) hT (fun r8 v6 H locs hp7 hT => ?_)
  rw [hp7] at hT
  refine lv_iconst (v := 0) hx hb dX3_decide_32 (by decide) ?_
  refine lv_iconst (v := 0) hx hb dX3_decide_33 (by decide) ?_
  refine hv_callv (va_runV (As := [.int (nI i), .int r5, .int r8, .int 0, .int 0]) (rest := []) ⟨hx, hb, hml, hown, hts⟩ (c_send l D tc hI hi r5 r8 0 0 (cs_all qhp4 (cs_n8 hS) (cs_lt8 hS hi)) hh) (cwV 5 hts (tw_V tw_137 tw_138 tw_139 tw_2 tw_140) rfl rfl rfl (by decide +kernel) ⟨Nat.le_of_ble_eq_true rfl, Nat.le_of_ble_eq_true rfl⟩) (hv_preV (ci := 1) hK hT.1 (cs_kN hS) (by decide) rfl rfl) rfl rfl hl.1 rfl (lv_room (Nat.le_of_ble_eq_true rfl)) dX3_decide_34 ⟨by show 0 + 0 + 0 + 0 + 8 ≤ 8; omega, by show 0 + 0 + 0 + 0 + 64 ≤ 64; omega⟩) hT (fun v9 H locs hp10 hT => ?_)
  obtain ⟨_, hI⟩ := hp10
  have hS := hI.1
  exact hret _ v9 _ _ _ _ _ dX3_decide_37 hT ⟨_, hI⟩ (by show 0 + 0 + 0 + 0 + 8 ≤ 8; omega) (by show 0 + 0 + 0 + 0 + 64 ≤ 64; omega)

set_option maxHeartbeats 4000000 in
set_option maxRecDepth 100000 in
theorem c_attempt (l : Launch) (D : va_G) (tc : Nat → ClassId) {fa : Nat → Nat} {n : Nat} {w u : Nat → Nat} {b : Nat} {d : Nat → Nat → Nat} {g : Nat × Nat} {k : Nat} {hd : List Nat} {v : hv_V} (hI : ci_I fa n w u b d g k hd v) {i : Nat} (hi : i < n) (hh : hd.length ≤ 1) : Met l yX3_attempt (Cond.code yX3_attempt cX3_attempt 3 none :: lw_B) ({ frames := 3, cells := 8, slots := 64, locals := 67 }) (va_Pc [.ref (fa 0), .int (nI i)] (hv_Pre D tc v)) (va_Qv (fun (v1 : hv_V) => ∃ k1, ci_I fa n w u b d g k1 hd v1) (hv_Post D tc (hv_A v)) (hv_A v)) (8) (64) (hv_A v) := by
  refine hv_metv l (by decide) (Nat.le_of_ble_eq_true rfl) ?_
  intro p e s m args below meth c Q X hret hK hz H locs ls hT hl
  obtain ⟨hx, hb, hml, hts, hown, hin0⟩ := X
  have hown : s.vm.findClass "CommitSites" = some m.cls := hown
  have hl : lv_has ls 3 [(0, .ref (fa 0)), (1, .int (nI i))] := hl
  have hS := hI.1
  refine lv_aload_n hx hb dX3_attempt_0 rfl (lv_at hl 0 rfl) ?_
  refine hv_gets (ci := 3) (C := RX3) (T := TX3) (N := 12) hx hb hts (tw_cs in_X3) hown hK hT (cs_kX hS) (by decide) rfl 0 (by decide) (hts _ (tw_c tw_47)) rfl (x := (fa 1)) (cs_pS hS) dX3_attempt_1 ?_
  refine lv_iload_n hx hb dX3_attempt_4 rfl (lv_at hl 1 rfl) ?_
  refine hv_alds (t := 0) hx hb hK hT (cs_kS hS) rfl rfl (cs_in8 (cs_lt8 hS hi)) (x := (fa (16 + i))) (cs_qS hS hi) dX3_attempt_5 ?_
  refine lv_astore_n (lv' := [(2, _), (0, _), (1, _)]) hx hb dX3_attempt_6 rfl hl (by decide) rfl (fun ls hl => ?_)
  refine lv_aload_n hx hb dX3_attempt_7 rfl (lv_at hl 0 rfl) ?_
  refine lv_dup hx hb dX3_attempt_8 rfl ?_
  refine hv_geti (ci := 2) (C := RX2) (T := TX2) (N := 10) hx hb hts (tw_cs in_X2) hown hK hT (cs_ks hS hi) (by decide) rfl 7 (by decide) (hts _ (tw_c tw_87)) rfl dX3_attempt_9 ?_
  refine lv_topi (fun g1 eg1 => ?_)
  refine lv_iconst (v := 1) hx hb dX3_attempt_12 (by decide) ?_
  refine lv_iadd hx hb dX3_attempt_13 ?_
  refine hv_puti (ci := 2) (C := RX2) (T := TX2) (N := 10) hx hb hts (tw_cs in_X2) tyX2 tyX2_ok nmX2 hown hK hT (cs_ks hS hi) (by decide) rfl 7 (by decide) (hts _ (tw_c tw_87)) rfl rfl (x := (g1 + 1)) rfl rfl dX3_attempt_14 (fun H locs hT => ?_)
  have hI := ci_put (f := 207) (a := (fa (16 + i))) (x := (g1 + 1)) rfl hI
  have hS := hI.1
  refine lv_aload_n hx hb dX3_attempt_17 rfl (lv_at hl 0 rfl) ?_
  refine lv_iconst (v := 3) hx hb dX3_attempt_18 (by decide) ?_
  refine hv_puti (ci := 2) (C := RX2) (T := TX2) (N := 10) hx hb hts (tw_cs in_X2) tyX2 tyX2_ok nmX2 hown hK hT (cs_ks hS hi) (by decide) rfl 6 (by decide) (hts _ (tw_c tw_85)) rfl rfl (x := 3) rfl rfl dX3_attempt_19 (fun H locs hT => ?_)
  have hI := ci_put (f := 206) (a := (fa (16 + i))) (x := 3) rfl hI
  have hS := hI.1
  refine lv_aload_n hx hb dX3_attempt_22 rfl (lv_at hl 0 rfl) ?_
  refine lv_iconst (v := 1) hx hb dX3_attempt_23 (by decide) ?_
  refine lv_iload_n hx hb dX3_attempt_24 rfl (lv_at hl 2 rfl) ?_
  refine lv_ishl hx hb dX3_attempt_25 ?_
  refine hv_puti (ci := 2) (C := RX2) (T := TX2) (N := 10) hx hb hts (tw_cs in_X2) tyX2 tyX2_ok nmX2 hown hK hT (cs_ks hS hi) (by decide) rfl 2 (by decide) (hts _ (tw_c tw_77)) rfl rfl (x := (1 <<< ((nI i) &&& 31))) rfl rfl dX3_attempt_26 (fun H locs hT => ?_)
  have hI := ci_put (f := 202) (a := (fa (16 + i))) (x := (1 <<< ((nI i) &&& 31))) rfl hI
  have hS := hI.1
  refine lv_aload_n hx hb dX3_attempt_29 rfl (lv_at hl 0 rfl) ?_
  refine hv_gets (ci := 2) (C := RX2) (T := TX2) (N := 10) hx hb hts (tw_cs in_X2) hown hK hT (cs_ks hS hi) (by decide) rfl 1 (by decide) (hts _ (tw_c tw_75)) rfl (x := (fa (24 + i))) (cs_po hS hi) dX3_attempt_30 ?_
  refine lv_iload_n hx hb dX3_attempt_33 rfl (lv_at hl 2 rfl) ?_
  refine lv_aload_n hx hb dX3_attempt_34 rfl (lv_at hl 0 rfl) ?_
  refine hv_geti (ci := 2) (C := RX2) (T := TX2) (N := 10) hx hb hts (tw_cs in_X2) hown hK hT (cs_ks hS hi) (by decide) rfl 4 (by decide) (hts _ (tw_c tw_81)) rfl dX3_attempt_35 ?_
  refine lv_topi (fun g2 eg2 => ?_)
  refine hv_iast (x := g2) hx hb hK hT (cs_ko hS hi) (cs_in8 (cs_lt8 hS hi)) dX3_attempt_38 (fun H locs hT => ?_)
  have hI := ci_puto (j := ((nI i) : Int32).toNatClampNeg) (x := g2) hi hI
  have hS := hI.1
  refine lv_aload_n hx hb dX3_attempt_39 rfl (lv_at hl 1 rfl) ?_
  refine hv_gets (ci := 3) (C := RX3) (T := TX3) (N := 12) hx hb hts (tw_cs in_X3) hown hK hT (cs_kX hS) (by decide) rfl 1 (by decide) (hts _ (tw_c tw_48)) rfl (x := (fa 2)) (cs_pN hS) dX3_attempt_40 ?_
  refine lv_iload_n hx hb dX3_attempt_43 rfl (lv_at hl 2 rfl) ?_
  refine lv_aload_n hx hb dX3_attempt_44 rfl (lv_at hl 1 rfl) ?_
  refine lv_iload_n hx hb dX3_attempt_45 rfl (lv_at hl 2 rfl) ?_
  refine hv_calli (va_runV (As := [.int (nI i)]) (rest := [.int (nI i), .ref (fa 2)]) ⟨hx, hb, hml, hown, hts⟩ (c_allBut l D tc hS hI.2.1.1 (nI i)) (cwV 1 hts (tw_V tw_131 tw_132 tw_487 tw_1 tw_133) rfl rfl rfl (by decide +kernel) ⟨Nat.le_of_ble_eq_true rfl, Nat.le_of_ble_eq_true rfl⟩) (hv_preV (ci := 3) hK hT.1 (cs_kX hS) (by decide) rfl rfl) rfl rfl hl.1 rfl (lv_room (Nat.le_of_ble_eq_true rfl)) dX3_attempt_46 ⟨by show 0 + 0 ≤ 8; omega, by show 0 + 0 ≤ 64; omega⟩) hT (fun r5 v3 H locs hp4 hT => ?_)
  obtain ⟨evhp4, qhp4⟩ := hp4
  rw [evhp4] at hT
  refine lv_iconst (v := 4) hx hb dX3_attempt_49 (by decide) ?_
  refine lv_aload_n hx hb dX3_attempt_50 rfl (lv_at hl 0 rfl) ?_
  refine hv_geti (ci := 2) (C := RX2) (T := TX2) (N := 10) hx hb hts (tw_cs in_X2) hown hK hT (cs_ks hS hi) (by decide) rfl 7 (by decide) (hts _ (tw_c tw_87)) rfl dX3_attempt_51 ?_
  refine lv_topi (fun g6 eg6 => ?_)
  refine lv_iconst (v := 0) hx hb dX3_attempt_54 (by decide) ?_
  refine hv_callv (va_runV (As := [.int (nI i), .int r5, .int 4, .int g6, .int 0]) (rest := []) ⟨hx, hb, hml, hown, hts⟩ (c_send l D tc hI hi r5 4 g6 0 (cs_all qhp4 (cs_n8 hS) (cs_lt8 hS hi)) hh) (cwV 5 hts (tw_V tw_137 tw_138 tw_139 tw_2 tw_140) rfl rfl rfl (by decide +kernel) ⟨Nat.le_of_ble_eq_true rfl, Nat.le_of_ble_eq_true rfl⟩) (hv_preV (ci := 1) hK hT.1 (cs_kN hS) (by decide) rfl rfl) rfl rfl hl.1 rfl (lv_room (Nat.le_of_ble_eq_true rfl)) dX3_attempt_55 ⟨by show 0 + 0 + 8 ≤ 8; omega, by show 0 + 0 + 64 ≤ 64; omega⟩) hT (fun v7 H locs hp8 hT => ?_)
  obtain ⟨_, hI⟩ := hp8
  have hS := hI.1
  refine lv_aload_n hx hb dX3_attempt_58 rfl (lv_at hl 1 rfl) ?_
  refine lv_aload_n hx hb dX3_attempt_59 rfl (lv_at hl 0 rfl) ?_
  refine lv_aload_n hx hb dX3_attempt_60 rfl (lv_at hl 1 rfl) ?_
  refine hv_geti (ci := 3) (C := RX3) (T := TX3) (N := 12) hx hb hts (tw_cs in_X3) hown hK hT (cs_kX hS) (by decide) rfl 7 (by decide) (hts _ (tw_c tw_54)) rfl dX3_attempt_61 ?_
  refine lv_topi (fun g9 eg9 => ?_)
  obtain ⟨q10, h5q10, h100q10, hq10⟩ := hI.2.1.2.2.2.1
  have eg9 : g9 = (nI q10) := by rw [eg9]; exact hq10
  subst eg9
  refine hv_callv (va_runV (As := [.ref (fa (16 + i)), .int (nI q10)]) (rest := []) ⟨hx, hb, hml, hown, hts⟩ (c_setTimer l D tc hI hi (q := q10) (by have h8 := cs_lt8 hS hi; omega)) (cwV 2 hts (tw_V tw_167 tw_168 tw_489 tw_1 tw_169) rfl rfl rfl (by decide +kernel) ⟨Nat.le_of_ble_eq_true rfl, Nat.le_of_ble_eq_true rfl⟩) (hv_preV (ci := 3) hK hT.1 (cs_kX hS) (by decide) rfl rfl) rfl rfl hl.1 rfl (lv_room (Nat.le_of_ble_eq_true rfl)) dX3_attempt_64 ⟨by show 0 + 0 + 8 + 0 ≤ 8; omega, by show 0 + 0 + 64 + 0 ≤ 64; omega⟩) hT (fun v11 H locs hp12 hT => ?_)
  have hI := hp12
  have hS := hI.1
  exact hret _ v11 _ _ _ _ _ dX3_attempt_67 hT ⟨_, hI⟩ (by show 0 + 0 + 8 + 0 ≤ 8; omega) (by show 0 + 0 + 64 + 0 ≤ 64; omega)

set_option maxHeartbeats 4000000 in
set_option maxRecDepth 100000 in
theorem c_lead (l : Launch) (D : va_G) (tc : Nat → ClassId) {fa : Nat → Nat} {n : Nat} {w u : Nat → Nat} {b : Nat} {d : Nat → Nat → Nat} {g : Nat × Nat} {k : Nat} {hd : List Nat} {v : hv_V} (hI : ci_I fa n w u b d g k hd v) {i : Nat} (hi : i < n) (hh : hd.length ≤ 1) (x : Int32) : Met l yX3_lead (Cond.code yX3_lead cX3_lead 5 none :: lw_B) ({ frames := 4, cells := 16, slots := 128, locals := 90 }) (va_Pc [.ref (fa 0), .int (nI i), .int x] (hv_Pre D tc v)) (va_Qv (fun (v1 : hv_V) => ∃ k1, ci_I fa n w u b d g k1 hd v1) (hv_Post D tc (hv_A v)) (hv_A v)) (16) (128) (hv_A v) := by
  refine hv_metv l (by decide) (Nat.le_of_ble_eq_true rfl) ?_
  intro p e s m args below meth c Q X hret hK hz H locs ls hT hl
  obtain ⟨hx, hb, hml, hts, hown, hin0⟩ := X
  have hown : s.vm.findClass "CommitSites" = some m.cls := hown
  have hl : lv_has ls 5 [(0, .ref (fa 0)), (1, .int (nI i)), (2, .int x)] := hl
  have hS := hI.1
  refine lv_aload_n hx hb dX3_lead_0 rfl (lv_at hl 0 rfl) ?_
  refine hv_gets (ci := 3) (C := RX3) (T := TX3) (N := 12) hx hb hts (tw_cs in_X3) hown hK hT (cs_kX hS) (by decide) rfl 0 (by decide) (hts _ (tw_c tw_47)) rfl (x := (fa 1)) (cs_pS hS) dX3_lead_1 ?_
  refine lv_iload_n hx hb dX3_lead_4 rfl (lv_at hl 1 rfl) ?_
  refine hv_alds (t := 0) hx hb hK hT (cs_kS hS) rfl rfl (cs_in8 (cs_lt8 hS hi)) (x := (fa (16 + i))) (cs_qS hS hi) dX3_lead_5 ?_
  refine lv_astore_n (lv' := [(3, _), (0, _), (1, _), (2, _)]) hx hb dX3_lead_6 rfl hl (by decide) rfl (fun ls hl => ?_)
  refine lv_iload_n hx hb dX3_lead_7 rfl (lv_at hl 3 rfl) ?_
  refine lv_iconst (v := 2) hx hb dX3_lead_8 (by decide) ?_
  refine lv_icmp_ne (tgt := 16) hx hb dX3_lead_9 (by decide) (fun c9 => ?_) (fun c9 => ?_)
  · skip
    refine lv_iconst (v := 0) hx hb dX3_lead_16 (by decide) ?_
    refine lv_istore (lv' := [(4, _), (3, _), (0, _), (1, _), (2, _)]) hx hb dX3_lead_17 hl (by decide) rfl (fun ls hl => ?_)
    refine lv_aload_n hx hb dX3_lead_19 rfl (lv_at hl 1 rfl) ?_
    refine hv_geti (ci := 2) (C := RX2) (T := TX2) (N := 10) hx hb hts (tw_cs in_X2) hown hK hT (cs_ks hS hi) (by decide) rfl 4 (by decide) (hts _ (tw_c tw_81)) rfl dX3_lead_20 ?_
    refine lv_topi (fun g1 eg1 => ?_)
    refine lv_iconst (v := 1) hx hb dX3_lead_23 (by decide) ?_
    refine lv_icmp_ne (tgt := 33) hx hb dX3_lead_24 (by decide) (fun c24 => ?_) (fun c24 => ?_)
    · skip
      refine lv_aload_n hx hb dX3_lead_33 rfl (lv_at hl 1 rfl) ?_
      refine lv_iload hx hb dX3_lead_34 (lv_at hl 0 rfl) ?_
      refine lv_if_eq (tgt := 43) hx hb dX3_lead_36 (by decide) (fun c36 => ?_) (fun c36 => ?_)
      · skip
        refine lv_iconst (v := 4) hx hb dX3_lead_43 (by decide) ?_
        refine hv_puti (ci := 2) (C := RX2) (T := TX2) (N := 10) hx hb hts (tw_cs in_X2) tyX2 tyX2_ok nmX2 hown hK hT (cs_ks hS hi) (by decide) rfl 6 (by decide) (hts _ (tw_c tw_85)) rfl rfl (x := 4) rfl rfl dX3_lead_44 (fun H locs hT => ?_)
        have hI := ci_put (f := 206) (a := (fa (16 + i))) (x := 4) rfl hI
        have hS := hI.1
        refine lv_aload_n hx hb dX3_lead_47 rfl (lv_at hl 1 rfl) ?_
        refine lv_aload_n hx hb dX3_lead_48 rfl (lv_at hl 1 rfl) ?_
        refine hv_geti (ci := 2) (C := RX2) (T := TX2) (N := 10) hx hb hts (tw_cs in_X2) hown hK hT (cs_ks hS hi) (by decide) rfl 4 (by decide) (hts _ (tw_c tw_81)) rfl dX3_lead_49 ?_
        refine lv_topi (fun g2 eg2 => ?_)
        refine lv_iload_n hx hb dX3_lead_52 rfl (lv_at hl 4 rfl) ?_
        refine lv_icmp_ne (tgt := 62) hx hb dX3_lead_53 (by decide) (fun c53 => ?_) (fun c53 => ?_)
        · skip
          refine lv_iconst (v := 0) hx hb dX3_lead_62 (by decide) ?_
          refine hv_puti (ci := 2) (C := RX2) (T := TX2) (N := 10) hx hb hts (tw_cs in_X2) tyX2 tyX2_ok nmX2 hown hK hT (cs_ks hS hi) (by decide) rfl 2 (by decide) (hts _ (tw_c tw_77)) rfl rfl (x := 0) rfl rfl dX3_lead_63 (fun H locs hT => ?_)
          have hI := ci_put (f := 202) (a := (fa (16 + i))) (x := 0) rfl hI
          have hS := hI.1
          refine lv_aload_n hx hb dX3_lead_66 rfl (lv_at hl 2 rfl) ?_
          refine hv_gets (ci := 3) (C := RX3) (T := TX3) (N := 12) hx hb hts (tw_cs in_X3) hown hK hT (cs_kX hS) (by decide) rfl 1 (by decide) (hts _ (tw_c tw_48)) rfl (x := (fa 2)) (cs_pN hS) dX3_lead_67 ?_
          refine lv_iload_n hx hb dX3_lead_70 rfl (lv_at hl 3 rfl) ?_
          refine lv_aload_n hx hb dX3_lead_71 rfl (lv_at hl 2 rfl) ?_
          refine lv_iload_n hx hb dX3_lead_72 rfl (lv_at hl 3 rfl) ?_
          refine hv_calli (va_runV (As := [.int (nI i)]) (rest := [.int (nI i), .ref (fa 2)]) ⟨hx, hb, hml, hown, hts⟩ (c_allBut l D tc hS hI.2.1.1 (nI i)) (cwV 1 hts (tw_V tw_131 tw_132 tw_487 tw_1 tw_133) rfl rfl rfl (by decide +kernel) ⟨Nat.le_of_ble_eq_true rfl, Nat.le_of_ble_eq_true rfl⟩) (hv_preV (ci := 3) hK hT.1 (cs_kX hS) (by decide) rfl rfl) rfl rfl hl.1 rfl (lv_room (Nat.le_of_ble_eq_true rfl)) dX3_lead_73 ⟨by show 0 + 0 ≤ 16; omega, by show 0 + 0 ≤ 128; omega⟩) hT (fun r5 v3 H locs hp4 hT => ?_)
          obtain ⟨evhp4, qhp4⟩ := hp4
          rw [evhp4] at hT
          refine lv_iload hx hb dX3_lead_76 (lv_at hl 0 rfl) ?_
          refine lv_if_eq (tgt := 86) hx hb dX3_lead_78 (by decide) (fun c78 => ?_) (fun c78 => ?_)
          · skip
            refine lv_bipush (v := 7) hx hb dX3_lead_86 (by decide) ?_
            refine lv_aload_n hx hb dX3_lead_88 rfl (lv_at hl 1 rfl) ?_
            refine hv_geti (ci := 2) (C := RX2) (T := TX2) (N := 10) hx hb hts (tw_cs in_X2) hown hK hT (cs_ks hS hi) (by decide) rfl 7 (by decide) (hts _ (tw_c tw_87)) rfl dX3_lead_89 ?_
            refine lv_topi (fun g6 eg6 => ?_)
            refine lv_iconst (v := 0) hx hb dX3_lead_92 (by decide) ?_
            refine hv_callv (va_runV (As := [.int (nI i), .int r5, .int 7, .int g6, .int 0]) (rest := []) ⟨hx, hb, hml, hown, hts⟩ (c_send l D tc hI hi r5 7 g6 0 (cs_all qhp4 (cs_n8 hS) (cs_lt8 hS hi)) hh) (cwV 5 hts (tw_V tw_137 tw_138 tw_139 tw_2 tw_140) rfl rfl rfl (by decide +kernel) ⟨Nat.le_of_ble_eq_true rfl, Nat.le_of_ble_eq_true rfl⟩) (hv_preV (ci := 1) hK hT.1 (cs_kN hS) (by decide) rfl rfl) rfl rfl hl.1 rfl (lv_room (Nat.le_of_ble_eq_true rfl)) dX3_lead_93 ⟨by show 0 + 0 + 8 ≤ 16; omega, by show 0 + 0 + 64 ≤ 128; omega⟩) hT (fun v7 H locs hp8 hT => ?_)
            obtain ⟨_, hI⟩ := hp8
            have hS := hI.1
            refine lv_aload_n hx hb dX3_lead_96 rfl (lv_at hl 2 rfl) ?_
            refine lv_aload_n hx hb dX3_lead_97 rfl (lv_at hl 1 rfl) ?_
            refine lv_aload_n hx hb dX3_lead_98 rfl (lv_at hl 2 rfl) ?_
            refine hv_geti (ci := 3) (C := RX3) (T := TX3) (N := 12) hx hb hts (tw_cs in_X3) hown hK hT (cs_kX hS) (by decide) rfl 7 (by decide) (hts _ (tw_c tw_54)) rfl dX3_lead_99 ?_
            refine lv_topi (fun g9 eg9 => ?_)
            obtain ⟨q10, h5q10, h100q10, hq10⟩ := hI.2.1.2.2.2.1
            have eg9 : g9 = (nI q10) := by rw [eg9]; exact hq10
            subst eg9
            refine hv_callv (va_runV (As := [.ref (fa (16 + i)), .int (nI q10)]) (rest := []) ⟨hx, hb, hml, hown, hts⟩ (c_setTimer l D tc hI hi (q := q10) (by have h8 := cs_lt8 hS hi; omega)) (cwV 2 hts (tw_V tw_167 tw_168 tw_489 tw_1 tw_169) rfl rfl rfl (by decide +kernel) ⟨Nat.le_of_ble_eq_true rfl, Nat.le_of_ble_eq_true rfl⟩) (hv_preV (ci := 3) hK hT.1 (cs_kX hS) (by decide) rfl rfl) rfl rfl hl.1 rfl (lv_room (Nat.le_of_ble_eq_true rfl)) dX3_lead_102 ⟨by show 0 + 0 + 8 + 0 ≤ 16; omega, by show 0 + 0 + 64 + 0 ≤ 128; omega⟩) hT (fun v11 H locs hp12 hT => ?_)
            have hI := hp12
            have hS := hI.1
            refine lv_aload_n hx hb dX3_lead_105 rfl (lv_at hl 2 rfl) ?_
            refine lv_aload_n hx hb dX3_lead_106 rfl (lv_at hl 1 rfl) ?_
            refine hv_calli (va_runV (As := [.ref (fa (16 + i))]) (rest := []) ⟨hx, hb, hml, hown, hts⟩ (c_hasQuorum l D tc hS hI.2.1.1 hi) (cwV 1 hts (tw_V tw_177 tw_178 tw_491 tw_1 tw_179) rfl rfl rfl (by decide +kernel) ⟨Nat.le_of_ble_eq_true rfl, Nat.le_of_ble_eq_true rfl⟩) (hv_preV (ci := 3) hK hT.1 (cs_kX hS) (by decide) rfl rfl) rfl rfl hl.1 rfl (lv_room (Nat.le_of_ble_eq_true rfl)) dX3_lead_107 ⟨by show 0 + 0 + 8 + 0 + 0 ≤ 16; omega, by show 0 + 0 + 64 + 0 + 0 ≤ 128; omega⟩) hT (fun r15 v13 H locs hp14 hT => ?_)
            rw [hp14] at hT
            refine lv_if_eq (tgt := 128) hx hb dX3_lead_110 (by decide) (fun c110 => ?_) (fun c110 => ?_)
            · skip
              exact hret _ v11 _ _ _ _ _ dX3_lead_128 hT ⟨_, hI⟩ (by show 0 + 0 + 8 + 0 + 0 ≤ 16; omega) (by show 0 + 0 + 64 + 0 + 0 ≤ 128; omega)
            · skip
              refine lv_aload_n hx hb dX3_lead_113 rfl (lv_at hl 2 rfl) ?_
              refine lv_iload_n hx hb dX3_lead_114 rfl (lv_at hl 3 rfl) ?_
              refine lv_iload hx hb dX3_lead_115 (lv_at hl 0 rfl) ?_
              refine lv_if_eq (tgt := 124) hx hb dX3_lead_117 (by decide) (fun c117 => ?_) (fun c117 => ?_)
              · skip
                refine lv_iconst (v := 5) hx hb dX3_lead_124 (by decide) ?_
                refine hv_callv (va_runV (As := [.int (nI i), .int 5]) (rest := []) ⟨hx, hb, hml, hown, hts⟩ (c_decide l D tc hI hi hh 5) (cwV 2 hts (tw_V tw_180 tw_181 tw_492 tw_1 tw_182) rfl rfl rfl (by decide +kernel) ⟨Nat.le_of_ble_eq_true rfl, Nat.le_of_ble_eq_true rfl⟩) (hv_preV (ci := 3) hK hT.1 (cs_kX hS) (by decide) rfl rfl) rfl rfl hl.1 rfl (lv_room (Nat.le_of_ble_eq_true rfl)) dX3_lead_125 ⟨by show 0 + 0 + 8 + 0 + 0 + 8 ≤ 16; omega, by show 0 + 0 + 64 + 0 + 0 + 64 ≤ 128; omega⟩) hT (fun v16 H locs hp17 hT => ?_)
                obtain ⟨_, hI⟩ := hp17
                have hS := hI.1
                exact hret _ v16 _ _ _ _ _ dX3_lead_128 hT ⟨_, hI⟩ (by show 0 + 0 + 8 + 0 + 0 + 8 ≤ 16; omega) (by show 0 + 0 + 64 + 0 + 0 + 64 ≤ 128; omega)
              · skip
                refine lv_iconst (v := 4) hx hb dX3_lead_120 (by decide) ?_
                refine lv_goto (tgt := 125) hx hb dX3_lead_121 (by decide) ?_
                refine hv_callv (va_runV (As := [.int (nI i), .int 4]) (rest := []) ⟨hx, hb, hml, hown, hts⟩ (c_decide l D tc hI hi hh 4) (cwV 2 hts (tw_V tw_180 tw_181 tw_492 tw_1 tw_182) rfl rfl rfl (by decide +kernel) ⟨Nat.le_of_ble_eq_true rfl, Nat.le_of_ble_eq_true rfl⟩) (hv_preV (ci := 3) hK hT.1 (cs_kX hS) (by decide) rfl rfl) rfl rfl hl.1 rfl (lv_room (Nat.le_of_ble_eq_true rfl)) dX3_lead_125 ⟨by show 0 + 0 + 8 + 0 + 0 + 8 ≤ 16; omega, by show 0 + 0 + 64 + 0 + 0 + 64 ≤ 128; omega⟩) hT (fun v18 H locs hp19 hT => ?_)
                obtain ⟨_, hI⟩ := hp19
                have hS := hI.1
                exact hret _ v18 _ _ _ _ _ dX3_lead_128 hT ⟨_, hI⟩ (by show 0 + 0 + 8 + 0 + 0 + 8 ≤ 16; omega) (by show 0 + 0 + 64 + 0 + 0 + 64 ≤ 128; omega)
          · skip
            refine lv_bipush (v := 6) hx hb dX3_lead_81 (by decide) ?_
            refine lv_goto (tgt := 88) hx hb dX3_lead_83 (by decide) ?_
            refine lv_aload_n hx hb dX3_lead_88 rfl (lv_at hl 1 rfl) ?_
            refine hv_geti (ci := 2) (C := RX2) (T := TX2) (N := 10) hx hb hts (tw_cs in_X2) hown hK hT (cs_ks hS hi) (by decide) rfl 7 (by decide) (hts _ (tw_c tw_87)) rfl dX3_lead_89 ?_
            refine lv_topi (fun g20 eg20 => ?_)
            refine lv_iconst (v := 0) hx hb dX3_lead_92 (by decide) ?_
            refine hv_callv (va_runV (As := [.int (nI i), .int r5, .int 6, .int g20, .int 0]) (rest := []) ⟨hx, hb, hml, hown, hts⟩ (c_send l D tc hI hi r5 6 g20 0 (cs_all qhp4 (cs_n8 hS) (cs_lt8 hS hi)) hh) (cwV 5 hts (tw_V tw_137 tw_138 tw_139 tw_2 tw_140) rfl rfl rfl (by decide +kernel) ⟨Nat.le_of_ble_eq_true rfl, Nat.le_of_ble_eq_true rfl⟩) (hv_preV (ci := 1) hK hT.1 (cs_kN hS) (by decide) rfl rfl) rfl rfl hl.1 rfl (lv_room (Nat.le_of_ble_eq_true rfl)) dX3_lead_93 ⟨by show 0 + 0 + 8 ≤ 16; omega, by show 0 + 0 + 64 ≤ 128; omega⟩) hT (fun v21 H locs hp22 hT => ?_)
            obtain ⟨_, hI⟩ := hp22
            have hS := hI.1
            refine lv_aload_n hx hb dX3_lead_96 rfl (lv_at hl 2 rfl) ?_
            refine lv_aload_n hx hb dX3_lead_97 rfl (lv_at hl 1 rfl) ?_
            refine lv_aload_n hx hb dX3_lead_98 rfl (lv_at hl 2 rfl) ?_
            refine hv_geti (ci := 3) (C := RX3) (T := TX3) (N := 12) hx hb hts (tw_cs in_X3) hown hK hT (cs_kX hS) (by decide) rfl 7 (by decide) (hts _ (tw_c tw_54)) rfl dX3_lead_99 ?_
            refine lv_topi (fun g23 eg23 => ?_)
            obtain ⟨q24, h5q24, h100q24, hq24⟩ := hI.2.1.2.2.2.1
            have eg23 : g23 = (nI q24) := by rw [eg23]; exact hq24
            subst eg23
            refine hv_callv (va_runV (As := [.ref (fa (16 + i)), .int (nI q24)]) (rest := []) ⟨hx, hb, hml, hown, hts⟩ (c_setTimer l D tc hI hi (q := q24) (by have h8 := cs_lt8 hS hi; omega)) (cwV 2 hts (tw_V tw_167 tw_168 tw_489 tw_1 tw_169) rfl rfl rfl (by decide +kernel) ⟨Nat.le_of_ble_eq_true rfl, Nat.le_of_ble_eq_true rfl⟩) (hv_preV (ci := 3) hK hT.1 (cs_kX hS) (by decide) rfl rfl) rfl rfl hl.1 rfl (lv_room (Nat.le_of_ble_eq_true rfl)) dX3_lead_102 ⟨by show 0 + 0 + 8 + 0 ≤ 16; omega, by show 0 + 0 + 64 + 0 ≤ 128; omega⟩) hT (fun v25 H locs hp26 hT => ?_)
            have hI := hp26
            have hS := hI.1
            refine lv_aload_n hx hb dX3_lead_105 rfl (lv_at hl 2 rfl) ?_
            refine lv_aload_n hx hb dX3_lead_106 rfl (lv_at hl 1 rfl) ?_
            refine hv_calli (va_runV (As := [.ref (fa (16 + i))]) (rest := []) ⟨hx, hb, hml, hown, hts⟩ (c_hasQuorum l D tc hS hI.2.1.1 hi) (cwV 1 hts (tw_V tw_177 tw_178 tw_491 tw_1 tw_179) rfl rfl rfl (by decide +kernel) ⟨Nat.le_of_ble_eq_true rfl, Nat.le_of_ble_eq_true rfl⟩) (hv_preV (ci := 3) hK hT.1 (cs_kX hS) (by decide) rfl rfl) rfl rfl hl.1 rfl (lv_room (Nat.le_of_ble_eq_true rfl)) dX3_lead_107 ⟨by show 0 + 0 + 8 + 0 + 0 ≤ 16; omega, by show 0 + 0 + 64 + 0 + 0 ≤ 128; omega⟩) hT (fun r29 v27 H locs hp28 hT => ?_)
            rw [hp28] at hT
            refine lv_if_eq (tgt := 128) hx hb dX3_lead_110 (by decide) (fun c110 => ?_) (fun c110 => ?_)
            · skip
              exact hret _ v25 _ _ _ _ _ dX3_lead_128 hT ⟨_, hI⟩ (by show 0 + 0 + 8 + 0 + 0 ≤ 16; omega) (by show 0 + 0 + 64 + 0 + 0 ≤ 128; omega)
            · skip
              refine lv_aload_n hx hb dX3_lead_113 rfl (lv_at hl 2 rfl) ?_
              refine lv_iload_n hx hb dX3_lead_114 rfl (lv_at hl 3 rfl) ?_
              refine lv_iload hx hb dX3_lead_115 (lv_at hl 0 rfl) ?_
              refine lv_if_eq (tgt := 124) hx hb dX3_lead_117 (by decide) (fun c117 => ?_) (fun c117 => ?_)
              · skip
                refine lv_iconst (v := 5) hx hb dX3_lead_124 (by decide) ?_
                refine hv_callv (va_runV (As := [.int (nI i), .int 5]) (rest := []) ⟨hx, hb, hml, hown, hts⟩ (c_decide l D tc hI hi hh 5) (cwV 2 hts (tw_V tw_180 tw_181 tw_492 tw_1 tw_182) rfl rfl rfl (by decide +kernel) ⟨Nat.le_of_ble_eq_true rfl, Nat.le_of_ble_eq_true rfl⟩) (hv_preV (ci := 3) hK hT.1 (cs_kX hS) (by decide) rfl rfl) rfl rfl hl.1 rfl (lv_room (Nat.le_of_ble_eq_true rfl)) dX3_lead_125 ⟨by show 0 + 0 + 8 + 0 + 0 + 8 ≤ 16; omega, by show 0 + 0 + 64 + 0 + 0 + 64 ≤ 128; omega⟩) hT (fun v30 H locs hp31 hT => ?_)
                obtain ⟨_, hI⟩ := hp31
                have hS := hI.1
                exact hret _ v30 _ _ _ _ _ dX3_lead_128 hT ⟨_, hI⟩ (by show 0 + 0 + 8 + 0 + 0 + 8 ≤ 16; omega) (by show 0 + 0 + 64 + 0 + 0 + 64 ≤ 128; omega)
              · skip
                refine lv_iconst (v := 4) hx hb dX3_lead_120 (by decide) ?_
                refine lv_goto (tgt := 125) hx hb dX3_lead_121 (by decide) ?_
                refine hv_callv (va_runV (As := [.int (nI i), .int 4]) (rest := []) ⟨hx, hb, hml, hown, hts⟩ (c_decide l D tc hI hi hh 4) (cwV 2 hts (tw_V tw_180 tw_181 tw_492 tw_1 tw_182) rfl rfl rfl (by decide +kernel) ⟨Nat.le_of_ble_eq_true rfl, Nat.le_of_ble_eq_true rfl⟩) (hv_preV (ci := 3) hK hT.1 (cs_kX hS) (by decide) rfl rfl) rfl rfl hl.1 rfl (lv_room (Nat.le_of_ble_eq_true rfl)) dX3_lead_125 ⟨by show 0 + 0 + 8 + 0 + 0 + 8 ≤ 16; omega, by show 0 + 0 + 64 + 0 + 0 + 64 ≤ 128; omega⟩) hT (fun v32 H locs hp33 hT => ?_)
                obtain ⟨_, hI⟩ := hp33
                have hS := hI.1
                exact hret _ v32 _ _ _ _ _ dX3_lead_128 hT ⟨_, hI⟩ (by show 0 + 0 + 8 + 0 + 0 + 8 ≤ 16; omega) (by show 0 + 0 + 64 + 0 + 0 + 64 ≤ 128; omega)
        · skip
          refine lv_iconst (v := 1) hx hb dX3_lead_56 (by decide) ?_
          refine lv_iload_n hx hb dX3_lead_57 rfl (lv_at hl 3 rfl) ?_
          refine lv_ishl hx hb dX3_lead_58 ?_
          refine lv_goto (tgt := 63) hx hb dX3_lead_59 (by decide) ?_
          refine hv_puti (ci := 2) (C := RX2) (T := TX2) (N := 10) hx hb hts (tw_cs in_X2) tyX2 tyX2_ok nmX2 hown hK hT (cs_ks hS hi) (by decide) rfl 2 (by decide) (hts _ (tw_c tw_77)) rfl rfl (x := (1 <<< ((nI i) &&& 31))) rfl rfl dX3_lead_63 (fun H locs hT => ?_)
          have hI := ci_put (f := 202) (a := (fa (16 + i))) (x := (1 <<< ((nI i) &&& 31))) rfl hI
          have hS := hI.1
          refine lv_aload_n hx hb dX3_lead_66 rfl (lv_at hl 2 rfl) ?_
          refine hv_gets (ci := 3) (C := RX3) (T := TX3) (N := 12) hx hb hts (tw_cs in_X3) hown hK hT (cs_kX hS) (by decide) rfl 1 (by decide) (hts _ (tw_c tw_48)) rfl (x := (fa 2)) (cs_pN hS) dX3_lead_67 ?_
          refine lv_iload_n hx hb dX3_lead_70 rfl (lv_at hl 3 rfl) ?_
          refine lv_aload_n hx hb dX3_lead_71 rfl (lv_at hl 2 rfl) ?_
          refine lv_iload_n hx hb dX3_lead_72 rfl (lv_at hl 3 rfl) ?_
          refine hv_calli (va_runV (As := [.int (nI i)]) (rest := [.int (nI i), .ref (fa 2)]) ⟨hx, hb, hml, hown, hts⟩ (c_allBut l D tc hS hI.2.1.1 (nI i)) (cwV 1 hts (tw_V tw_131 tw_132 tw_487 tw_1 tw_133) rfl rfl rfl (by decide +kernel) ⟨Nat.le_of_ble_eq_true rfl, Nat.le_of_ble_eq_true rfl⟩) (hv_preV (ci := 3) hK hT.1 (cs_kX hS) (by decide) rfl rfl) rfl rfl hl.1 rfl (lv_room (Nat.le_of_ble_eq_true rfl)) dX3_lead_73 ⟨by show 0 + 0 ≤ 16; omega, by show 0 + 0 ≤ 128; omega⟩) hT (fun r36 v34 H locs hp35 hT => ?_)
          obtain ⟨evhp35, qhp35⟩ := hp35
          rw [evhp35] at hT
          refine lv_iload hx hb dX3_lead_76 (lv_at hl 0 rfl) ?_
          refine lv_if_eq (tgt := 86) hx hb dX3_lead_78 (by decide) (fun c78 => ?_) (fun c78 => ?_)
          · skip
            refine lv_bipush (v := 7) hx hb dX3_lead_86 (by decide) ?_
            refine lv_aload_n hx hb dX3_lead_88 rfl (lv_at hl 1 rfl) ?_
            refine hv_geti (ci := 2) (C := RX2) (T := TX2) (N := 10) hx hb hts (tw_cs in_X2) hown hK hT (cs_ks hS hi) (by decide) rfl 7 (by decide) (hts _ (tw_c tw_87)) rfl dX3_lead_89 ?_
            refine lv_topi (fun g37 eg37 => ?_)
            refine lv_iconst (v := 0) hx hb dX3_lead_92 (by decide) ?_
            refine hv_callv (va_runV (As := [.int (nI i), .int r36, .int 7, .int g37, .int 0]) (rest := []) ⟨hx, hb, hml, hown, hts⟩ (c_send l D tc hI hi r36 7 g37 0 (cs_all qhp35 (cs_n8 hS) (cs_lt8 hS hi)) hh) (cwV 5 hts (tw_V tw_137 tw_138 tw_139 tw_2 tw_140) rfl rfl rfl (by decide +kernel) ⟨Nat.le_of_ble_eq_true rfl, Nat.le_of_ble_eq_true rfl⟩) (hv_preV (ci := 1) hK hT.1 (cs_kN hS) (by decide) rfl rfl) rfl rfl hl.1 rfl (lv_room (Nat.le_of_ble_eq_true rfl)) dX3_lead_93 ⟨by show 0 + 0 + 8 ≤ 16; omega, by show 0 + 0 + 64 ≤ 128; omega⟩) hT (fun v38 H locs hp39 hT => ?_)
            obtain ⟨_, hI⟩ := hp39
            have hS := hI.1
            refine lv_aload_n hx hb dX3_lead_96 rfl (lv_at hl 2 rfl) ?_
            refine lv_aload_n hx hb dX3_lead_97 rfl (lv_at hl 1 rfl) ?_
            refine lv_aload_n hx hb dX3_lead_98 rfl (lv_at hl 2 rfl) ?_
            refine hv_geti (ci := 3) (C := RX3) (T := TX3) (N := 12) hx hb hts (tw_cs in_X3) hown hK hT (cs_kX hS) (by decide) rfl 7 (by decide) (hts _ (tw_c tw_54)) rfl dX3_lead_99 ?_
            refine lv_topi (fun g40 eg40 => ?_)
            obtain ⟨q41, h5q41, h100q41, hq41⟩ := hI.2.1.2.2.2.1
            have eg40 : g40 = (nI q41) := by rw [eg40]; exact hq41
            subst eg40
            refine hv_callv (va_runV (As := [.ref (fa (16 + i)), .int (nI q41)]) (rest := []) ⟨hx, hb, hml, hown, hts⟩ (c_setTimer l D tc hI hi (q := q41) (by have h8 := cs_lt8 hS hi; omega)) (cwV 2 hts (tw_V tw_167 tw_168 tw_489 tw_1 tw_169) rfl rfl rfl (by decide +kernel) ⟨Nat.le_of_ble_eq_true rfl, Nat.le_of_ble_eq_true rfl⟩) (hv_preV (ci := 3) hK hT.1 (cs_kX hS) (by decide) rfl rfl) rfl rfl hl.1 rfl (lv_room (Nat.le_of_ble_eq_true rfl)) dX3_lead_102 ⟨by show 0 + 0 + 8 + 0 ≤ 16; omega, by show 0 + 0 + 64 + 0 ≤ 128; omega⟩) hT (fun v42 H locs hp43 hT => ?_)
            have hI := hp43
            have hS := hI.1
            refine lv_aload_n hx hb dX3_lead_105 rfl (lv_at hl 2 rfl) ?_
            refine lv_aload_n hx hb dX3_lead_106 rfl (lv_at hl 1 rfl) ?_
            refine hv_calli (va_runV (As := [.ref (fa (16 + i))]) (rest := []) ⟨hx, hb, hml, hown, hts⟩ (c_hasQuorum l D tc hS hI.2.1.1 hi) (cwV 1 hts (tw_V tw_177 tw_178 tw_491 tw_1 tw_179) rfl rfl rfl (by decide +kernel) ⟨Nat.le_of_ble_eq_true rfl, Nat.le_of_ble_eq_true rfl⟩) (hv_preV (ci := 3) hK hT.1 (cs_kX hS) (by decide) rfl rfl) rfl rfl hl.1 rfl (lv_room (Nat.le_of_ble_eq_true rfl)) dX3_lead_107 ⟨by show 0 + 0 + 8 + 0 + 0 ≤ 16; omega, by show 0 + 0 + 64 + 0 + 0 ≤ 128; omega⟩) hT (fun r46 v44 H locs hp45 hT => ?_)
            rw [hp45] at hT
            refine lv_if_eq (tgt := 128) hx hb dX3_lead_110 (by decide) (fun c110 => ?_) (fun c110 => ?_)
            · skip
              exact hret _ v42 _ _ _ _ _ dX3_lead_128 hT ⟨_, hI⟩ (by show 0 + 0 + 8 + 0 + 0 ≤ 16; omega) (by show 0 + 0 + 64 + 0 + 0 ≤ 128; omega)
            · skip
              refine lv_aload_n hx hb dX3_lead_113 rfl (lv_at hl 2 rfl) ?_
              refine lv_iload_n hx hb dX3_lead_114 rfl (lv_at hl 3 rfl) ?_
              refine lv_iload hx hb dX3_lead_115 (lv_at hl 0 rfl) ?_
              refine lv_if_eq (tgt := 124) hx hb dX3_lead_117 (by decide) (fun c117 => ?_) (fun c117 => ?_)
              · skip
                refine lv_iconst (v := 5) hx hb dX3_lead_124 (by decide) ?_
                refine hv_callv (va_runV (As := [.int (nI i), .int 5]) (rest := []) ⟨hx, hb, hml, hown, hts⟩ (c_decide l D tc hI hi hh 5) (cwV 2 hts (tw_V tw_180 tw_181 tw_492 tw_1 tw_182) rfl rfl rfl (by decide +kernel) ⟨Nat.le_of_ble_eq_true rfl, Nat.le_of_ble_eq_true rfl⟩) (hv_preV (ci := 3) hK hT.1 (cs_kX hS) (by decide) rfl rfl) rfl rfl hl.1 rfl (lv_room (Nat.le_of_ble_eq_true rfl)) dX3_lead_125 ⟨by show 0 + 0 + 8 + 0 + 0 + 8 ≤ 16; omega, by show 0 + 0 + 64 + 0 + 0 + 64 ≤ 128; omega⟩) hT (fun v47 H locs hp48 hT => ?_)
                obtain ⟨_, hI⟩ := hp48
                have hS := hI.1
                exact hret _ v47 _ _ _ _ _ dX3_lead_128 hT ⟨_, hI⟩ (by show 0 + 0 + 8 + 0 + 0 + 8 ≤ 16; omega) (by show 0 + 0 + 64 + 0 + 0 + 64 ≤ 128; omega)
              · skip
                refine lv_iconst (v := 4) hx hb dX3_lead_120 (by decide) ?_
                refine lv_goto (tgt := 125) hx hb dX3_lead_121 (by decide) ?_
                refine hv_callv (va_runV (As := [.int (nI i), .int 4]) (rest := []) ⟨hx, hb, hml, hown, hts⟩ (c_decide l D tc hI hi hh 4) (cwV 2 hts (tw_V tw_180 tw_181 tw_492 tw_1 tw_182) rfl rfl rfl (by decide +kernel) ⟨Nat.le_of_ble_eq_true rfl, Nat.le_of_ble_eq_true rfl⟩) (hv_preV (ci := 3) hK hT.1 (cs_kX hS) (by decide) rfl rfl) rfl rfl hl.1 rfl (lv_room (Nat.le_of_ble_eq_true rfl)) dX3_lead_125 ⟨by show 0 + 0 + 8 + 0 + 0 + 8 ≤ 16; omega, by show 0 + 0 + 64 + 0 + 0 + 64 ≤ 128; omega⟩) hT (fun v49 H locs hp50 hT => ?_)
                obtain ⟨_, hI⟩ := hp50
                have hS := hI.1
                exact hret _ v49 _ _ _ _ _ dX3_lead_128 hT ⟨_, hI⟩ (by show 0 + 0 + 8 + 0 + 0 + 8 ≤ 16; omega) (by show 0 + 0 + 64 + 0 + 0 + 64 ≤ 128; omega)
          · skip
            refine lv_bipush (v := 6) hx hb dX3_lead_81 (by decide) ?_
            refine lv_goto (tgt := 88) hx hb dX3_lead_83 (by decide) ?_
            refine lv_aload_n hx hb dX3_lead_88 rfl (lv_at hl 1 rfl) ?_
            refine hv_geti (ci := 2) (C := RX2) (T := TX2) (N := 10) hx hb hts (tw_cs in_X2) hown hK hT (cs_ks hS hi) (by decide) rfl 7 (by decide) (hts _ (tw_c tw_87)) rfl dX3_lead_89 ?_
            refine lv_topi (fun g51 eg51 => ?_)
            refine lv_iconst (v := 0) hx hb dX3_lead_92 (by decide) ?_
            refine hv_callv (va_runV (As := [.int (nI i), .int r36, .int 6, .int g51, .int 0]) (rest := []) ⟨hx, hb, hml, hown, hts⟩ (c_send l D tc hI hi r36 6 g51 0 (cs_all qhp35 (cs_n8 hS) (cs_lt8 hS hi)) hh) (cwV 5 hts (tw_V tw_137 tw_138 tw_139 tw_2 tw_140) rfl rfl rfl (by decide +kernel) ⟨Nat.le_of_ble_eq_true rfl, Nat.le_of_ble_eq_true rfl⟩) (hv_preV (ci := 1) hK hT.1 (cs_kN hS) (by decide) rfl rfl) rfl rfl hl.1 rfl (lv_room (Nat.le_of_ble_eq_true rfl)) dX3_lead_93 ⟨by show 0 + 0 + 8 ≤ 16; omega, by show 0 + 0 + 64 ≤ 128; omega⟩) hT (fun v52 H locs hp53 hT => ?_)
            obtain ⟨_, hI⟩ := hp53
            have hS := hI.1
            refine lv_aload_n hx hb dX3_lead_96 rfl (lv_at hl 2 rfl) ?_
            refine lv_aload_n hx hb dX3_lead_97 rfl (lv_at hl 1 rfl) ?_
            refine lv_aload_n hx hb dX3_lead_98 rfl (lv_at hl 2 rfl) ?_
            refine hv_geti (ci := 3) (C := RX3) (T := TX3) (N := 12) hx hb hts (tw_cs in_X3) hown hK hT (cs_kX hS) (by decide) rfl 7 (by decide) (hts _ (tw_c tw_54)) rfl dX3_lead_99 ?_
            refine lv_topi (fun g54 eg54 => ?_)
            obtain ⟨q55, h5q55, h100q55, hq55⟩ := hI.2.1.2.2.2.1
            have eg54 : g54 = (nI q55) := by rw [eg54]; exact hq55
            subst eg54
            refine hv_callv (va_runV (As := [.ref (fa (16 + i)), .int (nI q55)]) (rest := []) ⟨hx, hb, hml, hown, hts⟩ (c_setTimer l D tc hI hi (q := q55) (by have h8 := cs_lt8 hS hi; omega)) (cwV 2 hts (tw_V tw_167 tw_168 tw_489 tw_1 tw_169) rfl rfl rfl (by decide +kernel) ⟨Nat.le_of_ble_eq_true rfl, Nat.le_of_ble_eq_true rfl⟩) (hv_preV (ci := 3) hK hT.1 (cs_kX hS) (by decide) rfl rfl) rfl rfl hl.1 rfl (lv_room (Nat.le_of_ble_eq_true rfl)) dX3_lead_102 ⟨by show 0 + 0 + 8 + 0 ≤ 16; omega, by show 0 + 0 + 64 + 0 ≤ 128; omega⟩) hT (fun v56 H locs hp57 hT => ?_)
            have hI := hp57
            have hS := hI.1
            refine lv_aload_n hx hb dX3_lead_105 rfl (lv_at hl 2 rfl) ?_
            refine lv_aload_n hx hb dX3_lead_106 rfl (lv_at hl 1 rfl) ?_
            refine hv_calli (va_runV (As := [.ref (fa (16 + i))]) (rest := []) ⟨hx, hb, hml, hown, hts⟩ (c_hasQuorum l D tc hS hI.2.1.1 hi) (cwV 1 hts (tw_V tw_177 tw_178 tw_491 tw_1 tw_179) rfl rfl rfl (by decide +kernel) ⟨Nat.le_of_ble_eq_true rfl, Nat.le_of_ble_eq_true rfl⟩) (hv_preV (ci := 3) hK hT.1 (cs_kX hS) (by decide) rfl rfl) rfl rfl hl.1 rfl (lv_room (Nat.le_of_ble_eq_true rfl)) dX3_lead_107 ⟨by show 0 + 0 + 8 + 0 + 0 ≤ 16; omega, by show 0 + 0 + 64 + 0 + 0 ≤ 128; omega⟩) hT (fun r60 v58 H locs hp59 hT => ?_)
            rw [hp59] at hT
            refine lv_if_eq (tgt := 128) hx hb dX3_lead_110 (by decide) (fun c110 => ?_) (fun c110 => ?_)
            · skip
              exact hret _ v56 _ _ _ _ _ dX3_lead_128 hT ⟨_, hI⟩ (by show 0 + 0 + 8 + 0 + 0 ≤ 16; omega) (by show 0 + 0 + 64 + 0 + 0 ≤ 128; omega)
            · skip
              refine lv_aload_n hx hb dX3_lead_113 rfl (lv_at hl 2 rfl) ?_
              refine lv_iload_n hx hb dX3_lead_114 rfl (lv_at hl 3 rfl) ?_
              refine lv_iload hx hb dX3_lead_115 (lv_at hl 0 rfl) ?_
              refine lv_if_eq (tgt := 124) hx hb dX3_lead_117 (by decide) (fun c117 => ?_) (fun c117 => ?_)
              · skip
                refine lv_iconst (v := 5) hx hb dX3_lead_124 (by decide) ?_
                refine hv_callv (va_runV (As := [.int (nI i), .int 5]) (rest := []) ⟨hx, hb, hml, hown, hts⟩ (c_decide l D tc hI hi hh 5) (cwV 2 hts (tw_V tw_180 tw_181 tw_492 tw_1 tw_182) rfl rfl rfl (by decide +kernel) ⟨Nat.le_of_ble_eq_true rfl, Nat.le_of_ble_eq_true rfl⟩) (hv_preV (ci := 3) hK hT.1 (cs_kX hS) (by decide) rfl rfl) rfl rfl hl.1 rfl (lv_room (Nat.le_of_ble_eq_true rfl)) dX3_lead_125 ⟨by show 0 + 0 + 8 + 0 + 0 + 8 ≤ 16; omega, by show 0 + 0 + 64 + 0 + 0 + 64 ≤ 128; omega⟩) hT (fun v61 H locs hp62 hT => ?_)
                obtain ⟨_, hI⟩ := hp62
                have hS := hI.1
                exact hret _ v61 _ _ _ _ _ dX3_lead_128 hT ⟨_, hI⟩ (by show 0 + 0 + 8 + 0 + 0 + 8 ≤ 16; omega) (by show 0 + 0 + 64 + 0 + 0 + 64 ≤ 128; omega)
              · skip
                refine lv_iconst (v := 4) hx hb dX3_lead_120 (by decide) ?_
                refine lv_goto (tgt := 125) hx hb dX3_lead_121 (by decide) ?_
                refine hv_callv (va_runV (As := [.int (nI i), .int 4]) (rest := []) ⟨hx, hb, hml, hown, hts⟩ (c_decide l D tc hI hi hh 4) (cwV 2 hts (tw_V tw_180 tw_181 tw_492 tw_1 tw_182) rfl rfl rfl (by decide +kernel) ⟨Nat.le_of_ble_eq_true rfl, Nat.le_of_ble_eq_true rfl⟩) (hv_preV (ci := 3) hK hT.1 (cs_kX hS) (by decide) rfl rfl) rfl rfl hl.1 rfl (lv_room (Nat.le_of_ble_eq_true rfl)) dX3_lead_125 ⟨by show 0 + 0 + 8 + 0 + 0 + 8 ≤ 16; omega, by show 0 + 0 + 64 + 0 + 0 + 64 ≤ 128; omega⟩) hT (fun v63 H locs hp64 hT => ?_)
                obtain ⟨_, hI⟩ := hp64
                have hS := hI.1
                exact hret _ v63 _ _ _ _ _ dX3_lead_128 hT ⟨_, hI⟩ (by show 0 + 0 + 8 + 0 + 0 + 8 ≤ 16; omega) (by show 0 + 0 + 64 + 0 + 0 + 64 ≤ 128; omega)
      · skip
        refine lv_iconst (v := 2) hx hb dX3_lead_39 (by decide) ?_
        refine lv_goto (tgt := 44) hx hb dX3_lead_40 (by decide) ?_
        refine hv_puti (ci := 2) (C := RX2) (T := TX2) (N := 10) hx hb hts (tw_cs in_X2) tyX2 tyX2_ok nmX2 hown hK hT (cs_ks hS hi) (by decide) rfl 6 (by decide) (hts _ (tw_c tw_85)) rfl rfl (x := 2) rfl rfl dX3_lead_44 (fun H locs hT => ?_)
        have hI := ci_put (f := 206) (a := (fa (16 + i))) (x := 2) rfl hI
        have hS := hI.1
        refine lv_aload_n hx hb dX3_lead_47 rfl (lv_at hl 1 rfl) ?_
        refine lv_aload_n hx hb dX3_lead_48 rfl (lv_at hl 1 rfl) ?_
        refine hv_geti (ci := 2) (C := RX2) (T := TX2) (N := 10) hx hb hts (tw_cs in_X2) hown hK hT (cs_ks hS hi) (by decide) rfl 4 (by decide) (hts _ (tw_c tw_81)) rfl dX3_lead_49 ?_
        refine lv_topi (fun g65 eg65 => ?_)
        refine lv_iload_n hx hb dX3_lead_52 rfl (lv_at hl 4 rfl) ?_
        refine lv_icmp_ne (tgt := 62) hx hb dX3_lead_53 (by decide) (fun c53 => ?_) (fun c53 => ?_)
        · skip
          refine lv_iconst (v := 0) hx hb dX3_lead_62 (by decide) ?_
          refine hv_puti (ci := 2) (C := RX2) (T := TX2) (N := 10) hx hb hts (tw_cs in_X2) tyX2 tyX2_ok nmX2 hown hK hT (cs_ks hS hi) (by decide) rfl 2 (by decide) (hts _ (tw_c tw_77)) rfl rfl (x := 0) rfl rfl dX3_lead_63 (fun H locs hT => ?_)
          have hI := ci_put (f := 202) (a := (fa (16 + i))) (x := 0) rfl hI
          have hS := hI.1
          refine lv_aload_n hx hb dX3_lead_66 rfl (lv_at hl 2 rfl) ?_
          refine hv_gets (ci := 3) (C := RX3) (T := TX3) (N := 12) hx hb hts (tw_cs in_X3) hown hK hT (cs_kX hS) (by decide) rfl 1 (by decide) (hts _ (tw_c tw_48)) rfl (x := (fa 2)) (cs_pN hS) dX3_lead_67 ?_
          refine lv_iload_n hx hb dX3_lead_70 rfl (lv_at hl 3 rfl) ?_
          refine lv_aload_n hx hb dX3_lead_71 rfl (lv_at hl 2 rfl) ?_
          refine lv_iload_n hx hb dX3_lead_72 rfl (lv_at hl 3 rfl) ?_
          refine hv_calli (va_runV (As := [.int (nI i)]) (rest := [.int (nI i), .ref (fa 2)]) ⟨hx, hb, hml, hown, hts⟩ (c_allBut l D tc hS hI.2.1.1 (nI i)) (cwV 1 hts (tw_V tw_131 tw_132 tw_487 tw_1 tw_133) rfl rfl rfl (by decide +kernel) ⟨Nat.le_of_ble_eq_true rfl, Nat.le_of_ble_eq_true rfl⟩) (hv_preV (ci := 3) hK hT.1 (cs_kX hS) (by decide) rfl rfl) rfl rfl hl.1 rfl (lv_room (Nat.le_of_ble_eq_true rfl)) dX3_lead_73 ⟨by show 0 + 0 ≤ 16; omega, by show 0 + 0 ≤ 128; omega⟩) hT (fun r68 v66 H locs hp67 hT => ?_)
          obtain ⟨evhp67, qhp67⟩ := hp67
          rw [evhp67] at hT
          refine lv_iload hx hb dX3_lead_76 (lv_at hl 0 rfl) ?_
          refine lv_if_eq (tgt := 86) hx hb dX3_lead_78 (by decide) (fun c78 => ?_) (fun c78 => ?_)
          · skip
            refine lv_bipush (v := 7) hx hb dX3_lead_86 (by decide) ?_
            refine lv_aload_n hx hb dX3_lead_88 rfl (lv_at hl 1 rfl) ?_
            refine hv_geti (ci := 2) (C := RX2) (T := TX2) (N := 10) hx hb hts (tw_cs in_X2) hown hK hT (cs_ks hS hi) (by decide) rfl 7 (by decide) (hts _ (tw_c tw_87)) rfl dX3_lead_89 ?_
            refine lv_topi (fun g69 eg69 => ?_)
            refine lv_iconst (v := 0) hx hb dX3_lead_92 (by decide) ?_
            refine hv_callv (va_runV (As := [.int (nI i), .int r68, .int 7, .int g69, .int 0]) (rest := []) ⟨hx, hb, hml, hown, hts⟩ (c_send l D tc hI hi r68 7 g69 0 (cs_all qhp67 (cs_n8 hS) (cs_lt8 hS hi)) hh) (cwV 5 hts (tw_V tw_137 tw_138 tw_139 tw_2 tw_140) rfl rfl rfl (by decide +kernel) ⟨Nat.le_of_ble_eq_true rfl, Nat.le_of_ble_eq_true rfl⟩) (hv_preV (ci := 1) hK hT.1 (cs_kN hS) (by decide) rfl rfl) rfl rfl hl.1 rfl (lv_room (Nat.le_of_ble_eq_true rfl)) dX3_lead_93 ⟨by show 0 + 0 + 8 ≤ 16; omega, by show 0 + 0 + 64 ≤ 128; omega⟩) hT (fun v70 H locs hp71 hT => ?_)
            obtain ⟨_, hI⟩ := hp71
            have hS := hI.1
            refine lv_aload_n hx hb dX3_lead_96 rfl (lv_at hl 2 rfl) ?_
            refine lv_aload_n hx hb dX3_lead_97 rfl (lv_at hl 1 rfl) ?_
            refine lv_aload_n hx hb dX3_lead_98 rfl (lv_at hl 2 rfl) ?_
            refine hv_geti (ci := 3) (C := RX3) (T := TX3) (N := 12) hx hb hts (tw_cs in_X3) hown hK hT (cs_kX hS) (by decide) rfl 7 (by decide) (hts _ (tw_c tw_54)) rfl dX3_lead_99 ?_
            refine lv_topi (fun g72 eg72 => ?_)
            obtain ⟨q73, h5q73, h100q73, hq73⟩ := hI.2.1.2.2.2.1
            have eg72 : g72 = (nI q73) := by rw [eg72]; exact hq73
            subst eg72
            refine hv_callv (va_runV (As := [.ref (fa (16 + i)), .int (nI q73)]) (rest := []) ⟨hx, hb, hml, hown, hts⟩ (c_setTimer l D tc hI hi (q := q73) (by have h8 := cs_lt8 hS hi; omega)) (cwV 2 hts (tw_V tw_167 tw_168 tw_489 tw_1 tw_169) rfl rfl rfl (by decide +kernel) ⟨Nat.le_of_ble_eq_true rfl, Nat.le_of_ble_eq_true rfl⟩) (hv_preV (ci := 3) hK hT.1 (cs_kX hS) (by decide) rfl rfl) rfl rfl hl.1 rfl (lv_room (Nat.le_of_ble_eq_true rfl)) dX3_lead_102 ⟨by show 0 + 0 + 8 + 0 ≤ 16; omega, by show 0 + 0 + 64 + 0 ≤ 128; omega⟩) hT (fun v74 H locs hp75 hT => ?_)
            have hI := hp75
            have hS := hI.1
            refine lv_aload_n hx hb dX3_lead_105 rfl (lv_at hl 2 rfl) ?_
            refine lv_aload_n hx hb dX3_lead_106 rfl (lv_at hl 1 rfl) ?_
            refine hv_calli (va_runV (As := [.ref (fa (16 + i))]) (rest := []) ⟨hx, hb, hml, hown, hts⟩ (c_hasQuorum l D tc hS hI.2.1.1 hi) (cwV 1 hts (tw_V tw_177 tw_178 tw_491 tw_1 tw_179) rfl rfl rfl (by decide +kernel) ⟨Nat.le_of_ble_eq_true rfl, Nat.le_of_ble_eq_true rfl⟩) (hv_preV (ci := 3) hK hT.1 (cs_kX hS) (by decide) rfl rfl) rfl rfl hl.1 rfl (lv_room (Nat.le_of_ble_eq_true rfl)) dX3_lead_107 ⟨by show 0 + 0 + 8 + 0 + 0 ≤ 16; omega, by show 0 + 0 + 64 + 0 + 0 ≤ 128; omega⟩) hT (fun r78 v76 H locs hp77 hT => ?_)
            rw [hp77] at hT
            refine lv_if_eq (tgt := 128) hx hb dX3_lead_110 (by decide) (fun c110 => ?_) (fun c110 => ?_)
            · skip
              exact hret _ v74 _ _ _ _ _ dX3_lead_128 hT ⟨_, hI⟩ (by show 0 + 0 + 8 + 0 + 0 ≤ 16; omega) (by show 0 + 0 + 64 + 0 + 0 ≤ 128; omega)
            · skip
              refine lv_aload_n hx hb dX3_lead_113 rfl (lv_at hl 2 rfl) ?_
              refine lv_iload_n hx hb dX3_lead_114 rfl (lv_at hl 3 rfl) ?_
              refine lv_iload hx hb dX3_lead_115 (lv_at hl 0 rfl) ?_
              refine lv_if_eq (tgt := 124) hx hb dX3_lead_117 (by decide) (fun c117 => ?_) (fun c117 => ?_)
              · skip
                refine lv_iconst (v := 5) hx hb dX3_lead_124 (by decide) ?_
                refine hv_callv (va_runV (As := [.int (nI i), .int 5]) (rest := []) ⟨hx, hb, hml, hown, hts⟩ (c_decide l D tc hI hi hh 5) (cwV 2 hts (tw_V tw_180 tw_181 tw_492 tw_1 tw_182) rfl rfl rfl (by decide +kernel) ⟨Nat.le_of_ble_eq_true rfl, Nat.le_of_ble_eq_true rfl⟩) (hv_preV (ci := 3) hK hT.1 (cs_kX hS) (by decide) rfl rfl) rfl rfl hl.1 rfl (lv_room (Nat.le_of_ble_eq_true rfl)) dX3_lead_125 ⟨by show 0 + 0 + 8 + 0 + 0 + 8 ≤ 16; omega, by show 0 + 0 + 64 + 0 + 0 + 64 ≤ 128; omega⟩) hT (fun v79 H locs hp80 hT => ?_)
                obtain ⟨_, hI⟩ := hp80
                have hS := hI.1
                exact hret _ v79 _ _ _ _ _ dX3_lead_128 hT ⟨_, hI⟩ (by show 0 + 0 + 8 + 0 + 0 + 8 ≤ 16; omega) (by show 0 + 0 + 64 + 0 + 0 + 64 ≤ 128; omega)
              · skip
                refine lv_iconst (v := 4) hx hb dX3_lead_120 (by decide) ?_
                refine lv_goto (tgt := 125) hx hb dX3_lead_121 (by decide) ?_
                refine hv_callv (va_runV (As := [.int (nI i), .int 4]) (rest := []) ⟨hx, hb, hml, hown, hts⟩ (c_decide l D tc hI hi hh 4) (cwV 2 hts (tw_V tw_180 tw_181 tw_492 tw_1 tw_182) rfl rfl rfl (by decide +kernel) ⟨Nat.le_of_ble_eq_true rfl, Nat.le_of_ble_eq_true rfl⟩) (hv_preV (ci := 3) hK hT.1 (cs_kX hS) (by decide) rfl rfl) rfl rfl hl.1 rfl (lv_room (Nat.le_of_ble_eq_true rfl)) dX3_lead_125 ⟨by show 0 + 0 + 8 + 0 + 0 + 8 ≤ 16; omega, by show 0 + 0 + 64 + 0 + 0 + 64 ≤ 128; omega⟩) hT (fun v81 H locs hp82 hT => ?_)
                obtain ⟨_, hI⟩ := hp82
                have hS := hI.1
                exact hret _ v81 _ _ _ _ _ dX3_lead_128 hT ⟨_, hI⟩ (by show 0 + 0 + 8 + 0 + 0 + 8 ≤ 16; omega) (by show 0 + 0 + 64 + 0 + 0 + 64 ≤ 128; omega)
          · skip
            refine lv_bipush (v := 6) hx hb dX3_lead_81 (by decide) ?_
            refine lv_goto (tgt := 88) hx hb dX3_lead_83 (by decide) ?_
            refine lv_aload_n hx hb dX3_lead_88 rfl (lv_at hl 1 rfl) ?_
            refine hv_geti (ci := 2) (C := RX2) (T := TX2) (N := 10) hx hb hts (tw_cs in_X2) hown hK hT (cs_ks hS hi) (by decide) rfl 7 (by decide) (hts _ (tw_c tw_87)) rfl dX3_lead_89 ?_
            refine lv_topi (fun g83 eg83 => ?_)
            refine lv_iconst (v := 0) hx hb dX3_lead_92 (by decide) ?_
            refine hv_callv (va_runV (As := [.int (nI i), .int r68, .int 6, .int g83, .int 0]) (rest := []) ⟨hx, hb, hml, hown, hts⟩ (c_send l D tc hI hi r68 6 g83 0 (cs_all qhp67 (cs_n8 hS) (cs_lt8 hS hi)) hh) (cwV 5 hts (tw_V tw_137 tw_138 tw_139 tw_2 tw_140) rfl rfl rfl (by decide +kernel) ⟨Nat.le_of_ble_eq_true rfl, Nat.le_of_ble_eq_true rfl⟩) (hv_preV (ci := 1) hK hT.1 (cs_kN hS) (by decide) rfl rfl) rfl rfl hl.1 rfl (lv_room (Nat.le_of_ble_eq_true rfl)) dX3_lead_93 ⟨by show 0 + 0 + 8 ≤ 16; omega, by show 0 + 0 + 64 ≤ 128; omega⟩) hT (fun v84 H locs hp85 hT => ?_)
            obtain ⟨_, hI⟩ := hp85
            have hS := hI.1
            refine lv_aload_n hx hb dX3_lead_96 rfl (lv_at hl 2 rfl) ?_
            refine lv_aload_n hx hb dX3_lead_97 rfl (lv_at hl 1 rfl) ?_
            refine lv_aload_n hx hb dX3_lead_98 rfl (lv_at hl 2 rfl) ?_
            refine hv_geti (ci := 3) (C := RX3) (T := TX3) (N := 12) hx hb hts (tw_cs in_X3) hown hK hT (cs_kX hS) (by decide) rfl 7 (by decide) (hts _ (tw_c tw_54)) rfl dX3_lead_99 ?_
            refine lv_topi (fun g86 eg86 => ?_)
            obtain ⟨q87, h5q87, h100q87, hq87⟩ := hI.2.1.2.2.2.1
            have eg86 : g86 = (nI q87) := by rw [eg86]; exact hq87
            subst eg86
            refine hv_callv (va_runV (As := [.ref (fa (16 + i)), .int (nI q87)]) (rest := []) ⟨hx, hb, hml, hown, hts⟩ (c_setTimer l D tc hI hi (q := q87) (by have h8 := cs_lt8 hS hi; omega)) (cwV 2 hts (tw_V tw_167 tw_168 tw_489 tw_1 tw_169) rfl rfl rfl (by decide +kernel) ⟨Nat.le_of_ble_eq_true rfl, Nat.le_of_ble_eq_true rfl⟩) (hv_preV (ci := 3) hK hT.1 (cs_kX hS) (by decide) rfl rfl) rfl rfl hl.1 rfl (lv_room (Nat.le_of_ble_eq_true rfl)) dX3_lead_102 ⟨by show 0 + 0 + 8 + 0 ≤ 16; omega, by show 0 + 0 + 64 + 0 ≤ 128; omega⟩) hT (fun v88 H locs hp89 hT => ?_)
            have hI := hp89
            have hS := hI.1
            refine lv_aload_n hx hb dX3_lead_105 rfl (lv_at hl 2 rfl) ?_
            refine lv_aload_n hx hb dX3_lead_106 rfl (lv_at hl 1 rfl) ?_
            refine hv_calli (va_runV (As := [.ref (fa (16 + i))]) (rest := []) ⟨hx, hb, hml, hown, hts⟩ (c_hasQuorum l D tc hS hI.2.1.1 hi) (cwV 1 hts (tw_V tw_177 tw_178 tw_491 tw_1 tw_179) rfl rfl rfl (by decide +kernel) ⟨Nat.le_of_ble_eq_true rfl, Nat.le_of_ble_eq_true rfl⟩) (hv_preV (ci := 3) hK hT.1 (cs_kX hS) (by decide) rfl rfl) rfl rfl hl.1 rfl (lv_room (Nat.le_of_ble_eq_true rfl)) dX3_lead_107 ⟨by show 0 + 0 + 8 + 0 + 0 ≤ 16; omega, by show 0 + 0 + 64 + 0 + 0 ≤ 128; omega⟩) hT (fun r92 v90 H locs hp91 hT => ?_)
            rw [hp91] at hT
            refine lv_if_eq (tgt := 128) hx hb dX3_lead_110 (by decide) (fun c110 => ?_) (fun c110 => ?_)
            · skip
              exact hret _ v88 _ _ _ _ _ dX3_lead_128 hT ⟨_, hI⟩ (by show 0 + 0 + 8 + 0 + 0 ≤ 16; omega) (by show 0 + 0 + 64 + 0 + 0 ≤ 128; omega)
            · skip
              refine lv_aload_n hx hb dX3_lead_113 rfl (lv_at hl 2 rfl) ?_
              refine lv_iload_n hx hb dX3_lead_114 rfl (lv_at hl 3 rfl) ?_
              refine lv_iload hx hb dX3_lead_115 (lv_at hl 0 rfl) ?_
              refine lv_if_eq (tgt := 124) hx hb dX3_lead_117 (by decide) (fun c117 => ?_) (fun c117 => ?_)
              · skip
                refine lv_iconst (v := 5) hx hb dX3_lead_124 (by decide) ?_
                refine hv_callv (va_runV (As := [.int (nI i), .int 5]) (rest := []) ⟨hx, hb, hml, hown, hts⟩ (c_decide l D tc hI hi hh 5) (cwV 2 hts (tw_V tw_180 tw_181 tw_492 tw_1 tw_182) rfl rfl rfl (by decide +kernel) ⟨Nat.le_of_ble_eq_true rfl, Nat.le_of_ble_eq_true rfl⟩) (hv_preV (ci := 3) hK hT.1 (cs_kX hS) (by decide) rfl rfl) rfl rfl hl.1 rfl (lv_room (Nat.le_of_ble_eq_true rfl)) dX3_lead_125 ⟨by show 0 + 0 + 8 + 0 + 0 + 8 ≤ 16; omega, by show 0 + 0 + 64 + 0 + 0 + 64 ≤ 128; omega⟩) hT (fun v93 H locs hp94 hT => ?_)
                obtain ⟨_, hI⟩ := hp94
                have hS := hI.1
                exact hret _ v93 _ _ _ _ _ dX3_lead_128 hT ⟨_, hI⟩ (by show 0 + 0 + 8 + 0 + 0 + 8 ≤ 16; omega) (by show 0 + 0 + 64 + 0 + 0 + 64 ≤ 128; omega)
              · skip
                refine lv_iconst (v := 4) hx hb dX3_lead_120 (by decide) ?_
                refine lv_goto (tgt := 125) hx hb dX3_lead_121 (by decide) ?_
                refine hv_callv (va_runV (As := [.int (nI i), .int 4]) (rest := []) ⟨hx, hb, hml, hown, hts⟩ (c_decide l D tc hI hi hh 4) (cwV 2 hts (tw_V tw_180 tw_181 tw_492 tw_1 tw_182) rfl rfl rfl (by decide +kernel) ⟨Nat.le_of_ble_eq_true rfl, Nat.le_of_ble_eq_true rfl⟩) (hv_preV (ci := 3) hK hT.1 (cs_kX hS) (by decide) rfl rfl) rfl rfl hl.1 rfl (lv_room (Nat.le_of_ble_eq_true rfl)) dX3_lead_125 ⟨by show 0 + 0 + 8 + 0 + 0 + 8 ≤ 16; omega, by show 0 + 0 + 64 + 0 + 0 + 64 ≤ 128; omega⟩) hT (fun v95 H locs hp96 hT => ?_)
                obtain ⟨_, hI⟩ := hp96
                have hS := hI.1
                exact hret _ v95 _ _ _ _ _ dX3_lead_128 hT ⟨_, hI⟩ (by show 0 + 0 + 8 + 0 + 0 + 8 ≤ 16; omega) (by show 0 + 0 + 64 + 0 + 0 + 64 ≤ 128; omega)
        · skip
          refine lv_iconst (v := 1) hx hb dX3_lead_56 (by decide) ?_
          refine lv_iload_n hx hb dX3_lead_57 rfl (lv_at hl 3 rfl) ?_
          refine lv_ishl hx hb dX3_lead_58 ?_
          refine lv_goto (tgt := 63) hx hb dX3_lead_59 (by decide) ?_
          refine hv_puti (ci := 2) (C := RX2) (T := TX2) (N := 10) hx hb hts (tw_cs in_X2) tyX2 tyX2_ok nmX2 hown hK hT (cs_ks hS hi) (by decide) rfl 2 (by decide) (hts _ (tw_c tw_77)) rfl rfl (x := (1 <<< ((nI i) &&& 31))) rfl rfl dX3_lead_63 (fun H locs hT => ?_)
          have hI := ci_put (f := 202) (a := (fa (16 + i))) (x := (1 <<< ((nI i) &&& 31))) rfl hI
          have hS := hI.1
          refine lv_aload_n hx hb dX3_lead_66 rfl (lv_at hl 2 rfl) ?_
          refine hv_gets (ci := 3) (C := RX3) (T := TX3) (N := 12) hx hb hts (tw_cs in_X3) hown hK hT (cs_kX hS) (by decide) rfl 1 (by decide) (hts _ (tw_c tw_48)) rfl (x := (fa 2)) (cs_pN hS) dX3_lead_67 ?_
          refine lv_iload_n hx hb dX3_lead_70 rfl (lv_at hl 3 rfl) ?_
          refine lv_aload_n hx hb dX3_lead_71 rfl (lv_at hl 2 rfl) ?_
          refine lv_iload_n hx hb dX3_lead_72 rfl (lv_at hl 3 rfl) ?_
          refine hv_calli (va_runV (As := [.int (nI i)]) (rest := [.int (nI i), .ref (fa 2)]) ⟨hx, hb, hml, hown, hts⟩ (c_allBut l D tc hS hI.2.1.1 (nI i)) (cwV 1 hts (tw_V tw_131 tw_132 tw_487 tw_1 tw_133) rfl rfl rfl (by decide +kernel) ⟨Nat.le_of_ble_eq_true rfl, Nat.le_of_ble_eq_true rfl⟩) (hv_preV (ci := 3) hK hT.1 (cs_kX hS) (by decide) rfl rfl) rfl rfl hl.1 rfl (lv_room (Nat.le_of_ble_eq_true rfl)) dX3_lead_73 ⟨by show 0 + 0 ≤ 16; omega, by show 0 + 0 ≤ 128; omega⟩) hT (fun r99 v97 H locs hp98 hT => ?_)
          obtain ⟨evhp98, qhp98⟩ := hp98
          rw [evhp98] at hT
          refine lv_iload hx hb dX3_lead_76 (lv_at hl 0 rfl) ?_
          refine lv_if_eq (tgt := 86) hx hb dX3_lead_78 (by decide) (fun c78 => ?_) (fun c78 => ?_)
          · skip
            refine lv_bipush (v := 7) hx hb dX3_lead_86 (by decide) ?_
            refine lv_aload_n hx hb dX3_lead_88 rfl (lv_at hl 1 rfl) ?_
            refine hv_geti (ci := 2) (C := RX2) (T := TX2) (N := 10) hx hb hts (tw_cs in_X2) hown hK hT (cs_ks hS hi) (by decide) rfl 7 (by decide) (hts _ (tw_c tw_87)) rfl dX3_lead_89 ?_
            refine lv_topi (fun g100 eg100 => ?_)
            refine lv_iconst (v := 0) hx hb dX3_lead_92 (by decide) ?_
            refine hv_callv (va_runV (As := [.int (nI i), .int r99, .int 7, .int g100, .int 0]) (rest := []) ⟨hx, hb, hml, hown, hts⟩ (c_send l D tc hI hi r99 7 g100 0 (cs_all qhp98 (cs_n8 hS) (cs_lt8 hS hi)) hh) (cwV 5 hts (tw_V tw_137 tw_138 tw_139 tw_2 tw_140) rfl rfl rfl (by decide +kernel) ⟨Nat.le_of_ble_eq_true rfl, Nat.le_of_ble_eq_true rfl⟩) (hv_preV (ci := 1) hK hT.1 (cs_kN hS) (by decide) rfl rfl) rfl rfl hl.1 rfl (lv_room (Nat.le_of_ble_eq_true rfl)) dX3_lead_93 ⟨by show 0 + 0 + 8 ≤ 16; omega, by show 0 + 0 + 64 ≤ 128; omega⟩) hT (fun v101 H locs hp102 hT => ?_)
            obtain ⟨_, hI⟩ := hp102
            have hS := hI.1
            refine lv_aload_n hx hb dX3_lead_96 rfl (lv_at hl 2 rfl) ?_
            refine lv_aload_n hx hb dX3_lead_97 rfl (lv_at hl 1 rfl) ?_
            refine lv_aload_n hx hb dX3_lead_98 rfl (lv_at hl 2 rfl) ?_
            refine hv_geti (ci := 3) (C := RX3) (T := TX3) (N := 12) hx hb hts (tw_cs in_X3) hown hK hT (cs_kX hS) (by decide) rfl 7 (by decide) (hts _ (tw_c tw_54)) rfl dX3_lead_99 ?_
            refine lv_topi (fun g103 eg103 => ?_)
            obtain ⟨q104, h5q104, h100q104, hq104⟩ := hI.2.1.2.2.2.1
            have eg103 : g103 = (nI q104) := by rw [eg103]; exact hq104
            subst eg103
            refine hv_callv (va_runV (As := [.ref (fa (16 + i)), .int (nI q104)]) (rest := []) ⟨hx, hb, hml, hown, hts⟩ (c_setTimer l D tc hI hi (q := q104) (by have h8 := cs_lt8 hS hi; omega)) (cwV 2 hts (tw_V tw_167 tw_168 tw_489 tw_1 tw_169) rfl rfl rfl (by decide +kernel) ⟨Nat.le_of_ble_eq_true rfl, Nat.le_of_ble_eq_true rfl⟩) (hv_preV (ci := 3) hK hT.1 (cs_kX hS) (by decide) rfl rfl) rfl rfl hl.1 rfl (lv_room (Nat.le_of_ble_eq_true rfl)) dX3_lead_102 ⟨by show 0 + 0 + 8 + 0 ≤ 16; omega, by show 0 + 0 + 64 + 0 ≤ 128; omega⟩) hT (fun v105 H locs hp106 hT => ?_)
            have hI := hp106
            have hS := hI.1
            refine lv_aload_n hx hb dX3_lead_105 rfl (lv_at hl 2 rfl) ?_
            refine lv_aload_n hx hb dX3_lead_106 rfl (lv_at hl 1 rfl) ?_
            refine hv_calli (va_runV (As := [.ref (fa (16 + i))]) (rest := []) ⟨hx, hb, hml, hown, hts⟩ (c_hasQuorum l D tc hS hI.2.1.1 hi) (cwV 1 hts (tw_V tw_177 tw_178 tw_491 tw_1 tw_179) rfl rfl rfl (by decide +kernel) ⟨Nat.le_of_ble_eq_true rfl, Nat.le_of_ble_eq_true rfl⟩) (hv_preV (ci := 3) hK hT.1 (cs_kX hS) (by decide) rfl rfl) rfl rfl hl.1 rfl (lv_room (Nat.le_of_ble_eq_true rfl)) dX3_lead_107 ⟨by show 0 + 0 + 8 + 0 + 0 ≤ 16; omega, by show 0 + 0 + 64 + 0 + 0 ≤ 128; omega⟩) hT (fun r109 v107 H locs hp108 hT => ?_)
            rw [hp108] at hT
            refine lv_if_eq (tgt := 128) hx hb dX3_lead_110 (by decide) (fun c110 => ?_) (fun c110 => ?_)
            · skip
              exact hret _ v105 _ _ _ _ _ dX3_lead_128 hT ⟨_, hI⟩ (by show 0 + 0 + 8 + 0 + 0 ≤ 16; omega) (by show 0 + 0 + 64 + 0 + 0 ≤ 128; omega)
            · skip
              refine lv_aload_n hx hb dX3_lead_113 rfl (lv_at hl 2 rfl) ?_
              refine lv_iload_n hx hb dX3_lead_114 rfl (lv_at hl 3 rfl) ?_
              refine lv_iload hx hb dX3_lead_115 (lv_at hl 0 rfl) ?_
              refine lv_if_eq (tgt := 124) hx hb dX3_lead_117 (by decide) (fun c117 => ?_) (fun c117 => ?_)
              · skip
                refine lv_iconst (v := 5) hx hb dX3_lead_124 (by decide) ?_
                refine hv_callv (va_runV (As := [.int (nI i), .int 5]) (rest := []) ⟨hx, hb, hml, hown, hts⟩ (c_decide l D tc hI hi hh 5) (cwV 2 hts (tw_V tw_180 tw_181 tw_492 tw_1 tw_182) rfl rfl rfl (by decide +kernel) ⟨Nat.le_of_ble_eq_true rfl, Nat.le_of_ble_eq_true rfl⟩) (hv_preV (ci := 3) hK hT.1 (cs_kX hS) (by decide) rfl rfl) rfl rfl hl.1 rfl (lv_room (Nat.le_of_ble_eq_true rfl)) dX3_lead_125 ⟨by show 0 + 0 + 8 + 0 + 0 + 8 ≤ 16; omega, by show 0 + 0 + 64 + 0 + 0 + 64 ≤ 128; omega⟩) hT (fun v110 H locs hp111 hT => ?_)
                obtain ⟨_, hI⟩ := hp111
                have hS := hI.1
                exact hret _ v110 _ _ _ _ _ dX3_lead_128 hT ⟨_, hI⟩ (by show 0 + 0 + 8 + 0 + 0 + 8 ≤ 16; omega) (by show 0 + 0 + 64 + 0 + 0 + 64 ≤ 128; omega)
              · skip
                refine lv_iconst (v := 4) hx hb dX3_lead_120 (by decide) ?_
                refine lv_goto (tgt := 125) hx hb dX3_lead_121 (by decide) ?_
                refine hv_callv (va_runV (As := [.int (nI i), .int 4]) (rest := []) ⟨hx, hb, hml, hown, hts⟩ (c_decide l D tc hI hi hh 4) (cwV 2 hts (tw_V tw_180 tw_181 tw_492 tw_1 tw_182) rfl rfl rfl (by decide +kernel) ⟨Nat.le_of_ble_eq_true rfl, Nat.le_of_ble_eq_true rfl⟩) (hv_preV (ci := 3) hK hT.1 (cs_kX hS) (by decide) rfl rfl) rfl rfl hl.1 rfl (lv_room (Nat.le_of_ble_eq_true rfl)) dX3_lead_125 ⟨by show 0 + 0 + 8 + 0 + 0 + 8 ≤ 16; omega, by show 0 + 0 + 64 + 0 + 0 + 64 ≤ 128; omega⟩) hT (fun v112 H locs hp113 hT => ?_)
                obtain ⟨_, hI⟩ := hp113
                have hS := hI.1
                exact hret _ v112 _ _ _ _ _ dX3_lead_128 hT ⟨_, hI⟩ (by show 0 + 0 + 8 + 0 + 0 + 8 ≤ 16; omega) (by show 0 + 0 + 64 + 0 + 0 + 64 ≤ 128; omega)
          · skip
            refine lv_bipush (v := 6) hx hb dX3_lead_81 (by decide) ?_
            refine lv_goto (tgt := 88) hx hb dX3_lead_83 (by decide) ?_
            refine lv_aload_n hx hb dX3_lead_88 rfl (lv_at hl 1 rfl) ?_
            refine hv_geti (ci := 2) (C := RX2) (T := TX2) (N := 10) hx hb hts (tw_cs in_X2) hown hK hT (cs_ks hS hi) (by decide) rfl 7 (by decide) (hts _ (tw_c tw_87)) rfl dX3_lead_89 ?_
            refine lv_topi (fun g114 eg114 => ?_)
            refine lv_iconst (v := 0) hx hb dX3_lead_92 (by decide) ?_
            refine hv_callv (va_runV (As := [.int (nI i), .int r99, .int 6, .int g114, .int 0]) (rest := []) ⟨hx, hb, hml, hown, hts⟩ (c_send l D tc hI hi r99 6 g114 0 (cs_all qhp98 (cs_n8 hS) (cs_lt8 hS hi)) hh) (cwV 5 hts (tw_V tw_137 tw_138 tw_139 tw_2 tw_140) rfl rfl rfl (by decide +kernel) ⟨Nat.le_of_ble_eq_true rfl, Nat.le_of_ble_eq_true rfl⟩) (hv_preV (ci := 1) hK hT.1 (cs_kN hS) (by decide) rfl rfl) rfl rfl hl.1 rfl (lv_room (Nat.le_of_ble_eq_true rfl)) dX3_lead_93 ⟨by show 0 + 0 + 8 ≤ 16; omega, by show 0 + 0 + 64 ≤ 128; omega⟩) hT (fun v115 H locs hp116 hT => ?_)
            obtain ⟨_, hI⟩ := hp116
            have hS := hI.1
            refine lv_aload_n hx hb dX3_lead_96 rfl (lv_at hl 2 rfl) ?_
            refine lv_aload_n hx hb dX3_lead_97 rfl (lv_at hl 1 rfl) ?_
            refine lv_aload_n hx hb dX3_lead_98 rfl (lv_at hl 2 rfl) ?_
            refine hv_geti (ci := 3) (C := RX3) (T := TX3) (N := 12) hx hb hts (tw_cs in_X3) hown hK hT (cs_kX hS) (by decide) rfl 7 (by decide) (hts _ (tw_c tw_54)) rfl dX3_lead_99 ?_
            refine lv_topi (fun g117 eg117 => ?_)
            obtain ⟨q118, h5q118, h100q118, hq118⟩ := hI.2.1.2.2.2.1
            have eg117 : g117 = (nI q118) := by rw [eg117]; exact hq118
            subst eg117
            refine hv_callv (va_runV (As := [.ref (fa (16 + i)), .int (nI q118)]) (rest := []) ⟨hx, hb, hml, hown, hts⟩ (c_setTimer l D tc hI hi (q := q118) (by have h8 := cs_lt8 hS hi; omega)) (cwV 2 hts (tw_V tw_167 tw_168 tw_489 tw_1 tw_169) rfl rfl rfl (by decide +kernel) ⟨Nat.le_of_ble_eq_true rfl, Nat.le_of_ble_eq_true rfl⟩) (hv_preV (ci := 3) hK hT.1 (cs_kX hS) (by decide) rfl rfl) rfl rfl hl.1 rfl (lv_room (Nat.le_of_ble_eq_true rfl)) dX3_lead_102 ⟨by show 0 + 0 + 8 + 0 ≤ 16; omega, by show 0 + 0 + 64 + 0 ≤ 128; omega⟩) hT (fun v119 H locs hp120 hT => ?_)
            have hI := hp120
            have hS := hI.1
            refine lv_aload_n hx hb dX3_lead_105 rfl (lv_at hl 2 rfl) ?_
            refine lv_aload_n hx hb dX3_lead_106 rfl (lv_at hl 1 rfl) ?_
            refine hv_calli (va_runV (As := [.ref (fa (16 + i))]) (rest := []) ⟨hx, hb, hml, hown, hts⟩ (c_hasQuorum l D tc hS hI.2.1.1 hi) (cwV 1 hts (tw_V tw_177 tw_178 tw_491 tw_1 tw_179) rfl rfl rfl (by decide +kernel) ⟨Nat.le_of_ble_eq_true rfl, Nat.le_of_ble_eq_true rfl⟩) (hv_preV (ci := 3) hK hT.1 (cs_kX hS) (by decide) rfl rfl) rfl rfl hl.1 rfl (lv_room (Nat.le_of_ble_eq_true rfl)) dX3_lead_107 ⟨by show 0 + 0 + 8 + 0 + 0 ≤ 16; omega, by show 0 + 0 + 64 + 0 + 0 ≤ 128; omega⟩) hT (fun r123 v121 H locs hp122 hT => ?_)
            rw [hp122] at hT
            refine lv_if_eq (tgt := 128) hx hb dX3_lead_110 (by decide) (fun c110 => ?_) (fun c110 => ?_)
            · skip
              exact hret _ v119 _ _ _ _ _ dX3_lead_128 hT ⟨_, hI⟩ (by show 0 + 0 + 8 + 0 + 0 ≤ 16; omega) (by show 0 + 0 + 64 + 0 + 0 ≤ 128; omega)
            · skip
              refine lv_aload_n hx hb dX3_lead_113 rfl (lv_at hl 2 rfl) ?_
              refine lv_iload_n hx hb dX3_lead_114 rfl (lv_at hl 3 rfl) ?_
              refine lv_iload hx hb dX3_lead_115 (lv_at hl 0 rfl) ?_
              refine lv_if_eq (tgt := 124) hx hb dX3_lead_117 (by decide) (fun c117 => ?_) (fun c117 => ?_)
              · skip
                refine lv_iconst (v := 5) hx hb dX3_lead_124 (by decide) ?_
                refine hv_callv (va_runV (As := [.int (nI i), .int 5]) (rest := []) ⟨hx, hb, hml, hown, hts⟩ (c_decide l D tc hI hi hh 5) (cwV 2 hts (tw_V tw_180 tw_181 tw_492 tw_1 tw_182) rfl rfl rfl (by decide +kernel) ⟨Nat.le_of_ble_eq_true rfl, Nat.le_of_ble_eq_true rfl⟩) (hv_preV (ci := 3) hK hT.1 (cs_kX hS) (by decide) rfl rfl) rfl rfl hl.1 rfl (lv_room (Nat.le_of_ble_eq_true rfl)) dX3_lead_125 ⟨by show 0 + 0 + 8 + 0 + 0 + 8 ≤ 16; omega, by show 0 + 0 + 64 + 0 + 0 + 64 ≤ 128; omega⟩) hT (fun v124 H locs hp125 hT => ?_)
                obtain ⟨_, hI⟩ := hp125
                have hS := hI.1
                exact hret _ v124 _ _ _ _ _ dX3_lead_128 hT ⟨_, hI⟩ (by show 0 + 0 + 8 + 0 + 0 + 8 ≤ 16; omega) (by show 0 + 0 + 64 + 0 + 0 + 64 ≤ 128; omega)
              · skip
                refine lv_iconst (v := 4) hx hb dX3_lead_120 (by decide) ?_
                refine lv_goto (tgt := 125) hx hb dX3_lead_121 (by decide) ?_
                refine hv_callv (va_runV (As := [.int (nI i), .int 4]) (rest := []) ⟨hx, hb, hml, hown, hts⟩ (c_decide l D tc hI hi hh 4) (cwV 2 hts (tw_V tw_180 tw_181 tw_492 tw_1 tw_182) rfl rfl rfl (by decide +kernel) ⟨Nat.le_of_ble_eq_true rfl, Nat.le_of_ble_eq_true rfl⟩) (hv_preV (ci := 3) hK hT.1 (cs_kX hS) (by decide) rfl rfl) rfl rfl hl.1 rfl (lv_room (Nat.le_of_ble_eq_true rfl)) dX3_lead_125 ⟨by show 0 + 0 + 8 + 0 + 0 + 8 ≤ 16; omega, by show 0 + 0 + 64 + 0 + 0 + 64 ≤ 128; omega⟩) hT (fun v126 H locs hp127 hT => ?_)
                obtain ⟨_, hI⟩ := hp127
                have hS := hI.1
                exact hret _ v126 _ _ _ _ _ dX3_lead_128 hT ⟨_, hI⟩ (by show 0 + 0 + 8 + 0 + 0 + 8 ≤ 16; omega) (by show 0 + 0 + 64 + 0 + 0 + 64 ≤ 128; omega)
    · skip
      refine lv_aload_n hx hb dX3_lead_27 rfl (lv_at hl 2 rfl) ?_
      refine lv_aload_n hx hb dX3_lead_28 rfl (lv_at hl 1 rfl) ?_
      refine lv_iload_n hx hb dX3_lead_29 rfl (lv_at hl 4 rfl) ?_
      refine hv_callv (va_runV (As := [.ref (fa (16 + i)), .int x]) (rest := []) ⟨hx, hb, hml, hown, hts⟩ (c_become l D tc hI hi x) (cwV 2 hts (tw_V tw_124 tw_125 tw_486 tw_1 tw_126) rfl rfl rfl (by decide +kernel) ⟨Nat.le_of_ble_eq_true rfl, Nat.le_of_ble_eq_true rfl⟩) (hv_preV (ci := 3) hK hT.1 (cs_kX hS) (by decide) rfl rfl) rfl rfl hl.1 rfl (lv_room (Nat.le_of_ble_eq_true rfl)) dX3_lead_30 ⟨by show 0 + 0 ≤ 16; omega, by show 0 + 0 ≤ 128; omega⟩) hT (fun v128 H locs hp129 hT => ?_)
      have hI := hp129
      have hS := hI.1
      refine lv_aload_n hx hb dX3_lead_33 rfl (lv_at hl 1 rfl) ?_
      refine lv_iload hx hb dX3_lead_34 (lv_at hl 0 rfl) ?_
      refine lv_if_eq (tgt := 43) hx hb dX3_lead_36 (by decide) (fun c36 => ?_) (fun c36 => ?_)
      · skip
        refine lv_iconst (v := 4) hx hb dX3_lead_43 (by decide) ?_
        refine hv_puti (ci := 2) (C := RX2) (T := TX2) (N := 10) hx hb hts (tw_cs in_X2) tyX2 tyX2_ok nmX2 hown hK hT (cs_ks hS hi) (by decide) rfl 6 (by decide) (hts _ (tw_c tw_85)) rfl rfl (x := 4) rfl rfl dX3_lead_44 (fun H locs hT => ?_)
        have hI := ci_put (f := 206) (a := (fa (16 + i))) (x := 4) rfl hI
        have hS := hI.1
        refine lv_aload_n hx hb dX3_lead_47 rfl (lv_at hl 1 rfl) ?_
        refine lv_aload_n hx hb dX3_lead_48 rfl (lv_at hl 1 rfl) ?_
        refine hv_geti (ci := 2) (C := RX2) (T := TX2) (N := 10) hx hb hts (tw_cs in_X2) hown hK hT (cs_ks hS hi) (by decide) rfl 4 (by decide) (hts _ (tw_c tw_81)) rfl dX3_lead_49 ?_
        refine lv_topi (fun g130 eg130 => ?_)
        refine lv_iload_n hx hb dX3_lead_52 rfl (lv_at hl 4 rfl) ?_
        refine lv_icmp_ne (tgt := 62) hx hb dX3_lead_53 (by decide) (fun c53 => ?_) (fun c53 => ?_)
        · skip
          refine lv_iconst (v := 0) hx hb dX3_lead_62 (by decide) ?_
          refine hv_puti (ci := 2) (C := RX2) (T := TX2) (N := 10) hx hb hts (tw_cs in_X2) tyX2 tyX2_ok nmX2 hown hK hT (cs_ks hS hi) (by decide) rfl 2 (by decide) (hts _ (tw_c tw_77)) rfl rfl (x := 0) rfl rfl dX3_lead_63 (fun H locs hT => ?_)
          have hI := ci_put (f := 202) (a := (fa (16 + i))) (x := 0) rfl hI
          have hS := hI.1
          refine lv_aload_n hx hb dX3_lead_66 rfl (lv_at hl 2 rfl) ?_
          refine hv_gets (ci := 3) (C := RX3) (T := TX3) (N := 12) hx hb hts (tw_cs in_X3) hown hK hT (cs_kX hS) (by decide) rfl 1 (by decide) (hts _ (tw_c tw_48)) rfl (x := (fa 2)) (cs_pN hS) dX3_lead_67 ?_
          refine lv_iload_n hx hb dX3_lead_70 rfl (lv_at hl 3 rfl) ?_
          refine lv_aload_n hx hb dX3_lead_71 rfl (lv_at hl 2 rfl) ?_
          refine lv_iload_n hx hb dX3_lead_72 rfl (lv_at hl 3 rfl) ?_
          refine hv_calli (va_runV (As := [.int (nI i)]) (rest := [.int (nI i), .ref (fa 2)]) ⟨hx, hb, hml, hown, hts⟩ (c_allBut l D tc hS hI.2.1.1 (nI i)) (cwV 1 hts (tw_V tw_131 tw_132 tw_487 tw_1 tw_133) rfl rfl rfl (by decide +kernel) ⟨Nat.le_of_ble_eq_true rfl, Nat.le_of_ble_eq_true rfl⟩) (hv_preV (ci := 3) hK hT.1 (cs_kX hS) (by decide) rfl rfl) rfl rfl hl.1 rfl (lv_room (Nat.le_of_ble_eq_true rfl)) dX3_lead_73 ⟨by show 0 + 0 + 0 ≤ 16; omega, by show 0 + 0 + 0 ≤ 128; omega⟩) hT (fun r133 v131 H locs hp132 hT => ?_)
          obtain ⟨evhp132, qhp132⟩ := hp132
          rw [evhp132] at hT
          refine lv_iload hx hb dX3_lead_76 (lv_at hl 0 rfl) ?_
          refine lv_if_eq (tgt := 86) hx hb dX3_lead_78 (by decide) (fun c78 => ?_) (fun c78 => ?_)
          · skip
            refine lv_bipush (v := 7) hx hb dX3_lead_86 (by decide) ?_
            refine lv_aload_n hx hb dX3_lead_88 rfl (lv_at hl 1 rfl) ?_
            refine hv_geti (ci := 2) (C := RX2) (T := TX2) (N := 10) hx hb hts (tw_cs in_X2) hown hK hT (cs_ks hS hi) (by decide) rfl 7 (by decide) (hts _ (tw_c tw_87)) rfl dX3_lead_89 ?_
            refine lv_topi (fun g134 eg134 => ?_)
            refine lv_iconst (v := 0) hx hb dX3_lead_92 (by decide) ?_
            refine hv_callv (va_runV (As := [.int (nI i), .int r133, .int 7, .int g134, .int 0]) (rest := []) ⟨hx, hb, hml, hown, hts⟩ (c_send l D tc hI hi r133 7 g134 0 (cs_all qhp132 (cs_n8 hS) (cs_lt8 hS hi)) hh) (cwV 5 hts (tw_V tw_137 tw_138 tw_139 tw_2 tw_140) rfl rfl rfl (by decide +kernel) ⟨Nat.le_of_ble_eq_true rfl, Nat.le_of_ble_eq_true rfl⟩) (hv_preV (ci := 1) hK hT.1 (cs_kN hS) (by decide) rfl rfl) rfl rfl hl.1 rfl (lv_room (Nat.le_of_ble_eq_true rfl)) dX3_lead_93 ⟨by show 0 + 0 + 0 + 8 ≤ 16; omega, by show 0 + 0 + 0 + 64 ≤ 128; omega⟩) hT (fun v135 H locs hp136 hT => ?_)
            obtain ⟨_, hI⟩ := hp136
            have hS := hI.1
            refine lv_aload_n hx hb dX3_lead_96 rfl (lv_at hl 2 rfl) ?_
            refine lv_aload_n hx hb dX3_lead_97 rfl (lv_at hl 1 rfl) ?_
            refine lv_aload_n hx hb dX3_lead_98 rfl (lv_at hl 2 rfl) ?_
            refine hv_geti (ci := 3) (C := RX3) (T := TX3) (N := 12) hx hb hts (tw_cs in_X3) hown hK hT (cs_kX hS) (by decide) rfl 7 (by decide) (hts _ (tw_c tw_54)) rfl dX3_lead_99 ?_
            refine lv_topi (fun g137 eg137 => ?_)
            obtain ⟨q138, h5q138, h100q138, hq138⟩ := hI.2.1.2.2.2.1
            have eg137 : g137 = (nI q138) := by rw [eg137]; exact hq138
            subst eg137
            refine hv_callv (va_runV (As := [.ref (fa (16 + i)), .int (nI q138)]) (rest := []) ⟨hx, hb, hml, hown, hts⟩ (c_setTimer l D tc hI hi (q := q138) (by have h8 := cs_lt8 hS hi; omega)) (cwV 2 hts (tw_V tw_167 tw_168 tw_489 tw_1 tw_169) rfl rfl rfl (by decide +kernel) ⟨Nat.le_of_ble_eq_true rfl, Nat.le_of_ble_eq_true rfl⟩) (hv_preV (ci := 3) hK hT.1 (cs_kX hS) (by decide) rfl rfl) rfl rfl hl.1 rfl (lv_room (Nat.le_of_ble_eq_true rfl)) dX3_lead_102 ⟨by show 0 + 0 + 0 + 8 + 0 ≤ 16; omega, by show 0 + 0 + 0 + 64 + 0 ≤ 128; omega⟩) hT (fun v139 H locs hp140 hT => ?_)
            have hI := hp140
            have hS := hI.1
            refine lv_aload_n hx hb dX3_lead_105 rfl (lv_at hl 2 rfl) ?_
            refine lv_aload_n hx hb dX3_lead_106 rfl (lv_at hl 1 rfl) ?_
            refine hv_calli (va_runV (As := [.ref (fa (16 + i))]) (rest := []) ⟨hx, hb, hml, hown, hts⟩ (c_hasQuorum l D tc hS hI.2.1.1 hi) (cwV 1 hts (tw_V tw_177 tw_178 tw_491 tw_1 tw_179) rfl rfl rfl (by decide +kernel) ⟨Nat.le_of_ble_eq_true rfl, Nat.le_of_ble_eq_true rfl⟩) (hv_preV (ci := 3) hK hT.1 (cs_kX hS) (by decide) rfl rfl) rfl rfl hl.1 rfl (lv_room (Nat.le_of_ble_eq_true rfl)) dX3_lead_107 ⟨by show 0 + 0 + 0 + 8 + 0 + 0 ≤ 16; omega, by show 0 + 0 + 0 + 64 + 0 + 0 ≤ 128; omega⟩) hT (fun r143 v141 H locs hp142 hT => ?_)
            rw [hp142] at hT
            refine lv_if_eq (tgt := 128) hx hb dX3_lead_110 (by decide) (fun c110 => ?_) (fun c110 => ?_)
            · skip
              exact hret _ v139 _ _ _ _ _ dX3_lead_128 hT ⟨_, hI⟩ (by show 0 + 0 + 0 + 8 + 0 + 0 ≤ 16; omega) (by show 0 + 0 + 0 + 64 + 0 + 0 ≤ 128; omega)
            · skip
              refine lv_aload_n hx hb dX3_lead_113 rfl (lv_at hl 2 rfl) ?_
              refine lv_iload_n hx hb dX3_lead_114 rfl (lv_at hl 3 rfl) ?_
              refine lv_iload hx hb dX3_lead_115 (lv_at hl 0 rfl) ?_
              refine lv_if_eq (tgt := 124) hx hb dX3_lead_117 (by decide) (fun c117 => ?_) (fun c117 => ?_)
              · skip
                refine lv_iconst (v := 5) hx hb dX3_lead_124 (by decide) ?_
                refine hv_callv (va_runV (As := [.int (nI i), .int 5]) (rest := []) ⟨hx, hb, hml, hown, hts⟩ (c_decide l D tc hI hi hh 5) (cwV 2 hts (tw_V tw_180 tw_181 tw_492 tw_1 tw_182) rfl rfl rfl (by decide +kernel) ⟨Nat.le_of_ble_eq_true rfl, Nat.le_of_ble_eq_true rfl⟩) (hv_preV (ci := 3) hK hT.1 (cs_kX hS) (by decide) rfl rfl) rfl rfl hl.1 rfl (lv_room (Nat.le_of_ble_eq_true rfl)) dX3_lead_125 ⟨by show 0 + 0 + 0 + 8 + 0 + 0 + 8 ≤ 16; omega, by show 0 + 0 + 0 + 64 + 0 + 0 + 64 ≤ 128; omega⟩) hT (fun v144 H locs hp145 hT => ?_)
                obtain ⟨_, hI⟩ := hp145
                have hS := hI.1
                exact hret _ v144 _ _ _ _ _ dX3_lead_128 hT ⟨_, hI⟩ (by show 0 + 0 + 0 + 8 + 0 + 0 + 8 ≤ 16; omega) (by show 0 + 0 + 0 + 64 + 0 + 0 + 64 ≤ 128; omega)
              · skip
                refine lv_iconst (v := 4) hx hb dX3_lead_120 (by decide) ?_
                refine lv_goto (tgt := 125) hx hb dX3_lead_121 (by decide) ?_
                refine hv_callv (va_runV (As := [.int (nI i), .int 4]) (rest := []) ⟨hx, hb, hml, hown, hts⟩ (c_decide l D tc hI hi hh 4) (cwV 2 hts (tw_V tw_180 tw_181 tw_492 tw_1 tw_182) rfl rfl rfl (by decide +kernel) ⟨Nat.le_of_ble_eq_true rfl, Nat.le_of_ble_eq_true rfl⟩) (hv_preV (ci := 3) hK hT.1 (cs_kX hS) (by decide) rfl rfl) rfl rfl hl.1 rfl (lv_room (Nat.le_of_ble_eq_true rfl)) dX3_lead_125 ⟨by show 0 + 0 + 0 + 8 + 0 + 0 + 8 ≤ 16; omega, by show 0 + 0 + 0 + 64 + 0 + 0 + 64 ≤ 128; omega⟩) hT (fun v146 H locs hp147 hT => ?_)
                obtain ⟨_, hI⟩ := hp147
                have hS := hI.1
                exact hret _ v146 _ _ _ _ _ dX3_lead_128 hT ⟨_, hI⟩ (by show 0 + 0 + 0 + 8 + 0 + 0 + 8 ≤ 16; omega) (by show 0 + 0 + 0 + 64 + 0 + 0 + 64 ≤ 128; omega)
          · skip
            refine lv_bipush (v := 6) hx hb dX3_lead_81 (by decide) ?_
            refine lv_goto (tgt := 88) hx hb dX3_lead_83 (by decide) ?_
            refine lv_aload_n hx hb dX3_lead_88 rfl (lv_at hl 1 rfl) ?_
            refine hv_geti (ci := 2) (C := RX2) (T := TX2) (N := 10) hx hb hts (tw_cs in_X2) hown hK hT (cs_ks hS hi) (by decide) rfl 7 (by decide) (hts _ (tw_c tw_87)) rfl dX3_lead_89 ?_
            refine lv_topi (fun g148 eg148 => ?_)
            refine lv_iconst (v := 0) hx hb dX3_lead_92 (by decide) ?_
            refine hv_callv (va_runV (As := [.int (nI i), .int r133, .int 6, .int g148, .int 0]) (rest := []) ⟨hx, hb, hml, hown, hts⟩ (c_send l D tc hI hi r133 6 g148 0 (cs_all qhp132 (cs_n8 hS) (cs_lt8 hS hi)) hh) (cwV 5 hts (tw_V tw_137 tw_138 tw_139 tw_2 tw_140) rfl rfl rfl (by decide +kernel) ⟨Nat.le_of_ble_eq_true rfl, Nat.le_of_ble_eq_true rfl⟩) (hv_preV (ci := 1) hK hT.1 (cs_kN hS) (by decide) rfl rfl) rfl rfl hl.1 rfl (lv_room (Nat.le_of_ble_eq_true rfl)) dX3_lead_93 ⟨by show 0 + 0 + 0 + 8 ≤ 16; omega, by show 0 + 0 + 0 + 64 ≤ 128; omega⟩) hT (fun v149 H locs hp150 hT => ?_)
            obtain ⟨_, hI⟩ := hp150
            have hS := hI.1
            refine lv_aload_n hx hb dX3_lead_96 rfl (lv_at hl 2 rfl) ?_
            refine lv_aload_n hx hb dX3_lead_97 rfl (lv_at hl 1 rfl) ?_
            refine lv_aload_n hx hb dX3_lead_98 rfl (lv_at hl 2 rfl) ?_
            refine hv_geti (ci := 3) (C := RX3) (T := TX3) (N := 12) hx hb hts (tw_cs in_X3) hown hK hT (cs_kX hS) (by decide) rfl 7 (by decide) (hts _ (tw_c tw_54)) rfl dX3_lead_99 ?_
            refine lv_topi (fun g151 eg151 => ?_)
            obtain ⟨q152, h5q152, h100q152, hq152⟩ := hI.2.1.2.2.2.1
            have eg151 : g151 = (nI q152) := by rw [eg151]; exact hq152
            subst eg151
            refine hv_callv (va_runV (As := [.ref (fa (16 + i)), .int (nI q152)]) (rest := []) ⟨hx, hb, hml, hown, hts⟩ (c_setTimer l D tc hI hi (q := q152) (by have h8 := cs_lt8 hS hi; omega)) (cwV 2 hts (tw_V tw_167 tw_168 tw_489 tw_1 tw_169) rfl rfl rfl (by decide +kernel) ⟨Nat.le_of_ble_eq_true rfl, Nat.le_of_ble_eq_true rfl⟩) (hv_preV (ci := 3) hK hT.1 (cs_kX hS) (by decide) rfl rfl) rfl rfl hl.1 rfl (lv_room (Nat.le_of_ble_eq_true rfl)) dX3_lead_102 ⟨by show 0 + 0 + 0 + 8 + 0 ≤ 16; omega, by show 0 + 0 + 0 + 64 + 0 ≤ 128; omega⟩) hT (fun v153 H locs hp154 hT => ?_)
            have hI := hp154
            have hS := hI.1
            refine lv_aload_n hx hb dX3_lead_105 rfl (lv_at hl 2 rfl) ?_
            refine lv_aload_n hx hb dX3_lead_106 rfl (lv_at hl 1 rfl) ?_
            refine hv_calli (va_runV (As := [.ref (fa (16 + i))]) (rest := []) ⟨hx, hb, hml, hown, hts⟩ (c_hasQuorum l D tc hS hI.2.1.1 hi) (cwV 1 hts (tw_V tw_177 tw_178 tw_491 tw_1 tw_179) rfl rfl rfl (by decide +kernel) ⟨Nat.le_of_ble_eq_true rfl, Nat.le_of_ble_eq_true rfl⟩) (hv_preV (ci := 3) hK hT.1 (cs_kX hS) (by decide) rfl rfl) rfl rfl hl.1 rfl (lv_room (Nat.le_of_ble_eq_true rfl)) dX3_lead_107 ⟨by show 0 + 0 + 0 + 8 + 0 + 0 ≤ 16; omega, by show 0 + 0 + 0 + 64 + 0 + 0 ≤ 128; omega⟩) hT (fun r157 v155 H locs hp156 hT => ?_)
            rw [hp156] at hT
            refine lv_if_eq (tgt := 128) hx hb dX3_lead_110 (by decide) (fun c110 => ?_) (fun c110 => ?_)
            · skip
              exact hret _ v153 _ _ _ _ _ dX3_lead_128 hT ⟨_, hI⟩ (by show 0 + 0 + 0 + 8 + 0 + 0 ≤ 16; omega) (by show 0 + 0 + 0 + 64 + 0 + 0 ≤ 128; omega)
            · skip
              refine lv_aload_n hx hb dX3_lead_113 rfl (lv_at hl 2 rfl) ?_
              refine lv_iload_n hx hb dX3_lead_114 rfl (lv_at hl 3 rfl) ?_
              refine lv_iload hx hb dX3_lead_115 (lv_at hl 0 rfl) ?_
              refine lv_if_eq (tgt := 124) hx hb dX3_lead_117 (by decide) (fun c117 => ?_) (fun c117 => ?_)
              · skip
                refine lv_iconst (v := 5) hx hb dX3_lead_124 (by decide) ?_
                refine hv_callv (va_runV (As := [.int (nI i), .int 5]) (rest := []) ⟨hx, hb, hml, hown, hts⟩ (c_decide l D tc hI hi hh 5) (cwV 2 hts (tw_V tw_180 tw_181 tw_492 tw_1 tw_182) rfl rfl rfl (by decide +kernel) ⟨Nat.le_of_ble_eq_true rfl, Nat.le_of_ble_eq_true rfl⟩) (hv_preV (ci := 3) hK hT.1 (cs_kX hS) (by decide) rfl rfl) rfl rfl hl.1 rfl (lv_room (Nat.le_of_ble_eq_true rfl)) dX3_lead_125 ⟨by show 0 + 0 + 0 + 8 + 0 + 0 + 8 ≤ 16; omega, by show 0 + 0 + 0 + 64 + 0 + 0 + 64 ≤ 128; omega⟩) hT (fun v158 H locs hp159 hT => ?_)
                obtain ⟨_, hI⟩ := hp159
                have hS := hI.1
                exact hret _ v158 _ _ _ _ _ dX3_lead_128 hT ⟨_, hI⟩ (by show 0 + 0 + 0 + 8 + 0 + 0 + 8 ≤ 16; omega) (by show 0 + 0 + 0 + 64 + 0 + 0 + 64 ≤ 128; omega)
              · skip
                refine lv_iconst (v := 4) hx hb dX3_lead_120 (by decide) ?_
                refine lv_goto (tgt := 125) hx hb dX3_lead_121 (by decide) ?_
                refine hv_callv (va_runV (As := [.int (nI i), .int 4]) (rest := []) ⟨hx, hb, hml, hown, hts⟩ (c_decide l D tc hI hi hh 4) (cwV 2 hts (tw_V tw_180 tw_181 tw_492 tw_1 tw_182) rfl rfl rfl (by decide +kernel) ⟨Nat.le_of_ble_eq_true rfl, Nat.le_of_ble_eq_true rfl⟩) (hv_preV (ci := 3) hK hT.1 (cs_kX hS) (by decide) rfl rfl) rfl rfl hl.1 rfl (lv_room (Nat.le_of_ble_eq_true rfl)) dX3_lead_125 ⟨by show 0 + 0 + 0 + 8 + 0 + 0 + 8 ≤ 16; omega, by show 0 + 0 + 0 + 64 + 0 + 0 + 64 ≤ 128; omega⟩) hT (fun v160 H locs hp161 hT => ?_)
                obtain ⟨_, hI⟩ := hp161
                have hS := hI.1
                exact hret _ v160 _ _ _ _ _ dX3_lead_128 hT ⟨_, hI⟩ (by show 0 + 0 + 0 + 8 + 0 + 0 + 8 ≤ 16; omega) (by show 0 + 0 + 0 + 64 + 0 + 0 + 64 ≤ 128; omega)
        · skip
          refine lv_iconst (v := 1) hx hb dX3_lead_56 (by decide) ?_
          refine lv_iload_n hx hb dX3_lead_57 rfl (lv_at hl 3 rfl) ?_
          refine lv_ishl hx hb dX3_lead_58 ?_
          refine lv_goto (tgt := 63) hx hb dX3_lead_59 (by decide) ?_
          refine hv_puti (ci := 2) (C := RX2) (T := TX2) (N := 10) hx hb hts (tw_cs in_X2) tyX2 tyX2_ok nmX2 hown hK hT (cs_ks hS hi) (by decide) rfl 2 (by decide) (hts _ (tw_c tw_77)) rfl rfl (x := (1 <<< ((nI i) &&& 31))) rfl rfl dX3_lead_63 (fun H locs hT => ?_)
          have hI := ci_put (f := 202) (a := (fa (16 + i))) (x := (1 <<< ((nI i) &&& 31))) rfl hI
          have hS := hI.1
          refine lv_aload_n hx hb dX3_lead_66 rfl (lv_at hl 2 rfl) ?_
          refine hv_gets (ci := 3) (C := RX3) (T := TX3) (N := 12) hx hb hts (tw_cs in_X3) hown hK hT (cs_kX hS) (by decide) rfl 1 (by decide) (hts _ (tw_c tw_48)) rfl (x := (fa 2)) (cs_pN hS) dX3_lead_67 ?_
          refine lv_iload_n hx hb dX3_lead_70 rfl (lv_at hl 3 rfl) ?_
          refine lv_aload_n hx hb dX3_lead_71 rfl (lv_at hl 2 rfl) ?_
          refine lv_iload_n hx hb dX3_lead_72 rfl (lv_at hl 3 rfl) ?_
          refine hv_calli (va_runV (As := [.int (nI i)]) (rest := [.int (nI i), .ref (fa 2)]) ⟨hx, hb, hml, hown, hts⟩ (c_allBut l D tc hS hI.2.1.1 (nI i)) (cwV 1 hts (tw_V tw_131 tw_132 tw_487 tw_1 tw_133) rfl rfl rfl (by decide +kernel) ⟨Nat.le_of_ble_eq_true rfl, Nat.le_of_ble_eq_true rfl⟩) (hv_preV (ci := 3) hK hT.1 (cs_kX hS) (by decide) rfl rfl) rfl rfl hl.1 rfl (lv_room (Nat.le_of_ble_eq_true rfl)) dX3_lead_73 ⟨by show 0 + 0 + 0 ≤ 16; omega, by show 0 + 0 + 0 ≤ 128; omega⟩) hT (fun r164 v162 H locs hp163 hT => ?_)
          obtain ⟨evhp163, qhp163⟩ := hp163
          rw [evhp163] at hT
          refine lv_iload hx hb dX3_lead_76 (lv_at hl 0 rfl) ?_
          refine lv_if_eq (tgt := 86) hx hb dX3_lead_78 (by decide) (fun c78 => ?_) (fun c78 => ?_)
          · skip
            refine lv_bipush (v := 7) hx hb dX3_lead_86 (by decide) ?_
            refine lv_aload_n hx hb dX3_lead_88 rfl (lv_at hl 1 rfl) ?_
            refine hv_geti (ci := 2) (C := RX2) (T := TX2) (N := 10) hx hb hts (tw_cs in_X2) hown hK hT (cs_ks hS hi) (by decide) rfl 7 (by decide) (hts _ (tw_c tw_87)) rfl dX3_lead_89 ?_
            refine lv_topi (fun g165 eg165 => ?_)
            refine lv_iconst (v := 0) hx hb dX3_lead_92 (by decide) ?_
            refine hv_callv (va_runV (As := [.int (nI i), .int r164, .int 7, .int g165, .int 0]) (rest := []) ⟨hx, hb, hml, hown, hts⟩ (c_send l D tc hI hi r164 7 g165 0 (cs_all qhp163 (cs_n8 hS) (cs_lt8 hS hi)) hh) (cwV 5 hts (tw_V tw_137 tw_138 tw_139 tw_2 tw_140) rfl rfl rfl (by decide +kernel) ⟨Nat.le_of_ble_eq_true rfl, Nat.le_of_ble_eq_true rfl⟩) (hv_preV (ci := 1) hK hT.1 (cs_kN hS) (by decide) rfl rfl) rfl rfl hl.1 rfl (lv_room (Nat.le_of_ble_eq_true rfl)) dX3_lead_93 ⟨by show 0 + 0 + 0 + 8 ≤ 16; omega, by show 0 + 0 + 0 + 64 ≤ 128; omega⟩) hT (fun v166 H locs hp167 hT => ?_)
            obtain ⟨_, hI⟩ := hp167
            have hS := hI.1
            refine lv_aload_n hx hb dX3_lead_96 rfl (lv_at hl 2 rfl) ?_
            refine lv_aload_n hx hb dX3_lead_97 rfl (lv_at hl 1 rfl) ?_
            refine lv_aload_n hx hb dX3_lead_98 rfl (lv_at hl 2 rfl) ?_
            refine hv_geti (ci := 3) (C := RX3) (T := TX3) (N := 12) hx hb hts (tw_cs in_X3) hown hK hT (cs_kX hS) (by decide) rfl 7 (by decide) (hts _ (tw_c tw_54)) rfl dX3_lead_99 ?_
            refine lv_topi (fun g168 eg168 => ?_)
            obtain ⟨q169, h5q169, h100q169, hq169⟩ := hI.2.1.2.2.2.1
            have eg168 : g168 = (nI q169) := by rw [eg168]; exact hq169
            subst eg168
            refine hv_callv (va_runV (As := [.ref (fa (16 + i)), .int (nI q169)]) (rest := []) ⟨hx, hb, hml, hown, hts⟩ (c_setTimer l D tc hI hi (q := q169) (by have h8 := cs_lt8 hS hi; omega)) (cwV 2 hts (tw_V tw_167 tw_168 tw_489 tw_1 tw_169) rfl rfl rfl (by decide +kernel) ⟨Nat.le_of_ble_eq_true rfl, Nat.le_of_ble_eq_true rfl⟩) (hv_preV (ci := 3) hK hT.1 (cs_kX hS) (by decide) rfl rfl) rfl rfl hl.1 rfl (lv_room (Nat.le_of_ble_eq_true rfl)) dX3_lead_102 ⟨by show 0 + 0 + 0 + 8 + 0 ≤ 16; omega, by show 0 + 0 + 0 + 64 + 0 ≤ 128; omega⟩) hT (fun v170 H locs hp171 hT => ?_)
            have hI := hp171
            have hS := hI.1
            refine lv_aload_n hx hb dX3_lead_105 rfl (lv_at hl 2 rfl) ?_
            refine lv_aload_n hx hb dX3_lead_106 rfl (lv_at hl 1 rfl) ?_
            refine hv_calli (va_runV (As := [.ref (fa (16 + i))]) (rest := []) ⟨hx, hb, hml, hown, hts⟩ (c_hasQuorum l D tc hS hI.2.1.1 hi) (cwV 1 hts (tw_V tw_177 tw_178 tw_491 tw_1 tw_179) rfl rfl rfl (by decide +kernel) ⟨Nat.le_of_ble_eq_true rfl, Nat.le_of_ble_eq_true rfl⟩) (hv_preV (ci := 3) hK hT.1 (cs_kX hS) (by decide) rfl rfl) rfl rfl hl.1 rfl (lv_room (Nat.le_of_ble_eq_true rfl)) dX3_lead_107 ⟨by show 0 + 0 + 0 + 8 + 0 + 0 ≤ 16; omega, by show 0 + 0 + 0 + 64 + 0 + 0 ≤ 128; omega⟩) hT (fun r174 v172 H locs hp173 hT => ?_)
            rw [hp173] at hT
            refine lv_if_eq (tgt := 128) hx hb dX3_lead_110 (by decide) (fun c110 => ?_) (fun c110 => ?_)
            · skip
              exact hret _ v170 _ _ _ _ _ dX3_lead_128 hT ⟨_, hI⟩ (by show 0 + 0 + 0 + 8 + 0 + 0 ≤ 16; omega) (by show 0 + 0 + 0 + 64 + 0 + 0 ≤ 128; omega)
            · skip
              refine lv_aload_n hx hb dX3_lead_113 rfl (lv_at hl 2 rfl) ?_
              refine lv_iload_n hx hb dX3_lead_114 rfl (lv_at hl 3 rfl) ?_
              refine lv_iload hx hb dX3_lead_115 (lv_at hl 0 rfl) ?_
              refine lv_if_eq (tgt := 124) hx hb dX3_lead_117 (by decide) (fun c117 => ?_) (fun c117 => ?_)
              · skip
                refine lv_iconst (v := 5) hx hb dX3_lead_124 (by decide) ?_
                refine hv_callv (va_runV (As := [.int (nI i), .int 5]) (rest := []) ⟨hx, hb, hml, hown, hts⟩ (c_decide l D tc hI hi hh 5) (cwV 2 hts (tw_V tw_180 tw_181 tw_492 tw_1 tw_182) rfl rfl rfl (by decide +kernel) ⟨Nat.le_of_ble_eq_true rfl, Nat.le_of_ble_eq_true rfl⟩) (hv_preV (ci := 3) hK hT.1 (cs_kX hS) (by decide) rfl rfl) rfl rfl hl.1 rfl (lv_room (Nat.le_of_ble_eq_true rfl)) dX3_lead_125 ⟨by show 0 + 0 + 0 + 8 + 0 + 0 + 8 ≤ 16; omega, by show 0 + 0 + 0 + 64 + 0 + 0 + 64 ≤ 128; omega⟩) hT (fun v175 H locs hp176 hT => ?_)
                obtain ⟨_, hI⟩ := hp176
                have hS := hI.1
                exact hret _ v175 _ _ _ _ _ dX3_lead_128 hT ⟨_, hI⟩ (by show 0 + 0 + 0 + 8 + 0 + 0 + 8 ≤ 16; omega) (by show 0 + 0 + 0 + 64 + 0 + 0 + 64 ≤ 128; omega)
              · skip
                refine lv_iconst (v := 4) hx hb dX3_lead_120 (by decide) ?_
                refine lv_goto (tgt := 125) hx hb dX3_lead_121 (by decide) ?_
                refine hv_callv (va_runV (As := [.int (nI i), .int 4]) (rest := []) ⟨hx, hb, hml, hown, hts⟩ (c_decide l D tc hI hi hh 4) (cwV 2 hts (tw_V tw_180 tw_181 tw_492 tw_1 tw_182) rfl rfl rfl (by decide +kernel) ⟨Nat.le_of_ble_eq_true rfl, Nat.le_of_ble_eq_true rfl⟩) (hv_preV (ci := 3) hK hT.1 (cs_kX hS) (by decide) rfl rfl) rfl rfl hl.1 rfl (lv_room (Nat.le_of_ble_eq_true rfl)) dX3_lead_125 ⟨by show 0 + 0 + 0 + 8 + 0 + 0 + 8 ≤ 16; omega, by show 0 + 0 + 0 + 64 + 0 + 0 + 64 ≤ 128; omega⟩) hT (fun v177 H locs hp178 hT => ?_)
                obtain ⟨_, hI⟩ := hp178
                have hS := hI.1
                exact hret _ v177 _ _ _ _ _ dX3_lead_128 hT ⟨_, hI⟩ (by show 0 + 0 + 0 + 8 + 0 + 0 + 8 ≤ 16; omega) (by show 0 + 0 + 0 + 64 + 0 + 0 + 64 ≤ 128; omega)
          · skip
            refine lv_bipush (v := 6) hx hb dX3_lead_81 (by decide) ?_
            refine lv_goto (tgt := 88) hx hb dX3_lead_83 (by decide) ?_
            refine lv_aload_n hx hb dX3_lead_88 rfl (lv_at hl 1 rfl) ?_
            refine hv_geti (ci := 2) (C := RX2) (T := TX2) (N := 10) hx hb hts (tw_cs in_X2) hown hK hT (cs_ks hS hi) (by decide) rfl 7 (by decide) (hts _ (tw_c tw_87)) rfl dX3_lead_89 ?_
            refine lv_topi (fun g179 eg179 => ?_)
            refine lv_iconst (v := 0) hx hb dX3_lead_92 (by decide) ?_
            refine hv_callv (va_runV (As := [.int (nI i), .int r164, .int 6, .int g179, .int 0]) (rest := []) ⟨hx, hb, hml, hown, hts⟩ (c_send l D tc hI hi r164 6 g179 0 (cs_all qhp163 (cs_n8 hS) (cs_lt8 hS hi)) hh) (cwV 5 hts (tw_V tw_137 tw_138 tw_139 tw_2 tw_140) rfl rfl rfl (by decide +kernel) ⟨Nat.le_of_ble_eq_true rfl, Nat.le_of_ble_eq_true rfl⟩) (hv_preV (ci := 1) hK hT.1 (cs_kN hS) (by decide) rfl rfl) rfl rfl hl.1 rfl (lv_room (Nat.le_of_ble_eq_true rfl)) dX3_lead_93 ⟨by show 0 + 0 + 0 + 8 ≤ 16; omega, by show 0 + 0 + 0 + 64 ≤ 128; omega⟩) hT (fun v180 H locs hp181 hT => ?_)
            obtain ⟨_, hI⟩ := hp181
            have hS := hI.1
            refine lv_aload_n hx hb dX3_lead_96 rfl (lv_at hl 2 rfl) ?_
            refine lv_aload_n hx hb dX3_lead_97 rfl (lv_at hl 1 rfl) ?_
            refine lv_aload_n hx hb dX3_lead_98 rfl (lv_at hl 2 rfl) ?_
            refine hv_geti (ci := 3) (C := RX3) (T := TX3) (N := 12) hx hb hts (tw_cs in_X3) hown hK hT (cs_kX hS) (by decide) rfl 7 (by decide) (hts _ (tw_c tw_54)) rfl dX3_lead_99 ?_
            refine lv_topi (fun g182 eg182 => ?_)
            obtain ⟨q183, h5q183, h100q183, hq183⟩ := hI.2.1.2.2.2.1
            have eg182 : g182 = (nI q183) := by rw [eg182]; exact hq183
            subst eg182
            refine hv_callv (va_runV (As := [.ref (fa (16 + i)), .int (nI q183)]) (rest := []) ⟨hx, hb, hml, hown, hts⟩ (c_setTimer l D tc hI hi (q := q183) (by have h8 := cs_lt8 hS hi; omega)) (cwV 2 hts (tw_V tw_167 tw_168 tw_489 tw_1 tw_169) rfl rfl rfl (by decide +kernel) ⟨Nat.le_of_ble_eq_true rfl, Nat.le_of_ble_eq_true rfl⟩) (hv_preV (ci := 3) hK hT.1 (cs_kX hS) (by decide) rfl rfl) rfl rfl hl.1 rfl (lv_room (Nat.le_of_ble_eq_true rfl)) dX3_lead_102 ⟨by show 0 + 0 + 0 + 8 + 0 ≤ 16; omega, by show 0 + 0 + 0 + 64 + 0 ≤ 128; omega⟩) hT (fun v184 H locs hp185 hT => ?_)
            have hI := hp185
            have hS := hI.1
            refine lv_aload_n hx hb dX3_lead_105 rfl (lv_at hl 2 rfl) ?_
            refine lv_aload_n hx hb dX3_lead_106 rfl (lv_at hl 1 rfl) ?_
            refine hv_calli (va_runV (As := [.ref (fa (16 + i))]) (rest := []) ⟨hx, hb, hml, hown, hts⟩ (c_hasQuorum l D tc hS hI.2.1.1 hi) (cwV 1 hts (tw_V tw_177 tw_178 tw_491 tw_1 tw_179) rfl rfl rfl (by decide +kernel) ⟨Nat.le_of_ble_eq_true rfl, Nat.le_of_ble_eq_true rfl⟩) (hv_preV (ci := 3) hK hT.1 (cs_kX hS) (by decide) rfl rfl) rfl rfl hl.1 rfl (lv_room (Nat.le_of_ble_eq_true rfl)) dX3_lead_107 ⟨by show 0 + 0 + 0 + 8 + 0 + 0 ≤ 16; omega, by show 0 + 0 + 0 + 64 + 0 + 0 ≤ 128; omega⟩) hT (fun r188 v186 H locs hp187 hT => ?_)
            rw [hp187] at hT
            refine lv_if_eq (tgt := 128) hx hb dX3_lead_110 (by decide) (fun c110 => ?_) (fun c110 => ?_)
            · skip
              exact hret _ v184 _ _ _ _ _ dX3_lead_128 hT ⟨_, hI⟩ (by show 0 + 0 + 0 + 8 + 0 + 0 ≤ 16; omega) (by show 0 + 0 + 0 + 64 + 0 + 0 ≤ 128; omega)
            · skip
              refine lv_aload_n hx hb dX3_lead_113 rfl (lv_at hl 2 rfl) ?_
              refine lv_iload_n hx hb dX3_lead_114 rfl (lv_at hl 3 rfl) ?_
              refine lv_iload hx hb dX3_lead_115 (lv_at hl 0 rfl) ?_
              refine lv_if_eq (tgt := 124) hx hb dX3_lead_117 (by decide) (fun c117 => ?_) (fun c117 => ?_)
              · skip
                refine lv_iconst (v := 5) hx hb dX3_lead_124 (by decide) ?_
                refine hv_callv (va_runV (As := [.int (nI i), .int 5]) (rest := []) ⟨hx, hb, hml, hown, hts⟩ (c_decide l D tc hI hi hh 5) (cwV 2 hts (tw_V tw_180 tw_181 tw_492 tw_1 tw_182) rfl rfl rfl (by decide +kernel) ⟨Nat.le_of_ble_eq_true rfl, Nat.le_of_ble_eq_true rfl⟩) (hv_preV (ci := 3) hK hT.1 (cs_kX hS) (by decide) rfl rfl) rfl rfl hl.1 rfl (lv_room (Nat.le_of_ble_eq_true rfl)) dX3_lead_125 ⟨by show 0 + 0 + 0 + 8 + 0 + 0 + 8 ≤ 16; omega, by show 0 + 0 + 0 + 64 + 0 + 0 + 64 ≤ 128; omega⟩) hT (fun v189 H locs hp190 hT => ?_)
                obtain ⟨_, hI⟩ := hp190
                have hS := hI.1
                exact hret _ v189 _ _ _ _ _ dX3_lead_128 hT ⟨_, hI⟩ (by show 0 + 0 + 0 + 8 + 0 + 0 + 8 ≤ 16; omega) (by show 0 + 0 + 0 + 64 + 0 + 0 + 64 ≤ 128; omega)
              · skip
                refine lv_iconst (v := 4) hx hb dX3_lead_120 (by decide) ?_
                refine lv_goto (tgt := 125) hx hb dX3_lead_121 (by decide) ?_
                refine hv_callv (va_runV (As := [.int (nI i), .int 4]) (rest := []) ⟨hx, hb, hml, hown, hts⟩ (c_decide l D tc hI hi hh 4) (cwV 2 hts (tw_V tw_180 tw_181 tw_492 tw_1 tw_182) rfl rfl rfl (by decide +kernel) ⟨Nat.le_of_ble_eq_true rfl, Nat.le_of_ble_eq_true rfl⟩) (hv_preV (ci := 3) hK hT.1 (cs_kX hS) (by decide) rfl rfl) rfl rfl hl.1 rfl (lv_room (Nat.le_of_ble_eq_true rfl)) dX3_lead_125 ⟨by show 0 + 0 + 0 + 8 + 0 + 0 + 8 ≤ 16; omega, by show 0 + 0 + 0 + 64 + 0 + 0 + 64 ≤ 128; omega⟩) hT (fun v191 H locs hp192 hT => ?_)
                obtain ⟨_, hI⟩ := hp192
                have hS := hI.1
                exact hret _ v191 _ _ _ _ _ dX3_lead_128 hT ⟨_, hI⟩ (by show 0 + 0 + 0 + 8 + 0 + 0 + 8 ≤ 16; omega) (by show 0 + 0 + 0 + 64 + 0 + 0 + 64 ≤ 128; omega)
      · skip
        refine lv_iconst (v := 2) hx hb dX3_lead_39 (by decide) ?_
        refine lv_goto (tgt := 44) hx hb dX3_lead_40 (by decide) ?_
        refine hv_puti (ci := 2) (C := RX2) (T := TX2) (N := 10) hx hb hts (tw_cs in_X2) tyX2 tyX2_ok nmX2 hown hK hT (cs_ks hS hi) (by decide) rfl 6 (by decide) (hts _ (tw_c tw_85)) rfl rfl (x := 2) rfl rfl dX3_lead_44 (fun H locs hT => ?_)
        have hI := ci_put (f := 206) (a := (fa (16 + i))) (x := 2) rfl hI
        have hS := hI.1
        refine lv_aload_n hx hb dX3_lead_47 rfl (lv_at hl 1 rfl) ?_
        refine lv_aload_n hx hb dX3_lead_48 rfl (lv_at hl 1 rfl) ?_
        refine hv_geti (ci := 2) (C := RX2) (T := TX2) (N := 10) hx hb hts (tw_cs in_X2) hown hK hT (cs_ks hS hi) (by decide) rfl 4 (by decide) (hts _ (tw_c tw_81)) rfl dX3_lead_49 ?_
        refine lv_topi (fun g193 eg193 => ?_)
        refine lv_iload_n hx hb dX3_lead_52 rfl (lv_at hl 4 rfl) ?_
        refine lv_icmp_ne (tgt := 62) hx hb dX3_lead_53 (by decide) (fun c53 => ?_) (fun c53 => ?_)
        · skip
          refine lv_iconst (v := 0) hx hb dX3_lead_62 (by decide) ?_
          refine hv_puti (ci := 2) (C := RX2) (T := TX2) (N := 10) hx hb hts (tw_cs in_X2) tyX2 tyX2_ok nmX2 hown hK hT (cs_ks hS hi) (by decide) rfl 2 (by decide) (hts _ (tw_c tw_77)) rfl rfl (x := 0) rfl rfl dX3_lead_63 (fun H locs hT => ?_)
          have hI := ci_put (f := 202) (a := (fa (16 + i))) (x := 0) rfl hI
          have hS := hI.1
          refine lv_aload_n hx hb dX3_lead_66 rfl (lv_at hl 2 rfl) ?_
          refine hv_gets (ci := 3) (C := RX3) (T := TX3) (N := 12) hx hb hts (tw_cs in_X3) hown hK hT (cs_kX hS) (by decide) rfl 1 (by decide) (hts _ (tw_c tw_48)) rfl (x := (fa 2)) (cs_pN hS) dX3_lead_67 ?_
          refine lv_iload_n hx hb dX3_lead_70 rfl (lv_at hl 3 rfl) ?_
          refine lv_aload_n hx hb dX3_lead_71 rfl (lv_at hl 2 rfl) ?_
          refine lv_iload_n hx hb dX3_lead_72 rfl (lv_at hl 3 rfl) ?_
          refine hv_calli (va_runV (As := [.int (nI i)]) (rest := [.int (nI i), .ref (fa 2)]) ⟨hx, hb, hml, hown, hts⟩ (c_allBut l D tc hS hI.2.1.1 (nI i)) (cwV 1 hts (tw_V tw_131 tw_132 tw_487 tw_1 tw_133) rfl rfl rfl (by decide +kernel) ⟨Nat.le_of_ble_eq_true rfl, Nat.le_of_ble_eq_true rfl⟩) (hv_preV (ci := 3) hK hT.1 (cs_kX hS) (by decide) rfl rfl) rfl rfl hl.1 rfl (lv_room (Nat.le_of_ble_eq_true rfl)) dX3_lead_73 ⟨by show 0 + 0 + 0 ≤ 16; omega, by show 0 + 0 + 0 ≤ 128; omega⟩) hT (fun r196 v194 H locs hp195 hT => ?_)
          obtain ⟨evhp195, qhp195⟩ := hp195
          rw [evhp195] at hT
          refine lv_iload hx hb dX3_lead_76 (lv_at hl 0 rfl) ?_
          refine lv_if_eq (tgt := 86) hx hb dX3_lead_78 (by decide) (fun c78 => ?_) (fun c78 => ?_)
          · skip
            refine lv_bipush (v := 7) hx hb dX3_lead_86 (by decide) ?_
            refine lv_aload_n hx hb dX3_lead_88 rfl (lv_at hl 1 rfl) ?_
            refine hv_geti (ci := 2) (C := RX2) (T := TX2) (N := 10) hx hb hts (tw_cs in_X2) hown hK hT (cs_ks hS hi) (by decide) rfl 7 (by decide) (hts _ (tw_c tw_87)) rfl dX3_lead_89 ?_
            refine lv_topi (fun g197 eg197 => ?_)
            refine lv_iconst (v := 0) hx hb dX3_lead_92 (by decide) ?_
            refine hv_callv (va_runV (As := [.int (nI i), .int r196, .int 7, .int g197, .int 0]) (rest := []) ⟨hx, hb, hml, hown, hts⟩ (c_send l D tc hI hi r196 7 g197 0 (cs_all qhp195 (cs_n8 hS) (cs_lt8 hS hi)) hh) (cwV 5 hts (tw_V tw_137 tw_138 tw_139 tw_2 tw_140) rfl rfl rfl (by decide +kernel) ⟨Nat.le_of_ble_eq_true rfl, Nat.le_of_ble_eq_true rfl⟩) (hv_preV (ci := 1) hK hT.1 (cs_kN hS) (by decide) rfl rfl) rfl rfl hl.1 rfl (lv_room (Nat.le_of_ble_eq_true rfl)) dX3_lead_93 ⟨by show 0 + 0 + 0 + 8 ≤ 16; omega, by show 0 + 0 + 0 + 64 ≤ 128; omega⟩) hT (fun v198 H locs hp199 hT => ?_)
            obtain ⟨_, hI⟩ := hp199
            have hS := hI.1
            refine lv_aload_n hx hb dX3_lead_96 rfl (lv_at hl 2 rfl) ?_
            refine lv_aload_n hx hb dX3_lead_97 rfl (lv_at hl 1 rfl) ?_
            refine lv_aload_n hx hb dX3_lead_98 rfl (lv_at hl 2 rfl) ?_
            refine hv_geti (ci := 3) (C := RX3) (T := TX3) (N := 12) hx hb hts (tw_cs in_X3) hown hK hT (cs_kX hS) (by decide) rfl 7 (by decide) (hts _ (tw_c tw_54)) rfl dX3_lead_99 ?_
            refine lv_topi (fun g200 eg200 => ?_)
            obtain ⟨q201, h5q201, h100q201, hq201⟩ := hI.2.1.2.2.2.1
            have eg200 : g200 = (nI q201) := by rw [eg200]; exact hq201
            subst eg200
            refine hv_callv (va_runV (As := [.ref (fa (16 + i)), .int (nI q201)]) (rest := []) ⟨hx, hb, hml, hown, hts⟩ (c_setTimer l D tc hI hi (q := q201) (by have h8 := cs_lt8 hS hi; omega)) (cwV 2 hts (tw_V tw_167 tw_168 tw_489 tw_1 tw_169) rfl rfl rfl (by decide +kernel) ⟨Nat.le_of_ble_eq_true rfl, Nat.le_of_ble_eq_true rfl⟩) (hv_preV (ci := 3) hK hT.1 (cs_kX hS) (by decide) rfl rfl) rfl rfl hl.1 rfl (lv_room (Nat.le_of_ble_eq_true rfl)) dX3_lead_102 ⟨by show 0 + 0 + 0 + 8 + 0 ≤ 16; omega, by show 0 + 0 + 0 + 64 + 0 ≤ 128; omega⟩) hT (fun v202 H locs hp203 hT => ?_)
            have hI := hp203
            have hS := hI.1
            refine lv_aload_n hx hb dX3_lead_105 rfl (lv_at hl 2 rfl) ?_
            refine lv_aload_n hx hb dX3_lead_106 rfl (lv_at hl 1 rfl) ?_
            refine hv_calli (va_runV (As := [.ref (fa (16 + i))]) (rest := []) ⟨hx, hb, hml, hown, hts⟩ (c_hasQuorum l D tc hS hI.2.1.1 hi) (cwV 1 hts (tw_V tw_177 tw_178 tw_491 tw_1 tw_179) rfl rfl rfl (by decide +kernel) ⟨Nat.le_of_ble_eq_true rfl, Nat.le_of_ble_eq_true rfl⟩) (hv_preV (ci := 3) hK hT.1 (cs_kX hS) (by decide) rfl rfl) rfl rfl hl.1 rfl (lv_room (Nat.le_of_ble_eq_true rfl)) dX3_lead_107 ⟨by show 0 + 0 + 0 + 8 + 0 + 0 ≤ 16; omega, by show 0 + 0 + 0 + 64 + 0 + 0 ≤ 128; omega⟩) hT (fun r206 v204 H locs hp205 hT => ?_)
            rw [hp205] at hT
            refine lv_if_eq (tgt := 128) hx hb dX3_lead_110 (by decide) (fun c110 => ?_) (fun c110 => ?_)
            · skip
              exact hret _ v202 _ _ _ _ _ dX3_lead_128 hT ⟨_, hI⟩ (by show 0 + 0 + 0 + 8 + 0 + 0 ≤ 16; omega) (by show 0 + 0 + 0 + 64 + 0 + 0 ≤ 128; omega)
            · skip
              refine lv_aload_n hx hb dX3_lead_113 rfl (lv_at hl 2 rfl) ?_
              refine lv_iload_n hx hb dX3_lead_114 rfl (lv_at hl 3 rfl) ?_
              refine lv_iload hx hb dX3_lead_115 (lv_at hl 0 rfl) ?_
              refine lv_if_eq (tgt := 124) hx hb dX3_lead_117 (by decide) (fun c117 => ?_) (fun c117 => ?_)
              · skip
                refine lv_iconst (v := 5) hx hb dX3_lead_124 (by decide) ?_
                refine hv_callv (va_runV (As := [.int (nI i), .int 5]) (rest := []) ⟨hx, hb, hml, hown, hts⟩ (c_decide l D tc hI hi hh 5) (cwV 2 hts (tw_V tw_180 tw_181 tw_492 tw_1 tw_182) rfl rfl rfl (by decide +kernel) ⟨Nat.le_of_ble_eq_true rfl, Nat.le_of_ble_eq_true rfl⟩) (hv_preV (ci := 3) hK hT.1 (cs_kX hS) (by decide) rfl rfl) rfl rfl hl.1 rfl (lv_room (Nat.le_of_ble_eq_true rfl)) dX3_lead_125 ⟨by show 0 + 0 + 0 + 8 + 0 + 0 + 8 ≤ 16; omega, by show 0 + 0 + 0 + 64 + 0 + 0 + 64 ≤ 128; omega⟩) hT (fun v207 H locs hp208 hT => ?_)
                obtain ⟨_, hI⟩ := hp208
                have hS := hI.1
                exact hret _ v207 _ _ _ _ _ dX3_lead_128 hT ⟨_, hI⟩ (by show 0 + 0 + 0 + 8 + 0 + 0 + 8 ≤ 16; omega) (by show 0 + 0 + 0 + 64 + 0 + 0 + 64 ≤ 128; omega)
              · skip
                refine lv_iconst (v := 4) hx hb dX3_lead_120 (by decide) ?_
                refine lv_goto (tgt := 125) hx hb dX3_lead_121 (by decide) ?_
                refine hv_callv (va_runV (As := [.int (nI i), .int 4]) (rest := []) ⟨hx, hb, hml, hown, hts⟩ (c_decide l D tc hI hi hh 4) (cwV 2 hts (tw_V tw_180 tw_181 tw_492 tw_1 tw_182) rfl rfl rfl (by decide +kernel) ⟨Nat.le_of_ble_eq_true rfl, Nat.le_of_ble_eq_true rfl⟩) (hv_preV (ci := 3) hK hT.1 (cs_kX hS) (by decide) rfl rfl) rfl rfl hl.1 rfl (lv_room (Nat.le_of_ble_eq_true rfl)) dX3_lead_125 ⟨by show 0 + 0 + 0 + 8 + 0 + 0 + 8 ≤ 16; omega, by show 0 + 0 + 0 + 64 + 0 + 0 + 64 ≤ 128; omega⟩) hT (fun v209 H locs hp210 hT => ?_)
                obtain ⟨_, hI⟩ := hp210
                have hS := hI.1
                exact hret _ v209 _ _ _ _ _ dX3_lead_128 hT ⟨_, hI⟩ (by show 0 + 0 + 0 + 8 + 0 + 0 + 8 ≤ 16; omega) (by show 0 + 0 + 0 + 64 + 0 + 0 + 64 ≤ 128; omega)
          · skip
            refine lv_bipush (v := 6) hx hb dX3_lead_81 (by decide) ?_
            refine lv_goto (tgt := 88) hx hb dX3_lead_83 (by decide) ?_
            refine lv_aload_n hx hb dX3_lead_88 rfl (lv_at hl 1 rfl) ?_
            refine hv_geti (ci := 2) (C := RX2) (T := TX2) (N := 10) hx hb hts (tw_cs in_X2) hown hK hT (cs_ks hS hi) (by decide) rfl 7 (by decide) (hts _ (tw_c tw_87)) rfl dX3_lead_89 ?_
            refine lv_topi (fun g211 eg211 => ?_)
            refine lv_iconst (v := 0) hx hb dX3_lead_92 (by decide) ?_
            refine hv_callv (va_runV (As := [.int (nI i), .int r196, .int 6, .int g211, .int 0]) (rest := []) ⟨hx, hb, hml, hown, hts⟩ (c_send l D tc hI hi r196 6 g211 0 (cs_all qhp195 (cs_n8 hS) (cs_lt8 hS hi)) hh) (cwV 5 hts (tw_V tw_137 tw_138 tw_139 tw_2 tw_140) rfl rfl rfl (by decide +kernel) ⟨Nat.le_of_ble_eq_true rfl, Nat.le_of_ble_eq_true rfl⟩) (hv_preV (ci := 1) hK hT.1 (cs_kN hS) (by decide) rfl rfl) rfl rfl hl.1 rfl (lv_room (Nat.le_of_ble_eq_true rfl)) dX3_lead_93 ⟨by show 0 + 0 + 0 + 8 ≤ 16; omega, by show 0 + 0 + 0 + 64 ≤ 128; omega⟩) hT (fun v212 H locs hp213 hT => ?_)
            obtain ⟨_, hI⟩ := hp213
            have hS := hI.1
            refine lv_aload_n hx hb dX3_lead_96 rfl (lv_at hl 2 rfl) ?_
            refine lv_aload_n hx hb dX3_lead_97 rfl (lv_at hl 1 rfl) ?_
            refine lv_aload_n hx hb dX3_lead_98 rfl (lv_at hl 2 rfl) ?_
            refine hv_geti (ci := 3) (C := RX3) (T := TX3) (N := 12) hx hb hts (tw_cs in_X3) hown hK hT (cs_kX hS) (by decide) rfl 7 (by decide) (hts _ (tw_c tw_54)) rfl dX3_lead_99 ?_
            refine lv_topi (fun g214 eg214 => ?_)
            obtain ⟨q215, h5q215, h100q215, hq215⟩ := hI.2.1.2.2.2.1
            have eg214 : g214 = (nI q215) := by rw [eg214]; exact hq215
            subst eg214
            refine hv_callv (va_runV (As := [.ref (fa (16 + i)), .int (nI q215)]) (rest := []) ⟨hx, hb, hml, hown, hts⟩ (c_setTimer l D tc hI hi (q := q215) (by have h8 := cs_lt8 hS hi; omega)) (cwV 2 hts (tw_V tw_167 tw_168 tw_489 tw_1 tw_169) rfl rfl rfl (by decide +kernel) ⟨Nat.le_of_ble_eq_true rfl, Nat.le_of_ble_eq_true rfl⟩) (hv_preV (ci := 3) hK hT.1 (cs_kX hS) (by decide) rfl rfl) rfl rfl hl.1 rfl (lv_room (Nat.le_of_ble_eq_true rfl)) dX3_lead_102 ⟨by show 0 + 0 + 0 + 8 + 0 ≤ 16; omega, by show 0 + 0 + 0 + 64 + 0 ≤ 128; omega⟩) hT (fun v216 H locs hp217 hT => ?_)
            have hI := hp217
            have hS := hI.1
            refine lv_aload_n hx hb dX3_lead_105 rfl (lv_at hl 2 rfl) ?_
            refine lv_aload_n hx hb dX3_lead_106 rfl (lv_at hl 1 rfl) ?_
            refine hv_calli (va_runV (As := [.ref (fa (16 + i))]) (rest := []) ⟨hx, hb, hml, hown, hts⟩ (c_hasQuorum l D tc hS hI.2.1.1 hi) (cwV 1 hts (tw_V tw_177 tw_178 tw_491 tw_1 tw_179) rfl rfl rfl (by decide +kernel) ⟨Nat.le_of_ble_eq_true rfl, Nat.le_of_ble_eq_true rfl⟩) (hv_preV (ci := 3) hK hT.1 (cs_kX hS) (by decide) rfl rfl) rfl rfl hl.1 rfl (lv_room (Nat.le_of_ble_eq_true rfl)) dX3_lead_107 ⟨by show 0 + 0 + 0 + 8 + 0 + 0 ≤ 16; omega, by show 0 + 0 + 0 + 64 + 0 + 0 ≤ 128; omega⟩) hT (fun r220 v218 H locs hp219 hT => ?_)
            rw [hp219] at hT
            refine lv_if_eq (tgt := 128) hx hb dX3_lead_110 (by decide) (fun c110 => ?_) (fun c110 => ?_)
            · skip
              exact hret _ v216 _ _ _ _ _ dX3_lead_128 hT ⟨_, hI⟩ (by show 0 + 0 + 0 + 8 + 0 + 0 ≤ 16; omega) (by show 0 + 0 + 0 + 64 + 0 + 0 ≤ 128; omega)
            · skip
              refine lv_aload_n hx hb dX3_lead_113 rfl (lv_at hl 2 rfl) ?_
              refine lv_iload_n hx hb dX3_lead_114 rfl (lv_at hl 3 rfl) ?_
              refine lv_iload hx hb dX3_lead_115 (lv_at hl 0 rfl) ?_
              refine lv_if_eq (tgt := 124) hx hb dX3_lead_117 (by decide) (fun c117 => ?_) (fun c117 => ?_)
              · skip
                refine lv_iconst (v := 5) hx hb dX3_lead_124 (by decide) ?_
                refine hv_callv (va_runV (As := [.int (nI i), .int 5]) (rest := []) ⟨hx, hb, hml, hown, hts⟩ (c_decide l D tc hI hi hh 5) (cwV 2 hts (tw_V tw_180 tw_181 tw_492 tw_1 tw_182) rfl rfl rfl (by decide +kernel) ⟨Nat.le_of_ble_eq_true rfl, Nat.le_of_ble_eq_true rfl⟩) (hv_preV (ci := 3) hK hT.1 (cs_kX hS) (by decide) rfl rfl) rfl rfl hl.1 rfl (lv_room (Nat.le_of_ble_eq_true rfl)) dX3_lead_125 ⟨by show 0 + 0 + 0 + 8 + 0 + 0 + 8 ≤ 16; omega, by show 0 + 0 + 0 + 64 + 0 + 0 + 64 ≤ 128; omega⟩) hT (fun v221 H locs hp222 hT => ?_)
                obtain ⟨_, hI⟩ := hp222
                have hS := hI.1
                exact hret _ v221 _ _ _ _ _ dX3_lead_128 hT ⟨_, hI⟩ (by show 0 + 0 + 0 + 8 + 0 + 0 + 8 ≤ 16; omega) (by show 0 + 0 + 0 + 64 + 0 + 0 + 64 ≤ 128; omega)
              · skip
                refine lv_iconst (v := 4) hx hb dX3_lead_120 (by decide) ?_
                refine lv_goto (tgt := 125) hx hb dX3_lead_121 (by decide) ?_
                refine hv_callv (va_runV (As := [.int (nI i), .int 4]) (rest := []) ⟨hx, hb, hml, hown, hts⟩ (c_decide l D tc hI hi hh 4) (cwV 2 hts (tw_V tw_180 tw_181 tw_492 tw_1 tw_182) rfl rfl rfl (by decide +kernel) ⟨Nat.le_of_ble_eq_true rfl, Nat.le_of_ble_eq_true rfl⟩) (hv_preV (ci := 3) hK hT.1 (cs_kX hS) (by decide) rfl rfl) rfl rfl hl.1 rfl (lv_room (Nat.le_of_ble_eq_true rfl)) dX3_lead_125 ⟨by show 0 + 0 + 0 + 8 + 0 + 0 + 8 ≤ 16; omega, by show 0 + 0 + 0 + 64 + 0 + 0 + 64 ≤ 128; omega⟩) hT (fun v223 H locs hp224 hT => ?_)
                obtain ⟨_, hI⟩ := hp224
                have hS := hI.1
                exact hret _ v223 _ _ _ _ _ dX3_lead_128 hT ⟨_, hI⟩ (by show 0 + 0 + 0 + 8 + 0 + 0 + 8 ≤ 16; omega) (by show 0 + 0 + 0 + 64 + 0 + 0 + 64 ≤ 128; omega)
        · skip
          refine lv_iconst (v := 1) hx hb dX3_lead_56 (by decide) ?_
          refine lv_iload_n hx hb dX3_lead_57 rfl (lv_at hl 3 rfl) ?_
          refine lv_ishl hx hb dX3_lead_58 ?_
          refine lv_goto (tgt := 63) hx hb dX3_lead_59 (by decide) ?_
          refine hv_puti (ci := 2) (C := RX2) (T := TX2) (N := 10) hx hb hts (tw_cs in_X2) tyX2 tyX2_ok nmX2 hown hK hT (cs_ks hS hi) (by decide) rfl 2 (by decide) (hts _ (tw_c tw_77)) rfl rfl (x := (1 <<< ((nI i) &&& 31))) rfl rfl dX3_lead_63 (fun H locs hT => ?_)
          have hI := ci_put (f := 202) (a := (fa (16 + i))) (x := (1 <<< ((nI i) &&& 31))) rfl hI
          have hS := hI.1
          refine lv_aload_n hx hb dX3_lead_66 rfl (lv_at hl 2 rfl) ?_
          refine hv_gets (ci := 3) (C := RX3) (T := TX3) (N := 12) hx hb hts (tw_cs in_X3) hown hK hT (cs_kX hS) (by decide) rfl 1 (by decide) (hts _ (tw_c tw_48)) rfl (x := (fa 2)) (cs_pN hS) dX3_lead_67 ?_
          refine lv_iload_n hx hb dX3_lead_70 rfl (lv_at hl 3 rfl) ?_
          refine lv_aload_n hx hb dX3_lead_71 rfl (lv_at hl 2 rfl) ?_
          refine lv_iload_n hx hb dX3_lead_72 rfl (lv_at hl 3 rfl) ?_
          refine hv_calli (va_runV (As := [.int (nI i)]) (rest := [.int (nI i), .ref (fa 2)]) ⟨hx, hb, hml, hown, hts⟩ (c_allBut l D tc hS hI.2.1.1 (nI i)) (cwV 1 hts (tw_V tw_131 tw_132 tw_487 tw_1 tw_133) rfl rfl rfl (by decide +kernel) ⟨Nat.le_of_ble_eq_true rfl, Nat.le_of_ble_eq_true rfl⟩) (hv_preV (ci := 3) hK hT.1 (cs_kX hS) (by decide) rfl rfl) rfl rfl hl.1 rfl (lv_room (Nat.le_of_ble_eq_true rfl)) dX3_lead_73 ⟨by show 0 + 0 + 0 ≤ 16; omega, by show 0 + 0 + 0 ≤ 128; omega⟩) hT (fun r227 v225 H locs hp226 hT => ?_)
          obtain ⟨evhp226, qhp226⟩ := hp226
          rw [evhp226] at hT
          refine lv_iload hx hb dX3_lead_76 (lv_at hl 0 rfl) ?_
          refine lv_if_eq (tgt := 86) hx hb dX3_lead_78 (by decide) (fun c78 => ?_) (fun c78 => ?_)
          · skip
            refine lv_bipush (v := 7) hx hb dX3_lead_86 (by decide) ?_
            refine lv_aload_n hx hb dX3_lead_88 rfl (lv_at hl 1 rfl) ?_
            refine hv_geti (ci := 2) (C := RX2) (T := TX2) (N := 10) hx hb hts (tw_cs in_X2) hown hK hT (cs_ks hS hi) (by decide) rfl 7 (by decide) (hts _ (tw_c tw_87)) rfl dX3_lead_89 ?_
            refine lv_topi (fun g228 eg228 => ?_)
            refine lv_iconst (v := 0) hx hb dX3_lead_92 (by decide) ?_
            refine hv_callv (va_runV (As := [.int (nI i), .int r227, .int 7, .int g228, .int 0]) (rest := []) ⟨hx, hb, hml, hown, hts⟩ (c_send l D tc hI hi r227 7 g228 0 (cs_all qhp226 (cs_n8 hS) (cs_lt8 hS hi)) hh) (cwV 5 hts (tw_V tw_137 tw_138 tw_139 tw_2 tw_140) rfl rfl rfl (by decide +kernel) ⟨Nat.le_of_ble_eq_true rfl, Nat.le_of_ble_eq_true rfl⟩) (hv_preV (ci := 1) hK hT.1 (cs_kN hS) (by decide) rfl rfl) rfl rfl hl.1 rfl (lv_room (Nat.le_of_ble_eq_true rfl)) dX3_lead_93 ⟨by show 0 + 0 + 0 + 8 ≤ 16; omega, by show 0 + 0 + 0 + 64 ≤ 128; omega⟩) hT (fun v229 H locs hp230 hT => ?_)
            obtain ⟨_, hI⟩ := hp230
            have hS := hI.1
            refine lv_aload_n hx hb dX3_lead_96 rfl (lv_at hl 2 rfl) ?_
            refine lv_aload_n hx hb dX3_lead_97 rfl (lv_at hl 1 rfl) ?_
            refine lv_aload_n hx hb dX3_lead_98 rfl (lv_at hl 2 rfl) ?_
            refine hv_geti (ci := 3) (C := RX3) (T := TX3) (N := 12) hx hb hts (tw_cs in_X3) hown hK hT (cs_kX hS) (by decide) rfl 7 (by decide) (hts _ (tw_c tw_54)) rfl dX3_lead_99 ?_
            refine lv_topi (fun g231 eg231 => ?_)
            obtain ⟨q232, h5q232, h100q232, hq232⟩ := hI.2.1.2.2.2.1
            have eg231 : g231 = (nI q232) := by rw [eg231]; exact hq232
            subst eg231
            refine hv_callv (va_runV (As := [.ref (fa (16 + i)), .int (nI q232)]) (rest := []) ⟨hx, hb, hml, hown, hts⟩ (c_setTimer l D tc hI hi (q := q232) (by have h8 := cs_lt8 hS hi; omega)) (cwV 2 hts (tw_V tw_167 tw_168 tw_489 tw_1 tw_169) rfl rfl rfl (by decide +kernel) ⟨Nat.le_of_ble_eq_true rfl, Nat.le_of_ble_eq_true rfl⟩) (hv_preV (ci := 3) hK hT.1 (cs_kX hS) (by decide) rfl rfl) rfl rfl hl.1 rfl (lv_room (Nat.le_of_ble_eq_true rfl)) dX3_lead_102 ⟨by show 0 + 0 + 0 + 8 + 0 ≤ 16; omega, by show 0 + 0 + 0 + 64 + 0 ≤ 128; omega⟩) hT (fun v233 H locs hp234 hT => ?_)
            have hI := hp234
            have hS := hI.1
            refine lv_aload_n hx hb dX3_lead_105 rfl (lv_at hl 2 rfl) ?_
            refine lv_aload_n hx hb dX3_lead_106 rfl (lv_at hl 1 rfl) ?_
            refine hv_calli (va_runV (As := [.ref (fa (16 + i))]) (rest := []) ⟨hx, hb, hml, hown, hts⟩ (c_hasQuorum l D tc hS hI.2.1.1 hi) (cwV 1 hts (tw_V tw_177 tw_178 tw_491 tw_1 tw_179) rfl rfl rfl (by decide +kernel) ⟨Nat.le_of_ble_eq_true rfl, Nat.le_of_ble_eq_true rfl⟩) (hv_preV (ci := 3) hK hT.1 (cs_kX hS) (by decide) rfl rfl) rfl rfl hl.1 rfl (lv_room (Nat.le_of_ble_eq_true rfl)) dX3_lead_107 ⟨by show 0 + 0 + 0 + 8 + 0 + 0 ≤ 16; omega, by show 0 + 0 + 0 + 64 + 0 + 0 ≤ 128; omega⟩) hT (fun r237 v235 H locs hp236 hT => ?_)
            rw [hp236] at hT
            refine lv_if_eq (tgt := 128) hx hb dX3_lead_110 (by decide) (fun c110 => ?_) (fun c110 => ?_)
            · skip
              exact hret _ v233 _ _ _ _ _ dX3_lead_128 hT ⟨_, hI⟩ (by show 0 + 0 + 0 + 8 + 0 + 0 ≤ 16; omega) (by show 0 + 0 + 0 + 64 + 0 + 0 ≤ 128; omega)
            · skip
              refine lv_aload_n hx hb dX3_lead_113 rfl (lv_at hl 2 rfl) ?_
              refine lv_iload_n hx hb dX3_lead_114 rfl (lv_at hl 3 rfl) ?_
              refine lv_iload hx hb dX3_lead_115 (lv_at hl 0 rfl) ?_
              refine lv_if_eq (tgt := 124) hx hb dX3_lead_117 (by decide) (fun c117 => ?_) (fun c117 => ?_)
              · skip
                refine lv_iconst (v := 5) hx hb dX3_lead_124 (by decide) ?_
                refine hv_callv (va_runV (As := [.int (nI i), .int 5]) (rest := []) ⟨hx, hb, hml, hown, hts⟩ (c_decide l D tc hI hi hh 5) (cwV 2 hts (tw_V tw_180 tw_181 tw_492 tw_1 tw_182) rfl rfl rfl (by decide +kernel) ⟨Nat.le_of_ble_eq_true rfl, Nat.le_of_ble_eq_true rfl⟩) (hv_preV (ci := 3) hK hT.1 (cs_kX hS) (by decide) rfl rfl) rfl rfl hl.1 rfl (lv_room (Nat.le_of_ble_eq_true rfl)) dX3_lead_125 ⟨by show 0 + 0 + 0 + 8 + 0 + 0 + 8 ≤ 16; omega, by show 0 + 0 + 0 + 64 + 0 + 0 + 64 ≤ 128; omega⟩) hT (fun v238 H locs hp239 hT => ?_)
                obtain ⟨_, hI⟩ := hp239
                have hS := hI.1
                exact hret _ v238 _ _ _ _ _ dX3_lead_128 hT ⟨_, hI⟩ (by show 0 + 0 + 0 + 8 + 0 + 0 + 8 ≤ 16; omega) (by show 0 + 0 + 0 + 64 + 0 + 0 + 64 ≤ 128; omega)
              · skip
                refine lv_iconst (v := 4) hx hb dX3_lead_120 (by decide) ?_
                refine lv_goto (tgt := 125) hx hb dX3_lead_121 (by decide) ?_
                refine hv_callv (va_runV (As := [.int (nI i), .int 4]) (rest := []) ⟨hx, hb, hml, hown, hts⟩ (c_decide l D tc hI hi hh 4) (cwV 2 hts (tw_V tw_180 tw_181 tw_492 tw_1 tw_182) rfl rfl rfl (by decide +kernel) ⟨Nat.le_of_ble_eq_true rfl, Nat.le_of_ble_eq_true rfl⟩) (hv_preV (ci := 3) hK hT.1 (cs_kX hS) (by decide) rfl rfl) rfl rfl hl.1 rfl (lv_room (Nat.le_of_ble_eq_true rfl)) dX3_lead_125 ⟨by show 0 + 0 + 0 + 8 + 0 + 0 + 8 ≤ 16; omega, by show 0 + 0 + 0 + 64 + 0 + 0 + 64 ≤ 128; omega⟩) hT (fun v240 H locs hp241 hT => ?_)
                obtain ⟨_, hI⟩ := hp241
                have hS := hI.1
                exact hret _ v240 _ _ _ _ _ dX3_lead_128 hT ⟨_, hI⟩ (by show 0 + 0 + 0 + 8 + 0 + 0 + 8 ≤ 16; omega) (by show 0 + 0 + 0 + 64 + 0 + 0 + 64 ≤ 128; omega)
          · skip
            refine lv_bipush (v := 6) hx hb dX3_lead_81 (by decide) ?_
            refine lv_goto (tgt := 88) hx hb dX3_lead_83 (by decide) ?_
            refine lv_aload_n hx hb dX3_lead_88 rfl (lv_at hl 1 rfl) ?_
            refine hv_geti (ci := 2) (C := RX2) (T := TX2) (N := 10) hx hb hts (tw_cs in_X2) hown hK hT (cs_ks hS hi) (by decide) rfl 7 (by decide) (hts _ (tw_c tw_87)) rfl dX3_lead_89 ?_
            refine lv_topi (fun g242 eg242 => ?_)
            refine lv_iconst (v := 0) hx hb dX3_lead_92 (by decide) ?_
            refine hv_callv (va_runV (As := [.int (nI i), .int r227, .int 6, .int g242, .int 0]) (rest := []) ⟨hx, hb, hml, hown, hts⟩ (c_send l D tc hI hi r227 6 g242 0 (cs_all qhp226 (cs_n8 hS) (cs_lt8 hS hi)) hh) (cwV 5 hts (tw_V tw_137 tw_138 tw_139 tw_2 tw_140) rfl rfl rfl (by decide +kernel) ⟨Nat.le_of_ble_eq_true rfl, Nat.le_of_ble_eq_true rfl⟩) (hv_preV (ci := 1) hK hT.1 (cs_kN hS) (by decide) rfl rfl) rfl rfl hl.1 rfl (lv_room (Nat.le_of_ble_eq_true rfl)) dX3_lead_93 ⟨by show 0 + 0 + 0 + 8 ≤ 16; omega, by show 0 + 0 + 0 + 64 ≤ 128; omega⟩) hT (fun v243 H locs hp244 hT => ?_)
            obtain ⟨_, hI⟩ := hp244
            have hS := hI.1
            refine lv_aload_n hx hb dX3_lead_96 rfl (lv_at hl 2 rfl) ?_
            refine lv_aload_n hx hb dX3_lead_97 rfl (lv_at hl 1 rfl) ?_
            refine lv_aload_n hx hb dX3_lead_98 rfl (lv_at hl 2 rfl) ?_
            refine hv_geti (ci := 3) (C := RX3) (T := TX3) (N := 12) hx hb hts (tw_cs in_X3) hown hK hT (cs_kX hS) (by decide) rfl 7 (by decide) (hts _ (tw_c tw_54)) rfl dX3_lead_99 ?_
            refine lv_topi (fun g245 eg245 => ?_)
            obtain ⟨q246, h5q246, h100q246, hq246⟩ := hI.2.1.2.2.2.1
            have eg245 : g245 = (nI q246) := by rw [eg245]; exact hq246
            subst eg245
            refine hv_callv (va_runV (As := [.ref (fa (16 + i)), .int (nI q246)]) (rest := []) ⟨hx, hb, hml, hown, hts⟩ (c_setTimer l D tc hI hi (q := q246) (by have h8 := cs_lt8 hS hi; omega)) (cwV 2 hts (tw_V tw_167 tw_168 tw_489 tw_1 tw_169) rfl rfl rfl (by decide +kernel) ⟨Nat.le_of_ble_eq_true rfl, Nat.le_of_ble_eq_true rfl⟩) (hv_preV (ci := 3) hK hT.1 (cs_kX hS) (by decide) rfl rfl) rfl rfl hl.1 rfl (lv_room (Nat.le_of_ble_eq_true rfl)) dX3_lead_102 ⟨by show 0 + 0 + 0 + 8 + 0 ≤ 16; omega, by show 0 + 0 + 0 + 64 + 0 ≤ 128; omega⟩) hT (fun v247 H locs hp248 hT => ?_)
            have hI := hp248
            have hS := hI.1
            refine lv_aload_n hx hb dX3_lead_105 rfl (lv_at hl 2 rfl) ?_
            refine lv_aload_n hx hb dX3_lead_106 rfl (lv_at hl 1 rfl) ?_
            refine hv_calli (va_runV (As := [.ref (fa (16 + i))]) (rest := []) ⟨hx, hb, hml, hown, hts⟩ (c_hasQuorum l D tc hS hI.2.1.1 hi) (cwV 1 hts (tw_V tw_177 tw_178 tw_491 tw_1 tw_179) rfl rfl rfl (by decide +kernel) ⟨Nat.le_of_ble_eq_true rfl, Nat.le_of_ble_eq_true rfl⟩) (hv_preV (ci := 3) hK hT.1 (cs_kX hS) (by decide) rfl rfl) rfl rfl hl.1 rfl (lv_room (Nat.le_of_ble_eq_true rfl)) dX3_lead_107 ⟨by show 0 + 0 + 0 + 8 + 0 + 0 ≤ 16; omega, by show 0 + 0 + 0 + 64 + 0 + 0 ≤ 128; omega⟩) hT (fun r251 v249 H locs hp250 hT => ?_)
            rw [hp250] at hT
            refine lv_if_eq (tgt := 128) hx hb dX3_lead_110 (by decide) (fun c110 => ?_) (fun c110 => ?_)
            · skip
              exact hret _ v247 _ _ _ _ _ dX3_lead_128 hT ⟨_, hI⟩ (by show 0 + 0 + 0 + 8 + 0 + 0 ≤ 16; omega) (by show 0 + 0 + 0 + 64 + 0 + 0 ≤ 128; omega)
            · skip
              refine lv_aload_n hx hb dX3_lead_113 rfl (lv_at hl 2 rfl) ?_
              refine lv_iload_n hx hb dX3_lead_114 rfl (lv_at hl 3 rfl) ?_
              refine lv_iload hx hb dX3_lead_115 (lv_at hl 0 rfl) ?_
              refine lv_if_eq (tgt := 124) hx hb dX3_lead_117 (by decide) (fun c117 => ?_) (fun c117 => ?_)
              · skip
                refine lv_iconst (v := 5) hx hb dX3_lead_124 (by decide) ?_
                refine hv_callv (va_runV (As := [.int (nI i), .int 5]) (rest := []) ⟨hx, hb, hml, hown, hts⟩ (c_decide l D tc hI hi hh 5) (cwV 2 hts (tw_V tw_180 tw_181 tw_492 tw_1 tw_182) rfl rfl rfl (by decide +kernel) ⟨Nat.le_of_ble_eq_true rfl, Nat.le_of_ble_eq_true rfl⟩) (hv_preV (ci := 3) hK hT.1 (cs_kX hS) (by decide) rfl rfl) rfl rfl hl.1 rfl (lv_room (Nat.le_of_ble_eq_true rfl)) dX3_lead_125 ⟨by show 0 + 0 + 0 + 8 + 0 + 0 + 8 ≤ 16; omega, by show 0 + 0 + 0 + 64 + 0 + 0 + 64 ≤ 128; omega⟩) hT (fun v252 H locs hp253 hT => ?_)
                obtain ⟨_, hI⟩ := hp253
                have hS := hI.1
                exact hret _ v252 _ _ _ _ _ dX3_lead_128 hT ⟨_, hI⟩ (by show 0 + 0 + 0 + 8 + 0 + 0 + 8 ≤ 16; omega) (by show 0 + 0 + 0 + 64 + 0 + 0 + 64 ≤ 128; omega)
              · skip
                refine lv_iconst (v := 4) hx hb dX3_lead_120 (by decide) ?_
                refine lv_goto (tgt := 125) hx hb dX3_lead_121 (by decide) ?_
                refine hv_callv (va_runV (As := [.int (nI i), .int 4]) (rest := []) ⟨hx, hb, hml, hown, hts⟩ (c_decide l D tc hI hi hh 4) (cwV 2 hts (tw_V tw_180 tw_181 tw_492 tw_1 tw_182) rfl rfl rfl (by decide +kernel) ⟨Nat.le_of_ble_eq_true rfl, Nat.le_of_ble_eq_true rfl⟩) (hv_preV (ci := 3) hK hT.1 (cs_kX hS) (by decide) rfl rfl) rfl rfl hl.1 rfl (lv_room (Nat.le_of_ble_eq_true rfl)) dX3_lead_125 ⟨by show 0 + 0 + 0 + 8 + 0 + 0 + 8 ≤ 16; omega, by show 0 + 0 + 0 + 64 + 0 + 0 + 64 ≤ 128; omega⟩) hT (fun v254 H locs hp255 hT => ?_)
                obtain ⟨_, hI⟩ := hp255
                have hS := hI.1
                exact hret _ v254 _ _ _ _ _ dX3_lead_128 hT ⟨_, hI⟩ (by show 0 + 0 + 0 + 8 + 0 + 0 + 8 ≤ 16; omega) (by show 0 + 0 + 0 + 64 + 0 + 0 + 64 ≤ 128; omega)
  · skip
    refine lv_iconst (v := 1) hx hb dX3_lead_12 (by decide) ?_
    refine lv_goto (tgt := 17) hx hb dX3_lead_13 (by decide) ?_
    refine lv_istore (lv' := [(4, _), (3, _), (0, _), (1, _), (2, _)]) hx hb dX3_lead_17 hl (by decide) rfl (fun ls hl => ?_)
    refine lv_aload_n hx hb dX3_lead_19 rfl (lv_at hl 1 rfl) ?_
    refine hv_geti (ci := 2) (C := RX2) (T := TX2) (N := 10) hx hb hts (tw_cs in_X2) hown hK hT (cs_ks hS hi) (by decide) rfl 4 (by decide) (hts _ (tw_c tw_81)) rfl dX3_lead_20 ?_
    refine lv_topi (fun g256 eg256 => ?_)
    refine lv_iconst (v := 1) hx hb dX3_lead_23 (by decide) ?_
    refine lv_icmp_ne (tgt := 33) hx hb dX3_lead_24 (by decide) (fun c24 => ?_) (fun c24 => ?_)
    · skip
      refine lv_aload_n hx hb dX3_lead_33 rfl (lv_at hl 1 rfl) ?_
      refine lv_iload hx hb dX3_lead_34 (lv_at hl 0 rfl) ?_
      refine lv_if_eq (tgt := 43) hx hb dX3_lead_36 (by decide) (fun c36 => ?_) (fun c36 => ?_)
      · skip
        refine lv_iconst (v := 4) hx hb dX3_lead_43 (by decide) ?_
        refine hv_puti (ci := 2) (C := RX2) (T := TX2) (N := 10) hx hb hts (tw_cs in_X2) tyX2 tyX2_ok nmX2 hown hK hT (cs_ks hS hi) (by decide) rfl 6 (by decide) (hts _ (tw_c tw_85)) rfl rfl (x := 4) rfl rfl dX3_lead_44 (fun H locs hT => ?_)
        have hI := ci_put (f := 206) (a := (fa (16 + i))) (x := 4) rfl hI
        have hS := hI.1
        refine lv_aload_n hx hb dX3_lead_47 rfl (lv_at hl 1 rfl) ?_
        refine lv_aload_n hx hb dX3_lead_48 rfl (lv_at hl 1 rfl) ?_
        refine hv_geti (ci := 2) (C := RX2) (T := TX2) (N := 10) hx hb hts (tw_cs in_X2) hown hK hT (cs_ks hS hi) (by decide) rfl 4 (by decide) (hts _ (tw_c tw_81)) rfl dX3_lead_49 ?_
        refine lv_topi (fun g257 eg257 => ?_)
        refine lv_iload_n hx hb dX3_lead_52 rfl (lv_at hl 4 rfl) ?_
        refine lv_icmp_ne (tgt := 62) hx hb dX3_lead_53 (by decide) (fun c53 => ?_) (fun c53 => ?_)
        · skip
          refine lv_iconst (v := 0) hx hb dX3_lead_62 (by decide) ?_
          refine hv_puti (ci := 2) (C := RX2) (T := TX2) (N := 10) hx hb hts (tw_cs in_X2) tyX2 tyX2_ok nmX2 hown hK hT (cs_ks hS hi) (by decide) rfl 2 (by decide) (hts _ (tw_c tw_77)) rfl rfl (x := 0) rfl rfl dX3_lead_63 (fun H locs hT => ?_)
          have hI := ci_put (f := 202) (a := (fa (16 + i))) (x := 0) rfl hI
          have hS := hI.1
          refine lv_aload_n hx hb dX3_lead_66 rfl (lv_at hl 2 rfl) ?_
          refine hv_gets (ci := 3) (C := RX3) (T := TX3) (N := 12) hx hb hts (tw_cs in_X3) hown hK hT (cs_kX hS) (by decide) rfl 1 (by decide) (hts _ (tw_c tw_48)) rfl (x := (fa 2)) (cs_pN hS) dX3_lead_67 ?_
          refine lv_iload_n hx hb dX3_lead_70 rfl (lv_at hl 3 rfl) ?_
          refine lv_aload_n hx hb dX3_lead_71 rfl (lv_at hl 2 rfl) ?_
          refine lv_iload_n hx hb dX3_lead_72 rfl (lv_at hl 3 rfl) ?_
          refine hv_calli (va_runV (As := [.int (nI i)]) (rest := [.int (nI i), .ref (fa 2)]) ⟨hx, hb, hml, hown, hts⟩ (c_allBut l D tc hS hI.2.1.1 (nI i)) (cwV 1 hts (tw_V tw_131 tw_132 tw_487 tw_1 tw_133) rfl rfl rfl (by decide +kernel) ⟨Nat.le_of_ble_eq_true rfl, Nat.le_of_ble_eq_true rfl⟩) (hv_preV (ci := 3) hK hT.1 (cs_kX hS) (by decide) rfl rfl) rfl rfl hl.1 rfl (lv_room (Nat.le_of_ble_eq_true rfl)) dX3_lead_73 ⟨by show 0 + 0 ≤ 16; omega, by show 0 + 0 ≤ 128; omega⟩) hT (fun r260 v258 H locs hp259 hT => ?_)
          obtain ⟨evhp259, qhp259⟩ := hp259
          rw [evhp259] at hT
          refine lv_iload hx hb dX3_lead_76 (lv_at hl 0 rfl) ?_
          refine lv_if_eq (tgt := 86) hx hb dX3_lead_78 (by decide) (fun c78 => ?_) (fun c78 => ?_)
          · skip
            refine lv_bipush (v := 7) hx hb dX3_lead_86 (by decide) ?_
            refine lv_aload_n hx hb dX3_lead_88 rfl (lv_at hl 1 rfl) ?_
            refine hv_geti (ci := 2) (C := RX2) (T := TX2) (N := 10) hx hb hts (tw_cs in_X2) hown hK hT (cs_ks hS hi) (by decide) rfl 7 (by decide) (hts _ (tw_c tw_87)) rfl dX3_lead_89 ?_
            refine lv_topi (fun g261 eg261 => ?_)
            refine lv_iconst (v := 0) hx hb dX3_lead_92 (by decide) ?_
            refine hv_callv (va_runV (As := [.int (nI i), .int r260, .int 7, .int g261, .int 0]) (rest := []) ⟨hx, hb, hml, hown, hts⟩ (c_send l D tc hI hi r260 7 g261 0 (cs_all qhp259 (cs_n8 hS) (cs_lt8 hS hi)) hh) (cwV 5 hts (tw_V tw_137 tw_138 tw_139 tw_2 tw_140) rfl rfl rfl (by decide +kernel) ⟨Nat.le_of_ble_eq_true rfl, Nat.le_of_ble_eq_true rfl⟩) (hv_preV (ci := 1) hK hT.1 (cs_kN hS) (by decide) rfl rfl) rfl rfl hl.1 rfl (lv_room (Nat.le_of_ble_eq_true rfl)) dX3_lead_93 ⟨by show 0 + 0 + 8 ≤ 16; omega, by show 0 + 0 + 64 ≤ 128; omega⟩) hT (fun v262 H locs hp263 hT => ?_)
            obtain ⟨_, hI⟩ := hp263
            have hS := hI.1
            refine lv_aload_n hx hb dX3_lead_96 rfl (lv_at hl 2 rfl) ?_
            refine lv_aload_n hx hb dX3_lead_97 rfl (lv_at hl 1 rfl) ?_
            refine lv_aload_n hx hb dX3_lead_98 rfl (lv_at hl 2 rfl) ?_
            refine hv_geti (ci := 3) (C := RX3) (T := TX3) (N := 12) hx hb hts (tw_cs in_X3) hown hK hT (cs_kX hS) (by decide) rfl 7 (by decide) (hts _ (tw_c tw_54)) rfl dX3_lead_99 ?_
            refine lv_topi (fun g264 eg264 => ?_)
            obtain ⟨q265, h5q265, h100q265, hq265⟩ := hI.2.1.2.2.2.1
            have eg264 : g264 = (nI q265) := by rw [eg264]; exact hq265
            subst eg264
            refine hv_callv (va_runV (As := [.ref (fa (16 + i)), .int (nI q265)]) (rest := []) ⟨hx, hb, hml, hown, hts⟩ (c_setTimer l D tc hI hi (q := q265) (by have h8 := cs_lt8 hS hi; omega)) (cwV 2 hts (tw_V tw_167 tw_168 tw_489 tw_1 tw_169) rfl rfl rfl (by decide +kernel) ⟨Nat.le_of_ble_eq_true rfl, Nat.le_of_ble_eq_true rfl⟩) (hv_preV (ci := 3) hK hT.1 (cs_kX hS) (by decide) rfl rfl) rfl rfl hl.1 rfl (lv_room (Nat.le_of_ble_eq_true rfl)) dX3_lead_102 ⟨by show 0 + 0 + 8 + 0 ≤ 16; omega, by show 0 + 0 + 64 + 0 ≤ 128; omega⟩) hT (fun v266 H locs hp267 hT => ?_)
            have hI := hp267
            have hS := hI.1
            refine lv_aload_n hx hb dX3_lead_105 rfl (lv_at hl 2 rfl) ?_
            refine lv_aload_n hx hb dX3_lead_106 rfl (lv_at hl 1 rfl) ?_
            refine hv_calli (va_runV (As := [.ref (fa (16 + i))]) (rest := []) ⟨hx, hb, hml, hown, hts⟩ (c_hasQuorum l D tc hS hI.2.1.1 hi) (cwV 1 hts (tw_V tw_177 tw_178 tw_491 tw_1 tw_179) rfl rfl rfl (by decide +kernel) ⟨Nat.le_of_ble_eq_true rfl, Nat.le_of_ble_eq_true rfl⟩) (hv_preV (ci := 3) hK hT.1 (cs_kX hS) (by decide) rfl rfl) rfl rfl hl.1 rfl (lv_room (Nat.le_of_ble_eq_true rfl)) dX3_lead_107 ⟨by show 0 + 0 + 8 + 0 + 0 ≤ 16; omega, by show 0 + 0 + 64 + 0 + 0 ≤ 128; omega⟩) hT (fun r270 v268 H locs hp269 hT => ?_)
            rw [hp269] at hT
            refine lv_if_eq (tgt := 128) hx hb dX3_lead_110 (by decide) (fun c110 => ?_) (fun c110 => ?_)
            · skip
              exact hret _ v266 _ _ _ _ _ dX3_lead_128 hT ⟨_, hI⟩ (by show 0 + 0 + 8 + 0 + 0 ≤ 16; omega) (by show 0 + 0 + 64 + 0 + 0 ≤ 128; omega)
            · skip
              refine lv_aload_n hx hb dX3_lead_113 rfl (lv_at hl 2 rfl) ?_
              refine lv_iload_n hx hb dX3_lead_114 rfl (lv_at hl 3 rfl) ?_
              refine lv_iload hx hb dX3_lead_115 (lv_at hl 0 rfl) ?_
              refine lv_if_eq (tgt := 124) hx hb dX3_lead_117 (by decide) (fun c117 => ?_) (fun c117 => ?_)
              · skip
                refine lv_iconst (v := 5) hx hb dX3_lead_124 (by decide) ?_
                refine hv_callv (va_runV (As := [.int (nI i), .int 5]) (rest := []) ⟨hx, hb, hml, hown, hts⟩ (c_decide l D tc hI hi hh 5) (cwV 2 hts (tw_V tw_180 tw_181 tw_492 tw_1 tw_182) rfl rfl rfl (by decide +kernel) ⟨Nat.le_of_ble_eq_true rfl, Nat.le_of_ble_eq_true rfl⟩) (hv_preV (ci := 3) hK hT.1 (cs_kX hS) (by decide) rfl rfl) rfl rfl hl.1 rfl (lv_room (Nat.le_of_ble_eq_true rfl)) dX3_lead_125 ⟨by show 0 + 0 + 8 + 0 + 0 + 8 ≤ 16; omega, by show 0 + 0 + 64 + 0 + 0 + 64 ≤ 128; omega⟩) hT (fun v271 H locs hp272 hT => ?_)
                obtain ⟨_, hI⟩ := hp272
                have hS := hI.1
                exact hret _ v271 _ _ _ _ _ dX3_lead_128 hT ⟨_, hI⟩ (by show 0 + 0 + 8 + 0 + 0 + 8 ≤ 16; omega) (by show 0 + 0 + 64 + 0 + 0 + 64 ≤ 128; omega)
              · skip
                refine lv_iconst (v := 4) hx hb dX3_lead_120 (by decide) ?_
                refine lv_goto (tgt := 125) hx hb dX3_lead_121 (by decide) ?_
                refine hv_callv (va_runV (As := [.int (nI i), .int 4]) (rest := []) ⟨hx, hb, hml, hown, hts⟩ (c_decide l D tc hI hi hh 4) (cwV 2 hts (tw_V tw_180 tw_181 tw_492 tw_1 tw_182) rfl rfl rfl (by decide +kernel) ⟨Nat.le_of_ble_eq_true rfl, Nat.le_of_ble_eq_true rfl⟩) (hv_preV (ci := 3) hK hT.1 (cs_kX hS) (by decide) rfl rfl) rfl rfl hl.1 rfl (lv_room (Nat.le_of_ble_eq_true rfl)) dX3_lead_125 ⟨by show 0 + 0 + 8 + 0 + 0 + 8 ≤ 16; omega, by show 0 + 0 + 64 + 0 + 0 + 64 ≤ 128; omega⟩) hT (fun v273 H locs hp274 hT => ?_)
                obtain ⟨_, hI⟩ := hp274
                have hS := hI.1
                exact hret _ v273 _ _ _ _ _ dX3_lead_128 hT ⟨_, hI⟩ (by show 0 + 0 + 8 + 0 + 0 + 8 ≤ 16; omega) (by show 0 + 0 + 64 + 0 + 0 + 64 ≤ 128; omega)
          · skip
            refine lv_bipush (v := 6) hx hb dX3_lead_81 (by decide) ?_
            refine lv_goto (tgt := 88) hx hb dX3_lead_83 (by decide) ?_
            refine lv_aload_n hx hb dX3_lead_88 rfl (lv_at hl 1 rfl) ?_
            refine hv_geti (ci := 2) (C := RX2) (T := TX2) (N := 10) hx hb hts (tw_cs in_X2) hown hK hT (cs_ks hS hi) (by decide) rfl 7 (by decide) (hts _ (tw_c tw_87)) rfl dX3_lead_89 ?_
            refine lv_topi (fun g275 eg275 => ?_)
            refine lv_iconst (v := 0) hx hb dX3_lead_92 (by decide) ?_
            refine hv_callv (va_runV (As := [.int (nI i), .int r260, .int 6, .int g275, .int 0]) (rest := []) ⟨hx, hb, hml, hown, hts⟩ (c_send l D tc hI hi r260 6 g275 0 (cs_all qhp259 (cs_n8 hS) (cs_lt8 hS hi)) hh) (cwV 5 hts (tw_V tw_137 tw_138 tw_139 tw_2 tw_140) rfl rfl rfl (by decide +kernel) ⟨Nat.le_of_ble_eq_true rfl, Nat.le_of_ble_eq_true rfl⟩) (hv_preV (ci := 1) hK hT.1 (cs_kN hS) (by decide) rfl rfl) rfl rfl hl.1 rfl (lv_room (Nat.le_of_ble_eq_true rfl)) dX3_lead_93 ⟨by show 0 + 0 + 8 ≤ 16; omega, by show 0 + 0 + 64 ≤ 128; omega⟩) hT (fun v276 H locs hp277 hT => ?_)
            obtain ⟨_, hI⟩ := hp277
            have hS := hI.1
            refine lv_aload_n hx hb dX3_lead_96 rfl (lv_at hl 2 rfl) ?_
            refine lv_aload_n hx hb dX3_lead_97 rfl (lv_at hl 1 rfl) ?_
            refine lv_aload_n hx hb dX3_lead_98 rfl (lv_at hl 2 rfl) ?_
            refine hv_geti (ci := 3) (C := RX3) (T := TX3) (N := 12) hx hb hts (tw_cs in_X3) hown hK hT (cs_kX hS) (by decide) rfl 7 (by decide) (hts _ (tw_c tw_54)) rfl dX3_lead_99 ?_
            refine lv_topi (fun g278 eg278 => ?_)
            obtain ⟨q279, h5q279, h100q279, hq279⟩ := hI.2.1.2.2.2.1
            have eg278 : g278 = (nI q279) := by rw [eg278]; exact hq279
            subst eg278
            refine hv_callv (va_runV (As := [.ref (fa (16 + i)), .int (nI q279)]) (rest := []) ⟨hx, hb, hml, hown, hts⟩ (c_setTimer l D tc hI hi (q := q279) (by have h8 := cs_lt8 hS hi; omega)) (cwV 2 hts (tw_V tw_167 tw_168 tw_489 tw_1 tw_169) rfl rfl rfl (by decide +kernel) ⟨Nat.le_of_ble_eq_true rfl, Nat.le_of_ble_eq_true rfl⟩) (hv_preV (ci := 3) hK hT.1 (cs_kX hS) (by decide) rfl rfl) rfl rfl hl.1 rfl (lv_room (Nat.le_of_ble_eq_true rfl)) dX3_lead_102 ⟨by show 0 + 0 + 8 + 0 ≤ 16; omega, by show 0 + 0 + 64 + 0 ≤ 128; omega⟩) hT (fun v280 H locs hp281 hT => ?_)
            have hI := hp281
            have hS := hI.1
            refine lv_aload_n hx hb dX3_lead_105 rfl (lv_at hl 2 rfl) ?_
            refine lv_aload_n hx hb dX3_lead_106 rfl (lv_at hl 1 rfl) ?_
            refine hv_calli (va_runV (As := [.ref (fa (16 + i))]) (rest := []) ⟨hx, hb, hml, hown, hts⟩ (c_hasQuorum l D tc hS hI.2.1.1 hi) (cwV 1 hts (tw_V tw_177 tw_178 tw_491 tw_1 tw_179) rfl rfl rfl (by decide +kernel) ⟨Nat.le_of_ble_eq_true rfl, Nat.le_of_ble_eq_true rfl⟩) (hv_preV (ci := 3) hK hT.1 (cs_kX hS) (by decide) rfl rfl) rfl rfl hl.1 rfl (lv_room (Nat.le_of_ble_eq_true rfl)) dX3_lead_107 ⟨by show 0 + 0 + 8 + 0 + 0 ≤ 16; omega, by show 0 + 0 + 64 + 0 + 0 ≤ 128; omega⟩) hT (fun r284 v282 H locs hp283 hT => ?_)
            rw [hp283] at hT
            refine lv_if_eq (tgt := 128) hx hb dX3_lead_110 (by decide) (fun c110 => ?_) (fun c110 => ?_)
            · skip
              exact hret _ v280 _ _ _ _ _ dX3_lead_128 hT ⟨_, hI⟩ (by show 0 + 0 + 8 + 0 + 0 ≤ 16; omega) (by show 0 + 0 + 64 + 0 + 0 ≤ 128; omega)
            · skip
              refine lv_aload_n hx hb dX3_lead_113 rfl (lv_at hl 2 rfl) ?_
              refine lv_iload_n hx hb dX3_lead_114 rfl (lv_at hl 3 rfl) ?_
              refine lv_iload hx hb dX3_lead_115 (lv_at hl 0 rfl) ?_
              refine lv_if_eq (tgt := 124) hx hb dX3_lead_117 (by decide) (fun c117 => ?_) (fun c117 => ?_)
              · skip
                refine lv_iconst (v := 5) hx hb dX3_lead_124 (by decide) ?_
                refine hv_callv (va_runV (As := [.int (nI i), .int 5]) (rest := []) ⟨hx, hb, hml, hown, hts⟩ (c_decide l D tc hI hi hh 5) (cwV 2 hts (tw_V tw_180 tw_181 tw_492 tw_1 tw_182) rfl rfl rfl (by decide +kernel) ⟨Nat.le_of_ble_eq_true rfl, Nat.le_of_ble_eq_true rfl⟩) (hv_preV (ci := 3) hK hT.1 (cs_kX hS) (by decide) rfl rfl) rfl rfl hl.1 rfl (lv_room (Nat.le_of_ble_eq_true rfl)) dX3_lead_125 ⟨by show 0 + 0 + 8 + 0 + 0 + 8 ≤ 16; omega, by show 0 + 0 + 64 + 0 + 0 + 64 ≤ 128; omega⟩) hT (fun v285 H locs hp286 hT => ?_)
                obtain ⟨_, hI⟩ := hp286
                have hS := hI.1
                exact hret _ v285 _ _ _ _ _ dX3_lead_128 hT ⟨_, hI⟩ (by show 0 + 0 + 8 + 0 + 0 + 8 ≤ 16; omega) (by show 0 + 0 + 64 + 0 + 0 + 64 ≤ 128; omega)
              · skip
                refine lv_iconst (v := 4) hx hb dX3_lead_120 (by decide) ?_
                refine lv_goto (tgt := 125) hx hb dX3_lead_121 (by decide) ?_
                refine hv_callv (va_runV (As := [.int (nI i), .int 4]) (rest := []) ⟨hx, hb, hml, hown, hts⟩ (c_decide l D tc hI hi hh 4) (cwV 2 hts (tw_V tw_180 tw_181 tw_492 tw_1 tw_182) rfl rfl rfl (by decide +kernel) ⟨Nat.le_of_ble_eq_true rfl, Nat.le_of_ble_eq_true rfl⟩) (hv_preV (ci := 3) hK hT.1 (cs_kX hS) (by decide) rfl rfl) rfl rfl hl.1 rfl (lv_room (Nat.le_of_ble_eq_true rfl)) dX3_lead_125 ⟨by show 0 + 0 + 8 + 0 + 0 + 8 ≤ 16; omega, by show 0 + 0 + 64 + 0 + 0 + 64 ≤ 128; omega⟩) hT (fun v287 H locs hp288 hT => ?_)
                obtain ⟨_, hI⟩ := hp288
                have hS := hI.1
                exact hret _ v287 _ _ _ _ _ dX3_lead_128 hT ⟨_, hI⟩ (by show 0 + 0 + 8 + 0 + 0 + 8 ≤ 16; omega) (by show 0 + 0 + 64 + 0 + 0 + 64 ≤ 128; omega)
        · skip
          refine lv_iconst (v := 1) hx hb dX3_lead_56 (by decide) ?_
          refine lv_iload_n hx hb dX3_lead_57 rfl (lv_at hl 3 rfl) ?_
          refine lv_ishl hx hb dX3_lead_58 ?_
          refine lv_goto (tgt := 63) hx hb dX3_lead_59 (by decide) ?_
          refine hv_puti (ci := 2) (C := RX2) (T := TX2) (N := 10) hx hb hts (tw_cs in_X2) tyX2 tyX2_ok nmX2 hown hK hT (cs_ks hS hi) (by decide) rfl 2 (by decide) (hts _ (tw_c tw_77)) rfl rfl (x := (1 <<< ((nI i) &&& 31))) rfl rfl dX3_lead_63 (fun H locs hT => ?_)
          have hI := ci_put (f := 202) (a := (fa (16 + i))) (x := (1 <<< ((nI i) &&& 31))) rfl hI
          have hS := hI.1
          refine lv_aload_n hx hb dX3_lead_66 rfl (lv_at hl 2 rfl) ?_
          refine hv_gets (ci := 3) (C := RX3) (T := TX3) (N := 12) hx hb hts (tw_cs in_X3) hown hK hT (cs_kX hS) (by decide) rfl 1 (by decide) (hts _ (tw_c tw_48)) rfl (x := (fa 2)) (cs_pN hS) dX3_lead_67 ?_
          refine lv_iload_n hx hb dX3_lead_70 rfl (lv_at hl 3 rfl) ?_
          refine lv_aload_n hx hb dX3_lead_71 rfl (lv_at hl 2 rfl) ?_
          refine lv_iload_n hx hb dX3_lead_72 rfl (lv_at hl 3 rfl) ?_
          refine hv_calli (va_runV (As := [.int (nI i)]) (rest := [.int (nI i), .ref (fa 2)]) ⟨hx, hb, hml, hown, hts⟩ (c_allBut l D tc hS hI.2.1.1 (nI i)) (cwV 1 hts (tw_V tw_131 tw_132 tw_487 tw_1 tw_133) rfl rfl rfl (by decide +kernel) ⟨Nat.le_of_ble_eq_true rfl, Nat.le_of_ble_eq_true rfl⟩) (hv_preV (ci := 3) hK hT.1 (cs_kX hS) (by decide) rfl rfl) rfl rfl hl.1 rfl (lv_room (Nat.le_of_ble_eq_true rfl)) dX3_lead_73 ⟨by show 0 + 0 ≤ 16; omega, by show 0 + 0 ≤ 128; omega⟩) hT (fun r291 v289 H locs hp290 hT => ?_)
          obtain ⟨evhp290, qhp290⟩ := hp290
          rw [evhp290] at hT
          refine lv_iload hx hb dX3_lead_76 (lv_at hl 0 rfl) ?_
          refine lv_if_eq (tgt := 86) hx hb dX3_lead_78 (by decide) (fun c78 => ?_) (fun c78 => ?_)
          · skip
            refine lv_bipush (v := 7) hx hb dX3_lead_86 (by decide) ?_
            refine lv_aload_n hx hb dX3_lead_88 rfl (lv_at hl 1 rfl) ?_
            refine hv_geti (ci := 2) (C := RX2) (T := TX2) (N := 10) hx hb hts (tw_cs in_X2) hown hK hT (cs_ks hS hi) (by decide) rfl 7 (by decide) (hts _ (tw_c tw_87)) rfl dX3_lead_89 ?_
            refine lv_topi (fun g292 eg292 => ?_)
            refine lv_iconst (v := 0) hx hb dX3_lead_92 (by decide) ?_
            refine hv_callv (va_runV (As := [.int (nI i), .int r291, .int 7, .int g292, .int 0]) (rest := []) ⟨hx, hb, hml, hown, hts⟩ (c_send l D tc hI hi r291 7 g292 0 (cs_all qhp290 (cs_n8 hS) (cs_lt8 hS hi)) hh) (cwV 5 hts (tw_V tw_137 tw_138 tw_139 tw_2 tw_140) rfl rfl rfl (by decide +kernel) ⟨Nat.le_of_ble_eq_true rfl, Nat.le_of_ble_eq_true rfl⟩) (hv_preV (ci := 1) hK hT.1 (cs_kN hS) (by decide) rfl rfl) rfl rfl hl.1 rfl (lv_room (Nat.le_of_ble_eq_true rfl)) dX3_lead_93 ⟨by show 0 + 0 + 8 ≤ 16; omega, by show 0 + 0 + 64 ≤ 128; omega⟩) hT (fun v293 H locs hp294 hT => ?_)
            obtain ⟨_, hI⟩ := hp294
            have hS := hI.1
            refine lv_aload_n hx hb dX3_lead_96 rfl (lv_at hl 2 rfl) ?_
            refine lv_aload_n hx hb dX3_lead_97 rfl (lv_at hl 1 rfl) ?_
            refine lv_aload_n hx hb dX3_lead_98 rfl (lv_at hl 2 rfl) ?_
            refine hv_geti (ci := 3) (C := RX3) (T := TX3) (N := 12) hx hb hts (tw_cs in_X3) hown hK hT (cs_kX hS) (by decide) rfl 7 (by decide) (hts _ (tw_c tw_54)) rfl dX3_lead_99 ?_
            refine lv_topi (fun g295 eg295 => ?_)
            obtain ⟨q296, h5q296, h100q296, hq296⟩ := hI.2.1.2.2.2.1
            have eg295 : g295 = (nI q296) := by rw [eg295]; exact hq296
            subst eg295
            refine hv_callv (va_runV (As := [.ref (fa (16 + i)), .int (nI q296)]) (rest := []) ⟨hx, hb, hml, hown, hts⟩ (c_setTimer l D tc hI hi (q := q296) (by have h8 := cs_lt8 hS hi; omega)) (cwV 2 hts (tw_V tw_167 tw_168 tw_489 tw_1 tw_169) rfl rfl rfl (by decide +kernel) ⟨Nat.le_of_ble_eq_true rfl, Nat.le_of_ble_eq_true rfl⟩) (hv_preV (ci := 3) hK hT.1 (cs_kX hS) (by decide) rfl rfl) rfl rfl hl.1 rfl (lv_room (Nat.le_of_ble_eq_true rfl)) dX3_lead_102 ⟨by show 0 + 0 + 8 + 0 ≤ 16; omega, by show 0 + 0 + 64 + 0 ≤ 128; omega⟩) hT (fun v297 H locs hp298 hT => ?_)
            have hI := hp298
            have hS := hI.1
            refine lv_aload_n hx hb dX3_lead_105 rfl (lv_at hl 2 rfl) ?_
            refine lv_aload_n hx hb dX3_lead_106 rfl (lv_at hl 1 rfl) ?_
            refine hv_calli (va_runV (As := [.ref (fa (16 + i))]) (rest := []) ⟨hx, hb, hml, hown, hts⟩ (c_hasQuorum l D tc hS hI.2.1.1 hi) (cwV 1 hts (tw_V tw_177 tw_178 tw_491 tw_1 tw_179) rfl rfl rfl (by decide +kernel) ⟨Nat.le_of_ble_eq_true rfl, Nat.le_of_ble_eq_true rfl⟩) (hv_preV (ci := 3) hK hT.1 (cs_kX hS) (by decide) rfl rfl) rfl rfl hl.1 rfl (lv_room (Nat.le_of_ble_eq_true rfl)) dX3_lead_107 ⟨by show 0 + 0 + 8 + 0 + 0 ≤ 16; omega, by show 0 + 0 + 64 + 0 + 0 ≤ 128; omega⟩) hT (fun r301 v299 H locs hp300 hT => ?_)
            rw [hp300] at hT
            refine lv_if_eq (tgt := 128) hx hb dX3_lead_110 (by decide) (fun c110 => ?_) (fun c110 => ?_)
            · skip
              exact hret _ v297 _ _ _ _ _ dX3_lead_128 hT ⟨_, hI⟩ (by show 0 + 0 + 8 + 0 + 0 ≤ 16; omega) (by show 0 + 0 + 64 + 0 + 0 ≤ 128; omega)
            · skip
              refine lv_aload_n hx hb dX3_lead_113 rfl (lv_at hl 2 rfl) ?_
              refine lv_iload_n hx hb dX3_lead_114 rfl (lv_at hl 3 rfl) ?_
              refine lv_iload hx hb dX3_lead_115 (lv_at hl 0 rfl) ?_
              refine lv_if_eq (tgt := 124) hx hb dX3_lead_117 (by decide) (fun c117 => ?_) (fun c117 => ?_)
              · skip
                refine lv_iconst (v := 5) hx hb dX3_lead_124 (by decide) ?_
                refine hv_callv (va_runV (As := [.int (nI i), .int 5]) (rest := []) ⟨hx, hb, hml, hown, hts⟩ (c_decide l D tc hI hi hh 5) (cwV 2 hts (tw_V tw_180 tw_181 tw_492 tw_1 tw_182) rfl rfl rfl (by decide +kernel) ⟨Nat.le_of_ble_eq_true rfl, Nat.le_of_ble_eq_true rfl⟩) (hv_preV (ci := 3) hK hT.1 (cs_kX hS) (by decide) rfl rfl) rfl rfl hl.1 rfl (lv_room (Nat.le_of_ble_eq_true rfl)) dX3_lead_125 ⟨by show 0 + 0 + 8 + 0 + 0 + 8 ≤ 16; omega, by show 0 + 0 + 64 + 0 + 0 + 64 ≤ 128; omega⟩) hT (fun v302 H locs hp303 hT => ?_)
                obtain ⟨_, hI⟩ := hp303
                have hS := hI.1
                exact hret _ v302 _ _ _ _ _ dX3_lead_128 hT ⟨_, hI⟩ (by show 0 + 0 + 8 + 0 + 0 + 8 ≤ 16; omega) (by show 0 + 0 + 64 + 0 + 0 + 64 ≤ 128; omega)
              · skip
                refine lv_iconst (v := 4) hx hb dX3_lead_120 (by decide) ?_
                refine lv_goto (tgt := 125) hx hb dX3_lead_121 (by decide) ?_
                refine hv_callv (va_runV (As := [.int (nI i), .int 4]) (rest := []) ⟨hx, hb, hml, hown, hts⟩ (c_decide l D tc hI hi hh 4) (cwV 2 hts (tw_V tw_180 tw_181 tw_492 tw_1 tw_182) rfl rfl rfl (by decide +kernel) ⟨Nat.le_of_ble_eq_true rfl, Nat.le_of_ble_eq_true rfl⟩) (hv_preV (ci := 3) hK hT.1 (cs_kX hS) (by decide) rfl rfl) rfl rfl hl.1 rfl (lv_room (Nat.le_of_ble_eq_true rfl)) dX3_lead_125 ⟨by show 0 + 0 + 8 + 0 + 0 + 8 ≤ 16; omega, by show 0 + 0 + 64 + 0 + 0 + 64 ≤ 128; omega⟩) hT (fun v304 H locs hp305 hT => ?_)
                obtain ⟨_, hI⟩ := hp305
                have hS := hI.1
                exact hret _ v304 _ _ _ _ _ dX3_lead_128 hT ⟨_, hI⟩ (by show 0 + 0 + 8 + 0 + 0 + 8 ≤ 16; omega) (by show 0 + 0 + 64 + 0 + 0 + 64 ≤ 128; omega)
          · skip
            refine lv_bipush (v := 6) hx hb dX3_lead_81 (by decide) ?_
            refine lv_goto (tgt := 88) hx hb dX3_lead_83 (by decide) ?_
            refine lv_aload_n hx hb dX3_lead_88 rfl (lv_at hl 1 rfl) ?_
            refine hv_geti (ci := 2) (C := RX2) (T := TX2) (N := 10) hx hb hts (tw_cs in_X2) hown hK hT (cs_ks hS hi) (by decide) rfl 7 (by decide) (hts _ (tw_c tw_87)) rfl dX3_lead_89 ?_
            refine lv_topi (fun g306 eg306 => ?_)
            refine lv_iconst (v := 0) hx hb dX3_lead_92 (by decide) ?_
            refine hv_callv (va_runV (As := [.int (nI i), .int r291, .int 6, .int g306, .int 0]) (rest := []) ⟨hx, hb, hml, hown, hts⟩ (c_send l D tc hI hi r291 6 g306 0 (cs_all qhp290 (cs_n8 hS) (cs_lt8 hS hi)) hh) (cwV 5 hts (tw_V tw_137 tw_138 tw_139 tw_2 tw_140) rfl rfl rfl (by decide +kernel) ⟨Nat.le_of_ble_eq_true rfl, Nat.le_of_ble_eq_true rfl⟩) (hv_preV (ci := 1) hK hT.1 (cs_kN hS) (by decide) rfl rfl) rfl rfl hl.1 rfl (lv_room (Nat.le_of_ble_eq_true rfl)) dX3_lead_93 ⟨by show 0 + 0 + 8 ≤ 16; omega, by show 0 + 0 + 64 ≤ 128; omega⟩) hT (fun v307 H locs hp308 hT => ?_)
            obtain ⟨_, hI⟩ := hp308
            have hS := hI.1
            refine lv_aload_n hx hb dX3_lead_96 rfl (lv_at hl 2 rfl) ?_
            refine lv_aload_n hx hb dX3_lead_97 rfl (lv_at hl 1 rfl) ?_
            refine lv_aload_n hx hb dX3_lead_98 rfl (lv_at hl 2 rfl) ?_
            refine hv_geti (ci := 3) (C := RX3) (T := TX3) (N := 12) hx hb hts (tw_cs in_X3) hown hK hT (cs_kX hS) (by decide) rfl 7 (by decide) (hts _ (tw_c tw_54)) rfl dX3_lead_99 ?_
            refine lv_topi (fun g309 eg309 => ?_)
            obtain ⟨q310, h5q310, h100q310, hq310⟩ := hI.2.1.2.2.2.1
            have eg309 : g309 = (nI q310) := by rw [eg309]; exact hq310
            subst eg309
            refine hv_callv (va_runV (As := [.ref (fa (16 + i)), .int (nI q310)]) (rest := []) ⟨hx, hb, hml, hown, hts⟩ (c_setTimer l D tc hI hi (q := q310) (by have h8 := cs_lt8 hS hi; omega)) (cwV 2 hts (tw_V tw_167 tw_168 tw_489 tw_1 tw_169) rfl rfl rfl (by decide +kernel) ⟨Nat.le_of_ble_eq_true rfl, Nat.le_of_ble_eq_true rfl⟩) (hv_preV (ci := 3) hK hT.1 (cs_kX hS) (by decide) rfl rfl) rfl rfl hl.1 rfl (lv_room (Nat.le_of_ble_eq_true rfl)) dX3_lead_102 ⟨by show 0 + 0 + 8 + 0 ≤ 16; omega, by show 0 + 0 + 64 + 0 ≤ 128; omega⟩) hT (fun v311 H locs hp312 hT => ?_)
            have hI := hp312
            have hS := hI.1
            refine lv_aload_n hx hb dX3_lead_105 rfl (lv_at hl 2 rfl) ?_
            refine lv_aload_n hx hb dX3_lead_106 rfl (lv_at hl 1 rfl) ?_
            refine hv_calli (va_runV (As := [.ref (fa (16 + i))]) (rest := []) ⟨hx, hb, hml, hown, hts⟩ (c_hasQuorum l D tc hS hI.2.1.1 hi) (cwV 1 hts (tw_V tw_177 tw_178 tw_491 tw_1 tw_179) rfl rfl rfl (by decide +kernel) ⟨Nat.le_of_ble_eq_true rfl, Nat.le_of_ble_eq_true rfl⟩) (hv_preV (ci := 3) hK hT.1 (cs_kX hS) (by decide) rfl rfl) rfl rfl hl.1 rfl (lv_room (Nat.le_of_ble_eq_true rfl)) dX3_lead_107 ⟨by show 0 + 0 + 8 + 0 + 0 ≤ 16; omega, by show 0 + 0 + 64 + 0 + 0 ≤ 128; omega⟩) hT (fun r315 v313 H locs hp314 hT => ?_)
            rw [hp314] at hT
            refine lv_if_eq (tgt := 128) hx hb dX3_lead_110 (by decide) (fun c110 => ?_) (fun c110 => ?_)
            · skip
              exact hret _ v311 _ _ _ _ _ dX3_lead_128 hT ⟨_, hI⟩ (by show 0 + 0 + 8 + 0 + 0 ≤ 16; omega) (by show 0 + 0 + 64 + 0 + 0 ≤ 128; omega)
            · skip
              refine lv_aload_n hx hb dX3_lead_113 rfl (lv_at hl 2 rfl) ?_
              refine lv_iload_n hx hb dX3_lead_114 rfl (lv_at hl 3 rfl) ?_
              refine lv_iload hx hb dX3_lead_115 (lv_at hl 0 rfl) ?_
              refine lv_if_eq (tgt := 124) hx hb dX3_lead_117 (by decide) (fun c117 => ?_) (fun c117 => ?_)
              · skip
                refine lv_iconst (v := 5) hx hb dX3_lead_124 (by decide) ?_
                refine hv_callv (va_runV (As := [.int (nI i), .int 5]) (rest := []) ⟨hx, hb, hml, hown, hts⟩ (c_decide l D tc hI hi hh 5) (cwV 2 hts (tw_V tw_180 tw_181 tw_492 tw_1 tw_182) rfl rfl rfl (by decide +kernel) ⟨Nat.le_of_ble_eq_true rfl, Nat.le_of_ble_eq_true rfl⟩) (hv_preV (ci := 3) hK hT.1 (cs_kX hS) (by decide) rfl rfl) rfl rfl hl.1 rfl (lv_room (Nat.le_of_ble_eq_true rfl)) dX3_lead_125 ⟨by show 0 + 0 + 8 + 0 + 0 + 8 ≤ 16; omega, by show 0 + 0 + 64 + 0 + 0 + 64 ≤ 128; omega⟩) hT (fun v316 H locs hp317 hT => ?_)
                obtain ⟨_, hI⟩ := hp317
                have hS := hI.1
                exact hret _ v316 _ _ _ _ _ dX3_lead_128 hT ⟨_, hI⟩ (by show 0 + 0 + 8 + 0 + 0 + 8 ≤ 16; omega) (by show 0 + 0 + 64 + 0 + 0 + 64 ≤ 128; omega)
              · skip
                refine lv_iconst (v := 4) hx hb dX3_lead_120 (by decide) ?_
                refine lv_goto (tgt := 125) hx hb dX3_lead_121 (by decide) ?_
                refine hv_callv (va_runV (As := [.int (nI i), .int 4]) (rest := []) ⟨hx, hb, hml, hown, hts⟩ (c_decide l D tc hI hi hh 4) (cwV 2 hts (tw_V tw_180 tw_181 tw_492 tw_1 tw_182) rfl rfl rfl (by decide +kernel) ⟨Nat.le_of_ble_eq_true rfl, Nat.le_of_ble_eq_true rfl⟩) (hv_preV (ci := 3) hK hT.1 (cs_kX hS) (by decide) rfl rfl) rfl rfl hl.1 rfl (lv_room (Nat.le_of_ble_eq_true rfl)) dX3_lead_125 ⟨by show 0 + 0 + 8 + 0 + 0 + 8 ≤ 16; omega, by show 0 + 0 + 64 + 0 + 0 + 64 ≤ 128; omega⟩) hT (fun v318 H locs hp319 hT => ?_)
                obtain ⟨_, hI⟩ := hp319
                have hS := hI.1
                exact hret _ v318 _ _ _ _ _ dX3_lead_128 hT ⟨_, hI⟩ (by show 0 + 0 + 8 + 0 + 0 + 8 ≤ 16; omega) (by show 0 + 0 + 64 + 0 + 0 + 64 ≤ 128; omega)
      · skip
        refine lv_iconst (v := 2) hx hb dX3_lead_39 (by decide) ?_
        refine lv_goto (tgt := 44) hx hb dX3_lead_40 (by decide) ?_
        refine hv_puti (ci := 2) (C := RX2) (T := TX2) (N := 10) hx hb hts (tw_cs in_X2) tyX2 tyX2_ok nmX2 hown hK hT (cs_ks hS hi) (by decide) rfl 6 (by decide) (hts _ (tw_c tw_85)) rfl rfl (x := 2) rfl rfl dX3_lead_44 (fun H locs hT => ?_)
        have hI := ci_put (f := 206) (a := (fa (16 + i))) (x := 2) rfl hI
        have hS := hI.1
        refine lv_aload_n hx hb dX3_lead_47 rfl (lv_at hl 1 rfl) ?_
        refine lv_aload_n hx hb dX3_lead_48 rfl (lv_at hl 1 rfl) ?_
        refine hv_geti (ci := 2) (C := RX2) (T := TX2) (N := 10) hx hb hts (tw_cs in_X2) hown hK hT (cs_ks hS hi) (by decide) rfl 4 (by decide) (hts _ (tw_c tw_81)) rfl dX3_lead_49 ?_
        refine lv_topi (fun g320 eg320 => ?_)
        refine lv_iload_n hx hb dX3_lead_52 rfl (lv_at hl 4 rfl) ?_
        refine lv_icmp_ne (tgt := 62) hx hb dX3_lead_53 (by decide) (fun c53 => ?_) (fun c53 => ?_)
        · skip
          refine lv_iconst (v := 0) hx hb dX3_lead_62 (by decide) ?_
          refine hv_puti (ci := 2) (C := RX2) (T := TX2) (N := 10) hx hb hts (tw_cs in_X2) tyX2 tyX2_ok nmX2 hown hK hT (cs_ks hS hi) (by decide) rfl 2 (by decide) (hts _ (tw_c tw_77)) rfl rfl (x := 0) rfl rfl dX3_lead_63 (fun H locs hT => ?_)
          have hI := ci_put (f := 202) (a := (fa (16 + i))) (x := 0) rfl hI
          have hS := hI.1
          refine lv_aload_n hx hb dX3_lead_66 rfl (lv_at hl 2 rfl) ?_
          refine hv_gets (ci := 3) (C := RX3) (T := TX3) (N := 12) hx hb hts (tw_cs in_X3) hown hK hT (cs_kX hS) (by decide) rfl 1 (by decide) (hts _ (tw_c tw_48)) rfl (x := (fa 2)) (cs_pN hS) dX3_lead_67 ?_
          refine lv_iload_n hx hb dX3_lead_70 rfl (lv_at hl 3 rfl) ?_
          refine lv_aload_n hx hb dX3_lead_71 rfl (lv_at hl 2 rfl) ?_
          refine lv_iload_n hx hb dX3_lead_72 rfl (lv_at hl 3 rfl) ?_
          refine hv_calli (va_runV (As := [.int (nI i)]) (rest := [.int (nI i), .ref (fa 2)]) ⟨hx, hb, hml, hown, hts⟩ (c_allBut l D tc hS hI.2.1.1 (nI i)) (cwV 1 hts (tw_V tw_131 tw_132 tw_487 tw_1 tw_133) rfl rfl rfl (by decide +kernel) ⟨Nat.le_of_ble_eq_true rfl, Nat.le_of_ble_eq_true rfl⟩) (hv_preV (ci := 3) hK hT.1 (cs_kX hS) (by decide) rfl rfl) rfl rfl hl.1 rfl (lv_room (Nat.le_of_ble_eq_true rfl)) dX3_lead_73 ⟨by show 0 + 0 ≤ 16; omega, by show 0 + 0 ≤ 128; omega⟩) hT (fun r323 v321 H locs hp322 hT => ?_)
          obtain ⟨evhp322, qhp322⟩ := hp322
          rw [evhp322] at hT
          refine lv_iload hx hb dX3_lead_76 (lv_at hl 0 rfl) ?_
          refine lv_if_eq (tgt := 86) hx hb dX3_lead_78 (by decide) (fun c78 => ?_) (fun c78 => ?_)
          · skip
            refine lv_bipush (v := 7) hx hb dX3_lead_86 (by decide) ?_
            refine lv_aload_n hx hb dX3_lead_88 rfl (lv_at hl 1 rfl) ?_
            refine hv_geti (ci := 2) (C := RX2) (T := TX2) (N := 10) hx hb hts (tw_cs in_X2) hown hK hT (cs_ks hS hi) (by decide) rfl 7 (by decide) (hts _ (tw_c tw_87)) rfl dX3_lead_89 ?_
            refine lv_topi (fun g324 eg324 => ?_)
            refine lv_iconst (v := 0) hx hb dX3_lead_92 (by decide) ?_
            refine hv_callv (va_runV (As := [.int (nI i), .int r323, .int 7, .int g324, .int 0]) (rest := []) ⟨hx, hb, hml, hown, hts⟩ (c_send l D tc hI hi r323 7 g324 0 (cs_all qhp322 (cs_n8 hS) (cs_lt8 hS hi)) hh) (cwV 5 hts (tw_V tw_137 tw_138 tw_139 tw_2 tw_140) rfl rfl rfl (by decide +kernel) ⟨Nat.le_of_ble_eq_true rfl, Nat.le_of_ble_eq_true rfl⟩) (hv_preV (ci := 1) hK hT.1 (cs_kN hS) (by decide) rfl rfl) rfl rfl hl.1 rfl (lv_room (Nat.le_of_ble_eq_true rfl)) dX3_lead_93 ⟨by show 0 + 0 + 8 ≤ 16; omega, by show 0 + 0 + 64 ≤ 128; omega⟩) hT (fun v325 H locs hp326 hT => ?_)
            obtain ⟨_, hI⟩ := hp326
            have hS := hI.1
            refine lv_aload_n hx hb dX3_lead_96 rfl (lv_at hl 2 rfl) ?_
            refine lv_aload_n hx hb dX3_lead_97 rfl (lv_at hl 1 rfl) ?_
            refine lv_aload_n hx hb dX3_lead_98 rfl (lv_at hl 2 rfl) ?_
            refine hv_geti (ci := 3) (C := RX3) (T := TX3) (N := 12) hx hb hts (tw_cs in_X3) hown hK hT (cs_kX hS) (by decide) rfl 7 (by decide) (hts _ (tw_c tw_54)) rfl dX3_lead_99 ?_
            refine lv_topi (fun g327 eg327 => ?_)
            obtain ⟨q328, h5q328, h100q328, hq328⟩ := hI.2.1.2.2.2.1
            have eg327 : g327 = (nI q328) := by rw [eg327]; exact hq328
            subst eg327
            refine hv_callv (va_runV (As := [.ref (fa (16 + i)), .int (nI q328)]) (rest := []) ⟨hx, hb, hml, hown, hts⟩ (c_setTimer l D tc hI hi (q := q328) (by have h8 := cs_lt8 hS hi; omega)) (cwV 2 hts (tw_V tw_167 tw_168 tw_489 tw_1 tw_169) rfl rfl rfl (by decide +kernel) ⟨Nat.le_of_ble_eq_true rfl, Nat.le_of_ble_eq_true rfl⟩) (hv_preV (ci := 3) hK hT.1 (cs_kX hS) (by decide) rfl rfl) rfl rfl hl.1 rfl (lv_room (Nat.le_of_ble_eq_true rfl)) dX3_lead_102 ⟨by show 0 + 0 + 8 + 0 ≤ 16; omega, by show 0 + 0 + 64 + 0 ≤ 128; omega⟩) hT (fun v329 H locs hp330 hT => ?_)
            have hI := hp330
            have hS := hI.1
            refine lv_aload_n hx hb dX3_lead_105 rfl (lv_at hl 2 rfl) ?_
            refine lv_aload_n hx hb dX3_lead_106 rfl (lv_at hl 1 rfl) ?_
            refine hv_calli (va_runV (As := [.ref (fa (16 + i))]) (rest := []) ⟨hx, hb, hml, hown, hts⟩ (c_hasQuorum l D tc hS hI.2.1.1 hi) (cwV 1 hts (tw_V tw_177 tw_178 tw_491 tw_1 tw_179) rfl rfl rfl (by decide +kernel) ⟨Nat.le_of_ble_eq_true rfl, Nat.le_of_ble_eq_true rfl⟩) (hv_preV (ci := 3) hK hT.1 (cs_kX hS) (by decide) rfl rfl) rfl rfl hl.1 rfl (lv_room (Nat.le_of_ble_eq_true rfl)) dX3_lead_107 ⟨by show 0 + 0 + 8 + 0 + 0 ≤ 16; omega, by show 0 + 0 + 64 + 0 + 0 ≤ 128; omega⟩) hT (fun r333 v331 H locs hp332 hT => ?_)
            rw [hp332] at hT
            refine lv_if_eq (tgt := 128) hx hb dX3_lead_110 (by decide) (fun c110 => ?_) (fun c110 => ?_)
            · skip
              exact hret _ v329 _ _ _ _ _ dX3_lead_128 hT ⟨_, hI⟩ (by show 0 + 0 + 8 + 0 + 0 ≤ 16; omega) (by show 0 + 0 + 64 + 0 + 0 ≤ 128; omega)
            · skip
              refine lv_aload_n hx hb dX3_lead_113 rfl (lv_at hl 2 rfl) ?_
              refine lv_iload_n hx hb dX3_lead_114 rfl (lv_at hl 3 rfl) ?_
              refine lv_iload hx hb dX3_lead_115 (lv_at hl 0 rfl) ?_
              refine lv_if_eq (tgt := 124) hx hb dX3_lead_117 (by decide) (fun c117 => ?_) (fun c117 => ?_)
              · skip
                refine lv_iconst (v := 5) hx hb dX3_lead_124 (by decide) ?_
                refine hv_callv (va_runV (As := [.int (nI i), .int 5]) (rest := []) ⟨hx, hb, hml, hown, hts⟩ (c_decide l D tc hI hi hh 5) (cwV 2 hts (tw_V tw_180 tw_181 tw_492 tw_1 tw_182) rfl rfl rfl (by decide +kernel) ⟨Nat.le_of_ble_eq_true rfl, Nat.le_of_ble_eq_true rfl⟩) (hv_preV (ci := 3) hK hT.1 (cs_kX hS) (by decide) rfl rfl) rfl rfl hl.1 rfl (lv_room (Nat.le_of_ble_eq_true rfl)) dX3_lead_125 ⟨by show 0 + 0 + 8 + 0 + 0 + 8 ≤ 16; omega, by show 0 + 0 + 64 + 0 + 0 + 64 ≤ 128; omega⟩) hT (fun v334 H locs hp335 hT => ?_)
                obtain ⟨_, hI⟩ := hp335
                have hS := hI.1
                exact hret _ v334 _ _ _ _ _ dX3_lead_128 hT ⟨_, hI⟩ (by show 0 + 0 + 8 + 0 + 0 + 8 ≤ 16; omega) (by show 0 + 0 + 64 + 0 + 0 + 64 ≤ 128; omega)
              · skip
                refine lv_iconst (v := 4) hx hb dX3_lead_120 (by decide) ?_
                refine lv_goto (tgt := 125) hx hb dX3_lead_121 (by decide) ?_
                refine hv_callv (va_runV (As := [.int (nI i), .int 4]) (rest := []) ⟨hx, hb, hml, hown, hts⟩ (c_decide l D tc hI hi hh 4) (cwV 2 hts (tw_V tw_180 tw_181 tw_492 tw_1 tw_182) rfl rfl rfl (by decide +kernel) ⟨Nat.le_of_ble_eq_true rfl, Nat.le_of_ble_eq_true rfl⟩) (hv_preV (ci := 3) hK hT.1 (cs_kX hS) (by decide) rfl rfl) rfl rfl hl.1 rfl (lv_room (Nat.le_of_ble_eq_true rfl)) dX3_lead_125 ⟨by show 0 + 0 + 8 + 0 + 0 + 8 ≤ 16; omega, by show 0 + 0 + 64 + 0 + 0 + 64 ≤ 128; omega⟩) hT (fun v336 H locs hp337 hT => ?_)
                obtain ⟨_, hI⟩ := hp337
                have hS := hI.1
                exact hret _ v336 _ _ _ _ _ dX3_lead_128 hT ⟨_, hI⟩ (by show 0 + 0 + 8 + 0 + 0 + 8 ≤ 16; omega) (by show 0 + 0 + 64 + 0 + 0 + 64 ≤ 128; omega)
          · skip
            refine lv_bipush (v := 6) hx hb dX3_lead_81 (by decide) ?_
            refine lv_goto (tgt := 88) hx hb dX3_lead_83 (by decide) ?_
            refine lv_aload_n hx hb dX3_lead_88 rfl (lv_at hl 1 rfl) ?_
            refine hv_geti (ci := 2) (C := RX2) (T := TX2) (N := 10) hx hb hts (tw_cs in_X2) hown hK hT (cs_ks hS hi) (by decide) rfl 7 (by decide) (hts _ (tw_c tw_87)) rfl dX3_lead_89 ?_
            refine lv_topi (fun g338 eg338 => ?_)
            refine lv_iconst (v := 0) hx hb dX3_lead_92 (by decide) ?_
            refine hv_callv (va_runV (As := [.int (nI i), .int r323, .int 6, .int g338, .int 0]) (rest := []) ⟨hx, hb, hml, hown, hts⟩ (c_send l D tc hI hi r323 6 g338 0 (cs_all qhp322 (cs_n8 hS) (cs_lt8 hS hi)) hh) (cwV 5 hts (tw_V tw_137 tw_138 tw_139 tw_2 tw_140) rfl rfl rfl (by decide +kernel) ⟨Nat.le_of_ble_eq_true rfl, Nat.le_of_ble_eq_true rfl⟩) (hv_preV (ci := 1) hK hT.1 (cs_kN hS) (by decide) rfl rfl) rfl rfl hl.1 rfl (lv_room (Nat.le_of_ble_eq_true rfl)) dX3_lead_93 ⟨by show 0 + 0 + 8 ≤ 16; omega, by show 0 + 0 + 64 ≤ 128; omega⟩) hT (fun v339 H locs hp340 hT => ?_)
            obtain ⟨_, hI⟩ := hp340
            have hS := hI.1
            refine lv_aload_n hx hb dX3_lead_96 rfl (lv_at hl 2 rfl) ?_
            refine lv_aload_n hx hb dX3_lead_97 rfl (lv_at hl 1 rfl) ?_
            refine lv_aload_n hx hb dX3_lead_98 rfl (lv_at hl 2 rfl) ?_
            refine hv_geti (ci := 3) (C := RX3) (T := TX3) (N := 12) hx hb hts (tw_cs in_X3) hown hK hT (cs_kX hS) (by decide) rfl 7 (by decide) (hts _ (tw_c tw_54)) rfl dX3_lead_99 ?_
            refine lv_topi (fun g341 eg341 => ?_)
            obtain ⟨q342, h5q342, h100q342, hq342⟩ := hI.2.1.2.2.2.1
            have eg341 : g341 = (nI q342) := by rw [eg341]; exact hq342
            subst eg341
            refine hv_callv (va_runV (As := [.ref (fa (16 + i)), .int (nI q342)]) (rest := []) ⟨hx, hb, hml, hown, hts⟩ (c_setTimer l D tc hI hi (q := q342) (by have h8 := cs_lt8 hS hi; omega)) (cwV 2 hts (tw_V tw_167 tw_168 tw_489 tw_1 tw_169) rfl rfl rfl (by decide +kernel) ⟨Nat.le_of_ble_eq_true rfl, Nat.le_of_ble_eq_true rfl⟩) (hv_preV (ci := 3) hK hT.1 (cs_kX hS) (by decide) rfl rfl) rfl rfl hl.1 rfl (lv_room (Nat.le_of_ble_eq_true rfl)) dX3_lead_102 ⟨by show 0 + 0 + 8 + 0 ≤ 16; omega, by show 0 + 0 + 64 + 0 ≤ 128; omega⟩) hT (fun v343 H locs hp344 hT => ?_)
            have hI := hp344
            have hS := hI.1
            refine lv_aload_n hx hb dX3_lead_105 rfl (lv_at hl 2 rfl) ?_
            refine lv_aload_n hx hb dX3_lead_106 rfl (lv_at hl 1 rfl) ?_
            refine hv_calli (va_runV (As := [.ref (fa (16 + i))]) (rest := []) ⟨hx, hb, hml, hown, hts⟩ (c_hasQuorum l D tc hS hI.2.1.1 hi) (cwV 1 hts (tw_V tw_177 tw_178 tw_491 tw_1 tw_179) rfl rfl rfl (by decide +kernel) ⟨Nat.le_of_ble_eq_true rfl, Nat.le_of_ble_eq_true rfl⟩) (hv_preV (ci := 3) hK hT.1 (cs_kX hS) (by decide) rfl rfl) rfl rfl hl.1 rfl (lv_room (Nat.le_of_ble_eq_true rfl)) dX3_lead_107 ⟨by show 0 + 0 + 8 + 0 + 0 ≤ 16; omega, by show 0 + 0 + 64 + 0 + 0 ≤ 128; omega⟩) hT (fun r347 v345 H locs hp346 hT => ?_)
            rw [hp346] at hT
            refine lv_if_eq (tgt := 128) hx hb dX3_lead_110 (by decide) (fun c110 => ?_) (fun c110 => ?_)
            · skip
              exact hret _ v343 _ _ _ _ _ dX3_lead_128 hT ⟨_, hI⟩ (by show 0 + 0 + 8 + 0 + 0 ≤ 16; omega) (by show 0 + 0 + 64 + 0 + 0 ≤ 128; omega)
            · skip
              refine lv_aload_n hx hb dX3_lead_113 rfl (lv_at hl 2 rfl) ?_
              refine lv_iload_n hx hb dX3_lead_114 rfl (lv_at hl 3 rfl) ?_
              refine lv_iload hx hb dX3_lead_115 (lv_at hl 0 rfl) ?_
              refine lv_if_eq (tgt := 124) hx hb dX3_lead_117 (by decide) (fun c117 => ?_) (fun c117 => ?_)
              · skip
                refine lv_iconst (v := 5) hx hb dX3_lead_124 (by decide) ?_
                refine hv_callv (va_runV (As := [.int (nI i), .int 5]) (rest := []) ⟨hx, hb, hml, hown, hts⟩ (c_decide l D tc hI hi hh 5) (cwV 2 hts (tw_V tw_180 tw_181 tw_492 tw_1 tw_182) rfl rfl rfl (by decide +kernel) ⟨Nat.le_of_ble_eq_true rfl, Nat.le_of_ble_eq_true rfl⟩) (hv_preV (ci := 3) hK hT.1 (cs_kX hS) (by decide) rfl rfl) rfl rfl hl.1 rfl (lv_room (Nat.le_of_ble_eq_true rfl)) dX3_lead_125 ⟨by show 0 + 0 + 8 + 0 + 0 + 8 ≤ 16; omega, by show 0 + 0 + 64 + 0 + 0 + 64 ≤ 128; omega⟩) hT (fun v348 H locs hp349 hT => ?_)
                obtain ⟨_, hI⟩ := hp349
                have hS := hI.1
                exact hret _ v348 _ _ _ _ _ dX3_lead_128 hT ⟨_, hI⟩ (by show 0 + 0 + 8 + 0 + 0 + 8 ≤ 16; omega) (by show 0 + 0 + 64 + 0 + 0 + 64 ≤ 128; omega)
              · skip
                refine lv_iconst (v := 4) hx hb dX3_lead_120 (by decide) ?_
                refine lv_goto (tgt := 125) hx hb dX3_lead_121 (by decide) ?_
                refine hv_callv (va_runV (As := [.int (nI i), .int 4]) (rest := []) ⟨hx, hb, hml, hown, hts⟩ (c_decide l D tc hI hi hh 4) (cwV 2 hts (tw_V tw_180 tw_181 tw_492 tw_1 tw_182) rfl rfl rfl (by decide +kernel) ⟨Nat.le_of_ble_eq_true rfl, Nat.le_of_ble_eq_true rfl⟩) (hv_preV (ci := 3) hK hT.1 (cs_kX hS) (by decide) rfl rfl) rfl rfl hl.1 rfl (lv_room (Nat.le_of_ble_eq_true rfl)) dX3_lead_125 ⟨by show 0 + 0 + 8 + 0 + 0 + 8 ≤ 16; omega, by show 0 + 0 + 64 + 0 + 0 + 64 ≤ 128; omega⟩) hT (fun v350 H locs hp351 hT => ?_)
                obtain ⟨_, hI⟩ := hp351
                have hS := hI.1
                exact hret _ v350 _ _ _ _ _ dX3_lead_128 hT ⟨_, hI⟩ (by show 0 + 0 + 8 + 0 + 0 + 8 ≤ 16; omega) (by show 0 + 0 + 64 + 0 + 0 + 64 ≤ 128; omega)
        · skip
          refine lv_iconst (v := 1) hx hb dX3_lead_56 (by decide) ?_
          refine lv_iload_n hx hb dX3_lead_57 rfl (lv_at hl 3 rfl) ?_
          refine lv_ishl hx hb dX3_lead_58 ?_
          refine lv_goto (tgt := 63) hx hb dX3_lead_59 (by decide) ?_
          refine hv_puti (ci := 2) (C := RX2) (T := TX2) (N := 10) hx hb hts (tw_cs in_X2) tyX2 tyX2_ok nmX2 hown hK hT (cs_ks hS hi) (by decide) rfl 2 (by decide) (hts _ (tw_c tw_77)) rfl rfl (x := (1 <<< ((nI i) &&& 31))) rfl rfl dX3_lead_63 (fun H locs hT => ?_)
          have hI := ci_put (f := 202) (a := (fa (16 + i))) (x := (1 <<< ((nI i) &&& 31))) rfl hI
          have hS := hI.1
          refine lv_aload_n hx hb dX3_lead_66 rfl (lv_at hl 2 rfl) ?_
          refine hv_gets (ci := 3) (C := RX3) (T := TX3) (N := 12) hx hb hts (tw_cs in_X3) hown hK hT (cs_kX hS) (by decide) rfl 1 (by decide) (hts _ (tw_c tw_48)) rfl (x := (fa 2)) (cs_pN hS) dX3_lead_67 ?_
          refine lv_iload_n hx hb dX3_lead_70 rfl (lv_at hl 3 rfl) ?_
          refine lv_aload_n hx hb dX3_lead_71 rfl (lv_at hl 2 rfl) ?_
          refine lv_iload_n hx hb dX3_lead_72 rfl (lv_at hl 3 rfl) ?_
          refine hv_calli (va_runV (As := [.int (nI i)]) (rest := [.int (nI i), .ref (fa 2)]) ⟨hx, hb, hml, hown, hts⟩ (c_allBut l D tc hS hI.2.1.1 (nI i)) (cwV 1 hts (tw_V tw_131 tw_132 tw_487 tw_1 tw_133) rfl rfl rfl (by decide +kernel) ⟨Nat.le_of_ble_eq_true rfl, Nat.le_of_ble_eq_true rfl⟩) (hv_preV (ci := 3) hK hT.1 (cs_kX hS) (by decide) rfl rfl) rfl rfl hl.1 rfl (lv_room (Nat.le_of_ble_eq_true rfl)) dX3_lead_73 ⟨by show 0 + 0 ≤ 16; omega, by show 0 + 0 ≤ 128; omega⟩) hT (fun r354 v352 H locs hp353 hT => ?_)
          obtain ⟨evhp353, qhp353⟩ := hp353
          rw [evhp353] at hT
          refine lv_iload hx hb dX3_lead_76 (lv_at hl 0 rfl) ?_
          refine lv_if_eq (tgt := 86) hx hb dX3_lead_78 (by decide) (fun c78 => ?_) (fun c78 => ?_)
          · skip
            refine lv_bipush (v := 7) hx hb dX3_lead_86 (by decide) ?_
            refine lv_aload_n hx hb dX3_lead_88 rfl (lv_at hl 1 rfl) ?_
            refine hv_geti (ci := 2) (C := RX2) (T := TX2) (N := 10) hx hb hts (tw_cs in_X2) hown hK hT (cs_ks hS hi) (by decide) rfl 7 (by decide) (hts _ (tw_c tw_87)) rfl dX3_lead_89 ?_
            refine lv_topi (fun g355 eg355 => ?_)
            refine lv_iconst (v := 0) hx hb dX3_lead_92 (by decide) ?_
            refine hv_callv (va_runV (As := [.int (nI i), .int r354, .int 7, .int g355, .int 0]) (rest := []) ⟨hx, hb, hml, hown, hts⟩ (c_send l D tc hI hi r354 7 g355 0 (cs_all qhp353 (cs_n8 hS) (cs_lt8 hS hi)) hh) (cwV 5 hts (tw_V tw_137 tw_138 tw_139 tw_2 tw_140) rfl rfl rfl (by decide +kernel) ⟨Nat.le_of_ble_eq_true rfl, Nat.le_of_ble_eq_true rfl⟩) (hv_preV (ci := 1) hK hT.1 (cs_kN hS) (by decide) rfl rfl) rfl rfl hl.1 rfl (lv_room (Nat.le_of_ble_eq_true rfl)) dX3_lead_93 ⟨by show 0 + 0 + 8 ≤ 16; omega, by show 0 + 0 + 64 ≤ 128; omega⟩) hT (fun v356 H locs hp357 hT => ?_)
            obtain ⟨_, hI⟩ := hp357
            have hS := hI.1
            refine lv_aload_n hx hb dX3_lead_96 rfl (lv_at hl 2 rfl) ?_
            refine lv_aload_n hx hb dX3_lead_97 rfl (lv_at hl 1 rfl) ?_
            refine lv_aload_n hx hb dX3_lead_98 rfl (lv_at hl 2 rfl) ?_
            refine hv_geti (ci := 3) (C := RX3) (T := TX3) (N := 12) hx hb hts (tw_cs in_X3) hown hK hT (cs_kX hS) (by decide) rfl 7 (by decide) (hts _ (tw_c tw_54)) rfl dX3_lead_99 ?_
            refine lv_topi (fun g358 eg358 => ?_)
            obtain ⟨q359, h5q359, h100q359, hq359⟩ := hI.2.1.2.2.2.1
            have eg358 : g358 = (nI q359) := by rw [eg358]; exact hq359
            subst eg358
            refine hv_callv (va_runV (As := [.ref (fa (16 + i)), .int (nI q359)]) (rest := []) ⟨hx, hb, hml, hown, hts⟩ (c_setTimer l D tc hI hi (q := q359) (by have h8 := cs_lt8 hS hi; omega)) (cwV 2 hts (tw_V tw_167 tw_168 tw_489 tw_1 tw_169) rfl rfl rfl (by decide +kernel) ⟨Nat.le_of_ble_eq_true rfl, Nat.le_of_ble_eq_true rfl⟩) (hv_preV (ci := 3) hK hT.1 (cs_kX hS) (by decide) rfl rfl) rfl rfl hl.1 rfl (lv_room (Nat.le_of_ble_eq_true rfl)) dX3_lead_102 ⟨by show 0 + 0 + 8 + 0 ≤ 16; omega, by show 0 + 0 + 64 + 0 ≤ 128; omega⟩) hT (fun v360 H locs hp361 hT => ?_)
            have hI := hp361
            have hS := hI.1
            refine lv_aload_n hx hb dX3_lead_105 rfl (lv_at hl 2 rfl) ?_
            refine lv_aload_n hx hb dX3_lead_106 rfl (lv_at hl 1 rfl) ?_
            refine hv_calli (va_runV (As := [.ref (fa (16 + i))]) (rest := []) ⟨hx, hb, hml, hown, hts⟩ (c_hasQuorum l D tc hS hI.2.1.1 hi) (cwV 1 hts (tw_V tw_177 tw_178 tw_491 tw_1 tw_179) rfl rfl rfl (by decide +kernel) ⟨Nat.le_of_ble_eq_true rfl, Nat.le_of_ble_eq_true rfl⟩) (hv_preV (ci := 3) hK hT.1 (cs_kX hS) (by decide) rfl rfl) rfl rfl hl.1 rfl (lv_room (Nat.le_of_ble_eq_true rfl)) dX3_lead_107 ⟨by show 0 + 0 + 8 + 0 + 0 ≤ 16; omega, by show 0 + 0 + 64 + 0 + 0 ≤ 128; omega⟩) hT (fun r364 v362 H locs hp363 hT => ?_)
            rw [hp363] at hT
            refine lv_if_eq (tgt := 128) hx hb dX3_lead_110 (by decide) (fun c110 => ?_) (fun c110 => ?_)
            · skip
              exact hret _ v360 _ _ _ _ _ dX3_lead_128 hT ⟨_, hI⟩ (by show 0 + 0 + 8 + 0 + 0 ≤ 16; omega) (by show 0 + 0 + 64 + 0 + 0 ≤ 128; omega)
            · skip
              refine lv_aload_n hx hb dX3_lead_113 rfl (lv_at hl 2 rfl) ?_
              refine lv_iload_n hx hb dX3_lead_114 rfl (lv_at hl 3 rfl) ?_
              refine lv_iload hx hb dX3_lead_115 (lv_at hl 0 rfl) ?_
              refine lv_if_eq (tgt := 124) hx hb dX3_lead_117 (by decide) (fun c117 => ?_) (fun c117 => ?_)
              · skip
                refine lv_iconst (v := 5) hx hb dX3_lead_124 (by decide) ?_
                refine hv_callv (va_runV (As := [.int (nI i), .int 5]) (rest := []) ⟨hx, hb, hml, hown, hts⟩ (c_decide l D tc hI hi hh 5) (cwV 2 hts (tw_V tw_180 tw_181 tw_492 tw_1 tw_182) rfl rfl rfl (by decide +kernel) ⟨Nat.le_of_ble_eq_true rfl, Nat.le_of_ble_eq_true rfl⟩) (hv_preV (ci := 3) hK hT.1 (cs_kX hS) (by decide) rfl rfl) rfl rfl hl.1 rfl (lv_room (Nat.le_of_ble_eq_true rfl)) dX3_lead_125 ⟨by show 0 + 0 + 8 + 0 + 0 + 8 ≤ 16; omega, by show 0 + 0 + 64 + 0 + 0 + 64 ≤ 128; omega⟩) hT (fun v365 H locs hp366 hT => ?_)
                obtain ⟨_, hI⟩ := hp366
                have hS := hI.1
                exact hret _ v365 _ _ _ _ _ dX3_lead_128 hT ⟨_, hI⟩ (by show 0 + 0 + 8 + 0 + 0 + 8 ≤ 16; omega) (by show 0 + 0 + 64 + 0 + 0 + 64 ≤ 128; omega)
              · skip
                refine lv_iconst (v := 4) hx hb dX3_lead_120 (by decide) ?_
                refine lv_goto (tgt := 125) hx hb dX3_lead_121 (by decide) ?_
                refine hv_callv (va_runV (As := [.int (nI i), .int 4]) (rest := []) ⟨hx, hb, hml, hown, hts⟩ (c_decide l D tc hI hi hh 4) (cwV 2 hts (tw_V tw_180 tw_181 tw_492 tw_1 tw_182) rfl rfl rfl (by decide +kernel) ⟨Nat.le_of_ble_eq_true rfl, Nat.le_of_ble_eq_true rfl⟩) (hv_preV (ci := 3) hK hT.1 (cs_kX hS) (by decide) rfl rfl) rfl rfl hl.1 rfl (lv_room (Nat.le_of_ble_eq_true rfl)) dX3_lead_125 ⟨by show 0 + 0 + 8 + 0 + 0 + 8 ≤ 16; omega, by show 0 + 0 + 64 + 0 + 0 + 64 ≤ 128; omega⟩) hT (fun v367 H locs hp368 hT => ?_)
                obtain ⟨_, hI⟩ := hp368
                have hS := hI.1
                exact hret _ v367 _ _ _ _ _ dX3_lead_128 hT ⟨_, hI⟩ (by show 0 + 0 + 8 + 0 + 0 + 8 ≤ 16; omega) (by show 0 + 0 + 64 + 0 + 0 + 64 ≤ 128; omega)
          · skip
            refine lv_bipush (v := 6) hx hb dX3_lead_81 (by decide) ?_
            refine lv_goto (tgt := 88) hx hb dX3_lead_83 (by decide) ?_
            refine lv_aload_n hx hb dX3_lead_88 rfl (lv_at hl 1 rfl) ?_
            refine hv_geti (ci := 2) (C := RX2) (T := TX2) (N := 10) hx hb hts (tw_cs in_X2) hown hK hT (cs_ks hS hi) (by decide) rfl 7 (by decide) (hts _ (tw_c tw_87)) rfl dX3_lead_89 ?_
            refine lv_topi (fun g369 eg369 => ?_)
            refine lv_iconst (v := 0) hx hb dX3_lead_92 (by decide) ?_
            refine hv_callv (va_runV (As := [.int (nI i), .int r354, .int 6, .int g369, .int 0]) (rest := []) ⟨hx, hb, hml, hown, hts⟩ (c_send l D tc hI hi r354 6 g369 0 (cs_all qhp353 (cs_n8 hS) (cs_lt8 hS hi)) hh) (cwV 5 hts (tw_V tw_137 tw_138 tw_139 tw_2 tw_140) rfl rfl rfl (by decide +kernel) ⟨Nat.le_of_ble_eq_true rfl, Nat.le_of_ble_eq_true rfl⟩) (hv_preV (ci := 1) hK hT.1 (cs_kN hS) (by decide) rfl rfl) rfl rfl hl.1 rfl (lv_room (Nat.le_of_ble_eq_true rfl)) dX3_lead_93 ⟨by show 0 + 0 + 8 ≤ 16; omega, by show 0 + 0 + 64 ≤ 128; omega⟩) hT (fun v370 H locs hp371 hT => ?_)
            obtain ⟨_, hI⟩ := hp371
            have hS := hI.1
            refine lv_aload_n hx hb dX3_lead_96 rfl (lv_at hl 2 rfl) ?_
            refine lv_aload_n hx hb dX3_lead_97 rfl (lv_at hl 1 rfl) ?_
            refine lv_aload_n hx hb dX3_lead_98 rfl (lv_at hl 2 rfl) ?_
            refine hv_geti (ci := 3) (C := RX3) (T := TX3) (N := 12) hx hb hts (tw_cs in_X3) hown hK hT (cs_kX hS) (by decide) rfl 7 (by decide) (hts _ (tw_c tw_54)) rfl dX3_lead_99 ?_
            refine lv_topi (fun g372 eg372 => ?_)
            obtain ⟨q373, h5q373, h100q373, hq373⟩ := hI.2.1.2.2.2.1
            have eg372 : g372 = (nI q373) := by rw [eg372]; exact hq373
            subst eg372
            refine hv_callv (va_runV (As := [.ref (fa (16 + i)), .int (nI q373)]) (rest := []) ⟨hx, hb, hml, hown, hts⟩ (c_setTimer l D tc hI hi (q := q373) (by have h8 := cs_lt8 hS hi; omega)) (cwV 2 hts (tw_V tw_167 tw_168 tw_489 tw_1 tw_169) rfl rfl rfl (by decide +kernel) ⟨Nat.le_of_ble_eq_true rfl, Nat.le_of_ble_eq_true rfl⟩) (hv_preV (ci := 3) hK hT.1 (cs_kX hS) (by decide) rfl rfl) rfl rfl hl.1 rfl (lv_room (Nat.le_of_ble_eq_true rfl)) dX3_lead_102 ⟨by show 0 + 0 + 8 + 0 ≤ 16; omega, by show 0 + 0 + 64 + 0 ≤ 128; omega⟩) hT (fun v374 H locs hp375 hT => ?_)
            have hI := hp375
            have hS := hI.1
            refine lv_aload_n hx hb dX3_lead_105 rfl (lv_at hl 2 rfl) ?_
            refine lv_aload_n hx hb dX3_lead_106 rfl (lv_at hl 1 rfl) ?_
            refine hv_calli (va_runV (As := [.ref (fa (16 + i))]) (rest := []) ⟨hx, hb, hml, hown, hts⟩ (c_hasQuorum l D tc hS hI.2.1.1 hi) (cwV 1 hts (tw_V tw_177 tw_178 tw_491 tw_1 tw_179) rfl rfl rfl (by decide +kernel) ⟨Nat.le_of_ble_eq_true rfl, Nat.le_of_ble_eq_true rfl⟩) (hv_preV (ci := 3) hK hT.1 (cs_kX hS) (by decide) rfl rfl) rfl rfl hl.1 rfl (lv_room (Nat.le_of_ble_eq_true rfl)) dX3_lead_107 ⟨by show 0 + 0 + 8 + 0 + 0 ≤ 16; omega, by show 0 + 0 + 64 + 0 + 0 ≤ 128; omega⟩) hT (fun r378 v376 H locs hp377 hT => ?_)
            rw [hp377] at hT
            refine lv_if_eq (tgt := 128) hx hb dX3_lead_110 (by decide) (fun c110 => ?_) (fun c110 => ?_)
            · skip
              exact hret _ v374 _ _ _ _ _ dX3_lead_128 hT ⟨_, hI⟩ (by show 0 + 0 + 8 + 0 + 0 ≤ 16; omega) (by show 0 + 0 + 64 + 0 + 0 ≤ 128; omega)
            · skip
              refine lv_aload_n hx hb dX3_lead_113 rfl (lv_at hl 2 rfl) ?_
              refine lv_iload_n hx hb dX3_lead_114 rfl (lv_at hl 3 rfl) ?_
              refine lv_iload hx hb dX3_lead_115 (lv_at hl 0 rfl) ?_
              refine lv_if_eq (tgt := 124) hx hb dX3_lead_117 (by decide) (fun c117 => ?_) (fun c117 => ?_)
              · skip
                refine lv_iconst (v := 5) hx hb dX3_lead_124 (by decide) ?_
                refine hv_callv (va_runV (As := [.int (nI i), .int 5]) (rest := []) ⟨hx, hb, hml, hown, hts⟩ (c_decide l D tc hI hi hh 5) (cwV 2 hts (tw_V tw_180 tw_181 tw_492 tw_1 tw_182) rfl rfl rfl (by decide +kernel) ⟨Nat.le_of_ble_eq_true rfl, Nat.le_of_ble_eq_true rfl⟩) (hv_preV (ci := 3) hK hT.1 (cs_kX hS) (by decide) rfl rfl) rfl rfl hl.1 rfl (lv_room (Nat.le_of_ble_eq_true rfl)) dX3_lead_125 ⟨by show 0 + 0 + 8 + 0 + 0 + 8 ≤ 16; omega, by show 0 + 0 + 64 + 0 + 0 + 64 ≤ 128; omega⟩) hT (fun v379 H locs hp380 hT => ?_)
                obtain ⟨_, hI⟩ := hp380
                have hS := hI.1
                exact hret _ v379 _ _ _ _ _ dX3_lead_128 hT ⟨_, hI⟩ (by show 0 + 0 + 8 + 0 + 0 + 8 ≤ 16; omega) (by show 0 + 0 + 64 + 0 + 0 + 64 ≤ 128; omega)
              · skip
                refine lv_iconst (v := 4) hx hb dX3_lead_120 (by decide) ?_
                refine lv_goto (tgt := 125) hx hb dX3_lead_121 (by decide) ?_
                refine hv_callv (va_runV (As := [.int (nI i), .int 4]) (rest := []) ⟨hx, hb, hml, hown, hts⟩ (c_decide l D tc hI hi hh 4) (cwV 2 hts (tw_V tw_180 tw_181 tw_492 tw_1 tw_182) rfl rfl rfl (by decide +kernel) ⟨Nat.le_of_ble_eq_true rfl, Nat.le_of_ble_eq_true rfl⟩) (hv_preV (ci := 3) hK hT.1 (cs_kX hS) (by decide) rfl rfl) rfl rfl hl.1 rfl (lv_room (Nat.le_of_ble_eq_true rfl)) dX3_lead_125 ⟨by show 0 + 0 + 8 + 0 + 0 + 8 ≤ 16; omega, by show 0 + 0 + 64 + 0 + 0 + 64 ≤ 128; omega⟩) hT (fun v381 H locs hp382 hT => ?_)
                obtain ⟨_, hI⟩ := hp382
                have hS := hI.1
                exact hret _ v381 _ _ _ _ _ dX3_lead_128 hT ⟨_, hI⟩ (by show 0 + 0 + 8 + 0 + 0 + 8 ≤ 16; omega) (by show 0 + 0 + 64 + 0 + 0 + 64 ≤ 128; omega)
    · skip
      refine lv_aload_n hx hb dX3_lead_27 rfl (lv_at hl 2 rfl) ?_
      refine lv_aload_n hx hb dX3_lead_28 rfl (lv_at hl 1 rfl) ?_
      refine lv_iload_n hx hb dX3_lead_29 rfl (lv_at hl 4 rfl) ?_
      refine hv_callv (va_runV (As := [.ref (fa (16 + i)), .int x]) (rest := []) ⟨hx, hb, hml, hown, hts⟩ (c_become l D tc hI hi x) (cwV 2 hts (tw_V tw_124 tw_125 tw_486 tw_1 tw_126) rfl rfl rfl (by decide +kernel) ⟨Nat.le_of_ble_eq_true rfl, Nat.le_of_ble_eq_true rfl⟩) (hv_preV (ci := 3) hK hT.1 (cs_kX hS) (by decide) rfl rfl) rfl rfl hl.1 rfl (lv_room (Nat.le_of_ble_eq_true rfl)) dX3_lead_30 ⟨by show 0 + 0 ≤ 16; omega, by show 0 + 0 ≤ 128; omega⟩) hT (fun v383 H locs hp384 hT => ?_)
      have hI := hp384
      have hS := hI.1
      refine lv_aload_n hx hb dX3_lead_33 rfl (lv_at hl 1 rfl) ?_
      refine lv_iload hx hb dX3_lead_34 (lv_at hl 0 rfl) ?_
      refine lv_if_eq (tgt := 43) hx hb dX3_lead_36 (by decide) (fun c36 => ?_) (fun c36 => ?_)
      · skip
        refine lv_iconst (v := 4) hx hb dX3_lead_43 (by decide) ?_
        refine hv_puti (ci := 2) (C := RX2) (T := TX2) (N := 10) hx hb hts (tw_cs in_X2) tyX2 tyX2_ok nmX2 hown hK hT (cs_ks hS hi) (by decide) rfl 6 (by decide) (hts _ (tw_c tw_85)) rfl rfl (x := 4) rfl rfl dX3_lead_44 (fun H locs hT => ?_)
        have hI := ci_put (f := 206) (a := (fa (16 + i))) (x := 4) rfl hI
        have hS := hI.1
        refine lv_aload_n hx hb dX3_lead_47 rfl (lv_at hl 1 rfl) ?_
        refine lv_aload_n hx hb dX3_lead_48 rfl (lv_at hl 1 rfl) ?_
        refine hv_geti (ci := 2) (C := RX2) (T := TX2) (N := 10) hx hb hts (tw_cs in_X2) hown hK hT (cs_ks hS hi) (by decide) rfl 4 (by decide) (hts _ (tw_c tw_81)) rfl dX3_lead_49 ?_
        refine lv_topi (fun g385 eg385 => ?_)
        refine lv_iload_n hx hb dX3_lead_52 rfl (lv_at hl 4 rfl) ?_
        refine lv_icmp_ne (tgt := 62) hx hb dX3_lead_53 (by decide) (fun c53 => ?_) (fun c53 => ?_)
        · skip
          refine lv_iconst (v := 0) hx hb dX3_lead_62 (by decide) ?_
          refine hv_puti (ci := 2) (C := RX2) (T := TX2) (N := 10) hx hb hts (tw_cs in_X2) tyX2 tyX2_ok nmX2 hown hK hT (cs_ks hS hi) (by decide) rfl 2 (by decide) (hts _ (tw_c tw_77)) rfl rfl (x := 0) rfl rfl dX3_lead_63 (fun H locs hT => ?_)
          have hI := ci_put (f := 202) (a := (fa (16 + i))) (x := 0) rfl hI
          have hS := hI.1
          refine lv_aload_n hx hb dX3_lead_66 rfl (lv_at hl 2 rfl) ?_
          refine hv_gets (ci := 3) (C := RX3) (T := TX3) (N := 12) hx hb hts (tw_cs in_X3) hown hK hT (cs_kX hS) (by decide) rfl 1 (by decide) (hts _ (tw_c tw_48)) rfl (x := (fa 2)) (cs_pN hS) dX3_lead_67 ?_
          refine lv_iload_n hx hb dX3_lead_70 rfl (lv_at hl 3 rfl) ?_
          refine lv_aload_n hx hb dX3_lead_71 rfl (lv_at hl 2 rfl) ?_
          refine lv_iload_n hx hb dX3_lead_72 rfl (lv_at hl 3 rfl) ?_
          refine hv_calli (va_runV (As := [.int (nI i)]) (rest := [.int (nI i), .ref (fa 2)]) ⟨hx, hb, hml, hown, hts⟩ (c_allBut l D tc hS hI.2.1.1 (nI i)) (cwV 1 hts (tw_V tw_131 tw_132 tw_487 tw_1 tw_133) rfl rfl rfl (by decide +kernel) ⟨Nat.le_of_ble_eq_true rfl, Nat.le_of_ble_eq_true rfl⟩) (hv_preV (ci := 3) hK hT.1 (cs_kX hS) (by decide) rfl rfl) rfl rfl hl.1 rfl (lv_room (Nat.le_of_ble_eq_true rfl)) dX3_lead_73 ⟨by show 0 + 0 + 0 ≤ 16; omega, by show 0 + 0 + 0 ≤ 128; omega⟩) hT (fun r388 v386 H locs hp387 hT => ?_)
          obtain ⟨evhp387, qhp387⟩ := hp387
          rw [evhp387] at hT
          refine lv_iload hx hb dX3_lead_76 (lv_at hl 0 rfl) ?_
          refine lv_if_eq (tgt := 86) hx hb dX3_lead_78 (by decide) (fun c78 => ?_) (fun c78 => ?_)
          · skip
            refine lv_bipush (v := 7) hx hb dX3_lead_86 (by decide) ?_
            refine lv_aload_n hx hb dX3_lead_88 rfl (lv_at hl 1 rfl) ?_
            refine hv_geti (ci := 2) (C := RX2) (T := TX2) (N := 10) hx hb hts (tw_cs in_X2) hown hK hT (cs_ks hS hi) (by decide) rfl 7 (by decide) (hts _ (tw_c tw_87)) rfl dX3_lead_89 ?_
            refine lv_topi (fun g389 eg389 => ?_)
            refine lv_iconst (v := 0) hx hb dX3_lead_92 (by decide) ?_
            refine hv_callv (va_runV (As := [.int (nI i), .int r388, .int 7, .int g389, .int 0]) (rest := []) ⟨hx, hb, hml, hown, hts⟩ (c_send l D tc hI hi r388 7 g389 0 (cs_all qhp387 (cs_n8 hS) (cs_lt8 hS hi)) hh) (cwV 5 hts (tw_V tw_137 tw_138 tw_139 tw_2 tw_140) rfl rfl rfl (by decide +kernel) ⟨Nat.le_of_ble_eq_true rfl, Nat.le_of_ble_eq_true rfl⟩) (hv_preV (ci := 1) hK hT.1 (cs_kN hS) (by decide) rfl rfl) rfl rfl hl.1 rfl (lv_room (Nat.le_of_ble_eq_true rfl)) dX3_lead_93 ⟨by show 0 + 0 + 0 + 8 ≤ 16; omega, by show 0 + 0 + 0 + 64 ≤ 128; omega⟩) hT (fun v390 H locs hp391 hT => ?_)
            obtain ⟨_, hI⟩ := hp391
            have hS := hI.1
            refine lv_aload_n hx hb dX3_lead_96 rfl (lv_at hl 2 rfl) ?_
            refine lv_aload_n hx hb dX3_lead_97 rfl (lv_at hl 1 rfl) ?_
            refine lv_aload_n hx hb dX3_lead_98 rfl (lv_at hl 2 rfl) ?_
            refine hv_geti (ci := 3) (C := RX3) (T := TX3) (N := 12) hx hb hts (tw_cs in_X3) hown hK hT (cs_kX hS) (by decide) rfl 7 (by decide) (hts _ (tw_c tw_54)) rfl dX3_lead_99 ?_
            refine lv_topi (fun g392 eg392 => ?_)
            obtain ⟨q393, h5q393, h100q393, hq393⟩ := hI.2.1.2.2.2.1
            have eg392 : g392 = (nI q393) := by rw [eg392]; exact hq393
            subst eg392
            refine hv_callv (va_runV (As := [.ref (fa (16 + i)), .int (nI q393)]) (rest := []) ⟨hx, hb, hml, hown, hts⟩ (c_setTimer l D tc hI hi (q := q393) (by have h8 := cs_lt8 hS hi; omega)) (cwV 2 hts (tw_V tw_167 tw_168 tw_489 tw_1 tw_169) rfl rfl rfl (by decide +kernel) ⟨Nat.le_of_ble_eq_true rfl, Nat.le_of_ble_eq_true rfl⟩) (hv_preV (ci := 3) hK hT.1 (cs_kX hS) (by decide) rfl rfl) rfl rfl hl.1 rfl (lv_room (Nat.le_of_ble_eq_true rfl)) dX3_lead_102 ⟨by show 0 + 0 + 0 + 8 + 0 ≤ 16; omega, by show 0 + 0 + 0 + 64 + 0 ≤ 128; omega⟩) hT (fun v394 H locs hp395 hT => ?_)
            have hI := hp395
            have hS := hI.1
            refine lv_aload_n hx hb dX3_lead_105 rfl (lv_at hl 2 rfl) ?_
            refine lv_aload_n hx hb dX3_lead_106 rfl (lv_at hl 1 rfl) ?_
            refine hv_calli (va_runV (As := [.ref (fa (16 + i))]) (rest := []) ⟨hx, hb, hml, hown, hts⟩ (c_hasQuorum l D tc hS hI.2.1.1 hi) (cwV 1 hts (tw_V tw_177 tw_178 tw_491 tw_1 tw_179) rfl rfl rfl (by decide +kernel) ⟨Nat.le_of_ble_eq_true rfl, Nat.le_of_ble_eq_true rfl⟩) (hv_preV (ci := 3) hK hT.1 (cs_kX hS) (by decide) rfl rfl) rfl rfl hl.1 rfl (lv_room (Nat.le_of_ble_eq_true rfl)) dX3_lead_107 ⟨by show 0 + 0 + 0 + 8 + 0 + 0 ≤ 16; omega, by show 0 + 0 + 0 + 64 + 0 + 0 ≤ 128; omega⟩) hT (fun r398 v396 H locs hp397 hT => ?_)
            rw [hp397] at hT
            refine lv_if_eq (tgt := 128) hx hb dX3_lead_110 (by decide) (fun c110 => ?_) (fun c110 => ?_)
            · skip
              exact hret _ v394 _ _ _ _ _ dX3_lead_128 hT ⟨_, hI⟩ (by show 0 + 0 + 0 + 8 + 0 + 0 ≤ 16; omega) (by show 0 + 0 + 0 + 64 + 0 + 0 ≤ 128; omega)
            · skip
              refine lv_aload_n hx hb dX3_lead_113 rfl (lv_at hl 2 rfl) ?_
              refine lv_iload_n hx hb dX3_lead_114 rfl (lv_at hl 3 rfl) ?_
              refine lv_iload hx hb dX3_lead_115 (lv_at hl 0 rfl) ?_
              refine lv_if_eq (tgt := 124) hx hb dX3_lead_117 (by decide) (fun c117 => ?_) (fun c117 => ?_)
              · skip
                refine lv_iconst (v := 5) hx hb dX3_lead_124 (by decide) ?_
                refine hv_callv (va_runV (As := [.int (nI i), .int 5]) (rest := []) ⟨hx, hb, hml, hown, hts⟩ (c_decide l D tc hI hi hh 5) (cwV 2 hts (tw_V tw_180 tw_181 tw_492 tw_1 tw_182) rfl rfl rfl (by decide +kernel) ⟨Nat.le_of_ble_eq_true rfl, Nat.le_of_ble_eq_true rfl⟩) (hv_preV (ci := 3) hK hT.1 (cs_kX hS) (by decide) rfl rfl) rfl rfl hl.1 rfl (lv_room (Nat.le_of_ble_eq_true rfl)) dX3_lead_125 ⟨by show 0 + 0 + 0 + 8 + 0 + 0 + 8 ≤ 16; omega, by show 0 + 0 + 0 + 64 + 0 + 0 + 64 ≤ 128; omega⟩) hT (fun v399 H locs hp400 hT => ?_)
                obtain ⟨_, hI⟩ := hp400
                have hS := hI.1
                exact hret _ v399 _ _ _ _ _ dX3_lead_128 hT ⟨_, hI⟩ (by show 0 + 0 + 0 + 8 + 0 + 0 + 8 ≤ 16; omega) (by show 0 + 0 + 0 + 64 + 0 + 0 + 64 ≤ 128; omega)
              · skip
                refine lv_iconst (v := 4) hx hb dX3_lead_120 (by decide) ?_
                refine lv_goto (tgt := 125) hx hb dX3_lead_121 (by decide) ?_
                refine hv_callv (va_runV (As := [.int (nI i), .int 4]) (rest := []) ⟨hx, hb, hml, hown, hts⟩ (c_decide l D tc hI hi hh 4) (cwV 2 hts (tw_V tw_180 tw_181 tw_492 tw_1 tw_182) rfl rfl rfl (by decide +kernel) ⟨Nat.le_of_ble_eq_true rfl, Nat.le_of_ble_eq_true rfl⟩) (hv_preV (ci := 3) hK hT.1 (cs_kX hS) (by decide) rfl rfl) rfl rfl hl.1 rfl (lv_room (Nat.le_of_ble_eq_true rfl)) dX3_lead_125 ⟨by show 0 + 0 + 0 + 8 + 0 + 0 + 8 ≤ 16; omega, by show 0 + 0 + 0 + 64 + 0 + 0 + 64 ≤ 128; omega⟩) hT (fun v401 H locs hp402 hT => ?_)
                obtain ⟨_, hI⟩ := hp402
                have hS := hI.1
                exact hret _ v401 _ _ _ _ _ dX3_lead_128 hT ⟨_, hI⟩ (by show 0 + 0 + 0 + 8 + 0 + 0 + 8 ≤ 16; omega) (by show 0 + 0 + 0 + 64 + 0 + 0 + 64 ≤ 128; omega)
          · skip
            refine lv_bipush (v := 6) hx hb dX3_lead_81 (by decide) ?_
            refine lv_goto (tgt := 88) hx hb dX3_lead_83 (by decide) ?_
            refine lv_aload_n hx hb dX3_lead_88 rfl (lv_at hl 1 rfl) ?_
            refine hv_geti (ci := 2) (C := RX2) (T := TX2) (N := 10) hx hb hts (tw_cs in_X2) hown hK hT (cs_ks hS hi) (by decide) rfl 7 (by decide) (hts _ (tw_c tw_87)) rfl dX3_lead_89 ?_
            refine lv_topi (fun g403 eg403 => ?_)
            refine lv_iconst (v := 0) hx hb dX3_lead_92 (by decide) ?_
            refine hv_callv (va_runV (As := [.int (nI i), .int r388, .int 6, .int g403, .int 0]) (rest := []) ⟨hx, hb, hml, hown, hts⟩ (c_send l D tc hI hi r388 6 g403 0 (cs_all qhp387 (cs_n8 hS) (cs_lt8 hS hi)) hh) (cwV 5 hts (tw_V tw_137 tw_138 tw_139 tw_2 tw_140) rfl rfl rfl (by decide +kernel) ⟨Nat.le_of_ble_eq_true rfl, Nat.le_of_ble_eq_true rfl⟩) (hv_preV (ci := 1) hK hT.1 (cs_kN hS) (by decide) rfl rfl) rfl rfl hl.1 rfl (lv_room (Nat.le_of_ble_eq_true rfl)) dX3_lead_93 ⟨by show 0 + 0 + 0 + 8 ≤ 16; omega, by show 0 + 0 + 0 + 64 ≤ 128; omega⟩) hT (fun v404 H locs hp405 hT => ?_)
            obtain ⟨_, hI⟩ := hp405
            have hS := hI.1
            refine lv_aload_n hx hb dX3_lead_96 rfl (lv_at hl 2 rfl) ?_
            refine lv_aload_n hx hb dX3_lead_97 rfl (lv_at hl 1 rfl) ?_
            refine lv_aload_n hx hb dX3_lead_98 rfl (lv_at hl 2 rfl) ?_
            refine hv_geti (ci := 3) (C := RX3) (T := TX3) (N := 12) hx hb hts (tw_cs in_X3) hown hK hT (cs_kX hS) (by decide) rfl 7 (by decide) (hts _ (tw_c tw_54)) rfl dX3_lead_99 ?_
            refine lv_topi (fun g406 eg406 => ?_)
            obtain ⟨q407, h5q407, h100q407, hq407⟩ := hI.2.1.2.2.2.1
            have eg406 : g406 = (nI q407) := by rw [eg406]; exact hq407
            subst eg406
            refine hv_callv (va_runV (As := [.ref (fa (16 + i)), .int (nI q407)]) (rest := []) ⟨hx, hb, hml, hown, hts⟩ (c_setTimer l D tc hI hi (q := q407) (by have h8 := cs_lt8 hS hi; omega)) (cwV 2 hts (tw_V tw_167 tw_168 tw_489 tw_1 tw_169) rfl rfl rfl (by decide +kernel) ⟨Nat.le_of_ble_eq_true rfl, Nat.le_of_ble_eq_true rfl⟩) (hv_preV (ci := 3) hK hT.1 (cs_kX hS) (by decide) rfl rfl) rfl rfl hl.1 rfl (lv_room (Nat.le_of_ble_eq_true rfl)) dX3_lead_102 ⟨by show 0 + 0 + 0 + 8 + 0 ≤ 16; omega, by show 0 + 0 + 0 + 64 + 0 ≤ 128; omega⟩) hT (fun v408 H locs hp409 hT => ?_)
            have hI := hp409
            have hS := hI.1
            refine lv_aload_n hx hb dX3_lead_105 rfl (lv_at hl 2 rfl) ?_
            refine lv_aload_n hx hb dX3_lead_106 rfl (lv_at hl 1 rfl) ?_
            refine hv_calli (va_runV (As := [.ref (fa (16 + i))]) (rest := []) ⟨hx, hb, hml, hown, hts⟩ (c_hasQuorum l D tc hS hI.2.1.1 hi) (cwV 1 hts (tw_V tw_177 tw_178 tw_491 tw_1 tw_179) rfl rfl rfl (by decide +kernel) ⟨Nat.le_of_ble_eq_true rfl, Nat.le_of_ble_eq_true rfl⟩) (hv_preV (ci := 3) hK hT.1 (cs_kX hS) (by decide) rfl rfl) rfl rfl hl.1 rfl (lv_room (Nat.le_of_ble_eq_true rfl)) dX3_lead_107 ⟨by show 0 + 0 + 0 + 8 + 0 + 0 ≤ 16; omega, by show 0 + 0 + 0 + 64 + 0 + 0 ≤ 128; omega⟩) hT (fun r412 v410 H locs hp411 hT => ?_)
            rw [hp411] at hT
            refine lv_if_eq (tgt := 128) hx hb dX3_lead_110 (by decide) (fun c110 => ?_) (fun c110 => ?_)
            · skip
              exact hret _ v408 _ _ _ _ _ dX3_lead_128 hT ⟨_, hI⟩ (by show 0 + 0 + 0 + 8 + 0 + 0 ≤ 16; omega) (by show 0 + 0 + 0 + 64 + 0 + 0 ≤ 128; omega)
            · skip
              refine lv_aload_n hx hb dX3_lead_113 rfl (lv_at hl 2 rfl) ?_
              refine lv_iload_n hx hb dX3_lead_114 rfl (lv_at hl 3 rfl) ?_
              refine lv_iload hx hb dX3_lead_115 (lv_at hl 0 rfl) ?_
              refine lv_if_eq (tgt := 124) hx hb dX3_lead_117 (by decide) (fun c117 => ?_) (fun c117 => ?_)
              · skip
                refine lv_iconst (v := 5) hx hb dX3_lead_124 (by decide) ?_
                refine hv_callv (va_runV (As := [.int (nI i), .int 5]) (rest := []) ⟨hx, hb, hml, hown, hts⟩ (c_decide l D tc hI hi hh 5) (cwV 2 hts (tw_V tw_180 tw_181 tw_492 tw_1 tw_182) rfl rfl rfl (by decide +kernel) ⟨Nat.le_of_ble_eq_true rfl, Nat.le_of_ble_eq_true rfl⟩) (hv_preV (ci := 3) hK hT.1 (cs_kX hS) (by decide) rfl rfl) rfl rfl hl.1 rfl (lv_room (Nat.le_of_ble_eq_true rfl)) dX3_lead_125 ⟨by show 0 + 0 + 0 + 8 + 0 + 0 + 8 ≤ 16; omega, by show 0 + 0 + 0 + 64 + 0 + 0 + 64 ≤ 128; omega⟩) hT (fun v413 H locs hp414 hT => ?_)
                obtain ⟨_, hI⟩ := hp414
                have hS := hI.1
                exact hret _ v413 _ _ _ _ _ dX3_lead_128 hT ⟨_, hI⟩ (by show 0 + 0 + 0 + 8 + 0 + 0 + 8 ≤ 16; omega) (by show 0 + 0 + 0 + 64 + 0 + 0 + 64 ≤ 128; omega)
              · skip
                refine lv_iconst (v := 4) hx hb dX3_lead_120 (by decide) ?_
                refine lv_goto (tgt := 125) hx hb dX3_lead_121 (by decide) ?_
                refine hv_callv (va_runV (As := [.int (nI i), .int 4]) (rest := []) ⟨hx, hb, hml, hown, hts⟩ (c_decide l D tc hI hi hh 4) (cwV 2 hts (tw_V tw_180 tw_181 tw_492 tw_1 tw_182) rfl rfl rfl (by decide +kernel) ⟨Nat.le_of_ble_eq_true rfl, Nat.le_of_ble_eq_true rfl⟩) (hv_preV (ci := 3) hK hT.1 (cs_kX hS) (by decide) rfl rfl) rfl rfl hl.1 rfl (lv_room (Nat.le_of_ble_eq_true rfl)) dX3_lead_125 ⟨by show 0 + 0 + 0 + 8 + 0 + 0 + 8 ≤ 16; omega, by show 0 + 0 + 0 + 64 + 0 + 0 + 64 ≤ 128; omega⟩) hT (fun v415 H locs hp416 hT => ?_)
                obtain ⟨_, hI⟩ := hp416
                have hS := hI.1
                exact hret _ v415 _ _ _ _ _ dX3_lead_128 hT ⟨_, hI⟩ (by show 0 + 0 + 0 + 8 + 0 + 0 + 8 ≤ 16; omega) (by show 0 + 0 + 0 + 64 + 0 + 0 + 64 ≤ 128; omega)
        · skip
          refine lv_iconst (v := 1) hx hb dX3_lead_56 (by decide) ?_
          refine lv_iload_n hx hb dX3_lead_57 rfl (lv_at hl 3 rfl) ?_
          refine lv_ishl hx hb dX3_lead_58 ?_
          refine lv_goto (tgt := 63) hx hb dX3_lead_59 (by decide) ?_
          refine hv_puti (ci := 2) (C := RX2) (T := TX2) (N := 10) hx hb hts (tw_cs in_X2) tyX2 tyX2_ok nmX2 hown hK hT (cs_ks hS hi) (by decide) rfl 2 (by decide) (hts _ (tw_c tw_77)) rfl rfl (x := (1 <<< ((nI i) &&& 31))) rfl rfl dX3_lead_63 (fun H locs hT => ?_)
          have hI := ci_put (f := 202) (a := (fa (16 + i))) (x := (1 <<< ((nI i) &&& 31))) rfl hI
          have hS := hI.1
          refine lv_aload_n hx hb dX3_lead_66 rfl (lv_at hl 2 rfl) ?_
          refine hv_gets (ci := 3) (C := RX3) (T := TX3) (N := 12) hx hb hts (tw_cs in_X3) hown hK hT (cs_kX hS) (by decide) rfl 1 (by decide) (hts _ (tw_c tw_48)) rfl (x := (fa 2)) (cs_pN hS) dX3_lead_67 ?_
          refine lv_iload_n hx hb dX3_lead_70 rfl (lv_at hl 3 rfl) ?_
          refine lv_aload_n hx hb dX3_lead_71 rfl (lv_at hl 2 rfl) ?_
          refine lv_iload_n hx hb dX3_lead_72 rfl (lv_at hl 3 rfl) ?_
          refine hv_calli (va_runV (As := [.int (nI i)]) (rest := [.int (nI i), .ref (fa 2)]) ⟨hx, hb, hml, hown, hts⟩ (c_allBut l D tc hS hI.2.1.1 (nI i)) (cwV 1 hts (tw_V tw_131 tw_132 tw_487 tw_1 tw_133) rfl rfl rfl (by decide +kernel) ⟨Nat.le_of_ble_eq_true rfl, Nat.le_of_ble_eq_true rfl⟩) (hv_preV (ci := 3) hK hT.1 (cs_kX hS) (by decide) rfl rfl) rfl rfl hl.1 rfl (lv_room (Nat.le_of_ble_eq_true rfl)) dX3_lead_73 ⟨by show 0 + 0 + 0 ≤ 16; omega, by show 0 + 0 + 0 ≤ 128; omega⟩) hT (fun r419 v417 H locs hp418 hT => ?_)
          obtain ⟨evhp418, qhp418⟩ := hp418
          rw [evhp418] at hT
          refine lv_iload hx hb dX3_lead_76 (lv_at hl 0 rfl) ?_
          refine lv_if_eq (tgt := 86) hx hb dX3_lead_78 (by decide) (fun c78 => ?_) (fun c78 => ?_)
          · skip
            refine lv_bipush (v := 7) hx hb dX3_lead_86 (by decide) ?_
            refine lv_aload_n hx hb dX3_lead_88 rfl (lv_at hl 1 rfl) ?_
            refine hv_geti (ci := 2) (C := RX2) (T := TX2) (N := 10) hx hb hts (tw_cs in_X2) hown hK hT (cs_ks hS hi) (by decide) rfl 7 (by decide) (hts _ (tw_c tw_87)) rfl dX3_lead_89 ?_
            refine lv_topi (fun g420 eg420 => ?_)
            refine lv_iconst (v := 0) hx hb dX3_lead_92 (by decide) ?_
            refine hv_callv (va_runV (As := [.int (nI i), .int r419, .int 7, .int g420, .int 0]) (rest := []) ⟨hx, hb, hml, hown, hts⟩ (c_send l D tc hI hi r419 7 g420 0 (cs_all qhp418 (cs_n8 hS) (cs_lt8 hS hi)) hh) (cwV 5 hts (tw_V tw_137 tw_138 tw_139 tw_2 tw_140) rfl rfl rfl (by decide +kernel) ⟨Nat.le_of_ble_eq_true rfl, Nat.le_of_ble_eq_true rfl⟩) (hv_preV (ci := 1) hK hT.1 (cs_kN hS) (by decide) rfl rfl) rfl rfl hl.1 rfl (lv_room (Nat.le_of_ble_eq_true rfl)) dX3_lead_93 ⟨by show 0 + 0 + 0 + 8 ≤ 16; omega, by show 0 + 0 + 0 + 64 ≤ 128; omega⟩) hT (fun v421 H locs hp422 hT => ?_)
            obtain ⟨_, hI⟩ := hp422
            have hS := hI.1
            refine lv_aload_n hx hb dX3_lead_96 rfl (lv_at hl 2 rfl) ?_
            refine lv_aload_n hx hb dX3_lead_97 rfl (lv_at hl 1 rfl) ?_
            refine lv_aload_n hx hb dX3_lead_98 rfl (lv_at hl 2 rfl) ?_
            refine hv_geti (ci := 3) (C := RX3) (T := TX3) (N := 12) hx hb hts (tw_cs in_X3) hown hK hT (cs_kX hS) (by decide) rfl 7 (by decide) (hts _ (tw_c tw_54)) rfl dX3_lead_99 ?_
            refine lv_topi (fun g423 eg423 => ?_)
            obtain ⟨q424, h5q424, h100q424, hq424⟩ := hI.2.1.2.2.2.1
            have eg423 : g423 = (nI q424) := by rw [eg423]; exact hq424
            subst eg423
            refine hv_callv (va_runV (As := [.ref (fa (16 + i)), .int (nI q424)]) (rest := []) ⟨hx, hb, hml, hown, hts⟩ (c_setTimer l D tc hI hi (q := q424) (by have h8 := cs_lt8 hS hi; omega)) (cwV 2 hts (tw_V tw_167 tw_168 tw_489 tw_1 tw_169) rfl rfl rfl (by decide +kernel) ⟨Nat.le_of_ble_eq_true rfl, Nat.le_of_ble_eq_true rfl⟩) (hv_preV (ci := 3) hK hT.1 (cs_kX hS) (by decide) rfl rfl) rfl rfl hl.1 rfl (lv_room (Nat.le_of_ble_eq_true rfl)) dX3_lead_102 ⟨by show 0 + 0 + 0 + 8 + 0 ≤ 16; omega, by show 0 + 0 + 0 + 64 + 0 ≤ 128; omega⟩) hT (fun v425 H locs hp426 hT => ?_)
            have hI := hp426
            have hS := hI.1
            refine lv_aload_n hx hb dX3_lead_105 rfl (lv_at hl 2 rfl) ?_
            refine lv_aload_n hx hb dX3_lead_106 rfl (lv_at hl 1 rfl) ?_
            refine hv_calli (va_runV (As := [.ref (fa (16 + i))]) (rest := []) ⟨hx, hb, hml, hown, hts⟩ (c_hasQuorum l D tc hS hI.2.1.1 hi) (cwV 1 hts (tw_V tw_177 tw_178 tw_491 tw_1 tw_179) rfl rfl rfl (by decide +kernel) ⟨Nat.le_of_ble_eq_true rfl, Nat.le_of_ble_eq_true rfl⟩) (hv_preV (ci := 3) hK hT.1 (cs_kX hS) (by decide) rfl rfl) rfl rfl hl.1 rfl (lv_room (Nat.le_of_ble_eq_true rfl)) dX3_lead_107 ⟨by show 0 + 0 + 0 + 8 + 0 + 0 ≤ 16; omega, by show 0 + 0 + 0 + 64 + 0 + 0 ≤ 128; omega⟩) hT (fun r429 v427 H locs hp428 hT => ?_)
            rw [hp428] at hT
            refine lv_if_eq (tgt := 128) hx hb dX3_lead_110 (by decide) (fun c110 => ?_) (fun c110 => ?_)
            · skip
              exact hret _ v425 _ _ _ _ _ dX3_lead_128 hT ⟨_, hI⟩ (by show 0 + 0 + 0 + 8 + 0 + 0 ≤ 16; omega) (by show 0 + 0 + 0 + 64 + 0 + 0 ≤ 128; omega)
            · skip
              refine lv_aload_n hx hb dX3_lead_113 rfl (lv_at hl 2 rfl) ?_
              refine lv_iload_n hx hb dX3_lead_114 rfl (lv_at hl 3 rfl) ?_
              refine lv_iload hx hb dX3_lead_115 (lv_at hl 0 rfl) ?_
              refine lv_if_eq (tgt := 124) hx hb dX3_lead_117 (by decide) (fun c117 => ?_) (fun c117 => ?_)
              · skip
                refine lv_iconst (v := 5) hx hb dX3_lead_124 (by decide) ?_
                refine hv_callv (va_runV (As := [.int (nI i), .int 5]) (rest := []) ⟨hx, hb, hml, hown, hts⟩ (c_decide l D tc hI hi hh 5) (cwV 2 hts (tw_V tw_180 tw_181 tw_492 tw_1 tw_182) rfl rfl rfl (by decide +kernel) ⟨Nat.le_of_ble_eq_true rfl, Nat.le_of_ble_eq_true rfl⟩) (hv_preV (ci := 3) hK hT.1 (cs_kX hS) (by decide) rfl rfl) rfl rfl hl.1 rfl (lv_room (Nat.le_of_ble_eq_true rfl)) dX3_lead_125 ⟨by show 0 + 0 + 0 + 8 + 0 + 0 + 8 ≤ 16; omega, by show 0 + 0 + 0 + 64 + 0 + 0 + 64 ≤ 128; omega⟩) hT (fun v430 H locs hp431 hT => ?_)
                obtain ⟨_, hI⟩ := hp431
                have hS := hI.1
                exact hret _ v430 _ _ _ _ _ dX3_lead_128 hT ⟨_, hI⟩ (by show 0 + 0 + 0 + 8 + 0 + 0 + 8 ≤ 16; omega) (by show 0 + 0 + 0 + 64 + 0 + 0 + 64 ≤ 128; omega)
              · skip
                refine lv_iconst (v := 4) hx hb dX3_lead_120 (by decide) ?_
                refine lv_goto (tgt := 125) hx hb dX3_lead_121 (by decide) ?_
                refine hv_callv (va_runV (As := [.int (nI i), .int 4]) (rest := []) ⟨hx, hb, hml, hown, hts⟩ (c_decide l D tc hI hi hh 4) (cwV 2 hts (tw_V tw_180 tw_181 tw_492 tw_1 tw_182) rfl rfl rfl (by decide +kernel) ⟨Nat.le_of_ble_eq_true rfl, Nat.le_of_ble_eq_true rfl⟩) (hv_preV (ci := 3) hK hT.1 (cs_kX hS) (by decide) rfl rfl) rfl rfl hl.1 rfl (lv_room (Nat.le_of_ble_eq_true rfl)) dX3_lead_125 ⟨by show 0 + 0 + 0 + 8 + 0 + 0 + 8 ≤ 16; omega, by show 0 + 0 + 0 + 64 + 0 + 0 + 64 ≤ 128; omega⟩) hT (fun v432 H locs hp433 hT => ?_)
                obtain ⟨_, hI⟩ := hp433
                have hS := hI.1
                exact hret _ v432 _ _ _ _ _ dX3_lead_128 hT ⟨_, hI⟩ (by show 0 + 0 + 0 + 8 + 0 + 0 + 8 ≤ 16; omega) (by show 0 + 0 + 0 + 64 + 0 + 0 + 64 ≤ 128; omega)
          · skip
            refine lv_bipush (v := 6) hx hb dX3_lead_81 (by decide) ?_
            refine lv_goto (tgt := 88) hx hb dX3_lead_83 (by decide) ?_
            refine lv_aload_n hx hb dX3_lead_88 rfl (lv_at hl 1 rfl) ?_
            refine hv_geti (ci := 2) (C := RX2) (T := TX2) (N := 10) hx hb hts (tw_cs in_X2) hown hK hT (cs_ks hS hi) (by decide) rfl 7 (by decide) (hts _ (tw_c tw_87)) rfl dX3_lead_89 ?_
            refine lv_topi (fun g434 eg434 => ?_)
            refine lv_iconst (v := 0) hx hb dX3_lead_92 (by decide) ?_
            refine hv_callv (va_runV (As := [.int (nI i), .int r419, .int 6, .int g434, .int 0]) (rest := []) ⟨hx, hb, hml, hown, hts⟩ (c_send l D tc hI hi r419 6 g434 0 (cs_all qhp418 (cs_n8 hS) (cs_lt8 hS hi)) hh) (cwV 5 hts (tw_V tw_137 tw_138 tw_139 tw_2 tw_140) rfl rfl rfl (by decide +kernel) ⟨Nat.le_of_ble_eq_true rfl, Nat.le_of_ble_eq_true rfl⟩) (hv_preV (ci := 1) hK hT.1 (cs_kN hS) (by decide) rfl rfl) rfl rfl hl.1 rfl (lv_room (Nat.le_of_ble_eq_true rfl)) dX3_lead_93 ⟨by show 0 + 0 + 0 + 8 ≤ 16; omega, by show 0 + 0 + 0 + 64 ≤ 128; omega⟩) hT (fun v435 H locs hp436 hT => ?_)
            obtain ⟨_, hI⟩ := hp436
            have hS := hI.1
            refine lv_aload_n hx hb dX3_lead_96 rfl (lv_at hl 2 rfl) ?_
            refine lv_aload_n hx hb dX3_lead_97 rfl (lv_at hl 1 rfl) ?_
            refine lv_aload_n hx hb dX3_lead_98 rfl (lv_at hl 2 rfl) ?_
            refine hv_geti (ci := 3) (C := RX3) (T := TX3) (N := 12) hx hb hts (tw_cs in_X3) hown hK hT (cs_kX hS) (by decide) rfl 7 (by decide) (hts _ (tw_c tw_54)) rfl dX3_lead_99 ?_
            refine lv_topi (fun g437 eg437 => ?_)
            obtain ⟨q438, h5q438, h100q438, hq438⟩ := hI.2.1.2.2.2.1
            have eg437 : g437 = (nI q438) := by rw [eg437]; exact hq438
            subst eg437
            refine hv_callv (va_runV (As := [.ref (fa (16 + i)), .int (nI q438)]) (rest := []) ⟨hx, hb, hml, hown, hts⟩ (c_setTimer l D tc hI hi (q := q438) (by have h8 := cs_lt8 hS hi; omega)) (cwV 2 hts (tw_V tw_167 tw_168 tw_489 tw_1 tw_169) rfl rfl rfl (by decide +kernel) ⟨Nat.le_of_ble_eq_true rfl, Nat.le_of_ble_eq_true rfl⟩) (hv_preV (ci := 3) hK hT.1 (cs_kX hS) (by decide) rfl rfl) rfl rfl hl.1 rfl (lv_room (Nat.le_of_ble_eq_true rfl)) dX3_lead_102 ⟨by show 0 + 0 + 0 + 8 + 0 ≤ 16; omega, by show 0 + 0 + 0 + 64 + 0 ≤ 128; omega⟩) hT (fun v439 H locs hp440 hT => ?_)
            have hI := hp440
            have hS := hI.1
            refine lv_aload_n hx hb dX3_lead_105 rfl (lv_at hl 2 rfl) ?_
            refine lv_aload_n hx hb dX3_lead_106 rfl (lv_at hl 1 rfl) ?_
            refine hv_calli (va_runV (As := [.ref (fa (16 + i))]) (rest := []) ⟨hx, hb, hml, hown, hts⟩ (c_hasQuorum l D tc hS hI.2.1.1 hi) (cwV 1 hts (tw_V tw_177 tw_178 tw_491 tw_1 tw_179) rfl rfl rfl (by decide +kernel) ⟨Nat.le_of_ble_eq_true rfl, Nat.le_of_ble_eq_true rfl⟩) (hv_preV (ci := 3) hK hT.1 (cs_kX hS) (by decide) rfl rfl) rfl rfl hl.1 rfl (lv_room (Nat.le_of_ble_eq_true rfl)) dX3_lead_107 ⟨by show 0 + 0 + 0 + 8 + 0 + 0 ≤ 16; omega, by show 0 + 0 + 0 + 64 + 0 + 0 ≤ 128; omega⟩) hT (fun r443 v441 H locs hp442 hT => ?_)
            rw [hp442] at hT
            refine lv_if_eq (tgt := 128) hx hb dX3_lead_110 (by decide) (fun c110 => ?_) (fun c110 => ?_)
            · skip
              exact hret _ v439 _ _ _ _ _ dX3_lead_128 hT ⟨_, hI⟩ (by show 0 + 0 + 0 + 8 + 0 + 0 ≤ 16; omega) (by show 0 + 0 + 0 + 64 + 0 + 0 ≤ 128; omega)
            · skip
              refine lv_aload_n hx hb dX3_lead_113 rfl (lv_at hl 2 rfl) ?_
              refine lv_iload_n hx hb dX3_lead_114 rfl (lv_at hl 3 rfl) ?_
              refine lv_iload hx hb dX3_lead_115 (lv_at hl 0 rfl) ?_
              refine lv_if_eq (tgt := 124) hx hb dX3_lead_117 (by decide) (fun c117 => ?_) (fun c117 => ?_)
              · skip
                refine lv_iconst (v := 5) hx hb dX3_lead_124 (by decide) ?_
                refine hv_callv (va_runV (As := [.int (nI i), .int 5]) (rest := []) ⟨hx, hb, hml, hown, hts⟩ (c_decide l D tc hI hi hh 5) (cwV 2 hts (tw_V tw_180 tw_181 tw_492 tw_1 tw_182) rfl rfl rfl (by decide +kernel) ⟨Nat.le_of_ble_eq_true rfl, Nat.le_of_ble_eq_true rfl⟩) (hv_preV (ci := 3) hK hT.1 (cs_kX hS) (by decide) rfl rfl) rfl rfl hl.1 rfl (lv_room (Nat.le_of_ble_eq_true rfl)) dX3_lead_125 ⟨by show 0 + 0 + 0 + 8 + 0 + 0 + 8 ≤ 16; omega, by show 0 + 0 + 0 + 64 + 0 + 0 + 64 ≤ 128; omega⟩) hT (fun v444 H locs hp445 hT => ?_)
                obtain ⟨_, hI⟩ := hp445
                have hS := hI.1
                exact hret _ v444 _ _ _ _ _ dX3_lead_128 hT ⟨_, hI⟩ (by show 0 + 0 + 0 + 8 + 0 + 0 + 8 ≤ 16; omega) (by show 0 + 0 + 0 + 64 + 0 + 0 + 64 ≤ 128; omega)
              · skip
                refine lv_iconst (v := 4) hx hb dX3_lead_120 (by decide) ?_
                refine lv_goto (tgt := 125) hx hb dX3_lead_121 (by decide) ?_
                refine hv_callv (va_runV (As := [.int (nI i), .int 4]) (rest := []) ⟨hx, hb, hml, hown, hts⟩ (c_decide l D tc hI hi hh 4) (cwV 2 hts (tw_V tw_180 tw_181 tw_492 tw_1 tw_182) rfl rfl rfl (by decide +kernel) ⟨Nat.le_of_ble_eq_true rfl, Nat.le_of_ble_eq_true rfl⟩) (hv_preV (ci := 3) hK hT.1 (cs_kX hS) (by decide) rfl rfl) rfl rfl hl.1 rfl (lv_room (Nat.le_of_ble_eq_true rfl)) dX3_lead_125 ⟨by show 0 + 0 + 0 + 8 + 0 + 0 + 8 ≤ 16; omega, by show 0 + 0 + 0 + 64 + 0 + 0 + 64 ≤ 128; omega⟩) hT (fun v446 H locs hp447 hT => ?_)
                obtain ⟨_, hI⟩ := hp447
                have hS := hI.1
                exact hret _ v446 _ _ _ _ _ dX3_lead_128 hT ⟨_, hI⟩ (by show 0 + 0 + 0 + 8 + 0 + 0 + 8 ≤ 16; omega) (by show 0 + 0 + 0 + 64 + 0 + 0 + 64 ≤ 128; omega)
      · skip
        refine lv_iconst (v := 2) hx hb dX3_lead_39 (by decide) ?_
        refine lv_goto (tgt := 44) hx hb dX3_lead_40 (by decide) ?_
        refine hv_puti (ci := 2) (C := RX2) (T := TX2) (N := 10) hx hb hts (tw_cs in_X2) tyX2 tyX2_ok nmX2 hown hK hT (cs_ks hS hi) (by decide) rfl 6 (by decide) (hts _ (tw_c tw_85)) rfl rfl (x := 2) rfl rfl dX3_lead_44 (fun H locs hT => ?_)
        have hI := ci_put (f := 206) (a := (fa (16 + i))) (x := 2) rfl hI
        have hS := hI.1
        refine lv_aload_n hx hb dX3_lead_47 rfl (lv_at hl 1 rfl) ?_
        refine lv_aload_n hx hb dX3_lead_48 rfl (lv_at hl 1 rfl) ?_
        refine hv_geti (ci := 2) (C := RX2) (T := TX2) (N := 10) hx hb hts (tw_cs in_X2) hown hK hT (cs_ks hS hi) (by decide) rfl 4 (by decide) (hts _ (tw_c tw_81)) rfl dX3_lead_49 ?_
        refine lv_topi (fun g448 eg448 => ?_)
        refine lv_iload_n hx hb dX3_lead_52 rfl (lv_at hl 4 rfl) ?_
        refine lv_icmp_ne (tgt := 62) hx hb dX3_lead_53 (by decide) (fun c53 => ?_) (fun c53 => ?_)
        · skip
          refine lv_iconst (v := 0) hx hb dX3_lead_62 (by decide) ?_
          refine hv_puti (ci := 2) (C := RX2) (T := TX2) (N := 10) hx hb hts (tw_cs in_X2) tyX2 tyX2_ok nmX2 hown hK hT (cs_ks hS hi) (by decide) rfl 2 (by decide) (hts _ (tw_c tw_77)) rfl rfl (x := 0) rfl rfl dX3_lead_63 (fun H locs hT => ?_)
          have hI := ci_put (f := 202) (a := (fa (16 + i))) (x := 0) rfl hI
          have hS := hI.1
          refine lv_aload_n hx hb dX3_lead_66 rfl (lv_at hl 2 rfl) ?_
          refine hv_gets (ci := 3) (C := RX3) (T := TX3) (N := 12) hx hb hts (tw_cs in_X3) hown hK hT (cs_kX hS) (by decide) rfl 1 (by decide) (hts _ (tw_c tw_48)) rfl (x := (fa 2)) (cs_pN hS) dX3_lead_67 ?_
          refine lv_iload_n hx hb dX3_lead_70 rfl (lv_at hl 3 rfl) ?_
          refine lv_aload_n hx hb dX3_lead_71 rfl (lv_at hl 2 rfl) ?_
          refine lv_iload_n hx hb dX3_lead_72 rfl (lv_at hl 3 rfl) ?_
          refine hv_calli (va_runV (As := [.int (nI i)]) (rest := [.int (nI i), .ref (fa 2)]) ⟨hx, hb, hml, hown, hts⟩ (c_allBut l D tc hS hI.2.1.1 (nI i)) (cwV 1 hts (tw_V tw_131 tw_132 tw_487 tw_1 tw_133) rfl rfl rfl (by decide +kernel) ⟨Nat.le_of_ble_eq_true rfl, Nat.le_of_ble_eq_true rfl⟩) (hv_preV (ci := 3) hK hT.1 (cs_kX hS) (by decide) rfl rfl) rfl rfl hl.1 rfl (lv_room (Nat.le_of_ble_eq_true rfl)) dX3_lead_73 ⟨by show 0 + 0 + 0 ≤ 16; omega, by show 0 + 0 + 0 ≤ 128; omega⟩) hT (fun r451 v449 H locs hp450 hT => ?_)
          obtain ⟨evhp450, qhp450⟩ := hp450
          rw [evhp450] at hT
          refine lv_iload hx hb dX3_lead_76 (lv_at hl 0 rfl) ?_
          refine lv_if_eq (tgt := 86) hx hb dX3_lead_78 (by decide) (fun c78 => ?_) (fun c78 => ?_)
          · skip
            refine lv_bipush (v := 7) hx hb dX3_lead_86 (by decide) ?_
            refine lv_aload_n hx hb dX3_lead_88 rfl (lv_at hl 1 rfl) ?_
            refine hv_geti (ci := 2) (C := RX2) (T := TX2) (N := 10) hx hb hts (tw_cs in_X2) hown hK hT (cs_ks hS hi) (by decide) rfl 7 (by decide) (hts _ (tw_c tw_87)) rfl dX3_lead_89 ?_
            refine lv_topi (fun g452 eg452 => ?_)
            refine lv_iconst (v := 0) hx hb dX3_lead_92 (by decide) ?_
            refine hv_callv (va_runV (As := [.int (nI i), .int r451, .int 7, .int g452, .int 0]) (rest := []) ⟨hx, hb, hml, hown, hts⟩ (c_send l D tc hI hi r451 7 g452 0 (cs_all qhp450 (cs_n8 hS) (cs_lt8 hS hi)) hh) (cwV 5 hts (tw_V tw_137 tw_138 tw_139 tw_2 tw_140) rfl rfl rfl (by decide +kernel) ⟨Nat.le_of_ble_eq_true rfl, Nat.le_of_ble_eq_true rfl⟩) (hv_preV (ci := 1) hK hT.1 (cs_kN hS) (by decide) rfl rfl) rfl rfl hl.1 rfl (lv_room (Nat.le_of_ble_eq_true rfl)) dX3_lead_93 ⟨by show 0 + 0 + 0 + 8 ≤ 16; omega, by show 0 + 0 + 0 + 64 ≤ 128; omega⟩) hT (fun v453 H locs hp454 hT => ?_)
            obtain ⟨_, hI⟩ := hp454
            have hS := hI.1
            refine lv_aload_n hx hb dX3_lead_96 rfl (lv_at hl 2 rfl) ?_
            refine lv_aload_n hx hb dX3_lead_97 rfl (lv_at hl 1 rfl) ?_
            refine lv_aload_n hx hb dX3_lead_98 rfl (lv_at hl 2 rfl) ?_
            refine hv_geti (ci := 3) (C := RX3) (T := TX3) (N := 12) hx hb hts (tw_cs in_X3) hown hK hT (cs_kX hS) (by decide) rfl 7 (by decide) (hts _ (tw_c tw_54)) rfl dX3_lead_99 ?_
            refine lv_topi (fun g455 eg455 => ?_)
            obtain ⟨q456, h5q456, h100q456, hq456⟩ := hI.2.1.2.2.2.1
            have eg455 : g455 = (nI q456) := by rw [eg455]; exact hq456
            subst eg455
            refine hv_callv (va_runV (As := [.ref (fa (16 + i)), .int (nI q456)]) (rest := []) ⟨hx, hb, hml, hown, hts⟩ (c_setTimer l D tc hI hi (q := q456) (by have h8 := cs_lt8 hS hi; omega)) (cwV 2 hts (tw_V tw_167 tw_168 tw_489 tw_1 tw_169) rfl rfl rfl (by decide +kernel) ⟨Nat.le_of_ble_eq_true rfl, Nat.le_of_ble_eq_true rfl⟩) (hv_preV (ci := 3) hK hT.1 (cs_kX hS) (by decide) rfl rfl) rfl rfl hl.1 rfl (lv_room (Nat.le_of_ble_eq_true rfl)) dX3_lead_102 ⟨by show 0 + 0 + 0 + 8 + 0 ≤ 16; omega, by show 0 + 0 + 0 + 64 + 0 ≤ 128; omega⟩) hT (fun v457 H locs hp458 hT => ?_)
            have hI := hp458
            have hS := hI.1
            refine lv_aload_n hx hb dX3_lead_105 rfl (lv_at hl 2 rfl) ?_
            refine lv_aload_n hx hb dX3_lead_106 rfl (lv_at hl 1 rfl) ?_
            refine hv_calli (va_runV (As := [.ref (fa (16 + i))]) (rest := []) ⟨hx, hb, hml, hown, hts⟩ (c_hasQuorum l D tc hS hI.2.1.1 hi) (cwV 1 hts (tw_V tw_177 tw_178 tw_491 tw_1 tw_179) rfl rfl rfl (by decide +kernel) ⟨Nat.le_of_ble_eq_true rfl, Nat.le_of_ble_eq_true rfl⟩) (hv_preV (ci := 3) hK hT.1 (cs_kX hS) (by decide) rfl rfl) rfl rfl hl.1 rfl (lv_room (Nat.le_of_ble_eq_true rfl)) dX3_lead_107 ⟨by show 0 + 0 + 0 + 8 + 0 + 0 ≤ 16; omega, by show 0 + 0 + 0 + 64 + 0 + 0 ≤ 128; omega⟩) hT (fun r461 v459 H locs hp460 hT => ?_)
            rw [hp460] at hT
            refine lv_if_eq (tgt := 128) hx hb dX3_lead_110 (by decide) (fun c110 => ?_) (fun c110 => ?_)
            · skip
              exact hret _ v457 _ _ _ _ _ dX3_lead_128 hT ⟨_, hI⟩ (by show 0 + 0 + 0 + 8 + 0 + 0 ≤ 16; omega) (by show 0 + 0 + 0 + 64 + 0 + 0 ≤ 128; omega)
            · skip
              refine lv_aload_n hx hb dX3_lead_113 rfl (lv_at hl 2 rfl) ?_
              refine lv_iload_n hx hb dX3_lead_114 rfl (lv_at hl 3 rfl) ?_
              refine lv_iload hx hb dX3_lead_115 (lv_at hl 0 rfl) ?_
              refine lv_if_eq (tgt := 124) hx hb dX3_lead_117 (by decide) (fun c117 => ?_) (fun c117 => ?_)
              · skip
                refine lv_iconst (v := 5) hx hb dX3_lead_124 (by decide) ?_
                refine hv_callv (va_runV (As := [.int (nI i), .int 5]) (rest := []) ⟨hx, hb, hml, hown, hts⟩ (c_decide l D tc hI hi hh 5) (cwV 2 hts (tw_V tw_180 tw_181 tw_492 tw_1 tw_182) rfl rfl rfl (by decide +kernel) ⟨Nat.le_of_ble_eq_true rfl, Nat.le_of_ble_eq_true rfl⟩) (hv_preV (ci := 3) hK hT.1 (cs_kX hS) (by decide) rfl rfl) rfl rfl hl.1 rfl (lv_room (Nat.le_of_ble_eq_true rfl)) dX3_lead_125 ⟨by show 0 + 0 + 0 + 8 + 0 + 0 + 8 ≤ 16; omega, by show 0 + 0 + 0 + 64 + 0 + 0 + 64 ≤ 128; omega⟩) hT (fun v462 H locs hp463 hT => ?_)
                obtain ⟨_, hI⟩ := hp463
                have hS := hI.1
                exact hret _ v462 _ _ _ _ _ dX3_lead_128 hT ⟨_, hI⟩ (by show 0 + 0 + 0 + 8 + 0 + 0 + 8 ≤ 16; omega) (by show 0 + 0 + 0 + 64 + 0 + 0 + 64 ≤ 128; omega)
              · skip
                refine lv_iconst (v := 4) hx hb dX3_lead_120 (by decide) ?_
                refine lv_goto (tgt := 125) hx hb dX3_lead_121 (by decide) ?_
                refine hv_callv (va_runV (As := [.int (nI i), .int 4]) (rest := []) ⟨hx, hb, hml, hown, hts⟩ (c_decide l D tc hI hi hh 4) (cwV 2 hts (tw_V tw_180 tw_181 tw_492 tw_1 tw_182) rfl rfl rfl (by decide +kernel) ⟨Nat.le_of_ble_eq_true rfl, Nat.le_of_ble_eq_true rfl⟩) (hv_preV (ci := 3) hK hT.1 (cs_kX hS) (by decide) rfl rfl) rfl rfl hl.1 rfl (lv_room (Nat.le_of_ble_eq_true rfl)) dX3_lead_125 ⟨by show 0 + 0 + 0 + 8 + 0 + 0 + 8 ≤ 16; omega, by show 0 + 0 + 0 + 64 + 0 + 0 + 64 ≤ 128; omega⟩) hT (fun v464 H locs hp465 hT => ?_)
                obtain ⟨_, hI⟩ := hp465
                have hS := hI.1
                exact hret _ v464 _ _ _ _ _ dX3_lead_128 hT ⟨_, hI⟩ (by show 0 + 0 + 0 + 8 + 0 + 0 + 8 ≤ 16; omega) (by show 0 + 0 + 0 + 64 + 0 + 0 + 64 ≤ 128; omega)
          · skip
            refine lv_bipush (v := 6) hx hb dX3_lead_81 (by decide) ?_
            refine lv_goto (tgt := 88) hx hb dX3_lead_83 (by decide) ?_
            refine lv_aload_n hx hb dX3_lead_88 rfl (lv_at hl 1 rfl) ?_
            refine hv_geti (ci := 2) (C := RX2) (T := TX2) (N := 10) hx hb hts (tw_cs in_X2) hown hK hT (cs_ks hS hi) (by decide) rfl 7 (by decide) (hts _ (tw_c tw_87)) rfl dX3_lead_89 ?_
            refine lv_topi (fun g466 eg466 => ?_)
            refine lv_iconst (v := 0) hx hb dX3_lead_92 (by decide) ?_
            refine hv_callv (va_runV (As := [.int (nI i), .int r451, .int 6, .int g466, .int 0]) (rest := []) ⟨hx, hb, hml, hown, hts⟩ (c_send l D tc hI hi r451 6 g466 0 (cs_all qhp450 (cs_n8 hS) (cs_lt8 hS hi)) hh) (cwV 5 hts (tw_V tw_137 tw_138 tw_139 tw_2 tw_140) rfl rfl rfl (by decide +kernel) ⟨Nat.le_of_ble_eq_true rfl, Nat.le_of_ble_eq_true rfl⟩) (hv_preV (ci := 1) hK hT.1 (cs_kN hS) (by decide) rfl rfl) rfl rfl hl.1 rfl (lv_room (Nat.le_of_ble_eq_true rfl)) dX3_lead_93 ⟨by show 0 + 0 + 0 + 8 ≤ 16; omega, by show 0 + 0 + 0 + 64 ≤ 128; omega⟩) hT (fun v467 H locs hp468 hT => ?_)
            obtain ⟨_, hI⟩ := hp468
            have hS := hI.1
            refine lv_aload_n hx hb dX3_lead_96 rfl (lv_at hl 2 rfl) ?_
            refine lv_aload_n hx hb dX3_lead_97 rfl (lv_at hl 1 rfl) ?_
            refine lv_aload_n hx hb dX3_lead_98 rfl (lv_at hl 2 rfl) ?_
            refine hv_geti (ci := 3) (C := RX3) (T := TX3) (N := 12) hx hb hts (tw_cs in_X3) hown hK hT (cs_kX hS) (by decide) rfl 7 (by decide) (hts _ (tw_c tw_54)) rfl dX3_lead_99 ?_
            refine lv_topi (fun g469 eg469 => ?_)
            obtain ⟨q470, h5q470, h100q470, hq470⟩ := hI.2.1.2.2.2.1
            have eg469 : g469 = (nI q470) := by rw [eg469]; exact hq470
            subst eg469
            refine hv_callv (va_runV (As := [.ref (fa (16 + i)), .int (nI q470)]) (rest := []) ⟨hx, hb, hml, hown, hts⟩ (c_setTimer l D tc hI hi (q := q470) (by have h8 := cs_lt8 hS hi; omega)) (cwV 2 hts (tw_V tw_167 tw_168 tw_489 tw_1 tw_169) rfl rfl rfl (by decide +kernel) ⟨Nat.le_of_ble_eq_true rfl, Nat.le_of_ble_eq_true rfl⟩) (hv_preV (ci := 3) hK hT.1 (cs_kX hS) (by decide) rfl rfl) rfl rfl hl.1 rfl (lv_room (Nat.le_of_ble_eq_true rfl)) dX3_lead_102 ⟨by show 0 + 0 + 0 + 8 + 0 ≤ 16; omega, by show 0 + 0 + 0 + 64 + 0 ≤ 128; omega⟩) hT (fun v471 H locs hp472 hT => ?_)
            have hI := hp472
            have hS := hI.1
            refine lv_aload_n hx hb dX3_lead_105 rfl (lv_at hl 2 rfl) ?_
            refine lv_aload_n hx hb dX3_lead_106 rfl (lv_at hl 1 rfl) ?_
            refine hv_calli (va_runV (As := [.ref (fa (16 + i))]) (rest := []) ⟨hx, hb, hml, hown, hts⟩ (c_hasQuorum l D tc hS hI.2.1.1 hi) (cwV 1 hts (tw_V tw_177 tw_178 tw_491 tw_1 tw_179) rfl rfl rfl (by decide +kernel) ⟨Nat.le_of_ble_eq_true rfl, Nat.le_of_ble_eq_true rfl⟩) (hv_preV (ci := 3) hK hT.1 (cs_kX hS) (by decide) rfl rfl) rfl rfl hl.1 rfl (lv_room (Nat.le_of_ble_eq_true rfl)) dX3_lead_107 ⟨by show 0 + 0 + 0 + 8 + 0 + 0 ≤ 16; omega, by show 0 + 0 + 0 + 64 + 0 + 0 ≤ 128; omega⟩) hT (fun r475 v473 H locs hp474 hT => ?_)
            rw [hp474] at hT
            refine lv_if_eq (tgt := 128) hx hb dX3_lead_110 (by decide) (fun c110 => ?_) (fun c110 => ?_)
            · skip
              exact hret _ v471 _ _ _ _ _ dX3_lead_128 hT ⟨_, hI⟩ (by show 0 + 0 + 0 + 8 + 0 + 0 ≤ 16; omega) (by show 0 + 0 + 0 + 64 + 0 + 0 ≤ 128; omega)
            · skip
              refine lv_aload_n hx hb dX3_lead_113 rfl (lv_at hl 2 rfl) ?_
              refine lv_iload_n hx hb dX3_lead_114 rfl (lv_at hl 3 rfl) ?_
              refine lv_iload hx hb dX3_lead_115 (lv_at hl 0 rfl) ?_
              refine lv_if_eq (tgt := 124) hx hb dX3_lead_117 (by decide) (fun c117 => ?_) (fun c117 => ?_)
              · skip
                refine lv_iconst (v := 5) hx hb dX3_lead_124 (by decide) ?_
                refine hv_callv (va_runV (As := [.int (nI i), .int 5]) (rest := []) ⟨hx, hb, hml, hown, hts⟩ (c_decide l D tc hI hi hh 5) (cwV 2 hts (tw_V tw_180 tw_181 tw_492 tw_1 tw_182) rfl rfl rfl (by decide +kernel) ⟨Nat.le_of_ble_eq_true rfl, Nat.le_of_ble_eq_true rfl⟩) (hv_preV (ci := 3) hK hT.1 (cs_kX hS) (by decide) rfl rfl) rfl rfl hl.1 rfl (lv_room (Nat.le_of_ble_eq_true rfl)) dX3_lead_125 ⟨by show 0 + 0 + 0 + 8 + 0 + 0 + 8 ≤ 16; omega, by show 0 + 0 + 0 + 64 + 0 + 0 + 64 ≤ 128; omega⟩) hT (fun v476 H locs hp477 hT => ?_)
                obtain ⟨_, hI⟩ := hp477
                have hS := hI.1
                exact hret _ v476 _ _ _ _ _ dX3_lead_128 hT ⟨_, hI⟩ (by show 0 + 0 + 0 + 8 + 0 + 0 + 8 ≤ 16; omega) (by show 0 + 0 + 0 + 64 + 0 + 0 + 64 ≤ 128; omega)
              · skip
                refine lv_iconst (v := 4) hx hb dX3_lead_120 (by decide) ?_
                refine lv_goto (tgt := 125) hx hb dX3_lead_121 (by decide) ?_
                refine hv_callv (va_runV (As := [.int (nI i), .int 4]) (rest := []) ⟨hx, hb, hml, hown, hts⟩ (c_decide l D tc hI hi hh 4) (cwV 2 hts (tw_V tw_180 tw_181 tw_492 tw_1 tw_182) rfl rfl rfl (by decide +kernel) ⟨Nat.le_of_ble_eq_true rfl, Nat.le_of_ble_eq_true rfl⟩) (hv_preV (ci := 3) hK hT.1 (cs_kX hS) (by decide) rfl rfl) rfl rfl hl.1 rfl (lv_room (Nat.le_of_ble_eq_true rfl)) dX3_lead_125 ⟨by show 0 + 0 + 0 + 8 + 0 + 0 + 8 ≤ 16; omega, by show 0 + 0 + 0 + 64 + 0 + 0 + 64 ≤ 128; omega⟩) hT (fun v478 H locs hp479 hT => ?_)
                obtain ⟨_, hI⟩ := hp479
                have hS := hI.1
                exact hret _ v478 _ _ _ _ _ dX3_lead_128 hT ⟨_, hI⟩ (by show 0 + 0 + 0 + 8 + 0 + 0 + 8 ≤ 16; omega) (by show 0 + 0 + 0 + 64 + 0 + 0 + 64 ≤ 128; omega)
        · skip
          refine lv_iconst (v := 1) hx hb dX3_lead_56 (by decide) ?_
          refine lv_iload_n hx hb dX3_lead_57 rfl (lv_at hl 3 rfl) ?_
          refine lv_ishl hx hb dX3_lead_58 ?_
          refine lv_goto (tgt := 63) hx hb dX3_lead_59 (by decide) ?_
          refine hv_puti (ci := 2) (C := RX2) (T := TX2) (N := 10) hx hb hts (tw_cs in_X2) tyX2 tyX2_ok nmX2 hown hK hT (cs_ks hS hi) (by decide) rfl 2 (by decide) (hts _ (tw_c tw_77)) rfl rfl (x := (1 <<< ((nI i) &&& 31))) rfl rfl dX3_lead_63 (fun H locs hT => ?_)
          have hI := ci_put (f := 202) (a := (fa (16 + i))) (x := (1 <<< ((nI i) &&& 31))) rfl hI
          have hS := hI.1
          refine lv_aload_n hx hb dX3_lead_66 rfl (lv_at hl 2 rfl) ?_
          refine hv_gets (ci := 3) (C := RX3) (T := TX3) (N := 12) hx hb hts (tw_cs in_X3) hown hK hT (cs_kX hS) (by decide) rfl 1 (by decide) (hts _ (tw_c tw_48)) rfl (x := (fa 2)) (cs_pN hS) dX3_lead_67 ?_
          refine lv_iload_n hx hb dX3_lead_70 rfl (lv_at hl 3 rfl) ?_
          refine lv_aload_n hx hb dX3_lead_71 rfl (lv_at hl 2 rfl) ?_
          refine lv_iload_n hx hb dX3_lead_72 rfl (lv_at hl 3 rfl) ?_
          refine hv_calli (va_runV (As := [.int (nI i)]) (rest := [.int (nI i), .ref (fa 2)]) ⟨hx, hb, hml, hown, hts⟩ (c_allBut l D tc hS hI.2.1.1 (nI i)) (cwV 1 hts (tw_V tw_131 tw_132 tw_487 tw_1 tw_133) rfl rfl rfl (by decide +kernel) ⟨Nat.le_of_ble_eq_true rfl, Nat.le_of_ble_eq_true rfl⟩) (hv_preV (ci := 3) hK hT.1 (cs_kX hS) (by decide) rfl rfl) rfl rfl hl.1 rfl (lv_room (Nat.le_of_ble_eq_true rfl)) dX3_lead_73 ⟨by show 0 + 0 + 0 ≤ 16; omega, by show 0 + 0 + 0 ≤ 128; omega⟩) hT (fun r482 v480 H locs hp481 hT => ?_)
          obtain ⟨evhp481, qhp481⟩ := hp481
          rw [evhp481] at hT
          refine lv_iload hx hb dX3_lead_76 (lv_at hl 0 rfl) ?_
          refine lv_if_eq (tgt := 86) hx hb dX3_lead_78 (by decide) (fun c78 => ?_) (fun c78 => ?_)
          · skip
            refine lv_bipush (v := 7) hx hb dX3_lead_86 (by decide) ?_
            refine lv_aload_n hx hb dX3_lead_88 rfl (lv_at hl 1 rfl) ?_
            refine hv_geti (ci := 2) (C := RX2) (T := TX2) (N := 10) hx hb hts (tw_cs in_X2) hown hK hT (cs_ks hS hi) (by decide) rfl 7 (by decide) (hts _ (tw_c tw_87)) rfl dX3_lead_89 ?_
            refine lv_topi (fun g483 eg483 => ?_)
            refine lv_iconst (v := 0) hx hb dX3_lead_92 (by decide) ?_
            refine hv_callv (va_runV (As := [.int (nI i), .int r482, .int 7, .int g483, .int 0]) (rest := []) ⟨hx, hb, hml, hown, hts⟩ (c_send l D tc hI hi r482 7 g483 0 (cs_all qhp481 (cs_n8 hS) (cs_lt8 hS hi)) hh) (cwV 5 hts (tw_V tw_137 tw_138 tw_139 tw_2 tw_140) rfl rfl rfl (by decide +kernel) ⟨Nat.le_of_ble_eq_true rfl, Nat.le_of_ble_eq_true rfl⟩) (hv_preV (ci := 1) hK hT.1 (cs_kN hS) (by decide) rfl rfl) rfl rfl hl.1 rfl (lv_room (Nat.le_of_ble_eq_true rfl)) dX3_lead_93 ⟨by show 0 + 0 + 0 + 8 ≤ 16; omega, by show 0 + 0 + 0 + 64 ≤ 128; omega⟩) hT (fun v484 H locs hp485 hT => ?_)
            obtain ⟨_, hI⟩ := hp485
            have hS := hI.1
            refine lv_aload_n hx hb dX3_lead_96 rfl (lv_at hl 2 rfl) ?_
            refine lv_aload_n hx hb dX3_lead_97 rfl (lv_at hl 1 rfl) ?_
            refine lv_aload_n hx hb dX3_lead_98 rfl (lv_at hl 2 rfl) ?_
            refine hv_geti (ci := 3) (C := RX3) (T := TX3) (N := 12) hx hb hts (tw_cs in_X3) hown hK hT (cs_kX hS) (by decide) rfl 7 (by decide) (hts _ (tw_c tw_54)) rfl dX3_lead_99 ?_
            refine lv_topi (fun g486 eg486 => ?_)
            obtain ⟨q487, h5q487, h100q487, hq487⟩ := hI.2.1.2.2.2.1
            have eg486 : g486 = (nI q487) := by rw [eg486]; exact hq487
            subst eg486
            refine hv_callv (va_runV (As := [.ref (fa (16 + i)), .int (nI q487)]) (rest := []) ⟨hx, hb, hml, hown, hts⟩ (c_setTimer l D tc hI hi (q := q487) (by have h8 := cs_lt8 hS hi; omega)) (cwV 2 hts (tw_V tw_167 tw_168 tw_489 tw_1 tw_169) rfl rfl rfl (by decide +kernel) ⟨Nat.le_of_ble_eq_true rfl, Nat.le_of_ble_eq_true rfl⟩) (hv_preV (ci := 3) hK hT.1 (cs_kX hS) (by decide) rfl rfl) rfl rfl hl.1 rfl (lv_room (Nat.le_of_ble_eq_true rfl)) dX3_lead_102 ⟨by show 0 + 0 + 0 + 8 + 0 ≤ 16; omega, by show 0 + 0 + 0 + 64 + 0 ≤ 128; omega⟩) hT (fun v488 H locs hp489 hT => ?_)
            have hI := hp489
            have hS := hI.1
            refine lv_aload_n hx hb dX3_lead_105 rfl (lv_at hl 2 rfl) ?_
            refine lv_aload_n hx hb dX3_lead_106 rfl (lv_at hl 1 rfl) ?_
            refine hv_calli (va_runV (As := [.ref (fa (16 + i))]) (rest := []) ⟨hx, hb, hml, hown, hts⟩ (c_hasQuorum l D tc hS hI.2.1.1 hi) (cwV 1 hts (tw_V tw_177 tw_178 tw_491 tw_1 tw_179) rfl rfl rfl (by decide +kernel) ⟨Nat.le_of_ble_eq_true rfl, Nat.le_of_ble_eq_true rfl⟩) (hv_preV (ci := 3) hK hT.1 (cs_kX hS) (by decide) rfl rfl) rfl rfl hl.1 rfl (lv_room (Nat.le_of_ble_eq_true rfl)) dX3_lead_107 ⟨by show 0 + 0 + 0 + 8 + 0 + 0 ≤ 16; omega, by show 0 + 0 + 0 + 64 + 0 + 0 ≤ 128; omega⟩) hT (fun r492 v490 H locs hp491 hT => ?_)
            rw [hp491] at hT
            refine lv_if_eq (tgt := 128) hx hb dX3_lead_110 (by decide) (fun c110 => ?_) (fun c110 => ?_)
            · skip
              exact hret _ v488 _ _ _ _ _ dX3_lead_128 hT ⟨_, hI⟩ (by show 0 + 0 + 0 + 8 + 0 + 0 ≤ 16; omega) (by show 0 + 0 + 0 + 64 + 0 + 0 ≤ 128; omega)
            · skip
              refine lv_aload_n hx hb dX3_lead_113 rfl (lv_at hl 2 rfl) ?_
              refine lv_iload_n hx hb dX3_lead_114 rfl (lv_at hl 3 rfl) ?_
              refine lv_iload hx hb dX3_lead_115 (lv_at hl 0 rfl) ?_
              refine lv_if_eq (tgt := 124) hx hb dX3_lead_117 (by decide) (fun c117 => ?_) (fun c117 => ?_)
              · skip
                refine lv_iconst (v := 5) hx hb dX3_lead_124 (by decide) ?_
                refine hv_callv (va_runV (As := [.int (nI i), .int 5]) (rest := []) ⟨hx, hb, hml, hown, hts⟩ (c_decide l D tc hI hi hh 5) (cwV 2 hts (tw_V tw_180 tw_181 tw_492 tw_1 tw_182) rfl rfl rfl (by decide +kernel) ⟨Nat.le_of_ble_eq_true rfl, Nat.le_of_ble_eq_true rfl⟩) (hv_preV (ci := 3) hK hT.1 (cs_kX hS) (by decide) rfl rfl) rfl rfl hl.1 rfl (lv_room (Nat.le_of_ble_eq_true rfl)) dX3_lead_125 ⟨by show 0 + 0 + 0 + 8 + 0 + 0 + 8 ≤ 16; omega, by show 0 + 0 + 0 + 64 + 0 + 0 + 64 ≤ 128; omega⟩) hT (fun v493 H locs hp494 hT => ?_)
                obtain ⟨_, hI⟩ := hp494
                have hS := hI.1
                exact hret _ v493 _ _ _ _ _ dX3_lead_128 hT ⟨_, hI⟩ (by show 0 + 0 + 0 + 8 + 0 + 0 + 8 ≤ 16; omega) (by show 0 + 0 + 0 + 64 + 0 + 0 + 64 ≤ 128; omega)
              · skip
                refine lv_iconst (v := 4) hx hb dX3_lead_120 (by decide) ?_
                refine lv_goto (tgt := 125) hx hb dX3_lead_121 (by decide) ?_
                refine hv_callv (va_runV (As := [.int (nI i), .int 4]) (rest := []) ⟨hx, hb, hml, hown, hts⟩ (c_decide l D tc hI hi hh 4) (cwV 2 hts (tw_V tw_180 tw_181 tw_492 tw_1 tw_182) rfl rfl rfl (by decide +kernel) ⟨Nat.le_of_ble_eq_true rfl, Nat.le_of_ble_eq_true rfl⟩) (hv_preV (ci := 3) hK hT.1 (cs_kX hS) (by decide) rfl rfl) rfl rfl hl.1 rfl (lv_room (Nat.le_of_ble_eq_true rfl)) dX3_lead_125 ⟨by show 0 + 0 + 0 + 8 + 0 + 0 + 8 ≤ 16; omega, by show 0 + 0 + 0 + 64 + 0 + 0 + 64 ≤ 128; omega⟩) hT (fun v495 H locs hp496 hT => ?_)
                obtain ⟨_, hI⟩ := hp496
                have hS := hI.1
                exact hret _ v495 _ _ _ _ _ dX3_lead_128 hT ⟨_, hI⟩ (by show 0 + 0 + 0 + 8 + 0 + 0 + 8 ≤ 16; omega) (by show 0 + 0 + 0 + 64 + 0 + 0 + 64 ≤ 128; omega)
          · skip
            refine lv_bipush (v := 6) hx hb dX3_lead_81 (by decide) ?_
            refine lv_goto (tgt := 88) hx hb dX3_lead_83 (by decide) ?_
            refine lv_aload_n hx hb dX3_lead_88 rfl (lv_at hl 1 rfl) ?_
            refine hv_geti (ci := 2) (C := RX2) (T := TX2) (N := 10) hx hb hts (tw_cs in_X2) hown hK hT (cs_ks hS hi) (by decide) rfl 7 (by decide) (hts _ (tw_c tw_87)) rfl dX3_lead_89 ?_
            refine lv_topi (fun g497 eg497 => ?_)
            refine lv_iconst (v := 0) hx hb dX3_lead_92 (by decide) ?_
            refine hv_callv (va_runV (As := [.int (nI i), .int r482, .int 6, .int g497, .int 0]) (rest := []) ⟨hx, hb, hml, hown, hts⟩ (c_send l D tc hI hi r482 6 g497 0 (cs_all qhp481 (cs_n8 hS) (cs_lt8 hS hi)) hh) (cwV 5 hts (tw_V tw_137 tw_138 tw_139 tw_2 tw_140) rfl rfl rfl (by decide +kernel) ⟨Nat.le_of_ble_eq_true rfl, Nat.le_of_ble_eq_true rfl⟩) (hv_preV (ci := 1) hK hT.1 (cs_kN hS) (by decide) rfl rfl) rfl rfl hl.1 rfl (lv_room (Nat.le_of_ble_eq_true rfl)) dX3_lead_93 ⟨by show 0 + 0 + 0 + 8 ≤ 16; omega, by show 0 + 0 + 0 + 64 ≤ 128; omega⟩) hT (fun v498 H locs hp499 hT => ?_)
            obtain ⟨_, hI⟩ := hp499
            have hS := hI.1
            refine lv_aload_n hx hb dX3_lead_96 rfl (lv_at hl 2 rfl) ?_
            refine lv_aload_n hx hb dX3_lead_97 rfl (lv_at hl 1 rfl) ?_
            refine lv_aload_n hx hb dX3_lead_98 rfl (lv_at hl 2 rfl) ?_
            refine hv_geti (ci := 3) (C := RX3) (T := TX3) (N := 12) hx hb hts (tw_cs in_X3) hown hK hT (cs_kX hS) (by decide) rfl 7 (by decide) (hts _ (tw_c tw_54)) rfl dX3_lead_99 ?_
            refine lv_topi (fun g500 eg500 => ?_)
            obtain ⟨q501, h5q501, h100q501, hq501⟩ := hI.2.1.2.2.2.1
            have eg500 : g500 = (nI q501) := by rw [eg500]; exact hq501
            subst eg500
            refine hv_callv (va_runV (As := [.ref (fa (16 + i)), .int (nI q501)]) (rest := []) ⟨hx, hb, hml, hown, hts⟩ (c_setTimer l D tc hI hi (q := q501) (by have h8 := cs_lt8 hS hi; omega)) (cwV 2 hts (tw_V tw_167 tw_168 tw_489 tw_1 tw_169) rfl rfl rfl (by decide +kernel) ⟨Nat.le_of_ble_eq_true rfl, Nat.le_of_ble_eq_true rfl⟩) (hv_preV (ci := 3) hK hT.1 (cs_kX hS) (by decide) rfl rfl) rfl rfl hl.1 rfl (lv_room (Nat.le_of_ble_eq_true rfl)) dX3_lead_102 ⟨by show 0 + 0 + 0 + 8 + 0 ≤ 16; omega, by show 0 + 0 + 0 + 64 + 0 ≤ 128; omega⟩) hT (fun v502 H locs hp503 hT => ?_)
            have hI := hp503
            have hS := hI.1
            refine lv_aload_n hx hb dX3_lead_105 rfl (lv_at hl 2 rfl) ?_
            refine lv_aload_n hx hb dX3_lead_106 rfl (lv_at hl 1 rfl) ?_
            refine hv_calli (va_runV (As := [.ref (fa (16 + i))]) (rest := []) ⟨hx, hb, hml, hown, hts⟩ (c_hasQuorum l D tc hS hI.2.1.1 hi) (cwV 1 hts (tw_V tw_177 tw_178 tw_491 tw_1 tw_179) rfl rfl rfl (by decide +kernel) ⟨Nat.le_of_ble_eq_true rfl, Nat.le_of_ble_eq_true rfl⟩) (hv_preV (ci := 3) hK hT.1 (cs_kX hS) (by decide) rfl rfl) rfl rfl hl.1 rfl (lv_room (Nat.le_of_ble_eq_true rfl)) dX3_lead_107 ⟨by show 0 + 0 + 0 + 8 + 0 + 0 ≤ 16; omega, by show 0 + 0 + 0 + 64 + 0 + 0 ≤ 128; omega⟩) hT (fun r506 v504 H locs hp505 hT => ?_)
            rw [hp505] at hT
            refine lv_if_eq (tgt := 128) hx hb dX3_lead_110 (by decide) (fun c110 => ?_) (fun c110 => ?_)
            · skip
              exact hret _ v502 _ _ _ _ _ dX3_lead_128 hT ⟨_, hI⟩ (by show 0 + 0 + 0 + 8 + 0 + 0 ≤ 16; omega) (by show 0 + 0 + 0 + 64 + 0 + 0 ≤ 128; omega)
            · skip
              refine lv_aload_n hx hb dX3_lead_113 rfl (lv_at hl 2 rfl) ?_
              refine lv_iload_n hx hb dX3_lead_114 rfl (lv_at hl 3 rfl) ?_
              refine lv_iload hx hb dX3_lead_115 (lv_at hl 0 rfl) ?_
              refine lv_if_eq (tgt := 124) hx hb dX3_lead_117 (by decide) (fun c117 => ?_) (fun c117 => ?_)
              · skip
                refine lv_iconst (v := 5) hx hb dX3_lead_124 (by decide) ?_
                refine hv_callv (va_runV (As := [.int (nI i), .int 5]) (rest := []) ⟨hx, hb, hml, hown, hts⟩ (c_decide l D tc hI hi hh 5) (cwV 2 hts (tw_V tw_180 tw_181 tw_492 tw_1 tw_182) rfl rfl rfl (by decide +kernel) ⟨Nat.le_of_ble_eq_true rfl, Nat.le_of_ble_eq_true rfl⟩) (hv_preV (ci := 3) hK hT.1 (cs_kX hS) (by decide) rfl rfl) rfl rfl hl.1 rfl (lv_room (Nat.le_of_ble_eq_true rfl)) dX3_lead_125 ⟨by show 0 + 0 + 0 + 8 + 0 + 0 + 8 ≤ 16; omega, by show 0 + 0 + 0 + 64 + 0 + 0 + 64 ≤ 128; omega⟩) hT (fun v507 H locs hp508 hT => ?_)
                obtain ⟨_, hI⟩ := hp508
                have hS := hI.1
                exact hret _ v507 _ _ _ _ _ dX3_lead_128 hT ⟨_, hI⟩ (by show 0 + 0 + 0 + 8 + 0 + 0 + 8 ≤ 16; omega) (by show 0 + 0 + 0 + 64 + 0 + 0 + 64 ≤ 128; omega)
              · skip
                refine lv_iconst (v := 4) hx hb dX3_lead_120 (by decide) ?_
                refine lv_goto (tgt := 125) hx hb dX3_lead_121 (by decide) ?_
                refine hv_callv (va_runV (As := [.int (nI i), .int 4]) (rest := []) ⟨hx, hb, hml, hown, hts⟩ (c_decide l D tc hI hi hh 4) (cwV 2 hts (tw_V tw_180 tw_181 tw_492 tw_1 tw_182) rfl rfl rfl (by decide +kernel) ⟨Nat.le_of_ble_eq_true rfl, Nat.le_of_ble_eq_true rfl⟩) (hv_preV (ci := 3) hK hT.1 (cs_kX hS) (by decide) rfl rfl) rfl rfl hl.1 rfl (lv_room (Nat.le_of_ble_eq_true rfl)) dX3_lead_125 ⟨by show 0 + 0 + 0 + 8 + 0 + 0 + 8 ≤ 16; omega, by show 0 + 0 + 0 + 64 + 0 + 0 + 64 ≤ 128; omega⟩) hT (fun v509 H locs hp510 hT => ?_)
                obtain ⟨_, hI⟩ := hp510
                have hS := hI.1
                exact hret _ v509 _ _ _ _ _ dX3_lead_128 hT ⟨_, hI⟩ (by show 0 + 0 + 0 + 8 + 0 + 0 + 8 ≤ 16; omega) (by show 0 + 0 + 0 + 64 + 0 + 0 + 64 ≤ 128; omega)

set_option maxHeartbeats 4000000 in
set_option maxRecDepth 100000 in
theorem c_askVotes (l : Launch) (D : va_G) (tc : Nat → ClassId) {fa : Nat → Nat} {n : Nat} {w u : Nat → Nat} {b : Nat} {d : Nat → Nat → Nat} {g : Nat × Nat} {k : Nat} {hd : List Nat} {v : hv_V} (hI : ci_I fa n w u b d g k hd v) {i : Nat} (hi : i < n) (hh : hd.length ≤ 1) : Met l yX3_askVotes (Cond.code yX3_askVotes cX3_askVotes 3 none :: lw_B) ({ frames := 5, cells := 24, slots := 192, locals := 114 }) (va_Pc [.ref (fa 0), .int (nI i)] (hv_Pre D tc v)) (va_Qv (fun (v1 : hv_V) => ∃ k1, ci_I fa n w u b d g k1 hd v1) (hv_Post D tc (hv_A v)) (hv_A v)) (24) (192) (hv_A v) := by
  refine hv_metv l (by decide) (Nat.le_of_ble_eq_true rfl) ?_
  intro p e s m args below meth c Q X hret hK hz H locs ls hT hl
  obtain ⟨hx, hb, hml, hts, hown, hin0⟩ := X
  have hown : s.vm.findClass "CommitSites" = some m.cls := hown
  have hl : lv_has ls 3 [(0, .ref (fa 0)), (1, .int (nI i))] := hl
  have hS := hI.1
  refine lv_aload_n hx hb dX3_askVotes_0 rfl (lv_at hl 0 rfl) ?_
  refine hv_gets (ci := 3) (C := RX3) (T := TX3) (N := 12) hx hb hts (tw_cs in_X3) hown hK hT (cs_kX hS) (by decide) rfl 0 (by decide) (hts _ (tw_c tw_47)) rfl (x := (fa 1)) (cs_pS hS) dX3_askVotes_1 ?_
  refine lv_iload_n hx hb dX3_askVotes_4 rfl (lv_at hl 1 rfl) ?_
  refine hv_alds (t := 0) hx hb hK hT (cs_kS hS) rfl rfl (cs_in8 (cs_lt8 hS hi)) (x := (fa (16 + i))) (cs_qS hS hi) dX3_askVotes_5 ?_
  refine lv_astore_n (lv' := [(2, _), (0, _), (1, _)]) hx hb dX3_askVotes_6 rfl hl (by decide) rfl (fun ls hl => ?_)
  refine lv_aload_n hx hb dX3_askVotes_7 rfl (lv_at hl 1 rfl) ?_
  refine lv_aload_n hx hb dX3_askVotes_8 rfl (lv_at hl 0 rfl) ?_
  refine lv_iconst (v := 1) hx hb dX3_askVotes_9 (by decide) ?_
  refine hv_callv (va_runV (As := [.ref (fa (16 + i)), .int 1]) (rest := []) ⟨hx, hb, hml, hown, hts⟩ (c_become l D tc hI hi 1) (cwV 2 hts (tw_V tw_124 tw_125 tw_486 tw_1 tw_126) rfl rfl rfl (by decide +kernel) ⟨Nat.le_of_ble_eq_true rfl, Nat.le_of_ble_eq_true rfl⟩) (hv_preV (ci := 3) hK hT.1 (cs_kX hS) (by decide) rfl rfl) rfl rfl hl.1 rfl (lv_room (Nat.le_of_ble_eq_true rfl)) dX3_askVotes_10 ⟨by show 0 + 0 ≤ 24; omega, by show 0 + 0 ≤ 192; omega⟩) hT (fun v1 H locs hp2 hT => ?_)
  have hI := hp2
  have hS := hI.1
  refine lv_aload_n hx hb dX3_askVotes_13 rfl (lv_at hl 0 rfl) ?_
  refine lv_iconst (v := 1) hx hb dX3_askVotes_14 (by decide) ?_
  refine hv_puti (ci := 2) (C := RX2) (T := TX2) (N := 10) hx hb hts (tw_cs in_X2) tyX2 tyX2_ok nmX2 hown hK hT (cs_ks hS hi) (by decide) rfl 6 (by decide) (hts _ (tw_c tw_85)) rfl rfl (x := 1) rfl rfl dX3_askVotes_15 (fun H locs hT => ?_)
  have hI := ci_put (f := 206) (a := (fa (16 + i))) (x := 1) rfl hI
  have hS := hI.1
  refine lv_aload_n hx hb dX3_askVotes_18 rfl (lv_at hl 0 rfl) ?_
  refine lv_iconst (v := 1) hx hb dX3_askVotes_19 (by decide) ?_
  refine lv_iload_n hx hb dX3_askVotes_20 rfl (lv_at hl 2 rfl) ?_
  refine lv_ishl hx hb dX3_askVotes_21 ?_
  refine hv_puti (ci := 2) (C := RX2) (T := TX2) (N := 10) hx hb hts (tw_cs in_X2) tyX2 tyX2_ok nmX2 hown hK hT (cs_ks hS hi) (by decide) rfl 2 (by decide) (hts _ (tw_c tw_77)) rfl rfl (x := (1 <<< ((nI i) &&& 31))) rfl rfl dX3_askVotes_22 (fun H locs hT => ?_)
  have hI := ci_put (f := 202) (a := (fa (16 + i))) (x := (1 <<< ((nI i) &&& 31))) rfl hI
  have hS := hI.1
  refine lv_aload_n hx hb dX3_askVotes_25 rfl (lv_at hl 1 rfl) ?_
  refine hv_gets (ci := 3) (C := RX3) (T := TX3) (N := 12) hx hb hts (tw_cs in_X3) hown hK hT (cs_kX hS) (by decide) rfl 1 (by decide) (hts _ (tw_c tw_48)) rfl (x := (fa 2)) (cs_pN hS) dX3_askVotes_26 ?_
  refine lv_iload_n hx hb dX3_askVotes_29 rfl (lv_at hl 2 rfl) ?_
  refine lv_aload_n hx hb dX3_askVotes_30 rfl (lv_at hl 1 rfl) ?_
  refine lv_iload_n hx hb dX3_askVotes_31 rfl (lv_at hl 2 rfl) ?_
  refine hv_calli (va_runV (As := [.int (nI i)]) (rest := [.int (nI i), .ref (fa 2)]) ⟨hx, hb, hml, hown, hts⟩ (c_allBut l D tc hS hI.2.1.1 (nI i)) (cwV 1 hts (tw_V tw_131 tw_132 tw_487 tw_1 tw_133) rfl rfl rfl (by decide +kernel) ⟨Nat.le_of_ble_eq_true rfl, Nat.le_of_ble_eq_true rfl⟩) (hv_preV (ci := 3) hK hT.1 (cs_kX hS) (by decide) rfl rfl) rfl rfl hl.1 rfl (lv_room (Nat.le_of_ble_eq_true rfl)) dX3_askVotes_32 ⟨by show 0 + 0 + 0 ≤ 24; omega, by show 0 + 0 + 0 ≤ 192; omega⟩) hT (fun r5 v3 H locs hp4 hT => ?_)
  obtain ⟨evhp4, qhp4⟩ := hp4
  rw [evhp4] at hT
  refine lv_iconst (v := 1) hx hb dX3_askVotes_35 (by decide) ?_
  refine lv_iconst (v := 0) hx hb dX3_askVotes_36 (by decide) ?_
  refine lv_iconst (v := 0) hx hb dX3_askVotes_37 (by decide) ?_
  refine hv_callv (va_runV (As := [.int (nI i), .int r5, .int 1, .int 0, .int 0]) (rest := []) ⟨hx, hb, hml, hown, hts⟩ (c_send l D tc hI hi r5 1 0 0 (cs_all qhp4 (cs_n8 hS) (cs_lt8 hS hi)) hh) (cwV 5 hts (tw_V tw_137 tw_138 tw_139 tw_2 tw_140) rfl rfl rfl (by decide +kernel) ⟨Nat.le_of_ble_eq_true rfl, Nat.le_of_ble_eq_true rfl⟩) (hv_preV (ci := 1) hK hT.1 (cs_kN hS) (by decide) rfl rfl) rfl rfl hl.1 rfl (lv_room (Nat.le_of_ble_eq_true rfl)) dX3_askVotes_38 ⟨by show 0 + 0 + 0 + 8 ≤ 24; omega, by show 0 + 0 + 0 + 64 ≤ 192; omega⟩) hT (fun v6 H locs hp7 hT => ?_)
  obtain ⟨_, hI⟩ := hp7
  have hS := hI.1
  refine lv_aload_n hx hb dX3_askVotes_41 rfl (lv_at hl 1 rfl) ?_
  refine lv_aload_n hx hb dX3_askVotes_42 rfl (lv_at hl 0 rfl) ?_
  refine lv_aload_n hx hb dX3_askVotes_43 rfl (lv_at hl 1 rfl) ?_
  refine hv_geti (ci := 3) (C := RX3) (T := TX3) (N := 12) hx hb hts (tw_cs in_X3) hown hK hT (cs_kX hS) (by decide) rfl 7 (by decide) (hts _ (tw_c tw_54)) rfl dX3_askVotes_44 ?_
  refine lv_topi (fun g8 eg8 => ?_)
  obtain ⟨q9, h5q9, h100q9, hq9⟩ := hI.2.1.2.2.2.1
  have eg8 : g8 = (nI q9) := by rw [eg8]; exact hq9
  subst eg8
  refine hv_callv (va_runV (As := [.ref (fa (16 + i)), .int (nI q9)]) (rest := []) ⟨hx, hb, hml, hown, hts⟩ (c_setTimer l D tc hI hi (q := q9) (by have h8 := cs_lt8 hS hi; omega)) (cwV 2 hts (tw_V tw_167 tw_168 tw_489 tw_1 tw_169) rfl rfl rfl (by decide +kernel) ⟨Nat.le_of_ble_eq_true rfl, Nat.le_of_ble_eq_true rfl⟩) (hv_preV (ci := 3) hK hT.1 (cs_kX hS) (by decide) rfl rfl) rfl rfl hl.1 rfl (lv_room (Nat.le_of_ble_eq_true rfl)) dX3_askVotes_47 ⟨by show 0 + 0 + 0 + 8 + 0 ≤ 24; omega, by show 0 + 0 + 0 + 64 + 0 ≤ 192; omega⟩) hT (fun v10 H locs hp11 hT => ?_)
  have hI := hp11
  have hS := hI.1
  refine lv_aload_n hx hb dX3_askVotes_50 rfl (lv_at hl 0 rfl) ?_
  refine hv_geti (ci := 2) (C := RX2) (T := TX2) (N := 10) hx hb hts (tw_cs in_X2) hown hK hT (cs_ks hS hi) (by decide) rfl 2 (by decide) (hts _ (tw_c tw_77)) rfl dX3_askVotes_51 ?_
  refine lv_topi (fun g12 eg12 => ?_)
  refine lv_aload_n hx hb dX3_askVotes_54 rfl (lv_at hl 1 rfl) ?_
  refine hv_calli (va_runV (As := []) (rest := [.int g12]) ⟨hx, hb, hml, hown, hts⟩ (c_everyone l D tc hS hI.2.1.1) (cwV 0 hts (tw_V tw_134 tw_135 tw_488 tw_1 tw_136) rfl rfl rfl (by decide +kernel) ⟨Nat.le_of_ble_eq_true rfl, Nat.le_of_ble_eq_true rfl⟩) (hv_preV (ci := 3) hK hT.1 (cs_kX hS) (by decide) rfl rfl) rfl rfl hl.1 rfl (lv_room (Nat.le_of_ble_eq_true rfl)) dX3_askVotes_55 ⟨by show 0 + 0 + 0 + 8 + 0 + 0 ≤ 24; omega, by show 0 + 0 + 0 + 64 + 0 + 0 ≤ 192; omega⟩) hT (fun r15 v13 H locs hp14 hT => ?_)
  obtain ⟨evhp14, qhp14⟩ := hp14
  rw [evhp14] at hT
  refine lv_icmp_ne (tgt := 77) hx hb dX3_askVotes_58 (by decide) (fun c58 => ?_) (fun c58 => ?_)
  · skip
    exact hret _ v10 _ _ _ _ _ dX3_askVotes_77 hT ⟨_, hI⟩ (by show 0 + 0 + 0 + 8 + 0 + 0 ≤ 24; omega) (by show 0 + 0 + 0 + 64 + 0 + 0 ≤ 192; omega)
  · skip
    refine lv_aload_n hx hb dX3_askVotes_61 rfl (lv_at hl 0 rfl) ?_
    refine lv_dup hx hb dX3_askVotes_62 rfl ?_
    refine hv_geti (ci := 2) (C := RX2) (T := TX2) (N := 10) hx hb hts (tw_cs in_X2) hown hK hT (cs_ks hS hi) (by decide) rfl 7 (by decide) (hts _ (tw_c tw_87)) rfl dX3_askVotes_63 ?_
    refine lv_topi (fun g16 eg16 => ?_)
    refine lv_iconst (v := 1) hx hb dX3_askVotes_66 (by decide) ?_
    refine lv_iadd hx hb dX3_askVotes_67 ?_
    refine hv_puti (ci := 2) (C := RX2) (T := TX2) (N := 10) hx hb hts (tw_cs in_X2) tyX2 tyX2_ok nmX2 hown hK hT (cs_ks hS hi) (by decide) rfl 7 (by decide) (hts _ (tw_c tw_87)) rfl rfl (x := (g16 + 1)) rfl rfl dX3_askVotes_68 (fun H locs hT => ?_)
    have hI := ci_put (f := 207) (a := (fa (16 + i))) (x := (g16 + 1)) rfl hI
    have hS := hI.1
    refine lv_aload_n hx hb dX3_askVotes_71 rfl (lv_at hl 1 rfl) ?_
    refine lv_iload_n hx hb dX3_askVotes_72 rfl (lv_at hl 2 rfl) ?_
    refine lv_iconst (v := 2) hx hb dX3_askVotes_73 (by decide) ?_
    refine hv_callv (va_runV (As := [.int (nI i), .int 2]) (rest := []) ⟨hx, hb, hml, hown, hts⟩ (c_lead l D tc hI hi hh 2) (cwV 2 hts (tw_V tw_174 tw_175 tw_490 tw_1 tw_176) rfl rfl rfl (by decide +kernel) ⟨Nat.le_of_ble_eq_true rfl, Nat.le_of_ble_eq_true rfl⟩) (hv_preV (ci := 3) hK hT.1 (cs_kX hS) (by decide) rfl rfl) rfl rfl hl.1 rfl (lv_room (Nat.le_of_ble_eq_true rfl)) dX3_askVotes_74 ⟨by show 0 + 0 + 0 + 8 + 0 + 0 + 16 ≤ 24; omega, by show 0 + 0 + 0 + 64 + 0 + 0 + 128 ≤ 192; omega⟩) hT (fun v17 H locs hp18 hT => ?_)
    obtain ⟨_, hI⟩ := hp18
    have hS := hI.1
    exact hret _ v17 _ _ _ _ _ dX3_askVotes_77 hT ⟨_, hI⟩ (by show 0 + 0 + 0 + 8 + 0 + 0 + 16 ≤ 24; omega) (by show 0 + 0 + 0 + 64 + 0 + 0 + 128 ≤ 192; omega)

set_option maxHeartbeats 4000000 in
set_option maxRecDepth 100000 in
theorem c_yieldTo (l : Launch) (D : va_G) (tc : Nat → ClassId) {fa : Nat → Nat} {n : Nat} {w u : Nat → Nat} {b : Nat} {d : Nat → Nat → Nat} {g : Nat × Nat} {k : Nat} {hd : List Nat} {v : hv_V} (hI : ci_I fa n w u b d g k hd v) {i : Nat} (hi : i < n) {j : Nat} (hj : j < n) : Met l yX3_yieldTo (Cond.code yX3_yieldTo cX3_yieldTo 5 none :: lw_B) ({ frames := 2, cells := 0, slots := 0, locals := 42 }) (va_Pc [.ref (fa 0), .int (nI i), .int (nI j)] (hv_Pre D tc v)) (va_Qv (fun (v1 : hv_V) => ∃ k1, ci_I fa n w u b d g k1 hd v1) (hv_Post D tc (hv_A v)) (hv_A v)) (0) (0) (hv_A v) := by
  refine hv_metv l (by decide) (Nat.le_of_ble_eq_true rfl) ?_
  intro p e s m args below meth c Q X hret hK hz H locs ls hT hl
  obtain ⟨hx, hb, hml, hts, hown, hin0⟩ := X
  have hown : s.vm.findClass "CommitSites" = some m.cls := hown
  have hl : lv_has ls 5 [(0, .ref (fa 0)), (1, .int (nI i)), (2, .int (nI j))] := hl
  have hS := hI.1
  refine lv_aload_n hx hb dX3_yieldTo_0 rfl (lv_at hl 0 rfl) ?_
  refine hv_gets (ci := 3) (C := RX3) (T := TX3) (N := 12) hx hb hts (tw_cs in_X3) hown hK hT (cs_kX hS) (by decide) rfl 0 (by decide) (hts _ (tw_c tw_47)) rfl (x := (fa 1)) (cs_pS hS) dX3_yieldTo_1 ?_
  refine lv_iload_n hx hb dX3_yieldTo_4 rfl (lv_at hl 1 rfl) ?_
  refine hv_alds (t := 0) hx hb hK hT (cs_kS hS) rfl rfl (cs_in8 (cs_lt8 hS hi)) (x := (fa (16 + i))) (cs_qS hS hi) dX3_yieldTo_5 ?_
  refine lv_astore_n (lv' := [(3, _), (0, _), (1, _), (2, _)]) hx hb dX3_yieldTo_6 rfl hl (by decide) rfl (fun ls hl => ?_)
  refine lv_aload_n hx hb dX3_yieldTo_7 rfl (lv_at hl 0 rfl) ?_
  refine hv_geti (ci := 2) (C := RX2) (T := TX2) (N := 10) hx hb hts (tw_cs in_X2) hown hK hT (cs_ks hS hi) (by decide) rfl 6 (by decide) (hts _ (tw_c tw_85)) rfl dX3_yieldTo_8 ?_
  refine lv_topi (fun g1 eg1 => ?_)
  refine lv_iconst (v := 2) hx hb dX3_yieldTo_11 (by decide) ?_
  refine lv_icmp_lt (tgt := 24) hx hb dX3_yieldTo_12 (by decide) (fun c12 => ?_) (fun c12 => ?_)
  · skip
    refine lv_iconst (v := 0) hx hb dX3_yieldTo_24 (by decide) ?_
    refine lv_istore (lv' := [(4, _), (3, _), (0, _), (1, _), (2, _)]) hx hb dX3_yieldTo_25 hl (by decide) rfl (fun ls hl => ?_)
    refine lv_aload_n hx hb dX3_yieldTo_27 rfl (lv_at hl 1 rfl) ?_
    refine hv_calli (va_runV (As := []) (rest := []) ⟨hx, hb, hml, hown, hts⟩ (c_isDecided l D tc hS hi) (cwV 0 hts (tw_V tw_127 tw_128 tw_129 tw_4 tw_130) rfl rfl rfl (by decide +kernel) ⟨Nat.le_of_ble_eq_true rfl, Nat.le_of_ble_eq_true rfl⟩) (hv_preV (ci := 2) hK hT.1 (cs_ks hS hi) (by decide) rfl rfl) rfl rfl hl.1 rfl (lv_room (Nat.le_of_ble_eq_true rfl)) dX3_yieldTo_28 ⟨Nat.le_of_ble_eq_true rfl, Nat.le_of_ble_eq_true rfl⟩) hT (fun r4 v2 H locs hp3 hT => ?_)
    rw [hp3] at hT
    refine lv_if_ne (tgt := 47) hx hb dX3_yieldTo_31 (by decide) (fun c31 => ?_) (fun c31 => ?_)
    · skip
      exact hret _ v _ _ _ _ _ dX3_yieldTo_47 hT ⟨_, hI⟩ (by decide) (by decide)
    · skip
      refine lv_aload_n hx hb dX3_yieldTo_34 rfl (lv_at hl 1 rfl) ?_
      refine hv_geti (ci := 2) (C := RX2) (T := TX2) (N := 10) hx hb hts (tw_cs in_X2) hown hK hT (cs_ks hS hi) (by decide) rfl 6 (by decide) (hts _ (tw_c tw_85)) rfl dX3_yieldTo_35 ?_
      refine lv_topi (fun g5 eg5 => ?_)
      refine lv_iconst (v := 1) hx hb dX3_yieldTo_38 (by decide) ?_
      refine lv_icmp_eq (tgt := 47) hx hb dX3_yieldTo_39 (by decide) (fun c39 => ?_) (fun c39 => ?_)
      · skip
        exact hret _ v _ _ _ _ _ dX3_yieldTo_47 hT ⟨_, hI⟩ (by decide) (by decide)
      · skip
        refine lv_iload hx hb dX3_yieldTo_42 (lv_at hl 0 rfl) ?_
        refine lv_if_eq (tgt := 48) hx hb dX3_yieldTo_44 (by decide) (fun c44 => ?_) (fun c44 => ?_)
        · skip
          refine lv_aload_n hx hb dX3_yieldTo_48 rfl (lv_at hl 1 rfl) ?_
          refine lv_iconst (v := 0) hx hb dX3_yieldTo_49 (by decide) ?_
          refine hv_puti (ci := 2) (C := RX2) (T := TX2) (N := 10) hx hb hts (tw_cs in_X2) tyX2 tyX2_ok nmX2 hown hK hT (cs_ks hS hi) (by decide) rfl 6 (by decide) (hts _ (tw_c tw_85)) rfl rfl (x := 0) rfl rfl dX3_yieldTo_50 (fun H locs hT => ?_)
          have hI := ci_put (f := 206) (a := (fa (16 + i))) (x := 0) rfl hI
          have hS := hI.1
          refine lv_aload_n hx hb dX3_yieldTo_53 rfl (lv_at hl 2 rfl) ?_
          refine lv_aload_n hx hb dX3_yieldTo_54 rfl (lv_at hl 1 rfl) ?_
          refine lv_aload_n hx hb dX3_yieldTo_55 rfl (lv_at hl 2 rfl) ?_
          refine hv_geti (ci := 3) (C := RX3) (T := TX3) (N := 12) hx hb hts (tw_cs in_X3) hown hK hT (cs_kX hS) (by decide) rfl 7 (by decide) (hts _ (tw_c tw_54)) rfl dX3_yieldTo_56 ?_
          refine lv_topi (fun g6 eg6 => ?_)
          obtain ⟨q7, h5q7, h100q7, hq7⟩ := hI.2.1.2.2.2.1
          have eg6 : g6 = (nI q7) := by rw [eg6]; exact hq7
          subst eg6
          refine lv_iload_n hx hb dX3_yieldTo_59 rfl (lv_at hl 3 rfl) ?_
          refine lv_iadd hx hb dX3_yieldTo_60 ?_
          refine hv_as (x := ((nI q7) + (nI i))) (y := (nI (q7 + i))) (nI_add _ _) ?_
          refine hv_callv (va_runV (As := [.ref (fa (16 + i)), .int (nI (q7 + i))]) (rest := []) ⟨hx, hb, hml, hown, hts⟩ (c_setTimer l D tc hI hi (q := (q7 + i)) (by have h8 := cs_lt8 hS hi; omega)) (cwV 2 hts (tw_V tw_167 tw_168 tw_489 tw_1 tw_169) rfl rfl rfl (by decide +kernel) ⟨Nat.le_of_ble_eq_true rfl, Nat.le_of_ble_eq_true rfl⟩) (hv_preV (ci := 3) hK hT.1 (cs_kX hS) (by decide) rfl rfl) rfl rfl hl.1 rfl (lv_room (Nat.le_of_ble_eq_true rfl)) dX3_yieldTo_61 ⟨Nat.le_of_ble_eq_true rfl, Nat.le_of_ble_eq_true rfl⟩) hT (fun v8 H locs hp9 hT => ?_)
          have hI := hp9
          have hS := hI.1
          exact hret _ v8 _ _ _ _ _ dX3_yieldTo_64 hT ⟨_, hI⟩ (by decide) (by decide)
        · skip
          exact hret _ v _ _ _ _ _ dX3_yieldTo_47 hT ⟨_, hI⟩ (by decide) (by decide)
  · skip
    refine lv_iload_n hx hb dX3_yieldTo_15 rfl (lv_at hl 3 rfl) ?_
    refine lv_iload_n hx hb dX3_yieldTo_16 rfl (lv_at hl 2 rfl) ?_
    refine lv_icmp_le (tgt := 24) hx hb dX3_yieldTo_17 (by decide) (fun c17 => ?_) (fun c17 => ?_)
    · skip
      refine lv_iconst (v := 0) hx hb dX3_yieldTo_24 (by decide) ?_
      refine lv_istore (lv' := [(4, _), (3, _), (0, _), (1, _), (2, _)]) hx hb dX3_yieldTo_25 hl (by decide) rfl (fun ls hl => ?_)
      refine lv_aload_n hx hb dX3_yieldTo_27 rfl (lv_at hl 1 rfl) ?_
      refine hv_calli (va_runV (As := []) (rest := []) ⟨hx, hb, hml, hown, hts⟩ (c_isDecided l D tc hS hi) (cwV 0 hts (tw_V tw_127 tw_128 tw_129 tw_4 tw_130) rfl rfl rfl (by decide +kernel) ⟨Nat.le_of_ble_eq_true rfl, Nat.le_of_ble_eq_true rfl⟩) (hv_preV (ci := 2) hK hT.1 (cs_ks hS hi) (by decide) rfl rfl) rfl rfl hl.1 rfl (lv_room (Nat.le_of_ble_eq_true rfl)) dX3_yieldTo_28 ⟨Nat.le_of_ble_eq_true rfl, Nat.le_of_ble_eq_true rfl⟩) hT (fun r12 v10 H locs hp11 hT => ?_)
      rw [hp11] at hT
      refine lv_if_ne (tgt := 47) hx hb dX3_yieldTo_31 (by decide) (fun c31 => ?_) (fun c31 => ?_)
      · skip
        exact hret _ v _ _ _ _ _ dX3_yieldTo_47 hT ⟨_, hI⟩ (by decide) (by decide)
      · skip
        refine lv_aload_n hx hb dX3_yieldTo_34 rfl (lv_at hl 1 rfl) ?_
        refine hv_geti (ci := 2) (C := RX2) (T := TX2) (N := 10) hx hb hts (tw_cs in_X2) hown hK hT (cs_ks hS hi) (by decide) rfl 6 (by decide) (hts _ (tw_c tw_85)) rfl dX3_yieldTo_35 ?_
        refine lv_topi (fun g13 eg13 => ?_)
        refine lv_iconst (v := 1) hx hb dX3_yieldTo_38 (by decide) ?_
        refine lv_icmp_eq (tgt := 47) hx hb dX3_yieldTo_39 (by decide) (fun c39 => ?_) (fun c39 => ?_)
        · skip
          exact hret _ v _ _ _ _ _ dX3_yieldTo_47 hT ⟨_, hI⟩ (by decide) (by decide)
        · skip
          refine lv_iload hx hb dX3_yieldTo_42 (lv_at hl 0 rfl) ?_
          refine lv_if_eq (tgt := 48) hx hb dX3_yieldTo_44 (by decide) (fun c44 => ?_) (fun c44 => ?_)
          · skip
            refine lv_aload_n hx hb dX3_yieldTo_48 rfl (lv_at hl 1 rfl) ?_
            refine lv_iconst (v := 0) hx hb dX3_yieldTo_49 (by decide) ?_
            refine hv_puti (ci := 2) (C := RX2) (T := TX2) (N := 10) hx hb hts (tw_cs in_X2) tyX2 tyX2_ok nmX2 hown hK hT (cs_ks hS hi) (by decide) rfl 6 (by decide) (hts _ (tw_c tw_85)) rfl rfl (x := 0) rfl rfl dX3_yieldTo_50 (fun H locs hT => ?_)
            have hI := ci_put (f := 206) (a := (fa (16 + i))) (x := 0) rfl hI
            have hS := hI.1
            refine lv_aload_n hx hb dX3_yieldTo_53 rfl (lv_at hl 2 rfl) ?_
            refine lv_aload_n hx hb dX3_yieldTo_54 rfl (lv_at hl 1 rfl) ?_
            refine lv_aload_n hx hb dX3_yieldTo_55 rfl (lv_at hl 2 rfl) ?_
            refine hv_geti (ci := 3) (C := RX3) (T := TX3) (N := 12) hx hb hts (tw_cs in_X3) hown hK hT (cs_kX hS) (by decide) rfl 7 (by decide) (hts _ (tw_c tw_54)) rfl dX3_yieldTo_56 ?_
            refine lv_topi (fun g14 eg14 => ?_)
            obtain ⟨q15, h5q15, h100q15, hq15⟩ := hI.2.1.2.2.2.1
            have eg14 : g14 = (nI q15) := by rw [eg14]; exact hq15
            subst eg14
            refine lv_iload_n hx hb dX3_yieldTo_59 rfl (lv_at hl 3 rfl) ?_
            refine lv_iadd hx hb dX3_yieldTo_60 ?_
            refine hv_as (x := ((nI q15) + (nI i))) (y := (nI (q15 + i))) (nI_add _ _) ?_
            refine hv_callv (va_runV (As := [.ref (fa (16 + i)), .int (nI (q15 + i))]) (rest := []) ⟨hx, hb, hml, hown, hts⟩ (c_setTimer l D tc hI hi (q := (q15 + i)) (by have h8 := cs_lt8 hS hi; omega)) (cwV 2 hts (tw_V tw_167 tw_168 tw_489 tw_1 tw_169) rfl rfl rfl (by decide +kernel) ⟨Nat.le_of_ble_eq_true rfl, Nat.le_of_ble_eq_true rfl⟩) (hv_preV (ci := 3) hK hT.1 (cs_kX hS) (by decide) rfl rfl) rfl rfl hl.1 rfl (lv_room (Nat.le_of_ble_eq_true rfl)) dX3_yieldTo_61 ⟨Nat.le_of_ble_eq_true rfl, Nat.le_of_ble_eq_true rfl⟩) hT (fun v16 H locs hp17 hT => ?_)
            have hI := hp17
            have hS := hI.1
            exact hret _ v16 _ _ _ _ _ dX3_yieldTo_64 hT ⟨_, hI⟩ (by decide) (by decide)
          · skip
            exact hret _ v _ _ _ _ _ dX3_yieldTo_47 hT ⟨_, hI⟩ (by decide) (by decide)
    · skip
      refine lv_iconst (v := 1) hx hb dX3_yieldTo_20 (by decide) ?_
      refine lv_goto (tgt := 25) hx hb dX3_yieldTo_21 (by decide) ?_
      refine lv_istore (lv' := [(4, _), (3, _), (0, _), (1, _), (2, _)]) hx hb dX3_yieldTo_25 hl (by decide) rfl (fun ls hl => ?_)
      refine lv_aload_n hx hb dX3_yieldTo_27 rfl (lv_at hl 1 rfl) ?_
      refine hv_calli (va_runV (As := []) (rest := []) ⟨hx, hb, hml, hown, hts⟩ (c_isDecided l D tc hS hi) (cwV 0 hts (tw_V tw_127 tw_128 tw_129 tw_4 tw_130) rfl rfl rfl (by decide +kernel) ⟨Nat.le_of_ble_eq_true rfl, Nat.le_of_ble_eq_true rfl⟩) (hv_preV (ci := 2) hK hT.1 (cs_ks hS hi) (by decide) rfl rfl) rfl rfl hl.1 rfl (lv_room (Nat.le_of_ble_eq_true rfl)) dX3_yieldTo_28 ⟨Nat.le_of_ble_eq_true rfl, Nat.le_of_ble_eq_true rfl⟩) hT (fun r20 v18 H locs hp19 hT => ?_)
      rw [hp19] at hT
      refine lv_if_ne (tgt := 47) hx hb dX3_yieldTo_31 (by decide) (fun c31 => ?_) (fun c31 => ?_)
      · skip
        exact hret _ v _ _ _ _ _ dX3_yieldTo_47 hT ⟨_, hI⟩ (by decide) (by decide)
      · skip
        refine lv_aload_n hx hb dX3_yieldTo_34 rfl (lv_at hl 1 rfl) ?_
        refine hv_geti (ci := 2) (C := RX2) (T := TX2) (N := 10) hx hb hts (tw_cs in_X2) hown hK hT (cs_ks hS hi) (by decide) rfl 6 (by decide) (hts _ (tw_c tw_85)) rfl dX3_yieldTo_35 ?_
        refine lv_topi (fun g21 eg21 => ?_)
        refine lv_iconst (v := 1) hx hb dX3_yieldTo_38 (by decide) ?_
        refine lv_icmp_eq (tgt := 47) hx hb dX3_yieldTo_39 (by decide) (fun c39 => ?_) (fun c39 => ?_)
        · skip
          exact hret _ v _ _ _ _ _ dX3_yieldTo_47 hT ⟨_, hI⟩ (by decide) (by decide)
        · skip
          refine lv_iload hx hb dX3_yieldTo_42 (lv_at hl 0 rfl) ?_
          refine lv_if_eq (tgt := 48) hx hb dX3_yieldTo_44 (by decide) (fun c44 => ?_) (fun c44 => ?_)
          · skip
            refine lv_aload_n hx hb dX3_yieldTo_48 rfl (lv_at hl 1 rfl) ?_
            refine lv_iconst (v := 0) hx hb dX3_yieldTo_49 (by decide) ?_
            refine hv_puti (ci := 2) (C := RX2) (T := TX2) (N := 10) hx hb hts (tw_cs in_X2) tyX2 tyX2_ok nmX2 hown hK hT (cs_ks hS hi) (by decide) rfl 6 (by decide) (hts _ (tw_c tw_85)) rfl rfl (x := 0) rfl rfl dX3_yieldTo_50 (fun H locs hT => ?_)
            have hI := ci_put (f := 206) (a := (fa (16 + i))) (x := 0) rfl hI
            have hS := hI.1
            refine lv_aload_n hx hb dX3_yieldTo_53 rfl (lv_at hl 2 rfl) ?_
            refine lv_aload_n hx hb dX3_yieldTo_54 rfl (lv_at hl 1 rfl) ?_
            refine lv_aload_n hx hb dX3_yieldTo_55 rfl (lv_at hl 2 rfl) ?_
            refine hv_geti (ci := 3) (C := RX3) (T := TX3) (N := 12) hx hb hts (tw_cs in_X3) hown hK hT (cs_kX hS) (by decide) rfl 7 (by decide) (hts _ (tw_c tw_54)) rfl dX3_yieldTo_56 ?_
            refine lv_topi (fun g22 eg22 => ?_)
            obtain ⟨q23, h5q23, h100q23, hq23⟩ := hI.2.1.2.2.2.1
            have eg22 : g22 = (nI q23) := by rw [eg22]; exact hq23
            subst eg22
            refine lv_iload_n hx hb dX3_yieldTo_59 rfl (lv_at hl 3 rfl) ?_
            refine lv_iadd hx hb dX3_yieldTo_60 ?_
            refine hv_as (x := ((nI q23) + (nI i))) (y := (nI (q23 + i))) (nI_add _ _) ?_
            refine hv_callv (va_runV (As := [.ref (fa (16 + i)), .int (nI (q23 + i))]) (rest := []) ⟨hx, hb, hml, hown, hts⟩ (c_setTimer l D tc hI hi (q := (q23 + i)) (by have h8 := cs_lt8 hS hi; omega)) (cwV 2 hts (tw_V tw_167 tw_168 tw_489 tw_1 tw_169) rfl rfl rfl (by decide +kernel) ⟨Nat.le_of_ble_eq_true rfl, Nat.le_of_ble_eq_true rfl⟩) (hv_preV (ci := 3) hK hT.1 (cs_kX hS) (by decide) rfl rfl) rfl rfl hl.1 rfl (lv_room (Nat.le_of_ble_eq_true rfl)) dX3_yieldTo_61 ⟨Nat.le_of_ble_eq_true rfl, Nat.le_of_ble_eq_true rfl⟩) hT (fun v24 H locs hp25 hT => ?_)
            have hI := hp25
            have hS := hI.1
            exact hret _ v24 _ _ _ _ _ dX3_yieldTo_64 hT ⟨_, hI⟩ (by decide) (by decide)
          · skip
            exact hret _ v _ _ _ _ _ dX3_yieldTo_47 hT ⟨_, hI⟩ (by decide) (by decide)

set_option maxHeartbeats 4000000 in
set_option maxRecDepth 100000 in
theorem c_onAskVote (l : Launch) (D : va_G) (tc : Nat → ClassId) {fa : Nat → Nat} {n : Nat} {w u : Nat → Nat} {b : Nat} {d : Nat → Nat → Nat} {g : Nat × Nat} {k : Nat} {hd : List Nat} {v : hv_V} (hI : ci_I fa n w u b d g k hd v) {i : Nat} (hi : i < n) {j : Nat} (hj : j < n) (hh : hd.length ≤ 1) : Met l yX3_onAskVote (Cond.code yX3_onAskVote cX3_onAskVote 4 none :: lw_B) ({ frames := 3, cells := 8, slots := 64, locals := 67 }) (va_Pc [.ref (fa 0), .int (nI i), .int (nI j)] (hv_Pre D tc v)) (va_Qv (fun (v1 : hv_V) => ∃ k1, ci_I fa n w u b d g k1 hd v1) (hv_Post D tc (hv_A v)) (hv_A v)) (8) (64) (hv_A v) := by
  refine hv_metv l (by decide) (Nat.le_of_ble_eq_true rfl) ?_
  intro p e s m args below meth c Q X hret hK hz H locs ls hT hl
  obtain ⟨hx, hb, hml, hts, hown, hin0⟩ := X
  have hown : s.vm.findClass "CommitSites" = some m.cls := hown
  have hl : lv_has ls 4 [(0, .ref (fa 0)), (1, .int (nI i)), (2, .int (nI j))] := hl
  have hS := hI.1
  refine lv_aload_n hx hb dX3_onAskVote_0 rfl (lv_at hl 0 rfl) ?_
  refine hv_gets (ci := 3) (C := RX3) (T := TX3) (N := 12) hx hb hts (tw_cs in_X3) hown hK hT (cs_kX hS) (by decide) rfl 0 (by decide) (hts _ (tw_c tw_47)) rfl (x := (fa 1)) (cs_pS hS) dX3_onAskVote_1 ?_
  refine lv_iload_n hx hb dX3_onAskVote_4 rfl (lv_at hl 1 rfl) ?_
  refine hv_alds (t := 0) hx hb hK hT (cs_kS hS) rfl rfl (cs_in8 (cs_lt8 hS hi)) (x := (fa (16 + i))) (cs_qS hS hi) dX3_onAskVote_5 ?_
  refine lv_astore_n (lv' := [(3, _), (0, _), (1, _), (2, _)]) hx hb dX3_onAskVote_6 rfl hl (by decide) rfl (fun ls hl => ?_)
  refine lv_aload_n hx hb dX3_onAskVote_7 rfl (lv_at hl 0 rfl) ?_
  refine hv_geti (ci := 2) (C := RX2) (T := TX2) (N := 10) hx hb hts (tw_cs in_X2) hown hK hT (cs_ks hS hi) (by decide) rfl 4 (by decide) (hts _ (tw_c tw_81)) rfl dX3_onAskVote_8 ?_
  refine lv_topi (fun g1 eg1 => ?_)
  refine lv_if_eq (tgt := 15) hx hb dX3_onAskVote_11 (by decide) (fun c11 => ?_) (fun c11 => ?_)
  · skip
    refine lv_aload_n hx hb dX3_onAskVote_15 rfl (lv_at hl 1 rfl) ?_
    refine hv_geti (ci := 3) (C := RX3) (T := TX3) (N := 12) hx hb hts (tw_cs in_X3) hown hK hT (cs_kX hS) (by decide) rfl 9 (by decide) (hts _ (tw_c tw_56)) rfl dX3_onAskVote_16 ?_
    refine lv_topi (fun g2 eg2 => ?_)
    refine lv_iload_n hx hb dX3_onAskVote_19 rfl (lv_at hl 2 rfl) ?_
    refine hv_calli (va_runS (As := [.int g2, .int (nI i)]) (rest := []) ⟨hx, hb, hml, hown, hts⟩ (c_hasBit l D tc g2 (nI i)) (va_cwS 2 hts (tw_S tw_110 tw_111 tw_1 tw_112) rfl rfl rfl (by decide +kernel) ⟨Nat.le_of_ble_eq_true rfl, Nat.le_of_ble_eq_true rfl⟩) (hv_preS hK hT.1) rfl rfl hl.1 rfl (lv_room (Nat.le_of_ble_eq_true rfl)) dX3_onAskVote_20 ⟨by show 0 + 0 ≤ 8; omega, by show 0 + 0 ≤ 64; omega⟩) hT (fun r5 v3 H locs hp4 hT => ?_)
    obtain ⟨evhp4, qhp4⟩ := hp4
    rw [evhp4] at hT
    refine lv_if_eq (tgt := 60) hx hb dX3_onAskVote_23 (by decide) (fun c23 => ?_) (fun c23 => ?_)
    · skip
      refine lv_aload_n hx hb dX3_onAskVote_60 rfl (lv_at hl 1 rfl) ?_
      refine lv_aload_n hx hb dX3_onAskVote_61 rfl (lv_at hl 0 rfl) ?_
      refine lv_iconst (v := 5) hx hb dX3_onAskVote_62 (by decide) ?_
      refine hv_callv (va_runV (As := [.ref (fa (16 + i)), .int 5]) (rest := []) ⟨hx, hb, hml, hown, hts⟩ (c_become l D tc hI hi 5) (cwV 2 hts (tw_V tw_124 tw_125 tw_486 tw_1 tw_126) rfl rfl rfl (by decide +kernel) ⟨Nat.le_of_ble_eq_true rfl, Nat.le_of_ble_eq_true rfl⟩) (hv_preV (ci := 3) hK hT.1 (cs_kX hS) (by decide) rfl rfl) rfl rfl hl.1 rfl (lv_room (Nat.le_of_ble_eq_true rfl)) dX3_onAskVote_63 ⟨by show 0 + 0 + 0 ≤ 8; omega, by show 0 + 0 + 0 ≤ 64; omega⟩) hT (fun v6 H locs hp7 hT => ?_)
      have hI := hp7
      have hS := hI.1
      refine lv_aload_n hx hb dX3_onAskVote_66 rfl (lv_at hl 1 rfl) ?_
      refine hv_gets (ci := 3) (C := RX3) (T := TX3) (N := 12) hx hb hts (tw_cs in_X3) hown hK hT (cs_kX hS) (by decide) rfl 1 (by decide) (hts _ (tw_c tw_48)) rfl (x := (fa 2)) (cs_pN hS) dX3_onAskVote_67 ?_
      refine lv_iload_n hx hb dX3_onAskVote_70 rfl (lv_at hl 2 rfl) ?_
      refine lv_iconst (v := 1) hx hb dX3_onAskVote_71 (by decide) ?_
      refine lv_iload_n hx hb dX3_onAskVote_72 rfl (lv_at hl 3 rfl) ?_
      refine lv_ishl hx hb dX3_onAskVote_73 ?_
      refine lv_iconst (v := 3) hx hb dX3_onAskVote_74 (by decide) ?_
      refine lv_iconst (v := 0) hx hb dX3_onAskVote_75 (by decide) ?_
      refine lv_iconst (v := 0) hx hb dX3_onAskVote_76 (by decide) ?_
      refine hv_callv (va_runV (As := [.int (nI i), .int (1 <<< ((nI j) &&& 31)), .int 3, .int 0, .int 0]) (rest := []) ⟨hx, hb, hml, hown, hts⟩ (c_send l D tc hI hi (1 <<< ((nI j) &&& 31)) 3 0 0 (cs_bit (cs_lt8 hS hj) hj) hh) (cwV 5 hts (tw_V tw_137 tw_138 tw_139 tw_2 tw_140) rfl rfl rfl (by decide +kernel) ⟨Nat.le_of_ble_eq_true rfl, Nat.le_of_ble_eq_true rfl⟩) (hv_preV (ci := 1) hK hT.1 (cs_kN hS) (by decide) rfl rfl) rfl rfl hl.1 rfl (lv_room (Nat.le_of_ble_eq_true rfl)) dX3_onAskVote_77 ⟨by show 0 + 0 + 0 + 8 ≤ 8; omega, by show 0 + 0 + 0 + 64 ≤ 64; omega⟩) hT (fun v8 H locs hp9 hT => ?_)
      obtain ⟨_, hI⟩ := hp9
      have hS := hI.1
      exact hret _ v8 _ _ _ _ _ dX3_onAskVote_80 hT ⟨_, hI⟩ (by show 0 + 0 + 0 + 8 ≤ 8; omega) (by show 0 + 0 + 0 + 64 ≤ 64; omega)
    · skip
      refine lv_aload_n hx hb dX3_onAskVote_26 rfl (lv_at hl 1 rfl) ?_
      refine lv_aload_n hx hb dX3_onAskVote_27 rfl (lv_at hl 0 rfl) ?_
      refine lv_iconst (v := 1) hx hb dX3_onAskVote_28 (by decide) ?_
      refine hv_callv (va_runV (As := [.ref (fa (16 + i)), .int 1]) (rest := []) ⟨hx, hb, hml, hown, hts⟩ (c_become l D tc hI hi 1) (cwV 2 hts (tw_V tw_124 tw_125 tw_486 tw_1 tw_126) rfl rfl rfl (by decide +kernel) ⟨Nat.le_of_ble_eq_true rfl, Nat.le_of_ble_eq_true rfl⟩) (hv_preV (ci := 3) hK hT.1 (cs_kX hS) (by decide) rfl rfl) rfl rfl hl.1 rfl (lv_room (Nat.le_of_ble_eq_true rfl)) dX3_onAskVote_29 ⟨by show 0 + 0 + 0 ≤ 8; omega, by show 0 + 0 + 0 ≤ 64; omega⟩) hT (fun v10 H locs hp11 hT => ?_)
      have hI := hp11
      have hS := hI.1
      refine lv_aload_n hx hb dX3_onAskVote_32 rfl (lv_at hl 1 rfl) ?_
      refine hv_gets (ci := 3) (C := RX3) (T := TX3) (N := 12) hx hb hts (tw_cs in_X3) hown hK hT (cs_kX hS) (by decide) rfl 1 (by decide) (hts _ (tw_c tw_48)) rfl (x := (fa 2)) (cs_pN hS) dX3_onAskVote_33 ?_
      refine lv_iload_n hx hb dX3_onAskVote_36 rfl (lv_at hl 2 rfl) ?_
      refine lv_iconst (v := 1) hx hb dX3_onAskVote_37 (by decide) ?_
      refine lv_iload_n hx hb dX3_onAskVote_38 rfl (lv_at hl 3 rfl) ?_
      refine lv_ishl hx hb dX3_onAskVote_39 ?_
      refine lv_iconst (v := 2) hx hb dX3_onAskVote_40 (by decide) ?_
      refine lv_iconst (v := 0) hx hb dX3_onAskVote_41 (by decide) ?_
      refine lv_iconst (v := 0) hx hb dX3_onAskVote_42 (by decide) ?_
      refine hv_callv (va_runV (As := [.int (nI i), .int (1 <<< ((nI j) &&& 31)), .int 2, .int 0, .int 0]) (rest := []) ⟨hx, hb, hml, hown, hts⟩ (c_send l D tc hI hi (1 <<< ((nI j) &&& 31)) 2 0 0 (cs_bit (cs_lt8 hS hj) hj) hh) (cwV 5 hts (tw_V tw_137 tw_138 tw_139 tw_2 tw_140) rfl rfl rfl (by decide +kernel) ⟨Nat.le_of_ble_eq_true rfl, Nat.le_of_ble_eq_true rfl⟩) (hv_preV (ci := 1) hK hT.1 (cs_kN hS) (by decide) rfl rfl) rfl rfl hl.1 rfl (lv_room (Nat.le_of_ble_eq_true rfl)) dX3_onAskVote_43 ⟨by show 0 + 0 + 0 + 8 ≤ 8; omega, by show 0 + 0 + 0 + 64 ≤ 64; omega⟩) hT (fun v12 H locs hp13 hT => ?_)
      obtain ⟨_, hI⟩ := hp13
      have hS := hI.1
      refine lv_aload_n hx hb dX3_onAskVote_46 rfl (lv_at hl 1 rfl) ?_
      refine lv_aload_n hx hb dX3_onAskVote_47 rfl (lv_at hl 0 rfl) ?_
      refine lv_aload_n hx hb dX3_onAskVote_48 rfl (lv_at hl 1 rfl) ?_
      refine hv_geti (ci := 3) (C := RX3) (T := TX3) (N := 12) hx hb hts (tw_cs in_X3) hown hK hT (cs_kX hS) (by decide) rfl 7 (by decide) (hts _ (tw_c tw_54)) rfl dX3_onAskVote_49 ?_
      refine lv_topi (fun g14 eg14 => ?_)
      obtain ⟨q15, h5q15, h100q15, hq15⟩ := hI.2.1.2.2.2.1
      have eg14 : g14 = (nI q15) := by rw [eg14]; exact hq15
      subst eg14
      refine lv_iload_n hx hb dX3_onAskVote_52 rfl (lv_at hl 2 rfl) ?_
      refine lv_iadd hx hb dX3_onAskVote_53 ?_
      refine hv_as (x := ((nI q15) + (nI i))) (y := (nI (q15 + i))) (nI_add _ _) ?_
      refine hv_callv (va_runV (As := [.ref (fa (16 + i)), .int (nI (q15 + i))]) (rest := []) ⟨hx, hb, hml, hown, hts⟩ (c_setTimer l D tc hI hi (q := (q15 + i)) (by have h8 := cs_lt8 hS hi; omega)) (cwV 2 hts (tw_V tw_167 tw_168 tw_489 tw_1 tw_169) rfl rfl rfl (by decide +kernel) ⟨Nat.le_of_ble_eq_true rfl, Nat.le_of_ble_eq_true rfl⟩) (hv_preV (ci := 3) hK hT.1 (cs_kX hS) (by decide) rfl rfl) rfl rfl hl.1 rfl (lv_room (Nat.le_of_ble_eq_true rfl)) dX3_onAskVote_54 ⟨by show 0 + 0 + 0 + 8 + 0 ≤ 8; omega, by show 0 + 0 + 0 + 64 + 0 ≤ 64; omega⟩) hT (fun v16 H locs hp17 hT => ?_)
      have hI := hp17
      have hS := hI.1
      refine lv_goto (tgt := 80) hx hb dX3_onAskVote_57 (by decide) ?_
      exact hret _ v16 _ _ _ _ _ dX3_onAskVote_80 hT ⟨_, hI⟩ (by show 0 + 0 + 0 + 8 + 0 ≤ 8; omega) (by show 0 + 0 + 0 + 64 + 0 ≤ 64; omega)
  · skip
    exact hret _ v _ _ _ _ _ dX3_onAskVote_14 hT ⟨_, hI⟩ (by show 0 ≤ 8; omega) (by show 0 ≤ 64; omega)

set_option maxHeartbeats 4000000 in
set_option maxRecDepth 100000 in
theorem c_onYes (l : Launch) (D : va_G) (tc : Nat → ClassId) {fa : Nat → Nat} {n : Nat} {w u : Nat → Nat} {b : Nat} {d : Nat → Nat → Nat} {g : Nat × Nat} {k : Nat} {hd : List Nat} {v : hv_V} (hI : ci_I fa n w u b d g k hd v) {i : Nat} (hi : i < n) {j : Nat} (hj : j < n) (hh : hd.length ≤ 1) : Met l yX3_onYes (Cond.code yX3_onYes cX3_onYes 4 none :: lw_B) ({ frames := 5, cells := 16, slots := 128, locals := 114 }) (va_Pc [.ref (fa 0), .int (nI i), .int (nI j)] (hv_Pre D tc v)) (va_Qv (fun (v1 : hv_V) => ∃ k1, ci_I fa n w u b d g k1 hd v1) (hv_Post D tc (hv_A v)) (hv_A v)) (16) (128) (hv_A v) := by
  refine hv_metv l (by decide) (Nat.le_of_ble_eq_true rfl) ?_
  intro p e s m args below meth c Q X hret hK hz H locs ls hT hl
  obtain ⟨hx, hb, hml, hts, hown, hin0⟩ := X
  have hown : s.vm.findClass "CommitSites" = some m.cls := hown
  have hl : lv_has ls 4 [(0, .ref (fa 0)), (1, .int (nI i)), (2, .int (nI j))] := hl
  have hS := hI.1
  refine lv_aload_n hx hb dX3_onYes_0 rfl (lv_at hl 0 rfl) ?_
  refine hv_gets (ci := 3) (C := RX3) (T := TX3) (N := 12) hx hb hts (tw_cs in_X3) hown hK hT (cs_kX hS) (by decide) rfl 0 (by decide) (hts _ (tw_c tw_47)) rfl (x := (fa 1)) (cs_pS hS) dX3_onYes_1 ?_
  refine lv_iload_n hx hb dX3_onYes_4 rfl (lv_at hl 1 rfl) ?_
  refine hv_alds (t := 0) hx hb hK hT (cs_kS hS) rfl rfl (cs_in8 (cs_lt8 hS hi)) (x := (fa (16 + i))) (cs_qS hS hi) dX3_onYes_5 ?_
  refine lv_astore_n (lv' := [(3, _), (0, _), (1, _), (2, _)]) hx hb dX3_onYes_6 rfl hl (by decide) rfl (fun ls hl => ?_)
  refine lv_aload_n hx hb dX3_onYes_7 rfl (lv_at hl 0 rfl) ?_
  refine hv_geti (ci := 2) (C := RX2) (T := TX2) (N := 10) hx hb hts (tw_cs in_X2) hown hK hT (cs_ks hS hi) (by decide) rfl 6 (by decide) (hts _ (tw_c tw_85)) rfl dX3_onYes_8 ?_
  refine lv_topi (fun g1 eg1 => ?_)
  refine lv_iconst (v := 1) hx hb dX3_onYes_11 (by decide) ?_
  refine lv_icmp_eq (tgt := 16) hx hb dX3_onYes_12 (by decide) (fun c12 => ?_) (fun c12 => ?_)
  · skip
    refine lv_aload_n hx hb dX3_onYes_16 rfl (lv_at hl 0 rfl) ?_
    refine lv_dup hx hb dX3_onYes_17 rfl ?_
    refine hv_geti (ci := 2) (C := RX2) (T := TX2) (N := 10) hx hb hts (tw_cs in_X2) hown hK hT (cs_ks hS hi) (by decide) rfl 2 (by decide) (hts _ (tw_c tw_77)) rfl dX3_onYes_18 ?_
    refine lv_topi (fun g2 eg2 => ?_)
    refine lv_iconst (v := 1) hx hb dX3_onYes_21 (by decide) ?_
    refine lv_iload_n hx hb dX3_onYes_22 rfl (lv_at hl 3 rfl) ?_
    refine lv_ishl hx hb dX3_onYes_23 ?_
    refine lv_ior hx hb dX3_onYes_24 ?_
    refine hv_puti (ci := 2) (C := RX2) (T := TX2) (N := 10) hx hb hts (tw_cs in_X2) tyX2 tyX2_ok nmX2 hown hK hT (cs_ks hS hi) (by decide) rfl 2 (by decide) (hts _ (tw_c tw_77)) rfl rfl (x := (g2 ||| (1 <<< ((nI j) &&& 31)))) rfl rfl dX3_onYes_25 (fun H locs hT => ?_)
    have hI := ci_put (f := 202) (a := (fa (16 + i))) (x := (g2 ||| (1 <<< ((nI j) &&& 31)))) rfl hI
    have hS := hI.1
    refine lv_aload_n hx hb dX3_onYes_28 rfl (lv_at hl 0 rfl) ?_
    refine hv_geti (ci := 2) (C := RX2) (T := TX2) (N := 10) hx hb hts (tw_cs in_X2) hown hK hT (cs_ks hS hi) (by decide) rfl 2 (by decide) (hts _ (tw_c tw_77)) rfl dX3_onYes_29 ?_
    refine lv_topi (fun g3 eg3 => ?_)
    refine lv_aload_n hx hb dX3_onYes_32 rfl (lv_at hl 1 rfl) ?_
    refine hv_calli (va_runV (As := []) (rest := [.int g3]) ⟨hx, hb, hml, hown, hts⟩ (c_everyone l D tc hS hI.2.1.1) (cwV 0 hts (tw_V tw_134 tw_135 tw_488 tw_1 tw_136) rfl rfl rfl (by decide +kernel) ⟨Nat.le_of_ble_eq_true rfl, Nat.le_of_ble_eq_true rfl⟩) (hv_preV (ci := 3) hK hT.1 (cs_kX hS) (by decide) rfl rfl) rfl rfl hl.1 rfl (lv_room (Nat.le_of_ble_eq_true rfl)) dX3_onYes_33 ⟨by show 0 + 0 ≤ 16; omega, by show 0 + 0 ≤ 128; omega⟩) hT (fun r6 v4 H locs hp5 hT => ?_)
    obtain ⟨evhp5, qhp5⟩ := hp5
    rw [evhp5] at hT
    refine lv_icmp_ne (tgt := 55) hx hb dX3_onYes_36 (by decide) (fun c36 => ?_) (fun c36 => ?_)
    · skip
      exact hret _ (hv_si v 202 (fa (16 + i)) (g2 ||| (1 <<< ((nI j) &&& 31)))) _ _ _ _ _ dX3_onYes_55 hT ⟨_, hI⟩ (by show 0 + 0 ≤ 16; omega) (by show 0 + 0 ≤ 128; omega)
    · skip
      refine lv_aload_n hx hb dX3_onYes_39 rfl (lv_at hl 0 rfl) ?_
      refine lv_dup hx hb dX3_onYes_40 rfl ?_
      refine hv_geti (ci := 2) (C := RX2) (T := TX2) (N := 10) hx hb hts (tw_cs in_X2) hown hK hT (cs_ks hS hi) (by decide) rfl 7 (by decide) (hts _ (tw_c tw_87)) rfl dX3_onYes_41 ?_
      refine lv_topi (fun g7 eg7 => ?_)
      refine lv_iconst (v := 1) hx hb dX3_onYes_44 (by decide) ?_
      refine lv_iadd hx hb dX3_onYes_45 ?_
      refine hv_puti (ci := 2) (C := RX2) (T := TX2) (N := 10) hx hb hts (tw_cs in_X2) tyX2 tyX2_ok nmX2 hown hK hT (cs_ks hS hi) (by decide) rfl 7 (by decide) (hts _ (tw_c tw_87)) rfl rfl (x := (g7 + 1)) rfl rfl dX3_onYes_46 (fun H locs hT => ?_)
      have hI := ci_put (f := 207) (a := (fa (16 + i))) (x := (g7 + 1)) rfl hI
      have hS := hI.1
      refine lv_aload_n hx hb dX3_onYes_49 rfl (lv_at hl 1 rfl) ?_
      refine lv_iload_n hx hb dX3_onYes_50 rfl (lv_at hl 2 rfl) ?_
      refine lv_iconst (v := 2) hx hb dX3_onYes_51 (by decide) ?_
      refine hv_callv (va_runV (As := [.int (nI i), .int 2]) (rest := []) ⟨hx, hb, hml, hown, hts⟩ (c_lead l D tc hI hi hh 2) (cwV 2 hts (tw_V tw_174 tw_175 tw_490 tw_1 tw_176) rfl rfl rfl (by decide +kernel) ⟨Nat.le_of_ble_eq_true rfl, Nat.le_of_ble_eq_true rfl⟩) (hv_preV (ci := 3) hK hT.1 (cs_kX hS) (by decide) rfl rfl) rfl rfl hl.1 rfl (lv_room (Nat.le_of_ble_eq_true rfl)) dX3_onYes_52 ⟨by show 0 + 0 + 16 ≤ 16; omega, by show 0 + 0 + 128 ≤ 128; omega⟩) hT (fun v8 H locs hp9 hT => ?_)
      obtain ⟨_, hI⟩ := hp9
      have hS := hI.1
      exact hret _ v8 _ _ _ _ _ dX3_onYes_55 hT ⟨_, hI⟩ (by show 0 + 0 + 16 ≤ 16; omega) (by show 0 + 0 + 128 ≤ 128; omega)
  · skip
    exact hret _ v _ _ _ _ _ dX3_onYes_15 hT ⟨_, hI⟩ (by show 0 ≤ 16; omega) (by show 0 ≤ 128; omega)

set_option maxHeartbeats 4000000 in
set_option maxRecDepth 100000 in
theorem c_onNo (l : Launch) (D : va_G) (tc : Nat → ClassId) {fa : Nat → Nat} {n : Nat} {w u : Nat → Nat} {b : Nat} {d : Nat → Nat → Nat} {g : Nat × Nat} {k : Nat} {hd : List Nat} {v : hv_V} (hI : ci_I fa n w u b d g k hd v) {i : Nat} (hi : i < n) (hh : hd.length ≤ 1) : Met l yX3_onNo (Cond.code yX3_onNo cX3_onNo 2 none :: lw_B) ({ frames := 4, cells := 8, slots := 64, locals := 90 }) (va_Pc [.ref (fa 0), .int (nI i)] (hv_Pre D tc v)) (va_Qv (fun (v1 : hv_V) => ∃ k1, ci_I fa n w u b d g k1 hd v1) (hv_Post D tc (hv_A v)) (hv_A v)) (8) (64) (hv_A v) := by
  refine hv_metv l (by decide) (Nat.le_of_ble_eq_true rfl) ?_
  intro p e s m args below meth c Q X hret hK hz H locs ls hT hl
  obtain ⟨hx, hb, hml, hts, hown, hin0⟩ := X
  have hown : s.vm.findClass "CommitSites" = some m.cls := hown
  have hl : lv_has ls 2 [(0, .ref (fa 0)), (1, .int (nI i))] := hl
  have hS := hI.1
  refine lv_aload_n hx hb dX3_onNo_0 rfl (lv_at hl 0 rfl) ?_
  refine hv_gets (ci := 3) (C := RX3) (T := TX3) (N := 12) hx hb hts (tw_cs in_X3) hown hK hT (cs_kX hS) (by decide) rfl 0 (by decide) (hts _ (tw_c tw_47)) rfl (x := (fa 1)) (cs_pS hS) dX3_onNo_1 ?_
  refine lv_iload_n hx hb dX3_onNo_4 rfl (lv_at hl 1 rfl) ?_
  refine hv_alds (t := 0) hx hb hK hT (cs_kS hS) rfl rfl (cs_in8 (cs_lt8 hS hi)) (x := (fa (16 + i))) (cs_qS hS hi) dX3_onNo_5 ?_
  refine hv_geti (ci := 2) (C := RX2) (T := TX2) (N := 10) hx hb hts (tw_cs in_X2) hown hK hT (cs_ks hS hi) (by decide) rfl 6 (by decide) (hts _ (tw_c tw_85)) rfl dX3_onNo_6 ?_
  refine lv_topi (fun g1 eg1 => ?_)
  refine lv_iconst (v := 1) hx hb dX3_onNo_9 (by decide) ?_
  refine lv_icmp_ne (tgt := 19) hx hb dX3_onNo_10 (by decide) (fun c10 => ?_) (fun c10 => ?_)
  · skip
    exact hret _ v _ _ _ _ _ dX3_onNo_19 hT ⟨_, hI⟩ (by show 0 ≤ 8; omega) (by show 0 ≤ 64; omega)
  · skip
    refine lv_aload_n hx hb dX3_onNo_13 rfl (lv_at hl 0 rfl) ?_
    refine lv_iload_n hx hb dX3_onNo_14 rfl (lv_at hl 1 rfl) ?_
    refine lv_iconst (v := 5) hx hb dX3_onNo_15 (by decide) ?_
    refine hv_callv (va_runV (As := [.int (nI i), .int 5]) (rest := []) ⟨hx, hb, hml, hown, hts⟩ (c_decide l D tc hI hi hh 5) (cwV 2 hts (tw_V tw_180 tw_181 tw_492 tw_1 tw_182) rfl rfl rfl (by decide +kernel) ⟨Nat.le_of_ble_eq_true rfl, Nat.le_of_ble_eq_true rfl⟩) (hv_preV (ci := 3) hK hT.1 (cs_kX hS) (by decide) rfl rfl) rfl rfl hl.1 rfl (lv_room (Nat.le_of_ble_eq_true rfl)) dX3_onNo_16 ⟨by show 0 + 8 ≤ 8; omega, by show 0 + 64 ≤ 64; omega⟩) hT (fun v2 H locs hp3 hT => ?_)
    obtain ⟨_, hI⟩ := hp3
    have hS := hI.1
    exact hret _ v2 _ _ _ _ _ dX3_onNo_19 hT ⟨_, hI⟩ (by show 0 + 8 ≤ 8; omega) (by show 0 + 64 ≤ 64; omega)

set_option maxHeartbeats 4000000 in
set_option maxRecDepth 100000 in
theorem c_onAskState (l : Launch) (D : va_G) (tc : Nat → ClassId) {fa : Nat → Nat} {n : Nat} {w u : Nat → Nat} {b : Nat} {d : Nat → Nat → Nat} {g : Nat × Nat} {k : Nat} {hd : List Nat} {v : hv_V} (hI : ci_I fa n w u b d g k hd v) {i : Nat} (hi : i < n) {j : Nat} (hj : j < n) (hh : hd.length ≤ 1) (x : Int32) : Met l yX3_onAskState (Cond.code yX3_onAskState cX3_onAskState 5 none :: lw_B) ({ frames := 3, cells := 8, slots := 64, locals := 67 }) (va_Pc [.ref (fa 0), .int (nI i), .int (nI j), .int x] (hv_Pre D tc v)) (va_Qv (fun (v1 : hv_V) => ∃ k1, ci_I fa n w u b d g k1 hd v1) (hv_Post D tc (hv_A v)) (hv_A v)) (8) (64) (hv_A v) := by
  refine hv_metv l (by decide) (Nat.le_of_ble_eq_true rfl) ?_
  intro p e s m args below meth c Q X hret hK hz H locs ls hT hl
  obtain ⟨hx, hb, hml, hts, hown, hin0⟩ := X
  have hown : s.vm.findClass "CommitSites" = some m.cls := hown
  have hl : lv_has ls 5 [(0, .ref (fa 0)), (1, .int (nI i)), (2, .int (nI j)), (3, .int x)] := hl
  have hS := hI.1
  refine lv_aload_n hx hb dX3_onAskState_0 rfl (lv_at hl 0 rfl) ?_
  refine hv_gets (ci := 3) (C := RX3) (T := TX3) (N := 12) hx hb hts (tw_cs in_X3) hown hK hT (cs_kX hS) (by decide) rfl 0 (by decide) (hts _ (tw_c tw_47)) rfl (x := (fa 1)) (cs_pS hS) dX3_onAskState_1 ?_
  refine lv_iload_n hx hb dX3_onAskState_4 rfl (lv_at hl 1 rfl) ?_
  refine hv_alds (t := 0) hx hb hK hT (cs_kS hS) rfl rfl (cs_in8 (cs_lt8 hS hi)) (x := (fa (16 + i))) (cs_qS hS hi) dX3_onAskState_5 ?_
  refine lv_astore (lv' := [(4, _), (0, _), (1, _), (2, _), (3, _)]) hx hb dX3_onAskState_6 hl (by decide) rfl (fun ls hl => ?_)
  refine lv_aload hx hb dX3_onAskState_8 (lv_at hl 0 rfl) ?_
  refine hv_geti (ci := 2) (C := RX2) (T := TX2) (N := 10) hx hb hts (tw_cs in_X2) hown hK hT (cs_ks hS hi) (by decide) rfl 4 (by decide) (hts _ (tw_c tw_81)) rfl dX3_onAskState_10 ?_
  refine lv_topi (fun g1 eg1 => ?_)
  refine lv_if_ne (tgt := 23) hx hb dX3_onAskState_13 (by decide) (fun c13 => ?_) (fun c13 => ?_)
  · skip
    refine lv_aload_n hx hb dX3_onAskState_23 rfl (lv_at hl 1 rfl) ?_
    refine lv_iload_n hx hb dX3_onAskState_24 rfl (lv_at hl 2 rfl) ?_
    refine lv_iload_n hx hb dX3_onAskState_25 rfl (lv_at hl 3 rfl) ?_
    refine hv_callv (va_runV (As := [.int (nI i), .int (nI j)]) (rest := []) ⟨hx, hb, hml, hown, hts⟩ (c_yieldTo l D tc hI hi hj) (cwV 2 hts (tw_V tw_245 tw_246 tw_503 tw_1 tw_247) rfl rfl rfl (by decide +kernel) ⟨Nat.le_of_ble_eq_true rfl, Nat.le_of_ble_eq_true rfl⟩) (hv_preV (ci := 3) hK hT.1 (cs_kX hS) (by decide) rfl rfl) rfl rfl hl.1 rfl (lv_room (Nat.le_of_ble_eq_true rfl)) dX3_onAskState_26 ⟨by show 0 + 0 ≤ 8; omega, by show 0 + 0 ≤ 64; omega⟩) hT (fun v2 H locs hp3 hT => ?_)
    obtain ⟨_, hI⟩ := hp3
    have hS := hI.1
    refine lv_aload_n hx hb dX3_onAskState_29 rfl (lv_at hl 1 rfl) ?_
    refine hv_gets (ci := 3) (C := RX3) (T := TX3) (N := 12) hx hb hts (tw_cs in_X3) hown hK hT (cs_kX hS) (by decide) rfl 1 (by decide) (hts _ (tw_c tw_48)) rfl (x := (fa 2)) (cs_pN hS) dX3_onAskState_30 ?_
    refine lv_iload_n hx hb dX3_onAskState_33 rfl (lv_at hl 2 rfl) ?_
    refine lv_iconst (v := 1) hx hb dX3_onAskState_34 (by decide) ?_
    refine lv_iload_n hx hb dX3_onAskState_35 rfl (lv_at hl 3 rfl) ?_
    refine lv_ishl hx hb dX3_onAskState_36 ?_
    refine lv_iconst (v := 5) hx hb dX3_onAskState_37 (by decide) ?_
    refine lv_iload_n hx hb dX3_onAskState_38 rfl (lv_at hl 4 rfl) ?_
    refine lv_aload hx hb dX3_onAskState_39 (lv_at hl 0 rfl) ?_
    refine hv_geti (ci := 2) (C := RX2) (T := TX2) (N := 10) hx hb hts (tw_cs in_X2) hown hK hT (cs_ks hS hi) (by decide) rfl 4 (by decide) (hts _ (tw_c tw_81)) rfl dX3_onAskState_41 ?_
    refine lv_topi (fun g4 eg4 => ?_)
    refine hv_callv (va_runV (As := [.int (nI i), .int (1 <<< ((nI j) &&& 31)), .int 5, .int x, .int g4]) (rest := []) ⟨hx, hb, hml, hown, hts⟩ (c_send l D tc hI hi (1 <<< ((nI j) &&& 31)) 5 x g4 (cs_bit (cs_lt8 hS hj) hj) hh) (cwV 5 hts (tw_V tw_137 tw_138 tw_139 tw_2 tw_140) rfl rfl rfl (by decide +kernel) ⟨Nat.le_of_ble_eq_true rfl, Nat.le_of_ble_eq_true rfl⟩) (hv_preV (ci := 1) hK hT.1 (cs_kN hS) (by decide) rfl rfl) rfl rfl hl.1 rfl (lv_room (Nat.le_of_ble_eq_true rfl)) dX3_onAskState_44 ⟨by show 0 + 0 + 8 ≤ 8; omega, by show 0 + 0 + 64 ≤ 64; omega⟩) hT (fun v5 H locs hp6 hT => ?_)
    obtain ⟨_, hI⟩ := hp6
    have hS := hI.1
    exact hret _ v5 _ _ _ _ _ dX3_onAskState_47 hT ⟨_, hI⟩ (by show 0 + 0 + 8 ≤ 8; omega) (by show 0 + 0 + 64 ≤ 64; omega)
  · skip
    refine lv_aload_n hx hb dX3_onAskState_16 rfl (lv_at hl 1 rfl) ?_
    refine lv_aload hx hb dX3_onAskState_17 (lv_at hl 0 rfl) ?_
    refine lv_iconst (v := 5) hx hb dX3_onAskState_19 (by decide) ?_
    refine hv_callv (va_runV (As := [.ref (fa (16 + i)), .int 5]) (rest := []) ⟨hx, hb, hml, hown, hts⟩ (c_become l D tc hI hi 5) (cwV 2 hts (tw_V tw_124 tw_125 tw_486 tw_1 tw_126) rfl rfl rfl (by decide +kernel) ⟨Nat.le_of_ble_eq_true rfl, Nat.le_of_ble_eq_true rfl⟩) (hv_preV (ci := 3) hK hT.1 (cs_kX hS) (by decide) rfl rfl) rfl rfl hl.1 rfl (lv_room (Nat.le_of_ble_eq_true rfl)) dX3_onAskState_20 ⟨by show 0 + 0 ≤ 8; omega, by show 0 + 0 ≤ 64; omega⟩) hT (fun v7 H locs hp8 hT => ?_)
    have hI := hp8
    have hS := hI.1
    refine lv_aload_n hx hb dX3_onAskState_23 rfl (lv_at hl 1 rfl) ?_
    refine lv_iload_n hx hb dX3_onAskState_24 rfl (lv_at hl 2 rfl) ?_
    refine lv_iload_n hx hb dX3_onAskState_25 rfl (lv_at hl 3 rfl) ?_
    refine hv_callv (va_runV (As := [.int (nI i), .int (nI j)]) (rest := []) ⟨hx, hb, hml, hown, hts⟩ (c_yieldTo l D tc hI hi hj) (cwV 2 hts (tw_V tw_245 tw_246 tw_503 tw_1 tw_247) rfl rfl rfl (by decide +kernel) ⟨Nat.le_of_ble_eq_true rfl, Nat.le_of_ble_eq_true rfl⟩) (hv_preV (ci := 3) hK hT.1 (cs_kX hS) (by decide) rfl rfl) rfl rfl hl.1 rfl (lv_room (Nat.le_of_ble_eq_true rfl)) dX3_onAskState_26 ⟨by show 0 + 0 + 0 ≤ 8; omega, by show 0 + 0 + 0 ≤ 64; omega⟩) hT (fun v9 H locs hp10 hT => ?_)
    obtain ⟨_, hI⟩ := hp10
    have hS := hI.1
    refine lv_aload_n hx hb dX3_onAskState_29 rfl (lv_at hl 1 rfl) ?_
    refine hv_gets (ci := 3) (C := RX3) (T := TX3) (N := 12) hx hb hts (tw_cs in_X3) hown hK hT (cs_kX hS) (by decide) rfl 1 (by decide) (hts _ (tw_c tw_48)) rfl (x := (fa 2)) (cs_pN hS) dX3_onAskState_30 ?_
    refine lv_iload_n hx hb dX3_onAskState_33 rfl (lv_at hl 2 rfl) ?_
    refine lv_iconst (v := 1) hx hb dX3_onAskState_34 (by decide) ?_
    refine lv_iload_n hx hb dX3_onAskState_35 rfl (lv_at hl 3 rfl) ?_
    refine lv_ishl hx hb dX3_onAskState_36 ?_
    refine lv_iconst (v := 5) hx hb dX3_onAskState_37 (by decide) ?_
    refine lv_iload_n hx hb dX3_onAskState_38 rfl (lv_at hl 4 rfl) ?_
    refine lv_aload hx hb dX3_onAskState_39 (lv_at hl 0 rfl) ?_
    refine hv_geti (ci := 2) (C := RX2) (T := TX2) (N := 10) hx hb hts (tw_cs in_X2) hown hK hT (cs_ks hS hi) (by decide) rfl 4 (by decide) (hts _ (tw_c tw_81)) rfl dX3_onAskState_41 ?_
    refine lv_topi (fun g11 eg11 => ?_)
    refine hv_callv (va_runV (As := [.int (nI i), .int (1 <<< ((nI j) &&& 31)), .int 5, .int x, .int g11]) (rest := []) ⟨hx, hb, hml, hown, hts⟩ (c_send l D tc hI hi (1 <<< ((nI j) &&& 31)) 5 x g11 (cs_bit (cs_lt8 hS hj) hj) hh) (cwV 5 hts (tw_V tw_137 tw_138 tw_139 tw_2 tw_140) rfl rfl rfl (by decide +kernel) ⟨Nat.le_of_ble_eq_true rfl, Nat.le_of_ble_eq_true rfl⟩) (hv_preV (ci := 1) hK hT.1 (cs_kN hS) (by decide) rfl rfl) rfl rfl hl.1 rfl (lv_room (Nat.le_of_ble_eq_true rfl)) dX3_onAskState_44 ⟨by show 0 + 0 + 0 + 8 ≤ 8; omega, by show 0 + 0 + 0 + 64 ≤ 64; omega⟩) hT (fun v12 H locs hp13 hT => ?_)
    obtain ⟨_, hI⟩ := hp13
    have hS := hI.1
    exact hret _ v12 _ _ _ _ _ dX3_onAskState_47 hT ⟨_, hI⟩ (by show 0 + 0 + 0 + 8 ≤ 8; omega) (by show 0 + 0 + 0 + 64 ≤ 64; omega)

set_option maxHeartbeats 4000000 in
set_option maxRecDepth 100000 in
theorem c_onState (l : Launch) (D : va_G) (tc : Nat → ClassId) {fa : Nat → Nat} {n : Nat} {w u : Nat → Nat} {b : Nat} {d : Nat → Nat → Nat} {g : Nat × Nat} {k : Nat} {hd : List Nat} {v : hv_V} (hI : ci_I fa n w u b d g k hd v) {i : Nat} (hi : i < n) {j : Nat} (hj : j < n) (hh : hd.length ≤ 1) (x y : Int32) : Met l yX3_onState (Cond.code yX3_onState cX3_onState 6 none :: lw_B) ({ frames := 4, cells := 8, slots := 64, locals := 90 }) (va_Pc [.ref (fa 0), .int (nI i), .int (nI j), .int x, .int y] (hv_Pre D tc v)) (va_Qv (fun (v1 : hv_V) => ∃ k1, ci_I fa n w u b d g k1 hd v1) (hv_Post D tc (hv_A v)) (hv_A v)) (8) (64) (hv_A v) := by
  refine hv_metv l (by decide) (Nat.le_of_ble_eq_true rfl) ?_
  intro p e s m args below meth c Q X hret hK hz H locs ls hT hl
  obtain ⟨hx, hb, hml, hts, hown, hin0⟩ := X
  have hown : s.vm.findClass "CommitSites" = some m.cls := hown
  have hl : lv_has ls 6 [(0, .ref (fa 0)), (1, .int (nI i)), (2, .int (nI j)), (3, .int x), (4, .int y)] := hl
  have hS := hI.1
  refine lv_aload_n hx hb dX3_onState_0 rfl (lv_at hl 0 rfl) ?_
  refine hv_gets (ci := 3) (C := RX3) (T := TX3) (N := 12) hx hb hts (tw_cs in_X3) hown hK hT (cs_kX hS) (by decide) rfl 0 (by decide) (hts _ (tw_c tw_47)) rfl (x := (fa 1)) (cs_pS hS) dX3_onState_1 ?_
  refine lv_iload_n hx hb dX3_onState_4 rfl (lv_at hl 1 rfl) ?_
  refine hv_alds (t := 0) hx hb hK hT (cs_kS hS) rfl rfl (cs_in8 (cs_lt8 hS hi)) (x := (fa (16 + i))) (cs_qS hS hi) dX3_onState_5 ?_
  refine lv_astore (lv' := [(5, _), (0, _), (1, _), (2, _), (3, _), (4, _)]) hx hb dX3_onState_6 hl (by decide) rfl (fun ls hl => ?_)
  refine lv_aload hx hb dX3_onState_8 (lv_at hl 0 rfl) ?_
  refine hv_geti (ci := 2) (C := RX2) (T := TX2) (N := 10) hx hb hts (tw_cs in_X2) hown hK hT (cs_ks hS hi) (by decide) rfl 6 (by decide) (hts _ (tw_c tw_85)) rfl dX3_onState_10 ?_
  refine lv_topi (fun g1 eg1 => ?_)
  refine lv_iconst (v := 3) hx hb dX3_onState_13 (by decide) ?_
  refine lv_icmp_ne (tgt := 26) hx hb dX3_onState_14 (by decide) (fun c14 => ?_) (fun c14 => ?_)
  · skip
    exact hret _ v _ _ _ _ _ dX3_onState_26 hT ⟨_, hI⟩ (by show 0 ≤ 8; omega) (by show 0 ≤ 64; omega)
  · skip
    refine lv_aload hx hb dX3_onState_17 (lv_at hl 0 rfl) ?_
    refine hv_geti (ci := 2) (C := RX2) (T := TX2) (N := 10) hx hb hts (tw_cs in_X2) hown hK hT (cs_ks hS hi) (by decide) rfl 7 (by decide) (hts _ (tw_c tw_87)) rfl dX3_onState_19 ?_
    refine lv_topi (fun g2 eg2 => ?_)
    refine lv_iload_n hx hb dX3_onState_22 rfl (lv_at hl 4 rfl) ?_
    refine lv_icmp_eq (tgt := 27) hx hb dX3_onState_23 (by decide) (fun c23 => ?_) (fun c23 => ?_)
    · skip
      refine lv_iload hx hb dX3_onState_27 (lv_at hl 5 rfl) ?_
      refine lv_iconst (v := 4) hx hb dX3_onState_29 (by decide) ?_
      refine lv_icmp_eq (tgt := 39) hx hb dX3_onState_30 (by decide) (fun c30 => ?_) (fun c30 => ?_)
      · skip
        refine lv_aload_n hx hb dX3_onState_39 rfl (lv_at hl 1 rfl) ?_
        refine lv_iload_n hx hb dX3_onState_40 rfl (lv_at hl 2 rfl) ?_
        refine lv_iload hx hb dX3_onState_41 (lv_at hl 5 rfl) ?_
        refine hv_callv (va_runV (As := [.int (nI i), .int y]) (rest := []) ⟨hx, hb, hml, hown, hts⟩ (c_decide l D tc hI hi hh y) (cwV 2 hts (tw_V tw_180 tw_181 tw_492 tw_1 tw_182) rfl rfl rfl (by decide +kernel) ⟨Nat.le_of_ble_eq_true rfl, Nat.le_of_ble_eq_true rfl⟩) (hv_preV (ci := 3) hK hT.1 (cs_kX hS) (by decide) rfl rfl) rfl rfl hl.1 rfl (lv_room (Nat.le_of_ble_eq_true rfl)) dX3_onState_43 ⟨by show 0 + 8 ≤ 8; omega, by show 0 + 64 ≤ 64; omega⟩) hT (fun v3 H locs hp4 hT => ?_)
        obtain ⟨_, hI⟩ := hp4
        have hS := hI.1
        refine lv_goto (tgt := 71) hx hb dX3_onState_46 (by decide) ?_
        exact hret _ v3 _ _ _ _ _ dX3_onState_71 hT ⟨_, hI⟩ (by show 0 + 8 ≤ 8; omega) (by show 0 + 64 ≤ 64; omega)
      · skip
        refine lv_iload hx hb dX3_onState_33 (lv_at hl 5 rfl) ?_
        refine lv_iconst (v := 5) hx hb dX3_onState_35 (by decide) ?_
        refine lv_icmp_ne (tgt := 49) hx hb dX3_onState_36 (by decide) (fun c36 => ?_) (fun c36 => ?_)
        · skip
          refine lv_aload hx hb dX3_onState_49 (lv_at hl 0 rfl) ?_
          refine lv_dup hx hb dX3_onState_51 rfl ?_
          refine hv_geti (ci := 2) (C := RX2) (T := TX2) (N := 10) hx hb hts (tw_cs in_X2) hown hK hT (cs_ks hS hi) (by decide) rfl 2 (by decide) (hts _ (tw_c tw_77)) rfl dX3_onState_52 ?_
          refine lv_topi (fun g5 eg5 => ?_)
          refine lv_iconst (v := 1) hx hb dX3_onState_55 (by decide) ?_
          refine lv_iload_n hx hb dX3_onState_56 rfl (lv_at hl 3 rfl) ?_
          refine lv_ishl hx hb dX3_onState_57 ?_
          refine lv_ior hx hb dX3_onState_58 ?_
          refine hv_puti (ci := 2) (C := RX2) (T := TX2) (N := 10) hx hb hts (tw_cs in_X2) tyX2 tyX2_ok nmX2 hown hK hT (cs_ks hS hi) (by decide) rfl 2 (by decide) (hts _ (tw_c tw_77)) rfl rfl (x := (g5 ||| (1 <<< ((nI j) &&& 31)))) rfl rfl dX3_onState_59 (fun H locs hT => ?_)
          have hI := ci_put (f := 202) (a := (fa (16 + i))) (x := (g5 ||| (1 <<< ((nI j) &&& 31)))) rfl hI
          have hS := hI.1
          refine lv_aload hx hb dX3_onState_62 (lv_at hl 0 rfl) ?_
          refine hv_gets (ci := 2) (C := RX2) (T := TX2) (N := 10) hx hb hts (tw_cs in_X2) hown hK hT (cs_ks hS hi) (by decide) rfl 1 (by decide) (hts _ (tw_c tw_75)) rfl (x := (fa (24 + i))) (cs_po hS hi) dX3_onState_64 ?_
          refine lv_iload_n hx hb dX3_onState_67 rfl (lv_at hl 3 rfl) ?_
          refine lv_iload hx hb dX3_onState_68 (lv_at hl 5 rfl) ?_
          refine hv_iast (x := y) hx hb hK hT (cs_ko hS hi) (cs_in8 (cs_lt8 hS hj)) dX3_onState_70 (fun H locs hT => ?_)
          have hI := ci_puto (j := ((nI j) : Int32).toNatClampNeg) (x := y) hi hI
          have hS := hI.1
          exact hret _ (hv_sa (hv_si v 202 (fa (16 + i)) (g5 ||| (1 <<< ((nI j) &&& 31)))) (fa (24 + i)) ((nI j) : Int32).toNatClampNeg y) _ _ _ _ _ dX3_onState_71 hT ⟨_, hI⟩ (by show 0 ≤ 8; omega) (by show 0 ≤ 64; omega)
        · skip
          refine lv_aload_n hx hb dX3_onState_39 rfl (lv_at hl 1 rfl) ?_
          refine lv_iload_n hx hb dX3_onState_40 rfl (lv_at hl 2 rfl) ?_
          refine lv_iload hx hb dX3_onState_41 (lv_at hl 5 rfl) ?_
          refine hv_callv (va_runV (As := [.int (nI i), .int y]) (rest := []) ⟨hx, hb, hml, hown, hts⟩ (c_decide l D tc hI hi hh y) (cwV 2 hts (tw_V tw_180 tw_181 tw_492 tw_1 tw_182) rfl rfl rfl (by decide +kernel) ⟨Nat.le_of_ble_eq_true rfl, Nat.le_of_ble_eq_true rfl⟩) (hv_preV (ci := 3) hK hT.1 (cs_kX hS) (by decide) rfl rfl) rfl rfl hl.1 rfl (lv_room (Nat.le_of_ble_eq_true rfl)) dX3_onState_43 ⟨by show 0 + 8 ≤ 8; omega, by show 0 + 64 ≤ 64; omega⟩) hT (fun v6 H locs hp7 hT => ?_)
          obtain ⟨_, hI⟩ := hp7
          have hS := hI.1
          refine lv_goto (tgt := 71) hx hb dX3_onState_46 (by decide) ?_
          exact hret _ v6 _ _ _ _ _ dX3_onState_71 hT ⟨_, hI⟩ (by show 0 + 8 ≤ 8; omega) (by show 0 + 64 ≤ 64; omega)
    · skip
      exact hret _ v _ _ _ _ _ dX3_onState_26 hT ⟨_, hI⟩ (by show 0 ≤ 8; omega) (by show 0 ≤ 64; omega)

set_option maxHeartbeats 4000000 in
set_option maxRecDepth 100000 in
theorem c_onAskReady (l : Launch) (D : va_G) (tc : Nat → ClassId) {fa : Nat → Nat} {n : Nat} {w u : Nat → Nat} {b : Nat} {d : Nat → Nat → Nat} {g : Nat × Nat} {k : Nat} {hd : List Nat} {v : hv_V} (hI : ci_I fa n w u b d g k hd v) {i : Nat} (hi : i < n) {j : Nat} (hj : j < n) (hh : hd.length ≤ 1) (x y : Int32) : Met l yX3_onAskReady (Cond.code yX3_onAskReady cX3_onAskReady 6 none :: lw_B) ({ frames := 3, cells := 8, slots := 64, locals := 67 }) (va_Pc [.ref (fa 0), .int (nI i), .int (nI j), .int x, .int y] (hv_Pre D tc v)) (va_Qv (fun (v1 : hv_V) => ∃ k1, ci_I fa n w u b d g k1 hd v1) (hv_Post D tc (hv_A v)) (hv_A v)) (8) (64) (hv_A v) := by
  refine hv_metv l (by decide) (Nat.le_of_ble_eq_true rfl) ?_
  intro p e s m args below meth c Q X hret hK hz H locs ls hT hl
  obtain ⟨hx, hb, hml, hts, hown, hin0⟩ := X
  have hown : s.vm.findClass "CommitSites" = some m.cls := hown
  have hl : lv_has ls 6 [(0, .ref (fa 0)), (1, .int (nI i)), (2, .int (nI j)), (3, .int x), (4, .int y)] := hl
  have hS := hI.1
  refine lv_aload_n hx hb dX3_onAskReady_0 rfl (lv_at hl 0 rfl) ?_
  refine hv_gets (ci := 3) (C := RX3) (T := TX3) (N := 12) hx hb hts (tw_cs in_X3) hown hK hT (cs_kX hS) (by decide) rfl 0 (by decide) (hts _ (tw_c tw_47)) rfl (x := (fa 1)) (cs_pS hS) dX3_onAskReady_1 ?_
  refine lv_iload_n hx hb dX3_onAskReady_4 rfl (lv_at hl 1 rfl) ?_
  refine hv_alds (t := 0) hx hb hK hT (cs_kS hS) rfl rfl (cs_in8 (cs_lt8 hS hi)) (x := (fa (16 + i))) (cs_qS hS hi) dX3_onAskReady_5 ?_
  refine lv_astore (lv' := [(5, _), (0, _), (1, _), (2, _), (3, _), (4, _)]) hx hb dX3_onAskReady_6 hl (by decide) rfl (fun ls hl => ?_)
  refine lv_aload hx hb dX3_onAskReady_8 (lv_at hl 0 rfl) ?_
  refine hv_calli (va_runV (As := []) (rest := []) ⟨hx, hb, hml, hown, hts⟩ (c_isDecided l D tc hS hi) (cwV 0 hts (tw_V tw_127 tw_128 tw_129 tw_4 tw_130) rfl rfl rfl (by decide +kernel) ⟨Nat.le_of_ble_eq_true rfl, Nat.le_of_ble_eq_true rfl⟩) (hv_preV (ci := 2) hK hT.1 (cs_ks hS hi) (by decide) rfl rfl) rfl rfl hl.1 rfl (lv_room (Nat.le_of_ble_eq_true rfl)) dX3_onAskReady_10 ⟨by show 0 + 0 ≤ 8; omega, by show 0 + 0 ≤ 64; omega⟩) hT (fun r3 v1 H locs hp2 hT => ?_)
  rw [hp2] at hT
  refine lv_if_eq (tgt := 38) hx hb dX3_onAskReady_13 (by decide) (fun c13 => ?_) (fun c13 => ?_)
  · skip
    refine lv_aload_n hx hb dX3_onAskReady_38 rfl (lv_at hl 1 rfl) ?_
    refine lv_iload_n hx hb dX3_onAskReady_39 rfl (lv_at hl 2 rfl) ?_
    refine lv_iload_n hx hb dX3_onAskReady_40 rfl (lv_at hl 3 rfl) ?_
    refine hv_callv (va_runV (As := [.int (nI i), .int (nI j)]) (rest := []) ⟨hx, hb, hml, hown, hts⟩ (c_yieldTo l D tc hI hi hj) (cwV 2 hts (tw_V tw_245 tw_246 tw_503 tw_1 tw_247) rfl rfl rfl (by decide +kernel) ⟨Nat.le_of_ble_eq_true rfl, Nat.le_of_ble_eq_true rfl⟩) (hv_preV (ci := 3) hK hT.1 (cs_kX hS) (by decide) rfl rfl) rfl rfl hl.1 rfl (lv_room (Nat.le_of_ble_eq_true rfl)) dX3_onAskReady_41 ⟨by show 0 + 0 + 0 ≤ 8; omega, by show 0 + 0 + 0 ≤ 64; omega⟩) hT (fun v4 H locs hp5 hT => ?_)
    obtain ⟨_, hI⟩ := hp5
    have hS := hI.1
    refine lv_aload hx hb dX3_onAskReady_44 (lv_at hl 0 rfl) ?_
    refine hv_geti (ci := 2) (C := RX2) (T := TX2) (N := 10) hx hb hts (tw_cs in_X2) hown hK hT (cs_ks hS hi) (by decide) rfl 4 (by decide) (hts _ (tw_c tw_81)) rfl dX3_onAskReady_46 ?_
    refine lv_topi (fun g6 eg6 => ?_)
    refine lv_iconst (v := 1) hx hb dX3_onAskReady_49 (by decide) ?_
    refine lv_icmp_ne (tgt := 61) hx hb dX3_onAskReady_50 (by decide) (fun c50 => ?_) (fun c50 => ?_)
    · skip
      refine lv_aload hx hb dX3_onAskReady_61 (lv_at hl 0 rfl) ?_
      refine hv_geti (ci := 2) (C := RX2) (T := TX2) (N := 10) hx hb hts (tw_cs in_X2) hown hK hT (cs_ks hS hi) (by decide) rfl 4 (by decide) (hts _ (tw_c tw_81)) rfl dX3_onAskReady_63 ?_
      refine lv_topi (fun g7 eg7 => ?_)
      refine lv_iload hx hb dX3_onAskReady_66 (lv_at hl 5 rfl) ?_
      refine lv_icmp_ne (tgt := 86) hx hb dX3_onAskReady_68 (by decide) (fun c68 => ?_) (fun c68 => ?_)
      · skip
        exact hret _ v4 _ _ _ _ _ dX3_onAskReady_86 hT ⟨_, hI⟩ (by show 0 + 0 + 0 ≤ 8; omega) (by show 0 + 0 + 0 ≤ 64; omega)
      · skip
        refine lv_aload_n hx hb dX3_onAskReady_71 rfl (lv_at hl 1 rfl) ?_
        refine hv_gets (ci := 3) (C := RX3) (T := TX3) (N := 12) hx hb hts (tw_cs in_X3) hown hK hT (cs_kX hS) (by decide) rfl 1 (by decide) (hts _ (tw_c tw_48)) rfl (x := (fa 2)) (cs_pN hS) dX3_onAskReady_72 ?_
        refine lv_iload_n hx hb dX3_onAskReady_75 rfl (lv_at hl 2 rfl) ?_
        refine lv_iconst (v := 1) hx hb dX3_onAskReady_76 (by decide) ?_
        refine lv_iload_n hx hb dX3_onAskReady_77 rfl (lv_at hl 3 rfl) ?_
        refine lv_ishl hx hb dX3_onAskReady_78 ?_
        refine lv_bipush (v := 8) hx hb dX3_onAskReady_79 (by decide) ?_
        refine lv_iload_n hx hb dX3_onAskReady_81 rfl (lv_at hl 4 rfl) ?_
        refine lv_iconst (v := 0) hx hb dX3_onAskReady_82 (by decide) ?_
        refine hv_callv (va_runV (As := [.int (nI i), .int (1 <<< ((nI j) &&& 31)), .int 8, .int x, .int 0]) (rest := []) ⟨hx, hb, hml, hown, hts⟩ (c_send l D tc hI hi (1 <<< ((nI j) &&& 31)) 8 x 0 (cs_bit (cs_lt8 hS hj) hj) hh) (cwV 5 hts (tw_V tw_137 tw_138 tw_139 tw_2 tw_140) rfl rfl rfl (by decide +kernel) ⟨Nat.le_of_ble_eq_true rfl, Nat.le_of_ble_eq_true rfl⟩) (hv_preV (ci := 1) hK hT.1 (cs_kN hS) (by decide) rfl rfl) rfl rfl hl.1 rfl (lv_room (Nat.le_of_ble_eq_true rfl)) dX3_onAskReady_83 ⟨by show 0 + 0 + 0 + 8 ≤ 8; omega, by show 0 + 0 + 0 + 64 ≤ 64; omega⟩) hT (fun v8 H locs hp9 hT => ?_)
        obtain ⟨_, hI⟩ := hp9
        have hS := hI.1
        exact hret _ v8 _ _ _ _ _ dX3_onAskReady_86 hT ⟨_, hI⟩ (by show 0 + 0 + 0 + 8 ≤ 8; omega) (by show 0 + 0 + 0 + 64 ≤ 64; omega)
    · skip
      refine lv_aload_n hx hb dX3_onAskReady_53 rfl (lv_at hl 1 rfl) ?_
      refine lv_aload hx hb dX3_onAskReady_54 (lv_at hl 0 rfl) ?_
      refine lv_iload hx hb dX3_onAskReady_56 (lv_at hl 5 rfl) ?_
      refine hv_callv (va_runV (As := [.ref (fa (16 + i)), .int y]) (rest := []) ⟨hx, hb, hml, hown, hts⟩ (c_become l D tc hI hi y) (cwV 2 hts (tw_V tw_124 tw_125 tw_486 tw_1 tw_126) rfl rfl rfl (by decide +kernel) ⟨Nat.le_of_ble_eq_true rfl, Nat.le_of_ble_eq_true rfl⟩) (hv_preV (ci := 3) hK hT.1 (cs_kX hS) (by decide) rfl rfl) rfl rfl hl.1 rfl (lv_room (Nat.le_of_ble_eq_true rfl)) dX3_onAskReady_58 ⟨by show 0 + 0 + 0 + 0 ≤ 8; omega, by show 0 + 0 + 0 + 0 ≤ 64; omega⟩) hT (fun v10 H locs hp11 hT => ?_)
      have hI := hp11
      have hS := hI.1
      refine lv_aload hx hb dX3_onAskReady_61 (lv_at hl 0 rfl) ?_
      refine hv_geti (ci := 2) (C := RX2) (T := TX2) (N := 10) hx hb hts (tw_cs in_X2) hown hK hT (cs_ks hS hi) (by decide) rfl 4 (by decide) (hts _ (tw_c tw_81)) rfl dX3_onAskReady_63 ?_
      refine lv_topi (fun g12 eg12 => ?_)
      refine lv_iload hx hb dX3_onAskReady_66 (lv_at hl 5 rfl) ?_
      refine lv_icmp_ne (tgt := 86) hx hb dX3_onAskReady_68 (by decide) (fun c68 => ?_) (fun c68 => ?_)
      · skip
        exact hret _ v10 _ _ _ _ _ dX3_onAskReady_86 hT ⟨_, hI⟩ (by show 0 + 0 + 0 + 0 ≤ 8; omega) (by show 0 + 0 + 0 + 0 ≤ 64; omega)
      · skip
        refine lv_aload_n hx hb dX3_onAskReady_71 rfl (lv_at hl 1 rfl) ?_
        refine hv_gets (ci := 3) (C := RX3) (T := TX3) (N := 12) hx hb hts (tw_cs in_X3) hown hK hT (cs_kX hS) (by decide) rfl 1 (by decide) (hts _ (tw_c tw_48)) rfl (x := (fa 2)) (cs_pN hS) dX3_onAskReady_72 ?_
        refine lv_iload_n hx hb dX3_onAskReady_75 rfl (lv_at hl 2 rfl) ?_
        refine lv_iconst (v := 1) hx hb dX3_onAskReady_76 (by decide) ?_
        refine lv_iload_n hx hb dX3_onAskReady_77 rfl (lv_at hl 3 rfl) ?_
        refine lv_ishl hx hb dX3_onAskReady_78 ?_
        refine lv_bipush (v := 8) hx hb dX3_onAskReady_79 (by decide) ?_
        refine lv_iload_n hx hb dX3_onAskReady_81 rfl (lv_at hl 4 rfl) ?_
        refine lv_iconst (v := 0) hx hb dX3_onAskReady_82 (by decide) ?_
        refine hv_callv (va_runV (As := [.int (nI i), .int (1 <<< ((nI j) &&& 31)), .int 8, .int x, .int 0]) (rest := []) ⟨hx, hb, hml, hown, hts⟩ (c_send l D tc hI hi (1 <<< ((nI j) &&& 31)) 8 x 0 (cs_bit (cs_lt8 hS hj) hj) hh) (cwV 5 hts (tw_V tw_137 tw_138 tw_139 tw_2 tw_140) rfl rfl rfl (by decide +kernel) ⟨Nat.le_of_ble_eq_true rfl, Nat.le_of_ble_eq_true rfl⟩) (hv_preV (ci := 1) hK hT.1 (cs_kN hS) (by decide) rfl rfl) rfl rfl hl.1 rfl (lv_room (Nat.le_of_ble_eq_true rfl)) dX3_onAskReady_83 ⟨by show 0 + 0 + 0 + 0 + 8 ≤ 8; omega, by show 0 + 0 + 0 + 0 + 64 ≤ 64; omega⟩) hT (fun v13 H locs hp14 hT => ?_)
        obtain ⟨_, hI⟩ := hp14
        have hS := hI.1
        exact hret _ v13 _ _ _ _ _ dX3_onAskReady_86 hT ⟨_, hI⟩ (by show 0 + 0 + 0 + 0 + 8 ≤ 8; omega) (by show 0 + 0 + 0 + 0 + 64 ≤ 64; omega)
  · skip
    refine lv_aload_n hx hb dX3_onAskReady_16 rfl (lv_at hl 1 rfl) ?_
    refine hv_gets (ci := 3) (C := RX3) (T := TX3) (N := 12) hx hb hts (tw_cs in_X3) hown hK hT (cs_kX hS) (by decide) rfl 1 (by decide) (hts _ (tw_c tw_48)) rfl (x := (fa 2)) (cs_pN hS) dX3_onAskReady_17 ?_
    refine lv_iload_n hx hb dX3_onAskReady_20 rfl (lv_at hl 2 rfl) ?_
    refine lv_iconst (v := 1) hx hb dX3_onAskReady_21 (by decide) ?_
    refine lv_iload_n hx hb dX3_onAskReady_22 rfl (lv_at hl 3 rfl) ?_
    refine lv_ishl hx hb dX3_onAskReady_23 ?_
    refine lv_aload hx hb dX3_onAskReady_24 (lv_at hl 0 rfl) ?_
    refine hv_geti (ci := 2) (C := RX2) (T := TX2) (N := 10) hx hb hts (tw_cs in_X2) hown hK hT (cs_ks hS hi) (by decide) rfl 4 (by decide) (hts _ (tw_c tw_81)) rfl dX3_onAskReady_26 ?_
    refine lv_topi (fun g15 eg15 => ?_)
    refine hv_calli (va_runS (As := [.int g15]) (rest := [.int (1 <<< ((nI j) &&& 31)), .int (nI i), .ref (fa 2)]) ⟨hx, hb, hml, hown, hts⟩ (c_tidingsOf l D tc g15) (va_cwS 1 hts (tw_S tw_183 tw_184 tw_1 tw_185) rfl rfl rfl (by decide +kernel) ⟨Nat.le_of_ble_eq_true rfl, Nat.le_of_ble_eq_true rfl⟩) (hv_preS hK hT.1) rfl rfl hl.1 rfl (lv_room (Nat.le_of_ble_eq_true rfl)) dX3_onAskReady_29 ⟨by show 0 + 0 + 0 ≤ 8; omega, by show 0 + 0 + 0 ≤ 64; omega⟩) hT (fun r18 v16 H locs hp17 hT => ?_)
    rw [hp17] at hT
    refine lv_iconst (v := 0) hx hb dX3_onAskReady_32 (by decide) ?_
    refine lv_iconst (v := 0) hx hb dX3_onAskReady_33 (by decide) ?_
    refine hv_callv (va_runV (As := [.int (nI i), .int (1 <<< ((nI j) &&& 31)), .int r18, .int 0, .int 0]) (rest := []) ⟨hx, hb, hml, hown, hts⟩ (c_send l D tc hI hi (1 <<< ((nI j) &&& 31)) r18 0 0 (cs_bit (cs_lt8 hS hj) hj) hh) (cwV 5 hts (tw_V tw_137 tw_138 tw_139 tw_2 tw_140) rfl rfl rfl (by decide +kernel) ⟨Nat.le_of_ble_eq_true rfl, Nat.le_of_ble_eq_true rfl⟩) (hv_preV (ci := 1) hK hT.1 (cs_kN hS) (by decide) rfl rfl) rfl rfl hl.1 rfl (lv_room (Nat.le_of_ble_eq_true rfl)) dX3_onAskReady_34 ⟨by show 0 + 0 + 0 + 8 ≤ 8; omega, by show 0 + 0 + 0 + 64 ≤ 64; omega⟩) hT (fun v19 H locs hp20 hT => ?_)
    obtain ⟨_, hI⟩ := hp20
    have hS := hI.1
    exact hret _ v19 _ _ _ _ _ dX3_onAskReady_37 hT ⟨_, hI⟩ (by show 0 + 0 + 0 + 8 ≤ 8; omega) (by show 0 + 0 + 0 + 64 ≤ 64; omega)

set_option maxHeartbeats 4000000 in
set_option maxRecDepth 100000 in
theorem c_onAcknowledge (l : Launch) (D : va_G) (tc : Nat → ClassId) {fa : Nat → Nat} {n : Nat} {w u : Nat → Nat} {b : Nat} {d : Nat → Nat → Nat} {g : Nat × Nat} {k : Nat} {hd : List Nat} {v : hv_V} (hI : ci_I fa n w u b d g k hd v) {i : Nat} (hi : i < n) {j : Nat} (hj : j < n) (hh : hd.length ≤ 1) (x : Int32) : Met l yX3_onAcknowledge (Cond.code yX3_onAcknowledge cX3_onAcknowledge 5 none :: lw_B) ({ frames := 4, cells := 8, slots := 64, locals := 90 }) (va_Pc [.ref (fa 0), .int (nI i), .int (nI j), .int x] (hv_Pre D tc v)) (va_Qv (fun (v1 : hv_V) => ∃ k1, ci_I fa n w u b d g k1 hd v1) (hv_Post D tc (hv_A v)) (hv_A v)) (8) (64) (hv_A v) := by
  refine hv_metv l (by decide) (Nat.le_of_ble_eq_true rfl) ?_
  intro p e s m args below meth c Q X hret hK hz H locs ls hT hl
  obtain ⟨hx, hb, hml, hts, hown, hin0⟩ := X
  have hown : s.vm.findClass "CommitSites" = some m.cls := hown
  have hl : lv_has ls 5 [(0, .ref (fa 0)), (1, .int (nI i)), (2, .int (nI j)), (3, .int x)] := hl
  have hS := hI.1
  refine lv_aload_n hx hb dX3_onAcknowledge_0 rfl (lv_at hl 0 rfl) ?_
  refine hv_gets (ci := 3) (C := RX3) (T := TX3) (N := 12) hx hb hts (tw_cs in_X3) hown hK hT (cs_kX hS) (by decide) rfl 0 (by decide) (hts _ (tw_c tw_47)) rfl (x := (fa 1)) (cs_pS hS) dX3_onAcknowledge_1 ?_
  refine lv_iload_n hx hb dX3_onAcknowledge_4 rfl (lv_at hl 1 rfl) ?_
  refine hv_alds (t := 0) hx hb hK hT (cs_kS hS) rfl rfl (cs_in8 (cs_lt8 hS hi)) (x := (fa (16 + i))) (cs_qS hS hi) dX3_onAcknowledge_5 ?_
  refine lv_astore (lv' := [(4, _), (0, _), (1, _), (2, _), (3, _)]) hx hb dX3_onAcknowledge_6 hl (by decide) rfl (fun ls hl => ?_)
  refine lv_aload hx hb dX3_onAcknowledge_8 (lv_at hl 0 rfl) ?_
  refine hv_calli (va_runV (As := []) (rest := []) ⟨hx, hb, hml, hown, hts⟩ (c_collectsAcks l D tc hS hi) (cwV 0 hts (tw_V tw_257 tw_258 tw_259 tw_4 tw_260) rfl rfl rfl (by decide +kernel) ⟨Nat.le_of_ble_eq_true rfl, Nat.le_of_ble_eq_true rfl⟩) (hv_preV (ci := 2) hK hT.1 (cs_ks hS hi) (by decide) rfl rfl) rfl rfl hl.1 rfl (lv_room (Nat.le_of_ble_eq_true rfl)) dX3_onAcknowledge_10 ⟨by show 0 + 0 ≤ 8; omega, by show 0 + 0 ≤ 64; omega⟩) hT (fun r3 v1 H locs hp2 hT => ?_)
  rw [hp2] at hT
  refine lv_if_eq (tgt := 25) hx hb dX3_onAcknowledge_13 (by decide) (fun c13 => ?_) (fun c13 => ?_)
  · skip
    exact hret _ v _ _ _ _ _ dX3_onAcknowledge_25 hT ⟨_, hI⟩ (by show 0 + 0 ≤ 8; omega) (by show 0 + 0 ≤ 64; omega)
  · skip
    refine lv_aload hx hb dX3_onAcknowledge_16 (lv_at hl 0 rfl) ?_
    refine hv_geti (ci := 2) (C := RX2) (T := TX2) (N := 10) hx hb hts (tw_cs in_X2) hown hK hT (cs_ks hS hi) (by decide) rfl 7 (by decide) (hts _ (tw_c tw_87)) rfl dX3_onAcknowledge_18 ?_
    refine lv_topi (fun g4 eg4 => ?_)
    refine lv_iload_n hx hb dX3_onAcknowledge_21 rfl (lv_at hl 4 rfl) ?_
    refine lv_icmp_eq (tgt := 26) hx hb dX3_onAcknowledge_22 (by decide) (fun c22 => ?_) (fun c22 => ?_)
    · skip
      refine lv_aload hx hb dX3_onAcknowledge_26 (lv_at hl 0 rfl) ?_
      refine lv_dup hx hb dX3_onAcknowledge_28 rfl ?_
      refine hv_geti (ci := 2) (C := RX2) (T := TX2) (N := 10) hx hb hts (tw_cs in_X2) hown hK hT (cs_ks hS hi) (by decide) rfl 2 (by decide) (hts _ (tw_c tw_77)) rfl dX3_onAcknowledge_29 ?_
      refine lv_topi (fun g5 eg5 => ?_)
      refine lv_iconst (v := 1) hx hb dX3_onAcknowledge_32 (by decide) ?_
      refine lv_iload_n hx hb dX3_onAcknowledge_33 rfl (lv_at hl 3 rfl) ?_
      refine lv_ishl hx hb dX3_onAcknowledge_34 ?_
      refine lv_ior hx hb dX3_onAcknowledge_35 ?_
      refine hv_puti (ci := 2) (C := RX2) (T := TX2) (N := 10) hx hb hts (tw_cs in_X2) tyX2 tyX2_ok nmX2 hown hK hT (cs_ks hS hi) (by decide) rfl 2 (by decide) (hts _ (tw_c tw_77)) rfl rfl (x := (g5 ||| (1 <<< ((nI j) &&& 31)))) rfl rfl dX3_onAcknowledge_36 (fun H locs hT => ?_)
      have hI := ci_put (f := 202) (a := (fa (16 + i))) (x := (g5 ||| (1 <<< ((nI j) &&& 31)))) rfl hI
      have hS := hI.1
      refine lv_aload_n hx hb dX3_onAcknowledge_39 rfl (lv_at hl 1 rfl) ?_
      refine lv_aload hx hb dX3_onAcknowledge_40 (lv_at hl 0 rfl) ?_
      refine hv_calli (va_runV (As := [.ref (fa (16 + i))]) (rest := []) ⟨hx, hb, hml, hown, hts⟩ (c_hasQuorum l D tc hS hI.2.1.1 hi) (cwV 1 hts (tw_V tw_177 tw_178 tw_491 tw_1 tw_179) rfl rfl rfl (by decide +kernel) ⟨Nat.le_of_ble_eq_true rfl, Nat.le_of_ble_eq_true rfl⟩) (hv_preV (ci := 3) hK hT.1 (cs_kX hS) (by decide) rfl rfl) rfl rfl hl.1 rfl (lv_room (Nat.le_of_ble_eq_true rfl)) dX3_onAcknowledge_42 ⟨by show 0 + 0 + 0 ≤ 8; omega, by show 0 + 0 + 0 ≤ 64; omega⟩) hT (fun r8 v6 H locs hp7 hT => ?_)
      rw [hp7] at hT
      refine lv_if_eq (tgt := 67) hx hb dX3_onAcknowledge_45 (by decide) (fun c45 => ?_) (fun c45 => ?_)
      · skip
        exact hret _ (hv_si v 202 (fa (16 + i)) (g5 ||| (1 <<< ((nI j) &&& 31)))) _ _ _ _ _ dX3_onAcknowledge_67 hT ⟨_, hI⟩ (by show 0 + 0 + 0 ≤ 8; omega) (by show 0 + 0 + 0 ≤ 64; omega)
      · skip
        refine lv_aload_n hx hb dX3_onAcknowledge_48 rfl (lv_at hl 1 rfl) ?_
        refine lv_iload_n hx hb dX3_onAcknowledge_49 rfl (lv_at hl 2 rfl) ?_
        refine lv_aload hx hb dX3_onAcknowledge_50 (lv_at hl 0 rfl) ?_
        refine hv_geti (ci := 2) (C := RX2) (T := TX2) (N := 10) hx hb hts (tw_cs in_X2) hown hK hT (cs_ks hS hi) (by decide) rfl 6 (by decide) (hts _ (tw_c tw_85)) rfl dX3_onAcknowledge_52 ?_
        refine lv_topi (fun g9 eg9 => ?_)
        refine lv_iconst (v := 2) hx hb dX3_onAcknowledge_55 (by decide) ?_
        refine lv_icmp_ne (tgt := 63) hx hb dX3_onAcknowledge_56 (by decide) (fun c56 => ?_) (fun c56 => ?_)
        · skip
          refine lv_iconst (v := 5) hx hb dX3_onAcknowledge_63 (by decide) ?_
          refine hv_callv (va_runV (As := [.int (nI i), .int 5]) (rest := []) ⟨hx, hb, hml, hown, hts⟩ (c_decide l D tc hI hi hh 5) (cwV 2 hts (tw_V tw_180 tw_181 tw_492 tw_1 tw_182) rfl rfl rfl (by decide +kernel) ⟨Nat.le_of_ble_eq_true rfl, Nat.le_of_ble_eq_true rfl⟩) (hv_preV (ci := 3) hK hT.1 (cs_kX hS) (by decide) rfl rfl) rfl rfl hl.1 rfl (lv_room (Nat.le_of_ble_eq_true rfl)) dX3_onAcknowledge_64 ⟨by show 0 + 0 + 0 + 8 ≤ 8; omega, by show 0 + 0 + 0 + 64 ≤ 64; omega⟩) hT (fun v10 H locs hp11 hT => ?_)
          obtain ⟨_, hI⟩ := hp11
          have hS := hI.1
          exact hret _ v10 _ _ _ _ _ dX3_onAcknowledge_67 hT ⟨_, hI⟩ (by show 0 + 0 + 0 + 8 ≤ 8; omega) (by show 0 + 0 + 0 + 64 ≤ 64; omega)
        · skip
          refine lv_iconst (v := 4) hx hb dX3_onAcknowledge_59 (by decide) ?_
          refine lv_goto (tgt := 64) hx hb dX3_onAcknowledge_60 (by decide) ?_
          refine hv_callv (va_runV (As := [.int (nI i), .int 4]) (rest := []) ⟨hx, hb, hml, hown, hts⟩ (c_decide l D tc hI hi hh 4) (cwV 2 hts (tw_V tw_180 tw_181 tw_492 tw_1 tw_182) rfl rfl rfl (by decide +kernel) ⟨Nat.le_of_ble_eq_true rfl, Nat.le_of_ble_eq_true rfl⟩) (hv_preV (ci := 3) hK hT.1 (cs_kX hS) (by decide) rfl rfl) rfl rfl hl.1 rfl (lv_room (Nat.le_of_ble_eq_true rfl)) dX3_onAcknowledge_64 ⟨by show 0 + 0 + 0 + 8 ≤ 8; omega, by show 0 + 0 + 0 + 64 ≤ 64; omega⟩) hT (fun v12 H locs hp13 hT => ?_)
          obtain ⟨_, hI⟩ := hp13
          have hS := hI.1
          exact hret _ v12 _ _ _ _ _ dX3_onAcknowledge_67 hT ⟨_, hI⟩ (by show 0 + 0 + 0 + 8 ≤ 8; omega) (by show 0 + 0 + 0 + 64 ≤ 64; omega)
    · skip
      exact hret _ v _ _ _ _ _ dX3_onAcknowledge_25 hT ⟨_, hI⟩ (by show 0 + 0 ≤ 8; omega) (by show 0 + 0 ≤ 64; omega)

set_option maxHeartbeats 4000000 in
set_option maxRecDepth 100000 in
theorem c_onDecision (l : Launch) (D : va_G) (tc : Nat → ClassId) {fa : Nat → Nat} {n : Nat} {w u : Nat → Nat} {b : Nat} {d : Nat → Nat → Nat} {g : Nat × Nat} {k : Nat} {hd : List Nat} {v : hv_V} (hI : ci_I fa n w u b d g k hd v) {i : Nat} (hi : i < n) (x : Int32) : Met l yX3_onDecision (Cond.code yX3_onDecision cX3_onDecision 4 none :: lw_B) ({ frames := 2, cells := 0, slots := 0, locals := 42 }) (va_Pc [.ref (fa 0), .int (nI i), .int x] (hv_Pre D tc v)) (va_Qv (fun (v1 : hv_V) => ∃ k1, ci_I fa n w u b d g k1 hd v1) (hv_Post D tc (hv_A v)) (hv_A v)) (0) (0) (hv_A v) := by
  refine hv_metv l (by decide) (Nat.le_of_ble_eq_true rfl) ?_
  intro p e s m args below meth c Q X hret hK hz H locs ls hT hl
  obtain ⟨hx, hb, hml, hts, hown, hin0⟩ := X
  have hown : s.vm.findClass "CommitSites" = some m.cls := hown
  have hl : lv_has ls 4 [(0, .ref (fa 0)), (1, .int (nI i)), (2, .int x)] := hl
  have hS := hI.1
  refine lv_aload_n hx hb dX3_onDecision_0 rfl (lv_at hl 0 rfl) ?_
  refine hv_gets (ci := 3) (C := RX3) (T := TX3) (N := 12) hx hb hts (tw_cs in_X3) hown hK hT (cs_kX hS) (by decide) rfl 0 (by decide) (hts _ (tw_c tw_47)) rfl (x := (fa 1)) (cs_pS hS) dX3_onDecision_1 ?_
  refine lv_iload_n hx hb dX3_onDecision_4 rfl (lv_at hl 1 rfl) ?_
  refine hv_alds (t := 0) hx hb hK hT (cs_kS hS) rfl rfl (cs_in8 (cs_lt8 hS hi)) (x := (fa (16 + i))) (cs_qS hS hi) dX3_onDecision_5 ?_
  refine lv_astore_n (lv' := [(3, _), (0, _), (1, _), (2, _)]) hx hb dX3_onDecision_6 rfl hl (by decide) rfl (fun ls hl => ?_)
  refine lv_aload_n hx hb dX3_onDecision_7 rfl (lv_at hl 0 rfl) ?_
  refine hv_calli (va_runV (As := []) (rest := []) ⟨hx, hb, hml, hown, hts⟩ (c_isDecided l D tc hS hi) (cwV 0 hts (tw_V tw_127 tw_128 tw_129 tw_4 tw_130) rfl rfl rfl (by decide +kernel) ⟨Nat.le_of_ble_eq_true rfl, Nat.le_of_ble_eq_true rfl⟩) (hv_preV (ci := 2) hK hT.1 (cs_ks hS hi) (by decide) rfl rfl) rfl rfl hl.1 rfl (lv_room (Nat.le_of_ble_eq_true rfl)) dX3_onDecision_8 ⟨Nat.le_of_ble_eq_true rfl, Nat.le_of_ble_eq_true rfl⟩) hT (fun r3 v1 H locs hp2 hT => ?_)
  rw [hp2] at hT
  refine lv_if_ne (tgt := 25) hx hb dX3_onDecision_11 (by decide) (fun c11 => ?_) (fun c11 => ?_)
  · skip
    exact hret _ v _ _ _ _ _ dX3_onDecision_25 hT ⟨_, hI⟩ (by decide) (by decide)
  · skip
    refine lv_aload_n hx hb dX3_onDecision_14 rfl (lv_at hl 1 rfl) ?_
    refine lv_aload_n hx hb dX3_onDecision_15 rfl (lv_at hl 0 rfl) ?_
    refine lv_iload_n hx hb dX3_onDecision_16 rfl (lv_at hl 3 rfl) ?_
    refine hv_callv (va_runV (As := [.ref (fa (16 + i)), .int x]) (rest := []) ⟨hx, hb, hml, hown, hts⟩ (c_become l D tc hI hi x) (cwV 2 hts (tw_V tw_124 tw_125 tw_486 tw_1 tw_126) rfl rfl rfl (by decide +kernel) ⟨Nat.le_of_ble_eq_true rfl, Nat.le_of_ble_eq_true rfl⟩) (hv_preV (ci := 3) hK hT.1 (cs_kX hS) (by decide) rfl rfl) rfl rfl hl.1 rfl (lv_room (Nat.le_of_ble_eq_true rfl)) dX3_onDecision_17 ⟨Nat.le_of_ble_eq_true rfl, Nat.le_of_ble_eq_true rfl⟩) hT (fun v4 H locs hp5 hT => ?_)
    have hI := hp5
    have hS := hI.1
    refine lv_aload_n hx hb dX3_onDecision_20 rfl (lv_at hl 0 rfl) ?_
    refine lv_iconst (v := 0) hx hb dX3_onDecision_21 (by decide) ?_
    refine hv_puti (ci := 2) (C := RX2) (T := TX2) (N := 10) hx hb hts (tw_cs in_X2) tyX2 tyX2_ok nmX2 hown hK hT (cs_ks hS hi) (by decide) rfl 6 (by decide) (hts _ (tw_c tw_85)) rfl rfl (x := 0) rfl rfl dX3_onDecision_22 (fun H locs hT => ?_)
    have hI := ci_put (f := 206) (a := (fa (16 + i))) (x := 0) rfl hI
    have hS := hI.1
    exact hret _ (hv_si v4 206 (fa (16 + i)) 0) _ _ _ _ _ dX3_onDecision_25 hT ⟨_, hI⟩ (by decide) (by decide)

set_option maxHeartbeats 4000000 in
set_option maxRecDepth 100000 in
theorem c_runOut (l : Launch) (D : va_G) (tc : Nat → ClassId) {fa : Nat → Nat} {n : Nat} {w u : Nat → Nat} {b : Nat} {d : Nat → Nat → Nat} {g : Nat × Nat} {k : Nat} {hd : List Nat} {v : hv_V} (hI : ci_I fa n w u b d g k hd v) {i : Nat} (hi : i < n) (hh : hd.length ≤ 1) : Met l yX3_runOut (Cond.code yX3_runOut cX3_runOut 3 none :: lw_B) ({ frames := 5, cells := 16, slots := 128, locals := 114 }) (va_Pc [.ref (fa 0), .int (nI i)] (hv_Pre D tc v)) (va_Qv (fun (v1 : hv_V) => ∃ k1, ci_I fa n w u b d g k1 hd v1) (hv_Post D tc (hv_A v)) (hv_A v)) (16) (128) (hv_A v) := by
  refine hv_metv l (by decide) (Nat.le_of_ble_eq_true rfl) ?_
  intro p e s m args below meth c Q X hret hK hz H locs ls hT hl
  obtain ⟨hx, hb, hml, hts, hown, hin0⟩ := X
  have hown : s.vm.findClass "CommitSites" = some m.cls := hown
  have hl : lv_has ls 3 [(0, .ref (fa 0)), (1, .int (nI i))] := hl
  have hS := hI.1
  refine lv_aload_n hx hb dX3_runOut_0 rfl (lv_at hl 0 rfl) ?_
  refine hv_gets (ci := 3) (C := RX3) (T := TX3) (N := 12) hx hb hts (tw_cs in_X3) hown hK hT (cs_kX hS) (by decide) rfl 0 (by decide) (hts _ (tw_c tw_47)) rfl (x := (fa 1)) (cs_pS hS) dX3_runOut_1 ?_
  refine lv_iload_n hx hb dX3_runOut_4 rfl (lv_at hl 1 rfl) ?_
  refine hv_alds (t := 0) hx hb hK hT (cs_kS hS) rfl rfl (cs_in8 (cs_lt8 hS hi)) (x := (fa (16 + i))) (cs_qS hS hi) dX3_runOut_5 ?_
  refine lv_astore_n (lv' := [(2, _), (0, _), (1, _)]) hx hb dX3_runOut_6 rfl hl (by decide) rfl (fun ls hl => ?_)
  refine lv_aload_n hx hb dX3_runOut_7 rfl (lv_at hl 0 rfl) ?_
  refine hv_geti (ci := 2) (C := RX2) (T := TX2) (N := 10) hx hb hts (tw_cs in_X2) hown hK hT (cs_ks hS hi) (by decide) rfl 6 (by decide) (hts _ (tw_c tw_85)) rfl dX3_runOut_8 ?_
  refine lv_topi (fun g1 eg1 => ?_)
  refine lv_iconst (v := 1) hx hb dX3_runOut_11 (by decide) ?_
  refine lv_icmp_ne (tgt := 24) hx hb dX3_runOut_12 (by decide) (fun c12 => ?_) (fun c12 => ?_)
  · skip
    refine lv_aload_n hx hb dX3_runOut_24 rfl (lv_at hl 0 rfl) ?_
    refine hv_geti (ci := 2) (C := RX2) (T := TX2) (N := 10) hx hb hts (tw_cs in_X2) hown hK hT (cs_ks hS hi) (by decide) rfl 6 (by decide) (hts _ (tw_c tw_85)) rfl dX3_runOut_25 ?_
    refine lv_topi (fun g2 eg2 => ?_)
    refine lv_iconst (v := 3) hx hb dX3_runOut_28 (by decide) ?_
    refine lv_icmp_eq (tgt := 40) hx hb dX3_runOut_29 (by decide) (fun c29 => ?_) (fun c29 => ?_)
    · skip
      refine lv_aload_n hx hb dX3_runOut_40 rfl (lv_at hl 1 rfl) ?_
      refine lv_aload_n hx hb dX3_runOut_41 rfl (lv_at hl 0 rfl) ?_
      refine lv_iconst (v := 2) hx hb dX3_runOut_42 (by decide) ?_
      refine hv_calli (va_runV (As := [.ref (fa (16 + i)), .int 2]) (rest := []) ⟨hx, hb, hml, hown, hts⟩ (c_toldWeight l D tc hS hI.2.1.1 hi 2) (cwV 2 hts (tw_V tw_223 tw_224 tw_497 tw_1 tw_225) rfl rfl rfl (by decide +kernel) ⟨Nat.le_of_ble_eq_true rfl, Nat.le_of_ble_eq_true rfl⟩) (hv_preV (ci := 3) hK hT.1 (cs_kX hS) (by decide) rfl rfl) rfl rfl hl.1 rfl (lv_room (Nat.le_of_ble_eq_true rfl)) dX3_runOut_43 ⟨by show 0 + 0 ≤ 16; omega, by show 0 + 0 ≤ 128; omega⟩) hT (fun r5 v3 H locs hp4 hT => ?_)
      rw [hp4] at hT
      refine lv_if_le (tgt := 78) hx hb dX3_runOut_46 (by decide) (fun c46 => ?_) (fun c46 => ?_)
      · skip
        refine lv_aload_n hx hb dX3_runOut_78 rfl (lv_at hl 1 rfl) ?_
        refine lv_aload_n hx hb dX3_runOut_79 rfl (lv_at hl 0 rfl) ?_
        refine lv_iconst (v := 1) hx hb dX3_runOut_80 (by decide) ?_
        refine hv_calli (va_runV (As := [.ref (fa (16 + i)), .int 1]) (rest := []) ⟨hx, hb, hml, hown, hts⟩ (c_toldWeight l D tc hS hI.2.1.1 hi 1) (cwV 2 hts (tw_V tw_223 tw_224 tw_497 tw_1 tw_225) rfl rfl rfl (by decide +kernel) ⟨Nat.le_of_ble_eq_true rfl, Nat.le_of_ble_eq_true rfl⟩) (hv_preV (ci := 3) hK hT.1 (cs_kX hS) (by decide) rfl rfl) rfl rfl hl.1 rfl (lv_room (Nat.le_of_ble_eq_true rfl)) dX3_runOut_81 ⟨by show 0 + 0 + 0 ≤ 16; omega, by show 0 + 0 + 0 ≤ 128; omega⟩) hT (fun r8 v6 H locs hp7 hT => ?_)
        rw [hp7] at hT
        refine lv_aload_n hx hb dX3_runOut_84 rfl (lv_at hl 1 rfl) ?_
        refine lv_aload_n hx hb dX3_runOut_85 rfl (lv_at hl 0 rfl) ?_
        refine lv_iconst (v := 3) hx hb dX3_runOut_86 (by decide) ?_
        refine hv_calli (va_runV (As := [.ref (fa (16 + i)), .int 3]) (rest := [.int r8]) ⟨hx, hb, hml, hown, hts⟩ (c_toldWeight l D tc hS hI.2.1.1 hi 3) (cwV 2 hts (tw_V tw_223 tw_224 tw_497 tw_1 tw_225) rfl rfl rfl (by decide +kernel) ⟨Nat.le_of_ble_eq_true rfl, Nat.le_of_ble_eq_true rfl⟩) (hv_preV (ci := 3) hK hT.1 (cs_kX hS) (by decide) rfl rfl) rfl rfl hl.1 rfl (lv_room (Nat.le_of_ble_eq_true rfl)) dX3_runOut_87 ⟨by show 0 + 0 + 0 + 0 ≤ 16; omega, by show 0 + 0 + 0 + 0 ≤ 128; omega⟩) hT (fun r11 v9 H locs hp10 hT => ?_)
        rw [hp10] at hT
        refine lv_iadd hx hb dX3_runOut_90 ?_
        refine lv_aload_n hx hb dX3_runOut_91 rfl (lv_at hl 1 rfl) ?_
        refine hv_geti (ci := 3) (C := RX3) (T := TX3) (N := 12) hx hb hts (tw_cs in_X3) hown hK hT (cs_kX hS) (by decide) rfl 6 (by decide) (hts _ (tw_c tw_53)) rfl dX3_runOut_92 ?_
        refine lv_topi (fun g12 eg12 => ?_)
        refine lv_icmp_lt (tgt := 107) hx hb dX3_runOut_95 (by decide) (fun c95 => ?_) (fun c95 => ?_)
        · skip
          refine lv_aload_n hx hb dX3_runOut_107 rfl (lv_at hl 0 rfl) ?_
          refine lv_iconst (v := 0) hx hb dX3_runOut_108 (by decide) ?_
          refine hv_puti (ci := 2) (C := RX2) (T := TX2) (N := 10) hx hb hts (tw_cs in_X2) tyX2 tyX2_ok nmX2 hown hK hT (cs_ks hS hi) (by decide) rfl 6 (by decide) (hts _ (tw_c tw_85)) rfl rfl (x := 0) rfl rfl dX3_runOut_109 (fun H locs hT => ?_)
          have hI := ci_put (f := 206) (a := (fa (16 + i))) (x := 0) rfl hI
          have hS := hI.1
          refine lv_aload_n hx hb dX3_runOut_112 rfl (lv_at hl 1 rfl) ?_
          refine lv_aload_n hx hb dX3_runOut_113 rfl (lv_at hl 0 rfl) ?_
          refine lv_aload_n hx hb dX3_runOut_114 rfl (lv_at hl 1 rfl) ?_
          refine hv_geti (ci := 3) (C := RX3) (T := TX3) (N := 12) hx hb hts (tw_cs in_X3) hown hK hT (cs_kX hS) (by decide) rfl 7 (by decide) (hts _ (tw_c tw_54)) rfl dX3_runOut_115 ?_
          refine lv_topi (fun g13 eg13 => ?_)
          obtain ⟨q14, h5q14, h100q14, hq14⟩ := hI.2.1.2.2.2.1
          have eg13 : g13 = (nI q14) := by rw [eg13]; exact hq14
          subst eg13
          refine lv_iload_n hx hb dX3_runOut_118 rfl (lv_at hl 2 rfl) ?_
          refine lv_iadd hx hb dX3_runOut_119 ?_
          refine hv_as (x := ((nI q14) + (nI i))) (y := (nI (q14 + i))) (nI_add _ _) ?_
          refine hv_callv (va_runV (As := [.ref (fa (16 + i)), .int (nI (q14 + i))]) (rest := []) ⟨hx, hb, hml, hown, hts⟩ (c_setTimer l D tc hI hi (q := (q14 + i)) (by have h8 := cs_lt8 hS hi; omega)) (cwV 2 hts (tw_V tw_167 tw_168 tw_489 tw_1 tw_169) rfl rfl rfl (by decide +kernel) ⟨Nat.le_of_ble_eq_true rfl, Nat.le_of_ble_eq_true rfl⟩) (hv_preV (ci := 3) hK hT.1 (cs_kX hS) (by decide) rfl rfl) rfl rfl hl.1 rfl (lv_room (Nat.le_of_ble_eq_true rfl)) dX3_runOut_120 ⟨by show 0 + 0 + 0 + 0 + 0 ≤ 16; omega, by show 0 + 0 + 0 + 0 + 0 ≤ 128; omega⟩) hT (fun v15 H locs hp16 hT => ?_)
          have hI := hp16
          have hS := hI.1
          exact hret _ v15 _ _ _ _ _ dX3_runOut_123 hT ⟨_, hI⟩ (by show 0 + 0 + 0 + 0 + 0 ≤ 16; omega) (by show 0 + 0 + 0 + 0 + 0 ≤ 128; omega)
        · skip
          refine lv_aload_n hx hb dX3_runOut_98 rfl (lv_at hl 1 rfl) ?_
          refine lv_iload_n hx hb dX3_runOut_99 rfl (lv_at hl 2 rfl) ?_
          refine lv_iconst (v := 3) hx hb dX3_runOut_100 (by decide) ?_
          refine hv_callv (va_runV (As := [.int (nI i), .int 3]) (rest := []) ⟨hx, hb, hml, hown, hts⟩ (c_lead l D tc hI hi hh 3) (cwV 2 hts (tw_V tw_174 tw_175 tw_490 tw_1 tw_176) rfl rfl rfl (by decide +kernel) ⟨Nat.le_of_ble_eq_true rfl, Nat.le_of_ble_eq_true rfl⟩) (hv_preV (ci := 3) hK hT.1 (cs_kX hS) (by decide) rfl rfl) rfl rfl hl.1 rfl (lv_room (Nat.le_of_ble_eq_true rfl)) dX3_runOut_101 ⟨by show 0 + 0 + 0 + 0 + 16 ≤ 16; omega, by show 0 + 0 + 0 + 0 + 128 ≤ 128; omega⟩) hT (fun v17 H locs hp18 hT => ?_)
          obtain ⟨_, hI⟩ := hp18
          have hS := hI.1
          refine lv_goto (tgt := 123) hx hb dX3_runOut_104 (by decide) ?_
          exact hret _ v17 _ _ _ _ _ dX3_runOut_123 hT ⟨_, hI⟩ (by show 0 + 0 + 0 + 0 + 16 ≤ 16; omega) (by show 0 + 0 + 0 + 0 + 128 ≤ 128; omega)
      · skip
        refine lv_aload_n hx hb dX3_runOut_49 rfl (lv_at hl 1 rfl) ?_
        refine lv_aload_n hx hb dX3_runOut_50 rfl (lv_at hl 0 rfl) ?_
        refine lv_iconst (v := 1) hx hb dX3_runOut_51 (by decide) ?_
        refine hv_calli (va_runV (As := [.ref (fa (16 + i)), .int 1]) (rest := []) ⟨hx, hb, hml, hown, hts⟩ (c_toldWeight l D tc hS hI.2.1.1 hi 1) (cwV 2 hts (tw_V tw_223 tw_224 tw_497 tw_1 tw_225) rfl rfl rfl (by decide +kernel) ⟨Nat.le_of_ble_eq_true rfl, Nat.le_of_ble_eq_true rfl⟩) (hv_preV (ci := 3) hK hT.1 (cs_kX hS) (by decide) rfl rfl) rfl rfl hl.1 rfl (lv_room (Nat.le_of_ble_eq_true rfl)) dX3_runOut_52 ⟨by show 0 + 0 + 0 ≤ 16; omega, by show 0 + 0 + 0 ≤ 128; omega⟩) hT (fun r21 v19 H locs hp20 hT => ?_)
        rw [hp20] at hT
        refine lv_aload_n hx hb dX3_runOut_55 rfl (lv_at hl 1 rfl) ?_
        refine lv_aload_n hx hb dX3_runOut_56 rfl (lv_at hl 0 rfl) ?_
        refine lv_iconst (v := 2) hx hb dX3_runOut_57 (by decide) ?_
        refine hv_calli (va_runV (As := [.ref (fa (16 + i)), .int 2]) (rest := [.int r21]) ⟨hx, hb, hml, hown, hts⟩ (c_toldWeight l D tc hS hI.2.1.1 hi 2) (cwV 2 hts (tw_V tw_223 tw_224 tw_497 tw_1 tw_225) rfl rfl rfl (by decide +kernel) ⟨Nat.le_of_ble_eq_true rfl, Nat.le_of_ble_eq_true rfl⟩) (hv_preV (ci := 3) hK hT.1 (cs_kX hS) (by decide) rfl rfl) rfl rfl hl.1 rfl (lv_room (Nat.le_of_ble_eq_true rfl)) dX3_runOut_58 ⟨by show 0 + 0 + 0 + 0 ≤ 16; omega, by show 0 + 0 + 0 + 0 ≤ 128; omega⟩) hT (fun r24 v22 H locs hp23 hT => ?_)
        rw [hp23] at hT
        refine lv_iadd hx hb dX3_runOut_61 ?_
        refine lv_aload_n hx hb dX3_runOut_62 rfl (lv_at hl 1 rfl) ?_
        refine hv_geti (ci := 3) (C := RX3) (T := TX3) (N := 12) hx hb hts (tw_cs in_X3) hown hK hT (cs_kX hS) (by decide) rfl 5 (by decide) (hts _ (tw_c tw_52)) rfl dX3_runOut_63 ?_
        refine lv_topi (fun g25 eg25 => ?_)
        refine lv_icmp_lt (tgt := 78) hx hb dX3_runOut_66 (by decide) (fun c66 => ?_) (fun c66 => ?_)
        · skip
          refine lv_aload_n hx hb dX3_runOut_78 rfl (lv_at hl 1 rfl) ?_
          refine lv_aload_n hx hb dX3_runOut_79 rfl (lv_at hl 0 rfl) ?_
          refine lv_iconst (v := 1) hx hb dX3_runOut_80 (by decide) ?_
          refine hv_calli (va_runV (As := [.ref (fa (16 + i)), .int 1]) (rest := []) ⟨hx, hb, hml, hown, hts⟩ (c_toldWeight l D tc hS hI.2.1.1 hi 1) (cwV 2 hts (tw_V tw_223 tw_224 tw_497 tw_1 tw_225) rfl rfl rfl (by decide +kernel) ⟨Nat.le_of_ble_eq_true rfl, Nat.le_of_ble_eq_true rfl⟩) (hv_preV (ci := 3) hK hT.1 (cs_kX hS) (by decide) rfl rfl) rfl rfl hl.1 rfl (lv_room (Nat.le_of_ble_eq_true rfl)) dX3_runOut_81 ⟨by show 0 + 0 + 0 + 0 + 0 ≤ 16; omega, by show 0 + 0 + 0 + 0 + 0 ≤ 128; omega⟩) hT (fun r28 v26 H locs hp27 hT => ?_)
          rw [hp27] at hT
          refine lv_aload_n hx hb dX3_runOut_84 rfl (lv_at hl 1 rfl) ?_
          refine lv_aload_n hx hb dX3_runOut_85 rfl (lv_at hl 0 rfl) ?_
          refine lv_iconst (v := 3) hx hb dX3_runOut_86 (by decide) ?_
          refine hv_calli (va_runV (As := [.ref (fa (16 + i)), .int 3]) (rest := [.int r28]) ⟨hx, hb, hml, hown, hts⟩ (c_toldWeight l D tc hS hI.2.1.1 hi 3) (cwV 2 hts (tw_V tw_223 tw_224 tw_497 tw_1 tw_225) rfl rfl rfl (by decide +kernel) ⟨Nat.le_of_ble_eq_true rfl, Nat.le_of_ble_eq_true rfl⟩) (hv_preV (ci := 3) hK hT.1 (cs_kX hS) (by decide) rfl rfl) rfl rfl hl.1 rfl (lv_room (Nat.le_of_ble_eq_true rfl)) dX3_runOut_87 ⟨by show 0 + 0 + 0 + 0 + 0 + 0 ≤ 16; omega, by show 0 + 0 + 0 + 0 + 0 + 0 ≤ 128; omega⟩) hT (fun r31 v29 H locs hp30 hT => ?_)
          rw [hp30] at hT
          refine lv_iadd hx hb dX3_runOut_90 ?_
          refine lv_aload_n hx hb dX3_runOut_91 rfl (lv_at hl 1 rfl) ?_
          refine hv_geti (ci := 3) (C := RX3) (T := TX3) (N := 12) hx hb hts (tw_cs in_X3) hown hK hT (cs_kX hS) (by decide) rfl 6 (by decide) (hts _ (tw_c tw_53)) rfl dX3_runOut_92 ?_
          refine lv_topi (fun g32 eg32 => ?_)
          refine lv_icmp_lt (tgt := 107) hx hb dX3_runOut_95 (by decide) (fun c95 => ?_) (fun c95 => ?_)
          · skip
            refine lv_aload_n hx hb dX3_runOut_107 rfl (lv_at hl 0 rfl) ?_
            refine lv_iconst (v := 0) hx hb dX3_runOut_108 (by decide) ?_
            refine hv_puti (ci := 2) (C := RX2) (T := TX2) (N := 10) hx hb hts (tw_cs in_X2) tyX2 tyX2_ok nmX2 hown hK hT (cs_ks hS hi) (by decide) rfl 6 (by decide) (hts _ (tw_c tw_85)) rfl rfl (x := 0) rfl rfl dX3_runOut_109 (fun H locs hT => ?_)
            have hI := ci_put (f := 206) (a := (fa (16 + i))) (x := 0) rfl hI
            have hS := hI.1
            refine lv_aload_n hx hb dX3_runOut_112 rfl (lv_at hl 1 rfl) ?_
            refine lv_aload_n hx hb dX3_runOut_113 rfl (lv_at hl 0 rfl) ?_
            refine lv_aload_n hx hb dX3_runOut_114 rfl (lv_at hl 1 rfl) ?_
            refine hv_geti (ci := 3) (C := RX3) (T := TX3) (N := 12) hx hb hts (tw_cs in_X3) hown hK hT (cs_kX hS) (by decide) rfl 7 (by decide) (hts _ (tw_c tw_54)) rfl dX3_runOut_115 ?_
            refine lv_topi (fun g33 eg33 => ?_)
            obtain ⟨q34, h5q34, h100q34, hq34⟩ := hI.2.1.2.2.2.1
            have eg33 : g33 = (nI q34) := by rw [eg33]; exact hq34
            subst eg33
            refine lv_iload_n hx hb dX3_runOut_118 rfl (lv_at hl 2 rfl) ?_
            refine lv_iadd hx hb dX3_runOut_119 ?_
            refine hv_as (x := ((nI q34) + (nI i))) (y := (nI (q34 + i))) (nI_add _ _) ?_
            refine hv_callv (va_runV (As := [.ref (fa (16 + i)), .int (nI (q34 + i))]) (rest := []) ⟨hx, hb, hml, hown, hts⟩ (c_setTimer l D tc hI hi (q := (q34 + i)) (by have h8 := cs_lt8 hS hi; omega)) (cwV 2 hts (tw_V tw_167 tw_168 tw_489 tw_1 tw_169) rfl rfl rfl (by decide +kernel) ⟨Nat.le_of_ble_eq_true rfl, Nat.le_of_ble_eq_true rfl⟩) (hv_preV (ci := 3) hK hT.1 (cs_kX hS) (by decide) rfl rfl) rfl rfl hl.1 rfl (lv_room (Nat.le_of_ble_eq_true rfl)) dX3_runOut_120 ⟨by show 0 + 0 + 0 + 0 + 0 + 0 + 0 ≤ 16; omega, by show 0 + 0 + 0 + 0 + 0 + 0 + 0 ≤ 128; omega⟩) hT (fun v35 H locs hp36 hT => ?_)
            have hI := hp36
            have hS := hI.1
            exact hret _ v35 _ _ _ _ _ dX3_runOut_123 hT ⟨_, hI⟩ (by show 0 + 0 + 0 + 0 + 0 + 0 + 0 ≤ 16; omega) (by show 0 + 0 + 0 + 0 + 0 + 0 + 0 ≤ 128; omega)
          · skip
            refine lv_aload_n hx hb dX3_runOut_98 rfl (lv_at hl 1 rfl) ?_
            refine lv_iload_n hx hb dX3_runOut_99 rfl (lv_at hl 2 rfl) ?_
            refine lv_iconst (v := 3) hx hb dX3_runOut_100 (by decide) ?_
            refine hv_callv (va_runV (As := [.int (nI i), .int 3]) (rest := []) ⟨hx, hb, hml, hown, hts⟩ (c_lead l D tc hI hi hh 3) (cwV 2 hts (tw_V tw_174 tw_175 tw_490 tw_1 tw_176) rfl rfl rfl (by decide +kernel) ⟨Nat.le_of_ble_eq_true rfl, Nat.le_of_ble_eq_true rfl⟩) (hv_preV (ci := 3) hK hT.1 (cs_kX hS) (by decide) rfl rfl) rfl rfl hl.1 rfl (lv_room (Nat.le_of_ble_eq_true rfl)) dX3_runOut_101 ⟨by show 0 + 0 + 0 + 0 + 0 + 0 + 16 ≤ 16; omega, by show 0 + 0 + 0 + 0 + 0 + 0 + 128 ≤ 128; omega⟩) hT (fun v37 H locs hp38 hT => ?_)
            obtain ⟨_, hI⟩ := hp38
            have hS := hI.1
            refine lv_goto (tgt := 123) hx hb dX3_runOut_104 (by decide) ?_
            exact hret _ v37 _ _ _ _ _ dX3_runOut_123 hT ⟨_, hI⟩ (by show 0 + 0 + 0 + 0 + 0 + 0 + 16 ≤ 16; omega) (by show 0 + 0 + 0 + 0 + 0 + 0 + 128 ≤ 128; omega)
        · skip
          refine lv_aload_n hx hb dX3_runOut_69 rfl (lv_at hl 1 rfl) ?_
          refine lv_iload_n hx hb dX3_runOut_70 rfl (lv_at hl 2 rfl) ?_
          refine lv_iconst (v := 2) hx hb dX3_runOut_71 (by decide) ?_
          refine hv_callv (va_runV (As := [.int (nI i), .int 2]) (rest := []) ⟨hx, hb, hml, hown, hts⟩ (c_lead l D tc hI hi hh 2) (cwV 2 hts (tw_V tw_174 tw_175 tw_490 tw_1 tw_176) rfl rfl rfl (by decide +kernel) ⟨Nat.le_of_ble_eq_true rfl, Nat.le_of_ble_eq_true rfl⟩) (hv_preV (ci := 3) hK hT.1 (cs_kX hS) (by decide) rfl rfl) rfl rfl hl.1 rfl (lv_room (Nat.le_of_ble_eq_true rfl)) dX3_runOut_72 ⟨by show 0 + 0 + 0 + 0 + 16 ≤ 16; omega, by show 0 + 0 + 0 + 0 + 128 ≤ 128; omega⟩) hT (fun v39 H locs hp40 hT => ?_)
          obtain ⟨_, hI⟩ := hp40
          have hS := hI.1
          refine lv_goto (tgt := 123) hx hb dX3_runOut_75 (by decide) ?_
          exact hret _ v39 _ _ _ _ _ dX3_runOut_123 hT ⟨_, hI⟩ (by show 0 + 0 + 0 + 0 + 16 ≤ 16; omega) (by show 0 + 0 + 0 + 0 + 128 ≤ 128; omega)
    · skip
      refine lv_aload_n hx hb dX3_runOut_32 rfl (lv_at hl 1 rfl) ?_
      refine lv_iload_n hx hb dX3_runOut_33 rfl (lv_at hl 2 rfl) ?_
      refine hv_callv (va_runV (As := [.int (nI i)]) (rest := []) ⟨hx, hb, hml, hown, hts⟩ (c_attempt l D tc hI hi hh) (cwV 1 hts (tw_V tw_194 tw_195 tw_493 tw_1 tw_196) rfl rfl rfl (by decide +kernel) ⟨Nat.le_of_ble_eq_true rfl, Nat.le_of_ble_eq_true rfl⟩) (hv_preV (ci := 3) hK hT.1 (cs_kX hS) (by decide) rfl rfl) rfl rfl hl.1 rfl (lv_room (Nat.le_of_ble_eq_true rfl)) dX3_runOut_34 ⟨by show 0 + 8 ≤ 16; omega, by show 0 + 64 ≤ 128; omega⟩) hT (fun v41 H locs hp42 hT => ?_)
      obtain ⟨_, hI⟩ := hp42
      have hS := hI.1
      refine lv_goto (tgt := 123) hx hb dX3_runOut_37 (by decide) ?_
      exact hret _ v41 _ _ _ _ _ dX3_runOut_123 hT ⟨_, hI⟩ (by show 0 + 8 ≤ 16; omega) (by show 0 + 64 ≤ 128; omega)
  · skip
    refine lv_aload_n hx hb dX3_runOut_15 rfl (lv_at hl 1 rfl) ?_
    refine lv_iload_n hx hb dX3_runOut_16 rfl (lv_at hl 2 rfl) ?_
    refine lv_iconst (v := 5) hx hb dX3_runOut_17 (by decide) ?_
    refine hv_callv (va_runV (As := [.int (nI i), .int 5]) (rest := []) ⟨hx, hb, hml, hown, hts⟩ (c_decide l D tc hI hi hh 5) (cwV 2 hts (tw_V tw_180 tw_181 tw_492 tw_1 tw_182) rfl rfl rfl (by decide +kernel) ⟨Nat.le_of_ble_eq_true rfl, Nat.le_of_ble_eq_true rfl⟩) (hv_preV (ci := 3) hK hT.1 (cs_kX hS) (by decide) rfl rfl) rfl rfl hl.1 rfl (lv_room (Nat.le_of_ble_eq_true rfl)) dX3_runOut_18 ⟨by show 0 + 8 ≤ 16; omega, by show 0 + 64 ≤ 128; omega⟩) hT (fun v43 H locs hp44 hT => ?_)
    obtain ⟨_, hI⟩ := hp44
    have hS := hI.1
    refine lv_goto (tgt := 123) hx hb dX3_runOut_21 (by decide) ?_
    exact hret _ v43 _ _ _ _ _ dX3_runOut_123 hT ⟨_, hI⟩ (by show 0 + 8 ≤ 16; omega) (by show 0 + 64 ≤ 128; omega)
