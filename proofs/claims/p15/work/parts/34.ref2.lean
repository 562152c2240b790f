theorem rf_lb {B B1 P s0 g g0 f : Nat} (h : B + 63 ≤ B1 ∨ g0 = 1 ∧ B ≤ B1) (hg : g ≠ 1) (hP : P + rf_c s0 g0 f ≤ B) : P + rf_c s0 g f ≤ B1 - 63 := by
  unfold rf_c at *
  rw [if_neg hg]
  rcases h with h | ⟨h, h1⟩
  · have : (if g0 = 1 then 63 else 0) ≥ 0 := Nat.zero_le _
    omega
  · rw [if_pos h] at hP; omega
theorem rf_lc {B P s0 g g0 f : Nat} (hg : g ≠ 1) (hP : P + rf_c s0 g0 f ≤ B) : P + rf_c s0 g f ≤ B := by
  unfold rf_c at *
  rw [if_neg hg]
  omega
theorem rf_63 {ra gh : Nat → Nat} {n b B t nm : Nat} {st dg F kd : Nat → Nat} {v : hv_V} (h : rf_J ra gh n b B t nm st dg F kd v) {i : Nat} (hi : i < 8) (h4 : dg i = 1) : 63 ≤ B := by
  have h1 := h.2.2.2.2.1.2.2.2.2.2.2.2
  have h2 := ci_sum_ge (f := fun j => rf_c (st j) (dg j) (F j)) hi
  have h3 : 63 ≤ rf_c (st i) (dg i) (F i) := by unfold rf_c; rw [if_pos h4]; omega
  omega
theorem rf_64 {ra gh : Nat → Nat} {n b B t nm : Nat} {st dg F kd : Nat → Nat} {v : hv_V} (h : rf_J ra gh n b B t nm st dg F kd v) {i : Nat} (hi : i < 8) (h4 : 5 * (F i + 1) ≤ t) : 64 ≤ B := by
  have h0 := rf_t4 h
  have h1 := h.2.2.2.2.1.2.2.2.2.2.2.2
  have h2 := ci_sum_ge (f := fun j => rf_c (st j) (dg j) (F j)) hi
  have h3 : 64 ≤ rf_c (st i) (dg i) (F i) := by unfold rf_c; omega
  omega

set_option maxHeartbeats 4000000 in
set_option maxRecDepth 100000 in
theorem m_checkQuorum (l : Launch) (D : va_G) (tc : Nat → ClassId) {ra gh : Nat → Nat} {n B t nm : Nat} {st dg F kd : Nat → Nat} {v : hv_V} (hI : rf_J ra gh n 1 B t nm st dg F kd v) {i : Nat} (hi : i < n) (h479 : B < 479700) : Met l yX4_checkQuorum (Cond.code yX4_checkQuorum cX4_checkQuorum 3 none :: lw_B) ({ frames := 3, cells := 0, slots := 0, locals := 72 }) (va_Pc [.ref (ra 0), .int (nI i)] (hv_Pre D tc v)) (va_Qv (fun (v1 : hv_V) => ∃ nm1 st1 dg1 kd1, rf_J ra gh n 1 B t nm1 st1 dg1 F kd1 v1) (hv_Post D tc (hv_A v)) (hv_A v)) (0) (0) (hv_A v) := by
  refine hv_metv l (by decide) (Nat.le_of_ble_eq_true rfl) ?_
  intro p e s m args below meth c Q X hret hK hz H locs ls hT hl
  obtain ⟨hx, hb, hml, hts, hown, hin0⟩ := X
  have hown : s.vm.findClass "CommitSitesModel" = some m.cls := hown
  have hl : lv_has ls 3 [(0, .ref (ra 0)), (1, .int (nI i))] := hl
  have hS := hI.1
  have hI0 := hI
  have hdg4 := rf_dg4 hI (rf_lt8 hI hi)
  have hst5 := rf_st5 hI (rf_lt8 hI hi)
  refine lv_aload_n hx hb dX4_checkQuorum_0 rfl (lv_at hl 0 rfl) ?_
  refine lv_iload_n hx hb dX4_checkQuorum_1 rfl (lv_at hl 1 rfl) ?_
  refine hv_calli (va_runV (As := [.int (nI i)]) (rest := []) ⟨hx, hb, hml, hown, hts⟩ (m_weightThere l D tc hI hi) (cwV 1 hts (tw_V tw_404 tw_405 tw_519 tw_3 tw_406) rfl rfl rfl (by decide +kernel) ⟨Nat.le_of_ble_eq_true rfl, Nat.le_of_ble_eq_true rfl⟩) (hv_preV (ci := 4) hK hT.1 (rs_k0 hS) (by decide) rfl rfl) rfl rfl hl.1 rfl (lv_room (Nat.le_of_ble_eq_true rfl)) dX4_checkQuorum_2 ⟨Nat.le_of_ble_eq_true rfl, Nat.le_of_ble_eq_true rfl⟩) hT (fun r3 v1 H locs hp2 hT => ?_)
  rw [hp2] at hT
  refine lv_istore_n (lv' := [(2, _), (0, _), (1, _)]) hx hb dX4_checkQuorum_5 rfl hl (by decide) rfl (fun ls hl => ?_)
  refine lv_aload_n hx hb dX4_checkQuorum_6 rfl (lv_at hl 1 rfl) ?_
  refine hv_gets (ci := 4) (C := RX4) (T := TX4) (N := 34) hx hb hts (tw_cs in_X4) hown hK hT (rs_k0 hS) (by decide) rfl 18 (by decide) (hts _ (tw_c tw_330)) rfl (x := (ra 18)) (rs_p18 hS) dX4_checkQuorum_7 ?_
  refine lv_iload_n hx hb dX4_checkQuorum_10 rfl (lv_at hl 2 rfl) ?_
  refine hv_iald hx hb hK hT (rs_k18 hS) (cs_in8 (rf_lt8 hI0 hi)) dX4_checkQuorum_11 ?_
  refine lv_topi (fun g4 eg4 => ?_)
  have eg4 : g4 = nI (dg i) := by rw [eg4]; exact rf_gdg hI (rf_lt8 hI0 hi)
  subst eg4
  refine lv_iconst (v := 2) hx hb dX4_checkQuorum_12 (by decide) ?_
  refine lv_icmp_ne (tgt := 33) hx hb dX4_checkQuorum_13 (by decide) (fun c13 => ?_) (fun c13 => ?_)
  · skip
    refine lv_aload_n hx hb dX4_checkQuorum_33 rfl (lv_at hl 1 rfl) ?_
    refine hv_gets (ci := 4) (C := RX4) (T := TX4) (N := 34) hx hb hts (tw_cs in_X4) hown hK hT (rs_k0 hS) (by decide) rfl 18 (by decide) (hts _ (tw_c tw_330)) rfl (x := (ra 18)) (rs_p18 hS) dX4_checkQuorum_34 ?_
    refine lv_iload_n hx hb dX4_checkQuorum_37 rfl (lv_at hl 2 rfl) ?_
    refine hv_iald hx hb hK hT (rs_k18 hS) (cs_in8 (rf_lt8 hI0 hi)) dX4_checkQuorum_38 ?_
    refine lv_topi (fun g5 eg5 => ?_)
    have eg5 : g5 = nI (dg i) := by rw [eg5]; exact rf_gdg hI (rf_lt8 hI0 hi)
    subst eg5
    refine lv_iconst (v := 4) hx hb dX4_checkQuorum_39 (by decide) ?_
    refine lv_icmp_ne (tgt := 57) hx hb dX4_checkQuorum_40 (by decide) (fun c40 => ?_) (fun c40 => ?_)
    · skip
      exact hret _ v _ _ _ _ _ dX4_checkQuorum_57 hT ⟨_, _, _, _, hI⟩ (by decide) (by decide)
    · skip
      refine lv_iload_n hx hb dX4_checkQuorum_43 rfl (lv_at hl 0 rfl) ?_
      refine lv_aload_n hx hb dX4_checkQuorum_44 rfl (lv_at hl 1 rfl) ?_
      refine hv_geti (ci := 4) (C := RX4) (T := TX4) (N := 34) hx hb hts (tw_cs in_X4) hown hK hT (rs_k0 hS) (by decide) rfl 4 (by decide) (hts _ (tw_c tw_316)) rfl dX4_checkQuorum_45 ?_
      refine lv_topi (fun g6 eg6 => ?_)
      refine lv_icmp_lt (tgt := 57) hx hb dX4_checkQuorum_48 (by decide) (fun c48 => ?_) (fun c48 => ?_)
      · skip
        exact hret _ v _ _ _ _ _ dX4_checkQuorum_57 hT ⟨_, _, _, _, hI⟩ (by decide) (by decide)
      · skip
        refine lv_aload_n hx hb dX4_checkQuorum_51 rfl (lv_at hl 1 rfl) ?_
        refine lv_iload_n hx hb dX4_checkQuorum_52 rfl (lv_at hl 2 rfl) ?_
        refine lv_iconst (v := 5) hx hb dX4_checkQuorum_53 (by decide) ?_
        refine hv_callv (va_runV (As := [.int (nI i), .int 5]) (rest := []) ⟨hx, hb, hml, hown, hts⟩ (m_decide l D tc hI hi (by omega) (sv := 5) (by omega) (by omega) (rf_d4 hI (rf_lt8 hI0 hi) (by have := nI_lit (k := 4) c40; omega))) (cwV 2 hts (tw_V tw_377 tw_378 tw_510 tw_3 tw_379) rfl rfl rfl (by decide +kernel) ⟨Nat.le_of_ble_eq_true rfl, Nat.le_of_ble_eq_true rfl⟩) (hv_preV (ci := 4) hK hT.1 (rs_k0 hS) (by decide) rfl rfl) rfl rfl hl.1 rfl (lv_room (Nat.le_of_ble_eq_true rfl)) dX4_checkQuorum_54 ⟨Nat.le_of_ble_eq_true rfl, Nat.le_of_ble_eq_true rfl⟩) hT (fun v7 H locs hp8 hT => ?_)
        obtain ⟨nm9, st10, dg11, kd12, hI⟩ := hp8
        have hS := hI.1
        exact hret _ v7 _ _ _ _ _ dX4_checkQuorum_57 hT ⟨_, _, _, _, hI⟩ (by decide) (by decide)
  · skip
    refine lv_iload_n hx hb dX4_checkQuorum_16 rfl (lv_at hl 0 rfl) ?_
    refine lv_aload_n hx hb dX4_checkQuorum_17 rfl (lv_at hl 1 rfl) ?_
    refine hv_geti (ci := 4) (C := RX4) (T := TX4) (N := 34) hx hb hts (tw_cs in_X4) hown hK hT (rs_k0 hS) (by decide) rfl 3 (by decide) (hts _ (tw_c tw_315)) rfl dX4_checkQuorum_18 ?_
    refine lv_topi (fun g13 eg13 => ?_)
    refine lv_icmp_lt (tgt := 33) hx hb dX4_checkQuorum_21 (by decide) (fun c21 => ?_) (fun c21 => ?_)
    · skip
      refine lv_aload_n hx hb dX4_checkQuorum_33 rfl (lv_at hl 1 rfl) ?_
      refine hv_gets (ci := 4) (C := RX4) (T := TX4) (N := 34) hx hb hts (tw_cs in_X4) hown hK hT (rs_k0 hS) (by decide) rfl 18 (by decide) (hts _ (tw_c tw_330)) rfl (x := (ra 18)) (rs_p18 hS) dX4_checkQuorum_34 ?_
      refine lv_iload_n hx hb dX4_checkQuorum_37 rfl (lv_at hl 2 rfl) ?_
      refine hv_iald hx hb hK hT (rs_k18 hS) (cs_in8 (rf_lt8 hI0 hi)) dX4_checkQuorum_38 ?_
      refine lv_topi (fun g14 eg14 => ?_)
      have eg14 : g14 = nI (dg i) := by rw [eg14]; exact rf_gdg hI (rf_lt8 hI0 hi)
      subst eg14
      refine lv_iconst (v := 4) hx hb dX4_checkQuorum_39 (by decide) ?_
      refine lv_icmp_ne (tgt := 57) hx hb dX4_checkQuorum_40 (by decide) (fun c40 => ?_) (fun c40 => ?_)
      · skip
        exact hret _ v _ _ _ _ _ dX4_checkQuorum_57 hT ⟨_, _, _, _, hI⟩ (by decide) (by decide)
      · skip
        refine lv_iload_n hx hb dX4_checkQuorum_43 rfl (lv_at hl 0 rfl) ?_
        refine lv_aload_n hx hb dX4_checkQuorum_44 rfl (lv_at hl 1 rfl) ?_
        refine hv_geti (ci := 4) (C := RX4) (T := TX4) (N := 34) hx hb hts (tw_cs in_X4) hown hK hT (rs_k0 hS) (by decide) rfl 4 (by decide) (hts _ (tw_c tw_316)) rfl dX4_checkQuorum_45 ?_
        refine lv_topi (fun g15 eg15 => ?_)
        refine lv_icmp_lt (tgt := 57) hx hb dX4_checkQuorum_48 (by decide) (fun c48 => ?_) (fun c48 => ?_)
        · skip
          exact hret _ v _ _ _ _ _ dX4_checkQuorum_57 hT ⟨_, _, _, _, hI⟩ (by decide) (by decide)
        · skip
          refine lv_aload_n hx hb dX4_checkQuorum_51 rfl (lv_at hl 1 rfl) ?_
          refine lv_iload_n hx hb dX4_checkQuorum_52 rfl (lv_at hl 2 rfl) ?_
          refine lv_iconst (v := 5) hx hb dX4_checkQuorum_53 (by decide) ?_
          refine hv_callv (va_runV (As := [.int (nI i), .int 5]) (rest := []) ⟨hx, hb, hml, hown, hts⟩ (m_decide l D tc hI hi (by omega) (sv := 5) (by omega) (by omega) (rf_d4 hI (rf_lt8 hI0 hi) (by have := nI_lit (k := 4) c40; omega))) (cwV 2 hts (tw_V tw_377 tw_378 tw_510 tw_3 tw_379) rfl rfl rfl (by decide +kernel) ⟨Nat.le_of_ble_eq_true rfl, Nat.le_of_ble_eq_true rfl⟩) (hv_preV (ci := 4) hK hT.1 (rs_k0 hS) (by decide) rfl rfl) rfl rfl hl.1 rfl (lv_room (Nat.le_of_ble_eq_true rfl)) dX4_checkQuorum_54 ⟨Nat.le_of_ble_eq_true rfl, Nat.le_of_ble_eq_true rfl⟩) hT (fun v16 H locs hp17 hT => ?_)
          obtain ⟨nm18, st19, dg20, kd21, hI⟩ := hp17
          have hS := hI.1
          exact hret _ v16 _ _ _ _ _ dX4_checkQuorum_57 hT ⟨_, _, _, _, hI⟩ (by decide) (by decide)
    · skip
      refine lv_aload_n hx hb dX4_checkQuorum_24 rfl (lv_at hl 1 rfl) ?_
      refine lv_iload_n hx hb dX4_checkQuorum_25 rfl (lv_at hl 2 rfl) ?_
      refine lv_iconst (v := 4) hx hb dX4_checkQuorum_26 (by decide) ?_
      refine hv_callv (va_runV (As := [.int (nI i), .int 4]) (rest := []) ⟨hx, hb, hml, hown, hts⟩ (m_decide l D tc hI hi (by omega) (sv := 4) (by omega) (by omega) (rf_d4 hI (rf_lt8 hI0 hi) (by have := nI_lit (k := 2) c13; omega))) (cwV 2 hts (tw_V tw_377 tw_378 tw_510 tw_3 tw_379) rfl rfl rfl (by decide +kernel) ⟨Nat.le_of_ble_eq_true rfl, Nat.le_of_ble_eq_true rfl⟩) (hv_preV (ci := 4) hK hT.1 (rs_k0 hS) (by decide) rfl rfl) rfl rfl hl.1 rfl (lv_room (Nat.le_of_ble_eq_true rfl)) dX4_checkQuorum_27 ⟨Nat.le_of_ble_eq_true rfl, Nat.le_of_ble_eq_true rfl⟩) hT (fun v22 H locs hp23 hT => ?_)
      obtain ⟨nm24, st25, dg26, kd27, hI⟩ := hp23
      have hS := hI.1
      refine lv_goto (tgt := 57) hx hb dX4_checkQuorum_30 (by decide) ?_
      exact hret _ v22 _ _ _ _ _ dX4_checkQuorum_57 hT ⟨_, _, _, _, hI⟩ (by decide) (by decide)

set_option maxHeartbeats 4000000 in
set_option maxRecDepth 100000 in
theorem m_lead (l : Launch) (D : va_G) (tc : Nat → ClassId) {ra gh : Nat → Nat} {n B t nm : Nat} {st dg F kd : Nat → Nat} {v : hv_V} (hI : rf_J ra gh n 1 B t nm st dg F kd v) {i : Nat} (hi : i < n) {sv : Nat} (hs2 : 2 ≤ sv) (hs3 : sv ≤ 3) (h4 : st i < 4) {B2 : Nat} (hB2 : B + 63 ≤ B2 ∨ dg i = 1 ∧ B ≤ B2) (h479 : B2 < 479700) : Met l yX4_lead (Cond.code yX4_lead cX4_lead 3 none :: lw_B) ({ frames := 4, cells := 0, slots := 0, locals := 94 }) (va_Pc [.ref (ra 0), .int (nI i), .int (nI sv)] (hv_Pre D tc v)) (va_Qv (fun (v1 : hv_V) => ∃ nm1 st1 dg1 kd1, rf_J ra gh n 1 B2 t nm1 st1 dg1 F kd1 v1) (hv_Post D tc (hv_A v)) (hv_A v)) (0) (0) (hv_A v) := by
  refine hv_metv l (by decide) (Nat.le_of_ble_eq_true rfl) ?_
  intro p e s m args below meth c Q X hret hK hz H locs ls hT hl
  obtain ⟨hx, hb, hml, hts, hown, hin0⟩ := X
  have hown : s.vm.findClass "CommitSitesModel" = some m.cls := hown
  have hl : lv_has ls 3 [(0, .ref (ra 0)), (1, .int (nI i)), (2, .int (nI sv))] := hl
  have hS := hI.1
  have hI0 := hI
  have hdg4 := rf_dg4 hI (rf_lt8 hI hi)
  have hst5 := rf_st5 hI (rf_lt8 hI hi)
  have h63 : 63 ≤ B2 := by
    rcases hB2 with q | ⟨q, q1⟩
    · omega
    · have := rf_63 hI (rf_lt8 hI hi) q; omega
  refine lv_aload_n hx hb dX4_lead_0 rfl (lv_at hl 0 rfl) ?_
  refine hv_gets (ci := 4) (C := RX4) (T := TX4) (N := 34) hx hb hts (tw_cs in_X4) hown hK hT (rs_k0 hS) (by decide) rfl 14 (by decide) (hts _ (tw_c tw_326)) rfl (x := (ra 14)) (rs_p14 hS) dX4_lead_1 ?_
  refine lv_iload_n hx hb dX4_lead_4 rfl (lv_at hl 1 rfl) ?_
  refine hv_iald hx hb hK hT (rs_k14 hS) (cs_in8 (rf_lt8 hI0 hi)) dX4_lead_5 ?_
  refine lv_topi (fun g1 eg1 => ?_)
  have eg1 : g1 = nI (st i) := by rw [eg1]; exact rf_gst hI (rf_lt8 hI0 hi)
  subst eg1
  refine lv_iconst (v := 1) hx hb dX4_lead_6 (by decide) ?_
  refine lv_icmp_ne (tgt := 16) hx hb dX4_lead_7 (by decide) (fun c7 => ?_) (fun c7 => ?_)
  · skip
    refine lv_aload_n hx hb dX4_lead_16 rfl (lv_at hl 0 rfl) ?_
    refine hv_gets (ci := 4) (C := RX4) (T := TX4) (N := 34) hx hb hts (tw_cs in_X4) hown hK hT (rs_k0 hS) (by decide) rfl 18 (by decide) (hts _ (tw_c tw_330)) rfl (x := (ra 18)) (rs_p18 hS) dX4_lead_17 ?_
    refine lv_iload_n hx hb dX4_lead_20 rfl (lv_at hl 1 rfl) ?_
    refine lv_iload_n hx hb dX4_lead_21 rfl (lv_at hl 2 rfl) ?_
    refine lv_iconst (v := 2) hx hb dX4_lead_22 (by decide) ?_
    refine lv_icmp_ne (tgt := 30) hx hb dX4_lead_23 (by decide) (fun c23 => ?_) (fun c23 => ?_)
    · skip
      refine lv_iconst (v := 4) hx hb dX4_lead_30 (by decide) ?_
      refine hv_iast (x := 4) hx hb hK hT (rs_k18 hS) (cs_in8 (rf_lt8 hI0 hi)) dX4_lead_31 (fun H locs hT => ?_)
      obtain ⟨dg2, hdg2, hI⟩ : ∃ dg2 : Nat → Nat, dg2 i = 4 ∧ rf_J ra gh n 1 (B2 - 63) t nm st dg2 F kd (hv_sa v (ra 18) ((nI i) : Int32).toNatClampNeg 4) := ⟨va_up dg i 4, va_up_self .., rf_does (g := 4) hI (rf_lt8 hI0 hi) (by omega) (fun _ => h4) (fun P hP => rf_lb hB2 (by omega) hP)⟩
      have hS := hI.1
      refine lv_aload_n hx hb dX4_lead_32 rfl (lv_at hl 0 rfl) ?_
      refine lv_iload_n hx hb dX4_lead_33 rfl (lv_at hl 1 rfl) ?_
      refine lv_aload_n hx hb dX4_lead_34 rfl (lv_at hl 0 rfl) ?_
      refine hv_gets (ci := 4) (C := RX4) (T := TX4) (N := 34) hx hb hts (tw_cs in_X4) hown hK hT (rs_k0 hS) (by decide) rfl 14 (by decide) (hts _ (tw_c tw_326)) rfl (x := (ra 14)) (rs_p14 hS) dX4_lead_35 ?_
      refine lv_iload_n hx hb dX4_lead_38 rfl (lv_at hl 1 rfl) ?_
      refine hv_iald hx hb hK hT (rs_k14 hS) (cs_in8 (rf_lt8 hI0 hi)) dX4_lead_39 ?_
      refine lv_topi (fun g3 eg3 => ?_)
      have eg3 : g3 = nI (st i) := by rw [eg3]; exact rf_gst hI (rf_lt8 hI0 hi)
      subst eg3
      refine lv_iload_n hx hb dX4_lead_40 rfl (lv_at hl 2 rfl) ?_
      refine lv_icmp_ne (tgt := 48) hx hb dX4_lead_41 (by decide) (fun c41 => ?_) (fun c41 => ?_)
      · skip
        refine lv_iconst (v := 0) hx hb dX4_lead_48 (by decide) ?_
        refine hv_callv (va_runV (As := [.int (nI i), .int 0]) (rest := []) ⟨hx, hb, hml, hown, hts⟩ (m_clearThere l D tc hI hi 0) (cwV 2 hts (tw_V tw_389 tw_390 tw_514 tw_3 tw_391) rfl rfl rfl (by decide +kernel) ⟨Nat.le_of_ble_eq_true rfl, Nat.le_of_ble_eq_true rfl⟩) (hv_preV (ci := 4) hK hT.1 (rs_k0 hS) (by decide) rfl rfl) rfl rfl hl.1 rfl (lv_room (Nat.le_of_ble_eq_true rfl)) dX4_lead_49 ⟨Nat.le_of_ble_eq_true rfl, Nat.le_of_ble_eq_true rfl⟩) hT (fun v4 H locs hp5 hT => ?_)
        have hI := hp5
        have hS := hI.1
        refine lv_aload_n hx hb dX4_lead_52 rfl (lv_at hl 0 rfl) ?_
        refine lv_iload_n hx hb dX4_lead_53 rfl (lv_at hl 2 rfl) ?_
        refine lv_iconst (v := 2) hx hb dX4_lead_54 (by decide) ?_
        refine lv_icmp_ne (tgt := 63) hx hb dX4_lead_55 (by decide) (fun c55 => ?_) (fun c55 => ?_)
        · skip
          refine lv_bipush (v := 7) hx hb dX4_lead_63 (by decide) ?_
          refine lv_iload_n hx hb dX4_lead_65 rfl (lv_at hl 1 rfl) ?_
          refine lv_aload_n hx hb dX4_lead_66 rfl (lv_at hl 0 rfl) ?_
          refine hv_gets (ci := 4) (C := RX4) (T := TX4) (N := 34) hx hb hts (tw_cs in_X4) hown hK hT (rs_k0 hS) (by decide) rfl 19 (by decide) (hts _ (tw_c tw_331)) rfl (x := (ra 19)) (rs_p19 hS) dX4_lead_67 ?_
          refine lv_iload_n hx hb dX4_lead_70 rfl (lv_at hl 1 rfl) ?_
          refine hv_iald hx hb hK hT (rs_k19 hS) (cs_in8 (rf_lt8 hI0 hi)) dX4_lead_71 ?_
          refine lv_topi (fun g6 eg6 => ?_)
          refine hv_callv (va_runV (As := [.int 7, .int (nI i), .int g6]) (rest := []) ⟨hx, hb, hml, hown, hts⟩ (m_sendAll l D tc hI hi (by omega) (κ := 7) (by omega) g6) (cwV 3 hts (tw_V tw_383 tw_384 tw_512 tw_3 tw_385) rfl rfl rfl (by decide +kernel) ⟨Nat.le_of_ble_eq_true rfl, Nat.le_of_ble_eq_true rfl⟩) (hv_preV (ci := 4) hK hT.1 (rs_k0 hS) (by decide) rfl rfl) rfl rfl hl.1 rfl (lv_room (Nat.le_of_ble_eq_true rfl)) dX4_lead_72 ⟨Nat.le_of_ble_eq_true rfl, Nat.le_of_ble_eq_true rfl⟩) hT (fun v7 H locs hp8 hT => ?_)
          obtain ⟨nm9, kd10, hI⟩ := hp8
          have hS := hI.1
          have hI := rf_up (B' := B2) (by show (B2 - 63) + 7 * 9 ≤ B2; omega) hI
          refine lv_aload_n hx hb dX4_lead_75 rfl (lv_at hl 0 rfl) ?_
          refine lv_iload_n hx hb dX4_lead_76 rfl (lv_at hl 1 rfl) ?_
          refine lv_aload_n hx hb dX4_lead_77 rfl (lv_at hl 0 rfl) ?_
          refine hv_geti (ci := 4) (C := RX4) (T := TX4) (N := 34) hx hb hts (tw_cs in_X4) hown hK hT (rs_k0 hS) (by decide) rfl 5 (by decide) (hts _ (tw_c tw_317)) rfl dX4_lead_78 ?_
          refine lv_topi (fun g11 eg11 => ?_)
          obtain ⟨q12, h5q12, h100q12, hq12⟩ := rf_q hI
          have eg11 : g11 = (nI q12) := by rw [eg11]; exact hq12
          subst eg11
          refine hv_callv (va_runV (As := [.int (nI i), .int (nI q12)]) (rest := []) ⟨hx, hb, hml, hown, hts⟩ (m_setTimer l D tc hI hi (q := q12) (by omega) (by have := rf_lt8 hI0 hi; omega) h4) (cwV 2 hts (tw_V tw_392 tw_393 tw_515 tw_3 tw_394) rfl rfl rfl (by decide +kernel) ⟨Nat.le_of_ble_eq_true rfl, Nat.le_of_ble_eq_true rfl⟩) (hv_preV (ci := 4) hK hT.1 (rs_k0 hS) (by decide) rfl rfl) rfl rfl hl.1 rfl (lv_room (Nat.le_of_ble_eq_true rfl)) dX4_lead_81 ⟨Nat.le_of_ble_eq_true rfl, Nat.le_of_ble_eq_true rfl⟩) hT (fun v13 H locs hp14 hT => ?_)
          have hI := hp14
          have hS := hI.1
          refine lv_aload_n hx hb dX4_lead_84 rfl (lv_at hl 0 rfl) ?_
          refine lv_iload_n hx hb dX4_lead_85 rfl (lv_at hl 1 rfl) ?_
          refine hv_callv (va_runV (As := [.int (nI i)]) (rest := []) ⟨hx, hb, hml, hown, hts⟩ (m_checkQuorum l D tc hI hi (by omega)) (cwV 1 hts (tw_V tw_401 tw_402 tw_518 tw_3 tw_403) rfl rfl rfl (by decide +kernel) ⟨Nat.le_of_ble_eq_true rfl, Nat.le_of_ble_eq_true rfl⟩) (hv_preV (ci := 4) hK hT.1 (rs_k0 hS) (by decide) rfl rfl) rfl rfl hl.1 rfl (lv_room (Nat.le_of_ble_eq_true rfl)) dX4_lead_86 ⟨Nat.le_of_ble_eq_true rfl, Nat.le_of_ble_eq_true rfl⟩) hT (fun v15 H locs hp16 hT => ?_)
          obtain ⟨nm17, st18, dg19, kd20, hI⟩ := hp16
          have hS := hI.1
          exact hret _ v15 _ _ _ _ _ dX4_lead_89 hT ⟨_, _, _, _, hI⟩ (by decide) (by decide)
        · skip
          refine lv_bipush (v := 6) hx hb dX4_lead_58 (by decide) ?_
          refine lv_goto (tgt := 65) hx hb dX4_lead_60 (by decide) ?_
          refine lv_iload_n hx hb dX4_lead_65 rfl (lv_at hl 1 rfl) ?_
          refine lv_aload_n hx hb dX4_lead_66 rfl (lv_at hl 0 rfl) ?_
          refine hv_gets (ci := 4) (C := RX4) (T := TX4) (N := 34) hx hb hts (tw_cs in_X4) hown hK hT (rs_k0 hS) (by decide) rfl 19 (by decide) (hts _ (tw_c tw_331)) rfl (x := (ra 19)) (rs_p19 hS) dX4_lead_67 ?_
          refine lv_iload_n hx hb dX4_lead_70 rfl (lv_at hl 1 rfl) ?_
          refine hv_iald hx hb hK hT (rs_k19 hS) (cs_in8 (rf_lt8 hI0 hi)) dX4_lead_71 ?_
          refine lv_topi (fun g21 eg21 => ?_)
          refine hv_callv (va_runV (As := [.int 6, .int (nI i), .int g21]) (rest := []) ⟨hx, hb, hml, hown, hts⟩ (m_sendAll l D tc hI hi (by omega) (κ := 6) (by omega) g21) (cwV 3 hts (tw_V tw_383 tw_384 tw_512 tw_3 tw_385) rfl rfl rfl (by decide +kernel) ⟨Nat.le_of_ble_eq_true rfl, Nat.le_of_ble_eq_true rfl⟩) (hv_preV (ci := 4) hK hT.1 (rs_k0 hS) (by decide) rfl rfl) rfl rfl hl.1 rfl (lv_room (Nat.le_of_ble_eq_true rfl)) dX4_lead_72 ⟨Nat.le_of_ble_eq_true rfl, Nat.le_of_ble_eq_true rfl⟩) hT (fun v22 H locs hp23 hT => ?_)
          obtain ⟨nm24, kd25, hI⟩ := hp23
          have hS := hI.1
          have hI := rf_up (B' := B2) (by show (B2 - 63) + 7 * 9 ≤ B2; omega) hI
          refine lv_aload_n hx hb dX4_lead_75 rfl (lv_at hl 0 rfl) ?_
          refine lv_iload_n hx hb dX4_lead_76 rfl (lv_at hl 1 rfl) ?_
          refine lv_aload_n hx hb dX4_lead_77 rfl (lv_at hl 0 rfl) ?_
          refine hv_geti (ci := 4) (C := RX4) (T := TX4) (N := 34) hx hb hts (tw_cs in_X4) hown hK hT (rs_k0 hS) (by decide) rfl 5 (by decide) (hts _ (tw_c tw_317)) rfl dX4_lead_78 ?_
          refine lv_topi (fun g26 eg26 => ?_)
          obtain ⟨q27, h5q27, h100q27, hq27⟩ := rf_q hI
          have eg26 : g26 = (nI q27) := by rw [eg26]; exact hq27
          subst eg26
          refine hv_callv (va_runV (As := [.int (nI i), .int (nI q27)]) (rest := []) ⟨hx, hb, hml, hown, hts⟩ (m_setTimer l D tc hI hi (q := q27) (by omega) (by have := rf_lt8 hI0 hi; omega) h4) (cwV 2 hts (tw_V tw_392 tw_393 tw_515 tw_3 tw_394) rfl rfl rfl (by decide +kernel) ⟨Nat.le_of_ble_eq_true rfl, Nat.le_of_ble_eq_true rfl⟩) (hv_preV (ci := 4) hK hT.1 (rs_k0 hS) (by decide) rfl rfl) rfl rfl hl.1 rfl (lv_room (Nat.le_of_ble_eq_true rfl)) dX4_lead_81 ⟨Nat.le_of_ble_eq_true rfl, Nat.le_of_ble_eq_true rfl⟩) hT (fun v28 H locs hp29 hT => ?_)
          have hI := hp29
          have hS := hI.1
          refine lv_aload_n hx hb dX4_lead_84 rfl (lv_at hl 0 rfl) ?_
          refine lv_iload_n hx hb dX4_lead_85 rfl (lv_at hl 1 rfl) ?_
          refine hv_callv (va_runV (As := [.int (nI i)]) (rest := []) ⟨hx, hb, hml, hown, hts⟩ (m_checkQuorum l D tc hI hi (by omega)) (cwV 1 hts (tw_V tw_401 tw_402 tw_518 tw_3 tw_403) rfl rfl rfl (by decide +kernel) ⟨Nat.le_of_ble_eq_true rfl, Nat.le_of_ble_eq_true rfl⟩) (hv_preV (ci := 4) hK hT.1 (rs_k0 hS) (by decide) rfl rfl) rfl rfl hl.1 rfl (lv_room (Nat.le_of_ble_eq_true rfl)) dX4_lead_86 ⟨Nat.le_of_ble_eq_true rfl, Nat.le_of_ble_eq_true rfl⟩) hT (fun v30 H locs hp31 hT => ?_)
          obtain ⟨nm32, st33, dg34, kd35, hI⟩ := hp31
          have hS := hI.1
          exact hret _ v30 _ _ _ _ _ dX4_lead_89 hT ⟨_, _, _, _, hI⟩ (by decide) (by decide)
      · skip
        refine lv_iconst (v := 1) hx hb dX4_lead_44 (by decide) ?_
        refine lv_goto (tgt := 49) hx hb dX4_lead_45 (by decide) ?_
        refine hv_callv (va_runV (As := [.int (nI i), .int 1]) (rest := []) ⟨hx, hb, hml, hown, hts⟩ (m_clearThere l D tc hI hi 1) (cwV 2 hts (tw_V tw_389 tw_390 tw_514 tw_3 tw_391) rfl rfl rfl (by decide +kernel) ⟨Nat.le_of_ble_eq_true rfl, Nat.le_of_ble_eq_true rfl⟩) (hv_preV (ci := 4) hK hT.1 (rs_k0 hS) (by decide) rfl rfl) rfl rfl hl.1 rfl (lv_room (Nat.le_of_ble_eq_true rfl)) dX4_lead_49 ⟨Nat.le_of_ble_eq_true rfl, Nat.le_of_ble_eq_true rfl⟩) hT (fun v36 H locs hp37 hT => ?_)
        have hI := hp37
        have hS := hI.1
        refine lv_aload_n hx hb dX4_lead_52 rfl (lv_at hl 0 rfl) ?_
        refine lv_iload_n hx hb dX4_lead_53 rfl (lv_at hl 2 rfl) ?_
        refine lv_iconst (v := 2) hx hb dX4_lead_54 (by decide) ?_
        refine lv_icmp_ne (tgt := 63) hx hb dX4_lead_55 (by decide) (fun c55 => ?_) (fun c55 => ?_)
        · skip
          refine lv_bipush (v := 7) hx hb dX4_lead_63 (by decide) ?_
          refine lv_iload_n hx hb dX4_lead_65 rfl (lv_at hl 1 rfl) ?_
          refine lv_aload_n hx hb dX4_lead_66 rfl (lv_at hl 0 rfl) ?_
          refine hv_gets (ci := 4) (C := RX4) (T := TX4) (N := 34) hx hb hts (tw_cs in_X4) hown hK hT (rs_k0 hS) (by decide) rfl 19 (by decide) (hts _ (tw_c tw_331)) rfl (x := (ra 19)) (rs_p19 hS) dX4_lead_67 ?_
          refine lv_iload_n hx hb dX4_lead_70 rfl (lv_at hl 1 rfl) ?_
          refine hv_iald hx hb hK hT (rs_k19 hS) (cs_in8 (rf_lt8 hI0 hi)) dX4_lead_71 ?_
          refine lv_topi (fun g38 eg38 => ?_)
          refine hv_callv (va_runV (As := [.int 7, .int (nI i), .int g38]) (rest := []) ⟨hx, hb, hml, hown, hts⟩ (m_sendAll l D tc hI hi (by omega) (κ := 7) (by omega) g38) (cwV 3 hts (tw_V tw_383 tw_384 tw_512 tw_3 tw_385) rfl rfl rfl (by decide +kernel) ⟨Nat.le_of_ble_eq_true rfl, Nat.le_of_ble_eq_true rfl⟩) (hv_preV (ci := 4) hK hT.1 (rs_k0 hS) (by decide) rfl rfl) rfl rfl hl.1 rfl (lv_room (Nat.le_of_ble_eq_true rfl)) dX4_lead_72 ⟨Nat.le_of_ble_eq_true rfl, Nat.le_of_ble_eq_true rfl⟩) hT (fun v39 H locs hp40 hT => ?_)
          obtain ⟨nm41, kd42, hI⟩ := hp40
          have hS := hI.1
          have hI := rf_up (B' := B2) (by show (B2 - 63) + 7 * 9 ≤ B2; omega) hI
          refine lv_aload_n hx hb dX4_lead_75 rfl (lv_at hl 0 rfl) ?_
          refine lv_iload_n hx hb dX4_lead_76 rfl (lv_at hl 1 rfl) ?_
          refine lv_aload_n hx hb dX4_lead_77 rfl (lv_at hl 0 rfl) ?_
          refine hv_geti (ci := 4) (C := RX4) (T := TX4) (N := 34) hx hb hts (tw_cs in_X4) hown hK hT (rs_k0 hS) (by decide) rfl 5 (by decide) (hts _ (tw_c tw_317)) rfl dX4_lead_78 ?_
          refine lv_topi (fun g43 eg43 => ?_)
          obtain ⟨q44, h5q44, h100q44, hq44⟩ := rf_q hI
          have eg43 : g43 = (nI q44) := by rw [eg43]; exact hq44
          subst eg43
          refine hv_callv (va_runV (As := [.int (nI i), .int (nI q44)]) (rest := []) ⟨hx, hb, hml, hown, hts⟩ (m_setTimer l D tc hI hi (q := q44) (by omega) (by have := rf_lt8 hI0 hi; omega) h4) (cwV 2 hts (tw_V tw_392 tw_393 tw_515 tw_3 tw_394) rfl rfl rfl (by decide +kernel) ⟨Nat.le_of_ble_eq_true rfl, Nat.le_of_ble_eq_true rfl⟩) (hv_preV (ci := 4) hK hT.1 (rs_k0 hS) (by decide) rfl rfl) rfl rfl hl.1 rfl (lv_room (Nat.le_of_ble_eq_true rfl)) dX4_lead_81 ⟨Nat.le_of_ble_eq_true rfl, Nat.le_of_ble_eq_true rfl⟩) hT (fun v45 H locs hp46 hT => ?_)
          have hI := hp46
          have hS := hI.1
          refine lv_aload_n hx hb dX4_lead_84 rfl (lv_at hl 0 rfl) ?_
          refine lv_iload_n hx hb dX4_lead_85 rfl (lv_at hl 1 rfl) ?_
          refine hv_callv (va_runV (As := [.int (nI i)]) (rest := []) ⟨hx, hb, hml, hown, hts⟩ (m_checkQuorum l D tc hI hi (by omega)) (cwV 1 hts (tw_V tw_401 tw_402 tw_518 tw_3 tw_403) rfl rfl rfl (by decide +kernel) ⟨Nat.le_of_ble_eq_true rfl, Nat.le_of_ble_eq_true rfl⟩) (hv_preV (ci := 4) hK hT.1 (rs_k0 hS) (by decide) rfl rfl) rfl rfl hl.1 rfl (lv_room (Nat.le_of_ble_eq_true rfl)) dX4_lead_86 ⟨Nat.le_of_ble_eq_true rfl, Nat.le_of_ble_eq_true rfl⟩) hT (fun v47 H locs hp48 hT => ?_)
          obtain ⟨nm49, st50, dg51, kd52, hI⟩ := hp48
          have hS := hI.1
          exact hret _ v47 _ _ _ _ _ dX4_lead_89 hT ⟨_, _, _, _, hI⟩ (by decide) (by decide)
        · skip
          refine lv_bipush (v := 6) hx hb dX4_lead_58 (by decide) ?_
          refine lv_goto (tgt := 65) hx hb dX4_lead_60 (by decide) ?_
          refine lv_iload_n hx hb dX4_lead_65 rfl (lv_at hl 1 rfl) ?_
          refine lv_aload_n hx hb dX4_lead_66 rfl (lv_at hl 0 rfl) ?_
          refine hv_gets (ci := 4) (C := RX4) (T := TX4) (N := 34) hx hb hts (tw_cs in_X4) hown hK hT (rs_k0 hS) (by decide) rfl 19 (by decide) (hts _ (tw_c tw_331)) rfl (x := (ra 19)) (rs_p19 hS) dX4_lead_67 ?_
          refine lv_iload_n hx hb dX4_lead_70 rfl (lv_at hl 1 rfl) ?_
          refine hv_iald hx hb hK hT (rs_k19 hS) (cs_in8 (rf_lt8 hI0 hi)) dX4_lead_71 ?_
          refine lv_topi (fun g53 eg53 => ?_)
          refine hv_callv (va_runV (As := [.int 6, .int (nI i), .int g53]) (rest := []) ⟨hx, hb, hml, hown, hts⟩ (m_sendAll l D tc hI hi (by omega) (κ := 6) (by omega) g53) (cwV 3 hts (tw_V tw_383 tw_384 tw_512 tw_3 tw_385) rfl rfl rfl (by decide +kernel) ⟨Nat.le_of_ble_eq_true rfl, Nat.le_of_ble_eq_true rfl⟩) (hv_preV (ci := 4) hK hT.1 (rs_k0 hS) (by decide) rfl rfl) rfl rfl hl.1 rfl (lv_room (Nat.le_of_ble_eq_true rfl)) dX4_lead_72 ⟨Nat.le_of_ble_eq_true rfl, Nat.le_of_ble_eq_true rfl⟩) hT (fun v54 H locs hp55 hT => ?_)
          obtain ⟨nm56, kd57, hI⟩ := hp55
          have hS := hI.1
          have hI := rf_up (B' := B2) (by show (B2 - 63) + 7 * 9 ≤ B2; omega) hI
          refine lv_aload_n hx hb dX4_lead_75 rfl (lv_at hl 0 rfl) ?_
          refine lv_iload_n hx hb dX4_lead_76 rfl (lv_at hl 1 rfl) ?_
          refine lv_aload_n hx hb dX4_lead_77 rfl (lv_at hl 0 rfl) ?_
          refine hv_geti (ci := 4) (C := RX4) (T := TX4) (N := 34) hx hb hts (tw_cs in_X4) hown hK hT (rs_k0 hS) (by decide) rfl 5 (by decide) (hts _ (tw_c tw_317)) rfl dX4_lead_78 ?_
          refine lv_topi (fun g58 eg58 => ?_)
          obtain ⟨q59, h5q59, h100q59, hq59⟩ := rf_q hI
          have eg58 : g58 = (nI q59) := by rw [eg58]; exact hq59
          subst eg58
          refine hv_callv (va_runV (As := [.int (nI i), .int (nI q59)]) (rest := []) ⟨hx, hb, hml, hown, hts⟩ (m_setTimer l D tc hI hi (q := q59) (by omega) (by have := rf_lt8 hI0 hi; omega) h4) (cwV 2 hts (tw_V tw_392 tw_393 tw_515 tw_3 tw_394) rfl rfl rfl (by decide +kernel) ⟨Nat.le_of_ble_eq_true rfl, Nat.le_of_ble_eq_true rfl⟩) (hv_preV (ci := 4) hK hT.1 (rs_k0 hS) (by decide) rfl rfl) rfl rfl hl.1 rfl (lv_room (Nat.le_of_ble_eq_true rfl)) dX4_lead_81 ⟨Nat.le_of_ble_eq_true rfl, Nat.le_of_ble_eq_true rfl⟩) hT (fun v60 H locs hp61 hT => ?_)
          have hI := hp61
          have hS := hI.1
          refine lv_aload_n hx hb dX4_lead_84 rfl (lv_at hl 0 rfl) ?_
          refine lv_iload_n hx hb dX4_lead_85 rfl (lv_at hl 1 rfl) ?_
          refine hv_callv (va_runV (As := [.int (nI i)]) (rest := []) ⟨hx, hb, hml, hown, hts⟩ (m_checkQuorum l D tc hI hi (by omega)) (cwV 1 hts (tw_V tw_401 tw_402 tw_518 tw_3 tw_403) rfl rfl rfl (by decide +kernel) ⟨Nat.le_of_ble_eq_true rfl, Nat.le_of_ble_eq_true rfl⟩) (hv_preV (ci := 4) hK hT.1 (rs_k0 hS) (by decide) rfl rfl) rfl rfl hl.1 rfl (lv_room (Nat.le_of_ble_eq_true rfl)) dX4_lead_86 ⟨Nat.le_of_ble_eq_true rfl, Nat.le_of_ble_eq_true rfl⟩) hT (fun v62 H locs hp63 hT => ?_)
          obtain ⟨nm64, st65, dg66, kd67, hI⟩ := hp63
          have hS := hI.1
          exact hret _ v62 _ _ _ _ _ dX4_lead_89 hT ⟨_, _, _, _, hI⟩ (by decide) (by decide)
    · skip
      refine lv_iconst (v := 2) hx hb dX4_lead_26 (by decide) ?_
      refine lv_goto (tgt := 31) hx hb dX4_lead_27 (by decide) ?_
      refine hv_iast (x := 2) hx hb hK hT (rs_k18 hS) (cs_in8 (rf_lt8 hI0 hi)) dX4_lead_31 (fun H locs hT => ?_)
      obtain ⟨dg68, hdg68, hI⟩ : ∃ dg2 : Nat → Nat, dg2 i = 2 ∧ rf_J ra gh n 1 (B2 - 63) t nm st dg2 F kd (hv_sa v (ra 18) ((nI i) : Int32).toNatClampNeg 2) := ⟨va_up dg i 2, va_up_self .., rf_does (g := 2) hI (rf_lt8 hI0 hi) (by omega) (fun _ => h4) (fun P hP => rf_lb hB2 (by omega) hP)⟩
      have hS := hI.1
      refine lv_aload_n hx hb dX4_lead_32 rfl (lv_at hl 0 rfl) ?_
      refine lv_iload_n hx hb dX4_lead_33 rfl (lv_at hl 1 rfl) ?_
      refine lv_aload_n hx hb dX4_lead_34 rfl (lv_at hl 0 rfl) ?_
      refine hv_gets (ci := 4) (C := RX4) (T := TX4) (N := 34) hx hb hts (tw_cs in_X4) hown hK hT (rs_k0 hS) (by decide) rfl 14 (by decide) (hts _ (tw_c tw_326)) rfl (x := (ra 14)) (rs_p14 hS) dX4_lead_35 ?_
      refine lv_iload_n hx hb dX4_lead_38 rfl (lv_at hl 1 rfl) ?_
      refine hv_iald hx hb hK hT (rs_k14 hS) (cs_in8 (rf_lt8 hI0 hi)) dX4_lead_39 ?_
      refine lv_topi (fun g69 eg69 => ?_)
      have eg69 : g69 = nI (st i) := by rw [eg69]; exact rf_gst hI (rf_lt8 hI0 hi)
      subst eg69
      refine lv_iload_n hx hb dX4_lead_40 rfl (lv_at hl 2 rfl) ?_
      refine lv_icmp_ne (tgt := 48) hx hb dX4_lead_41 (by decide) (fun c41 => ?_) (fun c41 => ?_)
      · skip
        refine lv_iconst (v := 0) hx hb dX4_lead_48 (by decide) ?_
        refine hv_callv (va_runV (As := [.int (nI i), .int 0]) (rest := []) ⟨hx, hb, hml, hown, hts⟩ (m_clearThere l D tc hI hi 0) (cwV 2 hts (tw_V tw_389 tw_390 tw_514 tw_3 tw_391) rfl rfl rfl (by decide +kernel) ⟨Nat.le_of_ble_eq_true rfl, Nat.le_of_ble_eq_true rfl⟩) (hv_preV (ci := 4) hK hT.1 (rs_k0 hS) (by decide) rfl rfl) rfl rfl hl.1 rfl (lv_room (Nat.le_of_ble_eq_true rfl)) dX4_lead_49 ⟨Nat.le_of_ble_eq_true rfl, Nat.le_of_ble_eq_true rfl⟩) hT (fun v70 H locs hp71 hT => ?_)
        have hI := hp71
        have hS := hI.1
        refine lv_aload_n hx hb dX4_lead_52 rfl (lv_at hl 0 rfl) ?_
        refine lv_iload_n hx hb dX4_lead_53 rfl (lv_at hl 2 rfl) ?_
        refine lv_iconst (v := 2) hx hb dX4_lead_54 (by decide) ?_
        refine lv_icmp_ne (tgt := 63) hx hb dX4_lead_55 (by decide) (fun c55 => ?_) (fun c55 => ?_)
        · skip
          refine lv_bipush (v := 7) hx hb dX4_lead_63 (by decide) ?_
          refine lv_iload_n hx hb dX4_lead_65 rfl (lv_at hl 1 rfl) ?_
          refine lv_aload_n hx hb dX4_lead_66 rfl (lv_at hl 0 rfl) ?_
          refine hv_gets (ci := 4) (C := RX4) (T := TX4) (N := 34) hx hb hts (tw_cs in_X4) hown hK hT (rs_k0 hS) (by decide) rfl 19 (by decide) (hts _ (tw_c tw_331)) rfl (x := (ra 19)) (rs_p19 hS) dX4_lead_67 ?_
          refine lv_iload_n hx hb dX4_lead_70 rfl (lv_at hl 1 rfl) ?_
          refine hv_iald hx hb hK hT (rs_k19 hS) (cs_in8 (rf_lt8 hI0 hi)) dX4_lead_71 ?_
          refine lv_topi (fun g72 eg72 => ?_)
          refine hv_callv (va_runV (As := [.int 7, .int (nI i), .int g72]) (rest := []) ⟨hx, hb, hml, hown, hts⟩ (m_sendAll l D tc hI hi (by omega) (κ := 7) (by omega) g72) (cwV 3 hts (tw_V tw_383 tw_384 tw_512 tw_3 tw_385) rfl rfl rfl (by decide +kernel) ⟨Nat.le_of_ble_eq_true rfl, Nat.le_of_ble_eq_true rfl⟩) (hv_preV (ci := 4) hK hT.1 (rs_k0 hS) (by decide) rfl rfl) rfl rfl hl.1 rfl (lv_room (Nat.le_of_ble_eq_true rfl)) dX4_lead_72 ⟨Nat.le_of_ble_eq_true rfl, Nat.le_of_ble_eq_true rfl⟩) hT (fun v73 H locs hp74 hT => ?_)
          obtain ⟨nm75, kd76, hI⟩ := hp74
          have hS := hI.1
          have hI := rf_up (B' := B2) (by show (B2 - 63) + 7 * 9 ≤ B2; omega) hI
          refine lv_aload_n hx hb dX4_lead_75 rfl (lv_at hl 0 rfl) ?_
          refine lv_iload_n hx hb dX4_lead_76 rfl (lv_at hl 1 rfl) ?_
          refine lv_aload_n hx hb dX4_lead_77 rfl (lv_at hl 0 rfl) ?_
          refine hv_geti (ci := 4) (C := RX4) (T := TX4) (N := 34) hx hb hts (tw_cs in_X4) hown hK hT (rs_k0 hS) (by decide) rfl 5 (by decide) (hts _ (tw_c tw_317)) rfl dX4_lead_78 ?_
          refine lv_topi (fun g77 eg77 => ?_)
          obtain ⟨q78, h5q78, h100q78, hq78⟩ := rf_q hI
          have eg77 : g77 = (nI q78) := by rw [eg77]; exact hq78
          subst eg77
          refine hv_callv (va_runV (As := [.int (nI i), .int (nI q78)]) (rest := []) ⟨hx, hb, hml, hown, hts⟩ (m_setTimer l D tc hI hi (q := q78) (by omega) (by have := rf_lt8 hI0 hi; omega) h4) (cwV 2 hts (tw_V tw_392 tw_393 tw_515 tw_3 tw_394) rfl rfl rfl (by decide +kernel) ⟨Nat.le_of_ble_eq_true rfl, Nat.le_of_ble_eq_true rfl⟩) (hv_preV (ci := 4) hK hT.1 (rs_k0 hS) (by decide) rfl rfl) rfl rfl hl.1 rfl (lv_room (Nat.le_of_ble_eq_true rfl)) dX4_lead_81 ⟨Nat.le_of_ble_eq_true rfl, Nat.le_of_ble_eq_true rfl⟩) hT (fun v79 H locs hp80 hT => ?_)
          have hI := hp80
          have hS := hI.1
          refine lv_aload_n hx hb dX4_lead_84 rfl (lv_at hl 0 rfl) ?_
          refine lv_iload_n hx hb dX4_lead_85 rfl (lv_at hl 1 rfl) ?_
          refine hv_callv (va_runV (As := [.int (nI i)]) (rest := []) ⟨hx, hb, hml, hown, hts⟩ (m_checkQuorum l D tc hI hi (by omega)) (cwV 1 hts (tw_V tw_401 tw_402 tw_518 tw_3 tw_403) rfl rfl rfl (by decide +kernel) ⟨Nat.le_of_ble_eq_true rfl, Nat.le_of_ble_eq_true rfl⟩) (hv_preV (ci := 4) hK hT.1 (rs_k0 hS) (by decide) rfl rfl) rfl rfl hl.1 rfl (lv_room (Nat.le_of_ble_eq_true rfl)) dX4_lead_86 ⟨Nat.le_of_ble_eq_true rfl, Nat.le_of_ble_eq_true rfl⟩) hT (fun v81 H locs hp82 hT => ?_)
          obtain ⟨nm83, st84, dg85, kd86, hI⟩ := hp82
          have hS := hI.1
          exact hret _ v81 _ _ _ _ _ dX4_lead_89 hT ⟨_, _, _, _, hI⟩ (by decide) (by decide)
        · skip
          refine lv_bipush (v := 6) hx hb dX4_lead_58 (by decide) ?_
          refine lv_goto (tgt := 65) hx hb dX4_lead_60 (by decide) ?_
          refine lv_iload_n hx hb dX4_lead_65 rfl (lv_at hl 1 rfl) ?_
          refine lv_aload_n hx hb dX4_lead_66 rfl (lv_at hl 0 rfl) ?_
          refine hv_gets (ci := 4) (C := RX4) (T := TX4) (N := 34) hx hb hts (tw_cs in_X4) hown hK hT (rs_k0 hS) (by decide) rfl 19 (by decide) (hts _ (tw_c tw_331)) rfl (x := (ra 19)) (rs_p19 hS) dX4_lead_67 ?_
          refine lv_iload_n hx hb dX4_lead_70 rfl (lv_at hl 1 rfl) ?_
          refine hv_iald hx hb hK hT (rs_k19 hS) (cs_in8 (rf_lt8 hI0 hi)) dX4_lead_71 ?_
          refine lv_topi (fun g87 eg87 => ?_)
          refine hv_callv (va_runV (As := [.int 6, .int (nI i), .int g87]) (rest := []) ⟨hx, hb, hml, hown, hts⟩ (m_sendAll l D tc hI hi (by omega) (κ := 6) (by omega) g87) (cwV 3 hts (tw_V tw_383 tw_384 tw_512 tw_3 tw_385) rfl rfl rfl (by decide +kernel) ⟨Nat.le_of_ble_eq_true rfl, Nat.le_of_ble_eq_true rfl⟩) (hv_preV (ci := 4) hK hT.1 (rs_k0 hS) (by decide) rfl rfl) rfl rfl hl.1 rfl (lv_room (Nat.le_of_ble_eq_true rfl)) dX4_lead_72 ⟨Nat.le_of_ble_eq_true rfl, Nat.le_of_ble_eq_true rfl⟩) hT (fun v88 H locs hp89 hT => ?_)
          obtain ⟨nm90, kd91, hI⟩ := hp89
          have hS := hI.1
          have hI := rf_up (B' := B2) (by show (B2 - 63) + 7 * 9 ≤ B2; omega) hI
          refine lv_aload_n hx hb dX4_lead_75 rfl (lv_at hl 0 rfl) ?_
          refine lv_iload_n hx hb dX4_lead_76 rfl (lv_at hl 1 rfl) ?_
          refine lv_aload_n hx hb dX4_lead_77 rfl (lv_at hl 0 rfl) ?_
          refine hv_geti (ci := 4) (C := RX4) (T := TX4) (N := 34) hx hb hts (tw_cs in_X4) hown hK hT (rs_k0 hS) (by decide) rfl 5 (by decide) (hts _ (tw_c tw_317)) rfl dX4_lead_78 ?_
          refine lv_topi (fun g92 eg92 => ?_)
          obtain ⟨q93, h5q93, h100q93, hq93⟩ := rf_q hI
          have eg92 : g92 = (nI q93) := by rw [eg92]; exact hq93
          subst eg92
          refine hv_callv (va_runV (As := [.int (nI i), .int (nI q93)]) (rest := []) ⟨hx, hb, hml, hown, hts⟩ (m_setTimer l D tc hI hi (q := q93) (by omega) (by have := rf_lt8 hI0 hi; omega) h4) (cwV 2 hts (tw_V tw_392 tw_393 tw_515 tw_3 tw_394) rfl rfl rfl (by decide +kernel) ⟨Nat.le_of_ble_eq_true rfl, Nat.le_of_ble_eq_true rfl⟩) (hv_preV (ci := 4) hK hT.1 (rs_k0 hS) (by decide) rfl rfl) rfl rfl hl.1 rfl (lv_room (Nat.le_of_ble_eq_true rfl)) dX4_lead_81 ⟨Nat.le_of_ble_eq_true rfl, Nat.le_of_ble_eq_true rfl⟩) hT (fun v94 H locs hp95 hT => ?_)
          have hI := hp95
          have hS := hI.1
          refine lv_aload_n hx hb dX4_lead_84 rfl (lv_at hl 0 rfl) ?_
          refine lv_iload_n hx hb dX4_lead_85 rfl (lv_at hl 1 rfl) ?_
          refine hv_callv (va_runV (As := [.int (nI i)]) (rest := []) ⟨hx, hb, hml, hown, hts⟩ (m_checkQuorum l D tc hI hi (by omega)) (cwV 1 hts (tw_V tw_401 tw_402 tw_518 tw_3 tw_403) rfl rfl rfl (by decide +kernel) ⟨Nat.le_of_ble_eq_true rfl, Nat.le_of_ble_eq_true rfl⟩) (hv_preV (ci := 4) hK hT.1 (rs_k0 hS) (by decide) rfl rfl) rfl rfl hl.1 rfl (lv_room (Nat.le_of_ble_eq_true rfl)) dX4_lead_86 ⟨Nat.le_of_ble_eq_true rfl, Nat.le_of_ble_eq_true rfl⟩) hT (fun v96 H locs hp97 hT => ?_)
          obtain ⟨nm98, st99, dg100, kd101, hI⟩ := hp97
          have hS := hI.1
          exact hret _ v96 _ _ _ _ _ dX4_lead_89 hT ⟨_, _, _, _, hI⟩ (by decide) (by decide)
      · skip
        refine lv_iconst (v := 1) hx hb dX4_lead_44 (by decide) ?_
        refine lv_goto (tgt := 49) hx hb dX4_lead_45 (by decide) ?_
        refine hv_callv (va_runV (As := [.int (nI i), .int 1]) (rest := []) ⟨hx, hb, hml, hown, hts⟩ (m_clearThere l D tc hI hi 1) (cwV 2 hts (tw_V tw_389 tw_390 tw_514 tw_3 tw_391) rfl rfl rfl (by decide +kernel) ⟨Nat.le_of_ble_eq_true rfl, Nat.le_of_ble_eq_true rfl⟩) (hv_preV (ci := 4) hK hT.1 (rs_k0 hS) (by decide) rfl rfl) rfl rfl hl.1 rfl (lv_room (Nat.le_of_ble_eq_true rfl)) dX4_lead_49 ⟨Nat.le_of_ble_eq_true rfl, Nat.le_of_ble_eq_true rfl⟩) hT (fun v102 H locs hp103 hT => ?_)
        have hI := hp103
        have hS := hI.1
        refine lv_aload_n hx hb dX4_lead_52 rfl (lv_at hl 0 rfl) ?_
        refine lv_iload_n hx hb dX4_lead_53 rfl (lv_at hl 2 rfl) ?_
        refine lv_iconst (v := 2) hx hb dX4_lead_54 (by decide) ?_
        refine lv_icmp_ne (tgt := 63) hx hb dX4_lead_55 (by decide) (fun c55 => ?_) (fun c55 => ?_)
        · skip
          refine lv_bipush (v := 7) hx hb dX4_lead_63 (by decide) ?_
          refine lv_iload_n hx hb dX4_lead_65 rfl (lv_at hl 1 rfl) ?_
          refine lv_aload_n hx hb dX4_lead_66 rfl (lv_at hl 0 rfl) ?_
          refine hv_gets (ci := 4) (C := RX4) (T := TX4) (N := 34) hx hb hts (tw_cs in_X4) hown hK hT (rs_k0 hS) (by decide) rfl 19 (by decide) (hts _ (tw_c tw_331)) rfl (x := (ra 19)) (rs_p19 hS) dX4_lead_67 ?_
          refine lv_iload_n hx hb dX4_lead_70 rfl (lv_at hl 1 rfl) ?_
          refine hv_iald hx hb hK hT (rs_k19 hS) (cs_in8 (rf_lt8 hI0 hi)) dX4_lead_71 ?_
          refine lv_topi (fun g104 eg104 => ?_)
          refine hv_callv (va_runV (As := [.int 7, .int (nI i), .int g104]) (rest := []) ⟨hx, hb, hml, hown, hts⟩ (m_sendAll l D tc hI hi (by omega) (κ := 7) (by omega) g104) (cwV 3 hts (tw_V tw_383 tw_384 tw_512 tw_3 tw_385) rfl rfl rfl (by decide +kernel) ⟨Nat.le_of_ble_eq_true rfl, Nat.le_of_ble_eq_true rfl⟩) (hv_preV (ci := 4) hK hT.1 (rs_k0 hS) (by decide) rfl rfl) rfl rfl hl.1 rfl (lv_room (Nat.le_of_ble_eq_true rfl)) dX4_lead_72 ⟨Nat.le_of_ble_eq_true rfl, Nat.le_of_ble_eq_true rfl⟩) hT (fun v105 H locs hp106 hT => ?_)
          obtain ⟨nm107, kd108, hI⟩ := hp106
          have hS := hI.1
          have hI := rf_up (B' := B2) (by show (B2 - 63) + 7 * 9 ≤ B2; omega) hI
          refine lv_aload_n hx hb dX4_lead_75 rfl (lv_at hl 0 rfl) ?_
          refine lv_iload_n hx hb dX4_lead_76 rfl (lv_at hl 1 rfl) ?_
          refine lv_aload_n hx hb dX4_lead_77 rfl (lv_at hl 0 rfl) ?_
          refine hv_geti (ci := 4) (C := RX4) (T := TX4) (N := 34) hx hb hts (tw_cs in_X4) hown hK hT (rs_k0 hS) (by decide) rfl 5 (by decide) (hts _ (tw_c tw_317)) rfl dX4_lead_78 ?_
          refine lv_topi (fun g109 eg109 => ?_)
          obtain ⟨q110, h5q110, h100q110, hq110⟩ := rf_q hI
          have eg109 : g109 = (nI q110) := by rw [eg109]; exact hq110
          subst eg109
          refine hv_callv (va_runV (As := [.int (nI i), .int (nI q110)]) (rest := []) ⟨hx, hb, hml, hown, hts⟩ (m_setTimer l D tc hI hi (q := q110) (by omega) (by have := rf_lt8 hI0 hi; omega) h4) (cwV 2 hts (tw_V tw_392 tw_393 tw_515 tw_3 tw_394) rfl rfl rfl (by decide +kernel) ⟨Nat.le_of_ble_eq_true rfl, Nat.le_of_ble_eq_true rfl⟩) (hv_preV (ci := 4) hK hT.1 (rs_k0 hS) (by decide) rfl rfl) rfl rfl hl.1 rfl (lv_room (Nat.le_of_ble_eq_true rfl)) dX4_lead_81 ⟨Nat.le_of_ble_eq_true rfl, Nat.le_of_ble_eq_true rfl⟩) hT (fun v111 H locs hp112 hT => ?_)
          have hI := hp112
          have hS := hI.1
          refine lv_aload_n hx hb dX4_lead_84 rfl (lv_at hl 0 rfl) ?_
          refine lv_iload_n hx hb dX4_lead_85 rfl (lv_at hl 1 rfl) ?_
          refine hv_callv (va_runV (As := [.int (nI i)]) (rest := []) ⟨hx, hb, hml, hown, hts⟩ (m_checkQuorum l D tc hI hi (by omega)) (cwV 1 hts (tw_V tw_401 tw_402 tw_518 tw_3 tw_403) rfl rfl rfl (by decide +kernel) ⟨Nat.le_of_ble_eq_true rfl, Nat.le_of_ble_eq_true rfl⟩) (hv_preV (ci := 4) hK hT.1 (rs_k0 hS) (by decide) rfl rfl) rfl rfl hl.1 rfl (lv_room (Nat.le_of_ble_eq_true rfl)) dX4_lead_86 ⟨Nat.le_of_ble_eq_true rfl, Nat.le_of_ble_eq_true rfl⟩) hT (fun v113 H locs hp114 hT => ?_)
          obtain ⟨nm115, st116, dg117, kd118, hI⟩ := hp114
          have hS := hI.1
          exact hret _ v113 _ _ _ _ _ dX4_lead_89 hT ⟨_, _, _, _, hI⟩ (by decide) (by decide)
        · skip
          refine lv_bipush (v := 6) hx hb dX4_lead_58 (by decide) ?_
          refine lv_goto (tgt := 65) hx hb dX4_lead_60 (by decide) ?_
          refine lv_iload_n hx hb dX4_lead_65 rfl (lv_at hl 1 rfl) ?_
          refine lv_aload_n hx hb dX4_lead_66 rfl (lv_at hl 0 rfl) ?_
          refine hv_gets (ci := 4) (C := RX4) (T := TX4) (N := 34) hx hb hts (tw_cs in_X4) hown hK hT (rs_k0 hS) (by decide) rfl 19 (by decide) (hts _ (tw_c tw_331)) rfl (x := (ra 19)) (rs_p19 hS) dX4_lead_67 ?_
          refine lv_iload_n hx hb dX4_lead_70 rfl (lv_at hl 1 rfl) ?_
          refine hv_iald hx hb hK hT (rs_k19 hS) (cs_in8 (rf_lt8 hI0 hi)) dX4_lead_71 ?_
          refine lv_topi (fun g119 eg119 => ?_)
          refine hv_callv (va_runV (As := [.int 6, .int (nI i), .int g119]) (rest := []) ⟨hx, hb, hml, hown, hts⟩ (m_sendAll l D tc hI hi (by omega) (κ := 6) (by omega) g119) (cwV 3 hts (tw_V tw_383 tw_384 tw_512 tw_3 tw_385) rfl rfl rfl (by decide +kernel) ⟨Nat.le_of_ble_eq_true rfl, Nat.le_of_ble_eq_true rfl⟩) (hv_preV (ci := 4) hK hT.1 (rs_k0 hS) (by decide) rfl rfl) rfl rfl hl.1 rfl (lv_room (Nat.le_of_ble_eq_true rfl)) dX4_lead_72 ⟨Nat.le_of_ble_eq_true rfl, Nat.le_of_ble_eq_true rfl⟩) hT (fun v120 H locs hp121 hT => ?_)
          obtain ⟨nm122, kd123, hI⟩ := hp121
          have hS := hI.1
          have hI := rf_up (B' := B2) (by show (B2 - 63) + 7 * 9 ≤ B2; omega) hI
          refine lv_aload_n hx hb dX4_lead_75 rfl (lv_at hl 0 rfl) ?_
          refine lv_iload_n hx hb dX4_lead_76 rfl (lv_at hl 1 rfl) ?_
          refine lv_aload_n hx hb dX4_lead_77 rfl (lv_at hl 0 rfl) ?_
          refine hv_geti (ci := 4) (C := RX4) (T := TX4) (N := 34) hx hb hts (tw_cs in_X4) hown hK hT (rs_k0 hS) (by decide) rfl 5 (by decide) (hts _ (tw_c tw_317)) rfl dX4_lead_78 ?_
          refine lv_topi (fun g124 eg124 => ?_)
          obtain ⟨q125, h5q125, h100q125, hq125⟩ := rf_q hI
          have eg124 : g124 = (nI q125) := by rw [eg124]; exact hq125
          subst eg124
          refine hv_callv (va_runV (As := [.int (nI i), .int (nI q125)]) (rest := []) ⟨hx, hb, hml, hown, hts⟩ (m_setTimer l D tc hI hi (q := q125) (by omega) (by have := rf_lt8 hI0 hi; omega) h4) (cwV 2 hts (tw_V tw_392 tw_393 tw_515 tw_3 tw_394) rfl rfl rfl (by decide +kernel) ⟨Nat.le_of_ble_eq_true rfl, Nat.le_of_ble_eq_true rfl⟩) (hv_preV (ci := 4) hK hT.1 (rs_k0 hS) (by decide) rfl rfl) rfl rfl hl.1 rfl (lv_room (Nat.le_of_ble_eq_true rfl)) dX4_lead_81 ⟨Nat.le_of_ble_eq_true rfl, Nat.le_of_ble_eq_true rfl⟩) hT (fun v126 H locs hp127 hT => ?_)
          have hI := hp127
          have hS := hI.1
          refine lv_aload_n hx hb dX4_lead_84 rfl (lv_at hl 0 rfl) ?_
          refine lv_iload_n hx hb dX4_lead_85 rfl (lv_at hl 1 rfl) ?_
          refine hv_callv (va_runV (As := [.int (nI i)]) (rest := []) ⟨hx, hb, hml, hown, hts⟩ (m_checkQuorum l D tc hI hi (by omega)) (cwV 1 hts (tw_V tw_401 tw_402 tw_518 tw_3 tw_403) rfl rfl rfl (by decide +kernel) ⟨Nat.le_of_ble_eq_true rfl, Nat.le_of_ble_eq_true rfl⟩) (hv_preV (ci := 4) hK hT.1 (rs_k0 hS) (by decide) rfl rfl) rfl rfl hl.1 rfl (lv_room (Nat.le_of_ble_eq_true rfl)) dX4_lead_86 ⟨Nat.le_of_ble_eq_true rfl, Nat.le_of_ble_eq_true rfl⟩) hT (fun v128 H locs hp129 hT => ?_)
          obtain ⟨nm130, st131, dg132, kd133, hI⟩ := hp129
          have hS := hI.1
          exact hret _ v128 _ _ _ _ _ dX4_lead_89 hT ⟨_, _, _, _, hI⟩ (by decide) (by decide)
  · skip
    refine lv_aload_n hx hb dX4_lead_10 rfl (lv_at hl 0 rfl) ?_
    refine lv_iload_n hx hb dX4_lead_11 rfl (lv_at hl 1 rfl) ?_
    refine lv_iload_n hx hb dX4_lead_12 rfl (lv_at hl 2 rfl) ?_
    refine hv_callv (va_runV (As := [.int (nI i), .int (nI sv)]) (rest := []) ⟨hx, hb, hml, hown, hts⟩ (m_become l D tc hI hi (sv := sv) (by omega) h4) (cwV 2 hts (tw_V tw_380 tw_381 tw_511 tw_3 tw_382) rfl rfl rfl (by decide +kernel) ⟨Nat.le_of_ble_eq_true rfl, Nat.le_of_ble_eq_true rfl⟩) (hv_preV (ci := 4) hK hT.1 (rs_k0 hS) (by decide) rfl rfl) rfl rfl hl.1 rfl (lv_room (Nat.le_of_ble_eq_true rfl)) dX4_lead_13 ⟨Nat.le_of_ble_eq_true rfl, Nat.le_of_ble_eq_true rfl⟩) hT (fun v134 H locs hp135 hT => ?_)
    obtain ⟨st136, hx137, hI⟩ := hp135
    have hS := hI.1
    have hbhx137 : st136 i = sv := hx137.1
    have h4 : st136 i < 4 := by omega
    refine lv_aload_n hx hb dX4_lead_16 rfl (lv_at hl 0 rfl) ?_
    refine hv_gets (ci := 4) (C := RX4) (T := TX4) (N := 34) hx hb hts (tw_cs in_X4) hown hK hT (rs_k0 hS) (by decide) rfl 18 (by decide) (hts _ (tw_c tw_330)) rfl (x := (ra 18)) (rs_p18 hS) dX4_lead_17 ?_
    refine lv_iload_n hx hb dX4_lead_20 rfl (lv_at hl 1 rfl) ?_
    refine lv_iload_n hx hb dX4_lead_21 rfl (lv_at hl 2 rfl) ?_
    refine lv_iconst (v := 2) hx hb dX4_lead_22 (by decide) ?_
    refine lv_icmp_ne (tgt := 30) hx hb dX4_lead_23 (by decide) (fun c23 => ?_) (fun c23 => ?_)
    · skip
      refine lv_iconst (v := 4) hx hb dX4_lead_30 (by decide) ?_
      refine hv_iast (x := 4) hx hb hK hT (rs_k18 hS) (cs_in8 (rf_lt8 hI0 hi)) dX4_lead_31 (fun H locs hT => ?_)
      obtain ⟨dg138, hdg138, hI⟩ : ∃ dg2 : Nat → Nat, dg2 i = 4 ∧ rf_J ra gh n 1 (B2 - 63) t nm st136 dg2 F kd (hv_sa v134 (ra 18) ((nI i) : Int32).toNatClampNeg 4) := ⟨va_up dg i 4, va_up_self .., rf_does (g := 4) hI (rf_lt8 hI0 hi) (by omega) (fun _ => h4) (fun P hP => rf_lb hB2 (by omega) hP)⟩
      have hS := hI.1
      refine lv_aload_n hx hb dX4_lead_32 rfl (lv_at hl 0 rfl) ?_
      refine lv_iload_n hx hb dX4_lead_33 rfl (lv_at hl 1 rfl) ?_
      refine lv_aload_n hx hb dX4_lead_34 rfl (lv_at hl 0 rfl) ?_
      refine hv_gets (ci := 4) (C := RX4) (T := TX4) (N := 34) hx hb hts (tw_cs in_X4) hown hK hT (rs_k0 hS) (by decide) rfl 14 (by decide) (hts _ (tw_c tw_326)) rfl (x := (ra 14)) (rs_p14 hS) dX4_lead_35 ?_
      refine lv_iload_n hx hb dX4_lead_38 rfl (lv_at hl 1 rfl) ?_
      refine hv_iald hx hb hK hT (rs_k14 hS) (cs_in8 (rf_lt8 hI0 hi)) dX4_lead_39 ?_
      refine lv_topi (fun g139 eg139 => ?_)
      have eg139 : g139 = nI (st136 i) := by rw [eg139]; exact rf_gst hI (rf_lt8 hI0 hi)
      subst eg139
      refine lv_iload_n hx hb dX4_lead_40 rfl (lv_at hl 2 rfl) ?_
      refine lv_icmp_ne (tgt := 48) hx hb dX4_lead_41 (by decide) (fun c41 => ?_) (fun c41 => ?_)
      · skip
        refine lv_iconst (v := 0) hx hb dX4_lead_48 (by decide) ?_
        refine hv_callv (va_runV (As := [.int (nI i), .int 0]) (rest := []) ⟨hx, hb, hml, hown, hts⟩ (m_clearThere l D tc hI hi 0) (cwV 2 hts (tw_V tw_389 tw_390 tw_514 tw_3 tw_391) rfl rfl rfl (by decide +kernel) ⟨Nat.le_of_ble_eq_true rfl, Nat.le_of_ble_eq_true rfl⟩) (hv_preV (ci := 4) hK hT.1 (rs_k0 hS) (by decide) rfl rfl) rfl rfl hl.1 rfl (lv_room (Nat.le_of_ble_eq_true rfl)) dX4_lead_49 ⟨Nat.le_of_ble_eq_true rfl, Nat.le_of_ble_eq_true rfl⟩) hT (fun v140 H locs hp141 hT => ?_)
        have hI := hp141
        have hS := hI.1
        refine lv_aload_n hx hb dX4_lead_52 rfl (lv_at hl 0 rfl) ?_
        refine lv_iload_n hx hb dX4_lead_53 rfl (lv_at hl 2 rfl) ?_
        refine lv_iconst (v := 2) hx hb dX4_lead_54 (by decide) ?_
        refine lv_icmp_ne (tgt := 63) hx hb dX4_lead_55 (by decide) (fun c55 => ?_) (fun c55 => ?_)
        · skip
          refine lv_bipush (v := 7) hx hb dX4_lead_63 (by decide) ?_
          refine lv_iload_n hx hb dX4_lead_65 rfl (lv_at hl 1 rfl) ?_
          refine lv_aload_n hx hb dX4_lead_66 rfl (lv_at hl 0 rfl) ?_
          refine hv_gets (ci := 4) (C := RX4) (T := TX4) (N := 34) hx hb hts (tw_cs in_X4) hown hK hT (rs_k0 hS) (by decide) rfl 19 (by decide) (hts _ (tw_c tw_331)) rfl (x := (ra 19)) (rs_p19 hS) dX4_lead_67 ?_
          refine lv_iload_n hx hb dX4_lead_70 rfl (lv_at hl 1 rfl) ?_
          refine hv_iald hx hb hK hT (rs_k19 hS) (cs_in8 (rf_lt8 hI0 hi)) dX4_lead_71 ?_
          refine lv_topi (fun g142 eg142 => ?_)
          refine hv_callv (va_runV (As := [.int 7, .int (nI i), .int g142]) (rest := []) ⟨hx, hb, hml, hown, hts⟩ (m_sendAll l D tc hI hi (by omega) (κ := 7) (by omega) g142) (cwV 3 hts (tw_V tw_383 tw_384 tw_512 tw_3 tw_385) rfl rfl rfl (by decide +kernel) ⟨Nat.le_of_ble_eq_true rfl, Nat.le_of_ble_eq_true rfl⟩) (hv_preV (ci := 4) hK hT.1 (rs_k0 hS) (by decide) rfl rfl) rfl rfl hl.1 rfl (lv_room (Nat.le_of_ble_eq_true rfl)) dX4_lead_72 ⟨Nat.le_of_ble_eq_true rfl, Nat.le_of_ble_eq_true rfl⟩) hT (fun v143 H locs hp144 hT => ?_)
          obtain ⟨nm145, kd146, hI⟩ := hp144
          have hS := hI.1
          have hI := rf_up (B' := B2) (by show (B2 - 63) + 7 * 9 ≤ B2; omega) hI
          refine lv_aload_n hx hb dX4_lead_75 rfl (lv_at hl 0 rfl) ?_
          refine lv_iload_n hx hb dX4_lead_76 rfl (lv_at hl 1 rfl) ?_
          refine lv_aload_n hx hb dX4_lead_77 rfl (lv_at hl 0 rfl) ?_
          refine hv_geti (ci := 4) (C := RX4) (T := TX4) (N := 34) hx hb hts (tw_cs in_X4) hown hK hT (rs_k0 hS) (by decide) rfl 5 (by decide) (hts _ (tw_c tw_317)) rfl dX4_lead_78 ?_
          refine lv_topi (fun g147 eg147 => ?_)
          obtain ⟨q148, h5q148, h100q148, hq148⟩ := rf_q hI
          have eg147 : g147 = (nI q148) := by rw [eg147]; exact hq148
          subst eg147
          refine hv_callv (va_runV (As := [.int (nI i), .int (nI q148)]) (rest := []) ⟨hx, hb, hml, hown, hts⟩ (m_setTimer l D tc hI hi (q := q148) (by omega) (by have := rf_lt8 hI0 hi; omega) h4) (cwV 2 hts (tw_V tw_392 tw_393 tw_515 tw_3 tw_394) rfl rfl rfl (by decide +kernel) ⟨Nat.le_of_ble_eq_true rfl, Nat.le_of_ble_eq_true rfl⟩) (hv_preV (ci := 4) hK hT.1 (rs_k0 hS) (by decide) rfl rfl) rfl rfl hl.1 rfl (lv_room (Nat.le_of_ble_eq_true rfl)) dX4_lead_81 ⟨Nat.le_of_ble_eq_true rfl, Nat.le_of_ble_eq_true rfl⟩) hT (fun v149 H locs hp150 hT => ?_)
          have hI := hp150
          have hS := hI.1
          refine lv_aload_n hx hb dX4_lead_84 rfl (lv_at hl 0 rfl) ?_
          refine lv_iload_n hx hb dX4_lead_85 rfl (lv_at hl 1 rfl) ?_
          refine hv_callv (va_runV (As := [.int (nI i)]) (rest := []) ⟨hx, hb, hml, hown, hts⟩ (m_checkQuorum l D tc hI hi (by omega)) (cwV 1 hts (tw_V tw_401 tw_402 tw_518 tw_3 tw_403) rfl rfl rfl (by decide +kernel) ⟨Nat.le_of_ble_eq_true rfl, Nat.le_of_ble_eq_true rfl⟩) (hv_preV (ci := 4) hK hT.1 (rs_k0 hS) (by decide) rfl rfl) rfl rfl hl.1 rfl (lv_room (Nat.le_of_ble_eq_true rfl)) dX4_lead_86 ⟨Nat.le_of_ble_eq_true rfl, Nat.le_of_ble_eq_true rfl⟩) hT (fun v151 H locs hp152 hT => ?_)
          obtain ⟨nm153, st154, dg155, kd156, hI⟩ := hp152
          have hS := hI.1
          exact hret _ v151 _ _ _ _ _ dX4_lead_89 hT ⟨_, _, _, _, hI⟩ (by decide) (by decide)
        · skip
          refine lv_bipush (v := 6) hx hb dX4_lead_58 (by decide) ?_
          refine lv_goto (tgt := 65) hx hb dX4_lead_60 (by decide) ?_
          refine lv_iload_n hx hb dX4_lead_65 rfl (lv_at hl 1 rfl) ?_
          refine lv_aload_n hx hb dX4_lead_66 rfl (lv_at hl 0 rfl) ?_
          refine hv_gets (ci := 4) (C := RX4) (T := TX4) (N := 34) hx hb hts (tw_cs in_X4) hown hK hT (rs_k0 hS) (by decide) rfl 19 (by decide) (hts _ (tw_c tw_331)) rfl (x := (ra 19)) (rs_p19 hS) dX4_lead_67 ?_
          refine lv_iload_n hx hb dX4_lead_70 rfl (lv_at hl 1 rfl) ?_
          refine hv_iald hx hb hK hT (rs_k19 hS) (cs_in8 (rf_lt8 hI0 hi)) dX4_lead_71 ?_
          refine lv_topi (fun g157 eg157 => ?_)
          refine hv_callv (va_runV (As := [.int 6, .int (nI i), .int g157]) (rest := []) ⟨hx, hb, hml, hown, hts⟩ (m_sendAll l D tc hI hi (by omega) (κ := 6) (by omega) g157) (cwV 3 hts (tw_V tw_383 tw_384 tw_512 tw_3 tw_385) rfl rfl rfl (by decide +kernel) ⟨Nat.le_of_ble_eq_true rfl, Nat.le_of_ble_eq_true rfl⟩) (hv_preV (ci := 4) hK hT.1 (rs_k0 hS) (by decide) rfl rfl) rfl rfl hl.1 rfl (lv_room (Nat.le_of_ble_eq_true rfl)) dX4_lead_72 ⟨Nat.le_of_ble_eq_true rfl, Nat.le_of_ble_eq_true rfl⟩) hT (fun v158 H locs hp159 hT => ?_)
          obtain ⟨nm160, kd161, hI⟩ := hp159
          have hS := hI.1
          have hI := rf_up (B' := B2) (by show (B2 - 63) + 7 * 9 ≤ B2; omega) hI
          refine lv_aload_n hx hb dX4_lead_75 rfl (lv_at hl 0 rfl) ?_
          refine lv_iload_n hx hb dX4_lead_76 rfl (lv_at hl 1 rfl) ?_
          refine lv_aload_n hx hb dX4_lead_77 rfl (lv_at hl 0 rfl) ?_
          refine hv_geti (ci := 4) (C := RX4) (T := TX4) (N := 34) hx hb hts (tw_cs in_X4) hown hK hT (rs_k0 hS) (by decide) rfl 5 (by decide) (hts _ (tw_c tw_317)) rfl dX4_lead_78 ?_
          refine lv_topi (fun g162 eg162 => ?_)
          obtain ⟨q163, h5q163, h100q163, hq163⟩ := rf_q hI
          have eg162 : g162 = (nI q163) := by rw [eg162]; exact hq163
          subst eg162
          refine hv_callv (va_runV (As := [.int (nI i), .int (nI q163)]) (rest := []) ⟨hx, hb, hml, hown, hts⟩ (m_setTimer l D tc hI hi (q := q163) (by omega) (by have := rf_lt8 hI0 hi; omega) h4) (cwV 2 hts (tw_V tw_392 tw_393 tw_515 tw_3 tw_394) rfl rfl rfl (by decide +kernel) ⟨Nat.le_of_ble_eq_true rfl, Nat.le_of_ble_eq_true rfl⟩) (hv_preV (ci := 4) hK hT.1 (rs_k0 hS) (by decide) rfl rfl) rfl rfl hl.1 rfl (lv_room (Nat.le_of_ble_eq_true rfl)) dX4_lead_81 ⟨Nat.le_of_ble_eq_true rfl, Nat.le_of_ble_eq_true rfl⟩) hT (fun v164 H locs hp165 hT => ?_)
          have hI := hp165
          have hS := hI.1
          refine lv_aload_n hx hb dX4_lead_84 rfl (lv_at hl 0 rfl) ?_
          refine lv_iload_n hx hb dX4_lead_85 rfl (lv_at hl 1 rfl) ?_
          refine hv_callv (va_runV (As := [.int (nI i)]) (rest := []) ⟨hx, hb, hml, hown, hts⟩ (m_checkQuorum l D tc hI hi (by omega)) (cwV 1 hts (tw_V tw_401 tw_402 tw_518 tw_3 tw_403) rfl rfl rfl (by decide +kernel) ⟨Nat.le_of_ble_eq_true rfl, Nat.le_of_ble_eq_true rfl⟩) (hv_preV (ci := 4) hK hT.1 (rs_k0 hS) (by decide) rfl rfl) rfl rfl hl.1 rfl (lv_room (Nat.le_of_ble_eq_true rfl)) dX4_lead_86 ⟨Nat.le_of_ble_eq_true rfl, Nat.le_of_ble_eq_true rfl⟩) hT (fun v166 H locs hp167 hT => ?_)
          obtain ⟨nm168, st169, dg170, kd171, hI⟩ := hp167
          have hS := hI.1
          exact hret _ v166 _ _ _ _ _ dX4_lead_89 hT ⟨_, _, _, _, hI⟩ (by decide) (by decide)
      · skip
        refine lv_iconst (v := 1) hx hb dX4_lead_44 (by decide) ?_
        refine lv_goto (tgt := 49) hx hb dX4_lead_45 (by decide) ?_
        refine hv_callv (va_runV (As := [.int (nI i), .int 1]) (rest := []) ⟨hx, hb, hml, hown, hts⟩ (m_clearThere l D tc hI hi 1) (cwV 2 hts (tw_V tw_389 tw_390 tw_514 tw_3 tw_391) rfl rfl rfl (by decide +kernel) ⟨Nat.le_of_ble_eq_true rfl, Nat.le_of_ble_eq_true rfl⟩) (hv_preV (ci := 4) hK hT.1 (rs_k0 hS) (by decide) rfl rfl) rfl rfl hl.1 rfl (lv_room (Nat.le_of_ble_eq_true rfl)) dX4_lead_49 ⟨Nat.le_of_ble_eq_true rfl, Nat.le_of_ble_eq_true rfl⟩) hT (fun v172 H locs hp173 hT => ?_)
        have hI := hp173
        have hS := hI.1
        refine lv_aload_n hx hb dX4_lead_52 rfl (lv_at hl 0 rfl) ?_
        refine lv_iload_n hx hb dX4_lead_53 rfl (lv_at hl 2 rfl) ?_
        refine lv_iconst (v := 2) hx hb dX4_lead_54 (by decide) ?_
        refine lv_icmp_ne (tgt := 63) hx hb dX4_lead_55 (by decide) (fun c55 => ?_) (fun c55 => ?_)
        · skip
          refine lv_bipush (v := 7) hx hb dX4_lead_63 (by decide) ?_
          refine lv_iload_n hx hb dX4_lead_65 rfl (lv_at hl 1 rfl) ?_
          refine lv_aload_n hx hb dX4_lead_66 rfl (lv_at hl 0 rfl) ?_
          refine hv_gets (ci := 4) (C := RX4) (T := TX4) (N := 34) hx hb hts (tw_cs in_X4) hown hK hT (rs_k0 hS) (by decide) rfl 19 (by decide) (hts _ (tw_c tw_331)) rfl (x := (ra 19)) (rs_p19 hS) dX4_lead_67 ?_
          refine lv_iload_n hx hb dX4_lead_70 rfl (lv_at hl 1 rfl) ?_
          refine hv_iald hx hb hK hT (rs_k19 hS) (cs_in8 (rf_lt8 hI0 hi)) dX4_lead_71 ?_
          refine lv_topi (fun g174 eg174 => ?_)
          refine hv_callv (va_runV (As := [.int 7, .int (nI i), .int g174]) (rest := []) ⟨hx, hb, hml, hown, hts⟩ (m_sendAll l D tc hI hi (by omega) (κ := 7) (by omega) g174) (cwV 3 hts (tw_V tw_383 tw_384 tw_512 tw_3 tw_385) rfl rfl rfl (by decide +kernel) ⟨Nat.le_of_ble_eq_true rfl, Nat.le_of_ble_eq_true rfl⟩) (hv_preV (ci := 4) hK hT.1 (rs_k0 hS) (by decide) rfl rfl) rfl rfl hl.1 rfl (lv_room (Nat.le_of_ble_eq_true rfl)) dX4_lead_72 ⟨Nat.le_of_ble_eq_true rfl, Nat.le_of_ble_eq_true rfl⟩) hT (fun v175 H locs hp176 hT => ?_)
          obtain ⟨nm177, kd178, hI⟩ := hp176
          have hS := hI.1
          have hI := rf_up (B' := B2) (by show (B2 - 63) + 7 * 9 ≤ B2; omega) hI
          refine lv_aload_n hx hb dX4_lead_75 rfl (lv_at hl 0 rfl) ?_
          refine lv_iload_n hx hb dX4_lead_76 rfl (lv_at hl 1 rfl) ?_
          refine lv_aload_n hx hb dX4_lead_77 rfl (lv_at hl 0 rfl) ?_
          refine hv_geti (ci := 4) (C := RX4) (T := TX4) (N := 34) hx hb hts (tw_cs in_X4) hown hK hT (rs_k0 hS) (by decide) rfl 5 (by decide) (hts _ (tw_c tw_317)) rfl dX4_lead_78 ?_
          refine lv_topi (fun g179 eg179 => ?_)
          obtain ⟨q180, h5q180, h100q180, hq180⟩ := rf_q hI
          have eg179 : g179 = (nI q180) := by rw [eg179]; exact hq180
          subst eg179
          refine hv_callv (va_runV (As := [.int (nI i), .int (nI q180)]) (rest := []) ⟨hx, hb, hml, hown, hts⟩ (m_setTimer l D tc hI hi (q := q180) (by omega) (by have := rf_lt8 hI0 hi; omega) h4) (cwV 2 hts (tw_V tw_392 tw_393 tw_515 tw_3 tw_394) rfl rfl rfl (by decide +kernel) ⟨Nat.le_of_ble_eq_true rfl, Nat.le_of_ble_eq_true rfl⟩) (hv_preV (ci := 4) hK hT.1 (rs_k0 hS) (by decide) rfl rfl) rfl rfl hl.1 rfl (lv_room (Nat.le_of_ble_eq_true rfl)) dX4_lead_81 ⟨Nat.le_of_ble_eq_true rfl, Nat.le_of_ble_eq_true rfl⟩) hT (fun v181 H locs hp182 hT => ?_)
          have hI := hp182
          have hS := hI.1
          refine lv_aload_n hx hb dX4_lead_84 rfl (lv_at hl 0 rfl) ?_
          refine lv_iload_n hx hb dX4_lead_85 rfl (lv_at hl 1 rfl) ?_
          refine hv_callv (va_runV (As := [.int (nI i)]) (rest := []) ⟨hx, hb, hml, hown, hts⟩ (m_checkQuorum l D tc hI hi (by omega)) (cwV 1 hts (tw_V tw_401 tw_402 tw_518 tw_3 tw_403) rfl rfl rfl (by decide +kernel) ⟨Nat.le_of_ble_eq_true rfl, Nat.le_of_ble_eq_true rfl⟩) (hv_preV (ci := 4) hK hT.1 (rs_k0 hS) (by decide) rfl rfl) rfl rfl hl.1 rfl (lv_room (Nat.le_of_ble_eq_true rfl)) dX4_lead_86 ⟨Nat.le_of_ble_eq_true rfl, Nat.le_of_ble_eq_true rfl⟩) hT (fun v183 H locs hp184 hT => ?_)
          obtain ⟨nm185, st186, dg187, kd188, hI⟩ := hp184
          have hS := hI.1
          exact hret _ v183 _ _ _ _ _ dX4_lead_89 hT ⟨_, _, _, _, hI⟩ (by decide) (by decide)
        · skip
          refine lv_bipush (v := 6) hx hb dX4_lead_58 (by decide) ?_
          refine lv_goto (tgt := 65) hx hb dX4_lead_60 (by decide) ?_
          refine lv_iload_n hx hb dX4_lead_65 rfl (lv_at hl 1 rfl) ?_
          refine lv_aload_n hx hb dX4_lead_66 rfl (lv_at hl 0 rfl) ?_
          refine hv_gets (ci := 4) (C := RX4) (T := TX4) (N := 34) hx hb hts (tw_cs in_X4) hown hK hT (rs_k0 hS) (by decide) rfl 19 (by decide) (hts _ (tw_c tw_331)) rfl (x := (ra 19)) (rs_p19 hS) dX4_lead_67 ?_
          refine lv_iload_n hx hb dX4_lead_70 rfl (lv_at hl 1 rfl) ?_
          refine hv_iald hx hb hK hT (rs_k19 hS) (cs_in8 (rf_lt8 hI0 hi)) dX4_lead_71 ?_
          refine lv_topi (fun g189 eg189 => ?_)
          refine hv_callv (va_runV (As := [.int 6, .int (nI i), .int g189]) (rest := []) ⟨hx, hb, hml, hown, hts⟩ (m_sendAll l D tc hI hi (by omega) (κ := 6) (by omega) g189) (cwV 3 hts (tw_V tw_383 tw_384 tw_512 tw_3 tw_385) rfl rfl rfl (by decide +kernel) ⟨Nat.le_of_ble_eq_true rfl, Nat.le_of_ble_eq_true rfl⟩) (hv_preV (ci := 4) hK hT.1 (rs_k0 hS) (by decide) rfl rfl) rfl rfl hl.1 rfl (lv_room (Nat.le_of_ble_eq_true rfl)) dX4_lead_72 ⟨Nat.le_of_ble_eq_true rfl, Nat.le_of_ble_eq_true rfl⟩) hT (fun v190 H locs hp191 hT => ?_)
          obtain ⟨nm192, kd193, hI⟩ := hp191
          have hS := hI.1
          have hI := rf_up (B' := B2) (by show (B2 - 63) + 7 * 9 ≤ B2; omega) hI
          refine lv_aload_n hx hb dX4_lead_75 rfl (lv_at hl 0 rfl) ?_
          refine lv_iload_n hx hb dX4_lead_76 rfl (lv_at hl 1 rfl) ?_
          refine lv_aload_n hx hb dX4_lead_77 rfl (lv_at hl 0 rfl) ?_
          refine hv_geti (ci := 4) (C := RX4) (T := TX4) (N := 34) hx hb hts (tw_cs in_X4) hown hK hT (rs_k0 hS) (by decide) rfl 5 (by decide) (hts _ (tw_c tw_317)) rfl dX4_lead_78 ?_
          refine lv_topi (fun g194 eg194 => ?_)
          obtain ⟨q195, h5q195, h100q195, hq195⟩ := rf_q hI
          have eg194 : g194 = (nI q195) := by rw [eg194]; exact hq195
          subst eg194
          refine hv_callv (va_runV (As := [.int (nI i), .int (nI q195)]) (rest := []) ⟨hx, hb, hml, hown, hts⟩ (m_setTimer l D tc hI hi (q := q195) (by omega) (by have := rf_lt8 hI0 hi; omega) h4) (cwV 2 hts (tw_V tw_392 tw_393 tw_515 tw_3 tw_394) rfl rfl rfl (by decide +kernel) ⟨Nat.le_of_ble_eq_true rfl, Nat.le_of_ble_eq_true rfl⟩) (hv_preV (ci := 4) hK hT.1 (rs_k0 hS) (by decide) rfl rfl) rfl rfl hl.1 rfl (lv_room (Nat.le_of_ble_eq_true rfl)) dX4_lead_81 ⟨Nat.le_of_ble_eq_true rfl, Nat.le_of_ble_eq_true rfl⟩) hT (fun v196 H locs hp197 hT => ?_)
          have hI := hp197
          have hS := hI.1
          refine lv_aload_n hx hb dX4_lead_84 rfl (lv_at hl 0 rfl) ?_
          refine lv_iload_n hx hb dX4_lead_85 rfl (lv_at hl 1 rfl) ?_
          refine hv_callv (va_runV (As := [.int (nI i)]) (rest := []) ⟨hx, hb, hml, hown, hts⟩ (m_checkQuorum l D tc hI hi (by omega)) (cwV 1 hts (tw_V tw_401 tw_402 tw_518 tw_3 tw_403) rfl rfl rfl (by decide +kernel) ⟨Nat.le_of_ble_eq_true rfl, Nat.le_of_ble_eq_true rfl⟩) (hv_preV (ci := 4) hK hT.1 (rs_k0 hS) (by decide) rfl rfl) rfl rfl hl.1 rfl (lv_room (Nat.le_of_ble_eq_true rfl)) dX4_lead_86 ⟨Nat.le_of_ble_eq_true rfl, Nat.le_of_ble_eq_true rfl⟩) hT (fun v198 H locs hp199 hT => ?_)
          obtain ⟨nm200, st201, dg202, kd203, hI⟩ := hp199
          have hS := hI.1
          exact hret _ v198 _ _ _ _ _ dX4_lead_89 hT ⟨_, _, _, _, hI⟩ (by decide) (by decide)
    · skip
      refine lv_iconst (v := 2) hx hb dX4_lead_26 (by decide) ?_
      refine lv_goto (tgt := 31) hx hb dX4_lead_27 (by decide) ?_
      refine hv_iast (x := 2) hx hb hK hT (rs_k18 hS) (cs_in8 (rf_lt8 hI0 hi)) dX4_lead_31 (fun H locs hT => ?_)
      obtain ⟨dg204, hdg204, hI⟩ : ∃ dg2 : Nat → Nat, dg2 i = 2 ∧ rf_J ra gh n 1 (B2 - 63) t nm st136 dg2 F kd (hv_sa v134 (ra 18) ((nI i) : Int32).toNatClampNeg 2) := ⟨va_up dg i 2, va_up_self .., rf_does (g := 2) hI (rf_lt8 hI0 hi) (by omega) (fun _ => h4) (fun P hP => rf_lb hB2 (by omega) hP)⟩
      have hS := hI.1
      refine lv_aload_n hx hb dX4_lead_32 rfl (lv_at hl 0 rfl) ?_
      refine lv_iload_n hx hb dX4_lead_33 rfl (lv_at hl 1 rfl) ?_
      refine lv_aload_n hx hb dX4_lead_34 rfl (lv_at hl 0 rfl) ?_
      refine hv_gets (ci := 4) (C := RX4) (T := TX4) (N := 34) hx hb hts (tw_cs in_X4) hown hK hT (rs_k0 hS) (by decide) rfl 14 (by decide) (hts _ (tw_c tw_326)) rfl (x := (ra 14)) (rs_p14 hS) dX4_lead_35 ?_
      refine lv_iload_n hx hb dX4_lead_38 rfl (lv_at hl 1 rfl) ?_
      refine hv_iald hx hb hK hT (rs_k14 hS) (cs_in8 (rf_lt8 hI0 hi)) dX4_lead_39 ?_
      refine lv_topi (fun g205 eg205 => ?_)
      have eg205 : g205 = nI (st136 i) := by rw [eg205]; exact rf_gst hI (rf_lt8 hI0 hi)
      subst eg205
      refine lv_iload_n hx hb dX4_lead_40 rfl (lv_at hl 2 rfl) ?_
      refine lv_icmp_ne (tgt := 48) hx hb dX4_lead_41 (by decide) (fun c41 => ?_) (fun c41 => ?_)
      · skip
        refine lv_iconst (v := 0) hx hb dX4_lead_48 (by decide) ?_
        refine hv_callv (va_runV (As := [.int (nI i), .int 0]) (rest := []) ⟨hx, hb, hml, hown, hts⟩ (m_clearThere l D tc hI hi 0) (cwV 2 hts (tw_V tw_389 tw_390 tw_514 tw_3 tw_391) rfl rfl rfl (by decide +kernel) ⟨Nat.le_of_ble_eq_true rfl, Nat.le_of_ble_eq_true rfl⟩) (hv_preV (ci := 4) hK hT.1 (rs_k0 hS) (by decide) rfl rfl) rfl rfl hl.1 rfl (lv_room (Nat.le_of_ble_eq_true rfl)) dX4_lead_49 ⟨Nat.le_of_ble_eq_true rfl, Nat.le_of_ble_eq_true rfl⟩) hT (fun v206 H locs hp207 hT => ?_)
        have hI := hp207
        have hS := hI.1
        refine lv_aload_n hx hb dX4_lead_52 rfl (lv_at hl 0 rfl) ?_
        refine lv_iload_n hx hb dX4_lead_53 rfl (lv_at hl 2 rfl) ?_
        refine lv_iconst (v := 2) hx hb dX4_lead_54 (by decide) ?_
        refine lv_icmp_ne (tgt := 63) hx hb dX4_lead_55 (by decide) (fun c55 => ?_) (fun c55 => ?_)
        · skip
          refine lv_bipush (v := 7) hx hb dX4_lead_63 (by decide) ?_
          refine lv_iload_n hx hb dX4_lead_65 rfl (lv_at hl 1 rfl) ?_
          refine lv_aload_n hx hb dX4_lead_66 rfl (lv_at hl 0 rfl) ?_
          refine hv_gets (ci := 4) (C := RX4) (T := TX4) (N := 34) hx hb hts (tw_cs in_X4) hown hK hT (rs_k0 hS) (by decide) rfl 19 (by decide) (hts _ (tw_c tw_331)) rfl (x := (ra 19)) (rs_p19 hS) dX4_lead_67 ?_
          refine lv_iload_n hx hb dX4_lead_70 rfl (lv_at hl 1 rfl) ?_
          refine hv_iald hx hb hK hT (rs_k19 hS) (cs_in8 (rf_lt8 hI0 hi)) dX4_lead_71 ?_
          refine lv_topi (fun g208 eg208 => ?_)
          refine hv_callv (va_runV (As := [.int 7, .int (nI i), .int g208]) (rest := []) ⟨hx, hb, hml, hown, hts⟩ (m_sendAll l D tc hI hi (by omega) (κ := 7) (by omega) g208) (cwV 3 hts (tw_V tw_383 tw_384 tw_512 tw_3 tw_385) rfl rfl rfl (by decide +kernel) ⟨Nat.le_of_ble_eq_true rfl, Nat.le_of_ble_eq_true rfl⟩) (hv_preV (ci := 4) hK hT.1 (rs_k0 hS) (by decide) rfl rfl) rfl rfl hl.1 rfl (lv_room (Nat.le_of_ble_eq_true rfl)) dX4_lead_72 ⟨Nat.le_of_ble_eq_true rfl, Nat.le_of_ble_eq_true rfl⟩) hT (fun v209 H locs hp210 hT => ?_)
          obtain ⟨nm211, kd212, hI⟩ := hp210
          have hS := hI.1
          have hI := rf_up (B' := B2) (by show (B2 - 63) + 7 * 9 ≤ B2; omega) hI
          refine lv_aload_n hx hb dX4_lead_75 rfl (lv_at hl 0 rfl) ?_
          refine lv_iload_n hx hb dX4_lead_76 rfl (lv_at hl 1 rfl) ?_
          refine lv_aload_n hx hb dX4_lead_77 rfl (lv_at hl 0 rfl) ?_
          refine hv_geti (ci := 4) (C := RX4) (T := TX4) (N := 34) hx hb hts (tw_cs in_X4) hown hK hT (rs_k0 hS) (by decide) rfl 5 (by decide) (hts _ (tw_c tw_317)) rfl dX4_lead_78 ?_
          refine lv_topi (fun g213 eg213 => ?_)
          obtain ⟨q214, h5q214, h100q214, hq214⟩ := rf_q hI
          have eg213 : g213 = (nI q214) := by rw [eg213]; exact hq214
          subst eg213
          refine hv_callv (va_runV (As := [.int (nI i), .int (nI q214)]) (rest := []) ⟨hx, hb, hml, hown, hts⟩ (m_setTimer l D tc hI hi (q := q214) (by omega) (by have := rf_lt8 hI0 hi; omega) h4) (cwV 2 hts (tw_V tw_392 tw_393 tw_515 tw_3 tw_394) rfl rfl rfl (by decide +kernel) ⟨Nat.le_of_ble_eq_true rfl, Nat.le_of_ble_eq_true rfl⟩) (hv_preV (ci := 4) hK hT.1 (rs_k0 hS) (by decide) rfl rfl) rfl rfl hl.1 rfl (lv_room (Nat.le_of_ble_eq_true rfl)) dX4_lead_81 ⟨Nat.le_of_ble_eq_true rfl, Nat.le_of_ble_eq_true rfl⟩) hT (fun v215 H locs hp216 hT => ?_)
          have hI := hp216
          have hS := hI.1
          refine lv_aload_n hx hb dX4_lead_84 rfl (lv_at hl 0 rfl) ?_
          refine lv_iload_n hx hb dX4_lead_85 rfl (lv_at hl 1 rfl) ?_
          refine hv_callv (va_runV (As := [.int (nI i)]) (rest := []) ⟨hx, hb, hml, hown, hts⟩ (m_checkQuorum l D tc hI hi (by omega)) (cwV 1 hts (tw_V tw_401 tw_402 tw_518 tw_3 tw_403) rfl rfl rfl (by decide +kernel) ⟨Nat.le_of_ble_eq_true rfl, Nat.le_of_ble_eq_true rfl⟩) (hv_preV (ci := 4) hK hT.1 (rs_k0 hS) (by decide) rfl rfl) rfl rfl hl.1 rfl (lv_room (Nat.le_of_ble_eq_true rfl)) dX4_lead_86 ⟨Nat.le_of_ble_eq_true rfl, Nat.le_of_ble_eq_true rfl⟩) hT (fun v217 H locs hp218 hT => ?_)
          obtain ⟨nm219, st220, dg221, kd222, hI⟩ := hp218
          have hS := hI.1
          exact hret _ v217 _ _ _ _ _ dX4_lead_89 hT ⟨_, _, _, _, hI⟩ (by decide) (by decide)
        · skip
          refine lv_bipush (v := 6) hx hb dX4_lead_58 (by decide) ?_
          refine lv_goto (tgt := 65) hx hb dX4_lead_60 (by decide) ?_
          refine lv_iload_n hx hb dX4_lead_65 rfl (lv_at hl 1 rfl) ?_
          refine lv_aload_n hx hb dX4_lead_66 rfl (lv_at hl 0 rfl) ?_
          refine hv_gets (ci := 4) (C := RX4) (T := TX4) (N := 34) hx hb hts (tw_cs in_X4) hown hK hT (rs_k0 hS) (by decide) rfl 19 (by decide) (hts _ (tw_c tw_331)) rfl (x := (ra 19)) (rs_p19 hS) dX4_lead_67 ?_
          refine lv_iload_n hx hb dX4_lead_70 rfl (lv_at hl 1 rfl) ?_
          refine hv_iald hx hb hK hT (rs_k19 hS) (cs_in8 (rf_lt8 hI0 hi)) dX4_lead_71 ?_
          refine lv_topi (fun g223 eg223 => ?_)
          refine hv_callv (va_runV (As := [.int 6, .int (nI i), .int g223]) (rest := []) ⟨hx, hb, hml, hown, hts⟩ (m_sendAll l D tc hI hi (by omega) (κ := 6) (by omega) g223) (cwV 3 hts (tw_V tw_383 tw_384 tw_512 tw_3 tw_385) rfl rfl rfl (by decide +kernel) ⟨Nat.le_of_ble_eq_true rfl, Nat.le_of_ble_eq_true rfl⟩) (hv_preV (ci := 4) hK hT.1 (rs_k0 hS) (by decide) rfl rfl) rfl rfl hl.1 rfl (lv_room (Nat.le_of_ble_eq_true rfl)) dX4_lead_72 ⟨Nat.le_of_ble_eq_true rfl, Nat.le_of_ble_eq_true rfl⟩) hT (fun v224 H locs hp225 hT => ?_)
          obtain ⟨nm226, kd227, hI⟩ := hp225
          have hS := hI.1
          have hI := rf_up (B' := B2) (by show (B2 - 63) + 7 * 9 ≤ B2; omega) hI
          refine lv_aload_n hx hb dX4_lead_75 rfl (lv_at hl 0 rfl) ?_
          refine lv_iload_n hx hb dX4_lead_76 rfl (lv_at hl 1 rfl) ?_
          refine lv_aload_n hx hb dX4_lead_77 rfl (lv_at hl 0 rfl) ?_
          refine hv_geti (ci := 4) (C := RX4) (T := TX4) (N := 34) hx hb hts (tw_cs in_X4) hown hK hT (rs_k0 hS) (by decide) rfl 5 (by decide) (hts _ (tw_c tw_317)) rfl dX4_lead_78 ?_
          refine lv_topi (fun g228 eg228 => ?_)
          obtain ⟨q229, h5q229, h100q229, hq229⟩ := rf_q hI
          have eg228 : g228 = (nI q229) := by rw [eg228]; exact hq229
          subst eg228
          refine hv_callv (va_runV (As := [.int (nI i), .int (nI q229)]) (rest := []) ⟨hx, hb, hml, hown, hts⟩ (m_setTimer l D tc hI hi (q := q229) (by omega) (by have := rf_lt8 hI0 hi; omega) h4) (cwV 2 hts (tw_V tw_392 tw_393 tw_515 tw_3 tw_394) rfl rfl rfl (by decide +kernel) ⟨Nat.le_of_ble_eq_true rfl, Nat.le_of_ble_eq_true rfl⟩) (hv_preV (ci := 4) hK hT.1 (rs_k0 hS) (by decide) rfl rfl) rfl rfl hl.1 rfl (lv_room (Nat.le_of_ble_eq_true rfl)) dX4_lead_81 ⟨Nat.le_of_ble_eq_true rfl, Nat.le_of_ble_eq_true rfl⟩) hT (fun v230 H locs hp231 hT => ?_)
          have hI := hp231
          have hS := hI.1
          refine lv_aload_n hx hb dX4_lead_84 rfl (lv_at hl 0 rfl) ?_
          refine lv_iload_n hx hb dX4_lead_85 rfl (lv_at hl 1 rfl) ?_
          refine hv_callv (va_runV (As := [.int (nI i)]) (rest := []) ⟨hx, hb, hml, hown, hts⟩ (m_checkQuorum l D tc hI hi (by omega)) (cwV 1 hts (tw_V tw_401 tw_402 tw_518 tw_3 tw_403) rfl rfl rfl (by decide +kernel) ⟨Nat.le_of_ble_eq_true rfl, Nat.le_of_ble_eq_true rfl⟩) (hv_preV (ci := 4) hK hT.1 (rs_k0 hS) (by decide) rfl rfl) rfl rfl hl.1 rfl (lv_room (Nat.le_of_ble_eq_true rfl)) dX4_lead_86 ⟨Nat.le_of_ble_eq_true rfl, Nat.le_of_ble_eq_true rfl⟩) hT (fun v232 H locs hp233 hT => ?_)
          obtain ⟨nm234, st235, dg236, kd237, hI⟩ := hp233
          have hS := hI.1
          exact hret _ v232 _ _ _ _ _ dX4_lead_89 hT ⟨_, _, _, _, hI⟩ (by decide) (by decide)
      · skip
        refine lv_iconst (v := 1) hx hb dX4_lead_44 (by decide) ?_
        refine lv_goto (tgt := 49) hx hb dX4_lead_45 (by decide) ?_
        refine hv_callv (va_runV (As := [.int (nI i), .int 1]) (rest := []) ⟨hx, hb, hml, hown, hts⟩ (m_clearThere l D tc hI hi 1) (cwV 2 hts (tw_V tw_389 tw_390 tw_514 tw_3 tw_391) rfl rfl rfl (by decide +kernel) ⟨Nat.le_of_ble_eq_true rfl, Nat.le_of_ble_eq_true rfl⟩) (hv_preV (ci := 4) hK hT.1 (rs_k0 hS) (by decide) rfl rfl) rfl rfl hl.1 rfl (lv_room (Nat.le_of_ble_eq_true rfl)) dX4_lead_49 ⟨Nat.le_of_ble_eq_true rfl, Nat.le_of_ble_eq_true rfl⟩) hT (fun v238 H locs hp239 hT => ?_)
        have hI := hp239
        have hS := hI.1
        refine lv_aload_n hx hb dX4_lead_52 rfl (lv_at hl 0 rfl) ?_
        refine lv_iload_n hx hb dX4_lead_53 rfl (lv_at hl 2 rfl) ?_
        refine lv_iconst (v := 2) hx hb dX4_lead_54 (by decide) ?_
        refine lv_icmp_ne (tgt := 63) hx hb dX4_lead_55 (by decide) (fun c55 => ?_) (fun c55 => ?_)
        · skip
          refine lv_bipush (v := 7) hx hb dX4_lead_63 (by decide) ?_
          refine lv_iload_n hx hb dX4_lead_65 rfl (lv_at hl 1 rfl) ?_
          refine lv_aload_n hx hb dX4_lead_66 rfl (lv_at hl 0 rfl) ?_
          refine hv_gets (ci := 4) (C := RX4) (T := TX4) (N := 34) hx hb hts (tw_cs in_X4) hown hK hT (rs_k0 hS) (by decide) rfl 19 (by decide) (hts _ (tw_c tw_331)) rfl (x := (ra 19)) (rs_p19 hS) dX4_lead_67 ?_
          refine lv_iload_n hx hb dX4_lead_70 rfl (lv_at hl 1 rfl) ?_
          refine hv_iald hx hb hK hT (rs_k19 hS) (cs_in8 (rf_lt8 hI0 hi)) dX4_lead_71 ?_
          refine lv_topi (fun g240 eg240 => ?_)
          refine hv_callv (va_runV (As := [.int 7, .int (nI i), .int g240]) (rest := []) ⟨hx, hb, hml, hown, hts⟩ (m_sendAll l D tc hI hi (by omega) (κ := 7) (by omega) g240) (cwV 3 hts (tw_V tw_383 tw_384 tw_512 tw_3 tw_385) rfl rfl rfl (by decide +kernel) ⟨Nat.le_of_ble_eq_true rfl, Nat.le_of_ble_eq_true rfl⟩) (hv_preV (ci := 4) hK hT.1 (rs_k0 hS) (by decide) rfl rfl) rfl rfl hl.1 rfl (lv_room (Nat.le_of_ble_eq_true rfl)) dX4_lead_72 ⟨Nat.le_of_ble_eq_true rfl, Nat.le_of_ble_eq_true rfl⟩) hT (fun v241 H locs hp242 hT => ?_)
          obtain ⟨nm243, kd244, hI⟩ := hp242
          have hS := hI.1
          have hI := rf_up (B' := B2) (by show (B2 - 63) + 7 * 9 ≤ B2; omega) hI
          refine lv_aload_n hx hb dX4_lead_75 rfl (lv_at hl 0 rfl) ?_
          refine lv_iload_n hx hb dX4_lead_76 rfl (lv_at hl 1 rfl) ?_
          refine lv_aload_n hx hb dX4_lead_77 rfl (lv_at hl 0 rfl) ?_
          refine hv_geti (ci := 4) (C := RX4) (T := TX4) (N := 34) hx hb hts (tw_cs in_X4) hown hK hT (rs_k0 hS) (by decide) rfl 5 (by decide) (hts _ (tw_c tw_317)) rfl dX4_lead_78 ?_
          refine lv_topi (fun g245 eg245 => ?_)
          obtain ⟨q246, h5q246, h100q246, hq246⟩ := rf_q hI
          have eg245 : g245 = (nI q246) := by rw [eg245]; exact hq246
          subst eg245
          refine hv_callv (va_runV (As := [.int (nI i), .int (nI q246)]) (rest := []) ⟨hx, hb, hml, hown, hts⟩ (m_setTimer l D tc hI hi (q := q246) (by omega) (by have := rf_lt8 hI0 hi; omega) h4) (cwV 2 hts (tw_V tw_392 tw_393 tw_515 tw_3 tw_394) rfl rfl rfl (by decide +kernel) ⟨Nat.le_of_ble_eq_true rfl, Nat.le_of_ble_eq_true rfl⟩) (hv_preV (ci := 4) hK hT.1 (rs_k0 hS) (by decide) rfl rfl) rfl rfl hl.1 rfl (lv_room (Nat.le_of_ble_eq_true rfl)) dX4_lead_81 ⟨Nat.le_of_ble_eq_true rfl, Nat.le_of_ble_eq_true rfl⟩) hT (fun v247 H locs hp248 hT => ?_)
          have hI := hp248
          have hS := hI.1
          refine lv_aload_n hx hb dX4_lead_84 rfl (lv_at hl 0 rfl) ?_
          refine lv_iload_n hx hb dX4_lead_85 rfl (lv_at hl 1 rfl) ?_
          refine hv_callv (va_runV (As := [.int (nI i)]) (rest := []) ⟨hx, hb, hml, hown, hts⟩ (m_checkQuorum l D tc hI hi (by omega)) (cwV 1 hts (tw_V tw_401 tw_402 tw_518 tw_3 tw_403) rfl rfl rfl (by decide +kernel) ⟨Nat.le_of_ble_eq_true rfl, Nat.le_of_ble_eq_true rfl⟩) (hv_preV (ci := 4) hK hT.1 (rs_k0 hS) (by decide) rfl rfl) rfl rfl hl.1 rfl (lv_room (Nat.le_of_ble_eq_true rfl)) dX4_lead_86 ⟨Nat.le_of_ble_eq_true rfl, Nat.le_of_ble_eq_true rfl⟩) hT (fun v249 H locs hp250 hT => ?_)
          obtain ⟨nm251, st252, dg253, kd254, hI⟩ := hp250
          have hS := hI.1
          exact hret _ v249 _ _ _ _ _ dX4_lead_89 hT ⟨_, _, _, _, hI⟩ (by decide) (by decide)
        · skip
          refine lv_bipush (v := 6) hx hb dX4_lead_58 (by decide) ?_
          refine lv_goto (tgt := 65) hx hb dX4_lead_60 (by decide) ?_
          refine lv_iload_n hx hb dX4_lead_65 rfl (lv_at hl 1 rfl) ?_
          refine lv_aload_n hx hb dX4_lead_66 rfl (lv_at hl 0 rfl) ?_
          refine hv_gets (ci := 4) (C := RX4) (T := TX4) (N := 34) hx hb hts (tw_cs in_X4) hown hK hT (rs_k0 hS) (by decide) rfl 19 (by decide) (hts _ (tw_c tw_331)) rfl (x := (ra 19)) (rs_p19 hS) dX4_lead_67 ?_
          refine lv_iload_n hx hb dX4_lead_70 rfl (lv_at hl 1 rfl) ?_
          refine hv_iald hx hb hK hT (rs_k19 hS) (cs_in8 (rf_lt8 hI0 hi)) dX4_lead_71 ?_
          refine lv_topi (fun g255 eg255 => ?_)
          refine hv_callv (va_runV (As := [.int 6, .int (nI i), .int g255]) (rest := []) ⟨hx, hb, hml, hown, hts⟩ (m_sendAll l D tc hI hi (by omega) (κ := 6) (by omega) g255) (cwV 3 hts (tw_V tw_383 tw_384 tw_512 tw_3 tw_385) rfl rfl rfl (by decide +kernel) ⟨Nat.le_of_ble_eq_true rfl, Nat.le_of_ble_eq_true rfl⟩) (hv_preV (ci := 4) hK hT.1 (rs_k0 hS) (by decide) rfl rfl) rfl rfl hl.1 rfl (lv_room (Nat.le_of_ble_eq_true rfl)) dX4_lead_72 ⟨Nat.le_of_ble_eq_true rfl, Nat.le_of_ble_eq_true rfl⟩) hT (fun v256 H locs hp257 hT => ?_)
          obtain ⟨nm258, kd259, hI⟩ := hp257
          have hS := hI.1
          have hI := rf_up (B' := B2) (by show (B2 - 63) + 7 * 9 ≤ B2; omega) hI
          refine lv_aload_n hx hb dX4_lead_75 rfl (lv_at hl 0 rfl) ?_
          refine lv_iload_n hx hb dX4_lead_76 rfl (lv_at hl 1 rfl) ?_
          refine lv_aload_n hx hb dX4_lead_77 rfl (lv_at hl 0 rfl) ?_
          refine hv_geti (ci := 4) (C := RX4) (T := TX4) (N := 34) hx hb hts (tw_cs in_X4) hown hK hT (rs_k0 hS) (by decide) rfl 5 (by decide) (hts _ (tw_c tw_317)) rfl dX4_lead_78 ?_
          refine lv_topi (fun g260 eg260 => ?_)
          obtain ⟨q261, h5q261, h100q261, hq261⟩ := rf_q hI
          have eg260 : g260 = (nI q261) := by rw [eg260]; exact hq261
          subst eg260
          refine hv_callv (va_runV (As := [.int (nI i), .int (nI q261)]) (rest := []) ⟨hx, hb, hml, hown, hts⟩ (m_setTimer l D tc hI hi (q := q261) (by omega) (by have := rf_lt8 hI0 hi; omega) h4) (cwV 2 hts (tw_V tw_392 tw_393 tw_515 tw_3 tw_394) rfl rfl rfl (by decide +kernel) ⟨Nat.le_of_ble_eq_true rfl, Nat.le_of_ble_eq_true rfl⟩) (hv_preV (ci := 4) hK hT.1 (rs_k0 hS) (by decide) rfl rfl) rfl rfl hl.1 rfl (lv_room (Nat.le_of_ble_eq_true rfl)) dX4_lead_81 ⟨Nat.le_of_ble_eq_true rfl, Nat.le_of_ble_eq_true rfl⟩) hT (fun v262 H locs hp263 hT => ?_)
          have hI := hp263
          have hS := hI.1
          refine lv_aload_n hx hb dX4_lead_84 rfl (lv_at hl 0 rfl) ?_
          refine lv_iload_n hx hb dX4_lead_85 rfl (lv_at hl 1 rfl) ?_
          refine hv_callv (va_runV (As := [.int (nI i)]) (rest := []) ⟨hx, hb, hml, hown, hts⟩ (m_checkQuorum l D tc hI hi (by omega)) (cwV 1 hts (tw_V tw_401 tw_402 tw_518 tw_3 tw_403) rfl rfl rfl (by decide +kernel) ⟨Nat.le_of_ble_eq_true rfl, Nat.le_of_ble_eq_true rfl⟩) (hv_preV (ci := 4) hK hT.1 (rs_k0 hS) (by decide) rfl rfl) rfl rfl hl.1 rfl (lv_room (Nat.le_of_ble_eq_true rfl)) dX4_lead_86 ⟨Nat.le_of_ble_eq_true rfl, Nat.le_of_ble_eq_true rfl⟩) hT (fun v264 H locs hp265 hT => ?_)
          obtain ⟨nm266, st267, dg268, kd269, hI⟩ := hp265
          have hS := hI.1
          exact hret _ v264 _ _ _ _ _ dX4_lead_89 hT ⟨_, _, _, _, hI⟩ (by decide) (by decide)

set_option maxHeartbeats 4000000 in
set_option maxRecDepth 100000 in
theorem m_checkVotes (l : Launch) (D : va_G) (tc : Nat → ClassId) {ra gh : Nat → Nat} {n B t nm : Nat} {st dg F kd : Nat → Nat} {v : hv_V} (hI : rf_J ra gh n 1 B t nm st dg F kd v) {i : Nat} (hi : i < n) (hd : dg i = 1) (h479 : B < 479700) : Met l yX4_checkVotes (Cond.code yX4_checkVotes cX4_checkVotes 4 none :: lw_B) ({ frames := 5, cells := 0, slots := 0, locals := 116 }) (va_Pc [.ref (ra 0), .int (nI i)] (hv_Pre D tc v)) (va_Qv (fun (v1 : hv_V) => ∃ nm1 st1 dg1 kd1, rf_J ra gh n 1 B t nm1 st1 dg1 F kd1 v1) (hv_Post D tc (hv_A v)) (hv_A v)) (0) (0) (hv_A v) := by
  refine hv_metv l (by decide) (Nat.le_of_ble_eq_true rfl) ?_
  intro p e s m args below meth c Q X hret hK hz H locs ls hT hl
  obtain ⟨hx, hb, hml, hts, hown, hin0⟩ := X
  have hown : s.vm.findClass "CommitSitesModel" = some m.cls := hown
  have hl : lv_has ls 4 [(0, .ref (ra 0)), (1, .int (nI i))] := hl
  have hS := hI.1
  have hI0 := hI
  have hdg4 := rf_dg4 hI (rf_lt8 hI hi)
  have hst5 := rf_st5 hI (rf_lt8 hI hi)
  refine lv_iconst (v := 1) hx hb dX4_checkVotes_0 (by decide) ?_
  refine lv_istore_n (lv' := [(2, _), (0, _), (1, _)]) hx hb dX4_checkVotes_1 rfl hl (by decide) rfl (fun ls hl => ?_)
  refine lv_iconst (v := 0) hx hb dX4_checkVotes_2 (by decide) ?_
  refine hv_as (x := 0) (y := (nI 0)) nI_0.symm ?_
  refine lv_istore_n (lv' := [(3, _), (2, _), (0, _), (1, _)]) hx hb dX4_checkVotes_3 rfl hl (by decide) rfl (fun ls hl => ?_)
  have hL4 : ∀ (N9 : Nat) (j : Nat) (x1 : Int32) (H : Heap) (locs : List Loc) (ls : Array Slot), j ≤ n → n < j + N9 → hv_St (hv_A v) s D tc v H locs → lv_has ls 4 [(0, .ref (ra 0)), (1, .int (nI i)), (2, .int x1), (3, .int (nI j))] → W p l e ({ frames := 5, cells := 0, slots := 0, locals := 116 } : Room) s m args below meth c H locs (0) (0) Q (F0 m 4 ls []) := by
    intro N9
    induction N9 with
    | zero =>
      intro j x1 H locs ls hlej hNj hT hl
      exfalso
      omega
    | succ N9 ih4 =>
      intro j x1 H locs ls hlej hNj hT hl
      refine lv_iload_n hx hb dX4_checkVotes_4 rfl (lv_at hl 3 rfl) ?_
      refine lv_aload_n hx hb dX4_checkVotes_5 rfl (lv_at hl 0 rfl) ?_
      refine hv_geti (ci := 4) (C := RX4) (T := TX4) (N := 34) hx hb hts (tw_cs in_X4) hown hK hT (rs_k0 hS) (by decide) rfl 1 (by decide) (hts _ (tw_c tw_313)) rfl dX4_checkVotes_6 ?_
      refine lv_topi (fun g1 eg1 => ?_)
      have eg1 : g1 = (nI n) := by rw [eg1]; exact rf_hn hI
      subst eg1
      refine lv_icmp_ge (tgt := 42) hx hb dX4_checkVotes_9 (by decide) (fun c9 => ?_) (fun c9 => ?_)
      · skip
        refine lv_iload_n hx hb dX4_checkVotes_42 rfl (lv_at hl 2 rfl) ?_
        refine lv_if_eq (tgt := 62) hx hb dX4_checkVotes_43 (by decide) (fun c43 => ?_) (fun c43 => ?_)
        · skip
          exact hret _ v _ _ _ _ _ dX4_checkVotes_62 hT ⟨_, _, _, _, hI⟩ (by decide) (by decide)
        · skip
          refine lv_aload_n hx hb dX4_checkVotes_46 rfl (lv_at hl 0 rfl) ?_
          refine hv_gets (ci := 4) (C := RX4) (T := TX4) (N := 34) hx hb hts (tw_cs in_X4) hown hK hT (rs_k0 hS) (by decide) rfl 19 (by decide) (hts _ (tw_c tw_331)) rfl (x := (ra 19)) (rs_p19 hS) dX4_checkVotes_47 ?_
          refine lv_iload_n hx hb dX4_checkVotes_50 rfl (lv_at hl 1 rfl) ?_
          refine lv_dup2_11 hx hb dX4_checkVotes_51 rfl rfl ?_
          refine hv_iald hx hb hK hT (rs_k19 hS) (cs_in8 (rf_lt8 hI0 hi)) dX4_checkVotes_52 ?_
          refine lv_topi (fun g2 eg2 => ?_)
          refine lv_iconst (v := 1) hx hb dX4_checkVotes_53 (by decide) ?_
          refine lv_iadd hx hb dX4_checkVotes_54 ?_
          refine hv_iast (x := (g2 + 1)) hx hb hK hT (rs_k19 hS) (cs_in8 (rf_lt8 hI0 hi)) dX4_checkVotes_55 (fun H locs hT => ?_)
          have hI := rf_puta (k := 19) (j := ((nI i) : Int32).toNatClampNeg) (x := (g2 + 1)) rfl hI
          have hS := hI.1
          refine lv_aload_n hx hb dX4_checkVotes_56 rfl (lv_at hl 0 rfl) ?_
          refine lv_iload_n hx hb dX4_checkVotes_57 rfl (lv_at hl 1 rfl) ?_
          refine lv_iconst (v := 2) hx hb dX4_checkVotes_58 (by decide) ?_
          refine hv_callv (va_runV (As := [.int (nI i), .int 2]) (rest := []) ⟨hx, hb, hml, hown, hts⟩ (m_lead l D tc hI hi (sv := 2) (by omega) (by omega) (rf_d4 hI (rf_lt8 hI0 hi) (by omega)) (B2 := B) (Or.inr ⟨hd, Nat.le_refl _⟩) h479) (cwV 2 hts (tw_V tw_398 tw_399 tw_517 tw_3 tw_400) rfl rfl rfl (by decide +kernel) ⟨Nat.le_of_ble_eq_true rfl, Nat.le_of_ble_eq_true rfl⟩) (hv_preV (ci := 4) hK hT.1 (rs_k0 hS) (by decide) rfl rfl) rfl rfl hl.1 rfl (lv_room (Nat.le_of_ble_eq_true rfl)) dX4_checkVotes_59 ⟨Nat.le_of_ble_eq_true rfl, Nat.le_of_ble_eq_true rfl⟩) hT (fun v3 H locs hp4 hT => ?_)
          obtain ⟨nm5, st6, dg7, kd8, hI⟩ := hp4
          have hS := hI.1
          exact hret _ v3 _ _ _ _ _ dX4_checkVotes_62 hT ⟨_, _, _, _, hI⟩ (by decide) (by decide)
      · skip
        have hltj : j < n := cs_lp hlej (rf_n8 hI0) c9
        refine lv_iload_n hx hb dX4_checkVotes_12 rfl (lv_at hl 2 rfl) ?_
        refine lv_if_eq (tgt := 34) hx hb dX4_checkVotes_13 (by decide) (fun c13 => ?_) (fun c13 => ?_)
        · skip
          refine lv_iconst (v := 0) hx hb dX4_checkVotes_34 (by decide) ?_
          refine lv_istore_n (lv' := [(2, _), (0, _), (1, _), (3, _)]) hx hb dX4_checkVotes_35 rfl hl (by decide) rfl (fun ls hl => ?_)
          refine lv_iinc (v := (nI (j + 1))) (lv' := [(3, _), (2, _), (0, _), (1, _)]) hx hb dX4_checkVotes_36 hl (k := 3) rfl (nI_1 _) (by decide) rfl (fun ls hl => ?_)
          refine lv_goto (tgt := 4) hx hb dX4_checkVotes_39 (by decide) ?_
          exact ih4 (j + 1) 0 H locs ls (by omega) (by omega) hT (lv_sub hl [2, 3, 1, 0] rfl)
        · skip
          refine lv_aload_n hx hb dX4_checkVotes_16 rfl (lv_at hl 0 rfl) ?_
          refine hv_gets (ci := 4) (C := RX4) (T := TX4) (N := 34) hx hb hts (tw_cs in_X4) hown hK hT (rs_k0 hS) (by decide) rfl 20 (by decide) (hts _ (tw_c tw_332)) rfl (x := (ra 20)) (rs_p20 hS) dX4_checkVotes_17 ?_
          refine lv_bipush (v := 8) hx hb dX4_checkVotes_20 (by decide) ?_
          refine lv_iload_n hx hb dX4_checkVotes_22 rfl (lv_at hl 1 rfl) ?_
          refine lv_imul hx hb dX4_checkVotes_23 ?_
          refine hv_as (x := (8 * (nI i))) (y := (nI (8 * i))) (nI_8 _) ?_
          refine lv_iload_n hx hb dX4_checkVotes_24 rfl (lv_at hl 3 rfl) ?_
          refine lv_iadd hx hb dX4_checkVotes_25 ?_
          refine hv_as (x := ((nI (8 * i)) + (nI j))) (y := (nI ((8 * i) + j))) (nI_add _ _) ?_
          refine hv_iald hx hb hK hT (rs_k20 hS) (rf_in64 (rf_lt8 hI0 hi) (rf_lt8 hI0 hltj)) dX4_checkVotes_26 ?_
          refine lv_topi (fun g9 eg9 => ?_)
          refine lv_if_le (tgt := 34) hx hb dX4_checkVotes_27 (by decide) (fun c27 => ?_) (fun c27 => ?_)
          · skip
            refine lv_iconst (v := 0) hx hb dX4_checkVotes_34 (by decide) ?_
            refine lv_istore_n (lv' := [(2, _), (0, _), (1, _), (3, _)]) hx hb dX4_checkVotes_35 rfl hl (by decide) rfl (fun ls hl => ?_)
            refine lv_iinc (v := (nI (j + 1))) (lv' := [(3, _), (2, _), (0, _), (1, _)]) hx hb dX4_checkVotes_36 hl (k := 3) rfl (nI_1 _) (by decide) rfl (fun ls hl => ?_)
            refine lv_goto (tgt := 4) hx hb dX4_checkVotes_39 (by decide) ?_
            exact ih4 (j + 1) 0 H locs ls (by omega) (by omega) hT (lv_sub hl [2, 3, 1, 0] rfl)
          · skip
            refine lv_iconst (v := 1) hx hb dX4_checkVotes_30 (by decide) ?_
            refine lv_goto (tgt := 35) hx hb dX4_checkVotes_31 (by decide) ?_
            refine lv_istore_n (lv' := [(2, _), (0, _), (1, _), (3, _)]) hx hb dX4_checkVotes_35 rfl hl (by decide) rfl (fun ls hl => ?_)
            refine lv_iinc (v := (nI (j + 1))) (lv' := [(3, _), (2, _), (0, _), (1, _)]) hx hb dX4_checkVotes_36 hl (k := 3) rfl (nI_1 _) (by decide) rfl (fun ls hl => ?_)
            refine lv_goto (tgt := 4) hx hb dX4_checkVotes_39 (by decide) ?_
            exact ih4 (j + 1) 1 H locs ls (by omega) (by omega) hT (lv_sub hl [2, 3, 1, 0] rfl)
  exact hL4 (n + 1) 0 1 H locs ls (Nat.zero_le _) (by omega) hT (lv_sub hl [2, 3, 1, 0] rfl)

set_option maxHeartbeats 4000000 in
set_option maxRecDepth 100000 in
theorem m_attempt (l : Launch) (D : va_G) (tc : Nat → ClassId) {ra gh : Nat → Nat} {n B t nm : Nat} {st dg F kd : Nat → Nat} {v : hv_V} (hI : rf_J ra gh n 1 B t nm st dg F kd v) {i : Nat} (hi : i < n) (h4 : st i < 4) (h479 : B < 479600) : Met l yX4_attempt (Cond.code yX4_attempt cX4_attempt 2 none :: lw_B) ({ frames := 2, cells := 0, slots := 0, locals := 50 }) (va_Pc [.ref (ra 0), .int (nI i)] (hv_Pre D tc v)) (va_Qv (fun (v1 : hv_V) => ∃ nm1 dg1 kd1, rf_J ra gh n 1 (B + 63) t nm1 st dg1 F kd1 v1) (hv_Post D tc (hv_A v)) (hv_A v)) (0) (0) (hv_A v) := by
  refine hv_metv l (by decide) (Nat.le_of_ble_eq_true rfl) ?_
  intro p e s m args below meth c Q X hret hK hz H locs ls hT hl
  obtain ⟨hx, hb, hml, hts, hown, hin0⟩ := X
  have hown : s.vm.findClass "CommitSitesModel" = some m.cls := hown
  have hl : lv_has ls 2 [(0, .ref (ra 0)), (1, .int (nI i))] := hl
  have hS := hI.1
  have hI0 := hI
  have hdg4 := rf_dg4 hI (rf_lt8 hI hi)
  have hst5 := rf_st5 hI (rf_lt8 hI hi)
  refine lv_aload_n hx hb dX4_attempt_0 rfl (lv_at hl 0 rfl) ?_
  refine hv_gets (ci := 4) (C := RX4) (T := TX4) (N := 34) hx hb hts (tw_cs in_X4) hown hK hT (rs_k0 hS) (by decide) rfl 19 (by decide) (hts _ (tw_c tw_331)) rfl (x := (ra 19)) (rs_p19 hS) dX4_attempt_1 ?_
  refine lv_iload_n hx hb dX4_attempt_4 rfl (lv_at hl 1 rfl) ?_
  refine lv_dup2_11 hx hb dX4_attempt_5 rfl rfl ?_
  refine hv_iald hx hb hK hT (rs_k19 hS) (cs_in8 (rf_lt8 hI0 hi)) dX4_attempt_6 ?_
  refine lv_topi (fun g1 eg1 => ?_)
  refine lv_iconst (v := 1) hx hb dX4_attempt_7 (by decide) ?_
  refine lv_iadd hx hb dX4_attempt_8 ?_
  refine hv_iast (x := (g1 + 1)) hx hb hK hT (rs_k19 hS) (cs_in8 (rf_lt8 hI0 hi)) dX4_attempt_9 (fun H locs hT => ?_)
  have hI := rf_puta (k := 19) (j := ((nI i) : Int32).toNatClampNeg) (x := (g1 + 1)) rfl hI
  have hS := hI.1
  refine lv_aload_n hx hb dX4_attempt_10 rfl (lv_at hl 0 rfl) ?_
  refine hv_gets (ci := 4) (C := RX4) (T := TX4) (N := 34) hx hb hts (tw_cs in_X4) hown hK hT (rs_k0 hS) (by decide) rfl 18 (by decide) (hts _ (tw_c tw_330)) rfl (x := (ra 18)) (rs_p18 hS) dX4_attempt_11 ?_
  refine lv_iload_n hx hb dX4_attempt_14 rfl (lv_at hl 1 rfl) ?_
  refine lv_iconst (v := 3) hx hb dX4_attempt_15 (by decide) ?_
  refine hv_iast (x := 3) hx hb hK hT (rs_k18 hS) (cs_in8 (rf_lt8 hI0 hi)) dX4_attempt_16 (fun H locs hT => ?_)
  obtain ⟨dg2, hdg2, hI⟩ : ∃ dg2 : Nat → Nat, dg2 i = 3 ∧ rf_J ra gh n 1 B t nm st dg2 F kd (hv_sa (hv_sa v (ra 19) ((nI i) : Int32).toNatClampNeg (g1 + 1)) (ra 18) ((nI i) : Int32).toNatClampNeg 3) := ⟨va_up dg i 3, va_up_self .., rf_does (g := 3) hI (rf_lt8 hI0 hi) (by omega) (fun _ => h4) (fun P hP => rf_lc (by omega) hP)⟩
  have hS := hI.1
  refine lv_aload_n hx hb dX4_attempt_17 rfl (lv_at hl 0 rfl) ?_
  refine lv_iload_n hx hb dX4_attempt_18 rfl (lv_at hl 1 rfl) ?_
  refine lv_aload_n hx hb dX4_attempt_19 rfl (lv_at hl 0 rfl) ?_
  refine hv_gets (ci := 4) (C := RX4) (T := TX4) (N := 34) hx hb hts (tw_cs in_X4) hown hK hT (rs_k0 hS) (by decide) rfl 14 (by decide) (hts _ (tw_c tw_326)) rfl (x := (ra 14)) (rs_p14 hS) dX4_attempt_20 ?_
  refine lv_iload_n hx hb dX4_attempt_23 rfl (lv_at hl 1 rfl) ?_
  refine hv_iald hx hb hK hT (rs_k14 hS) (cs_in8 (rf_lt8 hI0 hi)) dX4_attempt_24 ?_
  refine lv_topi (fun g3 eg3 => ?_)
  have eg3 : g3 = nI (st i) := by rw [eg3]; exact rf_gst hI (rf_lt8 hI0 hi)
  subst eg3
  refine lv_iconst (v := 1) hx hb dX4_attempt_25 (by decide) ?_
  refine lv_iadd hx hb dX4_attempt_26 ?_
  refine hv_callv (va_runV (As := [.int (nI i), .int ((nI (st i)) + 1)]) (rest := []) ⟨hx, hb, hml, hown, hts⟩ (m_clearThere l D tc hI hi ((nI (st i)) + 1)) (cwV 2 hts (tw_V tw_389 tw_390 tw_514 tw_3 tw_391) rfl rfl rfl (by decide +kernel) ⟨Nat.le_of_ble_eq_true rfl, Nat.le_of_ble_eq_true rfl⟩) (hv_preV (ci := 4) hK hT.1 (rs_k0 hS) (by decide) rfl rfl) rfl rfl hl.1 rfl (lv_room (Nat.le_of_ble_eq_true rfl)) dX4_attempt_27 ⟨Nat.le_of_ble_eq_true rfl, Nat.le_of_ble_eq_true rfl⟩) hT (fun v4 H locs hp5 hT => ?_)
  have hI := hp5
  have hS := hI.1
  refine lv_aload_n hx hb dX4_attempt_30 rfl (lv_at hl 0 rfl) ?_
  refine lv_iconst (v := 4) hx hb dX4_attempt_31 (by decide) ?_
  refine lv_iload_n hx hb dX4_attempt_32 rfl (lv_at hl 1 rfl) ?_
  refine lv_aload_n hx hb dX4_attempt_33 rfl (lv_at hl 0 rfl) ?_
  refine hv_gets (ci := 4) (C := RX4) (T := TX4) (N := 34) hx hb hts (tw_cs in_X4) hown hK hT (rs_k0 hS) (by decide) rfl 19 (by decide) (hts _ (tw_c tw_331)) rfl (x := (ra 19)) (rs_p19 hS) dX4_attempt_34 ?_
  refine lv_iload_n hx hb dX4_attempt_37 rfl (lv_at hl 1 rfl) ?_
  refine hv_iald hx hb hK hT (rs_k19 hS) (cs_in8 (rf_lt8 hI0 hi)) dX4_attempt_38 ?_
  refine lv_topi (fun g6 eg6 => ?_)
  refine hv_callv (va_runV (As := [.int 4, .int (nI i), .int g6]) (rest := []) ⟨hx, hb, hml, hown, hts⟩ (m_sendAll l D tc hI hi (by omega) (κ := 4) (by omega) g6) (cwV 3 hts (tw_V tw_383 tw_384 tw_512 tw_3 tw_385) rfl rfl rfl (by decide +kernel) ⟨Nat.le_of_ble_eq_true rfl, Nat.le_of_ble_eq_true rfl⟩) (hv_preV (ci := 4) hK hT.1 (rs_k0 hS) (by decide) rfl rfl) rfl rfl hl.1 rfl (lv_room (Nat.le_of_ble_eq_true rfl)) dX4_attempt_39 ⟨Nat.le_of_ble_eq_true rfl, Nat.le_of_ble_eq_true rfl⟩) hT (fun v7 H locs hp8 hT => ?_)
  obtain ⟨nm9, kd10, hI⟩ := hp8
  have hS := hI.1
  have hI := rf_up (B' := (B + 63)) (by show B + 7 * 9 ≤ (B + 63); omega) hI
  refine lv_aload_n hx hb dX4_attempt_42 rfl (lv_at hl 0 rfl) ?_
  refine lv_iload_n hx hb dX4_attempt_43 rfl (lv_at hl 1 rfl) ?_
  refine lv_aload_n hx hb dX4_attempt_44 rfl (lv_at hl 0 rfl) ?_
  refine hv_geti (ci := 4) (C := RX4) (T := TX4) (N := 34) hx hb hts (tw_cs in_X4) hown hK hT (rs_k0 hS) (by decide) rfl 5 (by decide) (hts _ (tw_c tw_317)) rfl dX4_attempt_45 ?_
  refine lv_topi (fun g11 eg11 => ?_)
  obtain ⟨q12, h5q12, h100q12, hq12⟩ := rf_q hI
  have eg11 : g11 = (nI q12) := by rw [eg11]; exact hq12
  subst eg11
  refine hv_callv (va_runV (As := [.int (nI i), .int (nI q12)]) (rest := []) ⟨hx, hb, hml, hown, hts⟩ (m_setTimer l D tc hI hi (q := q12) (by omega) (by have := rf_lt8 hI0 hi; omega) h4) (cwV 2 hts (tw_V tw_392 tw_393 tw_515 tw_3 tw_394) rfl rfl rfl (by decide +kernel) ⟨Nat.le_of_ble_eq_true rfl, Nat.le_of_ble_eq_true rfl⟩) (hv_preV (ci := 4) hK hT.1 (rs_k0 hS) (by decide) rfl rfl) rfl rfl hl.1 rfl (lv_room (Nat.le_of_ble_eq_true rfl)) dX4_attempt_48 ⟨Nat.le_of_ble_eq_true rfl, Nat.le_of_ble_eq_true rfl⟩) hT (fun v13 H locs hp14 hT => ?_)
  have hI := hp14
  have hS := hI.1
  exact hret _ v13 _ _ _ _ _ dX4_attempt_51 hT ⟨_, _, _, hI⟩ (by decide) (by decide)

set_option maxHeartbeats 4000000 in
set_option maxRecDepth 100000 in
theorem m_yieldTo (l : Launch) (D : va_G) (tc : Nat → ClassId) {ra gh : Nat → Nat} {n B t nm : Nat} {st dg F kd : Nat → Nat} {v : hv_V} (hI : rf_J ra gh n 1 B t nm st dg F kd v) {i : Nat} (hi : i < n) (x : Int32) : Met l yX4_yieldTo (Cond.code yX4_yieldTo cX4_yieldTo 4 none :: lw_B) ({ frames := 1, cells := 0, slots := 0, locals := 22 }) (va_Pc [.ref (ra 0), .int (nI i), .int x] (hv_Pre D tc v)) (va_Qv (fun (v1 : hv_V) => ∃ dg1, rf_J ra gh n 1 B t nm st dg1 F kd v1) (hv_Post D tc (hv_A v)) (hv_A v)) (0) (0) (hv_A v) := by
  refine hv_metv l (by decide) (Nat.le_of_ble_eq_true rfl) ?_
  intro p e s m args below meth c Q X hret hK hz H locs ls hT hl
  obtain ⟨hx, hb, hml, hts, hown, hin0⟩ := X
  have hown : s.vm.findClass "CommitSitesModel" = some m.cls := hown
  have hl : lv_has ls 4 [(0, .ref (ra 0)), (1, .int (nI i)), (2, .int x)] := hl
  have hS := hI.1
  have hI0 := hI
  have hdg4 := rf_dg4 hI (rf_lt8 hI hi)
  have hst5 := rf_st5 hI (rf_lt8 hI hi)
  refine lv_aload_n hx hb dX4_yieldTo_0 rfl (lv_at hl 0 rfl) ?_
  refine lv_iload_n hx hb dX4_yieldTo_1 rfl (lv_at hl 1 rfl) ?_
  refine hv_calli (va_runV (As := [.int (nI i)]) (rest := []) ⟨hx, hb, hml, hown, hts⟩ (m_isDecided l D tc hI hi) (cwV 1 hts (tw_V tw_415 tw_416 tw_520 tw_3 tw_417) rfl rfl rfl (by decide +kernel) ⟨Nat.le_of_ble_eq_true rfl, Nat.le_of_ble_eq_true rfl⟩) (hv_preV (ci := 4) hK hT.1 (rs_k0 hS) (by decide) rfl rfl) rfl rfl hl.1 rfl (lv_room (Nat.le_of_ble_eq_true rfl)) dX4_yieldTo_2 ⟨Nat.le_of_ble_eq_true rfl, Nat.le_of_ble_eq_true rfl⟩) hT (fun r3 v1 H locs hp2 hT => ?_)
  obtain ⟨evhp2, qhp2⟩ := hp2
  rw [evhp2] at hT
  refine lv_if_ne (tgt := 33) hx hb dX4_yieldTo_5 (by decide) (fun c5 => ?_) (fun c5 => ?_)
  · skip
    refine lv_iconst (v := 1) hx hb dX4_yieldTo_33 (by decide) ?_
    refine lv_goto (tgt := 38) hx hb dX4_yieldTo_34 (by decide) ?_
    refine lv_istore_n (lv' := [(3, _), (0, _), (1, _), (2, _)]) hx hb dX4_yieldTo_38 rfl hl (by decide) rfl (fun ls hl => ?_)
    refine lv_iload_n hx hb dX4_yieldTo_39 rfl (lv_at hl 0 rfl) ?_
    refine lv_if_ne (tgt := 61) hx hb dX4_yieldTo_40 (by decide) (fun c40 => ?_) (fun c40 => ?_)
    · skip
      exact hret _ v _ _ _ _ _ dX4_yieldTo_61 hT ⟨_, hI⟩ (by decide) (by decide)
    · skip
      exact absurd c40 (by decide)
  · skip
    have h4 : st i < 4 := (qhp2.resolve_left (fun z => absurd (z.1.symm.trans c5) (by decide))).2
    refine lv_aload_n hx hb dX4_yieldTo_8 rfl (lv_at hl 0 rfl) ?_
    refine hv_gets (ci := 4) (C := RX4) (T := TX4) (N := 34) hx hb hts (tw_cs in_X4) hown hK hT (rs_k0 hS) (by decide) rfl 18 (by decide) (hts _ (tw_c tw_330)) rfl (x := (ra 18)) (rs_p18 hS) dX4_yieldTo_9 ?_
    refine lv_iload_n hx hb dX4_yieldTo_12 rfl (lv_at hl 1 rfl) ?_
    refine hv_iald hx hb hK hT (rs_k18 hS) (cs_in8 (rf_lt8 hI0 hi)) dX4_yieldTo_13 ?_
    refine lv_topi (fun g4 eg4 => ?_)
    have eg4 : g4 = nI (dg i) := by rw [eg4]; exact rf_gdg hI (rf_lt8 hI0 hi)
    subst eg4
    refine lv_iconst (v := 1) hx hb dX4_yieldTo_14 (by decide) ?_
    refine lv_icmp_eq (tgt := 33) hx hb dX4_yieldTo_15 (by decide) (fun c15 => ?_) (fun c15 => ?_)
    · skip
      refine lv_iconst (v := 1) hx hb dX4_yieldTo_33 (by decide) ?_
      refine lv_goto (tgt := 38) hx hb dX4_yieldTo_34 (by decide) ?_
      refine lv_istore_n (lv' := [(3, _), (0, _), (1, _), (2, _)]) hx hb dX4_yieldTo_38 rfl hl (by decide) rfl (fun ls hl => ?_)
      refine lv_iload_n hx hb dX4_yieldTo_39 rfl (lv_at hl 0 rfl) ?_
      refine lv_if_ne (tgt := 61) hx hb dX4_yieldTo_40 (by decide) (fun c40 => ?_) (fun c40 => ?_)
      · skip
        exact hret _ v _ _ _ _ _ dX4_yieldTo_61 hT ⟨_, hI⟩ (by decide) (by decide)
      · skip
        exact absurd c40 (by decide)
    · skip
      refine lv_aload_n hx hb dX4_yieldTo_18 rfl (lv_at hl 0 rfl) ?_
      refine hv_gets (ci := 4) (C := RX4) (T := TX4) (N := 34) hx hb hts (tw_cs in_X4) hown hK hT (rs_k0 hS) (by decide) rfl 18 (by decide) (hts _ (tw_c tw_330)) rfl (x := (ra 18)) (rs_p18 hS) dX4_yieldTo_19 ?_
      refine lv_iload_n hx hb dX4_yieldTo_22 rfl (lv_at hl 1 rfl) ?_
      refine hv_iald hx hb hK hT (rs_k18 hS) (cs_in8 (rf_lt8 hI0 hi)) dX4_yieldTo_23 ?_
      refine lv_topi (fun g5 eg5 => ?_)
      have eg5 : g5 = nI (dg i) := by rw [eg5]; exact rf_gdg hI (rf_lt8 hI0 hi)
      subst eg5
      refine lv_iconst (v := 2) hx hb dX4_yieldTo_24 (by decide) ?_
      refine lv_icmp_lt (tgt := 37) hx hb dX4_yieldTo_25 (by decide) (fun c25 => ?_) (fun c25 => ?_)
      · skip
        refine lv_iconst (v := 0) hx hb dX4_yieldTo_37 (by decide) ?_
        refine lv_istore_n (lv' := [(3, _), (0, _), (1, _), (2, _)]) hx hb dX4_yieldTo_38 rfl hl (by decide) rfl (fun ls hl => ?_)
        refine lv_iload_n hx hb dX4_yieldTo_39 rfl (lv_at hl 0 rfl) ?_
        refine lv_if_ne (tgt := 61) hx hb dX4_yieldTo_40 (by decide) (fun c40 => ?_) (fun c40 => ?_)
        · skip
          exact absurd rfl c40
        · skip
          refine lv_aload_n hx hb dX4_yieldTo_43 rfl (lv_at hl 1 rfl) ?_
          refine hv_gets (ci := 4) (C := RX4) (T := TX4) (N := 34) hx hb hts (tw_cs in_X4) hown hK hT (rs_k0 hS) (by decide) rfl 18 (by decide) (hts _ (tw_c tw_330)) rfl (x := (ra 18)) (rs_p18 hS) dX4_yieldTo_44 ?_
          refine lv_iload_n hx hb dX4_yieldTo_47 rfl (lv_at hl 2 rfl) ?_
          refine lv_iconst (v := 0) hx hb dX4_yieldTo_48 (by decide) ?_
          refine hv_iast (x := 0) hx hb hK hT (rs_k18 hS) (cs_in8 (rf_lt8 hI0 hi)) dX4_yieldTo_49 (fun H locs hT => ?_)
          obtain ⟨dg6, hdg6, hI⟩ : ∃ dg2 : Nat → Nat, dg2 i = 0 ∧ rf_J ra gh n 1 B t nm st dg2 F kd (hv_sa v (ra 18) ((nI i) : Int32).toNatClampNeg 0) := ⟨va_up dg i 0, va_up_self .., rf_does (g := 0) hI (rf_lt8 hI0 hi) (by omega) (fun _ => h4) (fun P hP => rf_lc (by omega) hP)⟩
          have hS := hI.1
          refine lv_aload_n hx hb dX4_yieldTo_50 rfl (lv_at hl 1 rfl) ?_
          refine lv_iload_n hx hb dX4_yieldTo_51 rfl (lv_at hl 2 rfl) ?_
          refine lv_aload_n hx hb dX4_yieldTo_52 rfl (lv_at hl 1 rfl) ?_
          refine hv_geti (ci := 4) (C := RX4) (T := TX4) (N := 34) hx hb hts (tw_cs in_X4) hown hK hT (rs_k0 hS) (by decide) rfl 5 (by decide) (hts _ (tw_c tw_317)) rfl dX4_yieldTo_53 ?_
          refine lv_topi (fun g7 eg7 => ?_)
          obtain ⟨q8, h5q8, h100q8, hq8⟩ := rf_q hI
          have eg7 : g7 = (nI q8) := by rw [eg7]; exact hq8
          subst eg7
          refine lv_iload_n hx hb dX4_yieldTo_56 rfl (lv_at hl 2 rfl) ?_
          refine lv_iadd hx hb dX4_yieldTo_57 ?_
          refine hv_as (x := ((nI q8) + (nI i))) (y := (nI (q8 + i))) (nI_add _ _) ?_
          refine hv_callv (va_runV (As := [.int (nI i), .int (nI (q8 + i))]) (rest := []) ⟨hx, hb, hml, hown, hts⟩ (m_setTimer l D tc hI hi (q := (q8 + i)) (by omega) (by have := rf_lt8 hI0 hi; omega) h4) (cwV 2 hts (tw_V tw_392 tw_393 tw_515 tw_3 tw_394) rfl rfl rfl (by decide +kernel) ⟨Nat.le_of_ble_eq_true rfl, Nat.le_of_ble_eq_true rfl⟩) (hv_preV (ci := 4) hK hT.1 (rs_k0 hS) (by decide) rfl rfl) rfl rfl hl.1 rfl (lv_room (Nat.le_of_ble_eq_true rfl)) dX4_yieldTo_58 ⟨Nat.le_of_ble_eq_true rfl, Nat.le_of_ble_eq_true rfl⟩) hT (fun v9 H locs hp10 hT => ?_)
          have hI := hp10
          have hS := hI.1
          exact hret _ v9 _ _ _ _ _ dX4_yieldTo_61 hT ⟨_, hI⟩ (by decide) (by decide)
      · skip
        refine lv_iload_n hx hb dX4_yieldTo_28 rfl (lv_at hl 2 rfl) ?_
        refine lv_iload_n hx hb dX4_yieldTo_29 rfl (lv_at hl 1 rfl) ?_
        refine lv_icmp_le (tgt := 37) hx hb dX4_yieldTo_30 (by decide) (fun c30 => ?_) (fun c30 => ?_)
        · skip
          refine lv_iconst (v := 0) hx hb dX4_yieldTo_37 (by decide) ?_
          refine lv_istore_n (lv' := [(3, _), (0, _), (1, _), (2, _)]) hx hb dX4_yieldTo_38 rfl hl (by decide) rfl (fun ls hl => ?_)
          refine lv_iload_n hx hb dX4_yieldTo_39 rfl (lv_at hl 0 rfl) ?_
          refine lv_if_ne (tgt := 61) hx hb dX4_yieldTo_40 (by decide) (fun c40 => ?_) (fun c40 => ?_)
          · skip
            exact absurd rfl c40
          · skip
            refine lv_aload_n hx hb dX4_yieldTo_43 rfl (lv_at hl 1 rfl) ?_
            refine hv_gets (ci := 4) (C := RX4) (T := TX4) (N := 34) hx hb hts (tw_cs in_X4) hown hK hT (rs_k0 hS) (by decide) rfl 18 (by decide) (hts _ (tw_c tw_330)) rfl (x := (ra 18)) (rs_p18 hS) dX4_yieldTo_44 ?_
            refine lv_iload_n hx hb dX4_yieldTo_47 rfl (lv_at hl 2 rfl) ?_
            refine lv_iconst (v := 0) hx hb dX4_yieldTo_48 (by decide) ?_
            refine hv_iast (x := 0) hx hb hK hT (rs_k18 hS) (cs_in8 (rf_lt8 hI0 hi)) dX4_yieldTo_49 (fun H locs hT => ?_)
            obtain ⟨dg11, hdg11, hI⟩ : ∃ dg2 : Nat → Nat, dg2 i = 0 ∧ rf_J ra gh n 1 B t nm st dg2 F kd (hv_sa v (ra 18) ((nI i) : Int32).toNatClampNeg 0) := ⟨va_up dg i 0, va_up_self .., rf_does (g := 0) hI (rf_lt8 hI0 hi) (by omega) (fun _ => h4) (fun P hP => rf_lc (by omega) hP)⟩
            have hS := hI.1
            refine lv_aload_n hx hb dX4_yieldTo_50 rfl (lv_at hl 1 rfl) ?_
            refine lv_iload_n hx hb dX4_yieldTo_51 rfl (lv_at hl 2 rfl) ?_
            refine lv_aload_n hx hb dX4_yieldTo_52 rfl (lv_at hl 1 rfl) ?_
            refine hv_geti (ci := 4) (C := RX4) (T := TX4) (N := 34) hx hb hts (tw_cs in_X4) hown hK hT (rs_k0 hS) (by decide) rfl 5 (by decide) (hts _ (tw_c tw_317)) rfl dX4_yieldTo_53 ?_
            refine lv_topi (fun g12 eg12 => ?_)
            obtain ⟨q13, h5q13, h100q13, hq13⟩ := rf_q hI
            have eg12 : g12 = (nI q13) := by rw [eg12]; exact hq13
            subst eg12
            refine lv_iload_n hx hb dX4_yieldTo_56 rfl (lv_at hl 2 rfl) ?_
            refine lv_iadd hx hb dX4_yieldTo_57 ?_
            refine hv_as (x := ((nI q13) + (nI i))) (y := (nI (q13 + i))) (nI_add _ _) ?_
            refine hv_callv (va_runV (As := [.int (nI i), .int (nI (q13 + i))]) (rest := []) ⟨hx, hb, hml, hown, hts⟩ (m_setTimer l D tc hI hi (q := (q13 + i)) (by omega) (by have := rf_lt8 hI0 hi; omega) h4) (cwV 2 hts (tw_V tw_392 tw_393 tw_515 tw_3 tw_394) rfl rfl rfl (by decide +kernel) ⟨Nat.le_of_ble_eq_true rfl, Nat.le_of_ble_eq_true rfl⟩) (hv_preV (ci := 4) hK hT.1 (rs_k0 hS) (by decide) rfl rfl) rfl rfl hl.1 rfl (lv_room (Nat.le_of_ble_eq_true rfl)) dX4_yieldTo_58 ⟨Nat.le_of_ble_eq_true rfl, Nat.le_of_ble_eq_true rfl⟩) hT (fun v14 H locs hp15 hT => ?_)
            have hI := hp15
            have hS := hI.1
            exact hret _ v14 _ _ _ _ _ dX4_yieldTo_61 hT ⟨_, hI⟩ (by decide) (by decide)
        · skip
          refine lv_iconst (v := 1) hx hb dX4_yieldTo_33 (by decide) ?_
          refine lv_goto (tgt := 38) hx hb dX4_yieldTo_34 (by decide) ?_
          refine lv_istore_n (lv' := [(3, _), (0, _), (1, _), (2, _)]) hx hb dX4_yieldTo_38 rfl hl (by decide) rfl (fun ls hl => ?_)
          refine lv_iload_n hx hb dX4_yieldTo_39 rfl (lv_at hl 0 rfl) ?_
          refine lv_if_ne (tgt := 61) hx hb dX4_yieldTo_40 (by decide) (fun c40 => ?_) (fun c40 => ?_)
          · skip
            exact hret _ v _ _ _ _ _ dX4_yieldTo_61 hT ⟨_, hI⟩ (by decide) (by decide)
          · skip
            exact absurd c40 (by decide)

set_option maxHeartbeats 4000000 in
set_option maxRecDepth 100000 in
theorem m_prepare (l : Launch) (D : va_G) (tc : Nat → ClassId) {ra gh : Nat → Nat} {n B t nm : Nat} {st dg F kd : Nat → Nat} {v : hv_V} (hI : rf_J ra gh n 1 B t nm st dg F kd v) {i : Nat} (hi : i < n) {j : Nat} (hj : j < n) (h479 : B < 479700) (x : Int32) {sv : Nat} (hs2 : 2 ≤ sv) (hs3 : sv ≤ 3) : Met l yX4_prepare (Cond.code yX4_prepare cX4_prepare 5 none :: lw_B) ({ frames := 2, cells := 0, slots := 0, locals := 45 }) (va_Pc [.ref (ra 0), .int (nI i), .int (nI j), .int x, .int (nI sv)] (hv_Pre D tc v)) (va_Qv (fun (v1 : hv_V) => ∃ nm1 st1 dg1 kd1, rf_J ra gh n 1 (B + 8) t nm1 st1 dg1 F kd1 v1) (hv_Post D tc (hv_A v)) (hv_A v)) (0) (0) (hv_A v) := by
  refine hv_metv l (by decide) (Nat.le_of_ble_eq_true rfl) ?_
  intro p e s m args below meth c Q X hret hK hz H locs ls hT hl
  obtain ⟨hx, hb, hml, hts, hown, hin0⟩ := X
  have hown : s.vm.findClass "CommitSitesModel" = some m.cls := hown
  have hl : lv_has ls 5 [(0, .ref (ra 0)), (1, .int (nI i)), (2, .int (nI j)), (3, .int x), (4, .int (nI sv))] := hl
  have hS := hI.1
  have hI0 := hI
  have hdg4 := rf_dg4 hI (rf_lt8 hI hi)
  have hst5 := rf_st5 hI (rf_lt8 hI hi)
  refine lv_aload_n hx hb dX4_prepare_0 rfl (lv_at hl 0 rfl) ?_
  refine lv_iload_n hx hb dX4_prepare_1 rfl (lv_at hl 1 rfl) ?_
  refine hv_calli (va_runV (As := [.int (nI i)]) (rest := []) ⟨hx, hb, hml, hown, hts⟩ (m_isDecided l D tc hI hi) (cwV 1 hts (tw_V tw_415 tw_416 tw_520 tw_3 tw_417) rfl rfl rfl (by decide +kernel) ⟨Nat.le_of_ble_eq_true rfl, Nat.le_of_ble_eq_true rfl⟩) (hv_preV (ci := 4) hK hT.1 (rs_k0 hS) (by decide) rfl rfl) rfl rfl hl.1 rfl (lv_room (Nat.le_of_ble_eq_true rfl)) dX4_prepare_2 ⟨Nat.le_of_ble_eq_true rfl, Nat.le_of_ble_eq_true rfl⟩) hT (fun r3 v1 H locs hp2 hT => ?_)
  obtain ⟨evhp2, qhp2⟩ := hp2
  rw [evhp2] at hT
  refine lv_if_eq (tgt := 34) hx hb dX4_prepare_5 (by decide) (fun c5 => ?_) (fun c5 => ?_)
  · skip
    have h4 : st i < 4 := (qhp2.resolve_left (fun z => absurd (z.1.symm.trans c5) (by decide))).2
    refine lv_aload_n hx hb dX4_prepare_34 rfl (lv_at hl 0 rfl) ?_
    refine lv_iload_n hx hb dX4_prepare_35 rfl (lv_at hl 1 rfl) ?_
    refine lv_iload_n hx hb dX4_prepare_36 rfl (lv_at hl 2 rfl) ?_
    refine hv_callv (va_runV (As := [.int (nI i), .int (nI j)]) (rest := []) ⟨hx, hb, hml, hown, hts⟩ (m_yieldTo l D tc hI hi (nI j)) (cwV 2 hts (tw_V tw_443 tw_444 tw_528 tw_3 tw_445) rfl rfl rfl (by decide +kernel) ⟨Nat.le_of_ble_eq_true rfl, Nat.le_of_ble_eq_true rfl⟩) (hv_preV (ci := 4) hK hT.1 (rs_k0 hS) (by decide) rfl rfl) rfl rfl hl.1 rfl (lv_room (Nat.le_of_ble_eq_true rfl)) dX4_prepare_37 ⟨Nat.le_of_ble_eq_true rfl, Nat.le_of_ble_eq_true rfl⟩) hT (fun v4 H locs hp5 hT => ?_)
    obtain ⟨dg6, hI⟩ := hp5
    have hS := hI.1
    refine lv_aload_n hx hb dX4_prepare_40 rfl (lv_at hl 0 rfl) ?_
    refine hv_gets (ci := 4) (C := RX4) (T := TX4) (N := 34) hx hb hts (tw_cs in_X4) hown hK hT (rs_k0 hS) (by decide) rfl 14 (by decide) (hts _ (tw_c tw_326)) rfl (x := (ra 14)) (rs_p14 hS) dX4_prepare_41 ?_
    refine lv_iload_n hx hb dX4_prepare_44 rfl (lv_at hl 1 rfl) ?_
    refine hv_iald hx hb hK hT (rs_k14 hS) (cs_in8 (rf_lt8 hI0 hi)) dX4_prepare_45 ?_
    refine lv_topi (fun g7 eg7 => ?_)
    have eg7 : g7 = nI (st i) := by rw [eg7]; exact rf_gst hI (rf_lt8 hI0 hi)
    subst eg7
    refine lv_iconst (v := 1) hx hb dX4_prepare_46 (by decide) ?_
    refine lv_icmp_ne (tgt := 57) hx hb dX4_prepare_47 (by decide) (fun c47 => ?_) (fun c47 => ?_)
    · skip
      refine lv_aload_n hx hb dX4_prepare_57 rfl (lv_at hl 0 rfl) ?_
      refine hv_gets (ci := 4) (C := RX4) (T := TX4) (N := 34) hx hb hts (tw_cs in_X4) hown hK hT (rs_k0 hS) (by decide) rfl 14 (by decide) (hts _ (tw_c tw_326)) rfl (x := (ra 14)) (rs_p14 hS) dX4_prepare_58 ?_
      refine lv_iload_n hx hb dX4_prepare_61 rfl (lv_at hl 1 rfl) ?_
      refine hv_iald hx hb hK hT (rs_k14 hS) (cs_in8 (rf_lt8 hI0 hi)) dX4_prepare_62 ?_
      refine lv_topi (fun g8 eg8 => ?_)
      have eg8 : g8 = nI (st i) := by rw [eg8]; exact rf_gst hI (rf_lt8 hI0 hi)
      subst eg8
      refine lv_iload hx hb dX4_prepare_63 (lv_at hl 4 rfl) ?_
      refine lv_icmp_ne (tgt := 78) hx hb dX4_prepare_65 (by decide) (fun c65 => ?_) (fun c65 => ?_)
      · skip
        exact hret _ v4 _ _ _ _ _ dX4_prepare_78 hT ⟨_, _, _, _, rf_up (by omega) hI⟩ (by decide) (by decide)
      · skip
        refine lv_aload_n hx hb dX4_prepare_68 rfl (lv_at hl 0 rfl) ?_
        refine lv_bipush (v := 8) hx hb dX4_prepare_69 (by decide) ?_
        refine lv_iload_n hx hb dX4_prepare_71 rfl (lv_at hl 1 rfl) ?_
        refine lv_iload_n hx hb dX4_prepare_72 rfl (lv_at hl 2 rfl) ?_
        refine lv_iload_n hx hb dX4_prepare_73 rfl (lv_at hl 3 rfl) ?_
        refine lv_iconst (v := 0) hx hb dX4_prepare_74 (by decide) ?_
        refine hv_callv (va_runV (As := [.int 8, .int (nI i), .int (nI j), .int x, .int 0]) (rest := []) ⟨hx, hb, hml, hown, hts⟩ (m_send l D tc hI hi hj (by omega) (κ := 8) (by omega) x (sv := 0) (by omega)) (cwV 5 hts (tw_V tw_386 tw_387 tw_513 tw_3 tw_388) rfl rfl rfl (by decide +kernel) ⟨Nat.le_of_ble_eq_true rfl, Nat.le_of_ble_eq_true rfl⟩) (hv_preV (ci := 4) hK hT.1 (rs_k0 hS) (by decide) rfl rfl) rfl rfl hl.1 rfl (lv_room (Nat.le_of_ble_eq_true rfl)) dX4_prepare_75 ⟨Nat.le_of_ble_eq_true rfl, Nat.le_of_ble_eq_true rfl⟩) hT (fun v9 H locs hp10 hT => ?_)
        obtain ⟨nm11, kd12, hx13, hI⟩ := hp10
        have hS := hI.1
        have hI := rf_up (B' := (B + 8)) (by show B + 8 ≤ (B + 8); omega) hI
        exact hret _ v9 _ _ _ _ _ dX4_prepare_78 hT ⟨_, _, _, _, rf_up (by omega) hI⟩ (by decide) (by decide)
    · skip
      refine lv_aload_n hx hb dX4_prepare_50 rfl (lv_at hl 0 rfl) ?_
      refine lv_iload_n hx hb dX4_prepare_51 rfl (lv_at hl 1 rfl) ?_
      refine lv_iload hx hb dX4_prepare_52 (lv_at hl 4 rfl) ?_
      refine hv_callv (va_runV (As := [.int (nI i), .int (nI sv)]) (rest := []) ⟨hx, hb, hml, hown, hts⟩ (m_become l D tc hI hi (sv := sv) (by omega) h4) (cwV 2 hts (tw_V tw_380 tw_381 tw_511 tw_3 tw_382) rfl rfl rfl (by decide +kernel) ⟨Nat.le_of_ble_eq_true rfl, Nat.le_of_ble_eq_true rfl⟩) (hv_preV (ci := 4) hK hT.1 (rs_k0 hS) (by decide) rfl rfl) rfl rfl hl.1 rfl (lv_room (Nat.le_of_ble_eq_true rfl)) dX4_prepare_54 ⟨Nat.le_of_ble_eq_true rfl, Nat.le_of_ble_eq_true rfl⟩) hT (fun v14 H locs hp15 hT => ?_)
      obtain ⟨st16, hx17, hI⟩ := hp15
      have hS := hI.1
      have hbhx17 : st16 i = sv := hx17.1
      have h4 : st16 i < 4 := by omega
      refine lv_aload_n hx hb dX4_prepare_57 rfl (lv_at hl 0 rfl) ?_
      refine hv_gets (ci := 4) (C := RX4) (T := TX4) (N := 34) hx hb hts (tw_cs in_X4) hown hK hT (rs_k0 hS) (by decide) rfl 14 (by decide) (hts _ (tw_c tw_326)) rfl (x := (ra 14)) (rs_p14 hS) dX4_prepare_58 ?_
      refine lv_iload_n hx hb dX4_prepare_61 rfl (lv_at hl 1 rfl) ?_
      refine hv_iald hx hb hK hT (rs_k14 hS) (cs_in8 (rf_lt8 hI0 hi)) dX4_prepare_62 ?_
      refine lv_topi (fun g18 eg18 => ?_)
      have eg18 : g18 = nI (st16 i) := by rw [eg18]; exact rf_gst hI (rf_lt8 hI0 hi)
      subst eg18
      refine lv_iload hx hb dX4_prepare_63 (lv_at hl 4 rfl) ?_
      refine lv_icmp_ne (tgt := 78) hx hb dX4_prepare_65 (by decide) (fun c65 => ?_) (fun c65 => ?_)
      · skip
        exact hret _ v14 _ _ _ _ _ dX4_prepare_78 hT ⟨_, _, _, _, rf_up (by omega) hI⟩ (by decide) (by decide)
      · skip
        refine lv_aload_n hx hb dX4_prepare_68 rfl (lv_at hl 0 rfl) ?_
        refine lv_bipush (v := 8) hx hb dX4_prepare_69 (by decide) ?_
        refine lv_iload_n hx hb dX4_prepare_71 rfl (lv_at hl 1 rfl) ?_
        refine lv_iload_n hx hb dX4_prepare_72 rfl (lv_at hl 2 rfl) ?_
        refine lv_iload_n hx hb dX4_prepare_73 rfl (lv_at hl 3 rfl) ?_
        refine lv_iconst (v := 0) hx hb dX4_prepare_74 (by decide) ?_
        refine hv_callv (va_runV (As := [.int 8, .int (nI i), .int (nI j), .int x, .int 0]) (rest := []) ⟨hx, hb, hml, hown, hts⟩ (m_send l D tc hI hi hj (by omega) (κ := 8) (by omega) x (sv := 0) (by omega)) (cwV 5 hts (tw_V tw_386 tw_387 tw_513 tw_3 tw_388) rfl rfl rfl (by decide +kernel) ⟨Nat.le_of_ble_eq_true rfl, Nat.le_of_ble_eq_true rfl⟩) (hv_preV (ci := 4) hK hT.1 (rs_k0 hS) (by decide) rfl rfl) rfl rfl hl.1 rfl (lv_room (Nat.le_of_ble_eq_true rfl)) dX4_prepare_75 ⟨Nat.le_of_ble_eq_true rfl, Nat.le_of_ble_eq_true rfl⟩) hT (fun v19 H locs hp20 hT => ?_)
        obtain ⟨nm21, kd22, hx23, hI⟩ := hp20
        have hS := hI.1
        have hI := rf_up (B' := (B + 8)) (by show B + 8 ≤ (B + 8); omega) hI
        exact hret _ v19 _ _ _ _ _ dX4_prepare_78 hT ⟨_, _, _, _, rf_up (by omega) hI⟩ (by decide) (by decide)
  · skip
    refine lv_aload_n hx hb dX4_prepare_8 rfl (lv_at hl 0 rfl) ?_
    refine lv_aload_n hx hb dX4_prepare_9 rfl (lv_at hl 0 rfl) ?_
    refine hv_gets (ci := 4) (C := RX4) (T := TX4) (N := 34) hx hb hts (tw_cs in_X4) hown hK hT (rs_k0 hS) (by decide) rfl 14 (by decide) (hts _ (tw_c tw_326)) rfl (x := (ra 14)) (rs_p14 hS) dX4_prepare_10 ?_
    refine lv_iload_n hx hb dX4_prepare_13 rfl (lv_at hl 1 rfl) ?_
    refine hv_iald hx hb hK hT (rs_k14 hS) (cs_in8 (rf_lt8 hI0 hi)) dX4_prepare_14 ?_
    refine lv_topi (fun g24 eg24 => ?_)
    have eg24 : g24 = nI (st i) := by rw [eg24]; exact rf_gst hI (rf_lt8 hI0 hi)
    subst eg24
    refine lv_iconst (v := 4) hx hb dX4_prepare_15 (by decide) ?_
    refine lv_icmp_ne (tgt := 24) hx hb dX4_prepare_16 (by decide) (fun c16 => ?_) (fun c16 => ?_)
    · skip
      refine lv_bipush (v := 10) hx hb dX4_prepare_24 (by decide) ?_
      refine lv_iload_n hx hb dX4_prepare_26 rfl (lv_at hl 1 rfl) ?_
      refine lv_iload_n hx hb dX4_prepare_27 rfl (lv_at hl 2 rfl) ?_
      refine lv_iconst (v := 0) hx hb dX4_prepare_28 (by decide) ?_
      refine lv_iconst (v := 0) hx hb dX4_prepare_29 (by decide) ?_
      refine hv_callv (va_runV (As := [.int 10, .int (nI i), .int (nI j), .int 0, .int 0]) (rest := []) ⟨hx, hb, hml, hown, hts⟩ (m_send l D tc hI hi hj (by omega) (κ := 10) (by omega) 0 (sv := 0) (by omega)) (cwV 5 hts (tw_V tw_386 tw_387 tw_513 tw_3 tw_388) rfl rfl rfl (by decide +kernel) ⟨Nat.le_of_ble_eq_true rfl, Nat.le_of_ble_eq_true rfl⟩) (hv_preV (ci := 4) hK hT.1 (rs_k0 hS) (by decide) rfl rfl) rfl rfl hl.1 rfl (lv_room (Nat.le_of_ble_eq_true rfl)) dX4_prepare_30 ⟨Nat.le_of_ble_eq_true rfl, Nat.le_of_ble_eq_true rfl⟩) hT (fun v25 H locs hp26 hT => ?_)
      obtain ⟨nm27, kd28, hx29, hI⟩ := hp26
      have hS := hI.1
      have hI := rf_up (B' := (B + 8)) (by show B + 8 ≤ (B + 8); omega) hI
      exact hret _ v25 _ _ _ _ _ dX4_prepare_33 hT ⟨_, _, _, _, rf_up (by omega) hI⟩ (by decide) (by decide)
    · skip
      refine lv_bipush (v := 9) hx hb dX4_prepare_19 (by decide) ?_
      refine lv_goto (tgt := 26) hx hb dX4_prepare_21 (by decide) ?_
      refine lv_iload_n hx hb dX4_prepare_26 rfl (lv_at hl 1 rfl) ?_
      refine lv_iload_n hx hb dX4_prepare_27 rfl (lv_at hl 2 rfl) ?_
      refine lv_iconst (v := 0) hx hb dX4_prepare_28 (by decide) ?_
      refine lv_iconst (v := 0) hx hb dX4_prepare_29 (by decide) ?_
      refine hv_callv (va_runV (As := [.int 9, .int (nI i), .int (nI j), .int 0, .int 0]) (rest := []) ⟨hx, hb, hml, hown, hts⟩ (m_send l D tc hI hi hj (by omega) (κ := 9) (by omega) 0 (sv := 0) (by omega)) (cwV 5 hts (tw_V tw_386 tw_387 tw_513 tw_3 tw_388) rfl rfl rfl (by decide +kernel) ⟨Nat.le_of_ble_eq_true rfl, Nat.le_of_ble_eq_true rfl⟩) (hv_preV (ci := 4) hK hT.1 (rs_k0 hS) (by decide) rfl rfl) rfl rfl hl.1 rfl (lv_room (Nat.le_of_ble_eq_true rfl)) dX4_prepare_30 ⟨Nat.le_of_ble_eq_true rfl, Nat.le_of_ble_eq_true rfl⟩) hT (fun v30 H locs hp31 hT => ?_)
      obtain ⟨nm32, kd33, hx34, hI⟩ := hp31
      have hS := hI.1
      have hI := rf_up (B' := (B + 8)) (by show B + 8 ≤ (B + 8); omega) hI
      exact hret _ v30 _ _ _ _ _ dX4_prepare_33 hT ⟨_, _, _, _, rf_up (by omega) hI⟩ (by decide) (by decide)

set_option maxHeartbeats 4000000 in
set_option maxRecDepth 100000 in
theorem m_handle (l : Launch) (D : va_G) (tc : Nat → ClassId) {ra gh : Nat → Nat} {n B t nm : Nat} {st dg F kd : Nat → Nat} {v : hv_V} (hI : rf_J ra gh n 1 B t nm st dg F kd v) {i : Nat} (hi : i < n) {κ : Nat} (hκ : κ ≤ 10) {j : Nat} (hj : j < n) (x : Int32) {sv : Nat} (hs5 : sv ≤ 5) (h479 : B < 479500) : Met l yX4_handle (Cond.code yX4_handle cX4_handle 6 none :: lw_B) ({ frames := 6, cells := 0, slots := 0, locals := 139 }) (va_Pc [.ref (ra 0), .int (nI i), .int (nI κ), .int (nI j), .int x, .int (nI sv)] (hv_Pre D tc v)) (va_Qv (fun (v1 : hv_V) => ∃ nm1 st1 dg1 kd1, rf_J ra gh n 1 (B + rf_wt κ - 1) t nm1 st1 dg1 F kd1 v1) (hv_Post D tc (hv_A v)) (hv_A v)) (0) (0) (hv_A v) := by
  refine hv_metv l (by decide) (Nat.le_of_ble_eq_true rfl) ?_
  intro p e s m args below meth c Q X hret hK hz H locs ls hT hl
  obtain ⟨hx, hb, hml, hts, hown, hin0⟩ := X
  have hown : s.vm.findClass "CommitSitesModel" = some m.cls := hown
  have hl : lv_has ls 6 [(0, .ref (ra 0)), (1, .int (nI i)), (2, .int (nI κ)), (3, .int (nI j)), (4, .int x), (5, .int (nI sv))] := hl
  have hS := hI.1
  have hI0 := hI
  have hdg4 := rf_dg4 hI (rf_lt8 hI hi)
  have hst5 := rf_st5 hI (rf_lt8 hI hi)
  refine lv_iload_n hx hb dX4_handle_0 rfl (lv_at hl 2 rfl) ?_
  refine lv_iconst (v := 1) hx hb dX4_handle_1 (by decide) ?_
  refine lv_icmp_ne (tgt := 78) hx hb dX4_handle_2 (by decide) (fun c2 => ?_) (fun c2 => ?_)
  · skip
    refine lv_iload_n hx hb dX4_handle_78 rfl (lv_at hl 2 rfl) ?_
    refine lv_iconst (v := 2) hx hb dX4_handle_79 (by decide) ?_
    refine lv_icmp_ne (tgt := 113) hx hb dX4_handle_80 (by decide) (fun c80 => ?_) (fun c80 => ?_)
    · skip
      refine lv_iload_n hx hb dX4_handle_113 rfl (lv_at hl 2 rfl) ?_
      refine lv_iconst (v := 3) hx hb dX4_handle_114 (by decide) ?_
      refine lv_icmp_ne (tgt := 137) hx hb dX4_handle_115 (by decide) (fun c115 => ?_) (fun c115 => ?_)
      · skip
        refine lv_iload_n hx hb dX4_handle_137 rfl (lv_at hl 2 rfl) ?_
        refine lv_iconst (v := 4) hx hb dX4_handle_138 (by decide) ?_
        refine lv_icmp_ne (tgt := 181) hx hb dX4_handle_139 (by decide) (fun c139 => ?_) (fun c139 => ?_)
        · skip
          refine lv_iload_n hx hb dX4_handle_181 rfl (lv_at hl 2 rfl) ?_
          refine lv_iconst (v := 5) hx hb dX4_handle_182 (by decide) ?_
          refine lv_icmp_ne (tgt := 241) hx hb dX4_handle_183 (by decide) (fun c183 => ?_) (fun c183 => ?_)
          · skip
            refine lv_iload_n hx hb dX4_handle_241 rfl (lv_at hl 2 rfl) ?_
            refine lv_bipush (v := 6) hx hb dX4_handle_242 (by decide) ?_
            refine lv_icmp_eq (tgt := 253) hx hb dX4_handle_244 (by decide) (fun c244 => ?_) (fun c244 => ?_)
            · skip
              have hw : rf_wt κ = 9 := by rw [nI_lit (k := 6) c244]; rfl
              refine lv_aload_n hx hb dX4_handle_253 rfl (lv_at hl 0 rfl) ?_
              refine lv_iload_n hx hb dX4_handle_254 rfl (lv_at hl 1 rfl) ?_
              refine lv_iload_n hx hb dX4_handle_255 rfl (lv_at hl 3 rfl) ?_
              refine lv_iload hx hb dX4_handle_256 (lv_at hl 4 rfl) ?_
              refine lv_iload_n hx hb dX4_handle_258 rfl (lv_at hl 2 rfl) ?_
              refine lv_bipush (v := 6) hx hb dX4_handle_259 (by decide) ?_
              refine lv_icmp_ne (tgt := 268) hx hb dX4_handle_261 (by decide) (fun c261 => ?_) (fun c261 => ?_)
              · skip
                refine lv_iconst (v := 3) hx hb dX4_handle_268 (by decide) ?_
                refine hv_callv (va_runV (As := [.int (nI i), .int (nI j), .int x, .int 3]) (rest := []) ⟨hx, hb, hml, hown, hts⟩ (m_prepare l D tc hI hi hj (by omega) x (sv := 3) (by omega) (by omega)) (cwV 4 hts (tw_V tw_446 tw_447 tw_529 tw_3 tw_448) rfl rfl rfl (by decide +kernel) ⟨Nat.le_of_ble_eq_true rfl, Nat.le_of_ble_eq_true rfl⟩) (hv_preV (ci := 4) hK hT.1 (rs_k0 hS) (by decide) rfl rfl) rfl rfl hl.1 rfl (lv_room (Nat.le_of_ble_eq_true rfl)) dX4_handle_269 ⟨Nat.le_of_ble_eq_true rfl, Nat.le_of_ble_eq_true rfl⟩) hT (fun v1 H locs hp2 hT => ?_)
                obtain ⟨nm3, st4, dg5, kd6, hI⟩ := hp2
                have hS := hI.1
                refine lv_goto (tgt := 368) hx hb dX4_handle_272 (by decide) ?_
                exact hret _ v1 _ _ _ _ _ dX4_handle_368 hT ⟨_, _, _, _, rf_up (by have h8 := rf_wt8 κ; omega) hI⟩ (by decide) (by decide)
              · skip
                refine lv_iconst (v := 2) hx hb dX4_handle_264 (by decide) ?_
                refine lv_goto (tgt := 269) hx hb dX4_handle_265 (by decide) ?_
                refine hv_callv (va_runV (As := [.int (nI i), .int (nI j), .int x, .int 2]) (rest := []) ⟨hx, hb, hml, hown, hts⟩ (m_prepare l D tc hI hi hj (by omega) x (sv := 2) (by omega) (by omega)) (cwV 4 hts (tw_V tw_446 tw_447 tw_529 tw_3 tw_448) rfl rfl rfl (by decide +kernel) ⟨Nat.le_of_ble_eq_true rfl, Nat.le_of_ble_eq_true rfl⟩) (hv_preV (ci := 4) hK hT.1 (rs_k0 hS) (by decide) rfl rfl) rfl rfl hl.1 rfl (lv_room (Nat.le_of_ble_eq_true rfl)) dX4_handle_269 ⟨Nat.le_of_ble_eq_true rfl, Nat.le_of_ble_eq_true rfl⟩) hT (fun v7 H locs hp8 hT => ?_)
                obtain ⟨nm9, st10, dg11, kd12, hI⟩ := hp8
                have hS := hI.1
                refine lv_goto (tgt := 368) hx hb dX4_handle_272 (by decide) ?_
                exact hret _ v7 _ _ _ _ _ dX4_handle_368 hT ⟨_, _, _, _, rf_up (by have h8 := rf_wt8 κ; omega) hI⟩ (by decide) (by decide)
            · skip
              refine lv_iload_n hx hb dX4_handle_247 rfl (lv_at hl 2 rfl) ?_
              refine lv_bipush (v := 7) hx hb dX4_handle_248 (by decide) ?_
              refine lv_icmp_ne (tgt := 275) hx hb dX4_handle_250 (by decide) (fun c250 => ?_) (fun c250 => ?_)
              · skip
                refine lv_iload_n hx hb dX4_handle_275 rfl (lv_at hl 2 rfl) ?_
                refine lv_bipush (v := 8) hx hb dX4_handle_276 (by decide) ?_
                refine lv_icmp_ne (tgt := 332) hx hb dX4_handle_278 (by decide) (fun c278 => ?_) (fun c278 => ?_)
                · skip
                  refine lv_iload_n hx hb dX4_handle_332 rfl (lv_at hl 2 rfl) ?_
                  refine lv_bipush (v := 9) hx hb dX4_handle_333 (by decide) ?_
                  refine lv_icmp_eq (tgt := 344) hx hb dX4_handle_335 (by decide) (fun c335 => ?_) (fun c335 => ?_)
                  · skip
                    refine lv_aload_n hx hb dX4_handle_344 rfl (lv_at hl 0 rfl) ?_
                    refine lv_iload_n hx hb dX4_handle_345 rfl (lv_at hl 1 rfl) ?_
                    refine hv_calli (va_runV (As := [.int (nI i)]) (rest := []) ⟨hx, hb, hml, hown, hts⟩ (m_isDecided l D tc hI hi) (cwV 1 hts (tw_V tw_415 tw_416 tw_520 tw_3 tw_417) rfl rfl rfl (by decide +kernel) ⟨Nat.le_of_ble_eq_true rfl, Nat.le_of_ble_eq_true rfl⟩) (hv_preV (ci := 4) hK hT.1 (rs_k0 hS) (by decide) rfl rfl) rfl rfl hl.1 rfl (lv_room (Nat.le_of_ble_eq_true rfl)) dX4_handle_346 ⟨Nat.le_of_ble_eq_true rfl, Nat.le_of_ble_eq_true rfl⟩) hT (fun r15 v13 H locs hp14 hT => ?_)
                    obtain ⟨evhp14, qhp14⟩ := hp14
                    rw [evhp14] at hT
                    refine lv_if_ne (tgt := 368) hx hb dX4_handle_349 (by decide) (fun c349 => ?_) (fun c349 => ?_)
                    · skip
                      exact hret _ v _ _ _ _ _ dX4_handle_368 hT ⟨_, _, _, _, rf_up (by have h8 := rf_wt8 κ; omega) hI⟩ (by decide) (by decide)
                    · skip
                      have h4 : st i < 4 := (qhp14.resolve_left (fun z => absurd (z.1.symm.trans c349) (by decide))).2
                      refine lv_aload_n hx hb dX4_handle_352 rfl (lv_at hl 0 rfl) ?_
                      refine lv_iload_n hx hb dX4_handle_353 rfl (lv_at hl 1 rfl) ?_
                      refine lv_iload_n hx hb dX4_handle_354 rfl (lv_at hl 2 rfl) ?_
                      refine lv_bipush (v := 9) hx hb dX4_handle_355 (by decide) ?_
                      refine lv_icmp_ne (tgt := 364) hx hb dX4_handle_357 (by decide) (fun c357 => ?_) (fun c357 => ?_)
                      · skip
                        refine lv_iconst (v := 5) hx hb dX4_handle_364 (by decide) ?_
                        refine hv_callv (va_runV (As := [.int (nI i), .int 5]) (rest := []) ⟨hx, hb, hml, hown, hts⟩ (m_become4 l D tc hI hi (sv := 5) (by omega) (by omega) h4) (cwV 2 hts (tw_V tw_380 tw_381 tw_511 tw_3 tw_382) rfl rfl rfl (by decide +kernel) ⟨Nat.le_of_ble_eq_true rfl, Nat.le_of_ble_eq_true rfl⟩) (hv_preV (ci := 4) hK hT.1 (rs_k0 hS) (by decide) rfl rfl) rfl rfl hl.1 rfl (lv_room (Nat.le_of_ble_eq_true rfl)) dX4_handle_365 ⟨Nat.le_of_ble_eq_true rfl, Nat.le_of_ble_eq_true rfl⟩) hT (fun v16 H locs hp17 hT => ?_)
                        obtain ⟨st18, dg19, hx20, hI⟩ := hp17
                        have hS := hI.1
                        have hbhx20 : st18 i = 5 := hx20.1.1
                        exact hret _ v16 _ _ _ _ _ dX4_handle_368 hT ⟨_, _, _, _, rf_up (by have h8 := rf_wt8 κ; omega) hI⟩ (by decide) (by decide)
                      · skip
                        refine lv_iconst (v := 4) hx hb dX4_handle_360 (by decide) ?_
                        refine lv_goto (tgt := 365) hx hb dX4_handle_361 (by decide) ?_
                        refine hv_callv (va_runV (As := [.int (nI i), .int 4]) (rest := []) ⟨hx, hb, hml, hown, hts⟩ (m_become4 l D tc hI hi (sv := 4) (by omega) (by omega) h4) (cwV 2 hts (tw_V tw_380 tw_381 tw_511 tw_3 tw_382) rfl rfl rfl (by decide +kernel) ⟨Nat.le_of_ble_eq_true rfl, Nat.le_of_ble_eq_true rfl⟩) (hv_preV (ci := 4) hK hT.1 (rs_k0 hS) (by decide) rfl rfl) rfl rfl hl.1 rfl (lv_room (Nat.le_of_ble_eq_true rfl)) dX4_handle_365 ⟨Nat.le_of_ble_eq_true rfl, Nat.le_of_ble_eq_true rfl⟩) hT (fun v21 H locs hp22 hT => ?_)
                        obtain ⟨st23, dg24, hx25, hI⟩ := hp22
                        have hS := hI.1
                        have hbhx25 : st23 i = 4 := hx25.1.1
                        exact hret _ v21 _ _ _ _ _ dX4_handle_368 hT ⟨_, _, _, _, rf_up (by have h8 := rf_wt8 κ; omega) hI⟩ (by decide) (by decide)
                  · skip
                    refine lv_iload_n hx hb dX4_handle_338 rfl (lv_at hl 2 rfl) ?_
                    refine lv_bipush (v := 10) hx hb dX4_handle_339 (by decide) ?_
                    refine lv_icmp_ne (tgt := 368) hx hb dX4_handle_341 (by decide) (fun c341 => ?_) (fun c341 => ?_)
                    · skip
                      exact hret _ v _ _ _ _ _ dX4_handle_368 hT ⟨_, _, _, _, rf_up (by have h8 := rf_wt8 κ; omega) hI⟩ (by decide) (by decide)
                    · skip
                      refine lv_aload_n hx hb dX4_handle_344 rfl (lv_at hl 0 rfl) ?_
                      refine lv_iload_n hx hb dX4_handle_345 rfl (lv_at hl 1 rfl) ?_
                      refine hv_calli (va_runV (As := [.int (nI i)]) (rest := []) ⟨hx, hb, hml, hown, hts⟩ (m_isDecided l D tc hI hi) (cwV 1 hts (tw_V tw_415 tw_416 tw_520 tw_3 tw_417) rfl rfl rfl (by decide +kernel) ⟨Nat.le_of_ble_eq_true rfl, Nat.le_of_ble_eq_true rfl⟩) (hv_preV (ci := 4) hK hT.1 (rs_k0 hS) (by decide) rfl rfl) rfl rfl hl.1 rfl (lv_room (Nat.le_of_ble_eq_true rfl)) dX4_handle_346 ⟨Nat.le_of_ble_eq_true rfl, Nat.le_of_ble_eq_true rfl⟩) hT (fun r28 v26 H locs hp27 hT => ?_)
                      obtain ⟨evhp27, qhp27⟩ := hp27
                      rw [evhp27] at hT
                      refine lv_if_ne (tgt := 368) hx hb dX4_handle_349 (by decide) (fun c349 => ?_) (fun c349 => ?_)
                      · skip
                        exact hret _ v _ _ _ _ _ dX4_handle_368 hT ⟨_, _, _, _, rf_up (by have h8 := rf_wt8 κ; omega) hI⟩ (by decide) (by decide)
                      · skip
                        have h4 : st i < 4 := (qhp27.resolve_left (fun z => absurd (z.1.symm.trans c349) (by decide))).2
                        refine lv_aload_n hx hb dX4_handle_352 rfl (lv_at hl 0 rfl) ?_
                        refine lv_iload_n hx hb dX4_handle_353 rfl (lv_at hl 1 rfl) ?_
                        refine lv_iload_n hx hb dX4_handle_354 rfl (lv_at hl 2 rfl) ?_
                        refine lv_bipush (v := 9) hx hb dX4_handle_355 (by decide) ?_
                        refine lv_icmp_ne (tgt := 364) hx hb dX4_handle_357 (by decide) (fun c357 => ?_) (fun c357 => ?_)
                        · skip
                          refine lv_iconst (v := 5) hx hb dX4_handle_364 (by decide) ?_
                          refine hv_callv (va_runV (As := [.int (nI i), .int 5]) (rest := []) ⟨hx, hb, hml, hown, hts⟩ (m_become4 l D tc hI hi (sv := 5) (by omega) (by omega) h4) (cwV 2 hts (tw_V tw_380 tw_381 tw_511 tw_3 tw_382) rfl rfl rfl (by decide +kernel) ⟨Nat.le_of_ble_eq_true rfl, Nat.le_of_ble_eq_true rfl⟩) (hv_preV (ci := 4) hK hT.1 (rs_k0 hS) (by decide) rfl rfl) rfl rfl hl.1 rfl (lv_room (Nat.le_of_ble_eq_true rfl)) dX4_handle_365 ⟨Nat.le_of_ble_eq_true rfl, Nat.le_of_ble_eq_true rfl⟩) hT (fun v29 H locs hp30 hT => ?_)
                          obtain ⟨st31, dg32, hx33, hI⟩ := hp30
                          have hS := hI.1
                          have hbhx33 : st31 i = 5 := hx33.1.1
                          exact hret _ v29 _ _ _ _ _ dX4_handle_368 hT ⟨_, _, _, _, rf_up (by have h8 := rf_wt8 κ; omega) hI⟩ (by decide) (by decide)
                        · skip
                          refine lv_iconst (v := 4) hx hb dX4_handle_360 (by decide) ?_
                          refine lv_goto (tgt := 365) hx hb dX4_handle_361 (by decide) ?_
                          refine hv_callv (va_runV (As := [.int (nI i), .int 4]) (rest := []) ⟨hx, hb, hml, hown, hts⟩ (m_become4 l D tc hI hi (sv := 4) (by omega) (by omega) h4) (cwV 2 hts (tw_V tw_380 tw_381 tw_511 tw_3 tw_382) rfl rfl rfl (by decide +kernel) ⟨Nat.le_of_ble_eq_true rfl, Nat.le_of_ble_eq_true rfl⟩) (hv_preV (ci := 4) hK hT.1 (rs_k0 hS) (by decide) rfl rfl) rfl rfl hl.1 rfl (lv_room (Nat.le_of_ble_eq_true rfl)) dX4_handle_365 ⟨Nat.le_of_ble_eq_true rfl, Nat.le_of_ble_eq_true rfl⟩) hT (fun v34 H locs hp35 hT => ?_)
                          obtain ⟨st36, dg37, hx38, hI⟩ := hp35
                          have hS := hI.1
                          have hbhx38 : st36 i = 4 := hx38.1.1
                          exact hret _ v34 _ _ _ _ _ dX4_handle_368 hT ⟨_, _, _, _, rf_up (by have h8 := rf_wt8 κ; omega) hI⟩ (by decide) (by decide)
                · skip
                  refine lv_aload_n hx hb dX4_handle_281 rfl (lv_at hl 0 rfl) ?_
                  refine hv_gets (ci := 4) (C := RX4) (T := TX4) (N := 34) hx hb hts (tw_cs in_X4) hown hK hT (rs_k0 hS) (by decide) rfl 18 (by decide) (hts _ (tw_c tw_330)) rfl (x := (ra 18)) (rs_p18 hS) dX4_handle_282 ?_
                  refine lv_iload_n hx hb dX4_handle_285 rfl (lv_at hl 1 rfl) ?_
                  refine hv_iald hx hb hK hT (rs_k18 hS) (cs_in8 (rf_lt8 hI0 hi)) dX4_handle_286 ?_
                  refine lv_topi (fun g39 eg39 => ?_)
                  have eg39 : g39 = nI (dg i) := by rw [eg39]; exact rf_gdg hI (rf_lt8 hI0 hi)
                  subst eg39
                  refine lv_iconst (v := 2) hx hb dX4_handle_287 (by decide) ?_
                  refine lv_icmp_eq (tgt := 301) hx hb dX4_handle_288 (by decide) (fun c288 => ?_) (fun c288 => ?_)
                  · skip
                    refine lv_iload hx hb dX4_handle_301 (lv_at hl 4 rfl) ?_
                    refine lv_aload_n hx hb dX4_handle_303 rfl (lv_at hl 0 rfl) ?_
                    refine hv_gets (ci := 4) (C := RX4) (T := TX4) (N := 34) hx hb hts (tw_cs in_X4) hown hK hT (rs_k0 hS) (by decide) rfl 19 (by decide) (hts _ (tw_c tw_331)) rfl (x := (ra 19)) (rs_p19 hS) dX4_handle_304 ?_
                    refine lv_iload_n hx hb dX4_handle_307 rfl (lv_at hl 1 rfl) ?_
                    refine hv_iald hx hb hK hT (rs_k19 hS) (cs_in8 (rf_lt8 hI0 hi)) dX4_handle_308 ?_
                    refine lv_topi (fun g40 eg40 => ?_)
                    refine lv_icmp_ne (tgt := 332) hx hb dX4_handle_309 (by decide) (fun c309 => ?_) (fun c309 => ?_)
                    · skip
                      refine lv_iload_n hx hb dX4_handle_332 rfl (lv_at hl 2 rfl) ?_
                      refine lv_bipush (v := 9) hx hb dX4_handle_333 (by decide) ?_
                      refine lv_icmp_eq (tgt := 344) hx hb dX4_handle_335 (by decide) (fun c335 => ?_) (fun c335 => ?_)
                      · skip
                        exact absurd (nI_lit (a := 8) (k := 9) ((c278).symm.trans c335)) (by decide)
                      · skip
                        refine lv_iload_n hx hb dX4_handle_338 rfl (lv_at hl 2 rfl) ?_
                        refine lv_bipush (v := 10) hx hb dX4_handle_339 (by decide) ?_
                        refine lv_icmp_ne (tgt := 368) hx hb dX4_handle_341 (by decide) (fun c341 => ?_) (fun c341 => ?_)
                        · skip
                          exact hret _ v _ _ _ _ _ dX4_handle_368 hT ⟨_, _, _, _, rf_up (by have h8 := rf_wt8 κ; omega) hI⟩ (by decide) (by decide)
                        · skip
                          exact absurd (nI_lit (a := 8) (k := 10) ((c278).symm.trans c341)) (by decide)
                    · skip
                      refine lv_aload_n hx hb dX4_handle_312 rfl (lv_at hl 0 rfl) ?_
                      refine hv_gets (ci := 4) (C := RX4) (T := TX4) (N := 34) hx hb hts (tw_cs in_X4) hown hK hT (rs_k0 hS) (by decide) rfl 20 (by decide) (hts _ (tw_c tw_332)) rfl (x := (ra 20)) (rs_p20 hS) dX4_handle_313 ?_
                      refine lv_bipush (v := 8) hx hb dX4_handle_316 (by decide) ?_
                      refine lv_iload_n hx hb dX4_handle_318 rfl (lv_at hl 1 rfl) ?_
                      refine lv_imul hx hb dX4_handle_319 ?_
                      refine hv_as (x := (8 * (nI i))) (y := (nI (8 * i))) (nI_8 _) ?_
                      refine lv_iload_n hx hb dX4_handle_320 rfl (lv_at hl 3 rfl) ?_
                      refine lv_iadd hx hb dX4_handle_321 ?_
                      refine hv_as (x := ((nI (8 * i)) + (nI j))) (y := (nI ((8 * i) + j))) (nI_add _ _) ?_
                      refine lv_iconst (v := 1) hx hb dX4_handle_322 (by decide) ?_
                      refine hv_iast (x := 1) hx hb hK hT (rs_k20 hS) (rf_in64 (rf_lt8 hI0 hi) (rf_lt8 hI0 hj)) dX4_handle_323 (fun H locs hT => ?_)
                      have hI := rf_puta (k := 20) (j := ((nI ((8 * i) + j)) : Int32).toNatClampNeg) (x := 1) rfl hI
                      have hS := hI.1
                      refine lv_aload_n hx hb dX4_handle_324 rfl (lv_at hl 0 rfl) ?_
                      refine lv_iload_n hx hb dX4_handle_325 rfl (lv_at hl 1 rfl) ?_
                      refine hv_callv (va_runV (As := [.int (nI i)]) (rest := []) ⟨hx, hb, hml, hown, hts⟩ (m_checkQuorum l D tc hI hi (by omega)) (cwV 1 hts (tw_V tw_401 tw_402 tw_518 tw_3 tw_403) rfl rfl rfl (by decide +kernel) ⟨Nat.le_of_ble_eq_true rfl, Nat.le_of_ble_eq_true rfl⟩) (hv_preV (ci := 4) hK hT.1 (rs_k0 hS) (by decide) rfl rfl) rfl rfl hl.1 rfl (lv_room (Nat.le_of_ble_eq_true rfl)) dX4_handle_326 ⟨Nat.le_of_ble_eq_true rfl, Nat.le_of_ble_eq_true rfl⟩) hT (fun v41 H locs hp42 hT => ?_)
                      obtain ⟨nm43, st44, dg45, kd46, hI⟩ := hp42
                      have hS := hI.1
                      refine lv_goto (tgt := 368) hx hb dX4_handle_329 (by decide) ?_
                      exact hret _ v41 _ _ _ _ _ dX4_handle_368 hT ⟨_, _, _, _, rf_up (by have h8 := rf_wt8 κ; omega) hI⟩ (by decide) (by decide)
                  · skip
                    refine lv_aload_n hx hb dX4_handle_291 rfl (lv_at hl 0 rfl) ?_
                    refine hv_gets (ci := 4) (C := RX4) (T := TX4) (N := 34) hx hb hts (tw_cs in_X4) hown hK hT (rs_k0 hS) (by decide) rfl 18 (by decide) (hts _ (tw_c tw_330)) rfl (x := (ra 18)) (rs_p18 hS) dX4_handle_292 ?_
                    refine lv_iload_n hx hb dX4_handle_295 rfl (lv_at hl 1 rfl) ?_
                    refine hv_iald hx hb hK hT (rs_k18 hS) (cs_in8 (rf_lt8 hI0 hi)) dX4_handle_296 ?_
                    refine lv_topi (fun g47 eg47 => ?_)
                    have eg47 : g47 = nI (dg i) := by rw [eg47]; exact rf_gdg hI (rf_lt8 hI0 hi)
                    subst eg47
                    refine lv_iconst (v := 4) hx hb dX4_handle_297 (by decide) ?_
                    refine lv_icmp_ne (tgt := 332) hx hb dX4_handle_298 (by decide) (fun c298 => ?_) (fun c298 => ?_)
                    · skip
                      refine lv_iload_n hx hb dX4_handle_332 rfl (lv_at hl 2 rfl) ?_
                      refine lv_bipush (v := 9) hx hb dX4_handle_333 (by decide) ?_
                      refine lv_icmp_eq (tgt := 344) hx hb dX4_handle_335 (by decide) (fun c335 => ?_) (fun c335 => ?_)
                      · skip
                        exact absurd (nI_lit (a := 8) (k := 9) ((c278).symm.trans c335)) (by decide)
                      · skip
                        refine lv_iload_n hx hb dX4_handle_338 rfl (lv_at hl 2 rfl) ?_
                        refine lv_bipush (v := 10) hx hb dX4_handle_339 (by decide) ?_
                        refine lv_icmp_ne (tgt := 368) hx hb dX4_handle_341 (by decide) (fun c341 => ?_) (fun c341 => ?_)
                        · skip
                          exact hret _ v _ _ _ _ _ dX4_handle_368 hT ⟨_, _, _, _, rf_up (by have h8 := rf_wt8 κ; omega) hI⟩ (by decide) (by decide)
                        · skip
                          exact absurd (nI_lit (a := 8) (k := 10) ((c278).symm.trans c341)) (by decide)
                    · skip
                      refine lv_iload hx hb dX4_handle_301 (lv_at hl 4 rfl) ?_
                      refine lv_aload_n hx hb dX4_handle_303 rfl (lv_at hl 0 rfl) ?_
                      refine hv_gets (ci := 4) (C := RX4) (T := TX4) (N := 34) hx hb hts (tw_cs in_X4) hown hK hT (rs_k0 hS) (by decide) rfl 19 (by decide) (hts _ (tw_c tw_331)) rfl (x := (ra 19)) (rs_p19 hS) dX4_handle_304 ?_
                      refine lv_iload_n hx hb dX4_handle_307 rfl (lv_at hl 1 rfl) ?_
                      refine hv_iald hx hb hK hT (rs_k19 hS) (cs_in8 (rf_lt8 hI0 hi)) dX4_handle_308 ?_
                      refine lv_topi (fun g48 eg48 => ?_)
                      refine lv_icmp_ne (tgt := 332) hx hb dX4_handle_309 (by decide) (fun c309 => ?_) (fun c309 => ?_)
                      · skip
                        refine lv_iload_n hx hb dX4_handle_332 rfl (lv_at hl 2 rfl) ?_
                        refine lv_bipush (v := 9) hx hb dX4_handle_333 (by decide) ?_
                        refine lv_icmp_eq (tgt := 344) hx hb dX4_handle_335 (by decide) (fun c335 => ?_) (fun c335 => ?_)
                        · skip
                          exact absurd (nI_lit (a := 8) (k := 9) ((c278).symm.trans c335)) (by decide)
                        · skip
                          refine lv_iload_n hx hb dX4_handle_338 rfl (lv_at hl 2 rfl) ?_
                          refine lv_bipush (v := 10) hx hb dX4_handle_339 (by decide) ?_
                          refine lv_icmp_ne (tgt := 368) hx hb dX4_handle_341 (by decide) (fun c341 => ?_) (fun c341 => ?_)
                          · skip
                            exact hret _ v _ _ _ _ _ dX4_handle_368 hT ⟨_, _, _, _, rf_up (by have h8 := rf_wt8 κ; omega) hI⟩ (by decide) (by decide)
                          · skip
                            exact absurd (nI_lit (a := 8) (k := 10) ((c278).symm.trans c341)) (by decide)
                      · skip
                        refine lv_aload_n hx hb dX4_handle_312 rfl (lv_at hl 0 rfl) ?_
                        refine hv_gets (ci := 4) (C := RX4) (T := TX4) (N := 34) hx hb hts (tw_cs in_X4) hown hK hT (rs_k0 hS) (by decide) rfl 20 (by decide) (hts _ (tw_c tw_332)) rfl (x := (ra 20)) (rs_p20 hS) dX4_handle_313 ?_
                        refine lv_bipush (v := 8) hx hb dX4_handle_316 (by decide) ?_
                        refine lv_iload_n hx hb dX4_handle_318 rfl (lv_at hl 1 rfl) ?_
                        refine lv_imul hx hb dX4_handle_319 ?_
                        refine hv_as (x := (8 * (nI i))) (y := (nI (8 * i))) (nI_8 _) ?_
                        refine lv_iload_n hx hb dX4_handle_320 rfl (lv_at hl 3 rfl) ?_
                        refine lv_iadd hx hb dX4_handle_321 ?_
                        refine hv_as (x := ((nI (8 * i)) + (nI j))) (y := (nI ((8 * i) + j))) (nI_add _ _) ?_
                        refine lv_iconst (v := 1) hx hb dX4_handle_322 (by decide) ?_
                        refine hv_iast (x := 1) hx hb hK hT (rs_k20 hS) (rf_in64 (rf_lt8 hI0 hi) (rf_lt8 hI0 hj)) dX4_handle_323 (fun H locs hT => ?_)
                        have hI := rf_puta (k := 20) (j := ((nI ((8 * i) + j)) : Int32).toNatClampNeg) (x := 1) rfl hI
                        have hS := hI.1
                        refine lv_aload_n hx hb dX4_handle_324 rfl (lv_at hl 0 rfl) ?_
                        refine lv_iload_n hx hb dX4_handle_325 rfl (lv_at hl 1 rfl) ?_
                        refine hv_callv (va_runV (As := [.int (nI i)]) (rest := []) ⟨hx, hb, hml, hown, hts⟩ (m_checkQuorum l D tc hI hi (by omega)) (cwV 1 hts (tw_V tw_401 tw_402 tw_518 tw_3 tw_403) rfl rfl rfl (by decide +kernel) ⟨Nat.le_of_ble_eq_true rfl, Nat.le_of_ble_eq_true rfl⟩) (hv_preV (ci := 4) hK hT.1 (rs_k0 hS) (by decide) rfl rfl) rfl rfl hl.1 rfl (lv_room (Nat.le_of_ble_eq_true rfl)) dX4_handle_326 ⟨Nat.le_of_ble_eq_true rfl, Nat.le_of_ble_eq_true rfl⟩) hT (fun v49 H locs hp50 hT => ?_)
                        obtain ⟨nm51, st52, dg53, kd54, hI⟩ := hp50
                        have hS := hI.1
                        refine lv_goto (tgt := 368) hx hb dX4_handle_329 (by decide) ?_
                        exact hret _ v49 _ _ _ _ _ dX4_handle_368 hT ⟨_, _, _, _, rf_up (by have h8 := rf_wt8 κ; omega) hI⟩ (by decide) (by decide)
              · skip
                have hw : rf_wt κ = 9 := by rw [nI_lit (k := 7) c250]; rfl
                refine lv_aload_n hx hb dX4_handle_253 rfl (lv_at hl 0 rfl) ?_
                refine lv_iload_n hx hb dX4_handle_254 rfl (lv_at hl 1 rfl) ?_
                refine lv_iload_n hx hb dX4_handle_255 rfl (lv_at hl 3 rfl) ?_
                refine lv_iload hx hb dX4_handle_256 (lv_at hl 4 rfl) ?_
                refine lv_iload_n hx hb dX4_handle_258 rfl (lv_at hl 2 rfl) ?_
                refine lv_bipush (v := 6) hx hb dX4_handle_259 (by decide) ?_
                refine lv_icmp_ne (tgt := 268) hx hb dX4_handle_261 (by decide) (fun c261 => ?_) (fun c261 => ?_)
                · skip
                  refine lv_iconst (v := 3) hx hb dX4_handle_268 (by decide) ?_
                  refine hv_callv (va_runV (As := [.int (nI i), .int (nI j), .int x, .int 3]) (rest := []) ⟨hx, hb, hml, hown, hts⟩ (m_prepare l D tc hI hi hj (by omega) x (sv := 3) (by omega) (by omega)) (cwV 4 hts (tw_V tw_446 tw_447 tw_529 tw_3 tw_448) rfl rfl rfl (by decide +kernel) ⟨Nat.le_of_ble_eq_true rfl, Nat.le_of_ble_eq_true rfl⟩) (hv_preV (ci := 4) hK hT.1 (rs_k0 hS) (by decide) rfl rfl) rfl rfl hl.1 rfl (lv_room (Nat.le_of_ble_eq_true rfl)) dX4_handle_269 ⟨Nat.le_of_ble_eq_true rfl, Nat.le_of_ble_eq_true rfl⟩) hT (fun v55 H locs hp56 hT => ?_)
                  obtain ⟨nm57, st58, dg59, kd60, hI⟩ := hp56
                  have hS := hI.1
                  refine lv_goto (tgt := 368) hx hb dX4_handle_272 (by decide) ?_
                  exact hret _ v55 _ _ _ _ _ dX4_handle_368 hT ⟨_, _, _, _, rf_up (by have h8 := rf_wt8 κ; omega) hI⟩ (by decide) (by decide)
                · skip
                  refine lv_iconst (v := 2) hx hb dX4_handle_264 (by decide) ?_
                  refine lv_goto (tgt := 269) hx hb dX4_handle_265 (by decide) ?_
                  refine hv_callv (va_runV (As := [.int (nI i), .int (nI j), .int x, .int 2]) (rest := []) ⟨hx, hb, hml, hown, hts⟩ (m_prepare l D tc hI hi hj (by omega) x (sv := 2) (by omega) (by omega)) (cwV 4 hts (tw_V tw_446 tw_447 tw_529 tw_3 tw_448) rfl rfl rfl (by decide +kernel) ⟨Nat.le_of_ble_eq_true rfl, Nat.le_of_ble_eq_true rfl⟩) (hv_preV (ci := 4) hK hT.1 (rs_k0 hS) (by decide) rfl rfl) rfl rfl hl.1 rfl (lv_room (Nat.le_of_ble_eq_true rfl)) dX4_handle_269 ⟨Nat.le_of_ble_eq_true rfl, Nat.le_of_ble_eq_true rfl⟩) hT (fun v61 H locs hp62 hT => ?_)
                  obtain ⟨nm63, st64, dg65, kd66, hI⟩ := hp62
                  have hS := hI.1
                  refine lv_goto (tgt := 368) hx hb dX4_handle_272 (by decide) ?_
                  exact hret _ v61 _ _ _ _ _ dX4_handle_368 hT ⟨_, _, _, _, rf_up (by have h8 := rf_wt8 κ; omega) hI⟩ (by decide) (by decide)
          · skip
            refine lv_aload_n hx hb dX4_handle_186 rfl (lv_at hl 0 rfl) ?_
            refine hv_gets (ci := 4) (C := RX4) (T := TX4) (N := 34) hx hb hts (tw_cs in_X4) hown hK hT (rs_k0 hS) (by decide) rfl 18 (by decide) (hts _ (tw_c tw_330)) rfl (x := (ra 18)) (rs_p18 hS) dX4_handle_187 ?_
            refine lv_iload_n hx hb dX4_handle_190 rfl (lv_at hl 1 rfl) ?_
            refine hv_iald hx hb hK hT (rs_k18 hS) (cs_in8 (rf_lt8 hI0 hi)) dX4_handle_191 ?_
            refine lv_topi (fun g67 eg67 => ?_)
            have eg67 : g67 = nI (dg i) := by rw [eg67]; exact rf_gdg hI (rf_lt8 hI0 hi)
            subst eg67
            refine lv_iconst (v := 3) hx hb dX4_handle_192 (by decide) ?_
            refine lv_icmp_ne (tgt := 241) hx hb dX4_handle_193 (by decide) (fun c193 => ?_) (fun c193 => ?_)
            · skip
              refine lv_iload_n hx hb dX4_handle_241 rfl (lv_at hl 2 rfl) ?_
              refine lv_bipush (v := 6) hx hb dX4_handle_242 (by decide) ?_
              refine lv_icmp_eq (tgt := 253) hx hb dX4_handle_244 (by decide) (fun c244 => ?_) (fun c244 => ?_)
              · skip
                exact absurd (nI_lit (a := 5) (k := 6) ((c183).symm.trans c244)) (by decide)
              · skip
                refine lv_iload_n hx hb dX4_handle_247 rfl (lv_at hl 2 rfl) ?_
                refine lv_bipush (v := 7) hx hb dX4_handle_248 (by decide) ?_
                refine lv_icmp_ne (tgt := 275) hx hb dX4_handle_250 (by decide) (fun c250 => ?_) (fun c250 => ?_)
                · skip
                  refine lv_iload_n hx hb dX4_handle_275 rfl (lv_at hl 2 rfl) ?_
                  refine lv_bipush (v := 8) hx hb dX4_handle_276 (by decide) ?_
                  refine lv_icmp_ne (tgt := 332) hx hb dX4_handle_278 (by decide) (fun c278 => ?_) (fun c278 => ?_)
                  · skip
                    refine lv_iload_n hx hb dX4_handle_332 rfl (lv_at hl 2 rfl) ?_
                    refine lv_bipush (v := 9) hx hb dX4_handle_333 (by decide) ?_
                    refine lv_icmp_eq (tgt := 344) hx hb dX4_handle_335 (by decide) (fun c335 => ?_) (fun c335 => ?_)
                    · skip
                      exact absurd (nI_lit (a := 5) (k := 9) ((c183).symm.trans c335)) (by decide)
                    · skip
                      refine lv_iload_n hx hb dX4_handle_338 rfl (lv_at hl 2 rfl) ?_
                      refine lv_bipush (v := 10) hx hb dX4_handle_339 (by decide) ?_
                      refine lv_icmp_ne (tgt := 368) hx hb dX4_handle_341 (by decide) (fun c341 => ?_) (fun c341 => ?_)
                      · skip
                        exact hret _ v _ _ _ _ _ dX4_handle_368 hT ⟨_, _, _, _, rf_up (by have h8 := rf_wt8 κ; omega) hI⟩ (by decide) (by decide)
                      · skip
                        exact absurd (nI_lit (a := 5) (k := 10) ((c183).symm.trans c341)) (by decide)
                  · skip
                    exact absurd (nI_lit (a := 5) (k := 8) ((c183).symm.trans c278)) (by decide)
                · skip
                  exact absurd (nI_lit (a := 5) (k := 7) ((c183).symm.trans c250)) (by decide)
            · skip
              refine lv_iload hx hb dX4_handle_196 (lv_at hl 4 rfl) ?_
              refine lv_aload_n hx hb dX4_handle_198 rfl (lv_at hl 0 rfl) ?_
              refine hv_gets (ci := 4) (C := RX4) (T := TX4) (N := 34) hx hb hts (tw_cs in_X4) hown hK hT (rs_k0 hS) (by decide) rfl 19 (by decide) (hts _ (tw_c tw_331)) rfl (x := (ra 19)) (rs_p19 hS) dX4_handle_199 ?_
              refine lv_iload_n hx hb dX4_handle_202 rfl (lv_at hl 1 rfl) ?_
              refine hv_iald hx hb hK hT (rs_k19 hS) (cs_in8 (rf_lt8 hI0 hi)) dX4_handle_203 ?_
              refine lv_topi (fun g68 eg68 => ?_)
              refine lv_icmp_ne (tgt := 241) hx hb dX4_handle_204 (by decide) (fun c204 => ?_) (fun c204 => ?_)
              · skip
                refine lv_iload_n hx hb dX4_handle_241 rfl (lv_at hl 2 rfl) ?_
                refine lv_bipush (v := 6) hx hb dX4_handle_242 (by decide) ?_
                refine lv_icmp_eq (tgt := 253) hx hb dX4_handle_244 (by decide) (fun c244 => ?_) (fun c244 => ?_)
                · skip
                  exact absurd (nI_lit (a := 5) (k := 6) ((c183).symm.trans c244)) (by decide)
                · skip
                  refine lv_iload_n hx hb dX4_handle_247 rfl (lv_at hl 2 rfl) ?_
                  refine lv_bipush (v := 7) hx hb dX4_handle_248 (by decide) ?_
                  refine lv_icmp_ne (tgt := 275) hx hb dX4_handle_250 (by decide) (fun c250 => ?_) (fun c250 => ?_)
                  · skip
                    refine lv_iload_n hx hb dX4_handle_275 rfl (lv_at hl 2 rfl) ?_
                    refine lv_bipush (v := 8) hx hb dX4_handle_276 (by decide) ?_
                    refine lv_icmp_ne (tgt := 332) hx hb dX4_handle_278 (by decide) (fun c278 => ?_) (fun c278 => ?_)
                    · skip
                      refine lv_iload_n hx hb dX4_handle_332 rfl (lv_at hl 2 rfl) ?_
                      refine lv_bipush (v := 9) hx hb dX4_handle_333 (by decide) ?_
                      refine lv_icmp_eq (tgt := 344) hx hb dX4_handle_335 (by decide) (fun c335 => ?_) (fun c335 => ?_)
                      · skip
                        exact absurd (nI_lit (a := 5) (k := 9) ((c183).symm.trans c335)) (by decide)
                      · skip
                        refine lv_iload_n hx hb dX4_handle_338 rfl (lv_at hl 2 rfl) ?_
                        refine lv_bipush (v := 10) hx hb dX4_handle_339 (by decide) ?_
                        refine lv_icmp_ne (tgt := 368) hx hb dX4_handle_341 (by decide) (fun c341 => ?_) (fun c341 => ?_)
                        · skip
                          exact hret _ v _ _ _ _ _ dX4_handle_368 hT ⟨_, _, _, _, rf_up (by have h8 := rf_wt8 κ; omega) hI⟩ (by decide) (by decide)
                        · skip
                          exact absurd (nI_lit (a := 5) (k := 10) ((c183).symm.trans c341)) (by decide)
                    · skip
                      exact absurd (nI_lit (a := 5) (k := 8) ((c183).symm.trans c278)) (by decide)
                  · skip
                    exact absurd (nI_lit (a := 5) (k := 7) ((c183).symm.trans c250)) (by decide)
              · skip
                refine lv_iload hx hb dX4_handle_207 (lv_at hl 5 rfl) ?_
                refine lv_iconst (v := 4) hx hb dX4_handle_209 (by decide) ?_
                refine lv_icmp_lt (tgt := 223) hx hb dX4_handle_210 (by decide) (fun c210 => ?_) (fun c210 => ?_)
                · skip
                  refine lv_aload_n hx hb dX4_handle_223 rfl (lv_at hl 0 rfl) ?_
                  refine hv_gets (ci := 4) (C := RX4) (T := TX4) (N := 34) hx hb hts (tw_cs in_X4) hown hK hT (rs_k0 hS) (by decide) rfl 20 (by decide) (hts _ (tw_c tw_332)) rfl (x := (ra 20)) (rs_p20 hS) dX4_handle_224 ?_
                  refine lv_bipush (v := 8) hx hb dX4_handle_227 (by decide) ?_
                  refine lv_iload_n hx hb dX4_handle_229 rfl (lv_at hl 1 rfl) ?_
                  refine lv_imul hx hb dX4_handle_230 ?_
                  refine hv_as (x := (8 * (nI i))) (y := (nI (8 * i))) (nI_8 _) ?_
                  refine lv_iload_n hx hb dX4_handle_231 rfl (lv_at hl 3 rfl) ?_
                  refine lv_iadd hx hb dX4_handle_232 ?_
                  refine hv_as (x := ((nI (8 * i)) + (nI j))) (y := (nI ((8 * i) + j))) (nI_add _ _) ?_
                  refine lv_iload hx hb dX4_handle_233 (lv_at hl 5 rfl) ?_
                  refine lv_iconst (v := 1) hx hb dX4_handle_235 (by decide) ?_
                  refine lv_iadd hx hb dX4_handle_236 ?_
                  refine hv_iast (x := ((nI sv) + 1)) hx hb hK hT (rs_k20 hS) (rf_in64 (rf_lt8 hI0 hi) (rf_lt8 hI0 hj)) dX4_handle_237 (fun H locs hT => ?_)
                  have hI := rf_puta (k := 20) (j := ((nI ((8 * i) + j)) : Int32).toNatClampNeg) (x := ((nI sv) + 1)) rfl hI
                  have hS := hI.1
                  refine lv_goto (tgt := 368) hx hb dX4_handle_238 (by decide) ?_
                  exact hret _ (hv_sa v (ra 20) ((nI ((8 * i) + j)) : Int32).toNatClampNeg ((nI sv) + 1)) _ _ _ _ _ dX4_handle_368 hT ⟨_, _, _, _, rf_up (by have h8 := rf_wt8 κ; omega) hI⟩ (by decide) (by decide)
                · skip
                  have hs4 : 4 ≤ sv := by rcases Nat.lt_or_ge sv 4 with q | q <;> first | exact q | exact absurd ((nI_ltI (b := 4) (by omega) (by omega)).mpr q) c210
                  refine lv_aload_n hx hb dX4_handle_213 rfl (lv_at hl 0 rfl) ?_
                  refine lv_iload_n hx hb dX4_handle_214 rfl (lv_at hl 1 rfl) ?_
                  refine lv_iload hx hb dX4_handle_215 (lv_at hl 5 rfl) ?_
                  refine hv_callv (va_runV (As := [.int (nI i), .int (nI sv)]) (rest := []) ⟨hx, hb, hml, hown, hts⟩ (m_decide l D tc hI hi (by omega) (sv := sv) hs4 hs5 (rf_d4 hI (rf_lt8 hI0 hi) (by have := nI_lit (k := 3) c193; omega))) (cwV 2 hts (tw_V tw_377 tw_378 tw_510 tw_3 tw_379) rfl rfl rfl (by decide +kernel) ⟨Nat.le_of_ble_eq_true rfl, Nat.le_of_ble_eq_true rfl⟩) (hv_preV (ci := 4) hK hT.1 (rs_k0 hS) (by decide) rfl rfl) rfl rfl hl.1 rfl (lv_room (Nat.le_of_ble_eq_true rfl)) dX4_handle_217 ⟨Nat.le_of_ble_eq_true rfl, Nat.le_of_ble_eq_true rfl⟩) hT (fun v69 H locs hp70 hT => ?_)
                  obtain ⟨nm71, st72, dg73, kd74, hI⟩ := hp70
                  have hS := hI.1
                  refine lv_goto (tgt := 368) hx hb dX4_handle_220 (by decide) ?_
                  exact hret _ v69 _ _ _ _ _ dX4_handle_368 hT ⟨_, _, _, _, rf_up (by have h8 := rf_wt8 κ; omega) hI⟩ (by decide) (by decide)
        · skip
          have hw : rf_wt κ = 9 := by rw [nI_lit (k := 4) c139]; rfl
          refine lv_aload_n hx hb dX4_handle_142 rfl (lv_at hl 0 rfl) ?_
          refine hv_gets (ci := 4) (C := RX4) (T := TX4) (N := 34) hx hb hts (tw_cs in_X4) hown hK hT (rs_k0 hS) (by decide) rfl 14 (by decide) (hts _ (tw_c tw_326)) rfl (x := (ra 14)) (rs_p14 hS) dX4_handle_143 ?_
          refine lv_iload_n hx hb dX4_handle_146 rfl (lv_at hl 1 rfl) ?_
          refine hv_iald hx hb hK hT (rs_k14 hS) (cs_in8 (rf_lt8 hI0 hi)) dX4_handle_147 ?_
          refine lv_topi (fun g75 eg75 => ?_)
          have eg75 : g75 = nI (st i) := by rw [eg75]; exact rf_gst hI (rf_lt8 hI0 hi)
          subst eg75
          refine lv_if_ne (tgt := 157) hx hb dX4_handle_148 (by decide) (fun c148 => ?_) (fun c148 => ?_)
          · skip
            refine lv_aload_n hx hb dX4_handle_157 rfl (lv_at hl 0 rfl) ?_
            refine lv_iload_n hx hb dX4_handle_158 rfl (lv_at hl 1 rfl) ?_
            refine lv_iload_n hx hb dX4_handle_159 rfl (lv_at hl 3 rfl) ?_
            refine hv_callv (va_runV (As := [.int (nI i), .int (nI j)]) (rest := []) ⟨hx, hb, hml, hown, hts⟩ (m_yieldTo l D tc hI hi (nI j)) (cwV 2 hts (tw_V tw_443 tw_444 tw_528 tw_3 tw_445) rfl rfl rfl (by decide +kernel) ⟨Nat.le_of_ble_eq_true rfl, Nat.le_of_ble_eq_true rfl⟩) (hv_preV (ci := 4) hK hT.1 (rs_k0 hS) (by decide) rfl rfl) rfl rfl hl.1 rfl (lv_room (Nat.le_of_ble_eq_true rfl)) dX4_handle_160 ⟨Nat.le_of_ble_eq_true rfl, Nat.le_of_ble_eq_true rfl⟩) hT (fun v76 H locs hp77 hT => ?_)
            obtain ⟨dg78, hI⟩ := hp77
            have hS := hI.1
            refine lv_aload_n hx hb dX4_handle_163 rfl (lv_at hl 0 rfl) ?_
            refine lv_iconst (v := 5) hx hb dX4_handle_164 (by decide) ?_
            refine lv_iload_n hx hb dX4_handle_165 rfl (lv_at hl 1 rfl) ?_
            refine lv_iload_n hx hb dX4_handle_166 rfl (lv_at hl 3 rfl) ?_
            refine lv_iload hx hb dX4_handle_167 (lv_at hl 4 rfl) ?_
            refine lv_aload_n hx hb dX4_handle_169 rfl (lv_at hl 0 rfl) ?_
            refine hv_gets (ci := 4) (C := RX4) (T := TX4) (N := 34) hx hb hts (tw_cs in_X4) hown hK hT (rs_k0 hS) (by decide) rfl 14 (by decide) (hts _ (tw_c tw_326)) rfl (x := (ra 14)) (rs_p14 hS) dX4_handle_170 ?_
            refine lv_iload_n hx hb dX4_handle_173 rfl (lv_at hl 1 rfl) ?_
            refine hv_iald hx hb hK hT (rs_k14 hS) (cs_in8 (rf_lt8 hI0 hi)) dX4_handle_174 ?_
            refine lv_topi (fun g79 eg79 => ?_)
            have eg79 : g79 = nI (st i) := by rw [eg79]; exact rf_gst hI (rf_lt8 hI0 hi)
            subst eg79
            refine hv_callv (va_runV (As := [.int 5, .int (nI i), .int (nI j), .int x, .int (nI (st i))]) (rest := []) ⟨hx, hb, hml, hown, hts⟩ (m_send l D tc hI hi hj (by omega) (κ := 5) (by omega) x (sv := st i) (rf_st5 hI (rf_lt8 hI0 hi))) (cwV 5 hts (tw_V tw_386 tw_387 tw_513 tw_3 tw_388) rfl rfl rfl (by decide +kernel) ⟨Nat.le_of_ble_eq_true rfl, Nat.le_of_ble_eq_true rfl⟩) (hv_preV (ci := 4) hK hT.1 (rs_k0 hS) (by decide) rfl rfl) rfl rfl hl.1 rfl (lv_room (Nat.le_of_ble_eq_true rfl)) dX4_handle_175 ⟨Nat.le_of_ble_eq_true rfl, Nat.le_of_ble_eq_true rfl⟩) hT (fun v80 H locs hp81 hT => ?_)
            obtain ⟨nm82, kd83, hx84, hI⟩ := hp81
            have hS := hI.1
            have hI := rf_up (B' := (B + 8)) (by show B + 8 ≤ (B + 8); omega) hI
            refine lv_goto (tgt := 368) hx hb dX4_handle_178 (by decide) ?_
            exact hret _ v80 _ _ _ _ _ dX4_handle_368 hT ⟨_, _, _, _, rf_up (by have h8 := rf_wt8 κ; omega) hI⟩ (by decide) (by decide)
          · skip
            have h4 : st i < 4 := by have := nI_lit (k := 0) c148; omega
            refine lv_aload_n hx hb dX4_handle_151 rfl (lv_at hl 0 rfl) ?_
            refine lv_iload_n hx hb dX4_handle_152 rfl (lv_at hl 1 rfl) ?_
            refine lv_iconst (v := 5) hx hb dX4_handle_153 (by decide) ?_
            refine hv_callv (va_runV (As := [.int (nI i), .int 5]) (rest := []) ⟨hx, hb, hml, hown, hts⟩ (m_become4 l D tc hI hi (sv := 5) (by omega) (by omega) h4) (cwV 2 hts (tw_V tw_380 tw_381 tw_511 tw_3 tw_382) rfl rfl rfl (by decide +kernel) ⟨Nat.le_of_ble_eq_true rfl, Nat.le_of_ble_eq_true rfl⟩) (hv_preV (ci := 4) hK hT.1 (rs_k0 hS) (by decide) rfl rfl) rfl rfl hl.1 rfl (lv_room (Nat.le_of_ble_eq_true rfl)) dX4_handle_154 ⟨Nat.le_of_ble_eq_true rfl, Nat.le_of_ble_eq_true rfl⟩) hT (fun v85 H locs hp86 hT => ?_)
            obtain ⟨st87, dg88, hx89, hI⟩ := hp86
            have hS := hI.1
            have hbhx89 : st87 i = 5 := hx89.1.1
            refine lv_aload_n hx hb dX4_handle_157 rfl (lv_at hl 0 rfl) ?_
            refine lv_iload_n hx hb dX4_handle_158 rfl (lv_at hl 1 rfl) ?_
            refine lv_iload_n hx hb dX4_handle_159 rfl (lv_at hl 3 rfl) ?_
            refine hv_callv (va_runV (As := [.int (nI i), .int (nI j)]) (rest := []) ⟨hx, hb, hml, hown, hts⟩ (m_yieldTo l D tc hI hi (nI j)) (cwV 2 hts (tw_V tw_443 tw_444 tw_528 tw_3 tw_445) rfl rfl rfl (by decide +kernel) ⟨Nat.le_of_ble_eq_true rfl, Nat.le_of_ble_eq_true rfl⟩) (hv_preV (ci := 4) hK hT.1 (rs_k0 hS) (by decide) rfl rfl) rfl rfl hl.1 rfl (lv_room (Nat.le_of_ble_eq_true rfl)) dX4_handle_160 ⟨Nat.le_of_ble_eq_true rfl, Nat.le_of_ble_eq_true rfl⟩) hT (fun v90 H locs hp91 hT => ?_)
            obtain ⟨dg92, hI⟩ := hp91
            have hS := hI.1
            refine lv_aload_n hx hb dX4_handle_163 rfl (lv_at hl 0 rfl) ?_
            refine lv_iconst (v := 5) hx hb dX4_handle_164 (by decide) ?_
            refine lv_iload_n hx hb dX4_handle_165 rfl (lv_at hl 1 rfl) ?_
            refine lv_iload_n hx hb dX4_handle_166 rfl (lv_at hl 3 rfl) ?_
            refine lv_iload hx hb dX4_handle_167 (lv_at hl 4 rfl) ?_
            refine lv_aload_n hx hb dX4_handle_169 rfl (lv_at hl 0 rfl) ?_
            refine hv_gets (ci := 4) (C := RX4) (T := TX4) (N := 34) hx hb hts (tw_cs in_X4) hown hK hT (rs_k0 hS) (by decide) rfl 14 (by decide) (hts _ (tw_c tw_326)) rfl (x := (ra 14)) (rs_p14 hS) dX4_handle_170 ?_
            refine lv_iload_n hx hb dX4_handle_173 rfl (lv_at hl 1 rfl) ?_
            refine hv_iald hx hb hK hT (rs_k14 hS) (cs_in8 (rf_lt8 hI0 hi)) dX4_handle_174 ?_
            refine lv_topi (fun g93 eg93 => ?_)
            have eg93 : g93 = nI (st87 i) := by rw [eg93]; exact rf_gst hI (rf_lt8 hI0 hi)
            subst eg93
            refine hv_callv (va_runV (As := [.int 5, .int (nI i), .int (nI j), .int x, .int (nI (st87 i))]) (rest := []) ⟨hx, hb, hml, hown, hts⟩ (m_send l D tc hI hi hj (by omega) (κ := 5) (by omega) x (sv := st87 i) (rf_st5 hI (rf_lt8 hI0 hi))) (cwV 5 hts (tw_V tw_386 tw_387 tw_513 tw_3 tw_388) rfl rfl rfl (by decide +kernel) ⟨Nat.le_of_ble_eq_true rfl, Nat.le_of_ble_eq_true rfl⟩) (hv_preV (ci := 4) hK hT.1 (rs_k0 hS) (by decide) rfl rfl) rfl rfl hl.1 rfl (lv_room (Nat.le_of_ble_eq_true rfl)) dX4_handle_175 ⟨Nat.le_of_ble_eq_true rfl, Nat.le_of_ble_eq_true rfl⟩) hT (fun v94 H locs hp95 hT => ?_)
            obtain ⟨nm96, kd97, hx98, hI⟩ := hp95
            have hS := hI.1
            have hI := rf_up (B' := ((B - 56) + 8)) (by show (B - 56) + 8 ≤ ((B - 56) + 8); omega) hI
            refine lv_goto (tgt := 368) hx hb dX4_handle_178 (by decide) ?_
            exact hret _ v94 _ _ _ _ _ dX4_handle_368 hT ⟨_, _, _, _, rf_up (by have h8 := rf_wt8 κ; omega) hI⟩ (by decide) (by decide)
      · skip
        refine lv_aload_n hx hb dX4_handle_118 rfl (lv_at hl 0 rfl) ?_
        refine hv_gets (ci := 4) (C := RX4) (T := TX4) (N := 34) hx hb hts (tw_cs in_X4) hown hK hT (rs_k0 hS) (by decide) rfl 18 (by decide) (hts _ (tw_c tw_330)) rfl (x := (ra 18)) (rs_p18 hS) dX4_handle_119 ?_
        refine lv_iload_n hx hb dX4_handle_122 rfl (lv_at hl 1 rfl) ?_
        refine hv_iald hx hb hK hT (rs_k18 hS) (cs_in8 (rf_lt8 hI0 hi)) dX4_handle_123 ?_
        refine lv_topi (fun g99 eg99 => ?_)
        have eg99 : g99 = nI (dg i) := by rw [eg99]; exact rf_gdg hI (rf_lt8 hI0 hi)
        subst eg99
        refine lv_iconst (v := 1) hx hb dX4_handle_124 (by decide) ?_
        refine lv_icmp_ne (tgt := 137) hx hb dX4_handle_125 (by decide) (fun c125 => ?_) (fun c125 => ?_)
        · skip
          refine lv_iload_n hx hb dX4_handle_137 rfl (lv_at hl 2 rfl) ?_
          refine lv_iconst (v := 4) hx hb dX4_handle_138 (by decide) ?_
          refine lv_icmp_ne (tgt := 181) hx hb dX4_handle_139 (by decide) (fun c139 => ?_) (fun c139 => ?_)
          · skip
            refine lv_iload_n hx hb dX4_handle_181 rfl (lv_at hl 2 rfl) ?_
            refine lv_iconst (v := 5) hx hb dX4_handle_182 (by decide) ?_
            refine lv_icmp_ne (tgt := 241) hx hb dX4_handle_183 (by decide) (fun c183 => ?_) (fun c183 => ?_)
            · skip
              refine lv_iload_n hx hb dX4_handle_241 rfl (lv_at hl 2 rfl) ?_
              refine lv_bipush (v := 6) hx hb dX4_handle_242 (by decide) ?_
              refine lv_icmp_eq (tgt := 253) hx hb dX4_handle_244 (by decide) (fun c244 => ?_) (fun c244 => ?_)
              · skip
                exact absurd (nI_lit (a := 3) (k := 6) ((c115).symm.trans c244)) (by decide)
              · skip
                refine lv_iload_n hx hb dX4_handle_247 rfl (lv_at hl 2 rfl) ?_
                refine lv_bipush (v := 7) hx hb dX4_handle_248 (by decide) ?_
                refine lv_icmp_ne (tgt := 275) hx hb dX4_handle_250 (by decide) (fun c250 => ?_) (fun c250 => ?_)
                · skip
                  refine lv_iload_n hx hb dX4_handle_275 rfl (lv_at hl 2 rfl) ?_
                  refine lv_bipush (v := 8) hx hb dX4_handle_276 (by decide) ?_
                  refine lv_icmp_ne (tgt := 332) hx hb dX4_handle_278 (by decide) (fun c278 => ?_) (fun c278 => ?_)
                  · skip
                    refine lv_iload_n hx hb dX4_handle_332 rfl (lv_at hl 2 rfl) ?_
                    refine lv_bipush (v := 9) hx hb dX4_handle_333 (by decide) ?_
                    refine lv_icmp_eq (tgt := 344) hx hb dX4_handle_335 (by decide) (fun c335 => ?_) (fun c335 => ?_)
                    · skip
                      exact absurd (nI_lit (a := 3) (k := 9) ((c115).symm.trans c335)) (by decide)
                    · skip
                      refine lv_iload_n hx hb dX4_handle_338 rfl (lv_at hl 2 rfl) ?_
                      refine lv_bipush (v := 10) hx hb dX4_handle_339 (by decide) ?_
                      refine lv_icmp_ne (tgt := 368) hx hb dX4_handle_341 (by decide) (fun c341 => ?_) (fun c341 => ?_)
                      · skip
                        exact hret _ v _ _ _ _ _ dX4_handle_368 hT ⟨_, _, _, _, rf_up (by have h8 := rf_wt8 κ; omega) hI⟩ (by decide) (by decide)
                      · skip
                        exact absurd (nI_lit (a := 3) (k := 10) ((c115).symm.trans c341)) (by decide)
                  · skip
                    exact absurd (nI_lit (a := 3) (k := 8) ((c115).symm.trans c278)) (by decide)
                · skip
                  exact absurd (nI_lit (a := 3) (k := 7) ((c115).symm.trans c250)) (by decide)
            · skip
              exact absurd (nI_lit (a := 3) (k := 5) ((c115).symm.trans c183)) (by decide)
          · skip
            exact absurd (nI_lit (a := 3) (k := 4) ((c115).symm.trans c139)) (by decide)
        · skip
          refine lv_aload_n hx hb dX4_handle_128 rfl (lv_at hl 0 rfl) ?_
          refine lv_iload_n hx hb dX4_handle_129 rfl (lv_at hl 1 rfl) ?_
          refine lv_iconst (v := 5) hx hb dX4_handle_130 (by decide) ?_
          refine hv_callv (va_runV (As := [.int (nI i), .int 5]) (rest := []) ⟨hx, hb, hml, hown, hts⟩ (m_decide l D tc hI hi (by omega) (sv := 5) (by omega) (by omega) (rf_d4 hI (rf_lt8 hI0 hi) (by have := nI_lit (k := 1) c125; omega))) (cwV 2 hts (tw_V tw_377 tw_378 tw_510 tw_3 tw_379) rfl rfl rfl (by decide +kernel) ⟨Nat.le_of_ble_eq_true rfl, Nat.le_of_ble_eq_true rfl⟩) (hv_preV (ci := 4) hK hT.1 (rs_k0 hS) (by decide) rfl rfl) rfl rfl hl.1 rfl (lv_room (Nat.le_of_ble_eq_true rfl)) dX4_handle_131 ⟨Nat.le_of_ble_eq_true rfl, Nat.le_of_ble_eq_true rfl⟩) hT (fun v100 H locs hp101 hT => ?_)
          obtain ⟨nm102, st103, dg104, kd105, hI⟩ := hp101
          have hS := hI.1
          refine lv_goto (tgt := 368) hx hb dX4_handle_134 (by decide) ?_
          exact hret _ v100 _ _ _ _ _ dX4_handle_368 hT ⟨_, _, _, _, rf_up (by have h8 := rf_wt8 κ; omega) hI⟩ (by decide) (by decide)
    · skip
      refine lv_aload_n hx hb dX4_handle_83 rfl (lv_at hl 0 rfl) ?_
      refine hv_gets (ci := 4) (C := RX4) (T := TX4) (N := 34) hx hb hts (tw_cs in_X4) hown hK hT (rs_k0 hS) (by decide) rfl 18 (by decide) (hts _ (tw_c tw_330)) rfl (x := (ra 18)) (rs_p18 hS) dX4_handle_84 ?_
      refine lv_iload_n hx hb dX4_handle_87 rfl (lv_at hl 1 rfl) ?_
      refine hv_iald hx hb hK hT (rs_k18 hS) (cs_in8 (rf_lt8 hI0 hi)) dX4_handle_88 ?_
      refine lv_topi (fun g106 eg106 => ?_)
      have eg106 : g106 = nI (dg i) := by rw [eg106]; exact rf_gdg hI (rf_lt8 hI0 hi)
      subst eg106
      refine lv_iconst (v := 1) hx hb dX4_handle_89 (by decide) ?_
      refine lv_icmp_ne (tgt := 113) hx hb dX4_handle_90 (by decide) (fun c90 => ?_) (fun c90 => ?_)
      · skip
        refine lv_iload_n hx hb dX4_handle_113 rfl (lv_at hl 2 rfl) ?_
        refine lv_iconst (v := 3) hx hb dX4_handle_114 (by decide) ?_
        refine lv_icmp_ne (tgt := 137) hx hb dX4_handle_115 (by decide) (fun c115 => ?_) (fun c115 => ?_)
        · skip
          refine lv_iload_n hx hb dX4_handle_137 rfl (lv_at hl 2 rfl) ?_
          refine lv_iconst (v := 4) hx hb dX4_handle_138 (by decide) ?_
          refine lv_icmp_ne (tgt := 181) hx hb dX4_handle_139 (by decide) (fun c139 => ?_) (fun c139 => ?_)
          · skip
            refine lv_iload_n hx hb dX4_handle_181 rfl (lv_at hl 2 rfl) ?_
            refine lv_iconst (v := 5) hx hb dX4_handle_182 (by decide) ?_
            refine lv_icmp_ne (tgt := 241) hx hb dX4_handle_183 (by decide) (fun c183 => ?_) (fun c183 => ?_)
            · skip
              refine lv_iload_n hx hb dX4_handle_241 rfl (lv_at hl 2 rfl) ?_
              refine lv_bipush (v := 6) hx hb dX4_handle_242 (by decide) ?_
              refine lv_icmp_eq (tgt := 253) hx hb dX4_handle_244 (by decide) (fun c244 => ?_) (fun c244 => ?_)
              · skip
                exact absurd (nI_lit (a := 2) (k := 6) ((c80).symm.trans c244)) (by decide)
              · skip
                refine lv_iload_n hx hb dX4_handle_247 rfl (lv_at hl 2 rfl) ?_
                refine lv_bipush (v := 7) hx hb dX4_handle_248 (by decide) ?_
                refine lv_icmp_ne (tgt := 275) hx hb dX4_handle_250 (by decide) (fun c250 => ?_) (fun c250 => ?_)
                · skip
                  refine lv_iload_n hx hb dX4_handle_275 rfl (lv_at hl 2 rfl) ?_
                  refine lv_bipush (v := 8) hx hb dX4_handle_276 (by decide) ?_
                  refine lv_icmp_ne (tgt := 332) hx hb dX4_handle_278 (by decide) (fun c278 => ?_) (fun c278 => ?_)
                  · skip
                    refine lv_iload_n hx hb dX4_handle_332 rfl (lv_at hl 2 rfl) ?_
                    refine lv_bipush (v := 9) hx hb dX4_handle_333 (by decide) ?_
                    refine lv_icmp_eq (tgt := 344) hx hb dX4_handle_335 (by decide) (fun c335 => ?_) (fun c335 => ?_)
                    · skip
                      exact absurd (nI_lit (a := 2) (k := 9) ((c80).symm.trans c335)) (by decide)
                    · skip
                      refine lv_iload_n hx hb dX4_handle_338 rfl (lv_at hl 2 rfl) ?_
                      refine lv_bipush (v := 10) hx hb dX4_handle_339 (by decide) ?_
                      refine lv_icmp_ne (tgt := 368) hx hb dX4_handle_341 (by decide) (fun c341 => ?_) (fun c341 => ?_)
                      · skip
                        exact hret _ v _ _ _ _ _ dX4_handle_368 hT ⟨_, _, _, _, rf_up (by have h8 := rf_wt8 κ; omega) hI⟩ (by decide) (by decide)
                      · skip
                        exact absurd (nI_lit (a := 2) (k := 10) ((c80).symm.trans c341)) (by decide)
                  · skip
                    exact absurd (nI_lit (a := 2) (k := 8) ((c80).symm.trans c278)) (by decide)
                · skip
                  exact absurd (nI_lit (a := 2) (k := 7) ((c80).symm.trans c250)) (by decide)
            · skip
              exact absurd (nI_lit (a := 2) (k := 5) ((c80).symm.trans c183)) (by decide)
          · skip
            exact absurd (nI_lit (a := 2) (k := 4) ((c80).symm.trans c139)) (by decide)
        · skip
          exact absurd (nI_lit (a := 2) (k := 3) ((c80).symm.trans c115)) (by decide)
      · skip
        refine lv_aload_n hx hb dX4_handle_93 rfl (lv_at hl 0 rfl) ?_
        refine hv_gets (ci := 4) (C := RX4) (T := TX4) (N := 34) hx hb hts (tw_cs in_X4) hown hK hT (rs_k0 hS) (by decide) rfl 20 (by decide) (hts _ (tw_c tw_332)) rfl (x := (ra 20)) (rs_p20 hS) dX4_handle_94 ?_
        refine lv_bipush (v := 8) hx hb dX4_handle_97 (by decide) ?_
        refine lv_iload_n hx hb dX4_handle_99 rfl (lv_at hl 1 rfl) ?_
        refine lv_imul hx hb dX4_handle_100 ?_
        refine hv_as (x := (8 * (nI i))) (y := (nI (8 * i))) (nI_8 _) ?_
        refine lv_iload_n hx hb dX4_handle_101 rfl (lv_at hl 3 rfl) ?_
        refine lv_iadd hx hb dX4_handle_102 ?_
        refine hv_as (x := ((nI (8 * i)) + (nI j))) (y := (nI ((8 * i) + j))) (nI_add _ _) ?_
        refine lv_iconst (v := 1) hx hb dX4_handle_103 (by decide) ?_
        refine hv_iast (x := 1) hx hb hK hT (rs_k20 hS) (rf_in64 (rf_lt8 hI0 hi) (rf_lt8 hI0 hj)) dX4_handle_104 (fun H locs hT => ?_)
        have hI := rf_puta (k := 20) (j := ((nI ((8 * i) + j)) : Int32).toNatClampNeg) (x := 1) rfl hI
        have hS := hI.1
        refine lv_aload_n hx hb dX4_handle_105 rfl (lv_at hl 0 rfl) ?_
        refine lv_iload_n hx hb dX4_handle_106 rfl (lv_at hl 1 rfl) ?_
        refine hv_callv (va_runV (As := [.int (nI i)]) (rest := []) ⟨hx, hb, hml, hown, hts⟩ (m_checkVotes l D tc hI hi (nI_lit (k := 1) c90) (by omega)) (cwV 1 hts (tw_V tw_395 tw_396 tw_516 tw_3 tw_397) rfl rfl rfl (by decide +kernel) ⟨Nat.le_of_ble_eq_true rfl, Nat.le_of_ble_eq_true rfl⟩) (hv_preV (ci := 4) hK hT.1 (rs_k0 hS) (by decide) rfl rfl) rfl rfl hl.1 rfl (lv_room (Nat.le_of_ble_eq_true rfl)) dX4_handle_107 ⟨Nat.le_of_ble_eq_true rfl, Nat.le_of_ble_eq_true rfl⟩) hT (fun v107 H locs hp108 hT => ?_)
        obtain ⟨nm109, st110, dg111, kd112, hI⟩ := hp108
        have hS := hI.1
        refine lv_goto (tgt := 368) hx hb dX4_handle_110 (by decide) ?_
        exact hret _ v107 _ _ _ _ _ dX4_handle_368 hT ⟨_, _, _, _, rf_up (by have h8 := rf_wt8 κ; omega) hI⟩ (by decide) (by decide)
  · skip
    have hw : rf_wt κ = 9 := by rw [nI_lit (k := 1) c2]; rfl
    refine lv_aload_n hx hb dX4_handle_5 rfl (lv_at hl 0 rfl) ?_
    refine hv_gets (ci := 4) (C := RX4) (T := TX4) (N := 34) hx hb hts (tw_cs in_X4) hown hK hT (rs_k0 hS) (by decide) rfl 14 (by decide) (hts _ (tw_c tw_326)) rfl (x := (ra 14)) (rs_p14 hS) dX4_handle_6 ?_
    refine lv_iload_n hx hb dX4_handle_9 rfl (lv_at hl 1 rfl) ?_
    refine hv_iald hx hb hK hT (rs_k14 hS) (cs_in8 (rf_lt8 hI0 hi)) dX4_handle_10 ?_
    refine lv_topi (fun g113 eg113 => ?_)
    have eg113 : g113 = nI (st i) := by rw [eg113]; exact rf_gst hI (rf_lt8 hI0 hi)
    subst eg113
    refine lv_if_ne (tgt := 368) hx hb dX4_handle_11 (by decide) (fun c11 => ?_) (fun c11 => ?_)
    · skip
      exact hret _ v _ _ _ _ _ dX4_handle_368 hT ⟨_, _, _, _, rf_up (by have h8 := rf_wt8 κ; omega) hI⟩ (by decide) (by decide)
    · skip
      have h4 : st i < 4 := by have := nI_lit (k := 0) c11; omega
      refine lv_aload_n hx hb dX4_handle_14 rfl (lv_at hl 0 rfl) ?_
      refine lv_iload_n hx hb dX4_handle_15 rfl (lv_at hl 1 rfl) ?_
      refine lv_aload_n hx hb dX4_handle_16 rfl (lv_at hl 0 rfl) ?_
      refine hv_gets (ci := 4) (C := RX4) (T := TX4) (N := 34) hx hb hts (tw_cs in_X4) hown hK hT (rs_k0 hS) (by decide) rfl 17 (by decide) (hts _ (tw_c tw_329)) rfl (x := (ra 17)) (rs_p17 hS) dX4_handle_17 ?_
      refine lv_iload_n hx hb dX4_handle_20 rfl (lv_at hl 1 rfl) ?_
      refine hv_zald hx hb hK hT (rs_k17 hS) (cs_in8 (rf_lt8 hI0 hi)) dX4_handle_21 ?_
      refine lv_topi (fun g114 eg114 => ?_)
      refine lv_if_eq (tgt := 29) hx hb dX4_handle_22 (by decide) (fun c22 => ?_) (fun c22 => ?_)
      · skip
        refine lv_iconst (v := 5) hx hb dX4_handle_29 (by decide) ?_
        refine hv_callv (va_runV (As := [.int (nI i), .int 5]) (rest := []) ⟨hx, hb, hml, hown, hts⟩ (m_become4 l D tc hI hi (sv := 5) (by omega) (by omega) h4) (cwV 2 hts (tw_V tw_380 tw_381 tw_511 tw_3 tw_382) rfl rfl rfl (by decide +kernel) ⟨Nat.le_of_ble_eq_true rfl, Nat.le_of_ble_eq_true rfl⟩) (hv_preV (ci := 4) hK hT.1 (rs_k0 hS) (by decide) rfl rfl) rfl rfl hl.1 rfl (lv_room (Nat.le_of_ble_eq_true rfl)) dX4_handle_30 ⟨Nat.le_of_ble_eq_true rfl, Nat.le_of_ble_eq_true rfl⟩) hT (fun v115 H locs hp116 hT => ?_)
        obtain ⟨st117, dg118, hx119, hI⟩ := hp116
        have hS := hI.1
        have hbhx119 : st117 i = 5 := hx119.1.1
        refine lv_aload_n hx hb dX4_handle_33 rfl (lv_at hl 0 rfl) ?_
        refine lv_aload_n hx hb dX4_handle_34 rfl (lv_at hl 0 rfl) ?_
        refine hv_gets (ci := 4) (C := RX4) (T := TX4) (N := 34) hx hb hts (tw_cs in_X4) hown hK hT (rs_k0 hS) (by decide) rfl 17 (by decide) (hts _ (tw_c tw_329)) rfl (x := (ra 17)) (rs_p17 hS) dX4_handle_35 ?_
        refine lv_iload_n hx hb dX4_handle_38 rfl (lv_at hl 1 rfl) ?_
        refine hv_zald hx hb hK hT (rs_k17 hS) (cs_in8 (rf_lt8 hI0 hi)) dX4_handle_39 ?_
        refine lv_topi (fun g120 eg120 => ?_)
        have evg120 : g120 = g114 := by rw [eg120, hx119.2, ← eg114]
        refine lv_if_eq (tgt := 47) hx hb dX4_handle_40 (by decide) (fun c40 => ?_) (fun c40 => ?_)
        · skip
          refine lv_iconst (v := 3) hx hb dX4_handle_47 (by decide) ?_
          refine lv_iload_n hx hb dX4_handle_48 rfl (lv_at hl 1 rfl) ?_
          refine lv_iload_n hx hb dX4_handle_49 rfl (lv_at hl 3 rfl) ?_
          refine lv_iconst (v := 0) hx hb dX4_handle_50 (by decide) ?_
          refine lv_iconst (v := 0) hx hb dX4_handle_51 (by decide) ?_
          refine hv_callv (va_runV (As := [.int 3, .int (nI i), .int (nI j), .int 0, .int 0]) (rest := []) ⟨hx, hb, hml, hown, hts⟩ (m_send l D tc hI hi hj (by omega) (κ := 3) (by omega) 0 (sv := 0) (by omega)) (cwV 5 hts (tw_V tw_386 tw_387 tw_513 tw_3 tw_388) rfl rfl rfl (by decide +kernel) ⟨Nat.le_of_ble_eq_true rfl, Nat.le_of_ble_eq_true rfl⟩) (hv_preV (ci := 4) hK hT.1 (rs_k0 hS) (by decide) rfl rfl) rfl rfl hl.1 rfl (lv_room (Nat.le_of_ble_eq_true rfl)) dX4_handle_52 ⟨Nat.le_of_ble_eq_true rfl, Nat.le_of_ble_eq_true rfl⟩) hT (fun v121 H locs hp122 hT => ?_)
          obtain ⟨nm123, kd124, hx125, hI⟩ := hp122
          have hS := hI.1
          have hI := rf_up (B' := ((B - 56) + 8)) (by show (B - 56) + 8 ≤ ((B - 56) + 8); omega) hI
          refine lv_aload_n hx hb dX4_handle_55 rfl (lv_at hl 0 rfl) ?_
          refine hv_gets (ci := 4) (C := RX4) (T := TX4) (N := 34) hx hb hts (tw_cs in_X4) hown hK hT (rs_k0 hS) (by decide) rfl 17 (by decide) (hts _ (tw_c tw_329)) rfl (x := (ra 17)) (rs_p17 hS) dX4_handle_56 ?_
          refine lv_iload_n hx hb dX4_handle_59 rfl (lv_at hl 1 rfl) ?_
          refine hv_zald hx hb hK hT (rs_k17 hS) (cs_in8 (rf_lt8 hI0 hi)) dX4_handle_60 ?_
          refine lv_topi (fun g126 eg126 => ?_)
          have evg126 : g126 = g114 := by rw [eg126, hx125, hx119.2, ← eg114]
          refine lv_if_eq (tgt := 368) hx hb dX4_handle_61 (by decide) (fun c61 => ?_) (fun c61 => ?_)
          · skip
            exact hret _ v121 _ _ _ _ _ dX4_handle_368 hT ⟨_, _, _, _, rf_up (by have h8 := rf_wt8 κ; omega) hI⟩ (by decide) (by decide)
          · skip
            exact absurd (evg126.trans c22) c61
        · skip
          exact absurd (evg120.trans c22) c40
      · skip
        refine lv_iconst (v := 1) hx hb dX4_handle_25 (by decide) ?_
        refine lv_goto (tgt := 30) hx hb dX4_handle_26 (by decide) ?_
        refine hv_callv (va_runV (As := [.int (nI i), .int 1]) (rest := []) ⟨hx, hb, hml, hown, hts⟩ (m_become l D tc hI hi (sv := 1) (by omega) h4) (cwV 2 hts (tw_V tw_380 tw_381 tw_511 tw_3 tw_382) rfl rfl rfl (by decide +kernel) ⟨Nat.le_of_ble_eq_true rfl, Nat.le_of_ble_eq_true rfl⟩) (hv_preV (ci := 4) hK hT.1 (rs_k0 hS) (by decide) rfl rfl) rfl rfl hl.1 rfl (lv_room (Nat.le_of_ble_eq_true rfl)) dX4_handle_30 ⟨Nat.le_of_ble_eq_true rfl, Nat.le_of_ble_eq_true rfl⟩) hT (fun v127 H locs hp128 hT => ?_)
        obtain ⟨st129, hx130, hI⟩ := hp128
        have hS := hI.1
        have hbhx130 : st129 i = 1 := hx130.1
        have h4 : st129 i < 4 := by omega
        refine lv_aload_n hx hb dX4_handle_33 rfl (lv_at hl 0 rfl) ?_
        refine lv_aload_n hx hb dX4_handle_34 rfl (lv_at hl 0 rfl) ?_
        refine hv_gets (ci := 4) (C := RX4) (T := TX4) (N := 34) hx hb hts (tw_cs in_X4) hown hK hT (rs_k0 hS) (by decide) rfl 17 (by decide) (hts _ (tw_c tw_329)) rfl (x := (ra 17)) (rs_p17 hS) dX4_handle_35 ?_
        refine lv_iload_n hx hb dX4_handle_38 rfl (lv_at hl 1 rfl) ?_
        refine hv_zald hx hb hK hT (rs_k17 hS) (cs_in8 (rf_lt8 hI0 hi)) dX4_handle_39 ?_
        refine lv_topi (fun g131 eg131 => ?_)
        have evg131 : g131 = g114 := by rw [eg131, hx130.2, ← eg114]
        refine lv_if_eq (tgt := 47) hx hb dX4_handle_40 (by decide) (fun c40 => ?_) (fun c40 => ?_)
        · skip
          exact absurd (evg131.symm.trans c40) c22
        · skip
          refine lv_iconst (v := 2) hx hb dX4_handle_43 (by decide) ?_
          refine lv_goto (tgt := 48) hx hb dX4_handle_44 (by decide) ?_
          refine lv_iload_n hx hb dX4_handle_48 rfl (lv_at hl 1 rfl) ?_
          refine lv_iload_n hx hb dX4_handle_49 rfl (lv_at hl 3 rfl) ?_
          refine lv_iconst (v := 0) hx hb dX4_handle_50 (by decide) ?_
          refine lv_iconst (v := 0) hx hb dX4_handle_51 (by decide) ?_
          refine hv_callv (va_runV (As := [.int 2, .int (nI i), .int (nI j), .int 0, .int 0]) (rest := []) ⟨hx, hb, hml, hown, hts⟩ (m_send l D tc hI hi hj (by omega) (κ := 2) (by omega) 0 (sv := 0) (by omega)) (cwV 5 hts (tw_V tw_386 tw_387 tw_513 tw_3 tw_388) rfl rfl rfl (by decide +kernel) ⟨Nat.le_of_ble_eq_true rfl, Nat.le_of_ble_eq_true rfl⟩) (hv_preV (ci := 4) hK hT.1 (rs_k0 hS) (by decide) rfl rfl) rfl rfl hl.1 rfl (lv_room (Nat.le_of_ble_eq_true rfl)) dX4_handle_52 ⟨Nat.le_of_ble_eq_true rfl, Nat.le_of_ble_eq_true rfl⟩) hT (fun v132 H locs hp133 hT => ?_)
          obtain ⟨nm134, kd135, hx136, hI⟩ := hp133
          have hS := hI.1
          have hI := rf_up (B' := (B + 8)) (by show B + 8 ≤ (B + 8); omega) hI
          refine lv_aload_n hx hb dX4_handle_55 rfl (lv_at hl 0 rfl) ?_
          refine hv_gets (ci := 4) (C := RX4) (T := TX4) (N := 34) hx hb hts (tw_cs in_X4) hown hK hT (rs_k0 hS) (by decide) rfl 17 (by decide) (hts _ (tw_c tw_329)) rfl (x := (ra 17)) (rs_p17 hS) dX4_handle_56 ?_
          refine lv_iload_n hx hb dX4_handle_59 rfl (lv_at hl 1 rfl) ?_
          refine hv_zald hx hb hK hT (rs_k17 hS) (cs_in8 (rf_lt8 hI0 hi)) dX4_handle_60 ?_
          refine lv_topi (fun g137 eg137 => ?_)
          have evg137 : g137 = g114 := by rw [eg137, hx136, hx130.2, ← eg114]
          refine lv_if_eq (tgt := 368) hx hb dX4_handle_61 (by decide) (fun c61 => ?_) (fun c61 => ?_)
          · skip
            exact absurd (evg137.symm.trans c61) c22
          · skip
            refine lv_aload_n hx hb dX4_handle_64 rfl (lv_at hl 0 rfl) ?_
            refine lv_iload_n hx hb dX4_handle_65 rfl (lv_at hl 1 rfl) ?_
            refine lv_aload_n hx hb dX4_handle_66 rfl (lv_at hl 0 rfl) ?_
            refine hv_geti (ci := 4) (C := RX4) (T := TX4) (N := 34) hx hb hts (tw_cs in_X4) hown hK hT (rs_k0 hS) (by decide) rfl 5 (by decide) (hts _ (tw_c tw_317)) rfl dX4_handle_67 ?_
            refine lv_topi (fun g138 eg138 => ?_)
            obtain ⟨q139, h5q139, h100q139, hq139⟩ := rf_q hI
            have eg138 : g138 = (nI q139) := by rw [eg138]; exact hq139
            subst eg138
            refine lv_iload_n hx hb dX4_handle_70 rfl (lv_at hl 1 rfl) ?_
            refine lv_iadd hx hb dX4_handle_71 ?_
            refine hv_as (x := ((nI q139) + (nI i))) (y := (nI (q139 + i))) (nI_add _ _) ?_
            refine hv_callv (va_runV (As := [.int (nI i), .int (nI (q139 + i))]) (rest := []) ⟨hx, hb, hml, hown, hts⟩ (m_setTimer l D tc hI hi (q := (q139 + i)) (by omega) (by have := rf_lt8 hI0 hi; omega) h4) (cwV 2 hts (tw_V tw_392 tw_393 tw_515 tw_3 tw_394) rfl rfl rfl (by decide +kernel) ⟨Nat.le_of_ble_eq_true rfl, Nat.le_of_ble_eq_true rfl⟩) (hv_preV (ci := 4) hK hT.1 (rs_k0 hS) (by decide) rfl rfl) rfl rfl hl.1 rfl (lv_room (Nat.le_of_ble_eq_true rfl)) dX4_handle_72 ⟨Nat.le_of_ble_eq_true rfl, Nat.le_of_ble_eq_true rfl⟩) hT (fun v140 H locs hp141 hT => ?_)
            have hI := hp141
            have hS := hI.1
            refine lv_goto (tgt := 368) hx hb dX4_handle_75 (by decide) ?_
            exact hret _ v140 _ _ _ _ _ dX4_handle_368 hT ⟨_, _, _, _, rf_up (by have h8 := rf_wt8 κ; omega) hI⟩ (by decide) (by decide)

set_option maxHeartbeats 4000000 in
set_option maxRecDepth 100000 in
theorem m_ring (l : Launch) (D : va_G) (tc : Nat → ClassId) {ra gh : Nat → Nat} {n B t nm : Nat} {st dg F kd : Nat → Nat} {v : hv_V} (hI : rf_J ra gh n 1 B t nm st dg F kd v) {i : Nat} (hi : i < n) (htm : hv_a v (ra 21) i = nI t) (h479 : B < 479500) : Met l yX4_ring (Cond.code yX4_ring cX4_ring 4 none :: lw_B) ({ frames := 5, cells := 0, slots := 0, locals := 116 }) (va_Pc [.ref (ra 0), .int (nI i)] (hv_Pre D tc v)) (va_Qv (fun (v1 : hv_V) => ∃ nm1 st1 dg1 F1 kd1, rf_J ra gh n 1 (B - 1) t nm1 st1 dg1 F1 kd1 v1) (hv_Post D tc (hv_A v)) (hv_A v)) (0) (0) (hv_A v) := by
  refine hv_metv l (by decide) (Nat.le_of_ble_eq_true rfl) ?_
  intro p e s m args below meth c Q X hret hK hz H locs ls hT hl
  obtain ⟨hx, hb, hml, hts, hown, hin0⟩ := X
  have hown : s.vm.findClass "CommitSitesModel" = some m.cls := hown
  have hl : lv_has ls 4 [(0, .ref (ra 0)), (1, .int (nI i))] := hl
  have hS := hI.1
  have hI0 := hI
  have hdg4 := rf_dg4 hI (rf_lt8 hI hi)
  have hst5 := rf_st5 hI (rf_lt8 hI hi)
  have ht4 := rf_t4 hI
  obtain ⟨h4, hF⟩ : st i < 4 ∧ 5 * (F i + 1) ≤ t := by
    rcases rf_tm hI hi with q | ⟨q, x, x1, x2, x3, x4⟩
    · rw [cs_cl (rf_lt8 hI hi), htm] at q
      exact absurd (show nI t < 0 from by rw [q]; decide) (nI_pos (by omega))
    · rw [cs_cl (rf_lt8 hI hi), htm] at x4
      have := (nI_eq (by omega) (by omega)).mp x4
      exact ⟨q, by omega⟩
  have h64 := rf_64 hI (rf_lt8 hI hi) hF
  refine lv_aload_n hx hb dX4_ring_0 rfl (lv_at hl 0 rfl) ?_
  refine hv_gets (ci := 4) (C := RX4) (T := TX4) (N := 34) hx hb hts (tw_cs in_X4) hown hK hT (rs_k0 hS) (by decide) rfl 21 (by decide) (hts _ (tw_c tw_333)) rfl (x := (ra 21)) (rs_p21 hS) dX4_ring_1 ?_
  refine lv_iload_n hx hb dX4_ring_4 rfl (lv_at hl 1 rfl) ?_
  refine lv_iconst (v := (-1)) hx hb dX4_ring_5 (by decide) ?_
  refine hv_iast (x := (-1)) hx hb hK hT (rs_k21 hS) (cs_in8 (rf_lt8 hI0 hi)) dX4_ring_6 (fun H locs hT => ?_)
  obtain ⟨F2, hI⟩ : ∃ F2 : Nat → Nat, rf_J ra gh n 1 (B - 64) t nm st dg F2 kd (hv_sa v (ra 21) ((nI i) : Int32).toNatClampNeg (-1)) := ⟨_, rf_fire hI (rf_lt8 hI0 hi) hF⟩
  have hS := hI.1
  refine lv_aload_n hx hb dX4_ring_7 rfl (lv_at hl 0 rfl) ?_
  refine hv_gets (ci := 4) (C := RX4) (T := TX4) (N := 34) hx hb hts (tw_cs in_X4) hown hK hT (rs_k0 hS) (by decide) rfl 18 (by decide) (hts _ (tw_c tw_330)) rfl (x := (ra 18)) (rs_p18 hS) dX4_ring_8 ?_
  refine lv_iload_n hx hb dX4_ring_11 rfl (lv_at hl 1 rfl) ?_
  refine hv_iald hx hb hK hT (rs_k18 hS) (cs_in8 (rf_lt8 hI0 hi)) dX4_ring_12 ?_
  refine lv_topi (fun g1 eg1 => ?_)
  have eg1 : g1 = nI (dg i) := by rw [eg1]; exact rf_gdg hI (rf_lt8 hI0 hi)
  subst eg1
  refine lv_iconst (v := 1) hx hb dX4_ring_13 (by decide) ?_
  refine lv_icmp_ne (tgt := 26) hx hb dX4_ring_14 (by decide) (fun c14 => ?_) (fun c14 => ?_)
  · skip
    refine lv_aload_n hx hb dX4_ring_26 rfl (lv_at hl 0 rfl) ?_
    refine hv_gets (ci := 4) (C := RX4) (T := TX4) (N := 34) hx hb hts (tw_cs in_X4) hown hK hT (rs_k0 hS) (by decide) rfl 18 (by decide) (hts _ (tw_c tw_330)) rfl (x := (ra 18)) (rs_p18 hS) dX4_ring_27 ?_
    refine lv_iload_n hx hb dX4_ring_30 rfl (lv_at hl 1 rfl) ?_
    refine hv_iald hx hb hK hT (rs_k18 hS) (cs_in8 (rf_lt8 hI0 hi)) dX4_ring_31 ?_
    refine lv_topi (fun g2 eg2 => ?_)
    have eg2 : g2 = nI (dg i) := by rw [eg2]; exact rf_gdg hI (rf_lt8 hI0 hi)
    subst eg2
    refine lv_iconst (v := 3) hx hb dX4_ring_32 (by decide) ?_
    refine lv_icmp_eq (tgt := 44) hx hb dX4_ring_33 (by decide) (fun c33 => ?_) (fun c33 => ?_)
    · skip
      refine lv_iconst (v := 0) hx hb dX4_ring_44 (by decide) ?_
      refine lv_istore_n (lv' := [(2, _), (0, _), (1, _)]) hx hb dX4_ring_45 rfl hl (by decide) rfl (fun ls hl => ?_)
      refine lv_iconst (v := 0) hx hb dX4_ring_46 (by decide) ?_
      refine hv_as (x := 0) (y := (nI 0)) nI_0.symm ?_
      refine lv_istore_n (lv' := [(3, _), (2, _), (0, _), (1, _)]) hx hb dX4_ring_47 rfl hl (by decide) rfl (fun ls hl => ?_)
      have hL48 : ∀ (N9 : Nat) (j : Nat) (x1 : Int32) (H : Heap) (locs : List Loc) (ls : Array Slot), j ≤ n → n < j + N9 → hv_St (hv_A v) s D tc (hv_sa v (ra 21) ((nI i) : Int32).toNatClampNeg (-1)) H locs → lv_has ls 4 [(0, .ref (ra 0)), (1, .int (nI i)), (2, .int x1), (3, .int (nI j))] → W p l e ({ frames := 5, cells := 0, slots := 0, locals := 116 } : Room) s m args below meth c H locs (0) (0) Q (F0 m 48 ls []) := by
        intro N9
        induction N9 with
        | zero =>
          intro j x1 H locs ls hlej hNj hT hl
          exfalso
          omega
        | succ N9 ih48 =>
          intro j x1 H locs ls hlej hNj hT hl
          refine lv_iload_n hx hb dX4_ring_48 rfl (lv_at hl 3 rfl) ?_
          refine lv_aload_n hx hb dX4_ring_49 rfl (lv_at hl 0 rfl) ?_
          refine hv_geti (ci := 4) (C := RX4) (T := TX4) (N := 34) hx hb hts (tw_cs in_X4) hown hK hT (rs_k0 hS) (by decide) rfl 1 (by decide) (hts _ (tw_c tw_313)) rfl dX4_ring_50 ?_
          refine lv_topi (fun g3 eg3 => ?_)
          have eg3 : g3 = (nI n) := by rw [eg3]; exact rf_hn hI
          subst eg3
          refine lv_icmp_ge (tgt := 87) hx hb dX4_ring_53 (by decide) (fun c53 => ?_) (fun c53 => ?_)
          · skip
            refine lv_iload_n hx hb dX4_ring_87 rfl (lv_at hl 2 rfl) ?_
            refine lv_if_eq (tgt := 113) hx hb dX4_ring_88 (by decide) (fun c88 => ?_) (fun c88 => ?_)
            · skip
              refine lv_aload_n hx hb dX4_ring_113 rfl (lv_at hl 0 rfl) ?_
              refine lv_iload_n hx hb dX4_ring_114 rfl (lv_at hl 1 rfl) ?_
              refine lv_iconst (v := 3) hx hb dX4_ring_115 (by decide) ?_
              refine hv_calli (va_runV (As := [.int (nI i), .int 3]) (rest := []) ⟨hx, hb, hml, hown, hts⟩ (m_weightOf l D tc hI hi 3) (cwV 2 hts (tw_V tw_437 tw_438 tw_526 tw_3 tw_439) rfl rfl rfl (by decide +kernel) ⟨Nat.le_of_ble_eq_true rfl, Nat.le_of_ble_eq_true rfl⟩) (hv_preV (ci := 4) hK hT.1 (rs_k0 hS) (by decide) rfl rfl) rfl rfl hl.1 rfl (lv_room (Nat.le_of_ble_eq_true rfl)) dX4_ring_116 ⟨Nat.le_of_ble_eq_true rfl, Nat.le_of_ble_eq_true rfl⟩) hT (fun r6 v4 H locs hp5 hT => ?_)
              rw [hp5] at hT
              refine lv_aload_n hx hb dX4_ring_119 rfl (lv_at hl 0 rfl) ?_
              refine hv_geti (ci := 4) (C := RX4) (T := TX4) (N := 34) hx hb hts (tw_cs in_X4) hown hK hT (rs_k0 hS) (by decide) rfl 4 (by decide) (hts _ (tw_c tw_316)) rfl dX4_ring_120 ?_
              refine lv_topi (fun g7 eg7 => ?_)
              refine lv_icmp_lt (tgt := 135) hx hb dX4_ring_123 (by decide) (fun c123 => ?_) (fun c123 => ?_)
              · skip
                refine lv_aload_n hx hb dX4_ring_135 rfl (lv_at hl 0 rfl) ?_
                refine hv_gets (ci := 4) (C := RX4) (T := TX4) (N := 34) hx hb hts (tw_cs in_X4) hown hK hT (rs_k0 hS) (by decide) rfl 18 (by decide) (hts _ (tw_c tw_330)) rfl (x := (ra 18)) (rs_p18 hS) dX4_ring_136 ?_
                refine lv_iload_n hx hb dX4_ring_139 rfl (lv_at hl 1 rfl) ?_
                refine lv_iconst (v := 0) hx hb dX4_ring_140 (by decide) ?_
                refine hv_iast (x := 0) hx hb hK hT (rs_k18 hS) (cs_in8 (rf_lt8 hI0 hi)) dX4_ring_141 (fun H locs hT => ?_)
                obtain ⟨dg8, hdg8, hI⟩ : ∃ dg2 : Nat → Nat, dg2 i = 0 ∧ rf_J ra gh n 1 (B - 64) t nm st dg2 F2 kd (hv_sa (hv_sa v (ra 21) ((nI i) : Int32).toNatClampNeg (-1)) (ra 18) ((nI i) : Int32).toNatClampNeg 0) := ⟨va_up dg i 0, va_up_self .., rf_does (g := 0) hI (rf_lt8 hI0 hi) (by omega) (fun _ => h4) (fun P hP => rf_lc (by omega) hP)⟩
                have hS := hI.1
                refine lv_aload_n hx hb dX4_ring_142 rfl (lv_at hl 0 rfl) ?_
                refine lv_iload_n hx hb dX4_ring_143 rfl (lv_at hl 1 rfl) ?_
                refine lv_aload_n hx hb dX4_ring_144 rfl (lv_at hl 0 rfl) ?_
                refine hv_geti (ci := 4) (C := RX4) (T := TX4) (N := 34) hx hb hts (tw_cs in_X4) hown hK hT (rs_k0 hS) (by decide) rfl 5 (by decide) (hts _ (tw_c tw_317)) rfl dX4_ring_145 ?_
                refine lv_topi (fun g9 eg9 => ?_)
                obtain ⟨q10, h5q10, h100q10, hq10⟩ := rf_q hI
                have eg9 : g9 = (nI q10) := by rw [eg9]; exact hq10
                subst eg9
                refine lv_iload_n hx hb dX4_ring_148 rfl (lv_at hl 1 rfl) ?_
                refine lv_iadd hx hb dX4_ring_149 ?_
                refine hv_as (x := ((nI q10) + (nI i))) (y := (nI (q10 + i))) (nI_add _ _) ?_
                refine hv_callv (va_runV (As := [.int (nI i), .int (nI (q10 + i))]) (rest := []) ⟨hx, hb, hml, hown, hts⟩ (m_setTimer l D tc hI hi (q := (q10 + i)) (by omega) (by have := rf_lt8 hI0 hi; omega) h4) (cwV 2 hts (tw_V tw_392 tw_393 tw_515 tw_3 tw_394) rfl rfl rfl (by decide +kernel) ⟨Nat.le_of_ble_eq_true rfl, Nat.le_of_ble_eq_true rfl⟩) (hv_preV (ci := 4) hK hT.1 (rs_k0 hS) (by decide) rfl rfl) rfl rfl hl.1 rfl (lv_room (Nat.le_of_ble_eq_true rfl)) dX4_ring_150 ⟨Nat.le_of_ble_eq_true rfl, Nat.le_of_ble_eq_true rfl⟩) hT (fun v11 H locs hp12 hT => ?_)
                have hI := hp12
                have hS := hI.1
                exact hret _ v11 _ _ _ _ _ dX4_ring_153 hT ⟨_, _, _, _, _, rf_up (by omega) hI⟩ (by decide) (by decide)
              · skip
                refine lv_aload_n hx hb dX4_ring_126 rfl (lv_at hl 0 rfl) ?_
                refine lv_iload_n hx hb dX4_ring_127 rfl (lv_at hl 1 rfl) ?_
                refine lv_iconst (v := 3) hx hb dX4_ring_128 (by decide) ?_
                refine hv_callv (va_runV (As := [.int (nI i), .int 3]) (rest := []) ⟨hx, hb, hml, hown, hts⟩ (m_lead l D tc hI hi (sv := 3) (by omega) (by omega) h4 (B2 := B - 1) (Or.inl (by omega)) (by omega)) (cwV 2 hts (tw_V tw_398 tw_399 tw_517 tw_3 tw_400) rfl rfl rfl (by decide +kernel) ⟨Nat.le_of_ble_eq_true rfl, Nat.le_of_ble_eq_true rfl⟩) (hv_preV (ci := 4) hK hT.1 (rs_k0 hS) (by decide) rfl rfl) rfl rfl hl.1 rfl (lv_room (Nat.le_of_ble_eq_true rfl)) dX4_ring_129 ⟨Nat.le_of_ble_eq_true rfl, Nat.le_of_ble_eq_true rfl⟩) hT (fun v13 H locs hp14 hT => ?_)
                obtain ⟨nm15, st16, dg17, kd18, hI⟩ := hp14
                have hS := hI.1
                refine lv_goto (tgt := 153) hx hb dX4_ring_132 (by decide) ?_
                exact hret _ v13 _ _ _ _ _ dX4_ring_153 hT ⟨_, _, _, _, _, rf_up (by omega) hI⟩ (by decide) (by decide)
            · skip
              refine lv_aload_n hx hb dX4_ring_91 rfl (lv_at hl 0 rfl) ?_
              refine lv_iload_n hx hb dX4_ring_92 rfl (lv_at hl 1 rfl) ?_
              refine lv_iconst (v := 2) hx hb dX4_ring_93 (by decide) ?_
              refine hv_calli (va_runV (As := [.int (nI i), .int 2]) (rest := []) ⟨hx, hb, hml, hown, hts⟩ (m_weightOf l D tc hI hi 2) (cwV 2 hts (tw_V tw_437 tw_438 tw_526 tw_3 tw_439) rfl rfl rfl (by decide +kernel) ⟨Nat.le_of_ble_eq_true rfl, Nat.le_of_ble_eq_true rfl⟩) (hv_preV (ci := 4) hK hT.1 (rs_k0 hS) (by decide) rfl rfl) rfl rfl hl.1 rfl (lv_room (Nat.le_of_ble_eq_true rfl)) dX4_ring_94 ⟨Nat.le_of_ble_eq_true rfl, Nat.le_of_ble_eq_true rfl⟩) hT (fun r21 v19 H locs hp20 hT => ?_)
              rw [hp20] at hT
              refine lv_aload_n hx hb dX4_ring_97 rfl (lv_at hl 0 rfl) ?_
              refine hv_geti (ci := 4) (C := RX4) (T := TX4) (N := 34) hx hb hts (tw_cs in_X4) hown hK hT (rs_k0 hS) (by decide) rfl 3 (by decide) (hts _ (tw_c tw_315)) rfl dX4_ring_98 ?_
              refine lv_topi (fun g22 eg22 => ?_)
              refine lv_icmp_lt (tgt := 113) hx hb dX4_ring_101 (by decide) (fun c101 => ?_) (fun c101 => ?_)
              · skip
                refine lv_aload_n hx hb dX4_ring_113 rfl (lv_at hl 0 rfl) ?_
                refine lv_iload_n hx hb dX4_ring_114 rfl (lv_at hl 1 rfl) ?_
                refine lv_iconst (v := 3) hx hb dX4_ring_115 (by decide) ?_
                refine hv_calli (va_runV (As := [.int (nI i), .int 3]) (rest := []) ⟨hx, hb, hml, hown, hts⟩ (m_weightOf l D tc hI hi 3) (cwV 2 hts (tw_V tw_437 tw_438 tw_526 tw_3 tw_439) rfl rfl rfl (by decide +kernel) ⟨Nat.le_of_ble_eq_true rfl, Nat.le_of_ble_eq_true rfl⟩) (hv_preV (ci := 4) hK hT.1 (rs_k0 hS) (by decide) rfl rfl) rfl rfl hl.1 rfl (lv_room (Nat.le_of_ble_eq_true rfl)) dX4_ring_116 ⟨Nat.le_of_ble_eq_true rfl, Nat.le_of_ble_eq_true rfl⟩) hT (fun r25 v23 H locs hp24 hT => ?_)
                rw [hp24] at hT
                refine lv_aload_n hx hb dX4_ring_119 rfl (lv_at hl 0 rfl) ?_
                refine hv_geti (ci := 4) (C := RX4) (T := TX4) (N := 34) hx hb hts (tw_cs in_X4) hown hK hT (rs_k0 hS) (by decide) rfl 4 (by decide) (hts _ (tw_c tw_316)) rfl dX4_ring_120 ?_
                refine lv_topi (fun g26 eg26 => ?_)
                refine lv_icmp_lt (tgt := 135) hx hb dX4_ring_123 (by decide) (fun c123 => ?_) (fun c123 => ?_)
                · skip
                  refine lv_aload_n hx hb dX4_ring_135 rfl (lv_at hl 0 rfl) ?_
                  refine hv_gets (ci := 4) (C := RX4) (T := TX4) (N := 34) hx hb hts (tw_cs in_X4) hown hK hT (rs_k0 hS) (by decide) rfl 18 (by decide) (hts _ (tw_c tw_330)) rfl (x := (ra 18)) (rs_p18 hS) dX4_ring_136 ?_
                  refine lv_iload_n hx hb dX4_ring_139 rfl (lv_at hl 1 rfl) ?_
                  refine lv_iconst (v := 0) hx hb dX4_ring_140 (by decide) ?_
                  refine hv_iast (x := 0) hx hb hK hT (rs_k18 hS) (cs_in8 (rf_lt8 hI0 hi)) dX4_ring_141 (fun H locs hT => ?_)
                  obtain ⟨dg27, hdg27, hI⟩ : ∃ dg2 : Nat → Nat, dg2 i = 0 ∧ rf_J ra gh n 1 (B - 64) t nm st dg2 F2 kd (hv_sa (hv_sa v (ra 21) ((nI i) : Int32).toNatClampNeg (-1)) (ra 18) ((nI i) : Int32).toNatClampNeg 0) := ⟨va_up dg i 0, va_up_self .., rf_does (g := 0) hI (rf_lt8 hI0 hi) (by omega) (fun _ => h4) (fun P hP => rf_lc (by omega) hP)⟩
                  have hS := hI.1
                  refine lv_aload_n hx hb dX4_ring_142 rfl (lv_at hl 0 rfl) ?_
                  refine lv_iload_n hx hb dX4_ring_143 rfl (lv_at hl 1 rfl) ?_
                  refine lv_aload_n hx hb dX4_ring_144 rfl (lv_at hl 0 rfl) ?_
                  refine hv_geti (ci := 4) (C := RX4) (T := TX4) (N := 34) hx hb hts (tw_cs in_X4) hown hK hT (rs_k0 hS) (by decide) rfl 5 (by decide) (hts _ (tw_c tw_317)) rfl dX4_ring_145 ?_
                  refine lv_topi (fun g28 eg28 => ?_)
                  obtain ⟨q29, h5q29, h100q29, hq29⟩ := rf_q hI
                  have eg28 : g28 = (nI q29) := by rw [eg28]; exact hq29
                  subst eg28
                  refine lv_iload_n hx hb dX4_ring_148 rfl (lv_at hl 1 rfl) ?_
                  refine lv_iadd hx hb dX4_ring_149 ?_
                  refine hv_as (x := ((nI q29) + (nI i))) (y := (nI (q29 + i))) (nI_add _ _) ?_
                  refine hv_callv (va_runV (As := [.int (nI i), .int (nI (q29 + i))]) (rest := []) ⟨hx, hb, hml, hown, hts⟩ (m_setTimer l D tc hI hi (q := (q29 + i)) (by omega) (by have := rf_lt8 hI0 hi; omega) h4) (cwV 2 hts (tw_V tw_392 tw_393 tw_515 tw_3 tw_394) rfl rfl rfl (by decide +kernel) ⟨Nat.le_of_ble_eq_true rfl, Nat.le_of_ble_eq_true rfl⟩) (hv_preV (ci := 4) hK hT.1 (rs_k0 hS) (by decide) rfl rfl) rfl rfl hl.1 rfl (lv_room (Nat.le_of_ble_eq_true rfl)) dX4_ring_150 ⟨Nat.le_of_ble_eq_true rfl, Nat.le_of_ble_eq_true rfl⟩) hT (fun v30 H locs hp31 hT => ?_)
                  have hI := hp31
                  have hS := hI.1
                  exact hret _ v30 _ _ _ _ _ dX4_ring_153 hT ⟨_, _, _, _, _, rf_up (by omega) hI⟩ (by decide) (by decide)
                · skip
                  refine lv_aload_n hx hb dX4_ring_126 rfl (lv_at hl 0 rfl) ?_
                  refine lv_iload_n hx hb dX4_ring_127 rfl (lv_at hl 1 rfl) ?_
                  refine lv_iconst (v := 3) hx hb dX4_ring_128 (by decide) ?_
                  refine hv_callv (va_runV (As := [.int (nI i), .int 3]) (rest := []) ⟨hx, hb, hml, hown, hts⟩ (m_lead l D tc hI hi (sv := 3) (by omega) (by omega) h4 (B2 := B - 1) (Or.inl (by omega)) (by omega)) (cwV 2 hts (tw_V tw_398 tw_399 tw_517 tw_3 tw_400) rfl rfl rfl (by decide +kernel) ⟨Nat.le_of_ble_eq_true rfl, Nat.le_of_ble_eq_true rfl⟩) (hv_preV (ci := 4) hK hT.1 (rs_k0 hS) (by decide) rfl rfl) rfl rfl hl.1 rfl (lv_room (Nat.le_of_ble_eq_true rfl)) dX4_ring_129 ⟨Nat.le_of_ble_eq_true rfl, Nat.le_of_ble_eq_true rfl⟩) hT (fun v32 H locs hp33 hT => ?_)
                  obtain ⟨nm34, st35, dg36, kd37, hI⟩ := hp33
                  have hS := hI.1
                  refine lv_goto (tgt := 153) hx hb dX4_ring_132 (by decide) ?_
                  exact hret _ v32 _ _ _ _ _ dX4_ring_153 hT ⟨_, _, _, _, _, rf_up (by omega) hI⟩ (by decide) (by decide)
              · skip
                refine lv_aload_n hx hb dX4_ring_104 rfl (lv_at hl 0 rfl) ?_
                refine lv_iload_n hx hb dX4_ring_105 rfl (lv_at hl 1 rfl) ?_
                refine lv_iconst (v := 2) hx hb dX4_ring_106 (by decide) ?_
                refine hv_callv (va_runV (As := [.int (nI i), .int 2]) (rest := []) ⟨hx, hb, hml, hown, hts⟩ (m_lead l D tc hI hi (sv := 2) (by omega) (by omega) h4 (B2 := B - 1) (Or.inl (by omega)) (by omega)) (cwV 2 hts (tw_V tw_398 tw_399 tw_517 tw_3 tw_400) rfl rfl rfl (by decide +kernel) ⟨Nat.le_of_ble_eq_true rfl, Nat.le_of_ble_eq_true rfl⟩) (hv_preV (ci := 4) hK hT.1 (rs_k0 hS) (by decide) rfl rfl) rfl rfl hl.1 rfl (lv_room (Nat.le_of_ble_eq_true rfl)) dX4_ring_107 ⟨Nat.le_of_ble_eq_true rfl, Nat.le_of_ble_eq_true rfl⟩) hT (fun v38 H locs hp39 hT => ?_)
                obtain ⟨nm40, st41, dg42, kd43, hI⟩ := hp39
                have hS := hI.1
                refine lv_goto (tgt := 153) hx hb dX4_ring_110 (by decide) ?_
                exact hret _ v38 _ _ _ _ _ dX4_ring_153 hT ⟨_, _, _, _, _, rf_up (by omega) hI⟩ (by decide) (by decide)
          · skip
            have hltj : j < n := cs_lp hlej (rf_n8 hI0) c53
            refine lv_iload_n hx hb dX4_ring_56 rfl (lv_at hl 2 rfl) ?_
            refine lv_if_ne (tgt := 75) hx hb dX4_ring_57 (by decide) (fun c57 => ?_) (fun c57 => ?_)
            · skip
              refine lv_iconst (v := 1) hx hb dX4_ring_75 (by decide) ?_
              refine lv_goto (tgt := 80) hx hb dX4_ring_76 (by decide) ?_
              refine lv_istore_n (lv' := [(2, _), (0, _), (1, _), (3, _)]) hx hb dX4_ring_80 rfl hl (by decide) rfl (fun ls hl => ?_)
              refine lv_iinc (v := (nI (j + 1))) (lv' := [(3, _), (2, _), (0, _), (1, _)]) hx hb dX4_ring_81 hl (k := 3) rfl (nI_1 _) (by decide) rfl (fun ls hl => ?_)
              refine lv_goto (tgt := 48) hx hb dX4_ring_84 (by decide) ?_
              exact ih48 (j + 1) 1 H locs ls (by omega) (by omega) hT (lv_sub hl [2, 3, 1, 0] rfl)
            · skip
              refine lv_aload_n hx hb dX4_ring_60 rfl (lv_at hl 0 rfl) ?_
              refine hv_gets (ci := 4) (C := RX4) (T := TX4) (N := 34) hx hb hts (tw_cs in_X4) hown hK hT (rs_k0 hS) (by decide) rfl 20 (by decide) (hts _ (tw_c tw_332)) rfl (x := (ra 20)) (rs_p20 hS) dX4_ring_61 ?_
              refine lv_bipush (v := 8) hx hb dX4_ring_64 (by decide) ?_
              refine lv_iload_n hx hb dX4_ring_66 rfl (lv_at hl 1 rfl) ?_
              refine lv_imul hx hb dX4_ring_67 ?_
              refine hv_as (x := (8 * (nI i))) (y := (nI (8 * i))) (nI_8 _) ?_
              refine lv_iload_n hx hb dX4_ring_68 rfl (lv_at hl 3 rfl) ?_
              refine lv_iadd hx hb dX4_ring_69 ?_
              refine hv_as (x := ((nI (8 * i)) + (nI j))) (y := (nI ((8 * i) + j))) (nI_add _ _) ?_
              refine hv_iald hx hb hK hT (rs_k20 hS) (rf_in64 (rf_lt8 hI0 hi) (rf_lt8 hI0 hltj)) dX4_ring_70 ?_
              refine lv_topi (fun g44 eg44 => ?_)
              refine lv_iconst (v := 3) hx hb dX4_ring_71 (by decide) ?_
              refine lv_icmp_ne (tgt := 79) hx hb dX4_ring_72 (by decide) (fun c72 => ?_) (fun c72 => ?_)
              · skip
                refine lv_iconst (v := 0) hx hb dX4_ring_79 (by decide) ?_
                refine lv_istore_n (lv' := [(2, _), (0, _), (1, _), (3, _)]) hx hb dX4_ring_80 rfl hl (by decide) rfl (fun ls hl => ?_)
                refine lv_iinc (v := (nI (j + 1))) (lv' := [(3, _), (2, _), (0, _), (1, _)]) hx hb dX4_ring_81 hl (k := 3) rfl (nI_1 _) (by decide) rfl (fun ls hl => ?_)
                refine lv_goto (tgt := 48) hx hb dX4_ring_84 (by decide) ?_
                exact ih48 (j + 1) 0 H locs ls (by omega) (by omega) hT (lv_sub hl [2, 3, 1, 0] rfl)
              · skip
                refine lv_iconst (v := 1) hx hb dX4_ring_75 (by decide) ?_
                refine lv_goto (tgt := 80) hx hb dX4_ring_76 (by decide) ?_
                refine lv_istore_n (lv' := [(2, _), (0, _), (1, _), (3, _)]) hx hb dX4_ring_80 rfl hl (by decide) rfl (fun ls hl => ?_)
                refine lv_iinc (v := (nI (j + 1))) (lv' := [(3, _), (2, _), (0, _), (1, _)]) hx hb dX4_ring_81 hl (k := 3) rfl (nI_1 _) (by decide) rfl (fun ls hl => ?_)
                refine lv_goto (tgt := 48) hx hb dX4_ring_84 (by decide) ?_
                exact ih48 (j + 1) 1 H locs ls (by omega) (by omega) hT (lv_sub hl [2, 3, 1, 0] rfl)
      exact hL48 (n + 1) 0 0 H locs ls (Nat.zero_le _) (by omega) hT (lv_sub hl [2, 3, 1, 0] rfl)
    · skip
      refine lv_aload_n hx hb dX4_ring_36 rfl (lv_at hl 0 rfl) ?_
      refine lv_iload_n hx hb dX4_ring_37 rfl (lv_at hl 1 rfl) ?_
      refine hv_callv (va_runV (As := [.int (nI i)]) (rest := []) ⟨hx, hb, hml, hown, hts⟩ (m_attempt l D tc hI hi h4 (by omega)) (cwV 1 hts (tw_V tw_418 tw_419 tw_521 tw_3 tw_420) rfl rfl rfl (by decide +kernel) ⟨Nat.le_of_ble_eq_true rfl, Nat.le_of_ble_eq_true rfl⟩) (hv_preV (ci := 4) hK hT.1 (rs_k0 hS) (by decide) rfl rfl) rfl rfl hl.1 rfl (lv_room (Nat.le_of_ble_eq_true rfl)) dX4_ring_38 ⟨Nat.le_of_ble_eq_true rfl, Nat.le_of_ble_eq_true rfl⟩) hT (fun v45 H locs hp46 hT => ?_)
      obtain ⟨nm47, dg48, kd49, hI⟩ := hp46
      have hS := hI.1
      refine lv_goto (tgt := 153) hx hb dX4_ring_41 (by decide) ?_
      exact hret _ v45 _ _ _ _ _ dX4_ring_153 hT ⟨_, _, _, _, _, rf_up (by omega) hI⟩ (by decide) (by decide)
  · skip
    refine lv_aload_n hx hb dX4_ring_17 rfl (lv_at hl 0 rfl) ?_
    refine lv_iload_n hx hb dX4_ring_18 rfl (lv_at hl 1 rfl) ?_
    refine lv_iconst (v := 5) hx hb dX4_ring_19 (by decide) ?_
    refine hv_callv (va_runV (As := [.int (nI i), .int 5]) (rest := []) ⟨hx, hb, hml, hown, hts⟩ (m_decide l D tc hI hi (by omega) (sv := 5) (by omega) (by omega) h4) (cwV 2 hts (tw_V tw_377 tw_378 tw_510 tw_3 tw_379) rfl rfl rfl (by decide +kernel) ⟨Nat.le_of_ble_eq_true rfl, Nat.le_of_ble_eq_true rfl⟩) (hv_preV (ci := 4) hK hT.1 (rs_k0 hS) (by decide) rfl rfl) rfl rfl hl.1 rfl (lv_room (Nat.le_of_ble_eq_true rfl)) dX4_ring_20 ⟨Nat.le_of_ble_eq_true rfl, Nat.le_of_ble_eq_true rfl⟩) hT (fun v50 H locs hp51 hT => ?_)
    obtain ⟨nm52, st53, dg54, kd55, hI⟩ := hp51
    have hS := hI.1
    refine lv_goto (tgt := 153) hx hb dX4_ring_23 (by decide) ?_
    exact hret _ v50 _ _ _ _ _ dX4_ring_153 hT ⟨_, _, _, _, _, rf_up (by omega) hI⟩ (by decide) (by decide)
