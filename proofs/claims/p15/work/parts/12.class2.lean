theorem cs_lp {i n : Nat} (hi : i ≤ n) (hn : n ≤ 8) (h : ¬ nI n ≤ nI i) : i < n := by
  rcases Nat.lt_or_ge i n with q | q
  · exact q
  · exact absurd (nI_le q (by omega)) h

set_option maxHeartbeats 4000000 in
set_option maxRecDepth 100000 in
theorem c_hasQuorum (l : Launch) (D : va_G) (tc : Nat → ClassId) {fa : Nat → Nat} {n : Nat} {v : hv_V} (hS : cs_S fa n v) (hn : hv_i v 303 (fa 0) = nI n) {i0 : Nat} (hi0 : i0 < n) : Met l yX3_hasQuorum (Cond.code yX3_hasQuorum cX3_hasQuorum 4 (some .boolean) :: lw_B) ({ frames := 1, cells := 0, slots := 0, locals := 21 }) (va_Pc [.ref (fa 0), .ref (fa (16 + i0))] (hv_Pre D tc v)) (va_Qi (fun (r : Int32) (v1 : hv_V) => v1 = v) (hv_Post D tc (hv_A v)) (hv_A v)) (0) (0) (hv_A v) := by
  refine hv_meti l (by decide) (Nat.le_of_ble_eq_true rfl) ?_
  intro p e s m args below meth c Q X hret hK hz H locs ls hT hl
  obtain ⟨hx, hb, hml, hts, hown, hin0⟩ := X
  have hown : s.vm.findClass "CommitSites" = some m.cls := hown
  have hl : lv_has ls 4 [(0, .ref (fa 0)), (1, .ref (fa (16 + i0)))] := hl
  refine lv_iconst (v := 0) hx hb dX3_hasQuorum_0 (by decide) ?_
  refine lv_istore_n (lv' := [(2, _), (0, _), (1, _)]) hx hb dX3_hasQuorum_1 rfl hl (by decide) rfl (fun ls hl => ?_)
  refine lv_iconst (v := 0) hx hb dX3_hasQuorum_2 (by decide) ?_
  refine hv_as (x := 0) (y := (nI 0)) nI_0.symm ?_
  refine lv_istore_n (lv' := [(3, _), (2, _), (0, _), (1, _)]) hx hb dX3_hasQuorum_3 rfl hl (by decide) rfl (fun ls hl => ?_)
  have hL4 : ∀ (N9 : Nat) (i : Nat) (x2 : Int32) (H : Heap) (locs : List Loc) (ls : Array Slot), i ≤ n → n < i + N9 → hv_St (hv_A v) s D tc v H locs → lv_has ls 4 [(0, .ref (fa 0)), (1, .ref (fa (16 + i0))), (2, .int x2), (3, .int (nI i))] → W p l e ({ frames := 1, cells := 0, slots := 0, locals := 21 } : Room) s m args below meth c H locs (0) (0) Q (F0 m 4 ls []) := by
    intro N9
    induction N9 with
    | zero =>
      intro i x2 H locs ls hlei hNi hT hl
      exfalso
      omega
    | succ N9 ih4 =>
      intro i x2 H locs ls hlei hNi hT hl
      refine lv_iload_n hx hb dX3_hasQuorum_4 rfl (lv_at hl 3 rfl) ?_
      refine lv_aload_n hx hb dX3_hasQuorum_5 rfl (lv_at hl 0 rfl) ?_
      refine hv_geti (ci := 3) (C := RX3) (T := TX3) (N := 12) hx hb hts (tw_cs in_X3) hown hK hT (cs_kX hS) (by decide) rfl 3 (by decide) (hts _ (tw_c tw_50)) rfl dX3_hasQuorum_6 ?_
      refine lv_topi (fun g1 eg1 => ?_)
      refine lv_icmp_ge (tgt := 41) hx hb dX3_hasQuorum_9 (by decide) (fun c9 => ?_) (fun c9 => ?_)
      · skip
        refine lv_iload_n hx hb dX3_hasQuorum_41 rfl (lv_at hl 2 rfl) ?_
        refine lv_aload_n hx hb dX3_hasQuorum_42 rfl (lv_at hl 1 rfl) ?_
        refine hv_geti (ci := 2) (C := RX2) (T := TX2) (N := 10) hx hb hts (tw_cs in_X2) hown hK hT (cs_ks hS hi0) (by decide) rfl 6 (by decide) (hts _ (tw_c tw_85)) rfl dX3_hasQuorum_43 ?_
        refine lv_topi (fun g2 eg2 => ?_)
        refine lv_iconst (v := 2) hx hb dX3_hasQuorum_46 (by decide) ?_
        refine lv_icmp_ne (tgt := 57) hx hb dX3_hasQuorum_47 (by decide) (fun c47 => ?_) (fun c47 => ?_)
        · skip
          refine lv_aload_n hx hb dX3_hasQuorum_57 rfl (lv_at hl 0 rfl) ?_
          refine hv_geti (ci := 3) (C := RX3) (T := TX3) (N := 12) hx hb hts (tw_cs in_X3) hown hK hT (cs_kX hS) (by decide) rfl 6 (by decide) (hts _ (tw_c tw_53)) rfl dX3_hasQuorum_58 ?_
          refine lv_topi (fun g3 eg3 => ?_)
          refine lv_icmp_lt (tgt := 68) hx hb dX3_hasQuorum_61 (by decide) (fun c61 => ?_) (fun c61 => ?_)
          · skip
            refine lv_iconst (v := 0) hx hb dX3_hasQuorum_68 (by decide) ?_
            exact hret _ 0 v _ _ _ _ _ dX3_hasQuorum_69 rfl hT rfl (by decide) (by decide)
          · skip
            refine lv_iconst (v := 1) hx hb dX3_hasQuorum_64 (by decide) ?_
            refine lv_goto (tgt := 69) hx hb dX3_hasQuorum_65 (by decide) ?_
            exact hret _ 1 v _ _ _ _ _ dX3_hasQuorum_69 rfl hT rfl (by decide) (by decide)
        · skip
          refine lv_aload_n hx hb dX3_hasQuorum_50 rfl (lv_at hl 0 rfl) ?_
          refine hv_geti (ci := 3) (C := RX3) (T := TX3) (N := 12) hx hb hts (tw_cs in_X3) hown hK hT (cs_kX hS) (by decide) rfl 5 (by decide) (hts _ (tw_c tw_52)) rfl dX3_hasQuorum_51 ?_
          refine lv_topi (fun g4 eg4 => ?_)
          refine lv_goto (tgt := 61) hx hb dX3_hasQuorum_54 (by decide) ?_
          refine lv_icmp_lt (tgt := 68) hx hb dX3_hasQuorum_61 (by decide) (fun c61 => ?_) (fun c61 => ?_)
          · skip
            refine lv_iconst (v := 0) hx hb dX3_hasQuorum_68 (by decide) ?_
            exact hret _ 0 v _ _ _ _ _ dX3_hasQuorum_69 rfl hT rfl (by decide) (by decide)
          · skip
            refine lv_iconst (v := 1) hx hb dX3_hasQuorum_64 (by decide) ?_
            refine lv_goto (tgt := 69) hx hb dX3_hasQuorum_65 (by decide) ?_
            exact hret _ 1 v _ _ _ _ _ dX3_hasQuorum_69 rfl hT rfl (by decide) (by decide)
      · skip
        have hlti : i < n := cs_lp hlei (cs_n8 hS) (by rw [← hn, ← eg1]; exact c9)
        refine lv_aload_n hx hb dX3_hasQuorum_12 rfl (lv_at hl 1 rfl) ?_
        refine hv_geti (ci := 2) (C := RX2) (T := TX2) (N := 10) hx hb hts (tw_cs in_X2) hown hK hT (cs_ks hS hi0) (by decide) rfl 2 (by decide) (hts _ (tw_c tw_77)) rfl dX3_hasQuorum_13 ?_
        refine lv_topi (fun g5 eg5 => ?_)
        refine lv_iload_n hx hb dX3_hasQuorum_16 rfl (lv_at hl 3 rfl) ?_
        refine hv_calli (va_runS (As := [.int g5, .int (nI i)]) (rest := []) ⟨hx, hb, hml, hown, hts⟩ (c_hasBit l D tc g5 (nI i)) (va_cwS 2 hts (tw_S tw_110 tw_111 tw_1 tw_112) rfl rfl rfl (by decide +kernel) ⟨Nat.le_of_ble_eq_true rfl, Nat.le_of_ble_eq_true rfl⟩) (hv_preS hK hT.1) rfl rfl hl.1 rfl (lv_room (Nat.le_of_ble_eq_true rfl)) dX3_hasQuorum_17 ⟨Nat.le_of_ble_eq_true rfl, Nat.le_of_ble_eq_true rfl⟩) hT (fun r8 v6 H locs hp7 hT => ?_)
        obtain ⟨evhp7, qhp7⟩ := hp7
        rw [evhp7] at hT
        refine lv_if_eq (tgt := 35) hx hb dX3_hasQuorum_20 (by decide) (fun c20 => ?_) (fun c20 => ?_)
        · skip
          refine lv_iinc (v := (nI (i + 1))) (lv' := [(3, _), (0, _), (1, _), (2, _)]) hx hb dX3_hasQuorum_35 hl (k := 3) rfl (nI_1 _) (by decide) rfl (fun ls hl => ?_)
          refine lv_goto (tgt := 4) hx hb dX3_hasQuorum_38 (by decide) ?_
          exact ih4 (i + 1) x2 H locs ls (by omega) (by omega) hT (lv_sub hl [1, 2, 3, 0] rfl)
        · skip
          refine lv_iload_n hx hb dX3_hasQuorum_23 rfl (lv_at hl 2 rfl) ?_
          refine lv_aload_n hx hb dX3_hasQuorum_24 rfl (lv_at hl 0 rfl) ?_
          refine hv_gets (ci := 3) (C := RX3) (T := TX3) (N := 12) hx hb hts (tw_cs in_X3) hown hK hT (cs_kX hS) (by decide) rfl 0 (by decide) (hts _ (tw_c tw_47)) rfl (x := (fa 1)) (cs_pS hS) dX3_hasQuorum_25 ?_
          refine lv_iload_n hx hb dX3_hasQuorum_28 rfl (lv_at hl 3 rfl) ?_
          refine hv_alds (t := 0) hx hb hK hT (cs_kS hS) rfl rfl (cs_in8 (cs_lt8 hS hlti)) (x := (fa (16 + i))) (cs_qS hS hlti) dX3_hasQuorum_29 ?_
          refine hv_geti (ci := 2) (C := RX2) (T := TX2) (N := 10) hx hb hts (tw_cs in_X2) hown hK hT (cs_ks hS hlti) (by decide) rfl 0 (by decide) (hts _ (tw_c tw_73)) rfl dX3_hasQuorum_30 ?_
          refine lv_topi (fun g9 eg9 => ?_)
          refine lv_iadd hx hb dX3_hasQuorum_33 ?_
          refine lv_istore_n (lv' := [(2, _), (0, _), (1, _), (3, _)]) hx hb dX3_hasQuorum_34 rfl hl (by decide) rfl (fun ls hl => ?_)
          refine lv_iinc (v := (nI (i + 1))) (lv' := [(3, _), (2, _), (0, _), (1, _)]) hx hb dX3_hasQuorum_35 hl (k := 3) rfl (nI_1 _) (by decide) rfl (fun ls hl => ?_)
          refine lv_goto (tgt := 4) hx hb dX3_hasQuorum_38 (by decide) ?_
          exact ih4 (i + 1) (x2 + g9) H locs ls (by omega) (by omega) hT (lv_sub hl [2, 3, 1, 0] rfl)
  exact hL4 (n + 1) 0 0 H locs ls (Nat.zero_le _) (by omega) hT (lv_sub hl [2, 3, 1, 0] rfl)

set_option maxHeartbeats 4000000 in
set_option maxRecDepth 100000 in
theorem c_toldWeight (l : Launch) (D : va_G) (tc : Nat → ClassId) {fa : Nat → Nat} {n : Nat} {v : hv_V} (hS : cs_S fa n v) (hn : hv_i v 303 (fa 0) = nI n) {i0 : Nat} (hi0 : i0 < n) (y : Int32) : Met l yX3_toldWeight (Cond.code yX3_toldWeight cX3_toldWeight 5 (some .int) :: lw_B) ({ frames := 1, cells := 0, slots := 0, locals := 21 }) (va_Pc [.ref (fa 0), .ref (fa (16 + i0)), .int y] (hv_Pre D tc v)) (va_Qi (fun (r : Int32) (v1 : hv_V) => v1 = v) (hv_Post D tc (hv_A v)) (hv_A v)) (0) (0) (hv_A v) := by
  refine hv_meti l (by decide) (Nat.le_of_ble_eq_true rfl) ?_
  intro p e s m args below meth c Q X hret hK hz H locs ls hT hl
  obtain ⟨hx, hb, hml, hts, hown, hin0⟩ := X
  have hown : s.vm.findClass "CommitSites" = some m.cls := hown
  have hl : lv_has ls 5 [(0, .ref (fa 0)), (1, .ref (fa (16 + i0))), (2, .int y)] := hl
  refine lv_iconst (v := 0) hx hb dX3_toldWeight_0 (by decide) ?_
  refine lv_istore_n (lv' := [(3, _), (0, _), (1, _), (2, _)]) hx hb dX3_toldWeight_1 rfl hl (by decide) rfl (fun ls hl => ?_)
  refine lv_iconst (v := 0) hx hb dX3_toldWeight_2 (by decide) ?_
  refine hv_as (x := 0) (y := (nI 0)) nI_0.symm ?_
  refine lv_istore (lv' := [(4, _), (3, _), (0, _), (1, _), (2, _)]) hx hb dX3_toldWeight_3 hl (by decide) rfl (fun ls hl => ?_)
  have hL5 : ∀ (N9 : Nat) (i : Nat) (x3 : Int32) (H : Heap) (locs : List Loc) (ls : Array Slot), i ≤ n → n < i + N9 → hv_St (hv_A v) s D tc v H locs → lv_has ls 5 [(0, .ref (fa 0)), (1, .ref (fa (16 + i0))), (2, .int y), (3, .int x3), (4, .int (nI i))] → W p l e ({ frames := 1, cells := 0, slots := 0, locals := 21 } : Room) s m args below meth c H locs (0) (0) Q (F0 m 5 ls []) := by
    intro N9
    induction N9 with
    | zero =>
      intro i x3 H locs ls hlei hNi hT hl
      exfalso
      omega
    | succ N9 ih5 =>
      intro i x3 H locs ls hlei hNi hT hl
      refine lv_iload hx hb dX3_toldWeight_5 (lv_at hl 4 rfl) ?_
      refine lv_aload_n hx hb dX3_toldWeight_7 rfl (lv_at hl 0 rfl) ?_
      refine hv_geti (ci := 3) (C := RX3) (T := TX3) (N := 12) hx hb hts (tw_cs in_X3) hown hK hT (cs_kX hS) (by decide) rfl 3 (by decide) (hts _ (tw_c tw_50)) rfl dX3_toldWeight_8 ?_
      refine lv_topi (fun g1 eg1 => ?_)
      refine lv_icmp_ge (tgt := 56) hx hb dX3_toldWeight_11 (by decide) (fun c11 => ?_) (fun c11 => ?_)
      · skip
        refine lv_iload_n hx hb dX3_toldWeight_56 rfl (lv_at hl 3 rfl) ?_
        exact hret _ x3 v _ _ _ _ _ dX3_toldWeight_57 rfl hT rfl (by decide) (by decide)
      · skip
        have hlti : i < n := cs_lp hlei (cs_n8 hS) (by rw [← hn, ← eg1]; exact c11)
        refine lv_aload_n hx hb dX3_toldWeight_14 rfl (lv_at hl 1 rfl) ?_
        refine hv_geti (ci := 2) (C := RX2) (T := TX2) (N := 10) hx hb hts (tw_cs in_X2) hown hK hT (cs_ks hS hi0) (by decide) rfl 2 (by decide) (hts _ (tw_c tw_77)) rfl dX3_toldWeight_15 ?_
        refine lv_topi (fun g2 eg2 => ?_)
        refine lv_iload hx hb dX3_toldWeight_18 (lv_at hl 4 rfl) ?_
        refine hv_calli (va_runS (As := [.int g2, .int (nI i)]) (rest := []) ⟨hx, hb, hml, hown, hts⟩ (c_hasBit l D tc g2 (nI i)) (va_cwS 2 hts (tw_S tw_110 tw_111 tw_1 tw_112) rfl rfl rfl (by decide +kernel) ⟨Nat.le_of_ble_eq_true rfl, Nat.le_of_ble_eq_true rfl⟩) (hv_preS hK hT.1) rfl rfl hl.1 rfl (lv_room (Nat.le_of_ble_eq_true rfl)) dX3_toldWeight_20 ⟨Nat.le_of_ble_eq_true rfl, Nat.le_of_ble_eq_true rfl⟩) hT (fun r5 v3 H locs hp4 hT => ?_)
        obtain ⟨evhp4, qhp4⟩ := hp4
        rw [evhp4] at hT
        refine lv_if_eq (tgt := 50) hx hb dX3_toldWeight_23 (by decide) (fun c23 => ?_) (fun c23 => ?_)
        · skip
          refine lv_iinc (v := (nI (i + 1))) (lv' := [(4, _), (0, _), (1, _), (2, _), (3, _)]) hx hb dX3_toldWeight_50 hl (k := 4) rfl (nI_1 _) (by decide) rfl (fun ls hl => ?_)
          refine lv_goto (tgt := 5) hx hb dX3_toldWeight_53 (by decide) ?_
          exact ih5 (i + 1) x3 H locs ls (by omega) (by omega) hT (lv_sub hl [1, 2, 3, 4, 0] rfl)
        · skip
          refine lv_aload_n hx hb dX3_toldWeight_26 rfl (lv_at hl 1 rfl) ?_
          refine hv_gets (ci := 2) (C := RX2) (T := TX2) (N := 10) hx hb hts (tw_cs in_X2) hown hK hT (cs_ks hS hi0) (by decide) rfl 1 (by decide) (hts _ (tw_c tw_75)) rfl (x := (fa (24 + i0))) (cs_po hS hi0) dX3_toldWeight_27 ?_
          refine lv_iload hx hb dX3_toldWeight_30 (lv_at hl 4 rfl) ?_
          refine hv_iald hx hb hK hT (cs_ko hS hi0) (cs_in8 (cs_lt8 hS hlti)) dX3_toldWeight_32 ?_
          refine lv_topi (fun g6 eg6 => ?_)
          refine lv_iload_n hx hb dX3_toldWeight_33 rfl (lv_at hl 2 rfl) ?_
          refine lv_icmp_ne (tgt := 50) hx hb dX3_toldWeight_34 (by decide) (fun c34 => ?_) (fun c34 => ?_)
          · skip
            refine lv_iinc (v := (nI (i + 1))) (lv' := [(4, _), (0, _), (1, _), (2, _), (3, _)]) hx hb dX3_toldWeight_50 hl (k := 4) rfl (nI_1 _) (by decide) rfl (fun ls hl => ?_)
            refine lv_goto (tgt := 5) hx hb dX3_toldWeight_53 (by decide) ?_
            exact ih5 (i + 1) x3 H locs ls (by omega) (by omega) hT (lv_sub hl [1, 2, 3, 4, 0] rfl)
          · skip
            refine lv_iload_n hx hb dX3_toldWeight_37 rfl (lv_at hl 3 rfl) ?_
            refine lv_aload_n hx hb dX3_toldWeight_38 rfl (lv_at hl 0 rfl) ?_
            refine hv_gets (ci := 3) (C := RX3) (T := TX3) (N := 12) hx hb hts (tw_cs in_X3) hown hK hT (cs_kX hS) (by decide) rfl 0 (by decide) (hts _ (tw_c tw_47)) rfl (x := (fa 1)) (cs_pS hS) dX3_toldWeight_39 ?_
            refine lv_iload hx hb dX3_toldWeight_42 (lv_at hl 4 rfl) ?_
            refine hv_alds (t := 0) hx hb hK hT (cs_kS hS) rfl rfl (cs_in8 (cs_lt8 hS hlti)) (x := (fa (16 + i))) (cs_qS hS hlti) dX3_toldWeight_44 ?_
            refine hv_geti (ci := 2) (C := RX2) (T := TX2) (N := 10) hx hb hts (tw_cs in_X2) hown hK hT (cs_ks hS hlti) (by decide) rfl 0 (by decide) (hts _ (tw_c tw_73)) rfl dX3_toldWeight_45 ?_
            refine lv_topi (fun g7 eg7 => ?_)
            refine lv_iadd hx hb dX3_toldWeight_48 ?_
            refine lv_istore_n (lv' := [(3, _), (0, _), (1, _), (2, _), (4, _)]) hx hb dX3_toldWeight_49 rfl hl (by decide) rfl (fun ls hl => ?_)
            refine lv_iinc (v := (nI (i + 1))) (lv' := [(4, _), (3, _), (0, _), (1, _), (2, _)]) hx hb dX3_toldWeight_50 hl (k := 4) rfl (nI_1 _) (by decide) rfl (fun ls hl => ?_)
            refine lv_goto (tgt := 5) hx hb dX3_toldWeight_53 (by decide) ?_
            exact ih5 (i + 1) (x3 + g7) H locs ls (by omega) (by omega) hT (lv_sub hl [2, 3, 4, 1, 0] rfl)
  exact hL5 (n + 1) 0 0 H locs ls (Nat.zero_le _) (by omega) hT (lv_sub hl [2, 3, 4, 1, 0] rfl)

set_option maxHeartbeats 4000000 in
set_option maxRecDepth 100000 in
theorem c_firstTimer (l : Launch) (D : va_G) (tc : Nat → ClassId) {fa : Nat → Nat} {n : Nat} {v : hv_V} (hS : cs_S fa n v) (hn : hv_i v 303 (fa 0) = nI n) : Met l yX3_firstTimer (Cond.code yX3_firstTimer cX3_firstTimer 3 (some .int) :: lw_B) ({ frames := 1, cells := 0, slots := 0, locals := 21 }) (va_Pc [.ref (fa 0)] (hv_Pre D tc v)) (va_Qi (fun (r : Int32) (v1 : hv_V) => v1 = v ∧ (r = -1 ∨ ∃ j, j < n ∧ r = nI j ∧ ¬ hv_i v 208 (fa (16 + j)) = -1)) (hv_Post D tc (hv_A v)) (hv_A v)) (0) (0) (hv_A v) := by
  refine hv_meti l (by decide) (Nat.le_of_ble_eq_true rfl) ?_
  intro p e s m args below meth c Q X hret hK hz H locs ls hT hl
  obtain ⟨hx, hb, hml, hts, hown, hin0⟩ := X
  have hown : s.vm.findClass "CommitSites" = some m.cls := hown
  have hl : lv_has ls 3 [(0, .ref (fa 0))] := hl
  refine lv_iconst (v := (-1)) hx hb dX3_firstTimer_0 (by decide) ?_
  refine lv_istore_n (lv' := [(1, _), (0, _)]) hx hb dX3_firstTimer_1 rfl hl (by decide) rfl (fun ls hl => ?_)
  refine lv_iconst (v := 0) hx hb dX3_firstTimer_2 (by decide) ?_
  refine hv_as (x := 0) (y := (nI 0)) nI_0.symm ?_
  refine lv_istore_n (lv' := [(2, _), (1, _), (0, _)]) hx hb dX3_firstTimer_3 rfl hl (by decide) rfl (fun ls hl => ?_)
  have hL4 : ∀ (N9 : Nat) (i : Nat) (x1 : Int32) (H : Heap) (locs : List Loc) (ls : Array Slot), i ≤ n → n < i + N9 → (x1 = -1 ∨ ∃ j, j < n ∧ x1 = nI j ∧ ¬ hv_i v 208 (fa (16 + j)) = -1) → hv_St (hv_A v) s D tc v H locs → lv_has ls 3 [(0, .ref (fa 0)), (1, .int x1), (2, .int (nI i))] → W p l e ({ frames := 1, cells := 0, slots := 0, locals := 21 } : Room) s m args below meth c H locs (0) (0) Q (F0 m 4 ls []) := by
    intro N9
    induction N9 with
    | zero =>
      intro i x1 H locs ls hlei hNi hx1 hT hl
      exfalso
      omega
    | succ N9 ih4 =>
      intro i x1 H locs ls hlei hNi hx1 hT hl
      refine lv_iload_n hx hb dX3_firstTimer_4 rfl (lv_at hl 2 rfl) ?_
      refine lv_aload_n hx hb dX3_firstTimer_5 rfl (lv_at hl 0 rfl) ?_
      refine hv_geti (ci := 3) (C := RX3) (T := TX3) (N := 12) hx hb hts (tw_cs in_X3) hown hK hT (cs_kX hS) (by decide) rfl 3 (by decide) (hts _ (tw_c tw_50)) rfl dX3_firstTimer_6 ?_
      refine lv_topi (fun g1 eg1 => ?_)
      refine lv_icmp_ge (tgt := 56) hx hb dX3_firstTimer_9 (by decide) (fun c9 => ?_) (fun c9 => ?_)
      · skip
        refine lv_iload_n hx hb dX3_firstTimer_56 rfl (lv_at hl 1 rfl) ?_
        exact hret _ x1 v _ _ _ _ _ dX3_firstTimer_57 rfl hT ⟨rfl, hx1⟩ (by decide) (by decide)
      · skip
        have hlti : i < n := cs_lp hlei (cs_n8 hS) (by rw [← hn, ← eg1]; exact c9)
        refine lv_aload_n hx hb dX3_firstTimer_12 rfl (lv_at hl 0 rfl) ?_
        refine hv_gets (ci := 3) (C := RX3) (T := TX3) (N := 12) hx hb hts (tw_cs in_X3) hown hK hT (cs_kX hS) (by decide) rfl 0 (by decide) (hts _ (tw_c tw_47)) rfl (x := (fa 1)) (cs_pS hS) dX3_firstTimer_13 ?_
        refine lv_iload_n hx hb dX3_firstTimer_16 rfl (lv_at hl 2 rfl) ?_
        refine hv_alds (t := 0) hx hb hK hT (cs_kS hS) rfl rfl (cs_in8 (cs_lt8 hS hlti)) (x := (fa (16 + i))) (cs_qS hS hlti) dX3_firstTimer_17 ?_
        refine hv_geti (ci := 2) (C := RX2) (T := TX2) (N := 10) hx hb hts (tw_cs in_X2) hown hK hT (cs_ks hS hlti) (by decide) rfl 8 (by decide) (hts _ (tw_c tw_89)) rfl dX3_firstTimer_18 ?_
        refine lv_topi (fun g2 eg2 => ?_)
        refine lv_iconst (v := (-1)) hx hb dX3_firstTimer_21 (by decide) ?_
        refine lv_icmp_eq (tgt := 50) hx hb dX3_firstTimer_22 (by decide) (fun c22 => ?_) (fun c22 => ?_)
        · skip
          refine lv_iinc (v := (nI (i + 1))) (lv' := [(2, _), (0, _), (1, _)]) hx hb dX3_firstTimer_50 hl (k := 2) rfl (nI_1 _) (by decide) rfl (fun ls hl => ?_)
          refine lv_goto (tgt := 4) hx hb dX3_firstTimer_53 (by decide) ?_
          exact ih4 (i + 1) x1 H locs ls (by omega) (by omega) hx1 hT (lv_sub hl [1, 2, 0] rfl)
        · skip
          refine lv_iload_n hx hb dX3_firstTimer_25 rfl (lv_at hl 1 rfl) ?_
          refine lv_iconst (v := (-1)) hx hb dX3_firstTimer_26 (by decide) ?_
          refine lv_icmp_eq (tgt := 48) hx hb dX3_firstTimer_27 (by decide) (fun c27 => ?_) (fun c27 => ?_)
          · skip
            refine lv_iload_n hx hb dX3_firstTimer_48 rfl (lv_at hl 2 rfl) ?_
            refine lv_istore_n (lv' := [(1, _), (0, _), (2, _)]) hx hb dX3_firstTimer_49 rfl hl (by decide) rfl (fun ls hl => ?_)
            refine lv_iinc (v := (nI (i + 1))) (lv' := [(2, _), (1, _), (0, _)]) hx hb dX3_firstTimer_50 hl (k := 2) rfl (nI_1 _) (by decide) rfl (fun ls hl => ?_)
            refine lv_goto (tgt := 4) hx hb dX3_firstTimer_53 (by decide) ?_
            exact ih4 (i + 1) (nI i) H locs ls (by omega) (by omega) (Or.inr ⟨i, hlti, rfl, by rw [← eg2]; exact c22⟩) hT (lv_sub hl [2, 1, 0] rfl)
          · skip
            obtain ⟨j, hj, ej, hjt⟩ := hx1.resolve_left c27
            subst ej
            refine lv_aload_n hx hb dX3_firstTimer_30 rfl (lv_at hl 0 rfl) ?_
            refine hv_gets (ci := 3) (C := RX3) (T := TX3) (N := 12) hx hb hts (tw_cs in_X3) hown hK hT (cs_kX hS) (by decide) rfl 0 (by decide) (hts _ (tw_c tw_47)) rfl (x := (fa 1)) (cs_pS hS) dX3_firstTimer_31 ?_
            refine lv_iload_n hx hb dX3_firstTimer_34 rfl (lv_at hl 2 rfl) ?_
            refine hv_alds (t := 0) hx hb hK hT (cs_kS hS) rfl rfl (cs_in8 (cs_lt8 hS hlti)) (x := (fa (16 + i))) (cs_qS hS hlti) dX3_firstTimer_35 ?_
            refine lv_aload_n hx hb dX3_firstTimer_36 rfl (lv_at hl 0 rfl) ?_
            refine hv_gets (ci := 3) (C := RX3) (T := TX3) (N := 12) hx hb hts (tw_cs in_X3) hown hK hT (cs_kX hS) (by decide) rfl 0 (by decide) (hts _ (tw_c tw_47)) rfl (x := (fa 1)) (cs_pS hS) dX3_firstTimer_37 ?_
            refine lv_iload_n hx hb dX3_firstTimer_40 rfl (lv_at hl 1 rfl) ?_
            refine hv_alds (t := 0) hx hb hK hT (cs_kS hS) rfl rfl (cs_in8 (cs_lt8 hS hj)) (x := (fa (16 + j))) (cs_qS hS hj) dX3_firstTimer_41 ?_
            refine hv_calli (va_runV (As := [.ref (fa (16 + j))]) (rest := []) ⟨hx, hb, hml, hown, hts⟩ (c_runsOutEarlier l D tc hS hlti hj) (cwV 1 hts (tw_V tw_212 tw_213 tw_214 tw_4 tw_215) rfl rfl rfl (by decide +kernel) ⟨Nat.le_of_ble_eq_true rfl, Nat.le_of_ble_eq_true rfl⟩) (hv_preV (ci := 2) hK hT.1 (cs_ks hS hlti) (by decide) rfl rfl) rfl rfl hl.1 rfl (lv_room (Nat.le_of_ble_eq_true rfl)) dX3_firstTimer_42 ⟨Nat.le_of_ble_eq_true rfl, Nat.le_of_ble_eq_true rfl⟩) hT (fun r5 v3 H locs hp4 hT => ?_)
            rw [hp4] at hT
            refine lv_if_eq (tgt := 50) hx hb dX3_firstTimer_45 (by decide) (fun c45 => ?_) (fun c45 => ?_)
            · skip
              refine lv_iinc (v := (nI (i + 1))) (lv' := [(2, _), (0, _), (1, _)]) hx hb dX3_firstTimer_50 hl (k := 2) rfl (nI_1 _) (by decide) rfl (fun ls hl => ?_)
              refine lv_goto (tgt := 4) hx hb dX3_firstTimer_53 (by decide) ?_
              exact ih4 (i + 1) (nI j) H locs ls (by omega) (by omega) (Or.inr ⟨j, hj, rfl, hjt⟩) hT (lv_sub hl [1, 2, 0] rfl)
            · skip
              refine lv_iload_n hx hb dX3_firstTimer_48 rfl (lv_at hl 2 rfl) ?_
              refine lv_istore_n (lv' := [(1, _), (0, _), (2, _)]) hx hb dX3_firstTimer_49 rfl hl (by decide) rfl (fun ls hl => ?_)
              refine lv_iinc (v := (nI (i + 1))) (lv' := [(2, _), (1, _), (0, _)]) hx hb dX3_firstTimer_50 hl (k := 2) rfl (nI_1 _) (by decide) rfl (fun ls hl => ?_)
              refine lv_goto (tgt := 4) hx hb dX3_firstTimer_53 (by decide) ?_
              exact ih4 (i + 1) (nI i) H locs ls (by omega) (by omega) (Or.inr ⟨i, hlti, rfl, by rw [← eg2]; exact c22⟩) hT (lv_sub hl [2, 1, 0] rfl)
  exact hL4 (n + 1) 0 (-1) H locs ls (Nat.zero_le _) (by omega) (Or.inl rfl) hT (lv_sub hl [2, 1, 0] rfl)
