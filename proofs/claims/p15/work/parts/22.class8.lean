theorem cs_gt4 {x : Int32} (h : nI 4 < x) : (5 : Int32) ≤ x := by
  rw [Int32.lt_iff_toInt_lt, nI_toInt (by decide)] at h
  rw [Int32.le_iff_toInt_le]
  show (5 : Int) ≤ _
  omega

set_option maxHeartbeats 4000000 in
set_option maxRecDepth 100000 in
theorem c_patience (l : Launch) (D : va_G) (tc : Nat → ClassId) {fa : Nat → Nat} {n : Nat} {w u : Nat → Nat} {b : Nat} {d : Nat → Nat → Nat} {g : Nat × Nat} {k : Nat} {v : hv_V} (hI : ci_I fa n w u b d g k [] v) (x : Int32) : Met l yX3_patience (Cond.code yX3_patience cX3_patience 2 (some .int) :: lw_B) ({ frames := 0, cells := 0, slots := 0, locals := 0 }) (va_Pc [.ref (fa 0), .int x] (hv_Pre D tc v)) (va_Qi (fun (r : Int32) (v1 : hv_V) => ∃ u1 b1 d1 k1, ci_I fa n w u1 b1 d1 g k1 [] v1) (hv_Post D tc (hv_A v)) (hv_A v)) (0) (0) (hv_A v) := by
  refine hv_meti l (by decide) (Nat.le_of_ble_eq_true rfl) ?_
  intro p e s m args below meth c Q X hret hK hz H locs ls hT hl
  obtain ⟨hx, hb, hml, hts, hown, hin0⟩ := X
  have hown : s.vm.findClass "CommitSites" = some m.cls := hown
  have hl : lv_has ls 2 [(0, .ref (fa 0)), (1, .int x)] := hl
  have hS := hI.1
  have hn := hI.2.1.1
  refine lv_iload_n hx hb dX3_patience_0 rfl (lv_at hl 1 rfl) ?_
  refine lv_iconst (v := 5) hx hb dX3_patience_1 (by decide) ?_
  refine lv_icmp_lt (tgt := 18) hx hb dX3_patience_2 (by decide) (fun c2 => ?_) (fun c2 => ?_)
  · skip
    refine lv_iconst (v := 0) hx hb dX3_patience_18 (by decide) ?_
    exact hret _ 0 v _ _ _ _ _ dX3_patience_19 rfl hT ⟨_, _, _, _, hI⟩ (by decide) (by decide)
  · skip
    refine lv_iload_n hx hb dX3_patience_5 rfl (lv_at hl 1 rfl) ?_
    refine lv_bipush (v := 100) hx hb dX3_patience_6 (by decide) ?_
    refine lv_icmp_gt (tgt := 18) hx hb dX3_patience_8 (by decide) (fun c8 => ?_) (fun c8 => ?_)
    · skip
      refine lv_iconst (v := 0) hx hb dX3_patience_18 (by decide) ?_
      exact hret _ 0 v _ _ _ _ _ dX3_patience_19 rfl hT ⟨_, _, _, _, hI⟩ (by decide) (by decide)
    · skip
      refine lv_aload_n hx hb dX3_patience_11 rfl (lv_at hl 0 rfl) ?_
      refine hv_geti (ci := 3) (C := RX3) (T := TX3) (N := 12) hx hb hts (tw_cs in_X3) hown hK hT (cs_kX hS) (by decide) rfl 8 (by decide) (hts _ (tw_c tw_55)) rfl dX3_patience_12 ?_
      refine lv_topi (fun g1 eg1 => ?_)
      refine lv_if_eq (tgt := 20) hx hb dX3_patience_15 (by decide) (fun c15 => ?_) (fun c15 => ?_)
      · skip
        refine lv_aload_n hx hb dX3_patience_20 rfl (lv_at hl 0 rfl) ?_
        refine lv_iload_n hx hb dX3_patience_21 rfl (lv_at hl 1 rfl) ?_
        refine hv_puti (ci := 3) (C := RX3) (T := TX3) (N := 12) hx hb hts (tw_cs in_X3) tyX3 tyX3_ok nmX3 hown hK hT (cs_kX hS) (by decide) rfl 7 (by decide) (hts _ (tw_c tw_54)) rfl rfl (x := x) rfl rfl dX3_patience_22 (fun H locs hT => ?_)
        obtain ⟨q, hq5, hq9, hq⟩ := is_rng (a := 5) (m := 100) (by decide) c2 c8 (by decide)
        have hI := ci_putP hq hq5 hq9 hI
        have hS := hI.1
        refine lv_iconst (v := 1) hx hb dX3_patience_25 (by decide) ?_
        exact hret _ 1 (hv_si v 307 (fa 0) x) _ _ _ _ _ dX3_patience_26 rfl hT ⟨_, _, _, _, hI⟩ (by decide) (by decide)
      · skip
        refine lv_iconst (v := 0) hx hb dX3_patience_18 (by decide) ?_
        exact hret _ 0 v _ _ _ _ _ dX3_patience_19 rfl hT ⟨_, _, _, _, hI⟩ (by decide) (by decide)

set_option maxHeartbeats 4000000 in
set_option maxRecDepth 100000 in
theorem c_quorums (l : Launch) (D : va_G) (tc : Nat → ClassId) {fa : Nat → Nat} {n : Nat} {w u : Nat → Nat} {b : Nat} {d : Nat → Nat → Nat} {g : Nat × Nat} {k : Nat} {v : hv_V} (hI : ci_I fa n w u b d g k [] v) (x y : Int32) : Met l yX3_quorums (Cond.code yX3_quorums cX3_quorums 4 (some .int) :: lw_B) ({ frames := 0, cells := 0, slots := 0, locals := 0 }) (va_Pc [.ref (fa 0), .int x, .int y] (hv_Pre D tc v)) (va_Qi (fun (r : Int32) (v1 : hv_V) => ∃ u1 b1 d1 k1, ci_I fa n w u1 b1 d1 g k1 [] v1) (hv_Post D tc (hv_A v)) (hv_A v)) (0) (0) (hv_A v) := by
  refine hv_meti l (by decide) (Nat.le_of_ble_eq_true rfl) ?_
  intro p e s m args below meth c Q X hret hK hz H locs ls hT hl
  obtain ⟨hx, hb, hml, hts, hown, hin0⟩ := X
  have hown : s.vm.findClass "CommitSites" = some m.cls := hown
  have hl : lv_has ls 4 [(0, .ref (fa 0)), (1, .int x), (2, .int y)] := hl
  have hS := hI.1
  have hn := hI.2.1.1
  refine lv_iload_n hx hb dX3_quorums_0 rfl (lv_at hl 1 rfl) ?_
  refine lv_iconst (v := 1) hx hb dX3_quorums_1 (by decide) ?_
  refine lv_icmp_lt (tgt := 30) hx hb dX3_quorums_2 (by decide) (fun c2 => ?_) (fun c2 => ?_)
  · skip
    refine lv_iconst (v := 0) hx hb dX3_quorums_30 (by decide) ?_
    refine lv_istore_n (lv' := [(3, _), (0, _), (1, _), (2, _)]) hx hb dX3_quorums_31 rfl hl (by decide) rfl (fun ls hl => ?_)
    refine lv_aload_n hx hb dX3_quorums_32 rfl (lv_at hl 1 rfl) ?_
    refine hv_geti (ci := 3) (C := RX3) (T := TX3) (N := 12) hx hb hts (tw_cs in_X3) hown hK hT (cs_kX hS) (by decide) rfl 8 (by decide) (hts _ (tw_c tw_55)) rfl dX3_quorums_33 ?_
    refine lv_topi (fun g1 eg1 => ?_)
    refine lv_if_ne (tgt := 53) hx hb dX3_quorums_36 (by decide) (fun c36 => ?_) (fun c36 => ?_)
    · skip
      refine lv_iconst (v := 0) hx hb dX3_quorums_53 (by decide) ?_
      exact hret _ 0 v _ _ _ _ _ dX3_quorums_54 rfl hT ⟨_, _, _, _, hI⟩ (by decide) (by decide)
    · skip
      refine lv_iload_n hx hb dX3_quorums_39 rfl (lv_at hl 0 rfl) ?_
      refine lv_if_eq (tgt := 53) hx hb dX3_quorums_40 (by decide) (fun c40 => ?_) (fun c40 => ?_)
      · skip
        refine lv_iconst (v := 0) hx hb dX3_quorums_53 (by decide) ?_
        exact hret _ 0 v _ _ _ _ _ dX3_quorums_54 rfl hT ⟨_, _, _, _, hI⟩ (by decide) (by decide)
      · skip
        refine lv_iload_n hx hb dX3_quorums_43 rfl (lv_at hl 2 rfl) ?_
        refine lv_iload_n hx hb dX3_quorums_44 rfl (lv_at hl 3 rfl) ?_
        refine lv_iadd hx hb dX3_quorums_45 ?_
        refine lv_aload_n hx hb dX3_quorums_46 rfl (lv_at hl 1 rfl) ?_
        refine hv_geti (ci := 3) (C := RX3) (T := TX3) (N := 12) hx hb hts (tw_cs in_X3) hown hK hT (cs_kX hS) (by decide) rfl 4 (by decide) (hts _ (tw_c tw_51)) rfl dX3_quorums_47 ?_
        refine lv_topi (fun g2 eg2 => ?_)
        refine lv_icmp_gt (tgt := 55) hx hb dX3_quorums_50 (by decide) (fun c50 => ?_) (fun c50 => ?_)
        · skip
          refine lv_aload_n hx hb dX3_quorums_55 rfl (lv_at hl 1 rfl) ?_
          refine lv_iload_n hx hb dX3_quorums_56 rfl (lv_at hl 2 rfl) ?_
          refine hv_puti (ci := 3) (C := RX3) (T := TX3) (N := 12) hx hb hts (tw_cs in_X3) tyX3 tyX3_ok nmX3 hown hK hT (cs_kX hS) (by decide) rfl 5 (by decide) (hts _ (tw_c tw_52)) rfl rfl (x := x) rfl rfl dX3_quorums_57 (fun H locs hT => ?_)
          have hI := ci_put (f := 305) (a := (fa 0)) (x := x) rfl hI
          have hS := hI.1
          refine lv_aload_n hx hb dX3_quorums_60 rfl (lv_at hl 1 rfl) ?_
          refine lv_iload_n hx hb dX3_quorums_61 rfl (lv_at hl 3 rfl) ?_
          refine hv_puti (ci := 3) (C := RX3) (T := TX3) (N := 12) hx hb hts (tw_cs in_X3) tyX3 tyX3_ok nmX3 hown hK hT (cs_kX hS) (by decide) rfl 6 (by decide) (hts _ (tw_c tw_53)) rfl rfl (x := y) rfl rfl dX3_quorums_62 (fun H locs hT => ?_)
          have hI := ci_put (f := 306) (a := (fa 0)) (x := y) rfl hI
          have hS := hI.1
          refine lv_iconst (v := 1) hx hb dX3_quorums_65 (by decide) ?_
          exact hret _ 1 (hv_si (hv_si v 305 (fa 0) x) 306 (fa 0) y) _ _ _ _ _ dX3_quorums_66 rfl hT ⟨_, _, _, _, hI⟩ (by decide) (by decide)
        · skip
          refine lv_iconst (v := 0) hx hb dX3_quorums_53 (by decide) ?_
          exact hret _ 0 v _ _ _ _ _ dX3_quorums_54 rfl hT ⟨_, _, _, _, hI⟩ (by decide) (by decide)
  · skip
    refine lv_iload_n hx hb dX3_quorums_5 rfl (lv_at hl 1 rfl) ?_
    refine lv_aload_n hx hb dX3_quorums_6 rfl (lv_at hl 0 rfl) ?_
    refine hv_geti (ci := 3) (C := RX3) (T := TX3) (N := 12) hx hb hts (tw_cs in_X3) hown hK hT (cs_kX hS) (by decide) rfl 4 (by decide) (hts _ (tw_c tw_51)) rfl dX3_quorums_7 ?_
    refine lv_topi (fun g3 eg3 => ?_)
    refine lv_icmp_gt (tgt := 30) hx hb dX3_quorums_10 (by decide) (fun c10 => ?_) (fun c10 => ?_)
    · skip
      refine lv_iconst (v := 0) hx hb dX3_quorums_30 (by decide) ?_
      refine lv_istore_n (lv' := [(3, _), (0, _), (1, _), (2, _)]) hx hb dX3_quorums_31 rfl hl (by decide) rfl (fun ls hl => ?_)
      refine lv_aload_n hx hb dX3_quorums_32 rfl (lv_at hl 1 rfl) ?_
      refine hv_geti (ci := 3) (C := RX3) (T := TX3) (N := 12) hx hb hts (tw_cs in_X3) hown hK hT (cs_kX hS) (by decide) rfl 8 (by decide) (hts _ (tw_c tw_55)) rfl dX3_quorums_33 ?_
      refine lv_topi (fun g4 eg4 => ?_)
      refine lv_if_ne (tgt := 53) hx hb dX3_quorums_36 (by decide) (fun c36 => ?_) (fun c36 => ?_)
      · skip
        refine lv_iconst (v := 0) hx hb dX3_quorums_53 (by decide) ?_
        exact hret _ 0 v _ _ _ _ _ dX3_quorums_54 rfl hT ⟨_, _, _, _, hI⟩ (by decide) (by decide)
      · skip
        refine lv_iload_n hx hb dX3_quorums_39 rfl (lv_at hl 0 rfl) ?_
        refine lv_if_eq (tgt := 53) hx hb dX3_quorums_40 (by decide) (fun c40 => ?_) (fun c40 => ?_)
        · skip
          refine lv_iconst (v := 0) hx hb dX3_quorums_53 (by decide) ?_
          exact hret _ 0 v _ _ _ _ _ dX3_quorums_54 rfl hT ⟨_, _, _, _, hI⟩ (by decide) (by decide)
        · skip
          refine lv_iload_n hx hb dX3_quorums_43 rfl (lv_at hl 2 rfl) ?_
          refine lv_iload_n hx hb dX3_quorums_44 rfl (lv_at hl 3 rfl) ?_
          refine lv_iadd hx hb dX3_quorums_45 ?_
          refine lv_aload_n hx hb dX3_quorums_46 rfl (lv_at hl 1 rfl) ?_
          refine hv_geti (ci := 3) (C := RX3) (T := TX3) (N := 12) hx hb hts (tw_cs in_X3) hown hK hT (cs_kX hS) (by decide) rfl 4 (by decide) (hts _ (tw_c tw_51)) rfl dX3_quorums_47 ?_
          refine lv_topi (fun g5 eg5 => ?_)
          refine lv_icmp_gt (tgt := 55) hx hb dX3_quorums_50 (by decide) (fun c50 => ?_) (fun c50 => ?_)
          · skip
            refine lv_aload_n hx hb dX3_quorums_55 rfl (lv_at hl 1 rfl) ?_
            refine lv_iload_n hx hb dX3_quorums_56 rfl (lv_at hl 2 rfl) ?_
            refine hv_puti (ci := 3) (C := RX3) (T := TX3) (N := 12) hx hb hts (tw_cs in_X3) tyX3 tyX3_ok nmX3 hown hK hT (cs_kX hS) (by decide) rfl 5 (by decide) (hts _ (tw_c tw_52)) rfl rfl (x := x) rfl rfl dX3_quorums_57 (fun H locs hT => ?_)
            have hI := ci_put (f := 305) (a := (fa 0)) (x := x) rfl hI
            have hS := hI.1
            refine lv_aload_n hx hb dX3_quorums_60 rfl (lv_at hl 1 rfl) ?_
            refine lv_iload_n hx hb dX3_quorums_61 rfl (lv_at hl 3 rfl) ?_
            refine hv_puti (ci := 3) (C := RX3) (T := TX3) (N := 12) hx hb hts (tw_cs in_X3) tyX3 tyX3_ok nmX3 hown hK hT (cs_kX hS) (by decide) rfl 6 (by decide) (hts _ (tw_c tw_53)) rfl rfl (x := y) rfl rfl dX3_quorums_62 (fun H locs hT => ?_)
            have hI := ci_put (f := 306) (a := (fa 0)) (x := y) rfl hI
            have hS := hI.1
            refine lv_iconst (v := 1) hx hb dX3_quorums_65 (by decide) ?_
            exact hret _ 1 (hv_si (hv_si v 305 (fa 0) x) 306 (fa 0) y) _ _ _ _ _ dX3_quorums_66 rfl hT ⟨_, _, _, _, hI⟩ (by decide) (by decide)
          · skip
            refine lv_iconst (v := 0) hx hb dX3_quorums_53 (by decide) ?_
            exact hret _ 0 v _ _ _ _ _ dX3_quorums_54 rfl hT ⟨_, _, _, _, hI⟩ (by decide) (by decide)
    · skip
      refine lv_iload_n hx hb dX3_quorums_13 rfl (lv_at hl 2 rfl) ?_
      refine lv_iconst (v := 1) hx hb dX3_quorums_14 (by decide) ?_
      refine lv_icmp_lt (tgt := 30) hx hb dX3_quorums_15 (by decide) (fun c15 => ?_) (fun c15 => ?_)
      · skip
        refine lv_iconst (v := 0) hx hb dX3_quorums_30 (by decide) ?_
        refine lv_istore_n (lv' := [(3, _), (0, _), (1, _), (2, _)]) hx hb dX3_quorums_31 rfl hl (by decide) rfl (fun ls hl => ?_)
        refine lv_aload_n hx hb dX3_quorums_32 rfl (lv_at hl 1 rfl) ?_
        refine hv_geti (ci := 3) (C := RX3) (T := TX3) (N := 12) hx hb hts (tw_cs in_X3) hown hK hT (cs_kX hS) (by decide) rfl 8 (by decide) (hts _ (tw_c tw_55)) rfl dX3_quorums_33 ?_
        refine lv_topi (fun g6 eg6 => ?_)
        refine lv_if_ne (tgt := 53) hx hb dX3_quorums_36 (by decide) (fun c36 => ?_) (fun c36 => ?_)
        · skip
          refine lv_iconst (v := 0) hx hb dX3_quorums_53 (by decide) ?_
          exact hret _ 0 v _ _ _ _ _ dX3_quorums_54 rfl hT ⟨_, _, _, _, hI⟩ (by decide) (by decide)
        · skip
          refine lv_iload_n hx hb dX3_quorums_39 rfl (lv_at hl 0 rfl) ?_
          refine lv_if_eq (tgt := 53) hx hb dX3_quorums_40 (by decide) (fun c40 => ?_) (fun c40 => ?_)
          · skip
            refine lv_iconst (v := 0) hx hb dX3_quorums_53 (by decide) ?_
            exact hret _ 0 v _ _ _ _ _ dX3_quorums_54 rfl hT ⟨_, _, _, _, hI⟩ (by decide) (by decide)
          · skip
            refine lv_iload_n hx hb dX3_quorums_43 rfl (lv_at hl 2 rfl) ?_
            refine lv_iload_n hx hb dX3_quorums_44 rfl (lv_at hl 3 rfl) ?_
            refine lv_iadd hx hb dX3_quorums_45 ?_
            refine lv_aload_n hx hb dX3_quorums_46 rfl (lv_at hl 1 rfl) ?_
            refine hv_geti (ci := 3) (C := RX3) (T := TX3) (N := 12) hx hb hts (tw_cs in_X3) hown hK hT (cs_kX hS) (by decide) rfl 4 (by decide) (hts _ (tw_c tw_51)) rfl dX3_quorums_47 ?_
            refine lv_topi (fun g7 eg7 => ?_)
            refine lv_icmp_gt (tgt := 55) hx hb dX3_quorums_50 (by decide) (fun c50 => ?_) (fun c50 => ?_)
            · skip
              refine lv_aload_n hx hb dX3_quorums_55 rfl (lv_at hl 1 rfl) ?_
              refine lv_iload_n hx hb dX3_quorums_56 rfl (lv_at hl 2 rfl) ?_
              refine hv_puti (ci := 3) (C := RX3) (T := TX3) (N := 12) hx hb hts (tw_cs in_X3) tyX3 tyX3_ok nmX3 hown hK hT (cs_kX hS) (by decide) rfl 5 (by decide) (hts _ (tw_c tw_52)) rfl rfl (x := x) rfl rfl dX3_quorums_57 (fun H locs hT => ?_)
              have hI := ci_put (f := 305) (a := (fa 0)) (x := x) rfl hI
              have hS := hI.1
              refine lv_aload_n hx hb dX3_quorums_60 rfl (lv_at hl 1 rfl) ?_
              refine lv_iload_n hx hb dX3_quorums_61 rfl (lv_at hl 3 rfl) ?_
              refine hv_puti (ci := 3) (C := RX3) (T := TX3) (N := 12) hx hb hts (tw_cs in_X3) tyX3 tyX3_ok nmX3 hown hK hT (cs_kX hS) (by decide) rfl 6 (by decide) (hts _ (tw_c tw_53)) rfl rfl (x := y) rfl rfl dX3_quorums_62 (fun H locs hT => ?_)
              have hI := ci_put (f := 306) (a := (fa 0)) (x := y) rfl hI
              have hS := hI.1
              refine lv_iconst (v := 1) hx hb dX3_quorums_65 (by decide) ?_
              exact hret _ 1 (hv_si (hv_si v 305 (fa 0) x) 306 (fa 0) y) _ _ _ _ _ dX3_quorums_66 rfl hT ⟨_, _, _, _, hI⟩ (by decide) (by decide)
            · skip
              refine lv_iconst (v := 0) hx hb dX3_quorums_53 (by decide) ?_
              exact hret _ 0 v _ _ _ _ _ dX3_quorums_54 rfl hT ⟨_, _, _, _, hI⟩ (by decide) (by decide)
      · skip
        refine lv_iload_n hx hb dX3_quorums_18 rfl (lv_at hl 2 rfl) ?_
        refine lv_aload_n hx hb dX3_quorums_19 rfl (lv_at hl 0 rfl) ?_
        refine hv_geti (ci := 3) (C := RX3) (T := TX3) (N := 12) hx hb hts (tw_cs in_X3) hown hK hT (cs_kX hS) (by decide) rfl 4 (by decide) (hts _ (tw_c tw_51)) rfl dX3_quorums_20 ?_
        refine lv_topi (fun g8 eg8 => ?_)
        refine lv_icmp_gt (tgt := 30) hx hb dX3_quorums_23 (by decide) (fun c23 => ?_) (fun c23 => ?_)
        · skip
          refine lv_iconst (v := 0) hx hb dX3_quorums_30 (by decide) ?_
          refine lv_istore_n (lv' := [(3, _), (0, _), (1, _), (2, _)]) hx hb dX3_quorums_31 rfl hl (by decide) rfl (fun ls hl => ?_)
          refine lv_aload_n hx hb dX3_quorums_32 rfl (lv_at hl 1 rfl) ?_
          refine hv_geti (ci := 3) (C := RX3) (T := TX3) (N := 12) hx hb hts (tw_cs in_X3) hown hK hT (cs_kX hS) (by decide) rfl 8 (by decide) (hts _ (tw_c tw_55)) rfl dX3_quorums_33 ?_
          refine lv_topi (fun g9 eg9 => ?_)
          refine lv_if_ne (tgt := 53) hx hb dX3_quorums_36 (by decide) (fun c36 => ?_) (fun c36 => ?_)
          · skip
            refine lv_iconst (v := 0) hx hb dX3_quorums_53 (by decide) ?_
            exact hret _ 0 v _ _ _ _ _ dX3_quorums_54 rfl hT ⟨_, _, _, _, hI⟩ (by decide) (by decide)
          · skip
            refine lv_iload_n hx hb dX3_quorums_39 rfl (lv_at hl 0 rfl) ?_
            refine lv_if_eq (tgt := 53) hx hb dX3_quorums_40 (by decide) (fun c40 => ?_) (fun c40 => ?_)
            · skip
              refine lv_iconst (v := 0) hx hb dX3_quorums_53 (by decide) ?_
              exact hret _ 0 v _ _ _ _ _ dX3_quorums_54 rfl hT ⟨_, _, _, _, hI⟩ (by decide) (by decide)
            · skip
              refine lv_iload_n hx hb dX3_quorums_43 rfl (lv_at hl 2 rfl) ?_
              refine lv_iload_n hx hb dX3_quorums_44 rfl (lv_at hl 3 rfl) ?_
              refine lv_iadd hx hb dX3_quorums_45 ?_
              refine lv_aload_n hx hb dX3_quorums_46 rfl (lv_at hl 1 rfl) ?_
              refine hv_geti (ci := 3) (C := RX3) (T := TX3) (N := 12) hx hb hts (tw_cs in_X3) hown hK hT (cs_kX hS) (by decide) rfl 4 (by decide) (hts _ (tw_c tw_51)) rfl dX3_quorums_47 ?_
              refine lv_topi (fun g10 eg10 => ?_)
              refine lv_icmp_gt (tgt := 55) hx hb dX3_quorums_50 (by decide) (fun c50 => ?_) (fun c50 => ?_)
              · skip
                refine lv_aload_n hx hb dX3_quorums_55 rfl (lv_at hl 1 rfl) ?_
                refine lv_iload_n hx hb dX3_quorums_56 rfl (lv_at hl 2 rfl) ?_
                refine hv_puti (ci := 3) (C := RX3) (T := TX3) (N := 12) hx hb hts (tw_cs in_X3) tyX3 tyX3_ok nmX3 hown hK hT (cs_kX hS) (by decide) rfl 5 (by decide) (hts _ (tw_c tw_52)) rfl rfl (x := x) rfl rfl dX3_quorums_57 (fun H locs hT => ?_)
                have hI := ci_put (f := 305) (a := (fa 0)) (x := x) rfl hI
                have hS := hI.1
                refine lv_aload_n hx hb dX3_quorums_60 rfl (lv_at hl 1 rfl) ?_
                refine lv_iload_n hx hb dX3_quorums_61 rfl (lv_at hl 3 rfl) ?_
                refine hv_puti (ci := 3) (C := RX3) (T := TX3) (N := 12) hx hb hts (tw_cs in_X3) tyX3 tyX3_ok nmX3 hown hK hT (cs_kX hS) (by decide) rfl 6 (by decide) (hts _ (tw_c tw_53)) rfl rfl (x := y) rfl rfl dX3_quorums_62 (fun H locs hT => ?_)
                have hI := ci_put (f := 306) (a := (fa 0)) (x := y) rfl hI
                have hS := hI.1
                refine lv_iconst (v := 1) hx hb dX3_quorums_65 (by decide) ?_
                exact hret _ 1 (hv_si (hv_si v 305 (fa 0) x) 306 (fa 0) y) _ _ _ _ _ dX3_quorums_66 rfl hT ⟨_, _, _, _, hI⟩ (by decide) (by decide)
              · skip
                refine lv_iconst (v := 0) hx hb dX3_quorums_53 (by decide) ?_
                exact hret _ 0 v _ _ _ _ _ dX3_quorums_54 rfl hT ⟨_, _, _, _, hI⟩ (by decide) (by decide)
        · skip
          refine lv_iconst (v := 1) hx hb dX3_quorums_26 (by decide) ?_
          refine lv_goto (tgt := 31) hx hb dX3_quorums_27 (by decide) ?_
          refine lv_istore_n (lv' := [(3, _), (0, _), (1, _), (2, _)]) hx hb dX3_quorums_31 rfl hl (by decide) rfl (fun ls hl => ?_)
          refine lv_aload_n hx hb dX3_quorums_32 rfl (lv_at hl 1 rfl) ?_
          refine hv_geti (ci := 3) (C := RX3) (T := TX3) (N := 12) hx hb hts (tw_cs in_X3) hown hK hT (cs_kX hS) (by decide) rfl 8 (by decide) (hts _ (tw_c tw_55)) rfl dX3_quorums_33 ?_
          refine lv_topi (fun g11 eg11 => ?_)
          refine lv_if_ne (tgt := 53) hx hb dX3_quorums_36 (by decide) (fun c36 => ?_) (fun c36 => ?_)
          · skip
            refine lv_iconst (v := 0) hx hb dX3_quorums_53 (by decide) ?_
            exact hret _ 0 v _ _ _ _ _ dX3_quorums_54 rfl hT ⟨_, _, _, _, hI⟩ (by decide) (by decide)
          · skip
            refine lv_iload_n hx hb dX3_quorums_39 rfl (lv_at hl 0 rfl) ?_
            refine lv_if_eq (tgt := 53) hx hb dX3_quorums_40 (by decide) (fun c40 => ?_) (fun c40 => ?_)
            · skip
              refine lv_iconst (v := 0) hx hb dX3_quorums_53 (by decide) ?_
              exact hret _ 0 v _ _ _ _ _ dX3_quorums_54 rfl hT ⟨_, _, _, _, hI⟩ (by decide) (by decide)
            · skip
              refine lv_iload_n hx hb dX3_quorums_43 rfl (lv_at hl 2 rfl) ?_
              refine lv_iload_n hx hb dX3_quorums_44 rfl (lv_at hl 3 rfl) ?_
              refine lv_iadd hx hb dX3_quorums_45 ?_
              refine lv_aload_n hx hb dX3_quorums_46 rfl (lv_at hl 1 rfl) ?_
              refine hv_geti (ci := 3) (C := RX3) (T := TX3) (N := 12) hx hb hts (tw_cs in_X3) hown hK hT (cs_kX hS) (by decide) rfl 4 (by decide) (hts _ (tw_c tw_51)) rfl dX3_quorums_47 ?_
              refine lv_topi (fun g12 eg12 => ?_)
              refine lv_icmp_gt (tgt := 55) hx hb dX3_quorums_50 (by decide) (fun c50 => ?_) (fun c50 => ?_)
              · skip
                refine lv_aload_n hx hb dX3_quorums_55 rfl (lv_at hl 1 rfl) ?_
                refine lv_iload_n hx hb dX3_quorums_56 rfl (lv_at hl 2 rfl) ?_
                refine hv_puti (ci := 3) (C := RX3) (T := TX3) (N := 12) hx hb hts (tw_cs in_X3) tyX3 tyX3_ok nmX3 hown hK hT (cs_kX hS) (by decide) rfl 5 (by decide) (hts _ (tw_c tw_52)) rfl rfl (x := x) rfl rfl dX3_quorums_57 (fun H locs hT => ?_)
                have hI := ci_put (f := 305) (a := (fa 0)) (x := x) rfl hI
                have hS := hI.1
                refine lv_aload_n hx hb dX3_quorums_60 rfl (lv_at hl 1 rfl) ?_
                refine lv_iload_n hx hb dX3_quorums_61 rfl (lv_at hl 3 rfl) ?_
                refine hv_puti (ci := 3) (C := RX3) (T := TX3) (N := 12) hx hb hts (tw_cs in_X3) tyX3 tyX3_ok nmX3 hown hK hT (cs_kX hS) (by decide) rfl 6 (by decide) (hts _ (tw_c tw_53)) rfl rfl (x := y) rfl rfl dX3_quorums_62 (fun H locs hT => ?_)
                have hI := ci_put (f := 306) (a := (fa 0)) (x := y) rfl hI
                have hS := hI.1
                refine lv_iconst (v := 1) hx hb dX3_quorums_65 (by decide) ?_
                exact hret _ 1 (hv_si (hv_si v 305 (fa 0) x) 306 (fa 0) y) _ _ _ _ _ dX3_quorums_66 rfl hT ⟨_, _, _, _, hI⟩ (by decide) (by decide)
              · skip
                refine lv_iconst (v := 0) hx hb dX3_quorums_53 (by decide) ?_
                exact hret _ 0 v _ _ _ _ _ dX3_quorums_54 rfl hT ⟨_, _, _, _, hI⟩ (by decide) (by decide)

set_option maxHeartbeats 4000000 in
set_option maxRecDepth 100000 in
theorem c_link (l : Launch) (D : va_G) (tc : Nat → ClassId) {fa : Nat → Nat} {n : Nat} {w u : Nat → Nat} {b : Nat} {d : Nat → Nat → Nat} {g : Nat × Nat} {k : Nat} {v : hv_V} (hI : ci_I fa n w u b d g k [] v) (x y z : Int32) : Met l yX3_link (Cond.code yX3_link cX3_link 4 (some .int) :: lw_B) ({ frames := 2, cells := 0, slots := 0, locals := 43 }) (va_Pc [.ref (fa 0), .int x, .int y, .int z] (hv_Pre D tc v)) (va_Qi (fun (r : Int32) (v1 : hv_V) => ∃ u1 b1 d1 k1, ci_I fa n w u1 b1 d1 g k1 [] v1) (hv_Post D tc (hv_A v)) (hv_A v)) (0) (0) (hv_A v) := by
  refine hv_meti l (by decide) (Nat.le_of_ble_eq_true rfl) ?_
  intro p e s m args below meth c Q X hret hK hz H locs ls hT hl
  obtain ⟨hx, hb, hml, hts, hown, hin0⟩ := X
  have hown : s.vm.findClass "CommitSites" = some m.cls := hown
  have hl : lv_has ls 4 [(0, .ref (fa 0)), (1, .int x), (2, .int y), (3, .int z)] := hl
  have hS := hI.1
  have hn := hI.2.1.1
  refine lv_aload_n hx hb dX3_link_0 rfl (lv_at hl 0 rfl) ?_
  refine lv_iload_n hx hb dX3_link_1 rfl (lv_at hl 1 rfl) ?_
  refine lv_iload_n hx hb dX3_link_2 rfl (lv_at hl 2 rfl) ?_
  refine hv_calli (va_runV (As := [.int x, .int y]) (rest := []) ⟨hx, hb, hml, hown, hts⟩ (c_isLink l D tc x y hS hn) (cwV 2 hts (tw_V tw_100 tw_101 tw_483 tw_1 tw_102) rfl rfl rfl (by decide +kernel) ⟨Nat.le_of_ble_eq_true rfl, Nat.le_of_ble_eq_true rfl⟩) (hv_preV (ci := 3) hK hT.1 (cs_kX hS) (by decide) rfl rfl) rfl rfl hl.1 rfl (lv_room (Nat.le_of_ble_eq_true rfl)) dX3_link_3 ⟨Nat.le_of_ble_eq_true rfl, Nat.le_of_ble_eq_true rfl⟩) hT (fun r3 v1 H locs hp2 hT => ?_)
  obtain ⟨evhp2, qhp2⟩ := hp2
  rw [evhp2] at hT
  refine lv_if_eq (tgt := 19) hx hb dX3_link_6 (by decide) (fun c6 => ?_) (fun c6 => ?_)
  · skip
    refine lv_iconst (v := 0) hx hb dX3_link_19 (by decide) ?_
    exact hret _ 0 v _ _ _ _ _ dX3_link_20 rfl hT ⟨_, _, _, _, hI⟩ (by decide) (by decide)
  · skip
    obtain ⟨i, j, hi, hj, hij, rfl, rfl⟩ := (qhp2.resolve_right (fun q => c6 q.1)).2
    refine lv_iload_n hx hb dX3_link_9 rfl (lv_at hl 3 rfl) ?_
    refine lv_if_lt (tgt := 19) hx hb dX3_link_10 (by decide) (fun c10 => ?_) (fun c10 => ?_)
    · skip
      refine lv_iconst (v := 0) hx hb dX3_link_19 (by decide) ?_
      exact hret _ 0 v _ _ _ _ _ dX3_link_20 rfl hT ⟨_, _, _, _, hI⟩ (by decide) (by decide)
    · skip
      refine lv_iload_n hx hb dX3_link_13 rfl (lv_at hl 3 rfl) ?_
      refine lv_bipush (v := 20) hx hb dX3_link_14 (by decide) ?_
      refine lv_icmp_le (tgt := 21) hx hb dX3_link_16 (by decide) (fun c16 => ?_) (fun c16 => ?_)
      · skip
        refine lv_aload_n hx hb dX3_link_21 rfl (lv_at hl 0 rfl) ?_
        refine hv_gets (ci := 3) (C := RX3) (T := TX3) (N := 12) hx hb hts (tw_cs in_X3) hown hK hT (cs_kX hS) (by decide) rfl 1 (by decide) (hts _ (tw_c tw_48)) rfl (x := (fa 2)) (cs_pN hS) dX3_link_22 ?_
        refine hv_gets (ci := 1) (C := RX1) (T := TX1) (N := 9) hx hb hts (tw_cs in_X1) hown hK hT (cs_kN hS) (by decide) rfl 0 (by decide) (hts _ (tw_c tw_27)) rfl (x := (fa 4)) (cs_pD hS) dX3_link_25 ?_
        refine lv_iload_n hx hb dX3_link_28 rfl (lv_at hl 1 rfl) ?_
        refine hv_alds (t := 2) hx hb hK hT (cs_kD hS) rfl rfl (cs_in8 (cs_lt8 hS hi)) (x := (fa (8 + i))) (cs_qD hS (cs_lt8 hS hi)) dX3_link_29 ?_
        refine lv_iload_n hx hb dX3_link_30 rfl (lv_at hl 2 rfl) ?_
        refine lv_iload_n hx hb dX3_link_31 rfl (lv_at hl 3 rfl) ?_
        refine hv_iast (x := z) hx hb hK hT (cs_kR hS (cs_lt8 hS hi)) (cs_in8 (cs_lt8 hS hj)) dX3_link_32 (fun H locs hT => ?_)
        obtain ⟨q, hq0, hq9, hq⟩ := is_rng (x := z) (a := 0) (m := 20) (by decide) c10 (Int32.not_lt.mpr c16) (by decide)
        have hI := ci_putD hq hq9 (cs_lt8 hS hi) (cs_lt8 hS hj) hI
        have hS := hI.1
        refine lv_iconst (v := 1) hx hb dX3_link_33 (by decide) ?_
        exact hret _ 1 (hv_sa v (fa (8 + i)) ((nI j) : Int32).toNatClampNeg z) _ _ _ _ _ dX3_link_34 rfl hT ⟨_, _, _, _, hI⟩ (by decide) (by decide)
      · skip
        refine lv_iconst (v := 0) hx hb dX3_link_19 (by decide) ?_
        exact hret _ 0 v _ _ _ _ _ dX3_link_20 rfl hT ⟨_, _, _, _, hI⟩ (by decide) (by decide)

set_option maxHeartbeats 4000000 in
set_option maxRecDepth 100000 in
theorem c_delay (l : Launch) (D : va_G) (tc : Nat → ClassId) {fa : Nat → Nat} {n : Nat} {w u : Nat → Nat} {b : Nat} {d : Nat → Nat → Nat} {g : Nat × Nat} {k : Nat} {v : hv_V} (hI : ci_I fa n w u b d g k [] v) (x y : Int32) : Met l yX3_delay (Cond.code yX3_delay cX3_delay 3 (some .int) :: lw_B) ({ frames := 2, cells := 0, slots := 0, locals := 43 }) (va_Pc [.ref (fa 0), .int x, .int y] (hv_Pre D tc v)) (va_Qi (fun (r : Int32) (v1 : hv_V) => ∃ u1 b1 d1 k1, ci_I fa n w u1 b1 d1 g k1 [] v1) (hv_Post D tc (hv_A v)) (hv_A v)) (0) (0) (hv_A v) := by
  refine hv_meti l (by decide) (Nat.le_of_ble_eq_true rfl) ?_
  intro p e s m args below meth c Q X hret hK hz H locs ls hT hl
  obtain ⟨hx, hb, hml, hts, hown, hin0⟩ := X
  have hown : s.vm.findClass "CommitSites" = some m.cls := hown
  have hl : lv_has ls 3 [(0, .ref (fa 0)), (1, .int x), (2, .int y)] := hl
  have hS := hI.1
  have hn := hI.2.1.1
  refine lv_aload_n hx hb dX3_delay_0 rfl (lv_at hl 0 rfl) ?_
  refine lv_iload_n hx hb dX3_delay_1 rfl (lv_at hl 1 rfl) ?_
  refine lv_iload_n hx hb dX3_delay_2 rfl (lv_at hl 2 rfl) ?_
  refine hv_calli (va_runV (As := [.int x, .int y]) (rest := []) ⟨hx, hb, hml, hown, hts⟩ (c_isLink l D tc x y hS hn) (cwV 2 hts (tw_V tw_100 tw_101 tw_483 tw_1 tw_102) rfl rfl rfl (by decide +kernel) ⟨Nat.le_of_ble_eq_true rfl, Nat.le_of_ble_eq_true rfl⟩) (hv_preV (ci := 3) hK hT.1 (cs_kX hS) (by decide) rfl rfl) rfl rfl hl.1 rfl (lv_room (Nat.le_of_ble_eq_true rfl)) dX3_delay_3 ⟨Nat.le_of_ble_eq_true rfl, Nat.le_of_ble_eq_true rfl⟩) hT (fun r3 v1 H locs hp2 hT => ?_)
  obtain ⟨evhp2, qhp2⟩ := hp2
  rw [evhp2] at hT
  refine lv_if_eq (tgt := 23) hx hb dX3_delay_6 (by decide) (fun c6 => ?_) (fun c6 => ?_)
  · skip
    refine lv_iconst (v := (-1)) hx hb dX3_delay_23 (by decide) ?_
    exact hret _ (-1) v _ _ _ _ _ dX3_delay_24 rfl hT ⟨_, _, _, _, hI⟩ (by decide) (by decide)
  · skip
    obtain ⟨i, j, hi, hj, hij, rfl, rfl⟩ := (qhp2.resolve_right (fun q => c6 q.1)).2
    refine lv_aload_n hx hb dX3_delay_9 rfl (lv_at hl 0 rfl) ?_
    refine hv_gets (ci := 3) (C := RX3) (T := TX3) (N := 12) hx hb hts (tw_cs in_X3) hown hK hT (cs_kX hS) (by decide) rfl 1 (by decide) (hts _ (tw_c tw_48)) rfl (x := (fa 2)) (cs_pN hS) dX3_delay_10 ?_
    refine hv_gets (ci := 1) (C := RX1) (T := TX1) (N := 9) hx hb hts (tw_cs in_X1) hown hK hT (cs_kN hS) (by decide) rfl 0 (by decide) (hts _ (tw_c tw_27)) rfl (x := (fa 4)) (cs_pD hS) dX3_delay_13 ?_
    refine lv_iload_n hx hb dX3_delay_16 rfl (lv_at hl 1 rfl) ?_
    refine hv_alds (t := 2) hx hb hK hT (cs_kD hS) rfl rfl (cs_in8 (cs_lt8 hS hi)) (x := (fa (8 + i))) (cs_qD hS (cs_lt8 hS hi)) dX3_delay_17 ?_
    refine lv_iload_n hx hb dX3_delay_18 rfl (lv_at hl 2 rfl) ?_
    refine hv_iald hx hb hK hT (cs_kR hS (cs_lt8 hS hi)) (cs_in8 (cs_lt8 hS hj)) dX3_delay_19 ?_
    refine lv_topi (fun g4 eg4 => ?_)
    refine lv_goto (tgt := 24) hx hb dX3_delay_20 (by decide) ?_
    exact hret _ g4 v _ _ _ _ _ dX3_delay_24 rfl hT ⟨_, _, _, _, hI⟩ (by decide) (by decide)

set_option maxHeartbeats 4000000 in
set_option maxRecDepth 100000 in
theorem c_begin (l : Launch) (D : va_G) (tc : Nat → ClassId) {fa : Nat → Nat} {n : Nat} {w u : Nat → Nat} {b : Nat} {d : Nat → Nat → Nat} {g : Nat × Nat} {k : Nat} {v : hv_V} (hI : ci_I fa n w u b d g k [] v) (x y : Int32) : Met l yX3_begin (Cond.code yX3_begin cX3_begin 3 (some .int) :: lw_B) ({ frames := 6, cells := 24, slots := 192, locals := 136 }) (va_Pc [.ref (fa 0), .int x, .int y] (hv_Pre D tc v)) (va_Qi (fun (r : Int32) (v1 : hv_V) => ∃ u1 b1 d1 k1, ci_I fa n w u1 b1 d1 g k1 [] v1) (hv_Post D tc (hv_A v)) (hv_A v)) (24) (192) (hv_A v) := by
  refine hv_meti l (by decide) (Nat.le_of_ble_eq_true rfl) ?_
  intro p e s m args below meth c Q X hret hK hz H locs ls hT hl
  obtain ⟨hx, hb, hml, hts, hown, hin0⟩ := X
  have hown : s.vm.findClass "CommitSites" = some m.cls := hown
  have hl : lv_has ls 3 [(0, .ref (fa 0)), (1, .int x), (2, .int y)] := hl
  have hS := hI.1
  have hn := hI.2.1.1
  refine lv_aload_n hx hb dX3_begin_0 rfl (lv_at hl 0 rfl) ?_
  refine lv_iload_n hx hb dX3_begin_1 rfl (lv_at hl 1 rfl) ?_
  refine hv_calli (va_runV (As := [.int x]) (rest := []) ⟨hx, hb, hml, hown, hts⟩ (c_isSite l D tc x hS hn) (cwV 1 hts (tw_V tw_103 tw_104 tw_484 tw_1 tw_105) rfl rfl rfl (by decide +kernel) ⟨Nat.le_of_ble_eq_true rfl, Nat.le_of_ble_eq_true rfl⟩) (hv_preV (ci := 3) hK hT.1 (cs_kX hS) (by decide) rfl rfl) rfl rfl hl.1 rfl (lv_room (Nat.le_of_ble_eq_true rfl)) dX3_begin_2 ⟨by show 0 + 0 ≤ 24; omega, by show 0 + 0 ≤ 192; omega⟩) hT (fun r3 v1 H locs hp2 hT => ?_)
  obtain ⟨evhp2, qhp2⟩ := hp2
  rw [evhp2] at hT
  refine lv_if_eq (tgt := 27) hx hb dX3_begin_5 (by decide) (fun c5 => ?_) (fun c5 => ?_)
  · skip
    refine lv_iconst (v := 0) hx hb dX3_begin_27 (by decide) ?_
    exact hret _ 0 v _ _ _ _ _ dX3_begin_28 rfl hT ⟨_, _, _, _, hI⟩ (by show 0 + 0 ≤ 24; omega) (by show 0 + 0 ≤ 192; omega)
  · skip
    obtain ⟨i, hi, rfl⟩ := (qhp2.resolve_right (fun q => c5 q.1)).2
    refine lv_aload_n hx hb dX3_begin_8 rfl (lv_at hl 0 rfl) ?_
    refine hv_gets (ci := 3) (C := RX3) (T := TX3) (N := 12) hx hb hts (tw_cs in_X3) hown hK hT (cs_kX hS) (by decide) rfl 0 (by decide) (hts _ (tw_c tw_47)) rfl (x := (fa 1)) (cs_pS hS) dX3_begin_9 ?_
    refine lv_iload_n hx hb dX3_begin_12 rfl (lv_at hl 1 rfl) ?_
    refine hv_alds (t := 0) hx hb hK hT (cs_kS hS) rfl rfl (cs_in8 (cs_lt8 hS hi)) (x := (fa (16 + i))) (cs_qS hS hi) dX3_begin_13 ?_
    refine hv_geti (ci := 2) (C := RX2) (T := TX2) (N := 10) hx hb hts (tw_cs in_X2) hown hK hT (cs_ks hS hi) (by decide) rfl 3 (by decide) (hts _ (tw_c tw_79)) rfl dX3_begin_14 ?_
    refine lv_topi (fun g4 eg4 => ?_)
    refine lv_if_eq (tgt := 27) hx hb dX3_begin_17 (by decide) (fun c17 => ?_) (fun c17 => ?_)
    · skip
      refine lv_iconst (v := 0) hx hb dX3_begin_27 (by decide) ?_
      exact hret _ 0 v _ _ _ _ _ dX3_begin_28 rfl hT ⟨_, _, _, _, hI⟩ (by show 0 + 0 ≤ 24; omega) (by show 0 + 0 ≤ 192; omega)
    · skip
      refine lv_aload_n hx hb dX3_begin_20 rfl (lv_at hl 0 rfl) ?_
      refine hv_geti (ci := 3) (C := RX3) (T := TX3) (N := 12) hx hb hts (tw_cs in_X3) hown hK hT (cs_kX hS) (by decide) rfl 8 (by decide) (hts _ (tw_c tw_55)) rfl dX3_begin_21 ?_
      refine lv_topi (fun g5 eg5 => ?_)
      refine lv_if_eq (tgt := 29) hx hb dX3_begin_24 (by decide) (fun c24 => ?_) (fun c24 => ?_)
      · skip
        refine lv_aload_n hx hb dX3_begin_29 rfl (lv_at hl 0 rfl) ?_
        refine lv_iconst (v := 1) hx hb dX3_begin_30 (by decide) ?_
        refine hv_puti (ci := 3) (C := RX3) (T := TX3) (N := 12) hx hb hts (tw_cs in_X3) tyX3 tyX3_ok nmX3 hown hK hT (cs_kX hS) (by decide) rfl 8 (by decide) (hts _ (tw_c tw_55)) rfl rfl (x := 1) rfl rfl dX3_begin_31 (fun H locs hT => ?_)
        have hI := ci_putB (x := 1) (b' := 1) rfl (by decide) hI
        have hS := hI.1
        refine lv_aload_n hx hb dX3_begin_34 rfl (lv_at hl 0 rfl) ?_
        refine lv_iload_n hx hb dX3_begin_35 rfl (lv_at hl 2 rfl) ?_
        refine hv_puti (ci := 3) (C := RX3) (T := TX3) (N := 12) hx hb hts (tw_cs in_X3) tyX3 tyX3_ok nmX3 hown hK hT (cs_kX hS) (by decide) rfl 9 (by decide) (hts _ (tw_c tw_56)) rfl rfl (x := y) rfl rfl dX3_begin_36 (fun H locs hT => ?_)
        have hI := ci_put (f := 309) (a := (fa 0)) (x := y) rfl hI
        have hS := hI.1
        refine lv_iload_n hx hb dX3_begin_39 rfl (lv_at hl 2 rfl) ?_
        refine lv_iload_n hx hb dX3_begin_40 rfl (lv_at hl 1 rfl) ?_
        refine hv_calli (va_runS (As := [.int y, .int (nI i)]) (rest := []) ⟨hx, hb, hml, hown, hts⟩ (c_hasBit l D tc y (nI i)) (va_cwS 2 hts (tw_S tw_110 tw_111 tw_1 tw_112) rfl rfl rfl (by decide +kernel) ⟨Nat.le_of_ble_eq_true rfl, Nat.le_of_ble_eq_true rfl⟩) (hv_preS hK hT.1) rfl rfl hl.1 rfl (lv_room (Nat.le_of_ble_eq_true rfl)) dX3_begin_41 ⟨by show 0 + 0 + 0 ≤ 24; omega, by show 0 + 0 + 0 ≤ 192; omega⟩) hT (fun r8 v6 H locs hp7 hT => ?_)
        obtain ⟨evhp7, qhp7⟩ := hp7
        rw [evhp7] at hT
        refine lv_if_eq (tgt := 55) hx hb dX3_begin_44 (by decide) (fun c44 => ?_) (fun c44 => ?_)
        · skip
          refine lv_aload_n hx hb dX3_begin_55 rfl (lv_at hl 0 rfl) ?_
          refine lv_iload_n hx hb dX3_begin_56 rfl (lv_at hl 1 rfl) ?_
          refine lv_iconst (v := 5) hx hb dX3_begin_57 (by decide) ?_
          refine hv_callv (va_runV (As := [.int (nI i), .int 5]) (rest := []) ⟨hx, hb, hml, hown, hts⟩ (c_decide l D tc hI hi (Nat.zero_le _) 5) (cwV 2 hts (tw_V tw_180 tw_181 tw_492 tw_1 tw_182) rfl rfl rfl (by decide +kernel) ⟨Nat.le_of_ble_eq_true rfl, Nat.le_of_ble_eq_true rfl⟩) (hv_preV (ci := 3) hK hT.1 (cs_kX hS) (by decide) rfl rfl) rfl rfl hl.1 rfl (lv_room (Nat.le_of_ble_eq_true rfl)) dX3_begin_58 ⟨by show 0 + 0 + 0 + 8 ≤ 24; omega, by show 0 + 0 + 0 + 64 ≤ 192; omega⟩) hT (fun v9 H locs hp10 hT => ?_)
          obtain ⟨_, hI⟩ := hp10
          have hS := hI.1
          refine lv_iconst (v := 1) hx hb dX3_begin_61 (by decide) ?_
          exact hret _ 1 v9 _ _ _ _ _ dX3_begin_62 rfl hT ⟨_, _, _, _, hI⟩ (by show 0 + 0 + 0 + 8 ≤ 24; omega) (by show 0 + 0 + 0 + 64 ≤ 192; omega)
        · skip
          refine lv_aload_n hx hb dX3_begin_47 rfl (lv_at hl 0 rfl) ?_
          refine lv_iload_n hx hb dX3_begin_48 rfl (lv_at hl 1 rfl) ?_
          refine hv_callv (va_runV (As := [.int (nI i)]) (rest := []) ⟨hx, hb, hml, hown, hts⟩ (c_askVotes l D tc hI hi (Nat.zero_le _)) (cwV 1 hts (tw_V tw_121 tw_122 tw_485 tw_1 tw_123) rfl rfl rfl (by decide +kernel) ⟨Nat.le_of_ble_eq_true rfl, Nat.le_of_ble_eq_true rfl⟩) (hv_preV (ci := 3) hK hT.1 (cs_kX hS) (by decide) rfl rfl) rfl rfl hl.1 rfl (lv_room (Nat.le_of_ble_eq_true rfl)) dX3_begin_49 ⟨by show 0 + 0 + 0 + 24 ≤ 24; omega, by show 0 + 0 + 0 + 192 ≤ 192; omega⟩) hT (fun v11 H locs hp12 hT => ?_)
          obtain ⟨_, hI⟩ := hp12
          have hS := hI.1
          refine lv_goto (tgt := 61) hx hb dX3_begin_52 (by decide) ?_
          refine lv_iconst (v := 1) hx hb dX3_begin_61 (by decide) ?_
          exact hret _ 1 v11 _ _ _ _ _ dX3_begin_62 rfl hT ⟨_, _, _, _, hI⟩ (by show 0 + 0 + 0 + 24 ≤ 24; omega) (by show 0 + 0 + 0 + 192 ≤ 192; omega)
      · skip
        refine lv_iconst (v := 0) hx hb dX3_begin_27 (by decide) ?_
        exact hret _ 0 v _ _ _ _ _ dX3_begin_28 rfl hT ⟨_, _, _, _, hI⟩ (by show 0 + 0 ≤ 24; omega) (by show 0 + 0 ≤ 192; omega)

set_option maxHeartbeats 4000000 in
set_option maxRecDepth 100000 in
theorem c_crash (l : Launch) (D : va_G) (tc : Nat → ClassId) {fa : Nat → Nat} {n : Nat} {w u : Nat → Nat} {b : Nat} {d : Nat → Nat → Nat} {g : Nat × Nat} {k : Nat} {v : hv_V} (hI : ci_I fa n w u b d g k [] v) (x : Int32) : Met l yX3_crash (Cond.code yX3_crash cX3_crash 3 (some .int) :: lw_B) ({ frames := 1, cells := 0, slots := 0, locals := 21 }) (va_Pc [.ref (fa 0), .int x] (hv_Pre D tc v)) (va_Qi (fun (r : Int32) (v1 : hv_V) => ∃ u1 b1 d1 k1, ci_I fa n w u1 b1 d1 g k1 [] v1) (hv_Post D tc (hv_A v)) (hv_A v)) (0) (0) (hv_A v) := by
  refine hv_meti l (by decide) (Nat.le_of_ble_eq_true rfl) ?_
  intro p e s m args below meth c Q X hret hK hz H locs ls hT hl
  obtain ⟨hx, hb, hml, hts, hown, hin0⟩ := X
  have hown : s.vm.findClass "CommitSites" = some m.cls := hown
  have hl : lv_has ls 3 [(0, .ref (fa 0)), (1, .int x)] := hl
  have hS := hI.1
  have hn := hI.2.1.1
  refine lv_aload_n hx hb dX3_crash_0 rfl (lv_at hl 0 rfl) ?_
  refine lv_iload_n hx hb dX3_crash_1 rfl (lv_at hl 1 rfl) ?_
  refine hv_calli (va_runV (As := [.int x]) (rest := []) ⟨hx, hb, hml, hown, hts⟩ (c_isSite l D tc x hS hn) (cwV 1 hts (tw_V tw_103 tw_104 tw_484 tw_1 tw_105) rfl rfl rfl (by decide +kernel) ⟨Nat.le_of_ble_eq_true rfl, Nat.le_of_ble_eq_true rfl⟩) (hv_preV (ci := 3) hK hT.1 (cs_kX hS) (by decide) rfl rfl) rfl rfl hl.1 rfl (lv_room (Nat.le_of_ble_eq_true rfl)) dX3_crash_2 ⟨Nat.le_of_ble_eq_true rfl, Nat.le_of_ble_eq_true rfl⟩) hT (fun r3 v1 H locs hp2 hT => ?_)
  obtain ⟨evhp2, qhp2⟩ := hp2
  rw [evhp2] at hT
  refine lv_if_eq (tgt := 20) hx hb dX3_crash_5 (by decide) (fun c5 => ?_) (fun c5 => ?_)
  · skip
    refine lv_iconst (v := 0) hx hb dX3_crash_20 (by decide) ?_
    exact hret _ 0 v _ _ _ _ _ dX3_crash_21 rfl hT ⟨_, _, _, _, hI⟩ (by decide) (by decide)
  · skip
    obtain ⟨i, hi, rfl⟩ := (qhp2.resolve_right (fun q => c5 q.1)).2
    refine lv_aload_n hx hb dX3_crash_8 rfl (lv_at hl 0 rfl) ?_
    refine hv_gets (ci := 3) (C := RX3) (T := TX3) (N := 12) hx hb hts (tw_cs in_X3) hown hK hT (cs_kX hS) (by decide) rfl 0 (by decide) (hts _ (tw_c tw_47)) rfl (x := (fa 1)) (cs_pS hS) dX3_crash_9 ?_
    refine lv_iload_n hx hb dX3_crash_12 rfl (lv_at hl 1 rfl) ?_
    refine hv_alds (t := 0) hx hb hK hT (cs_kS hS) rfl rfl (cs_in8 (cs_lt8 hS hi)) (x := (fa (16 + i))) (cs_qS hS hi) dX3_crash_13 ?_
    refine hv_geti (ci := 2) (C := RX2) (T := TX2) (N := 10) hx hb hts (tw_cs in_X2) hown hK hT (cs_ks hS hi) (by decide) rfl 3 (by decide) (hts _ (tw_c tw_79)) rfl dX3_crash_14 ?_
    refine lv_topi (fun g4 eg4 => ?_)
    refine lv_if_ne (tgt := 22) hx hb dX3_crash_17 (by decide) (fun c17 => ?_) (fun c17 => ?_)
    · skip
      refine lv_aload_n hx hb dX3_crash_22 rfl (lv_at hl 0 rfl) ?_
      refine hv_gets (ci := 3) (C := RX3) (T := TX3) (N := 12) hx hb hts (tw_cs in_X3) hown hK hT (cs_kX hS) (by decide) rfl 0 (by decide) (hts _ (tw_c tw_47)) rfl (x := (fa 1)) (cs_pS hS) dX3_crash_23 ?_
      refine lv_iload_n hx hb dX3_crash_26 rfl (lv_at hl 1 rfl) ?_
      refine hv_alds (t := 0) hx hb hK hT (cs_kS hS) rfl rfl (cs_in8 (cs_lt8 hS hi)) (x := (fa (16 + i))) (cs_qS hS hi) dX3_crash_27 ?_
      refine lv_astore_n (lv' := [(2, _), (0, _), (1, _)]) hx hb dX3_crash_28 rfl hl (by decide) rfl (fun ls hl => ?_)
      refine lv_aload_n hx hb dX3_crash_29 rfl (lv_at hl 0 rfl) ?_
      refine lv_iconst (v := 0) hx hb dX3_crash_30 (by decide) ?_
      refine hv_puti (ci := 2) (C := RX2) (T := TX2) (N := 10) hx hb hts (tw_cs in_X2) tyX2 tyX2_ok nmX2 hown hK hT (cs_ks hS hi) (by decide) rfl 3 (by decide) (hts _ (tw_c tw_79)) rfl rfl (x := 0) rfl rfl dX3_crash_31 (fun H locs hT => ?_)
      have hI := ci_putU (x := 0) (z := 0) rfl (by decide) hi hI
      have hS := hI.1
      refine lv_aload_n hx hb dX3_crash_34 rfl (lv_at hl 0 rfl) ?_
      refine lv_iconst (v := 0) hx hb dX3_crash_35 (by decide) ?_
      refine hv_puti (ci := 2) (C := RX2) (T := TX2) (N := 10) hx hb hts (tw_cs in_X2) tyX2 tyX2_ok nmX2 hown hK hT (cs_ks hS hi) (by decide) rfl 6 (by decide) (hts _ (tw_c tw_85)) rfl rfl (x := 0) rfl rfl dX3_crash_36 (fun H locs hT => ?_)
      have hI := ci_put (f := 206) (a := (fa (16 + i))) (x := 0) rfl hI
      have hS := hI.1
      refine lv_aload_n hx hb dX3_crash_39 rfl (lv_at hl 0 rfl) ?_
      refine lv_iconst (v := (-1)) hx hb dX3_crash_40 (by decide) ?_
      refine hv_puti (ci := 2) (C := RX2) (T := TX2) (N := 10) hx hb hts (tw_cs in_X2) tyX2 tyX2_ok nmX2 hown hK hT (cs_ks hS hi) (by decide) rfl 8 (by decide) (hts _ (tw_c tw_89)) rfl rfl (x := (-1)) rfl rfl dX3_crash_41 (fun H locs hT => ?_)
      have hI := ci_putT (i := i) (x := (-1)) (Or.inl rfl) hI hi
      have hS := hI.1
      refine lv_iconst (v := 1) hx hb dX3_crash_44 (by decide) ?_
      exact hret _ 1 (hv_si (hv_si (hv_si v 203 (fa (16 + i)) 0) 206 (fa (16 + i)) 0) 208 (fa (16 + i)) (-1)) _ _ _ _ _ dX3_crash_45 rfl hT ⟨_, _, _, _, hI⟩ (by decide) (by decide)
    · skip
      refine lv_iconst (v := 0) hx hb dX3_crash_20 (by decide) ?_
      exact hret _ 0 v _ _ _ _ _ dX3_crash_21 rfl hT ⟨_, _, _, _, hI⟩ (by decide) (by decide)

set_option maxHeartbeats 4000000 in
set_option maxRecDepth 100000 in
theorem c_recover (l : Launch) (D : va_G) (tc : Nat → ClassId) {fa : Nat → Nat} {n : Nat} {w u : Nat → Nat} {b : Nat} {d : Nat → Nat → Nat} {g : Nat × Nat} {k : Nat} {v : hv_V} (hI : ci_I fa n w u b d g k [] v) (x : Int32) : Met l yX3_recover (Cond.code yX3_recover cX3_recover 3 (some .int) :: lw_B) ({ frames := 4, cells := 8, slots := 64, locals := 89 }) (va_Pc [.ref (fa 0), .int x] (hv_Pre D tc v)) (va_Qi (fun (r : Int32) (v1 : hv_V) => ∃ u1 b1 d1 k1, ci_I fa n w u1 b1 d1 g k1 [] v1) (hv_Post D tc (hv_A v)) (hv_A v)) (8) (64) (hv_A v) := by
  refine hv_meti l (by decide) (Nat.le_of_ble_eq_true rfl) ?_
  intro p e s m args below meth c Q X hret hK hz H locs ls hT hl
  obtain ⟨hx, hb, hml, hts, hown, hin0⟩ := X
  have hown : s.vm.findClass "CommitSites" = some m.cls := hown
  have hl : lv_has ls 3 [(0, .ref (fa 0)), (1, .int x)] := hl
  have hS := hI.1
  have hn := hI.2.1.1
  refine lv_aload_n hx hb dX3_recover_0 rfl (lv_at hl 0 rfl) ?_
  refine lv_iload_n hx hb dX3_recover_1 rfl (lv_at hl 1 rfl) ?_
  refine hv_calli (va_runV (As := [.int x]) (rest := []) ⟨hx, hb, hml, hown, hts⟩ (c_isSite l D tc x hS hn) (cwV 1 hts (tw_V tw_103 tw_104 tw_484 tw_1 tw_105) rfl rfl rfl (by decide +kernel) ⟨Nat.le_of_ble_eq_true rfl, Nat.le_of_ble_eq_true rfl⟩) (hv_preV (ci := 3) hK hT.1 (cs_kX hS) (by decide) rfl rfl) rfl rfl hl.1 rfl (lv_room (Nat.le_of_ble_eq_true rfl)) dX3_recover_2 ⟨by show 0 + 0 ≤ 8; omega, by show 0 + 0 ≤ 64; omega⟩) hT (fun r3 v1 H locs hp2 hT => ?_)
  obtain ⟨evhp2, qhp2⟩ := hp2
  rw [evhp2] at hT
  refine lv_if_eq (tgt := 20) hx hb dX3_recover_5 (by decide) (fun c5 => ?_) (fun c5 => ?_)
  · skip
    refine lv_iconst (v := 0) hx hb dX3_recover_20 (by decide) ?_
    exact hret _ 0 v _ _ _ _ _ dX3_recover_21 rfl hT ⟨_, _, _, _, hI⟩ (by show 0 + 0 ≤ 8; omega) (by show 0 + 0 ≤ 64; omega)
  · skip
    obtain ⟨i, hi, rfl⟩ := (qhp2.resolve_right (fun q => c5 q.1)).2
    refine lv_aload_n hx hb dX3_recover_8 rfl (lv_at hl 0 rfl) ?_
    refine hv_gets (ci := 3) (C := RX3) (T := TX3) (N := 12) hx hb hts (tw_cs in_X3) hown hK hT (cs_kX hS) (by decide) rfl 0 (by decide) (hts _ (tw_c tw_47)) rfl (x := (fa 1)) (cs_pS hS) dX3_recover_9 ?_
    refine lv_iload_n hx hb dX3_recover_12 rfl (lv_at hl 1 rfl) ?_
    refine hv_alds (t := 0) hx hb hK hT (cs_kS hS) rfl rfl (cs_in8 (cs_lt8 hS hi)) (x := (fa (16 + i))) (cs_qS hS hi) dX3_recover_13 ?_
    refine hv_geti (ci := 2) (C := RX2) (T := TX2) (N := 10) hx hb hts (tw_cs in_X2) hown hK hT (cs_ks hS hi) (by decide) rfl 3 (by decide) (hts _ (tw_c tw_79)) rfl dX3_recover_14 ?_
    refine lv_topi (fun g4 eg4 => ?_)
    refine lv_if_eq (tgt := 22) hx hb dX3_recover_17 (by decide) (fun c17 => ?_) (fun c17 => ?_)
    · skip
      refine lv_aload_n hx hb dX3_recover_22 rfl (lv_at hl 0 rfl) ?_
      refine hv_gets (ci := 3) (C := RX3) (T := TX3) (N := 12) hx hb hts (tw_cs in_X3) hown hK hT (cs_kX hS) (by decide) rfl 0 (by decide) (hts _ (tw_c tw_47)) rfl (x := (fa 1)) (cs_pS hS) dX3_recover_23 ?_
      refine lv_iload_n hx hb dX3_recover_26 rfl (lv_at hl 1 rfl) ?_
      refine hv_alds (t := 0) hx hb hK hT (cs_kS hS) rfl rfl (cs_in8 (cs_lt8 hS hi)) (x := (fa (16 + i))) (cs_qS hS hi) dX3_recover_27 ?_
      refine lv_astore_n (lv' := [(2, _), (0, _), (1, _)]) hx hb dX3_recover_28 rfl hl (by decide) rfl (fun ls hl => ?_)
      refine lv_aload_n hx hb dX3_recover_29 rfl (lv_at hl 0 rfl) ?_
      refine lv_iconst (v := 1) hx hb dX3_recover_30 (by decide) ?_
      refine hv_puti (ci := 2) (C := RX2) (T := TX2) (N := 10) hx hb hts (tw_cs in_X2) tyX2 tyX2_ok nmX2 hown hK hT (cs_ks hS hi) (by decide) rfl 3 (by decide) (hts _ (tw_c tw_79)) rfl rfl (x := 1) rfl rfl dX3_recover_31 (fun H locs hT => ?_)
      have hI := ci_putU (x := 1) (z := 1) rfl (by decide) hi hI
      have hS := hI.1
      refine lv_aload_n hx hb dX3_recover_34 rfl (lv_at hl 1 rfl) ?_
      refine hv_geti (ci := 3) (C := RX3) (T := TX3) (N := 12) hx hb hts (tw_cs in_X3) hown hK hT (cs_kX hS) (by decide) rfl 8 (by decide) (hts _ (tw_c tw_55)) rfl dX3_recover_35 ?_
      refine lv_topi (fun g5 eg5 => ?_)
      refine lv_if_eq (tgt := 57) hx hb dX3_recover_38 (by decide) (fun c38 => ?_) (fun c38 => ?_)
      · skip
        refine lv_aload_n hx hb dX3_recover_57 rfl (lv_at hl 1 rfl) ?_
        refine hv_geti (ci := 3) (C := RX3) (T := TX3) (N := 12) hx hb hts (tw_cs in_X3) hown hK hT (cs_kX hS) (by decide) rfl 8 (by decide) (hts _ (tw_c tw_55)) rfl dX3_recover_58 ?_
        refine lv_topi (fun g6 eg6 => ?_)
        refine lv_if_eq (tgt := 76) hx hb dX3_recover_61 (by decide) (fun c61 => ?_) (fun c61 => ?_)
        · skip
          refine lv_iconst (v := 1) hx hb dX3_recover_76 (by decide) ?_
          exact hret _ 1 (hv_si v 203 (fa (16 + i)) 1) _ _ _ _ _ dX3_recover_77 rfl hT ⟨_, _, _, _, hI⟩ (by show 0 + 0 ≤ 8; omega) (by show 0 + 0 ≤ 64; omega)
        · skip
          refine lv_aload_n hx hb dX3_recover_64 rfl (lv_at hl 0 rfl) ?_
          refine hv_calli (va_runV (As := []) (rest := []) ⟨hx, hb, hml, hown, hts⟩ (c_isDecided l D tc hS hi) (cwV 0 hts (tw_V tw_127 tw_128 tw_129 tw_4 tw_130) rfl rfl rfl (by decide +kernel) ⟨Nat.le_of_ble_eq_true rfl, Nat.le_of_ble_eq_true rfl⟩) (hv_preV (ci := 2) hK hT.1 (cs_ks hS hi) (by decide) rfl rfl) rfl rfl hl.1 rfl (lv_room (Nat.le_of_ble_eq_true rfl)) dX3_recover_65 ⟨by show 0 + 0 + 0 ≤ 8; omega, by show 0 + 0 + 0 ≤ 64; omega⟩) hT (fun r9 v7 H locs hp8 hT => ?_)
          rw [hp8] at hT
          refine lv_if_ne (tgt := 76) hx hb dX3_recover_68 (by decide) (fun c68 => ?_) (fun c68 => ?_)
          · skip
            refine lv_iconst (v := 1) hx hb dX3_recover_76 (by decide) ?_
            exact hret _ 1 (hv_si v 203 (fa (16 + i)) 1) _ _ _ _ _ dX3_recover_77 rfl hT ⟨_, _, _, _, hI⟩ (by show 0 + 0 + 0 ≤ 8; omega) (by show 0 + 0 + 0 ≤ 64; omega)
          · skip
            refine lv_aload_n hx hb dX3_recover_71 rfl (lv_at hl 1 rfl) ?_
            refine lv_iload_n hx hb dX3_recover_72 rfl (lv_at hl 2 rfl) ?_
            refine hv_callv (va_runV (As := [.int (nI i)]) (rest := []) ⟨hx, hb, hml, hown, hts⟩ (c_attempt l D tc hI hi (Nat.zero_le _)) (cwV 1 hts (tw_V tw_194 tw_195 tw_493 tw_1 tw_196) rfl rfl rfl (by decide +kernel) ⟨Nat.le_of_ble_eq_true rfl, Nat.le_of_ble_eq_true rfl⟩) (hv_preV (ci := 3) hK hT.1 (cs_kX hS) (by decide) rfl rfl) rfl rfl hl.1 rfl (lv_room (Nat.le_of_ble_eq_true rfl)) dX3_recover_73 ⟨by show 0 + 0 + 0 + 8 ≤ 8; omega, by show 0 + 0 + 0 + 64 ≤ 64; omega⟩) hT (fun v10 H locs hp11 hT => ?_)
            obtain ⟨_, hI⟩ := hp11
            have hS := hI.1
            refine lv_iconst (v := 1) hx hb dX3_recover_76 (by decide) ?_
            exact hret _ 1 v10 _ _ _ _ _ dX3_recover_77 rfl hT ⟨_, _, _, _, hI⟩ (by show 0 + 0 + 0 + 8 ≤ 8; omega) (by show 0 + 0 + 0 + 64 ≤ 64; omega)
      · skip
        refine lv_aload_n hx hb dX3_recover_41 rfl (lv_at hl 0 rfl) ?_
        refine hv_geti (ci := 2) (C := RX2) (T := TX2) (N := 10) hx hb hts (tw_cs in_X2) hown hK hT (cs_ks hS hi) (by decide) rfl 4 (by decide) (hts _ (tw_c tw_81)) rfl dX3_recover_42 ?_
        refine lv_topi (fun g12 eg12 => ?_)
        refine lv_if_ne (tgt := 57) hx hb dX3_recover_45 (by decide) (fun c45 => ?_) (fun c45 => ?_)
        · skip
          refine lv_aload_n hx hb dX3_recover_57 rfl (lv_at hl 1 rfl) ?_
          refine hv_geti (ci := 3) (C := RX3) (T := TX3) (N := 12) hx hb hts (tw_cs in_X3) hown hK hT (cs_kX hS) (by decide) rfl 8 (by decide) (hts _ (tw_c tw_55)) rfl dX3_recover_58 ?_
          refine lv_topi (fun g13 eg13 => ?_)
          refine lv_if_eq (tgt := 76) hx hb dX3_recover_61 (by decide) (fun c61 => ?_) (fun c61 => ?_)
          · skip
            refine lv_iconst (v := 1) hx hb dX3_recover_76 (by decide) ?_
            exact hret _ 1 (hv_si v 203 (fa (16 + i)) 1) _ _ _ _ _ dX3_recover_77 rfl hT ⟨_, _, _, _, hI⟩ (by show 0 + 0 ≤ 8; omega) (by show 0 + 0 ≤ 64; omega)
          · skip
            refine lv_aload_n hx hb dX3_recover_64 rfl (lv_at hl 0 rfl) ?_
            refine hv_calli (va_runV (As := []) (rest := []) ⟨hx, hb, hml, hown, hts⟩ (c_isDecided l D tc hS hi) (cwV 0 hts (tw_V tw_127 tw_128 tw_129 tw_4 tw_130) rfl rfl rfl (by decide +kernel) ⟨Nat.le_of_ble_eq_true rfl, Nat.le_of_ble_eq_true rfl⟩) (hv_preV (ci := 2) hK hT.1 (cs_ks hS hi) (by decide) rfl rfl) rfl rfl hl.1 rfl (lv_room (Nat.le_of_ble_eq_true rfl)) dX3_recover_65 ⟨by show 0 + 0 + 0 ≤ 8; omega, by show 0 + 0 + 0 ≤ 64; omega⟩) hT (fun r16 v14 H locs hp15 hT => ?_)
            rw [hp15] at hT
            refine lv_if_ne (tgt := 76) hx hb dX3_recover_68 (by decide) (fun c68 => ?_) (fun c68 => ?_)
            · skip
              refine lv_iconst (v := 1) hx hb dX3_recover_76 (by decide) ?_
              exact hret _ 1 (hv_si v 203 (fa (16 + i)) 1) _ _ _ _ _ dX3_recover_77 rfl hT ⟨_, _, _, _, hI⟩ (by show 0 + 0 + 0 ≤ 8; omega) (by show 0 + 0 + 0 ≤ 64; omega)
            · skip
              refine lv_aload_n hx hb dX3_recover_71 rfl (lv_at hl 1 rfl) ?_
              refine lv_iload_n hx hb dX3_recover_72 rfl (lv_at hl 2 rfl) ?_
              refine hv_callv (va_runV (As := [.int (nI i)]) (rest := []) ⟨hx, hb, hml, hown, hts⟩ (c_attempt l D tc hI hi (Nat.zero_le _)) (cwV 1 hts (tw_V tw_194 tw_195 tw_493 tw_1 tw_196) rfl rfl rfl (by decide +kernel) ⟨Nat.le_of_ble_eq_true rfl, Nat.le_of_ble_eq_true rfl⟩) (hv_preV (ci := 3) hK hT.1 (cs_kX hS) (by decide) rfl rfl) rfl rfl hl.1 rfl (lv_room (Nat.le_of_ble_eq_true rfl)) dX3_recover_73 ⟨by show 0 + 0 + 0 + 8 ≤ 8; omega, by show 0 + 0 + 0 + 64 ≤ 64; omega⟩) hT (fun v17 H locs hp18 hT => ?_)
              obtain ⟨_, hI⟩ := hp18
              have hS := hI.1
              refine lv_iconst (v := 1) hx hb dX3_recover_76 (by decide) ?_
              exact hret _ 1 v17 _ _ _ _ _ dX3_recover_77 rfl hT ⟨_, _, _, _, hI⟩ (by show 0 + 0 + 0 + 8 ≤ 8; omega) (by show 0 + 0 + 0 + 64 ≤ 64; omega)
        · skip
          refine lv_aload_n hx hb dX3_recover_48 rfl (lv_at hl 1 rfl) ?_
          refine lv_aload_n hx hb dX3_recover_49 rfl (lv_at hl 0 rfl) ?_
          refine lv_iconst (v := 5) hx hb dX3_recover_50 (by decide) ?_
          refine hv_callv (va_runV (As := [.ref (fa (16 + i)), .int 5]) (rest := []) ⟨hx, hb, hml, hown, hts⟩ (c_become l D tc hI hi 5) (cwV 2 hts (tw_V tw_124 tw_125 tw_486 tw_1 tw_126) rfl rfl rfl (by decide +kernel) ⟨Nat.le_of_ble_eq_true rfl, Nat.le_of_ble_eq_true rfl⟩) (hv_preV (ci := 3) hK hT.1 (cs_kX hS) (by decide) rfl rfl) rfl rfl hl.1 rfl (lv_room (Nat.le_of_ble_eq_true rfl)) dX3_recover_51 ⟨by show 0 + 0 + 0 ≤ 8; omega, by show 0 + 0 + 0 ≤ 64; omega⟩) hT (fun v19 H locs hp20 hT => ?_)
          have hI := hp20
          have hS := hI.1
          refine lv_goto (tgt := 76) hx hb dX3_recover_54 (by decide) ?_
          refine lv_iconst (v := 1) hx hb dX3_recover_76 (by decide) ?_
          exact hret _ 1 v19 _ _ _ _ _ dX3_recover_77 rfl hT ⟨_, _, _, _, hI⟩ (by show 0 + 0 + 0 ≤ 8; omega) (by show 0 + 0 + 0 ≤ 64; omega)
    · skip
      refine lv_iconst (v := 0) hx hb dX3_recover_20 (by decide) ?_
      exact hret _ 0 v _ _ _ _ _ dX3_recover_21 rfl hT ⟨_, _, _, _, hI⟩ (by show 0 + 0 ≤ 8; omega) (by show 0 + 0 ≤ 64; omega)

set_option maxHeartbeats 4000000 in
set_option maxRecDepth 100000 in
theorem c_of (l : Launch) (D : va_G) (tc : Nat → ClassId) {fa : Nat → Nat} {n : Nat} {w u : Nat → Nat} {b : Nat} {d : Nat → Nat → Nat} {g : Nat × Nat} {k : Nat} {v : hv_V} (hI : ci_I fa n w u b d g k [] v) (x y : Int32) : Met l yX3_of (Cond.code yX3_of cX3_of 4 (some .int) :: lw_B) ({ frames := 1, cells := 0, slots := 0, locals := 21 }) (va_Pc [.ref (fa 0), .int x, .int y] (hv_Pre D tc v)) (va_Qi (fun (r : Int32) (v1 : hv_V) => ∃ u1 b1 d1 k1, ci_I fa n w u1 b1 d1 g k1 [] v1) (hv_Post D tc (hv_A v)) (hv_A v)) (0) (0) (hv_A v) := by
  refine hv_meti l (by decide) (Nat.le_of_ble_eq_true rfl) ?_
  intro p e s m args below meth c Q X hret hK hz H locs ls hT hl
  obtain ⟨hx, hb, hml, hts, hown, hin0⟩ := X
  have hown : s.vm.findClass "CommitSites" = some m.cls := hown
  have hl : lv_has ls 4 [(0, .ref (fa 0)), (1, .int x), (2, .int y)] := hl
  have hS := hI.1
  have hn := hI.2.1.1
  refine lv_aload_n hx hb dX3_of_0 rfl (lv_at hl 0 rfl) ?_
  refine lv_iload_n hx hb dX3_of_1 rfl (lv_at hl 1 rfl) ?_
  refine hv_calli (va_runV (As := [.int x]) (rest := []) ⟨hx, hb, hml, hown, hts⟩ (c_isSite l D tc x hS hn) (cwV 1 hts (tw_V tw_103 tw_104 tw_484 tw_1 tw_105) rfl rfl rfl (by decide +kernel) ⟨Nat.le_of_ble_eq_true rfl, Nat.le_of_ble_eq_true rfl⟩) (hv_preV (ci := 3) hK hT.1 (cs_kX hS) (by decide) rfl rfl) rfl rfl hl.1 rfl (lv_room (Nat.le_of_ble_eq_true rfl)) dX3_of_2 ⟨Nat.le_of_ble_eq_true rfl, Nat.le_of_ble_eq_true rfl⟩) hT (fun r3 v1 H locs hp2 hT => ?_)
  obtain ⟨evhp2, qhp2⟩ := hp2
  rw [evhp2] at hT
  refine lv_if_ne (tgt := 10) hx hb dX3_of_5 (by decide) (fun c5 => ?_) (fun c5 => ?_)
  · skip
    obtain ⟨i, hi, rfl⟩ := (qhp2.resolve_right (fun q => c5 q.1)).2
    refine lv_aload_n hx hb dX3_of_10 rfl (lv_at hl 0 rfl) ?_
    refine hv_gets (ci := 3) (C := RX3) (T := TX3) (N := 12) hx hb hts (tw_cs in_X3) hown hK hT (cs_kX hS) (by decide) rfl 0 (by decide) (hts _ (tw_c tw_47)) rfl (x := (fa 1)) (cs_pS hS) dX3_of_11 ?_
    refine lv_iload_n hx hb dX3_of_14 rfl (lv_at hl 1 rfl) ?_
    refine hv_alds (t := 0) hx hb hK hT (cs_kS hS) rfl rfl (cs_in8 (cs_lt8 hS hi)) (x := (fa (16 + i))) (cs_qS hS hi) dX3_of_15 ?_
    refine lv_astore_n (lv' := [(3, _), (0, _), (1, _), (2, _)]) hx hb dX3_of_16 rfl hl (by decide) rfl (fun ls hl => ?_)
    refine lv_iload_n hx hb dX3_of_17 rfl (lv_at hl 3 rfl) ?_
    by_cases t18_0 : y = 0
    · skip
      refine lv_tableIn (off := 42) (tgt := 60) hx hb dX3_of_18 (by rw [t18_0]; decide) (by rw [t18_0]; decide) (by rw [t18_0]; rfl) (by decide) ?_
      refine lv_aload_n hx hb dX3_of_60 rfl (lv_at hl 0 rfl) ?_
      refine hv_geti (ci := 2) (C := RX2) (T := TX2) (N := 10) hx hb hts (tw_cs in_X2) hown hK hT (cs_ks hS hi) (by decide) rfl 4 (by decide) (hts _ (tw_c tw_81)) rfl dX3_of_61 ?_
      refine lv_topi (fun g4 eg4 => ?_)
      exact hret _ g4 v _ _ _ _ _ dX3_of_64 rfl hT ⟨_, _, _, _, hI⟩ (by decide) (by decide)
    by_cases t18_1 : y = 1
    · skip
      refine lv_tableIn (off := 47) (tgt := 65) hx hb dX3_of_18 (by rw [t18_1]; decide) (by rw [t18_1]; decide) (by rw [t18_1]; rfl) (by decide) ?_
      refine lv_aload_n hx hb dX3_of_65 rfl (lv_at hl 0 rfl) ?_
      refine hv_geti (ci := 2) (C := RX2) (T := TX2) (N := 10) hx hb hts (tw_cs in_X2) hown hK hT (cs_ks hS hi) (by decide) rfl 3 (by decide) (hts _ (tw_c tw_79)) rfl dX3_of_66 ?_
      refine lv_topi (fun g5 eg5 => ?_)
      refine lv_if_eq (tgt := 76) hx hb dX3_of_69 (by decide) (fun c69 => ?_) (fun c69 => ?_)
      · skip
        refine lv_iconst (v := 0) hx hb dX3_of_76 (by decide) ?_
        exact hret _ 0 v _ _ _ _ _ dX3_of_77 rfl hT ⟨_, _, _, _, hI⟩ (by decide) (by decide)
      · skip
        refine lv_iconst (v := 1) hx hb dX3_of_72 (by decide) ?_
        refine lv_goto (tgt := 77) hx hb dX3_of_73 (by decide) ?_
        exact hret _ 1 v _ _ _ _ _ dX3_of_77 rfl hT ⟨_, _, _, _, hI⟩ (by decide) (by decide)
    by_cases t18_2 : y = 2
    · skip
      refine lv_tableIn (off := 60) (tgt := 78) hx hb dX3_of_18 (by rw [t18_2]; decide) (by rw [t18_2]; decide) (by rw [t18_2]; rfl) (by decide) ?_
      refine lv_aload_n hx hb dX3_of_78 rfl (lv_at hl 0 rfl) ?_
      refine hv_geti (ci := 2) (C := RX2) (T := TX2) (N := 10) hx hb hts (tw_cs in_X2) hown hK hT (cs_ks hS hi) (by decide) rfl 6 (by decide) (hts _ (tw_c tw_85)) rfl dX3_of_79 ?_
      refine lv_topi (fun g6 eg6 => ?_)
      exact hret _ g6 v _ _ _ _ _ dX3_of_82 rfl hT ⟨_, _, _, _, hI⟩ (by decide) (by decide)
    by_cases t18_3 : y = 3
    · skip
      refine lv_tableIn (off := 65) (tgt := 83) hx hb dX3_of_18 (by rw [t18_3]; decide) (by rw [t18_3]; decide) (by rw [t18_3]; rfl) (by decide) ?_
      refine lv_aload_n hx hb dX3_of_83 rfl (lv_at hl 0 rfl) ?_
      refine hv_geti (ci := 2) (C := RX2) (T := TX2) (N := 10) hx hb hts (tw_cs in_X2) hown hK hT (cs_ks hS hi) (by decide) rfl 7 (by decide) (hts _ (tw_c tw_87)) rfl dX3_of_84 ?_
      refine lv_topi (fun g7 eg7 => ?_)
      exact hret _ g7 v _ _ _ _ _ dX3_of_87 rfl hT ⟨_, _, _, _, hI⟩ (by decide) (by decide)
    by_cases t18_4 : y = 4
    · skip
      refine lv_tableIn (off := 70) (tgt := 88) hx hb dX3_of_18 (by rw [t18_4]; decide) (by rw [t18_4]; decide) (by rw [t18_4]; rfl) (by decide) ?_
      refine lv_aload_n hx hb dX3_of_88 rfl (lv_at hl 0 rfl) ?_
      refine hv_geti (ci := 2) (C := RX2) (T := TX2) (N := 10) hx hb hts (tw_cs in_X2) hown hK hT (cs_ks hS hi) (by decide) rfl 0 (by decide) (hts _ (tw_c tw_73)) rfl dX3_of_89 ?_
      refine lv_topi (fun g8 eg8 => ?_)
      exact hret _ g8 v _ _ _ _ _ dX3_of_92 rfl hT ⟨_, _, _, _, hI⟩ (by decide) (by decide)
    by_cases t18_5 : y = 5
    · skip
      refine lv_tableIn (off := 75) (tgt := 93) hx hb dX3_of_18 (by rw [t18_5]; decide) (by rw [t18_5]; decide) (by rw [t18_5]; rfl) (by decide) ?_
      refine lv_aload_n hx hb dX3_of_93 rfl (lv_at hl 0 rfl) ?_
      refine hv_geti (ci := 2) (C := RX2) (T := TX2) (N := 10) hx hb hts (tw_cs in_X2) hown hK hT (cs_ks hS hi) (by decide) rfl 8 (by decide) (hts _ (tw_c tw_89)) rfl dX3_of_94 ?_
      refine lv_topi (fun g9 eg9 => ?_)
      exact hret _ g9 v _ _ _ _ _ dX3_of_97 rfl hT ⟨_, _, _, _, hI⟩ (by decide) (by decide)
    by_cases t18_6 : y = 6
    · skip
      refine lv_tableIn (off := 80) (tgt := 98) hx hb dX3_of_18 (by rw [t18_6]; decide) (by rw [t18_6]; decide) (by rw [t18_6]; rfl) (by decide) ?_
      refine lv_aload_n hx hb dX3_of_98 rfl (lv_at hl 0 rfl) ?_
      refine hv_geti (ci := 2) (C := RX2) (T := TX2) (N := 10) hx hb hts (tw_cs in_X2) hown hK hT (cs_ks hS hi) (by decide) rfl 5 (by decide) (hts _ (tw_c tw_83)) rfl dX3_of_99 ?_
      refine lv_topi (fun g10 eg10 => ?_)
      exact hret _ g10 v _ _ _ _ _ dX3_of_102 rfl hT ⟨_, _, _, _, hI⟩ (by decide) (by decide)
    refine lv_tableOut (tgt := 103) hx hb dX3_of_18 (by have h0 := lv_neT t18_0 (a := 0) rfl; have h1 := lv_neT t18_1 (a := 1) rfl; have h2 := lv_neT t18_2 (a := 2) rfl; have h3 := lv_neT t18_3 (a := 3) rfl; have h4 := lv_neT t18_4 (a := 4) rfl; have h5 := lv_neT t18_5 (a := 5) rfl; have h6 := lv_neT t18_6 (a := 6) rfl; omega) (by decide) ?_
    refine lv_iconst (v := (-1)) hx hb dX3_of_103 (by decide) ?_
    exact hret _ (-1) v _ _ _ _ _ dX3_of_104 rfl hT ⟨_, _, _, _, hI⟩ (by decide) (by decide)
  · skip
    refine lv_iconst (v := (-1)) hx hb dX3_of_8 (by decide) ?_
    exact hret _ (-1) v _ _ _ _ _ dX3_of_9 rfl hT ⟨_, _, _, _, hI⟩ (by decide) (by decide)

set_option maxHeartbeats 4000000 in
set_option maxRecDepth 100000 in
theorem c_count (l : Launch) (D : va_G) (tc : Nat → ClassId) {fa : Nat → Nat} {n : Nat} {w u : Nat → Nat} {b : Nat} {d : Nat → Nat → Nat} {g : Nat × Nat} {k : Nat} {v : hv_V} (hI : ci_I fa n w u b d g k [] v) (x : Int32) : Met l yX3_count (Cond.code yX3_count cX3_count 2 (some .int) :: lw_B) ({ frames := 0, cells := 0, slots := 0, locals := 0 }) (va_Pc [.ref (fa 0), .int x] (hv_Pre D tc v)) (va_Qi (fun (r : Int32) (v1 : hv_V) => ∃ u1 b1 d1 k1, ci_I fa n w u1 b1 d1 g k1 [] v1) (hv_Post D tc (hv_A v)) (hv_A v)) (0) (0) (hv_A v) := by
  refine hv_meti l (by decide) (Nat.le_of_ble_eq_true rfl) ?_
  intro p e s m args below meth c Q X hret hK hz H locs ls hT hl
  obtain ⟨hx, hb, hml, hts, hown, hin0⟩ := X
  have hown : s.vm.findClass "CommitSites" = some m.cls := hown
  have hl : lv_has ls 2 [(0, .ref (fa 0)), (1, .int x)] := hl
  have hS := hI.1
  have hn := hI.2.1.1
  refine lv_iload_n hx hb dX3_count_0 rfl (lv_at hl 1 rfl) ?_
  by_cases t1_0 : x = 0
  · skip
    refine lv_tableIn (off := 55) (tgt := 56) hx hb dX3_count_1 (by rw [t1_0]; decide) (by rw [t1_0]; decide) (by rw [t1_0]; rfl) (by decide) ?_
    refine lv_aload_n hx hb dX3_count_56 rfl (lv_at hl 0 rfl) ?_
    refine hv_gets (ci := 3) (C := RX3) (T := TX3) (N := 12) hx hb hts (tw_cs in_X3) hown hK hT (cs_kX hS) (by decide) rfl 1 (by decide) (hts _ (tw_c tw_48)) rfl (x := (fa 2)) (cs_pN hS) dX3_count_57 ?_
    refine hv_geti (ci := 1) (C := RX1) (T := TX1) (N := 9) hx hb hts (tw_cs in_X1) hown hK hT (cs_kN hS) (by decide) rfl 4 (by decide) (hts _ (tw_c tw_32)) rfl dX3_count_60 ?_
    refine lv_topi (fun g1 eg1 => ?_)
    exact hret _ g1 v _ _ _ _ _ dX3_count_63 rfl hT ⟨_, _, _, _, hI⟩ (by decide) (by decide)
  by_cases t1_1 : x = 1
  · skip
    refine lv_tableIn (off := 63) (tgt := 64) hx hb dX3_count_1 (by rw [t1_1]; decide) (by rw [t1_1]; decide) (by rw [t1_1]; rfl) (by decide) ?_
    refine lv_aload_n hx hb dX3_count_64 rfl (lv_at hl 0 rfl) ?_
    refine hv_gets (ci := 3) (C := RX3) (T := TX3) (N := 12) hx hb hts (tw_cs in_X3) hown hK hT (cs_kX hS) (by decide) rfl 1 (by decide) (hts _ (tw_c tw_48)) rfl (x := (fa 2)) (cs_pN hS) dX3_count_65 ?_
    refine hv_geti (ci := 1) (C := RX1) (T := TX1) (N := 9) hx hb hts (tw_cs in_X1) hown hK hT (cs_kN hS) (by decide) rfl 6 (by decide) (hts _ (tw_c tw_35)) rfl dX3_count_68 ?_
    refine lv_topi (fun g2 eg2 => ?_)
    exact hret _ g2 v _ _ _ _ _ dX3_count_71 rfl hT ⟨_, _, _, _, hI⟩ (by decide) (by decide)
  by_cases t1_2 : x = 2
  · skip
    refine lv_tableIn (off := 71) (tgt := 72) hx hb dX3_count_1 (by rw [t1_2]; decide) (by rw [t1_2]; decide) (by rw [t1_2]; rfl) (by decide) ?_
    refine lv_aload_n hx hb dX3_count_72 rfl (lv_at hl 0 rfl) ?_
    refine hv_geti (ci := 3) (C := RX3) (T := TX3) (N := 12) hx hb hts (tw_cs in_X3) hown hK hT (cs_kX hS) (by decide) rfl 10 (by decide) (hts _ (tw_c tw_57)) rfl dX3_count_73 ?_
    refine lv_topi (fun g3 eg3 => ?_)
    exact hret _ g3 v _ _ _ _ _ dX3_count_76 rfl hT ⟨_, _, _, _, hI⟩ (by decide) (by decide)
  by_cases t1_3 : x = 3
  · skip
    refine lv_tableIn (off := 76) (tgt := 77) hx hb dX3_count_1 (by rw [t1_3]; decide) (by rw [t1_3]; decide) (by rw [t1_3]; rfl) (by decide) ?_
    refine lv_aload_n hx hb dX3_count_77 rfl (lv_at hl 0 rfl) ?_
    refine hv_gets (ci := 3) (C := RX3) (T := TX3) (N := 12) hx hb hts (tw_cs in_X3) hown hK hT (cs_kX hS) (by decide) rfl 1 (by decide) (hts _ (tw_c tw_48)) rfl (x := (fa 2)) (cs_pN hS) dX3_count_78 ?_
    refine hv_geti (ci := 1) (C := RX1) (T := TX1) (N := 9) hx hb hts (tw_cs in_X1) hown hK hT (cs_kN hS) (by decide) rfl 7 (by decide) (hts _ (tw_c tw_37)) rfl dX3_count_81 ?_
    refine lv_topi (fun g4 eg4 => ?_)
    exact hret _ g4 v _ _ _ _ _ dX3_count_84 rfl hT ⟨_, _, _, _, hI⟩ (by decide) (by decide)
  by_cases t1_4 : x = 4
  · skip
    refine lv_tableIn (off := 84) (tgt := 85) hx hb dX3_count_1 (by rw [t1_4]; decide) (by rw [t1_4]; decide) (by rw [t1_4]; rfl) (by decide) ?_
    refine lv_aload_n hx hb dX3_count_85 rfl (lv_at hl 0 rfl) ?_
    refine hv_geti (ci := 3) (C := RX3) (T := TX3) (N := 12) hx hb hts (tw_cs in_X3) hown hK hT (cs_kX hS) (by decide) rfl 11 (by decide) (hts _ (tw_c tw_58)) rfl dX3_count_86 ?_
    refine lv_topi (fun g5 eg5 => ?_)
    exact hret _ g5 v _ _ _ _ _ dX3_count_89 rfl hT ⟨_, _, _, _, hI⟩ (by decide) (by decide)
  by_cases t1_5 : x = 5
  · skip
    refine lv_tableIn (off := 89) (tgt := 90) hx hb dX3_count_1 (by rw [t1_5]; decide) (by rw [t1_5]; decide) (by rw [t1_5]; rfl) (by decide) ?_
    refine lv_aload_n hx hb dX3_count_90 rfl (lv_at hl 0 rfl) ?_
    refine hv_geti (ci := 3) (C := RX3) (T := TX3) (N := 12) hx hb hts (tw_cs in_X3) hown hK hT (cs_kX hS) (by decide) rfl 3 (by decide) (hts _ (tw_c tw_50)) rfl dX3_count_91 ?_
    refine lv_topi (fun g6 eg6 => ?_)
    exact hret _ g6 v _ _ _ _ _ dX3_count_94 rfl hT ⟨_, _, _, _, hI⟩ (by decide) (by decide)
  by_cases t1_6 : x = 6
  · skip
    refine lv_tableIn (off := 94) (tgt := 95) hx hb dX3_count_1 (by rw [t1_6]; decide) (by rw [t1_6]; decide) (by rw [t1_6]; rfl) (by decide) ?_
    refine lv_aload_n hx hb dX3_count_95 rfl (lv_at hl 0 rfl) ?_
    refine hv_geti (ci := 3) (C := RX3) (T := TX3) (N := 12) hx hb hts (tw_cs in_X3) hown hK hT (cs_kX hS) (by decide) rfl 5 (by decide) (hts _ (tw_c tw_52)) rfl dX3_count_96 ?_
    refine lv_topi (fun g7 eg7 => ?_)
    exact hret _ g7 v _ _ _ _ _ dX3_count_99 rfl hT ⟨_, _, _, _, hI⟩ (by decide) (by decide)
  by_cases t1_7 : x = 7
  · skip
    refine lv_tableIn (off := 99) (tgt := 100) hx hb dX3_count_1 (by rw [t1_7]; decide) (by rw [t1_7]; decide) (by rw [t1_7]; rfl) (by decide) ?_
    refine lv_aload_n hx hb dX3_count_100 rfl (lv_at hl 0 rfl) ?_
    refine hv_geti (ci := 3) (C := RX3) (T := TX3) (N := 12) hx hb hts (tw_cs in_X3) hown hK hT (cs_kX hS) (by decide) rfl 6 (by decide) (hts _ (tw_c tw_53)) rfl dX3_count_101 ?_
    refine lv_topi (fun g8 eg8 => ?_)
    exact hret _ g8 v _ _ _ _ _ dX3_count_104 rfl hT ⟨_, _, _, _, hI⟩ (by decide) (by decide)
  by_cases t1_8 : x = 8
  · skip
    refine lv_tableIn (off := 104) (tgt := 105) hx hb dX3_count_1 (by rw [t1_8]; decide) (by rw [t1_8]; decide) (by rw [t1_8]; rfl) (by decide) ?_
    refine lv_aload_n hx hb dX3_count_105 rfl (lv_at hl 0 rfl) ?_
    refine hv_geti (ci := 3) (C := RX3) (T := TX3) (N := 12) hx hb hts (tw_cs in_X3) hown hK hT (cs_kX hS) (by decide) rfl 7 (by decide) (hts _ (tw_c tw_54)) rfl dX3_count_106 ?_
    refine lv_topi (fun g9 eg9 => ?_)
    obtain ⟨q10, h5q10, h100q10, hq10⟩ := hI.2.1.2.2.2.1
    have eg9 : g9 = (nI q10) := by rw [eg9]; exact hq10
    subst eg9
    exact hret _ (nI q10) v _ _ _ _ _ dX3_count_109 rfl hT ⟨_, _, _, _, hI⟩ (by decide) (by decide)
  by_cases t1_9 : x = 9
  · skip
    refine lv_tableIn (off := 109) (tgt := 110) hx hb dX3_count_1 (by rw [t1_9]; decide) (by rw [t1_9]; decide) (by rw [t1_9]; rfl) (by decide) ?_
    refine lv_aload_n hx hb dX3_count_110 rfl (lv_at hl 0 rfl) ?_
    refine hv_gets (ci := 3) (C := RX3) (T := TX3) (N := 12) hx hb hts (tw_cs in_X3) hown hK hT (cs_kX hS) (by decide) rfl 1 (by decide) (hts _ (tw_c tw_48)) rfl (x := (fa 2)) (cs_pN hS) dX3_count_111 ?_
    refine hv_geti (ci := 1) (C := RX1) (T := TX1) (N := 9) hx hb hts (tw_cs in_X1) hown hK hT (cs_kN hS) (by decide) rfl 8 (by decide) (hts _ (tw_c tw_39)) rfl dX3_count_114 ?_
    refine lv_topi (fun g11 eg11 => ?_)
    exact hret _ g11 v _ _ _ _ _ dX3_count_117 rfl hT ⟨_, _, _, _, hI⟩ (by decide) (by decide)
  refine lv_tableOut (tgt := 118) hx hb dX3_count_1 (by have h0 := lv_neT t1_0 (a := 0) rfl; have h1 := lv_neT t1_1 (a := 1) rfl; have h2 := lv_neT t1_2 (a := 2) rfl; have h3 := lv_neT t1_3 (a := 3) rfl; have h4 := lv_neT t1_4 (a := 4) rfl; have h5 := lv_neT t1_5 (a := 5) rfl; have h6 := lv_neT t1_6 (a := 6) rfl; have h7 := lv_neT t1_7 (a := 7) rfl; have h8 := lv_neT t1_8 (a := 8) rfl; have h9 := lv_neT t1_9 (a := 9) rfl; omega) (by decide) ?_
  refine lv_iconst (v := (-1)) hx hb dX3_count_118 (by decide) ?_
  exact hret _ (-1) v _ _ _ _ _ dX3_count_119 rfl hT ⟨_, _, _, _, hI⟩ (by decide) (by decide)

set_option maxHeartbeats 4000000 in
set_option maxRecDepth 100000 in
theorem c_latest (l : Launch) (D : va_G) (tc : Nat → ClassId) {fa : Nat → Nat} {n : Nat} {w u : Nat → Nat} {b : Nat} {d : Nat → Nat → Nat} {g : Nat × Nat} {k : Nat} {v : hv_V} (hI : ci_I fa n w u b d g k [] v) (x : Int32) : Met l yX3_latest (Cond.code yX3_latest cX3_latest 2 (some .int) :: lw_B) ({ frames := 0, cells := 0, slots := 0, locals := 0 }) (va_Pc [.ref (fa 0), .int x] (hv_Pre D tc v)) (va_Qi (fun (r : Int32) (v1 : hv_V) => ∃ u1 b1 d1 k1, ci_I fa n w u1 b1 d1 g k1 [] v1) (hv_Post D tc (hv_A v)) (hv_A v)) (0) (0) (hv_A v) := by
  refine hv_meti l (by decide) (Nat.le_of_ble_eq_true rfl) ?_
  intro p e s m args below meth c Q X hret hK hz H locs ls hT hl
  obtain ⟨hx, hb, hml, hts, hown, hin0⟩ := X
  have hown : s.vm.findClass "CommitSites" = some m.cls := hown
  have hl : lv_has ls 2 [(0, .ref (fa 0)), (1, .int x)] := hl
  have hS := hI.1
  have hn := hI.2.1.1
  refine lv_iload_n hx hb dX3_latest_0 rfl (lv_at hl 1 rfl) ?_
  refine lv_if_lt (tgt := 18) hx hb dX3_latest_1 (by decide) (fun c1 => ?_) (fun c1 => ?_)
  · skip
    refine lv_iconst (v := (-1)) hx hb dX3_latest_18 (by decide) ?_
    exact hret _ (-1) v _ _ _ _ _ dX3_latest_19 rfl hT ⟨_, _, _, _, hI⟩ (by decide) (by decide)
  · skip
    refine lv_iload_n hx hb dX3_latest_4 rfl (lv_at hl 1 rfl) ?_
    refine lv_iconst (v := 5) hx hb dX3_latest_5 (by decide) ?_
    refine lv_icmp_ge (tgt := 18) hx hb dX3_latest_6 (by decide) (fun c6 => ?_) (fun c6 => ?_)
    · skip
      refine lv_iconst (v := (-1)) hx hb dX3_latest_18 (by decide) ?_
      exact hret _ (-1) v _ _ _ _ _ dX3_latest_19 rfl hT ⟨_, _, _, _, hI⟩ (by decide) (by decide)
    · skip
      refine lv_aload_n hx hb dX3_latest_9 rfl (lv_at hl 0 rfl) ?_
      refine hv_gets (ci := 3) (C := RX3) (T := TX3) (N := 12) hx hb hts (tw_cs in_X3) hown hK hT (cs_kX hS) (by decide) rfl 2 (by decide) (hts _ (tw_c tw_49)) rfl (x := (fa 3)) (cs_pL hS) dX3_latest_10 ?_
      refine lv_iload_n hx hb dX3_latest_13 rfl (lv_at hl 1 rfl) ?_
      refine hv_iald hx hb hK hT (cs_kL hS) (by obtain ⟨q, h0, h9, hq⟩ := is_rng (x := x) (a := 0) (m := 4) (by decide) c1 (fun h => c6 (cs_gt4 h)) (by decide); rw [hq]; exact vp_in_nI (by omega) (by decide)) dX3_latest_14 ?_
      refine lv_topi (fun g1 eg1 => ?_)
      refine lv_goto (tgt := 19) hx hb dX3_latest_15 (by decide) ?_
      exact hret _ g1 v _ _ _ _ _ dX3_latest_19 rfl hT ⟨_, _, _, _, hI⟩ (by decide) (by decide)

set_option maxHeartbeats 4000000 in
set_option maxRecDepth 100000 in
theorem c_weight (l : Launch) (D : va_G) (tc : Nat → ClassId) {fa : Nat → Nat} {n : Nat} {w u : Nat → Nat} {b : Nat} {d : Nat → Nat → Nat} {g : Nat × Nat} {k : Nat} {v : hv_V} (hI : ci_I fa n w u b d g k [] v) (x : Int32) : Met l yX3_weight (Cond.code yX3_weight cX3_weight 4 (some .int) :: lw_B) ({ frames := 0, cells := 0, slots := 0, locals := 0 }) (va_Pc [.ref (fa 0), .int x] (hv_Pre D tc v)) (va_Qi (fun (r : Int32) (v1 : hv_V) => ∃ u1 b1 d1 k1, ci_I fa n w u1 b1 d1 g k1 [] v1) (hv_Post D tc (hv_A v)) (hv_A v)) (0) (0) (hv_A v) := by
  refine hv_meti l (by decide) (Nat.le_of_ble_eq_true rfl) ?_
  intro p e s m args below meth c Q X hret hK hz H locs ls hT hl
  obtain ⟨hx, hb, hml, hts, hown, hin0⟩ := X
  have hown : s.vm.findClass "CommitSites" = some m.cls := hown
  have hl : lv_has ls 4 [(0, .ref (fa 0)), (1, .int x)] := hl
  have hS := hI.1
  have hn := hI.2.1.1
  refine lv_iconst (v := 0) hx hb dX3_weight_0 (by decide) ?_
  refine lv_istore_n (lv' := [(2, _), (0, _), (1, _)]) hx hb dX3_weight_1 rfl hl (by decide) rfl (fun ls hl => ?_)
  refine lv_iconst (v := 0) hx hb dX3_weight_2 (by decide) ?_
  refine hv_as (x := 0) (y := (nI 0)) nI_0.symm ?_
  refine lv_istore_n (lv' := [(3, _), (2, _), (0, _), (1, _)]) hx hb dX3_weight_3 rfl hl (by decide) rfl (fun ls hl => ?_)
  have hL4 : ∀ (N9 : Nat) (i : Nat) (x2 : Int32) (H : Heap) (locs : List Loc) (ls : Array Slot), i ≤ n → n < i + N9 → hv_St (hv_A v) s D tc v H locs → lv_has ls 4 [(0, .ref (fa 0)), (1, .int x), (2, .int x2), (3, .int (nI i))] → W p l e ({ frames := 0, cells := 0, slots := 0, locals := 0 } : Room) s m args below meth c H locs (0) (0) Q (F0 m 4 ls []) := by
    intro N9
    induction N9 with
    | zero =>
      intro i x2 H locs ls hlei hNi hT hl
      exfalso
      omega
    | succ N9 ih4 =>
      intro i x2 H locs ls hlei hNi hT hl
      refine lv_iload_n hx hb dX3_weight_4 rfl (lv_at hl 3 rfl) ?_
      refine lv_aload_n hx hb dX3_weight_5 rfl (lv_at hl 0 rfl) ?_
      refine hv_geti (ci := 3) (C := RX3) (T := TX3) (N := 12) hx hb hts (tw_cs in_X3) hown hK hT (cs_kX hS) (by decide) rfl 3 (by decide) (hts _ (tw_c tw_50)) rfl dX3_weight_6 ?_
      refine lv_topi (fun g1 eg1 => ?_)
      refine lv_icmp_ge (tgt := 43) hx hb dX3_weight_9 (by decide) (fun c9 => ?_) (fun c9 => ?_)
      · skip
        refine lv_iload_n hx hb dX3_weight_43 rfl (lv_at hl 2 rfl) ?_
        exact hret _ x2 v _ _ _ _ _ dX3_weight_44 rfl hT ⟨_, _, _, _, hI⟩ (by decide) (by decide)
      · skip
        have hlti : i < n := cs_lp hlei (cs_n8 hS) (by rw [← hn, ← eg1]; exact c9)
        refine lv_aload_n hx hb dX3_weight_12 rfl (lv_at hl 0 rfl) ?_
        refine hv_gets (ci := 3) (C := RX3) (T := TX3) (N := 12) hx hb hts (tw_cs in_X3) hown hK hT (cs_kX hS) (by decide) rfl 0 (by decide) (hts _ (tw_c tw_47)) rfl (x := (fa 1)) (cs_pS hS) dX3_weight_13 ?_
        refine lv_iload_n hx hb dX3_weight_16 rfl (lv_at hl 3 rfl) ?_
        refine hv_alds (t := 0) hx hb hK hT (cs_kS hS) rfl rfl (cs_in8 (cs_lt8 hS hlti)) (x := (fa (16 + i))) (cs_qS hS hlti) dX3_weight_17 ?_
        refine hv_geti (ci := 2) (C := RX2) (T := TX2) (N := 10) hx hb hts (tw_cs in_X2) hown hK hT (cs_ks hS hlti) (by decide) rfl 4 (by decide) (hts _ (tw_c tw_81)) rfl dX3_weight_18 ?_
        refine lv_topi (fun g2 eg2 => ?_)
        refine lv_iload_n hx hb dX3_weight_21 rfl (lv_at hl 1 rfl) ?_
        refine lv_icmp_ne (tgt := 37) hx hb dX3_weight_22 (by decide) (fun c22 => ?_) (fun c22 => ?_)
        · skip
          refine lv_iinc (v := (nI (i + 1))) (lv' := [(3, _), (0, _), (1, _), (2, _)]) hx hb dX3_weight_37 hl (k := 3) rfl (nI_1 _) (by decide) rfl (fun ls hl => ?_)
          refine lv_goto (tgt := 4) hx hb dX3_weight_40 (by decide) ?_
          exact ih4 (i + 1) x2 H locs ls (by omega) (by omega) hT (lv_sub hl [1, 2, 3, 0] rfl)
        · skip
          refine lv_iload_n hx hb dX3_weight_25 rfl (lv_at hl 2 rfl) ?_
          refine lv_aload_n hx hb dX3_weight_26 rfl (lv_at hl 0 rfl) ?_
          refine hv_gets (ci := 3) (C := RX3) (T := TX3) (N := 12) hx hb hts (tw_cs in_X3) hown hK hT (cs_kX hS) (by decide) rfl 0 (by decide) (hts _ (tw_c tw_47)) rfl (x := (fa 1)) (cs_pS hS) dX3_weight_27 ?_
          refine lv_iload_n hx hb dX3_weight_30 rfl (lv_at hl 3 rfl) ?_
          refine hv_alds (t := 0) hx hb hK hT (cs_kS hS) rfl rfl (cs_in8 (cs_lt8 hS hlti)) (x := (fa (16 + i))) (cs_qS hS hlti) dX3_weight_31 ?_
          refine hv_geti (ci := 2) (C := RX2) (T := TX2) (N := 10) hx hb hts (tw_cs in_X2) hown hK hT (cs_ks hS hlti) (by decide) rfl 0 (by decide) (hts _ (tw_c tw_73)) rfl dX3_weight_32 ?_
          refine lv_topi (fun g3 eg3 => ?_)
          refine lv_iadd hx hb dX3_weight_35 ?_
          refine lv_istore_n (lv' := [(2, _), (0, _), (1, _), (3, _)]) hx hb dX3_weight_36 rfl hl (by decide) rfl (fun ls hl => ?_)
          refine lv_iinc (v := (nI (i + 1))) (lv' := [(3, _), (2, _), (0, _), (1, _)]) hx hb dX3_weight_37 hl (k := 3) rfl (nI_1 _) (by decide) rfl (fun ls hl => ?_)
          refine lv_goto (tgt := 4) hx hb dX3_weight_40 (by decide) ?_
          exact ih4 (i + 1) (x2 + g3) H locs ls (by omega) (by omega) hT (lv_sub hl [2, 3, 1, 0] rfl)
  exact hL4 (n + 1) 0 0 H locs ls (Nat.zero_le _) (by omega) hT (lv_sub hl [2, 3, 1, 0] rfl)

set_option maxHeartbeats 4000000 in
set_option maxRecDepth 100000 in
theorem c_check (l : Launch) (D : va_G) (tc : Nat → ClassId) {fa : Nat → Nat} {n : Nat} {w u : Nat → Nat} {b : Nat} {d : Nat → Nat → Nat} {g : Nat × Nat} {k : Nat} {v : hv_V} (hI : ci_I fa n w u b d g k [] v) : Met l yX3_check (Cond.code yX3_check cX3_check 5 (some .int) :: lw_B) ({ frames := 1, cells := 0, slots := 0, locals := 21 }) (va_Pc [.ref (fa 0)] (hv_Pre D tc v)) (va_Qi (fun (r : Int32) (v1 : hv_V) => ∃ u1 b1 d1 k1, ci_I fa n w u1 b1 d1 g k1 [] v1) (hv_Post D tc (hv_A v)) (hv_A v)) (0) (0) (hv_A v) := by
  refine hv_meti l (by decide) (Nat.le_of_ble_eq_true rfl) ?_
  intro p e s m args below meth c Q X hret hK hz H locs ls hT hl
  obtain ⟨hx, hb, hml, hts, hown, hin0⟩ := X
  have hown : s.vm.findClass "CommitSites" = some m.cls := hown
  have hl : lv_has ls 5 [(0, .ref (fa 0))] := hl
  have hS := hI.1
  have hn := hI.2.1.1
  refine lv_iconst (v := 0) hx hb dX3_check_0 (by decide) ?_
  refine lv_istore_n (lv' := [(1, _), (0, _)]) hx hb dX3_check_1 rfl hl (by decide) rfl (fun ls hl => ?_)
  refine lv_iconst (v := 0) hx hb dX3_check_2 (by decide) ?_
  refine lv_istore_n (lv' := [(2, _), (1, _), (0, _)]) hx hb dX3_check_3 rfl hl (by decide) rfl (fun ls hl => ?_)
  refine lv_iconst (v := 0) hx hb dX3_check_4 (by decide) ?_
  refine hv_as (x := 0) (y := (nI 0)) nI_0.symm ?_
  refine lv_istore_n (lv' := [(3, _), (2, _), (1, _), (0, _)]) hx hb dX3_check_5 rfl hl (by decide) rfl (fun ls hl => ?_)
  have hL6 : ∀ (N9 : Nat) (i : Nat) (x1 : Int32) (x2 : Int32) (H : Heap) (locs : List Loc) (ls : Array Slot), i ≤ n → n < i + N9 → hv_St (hv_A v) s D tc v H locs → lv_has ls 5 [(0, .ref (fa 0)), (1, .int x1), (2, .int x2), (3, .int (nI i))] → W p l e ({ frames := 1, cells := 0, slots := 0, locals := 21 } : Room) s m args below meth c H locs (0) (0) Q (F0 m 6 ls []) := by
    intro N9
    induction N9 with
    | zero =>
      intro i x1 x2 H locs ls hlei hNi hT hl
      exfalso
      omega
    | succ N9 ih6 =>
      intro i x1 x2 H locs ls hlei hNi hT hl
      refine lv_iload_n hx hb dX3_check_6 rfl (lv_at hl 3 rfl) ?_
      refine lv_aload_n hx hb dX3_check_7 rfl (lv_at hl 0 rfl) ?_
      refine hv_geti (ci := 3) (C := RX3) (T := TX3) (N := 12) hx hb hts (tw_cs in_X3) hown hK hT (cs_kX hS) (by decide) rfl 3 (by decide) (hts _ (tw_c tw_50)) rfl dX3_check_8 ?_
      refine lv_topi (fun g1 eg1 => ?_)
      refine lv_icmp_ge (tgt := 96) hx hb dX3_check_11 (by decide) (fun c11 => ?_) (fun c11 => ?_)
      · skip
        refine lv_iload_n hx hb dX3_check_96 rfl (lv_at hl 1 rfl) ?_
        refine lv_if_eq (tgt := 108) hx hb dX3_check_97 (by decide) (fun c97 => ?_) (fun c97 => ?_)
        · skip
          refine lv_iconst (v := 1) hx hb dX3_check_108 (by decide) ?_
          exact hret _ 1 v _ _ _ _ _ dX3_check_109 rfl hT ⟨_, _, _, _, hI⟩ (by decide) (by decide)
        · skip
          refine lv_iload_n hx hb dX3_check_100 rfl (lv_at hl 2 rfl) ?_
          refine lv_if_eq (tgt := 108) hx hb dX3_check_101 (by decide) (fun c101 => ?_) (fun c101 => ?_)
          · skip
            refine lv_iconst (v := 1) hx hb dX3_check_108 (by decide) ?_
            exact hret _ 1 v _ _ _ _ _ dX3_check_109 rfl hT ⟨_, _, _, _, hI⟩ (by decide) (by decide)
          · skip
            refine lv_iconst (v := 0) hx hb dX3_check_104 (by decide) ?_
            refine lv_goto (tgt := 109) hx hb dX3_check_105 (by decide) ?_
            exact hret _ 0 v _ _ _ _ _ dX3_check_109 rfl hT ⟨_, _, _, _, hI⟩ (by decide) (by decide)
      · skip
        have hlti : i < n := cs_lp hlei (cs_n8 hS) (by rw [← hn, ← eg1]; exact c11)
        refine lv_aload_n hx hb dX3_check_14 rfl (lv_at hl 0 rfl) ?_
        refine hv_geti (ci := 3) (C := RX3) (T := TX3) (N := 12) hx hb hts (tw_cs in_X3) hown hK hT (cs_kX hS) (by decide) rfl 8 (by decide) (hts _ (tw_c tw_55)) rfl dX3_check_15 ?_
        refine lv_topi (fun g2 eg2 => ?_)
        refine lv_if_eq (tgt := 36) hx hb dX3_check_18 (by decide) (fun c18 => ?_) (fun c18 => ?_)
        · skip
          refine lv_iconst (v := 0) hx hb dX3_check_36 (by decide) ?_
          refine lv_istore (lv' := [(4, _), (0, _), (1, _), (2, _), (3, _)]) hx hb dX3_check_37 hl (by decide) rfl (fun ls hl => ?_)
          refine lv_iload_n hx hb dX3_check_39 rfl (lv_at hl 2 rfl) ?_
          refine lv_if_ne (tgt := 56) hx hb dX3_check_40 (by decide) (fun c40 => ?_) (fun c40 => ?_)
          · skip
            refine lv_iconst (v := 1) hx hb dX3_check_56 (by decide) ?_
            refine lv_goto (tgt := 61) hx hb dX3_check_57 (by decide) ?_
            refine lv_istore_n (lv' := [(1, _), (4, _), (0, _), (2, _), (3, _)]) hx hb dX3_check_61 rfl hl (by decide) rfl (fun ls hl => ?_)
            refine lv_iload_n hx hb dX3_check_62 rfl (lv_at hl 3 rfl) ?_
            refine lv_if_ne (tgt := 84) hx hb dX3_check_63 (by decide) (fun c63 => ?_) (fun c63 => ?_)
            · skip
              refine lv_iconst (v := 1) hx hb dX3_check_84 (by decide) ?_
              refine lv_goto (tgt := 89) hx hb dX3_check_85 (by decide) ?_
              refine lv_istore_n (lv' := [(2, _), (1, _), (4, _), (0, _), (3, _)]) hx hb dX3_check_89 rfl hl (by decide) rfl (fun ls hl => ?_)
              refine lv_iinc (v := (nI (i + 1))) (lv' := [(3, _), (2, _), (1, _), (4, _), (0, _)]) hx hb dX3_check_90 hl (k := 4) rfl (nI_1 _) (by decide) rfl (fun ls hl => ?_)
              refine lv_goto (tgt := 6) hx hb dX3_check_93 (by decide) ?_
              exact ih6 (i + 1) 1 1 H locs ls (by omega) (by omega) hT (lv_sub hl [4, 2, 1, 0] rfl)
            · skip
              refine lv_iload hx hb dX3_check_66 (lv_at hl 1 rfl) ?_
              refine lv_if_ne (tgt := 84) hx hb dX3_check_68 (by decide) (fun c68 => ?_) (fun c68 => ?_)
              · skip
                refine lv_iconst (v := 1) hx hb dX3_check_84 (by decide) ?_
                refine lv_goto (tgt := 89) hx hb dX3_check_85 (by decide) ?_
                refine lv_istore_n (lv' := [(2, _), (1, _), (4, _), (0, _), (3, _)]) hx hb dX3_check_89 rfl hl (by decide) rfl (fun ls hl => ?_)
                refine lv_iinc (v := (nI (i + 1))) (lv' := [(3, _), (2, _), (1, _), (4, _), (0, _)]) hx hb dX3_check_90 hl (k := 4) rfl (nI_1 _) (by decide) rfl (fun ls hl => ?_)
                refine lv_goto (tgt := 6) hx hb dX3_check_93 (by decide) ?_
                exact ih6 (i + 1) 1 1 H locs ls (by omega) (by omega) hT (lv_sub hl [4, 2, 1, 0] rfl)
              · skip
                refine lv_aload_n hx hb dX3_check_71 rfl (lv_at hl 2 rfl) ?_
                refine hv_gets (ci := 3) (C := RX3) (T := TX3) (N := 12) hx hb hts (tw_cs in_X3) hown hK hT (cs_kX hS) (by decide) rfl 0 (by decide) (hts _ (tw_c tw_47)) rfl (x := (fa 1)) (cs_pS hS) dX3_check_72 ?_
                refine lv_iload_n hx hb dX3_check_75 rfl (lv_at hl 4 rfl) ?_
                refine hv_alds (t := 0) hx hb hK hT (cs_kS hS) rfl rfl (cs_in8 (cs_lt8 hS hlti)) (x := (fa (16 + i))) (cs_qS hS hlti) dX3_check_76 ?_
                refine hv_geti (ci := 2) (C := RX2) (T := TX2) (N := 10) hx hb hts (tw_cs in_X2) hown hK hT (cs_ks hS hlti) (by decide) rfl 4 (by decide) (hts _ (tw_c tw_81)) rfl dX3_check_77 ?_
                refine lv_topi (fun g3 eg3 => ?_)
                refine lv_iconst (v := 5) hx hb dX3_check_80 (by decide) ?_
                refine lv_icmp_ne (tgt := 88) hx hb dX3_check_81 (by decide) (fun c81 => ?_) (fun c81 => ?_)
                · skip
                  refine lv_iconst (v := 0) hx hb dX3_check_88 (by decide) ?_
                  refine lv_istore_n (lv' := [(2, _), (1, _), (4, _), (0, _), (3, _)]) hx hb dX3_check_89 rfl hl (by decide) rfl (fun ls hl => ?_)
                  refine lv_iinc (v := (nI (i + 1))) (lv' := [(3, _), (2, _), (1, _), (4, _), (0, _)]) hx hb dX3_check_90 hl (k := 4) rfl (nI_1 _) (by decide) rfl (fun ls hl => ?_)
                  refine lv_goto (tgt := 6) hx hb dX3_check_93 (by decide) ?_
                  exact ih6 (i + 1) 1 0 H locs ls (by omega) (by omega) hT (lv_sub hl [4, 2, 1, 0] rfl)
                · skip
                  refine lv_iconst (v := 1) hx hb dX3_check_84 (by decide) ?_
                  refine lv_goto (tgt := 89) hx hb dX3_check_85 (by decide) ?_
                  refine lv_istore_n (lv' := [(2, _), (1, _), (4, _), (0, _), (3, _)]) hx hb dX3_check_89 rfl hl (by decide) rfl (fun ls hl => ?_)
                  refine lv_iinc (v := (nI (i + 1))) (lv' := [(3, _), (2, _), (1, _), (4, _), (0, _)]) hx hb dX3_check_90 hl (k := 4) rfl (nI_1 _) (by decide) rfl (fun ls hl => ?_)
                  refine lv_goto (tgt := 6) hx hb dX3_check_93 (by decide) ?_
                  exact ih6 (i + 1) 1 1 H locs ls (by omega) (by omega) hT (lv_sub hl [4, 2, 1, 0] rfl)
          · skip
            refine lv_aload_n hx hb dX3_check_43 rfl (lv_at hl 1 rfl) ?_
            refine hv_gets (ci := 3) (C := RX3) (T := TX3) (N := 12) hx hb hts (tw_cs in_X3) hown hK hT (cs_kX hS) (by decide) rfl 0 (by decide) (hts _ (tw_c tw_47)) rfl (x := (fa 1)) (cs_pS hS) dX3_check_44 ?_
            refine lv_iload_n hx hb dX3_check_47 rfl (lv_at hl 4 rfl) ?_
            refine hv_alds (t := 0) hx hb hK hT (cs_kS hS) rfl rfl (cs_in8 (cs_lt8 hS hlti)) (x := (fa (16 + i))) (cs_qS hS hlti) dX3_check_48 ?_
            refine hv_geti (ci := 2) (C := RX2) (T := TX2) (N := 10) hx hb hts (tw_cs in_X2) hown hK hT (cs_ks hS hlti) (by decide) rfl 4 (by decide) (hts _ (tw_c tw_81)) rfl dX3_check_49 ?_
            refine lv_topi (fun g4 eg4 => ?_)
            refine lv_iconst (v := 4) hx hb dX3_check_52 (by decide) ?_
            refine lv_icmp_ne (tgt := 60) hx hb dX3_check_53 (by decide) (fun c53 => ?_) (fun c53 => ?_)
            · skip
              refine lv_iconst (v := 0) hx hb dX3_check_60 (by decide) ?_
              refine lv_istore_n (lv' := [(1, _), (4, _), (0, _), (2, _), (3, _)]) hx hb dX3_check_61 rfl hl (by decide) rfl (fun ls hl => ?_)
              refine lv_iload_n hx hb dX3_check_62 rfl (lv_at hl 3 rfl) ?_
              refine lv_if_ne (tgt := 84) hx hb dX3_check_63 (by decide) (fun c63 => ?_) (fun c63 => ?_)
              · skip
                refine lv_iconst (v := 1) hx hb dX3_check_84 (by decide) ?_
                refine lv_goto (tgt := 89) hx hb dX3_check_85 (by decide) ?_
                refine lv_istore_n (lv' := [(2, _), (1, _), (4, _), (0, _), (3, _)]) hx hb dX3_check_89 rfl hl (by decide) rfl (fun ls hl => ?_)
                refine lv_iinc (v := (nI (i + 1))) (lv' := [(3, _), (2, _), (1, _), (4, _), (0, _)]) hx hb dX3_check_90 hl (k := 4) rfl (nI_1 _) (by decide) rfl (fun ls hl => ?_)
                refine lv_goto (tgt := 6) hx hb dX3_check_93 (by decide) ?_
                exact ih6 (i + 1) 0 1 H locs ls (by omega) (by omega) hT (lv_sub hl [4, 2, 1, 0] rfl)
              · skip
                refine lv_iload hx hb dX3_check_66 (lv_at hl 1 rfl) ?_
                refine lv_if_ne (tgt := 84) hx hb dX3_check_68 (by decide) (fun c68 => ?_) (fun c68 => ?_)
                · skip
                  refine lv_iconst (v := 1) hx hb dX3_check_84 (by decide) ?_
                  refine lv_goto (tgt := 89) hx hb dX3_check_85 (by decide) ?_
                  refine lv_istore_n (lv' := [(2, _), (1, _), (4, _), (0, _), (3, _)]) hx hb dX3_check_89 rfl hl (by decide) rfl (fun ls hl => ?_)
                  refine lv_iinc (v := (nI (i + 1))) (lv' := [(3, _), (2, _), (1, _), (4, _), (0, _)]) hx hb dX3_check_90 hl (k := 4) rfl (nI_1 _) (by decide) rfl (fun ls hl => ?_)
                  refine lv_goto (tgt := 6) hx hb dX3_check_93 (by decide) ?_
                  exact ih6 (i + 1) 0 1 H locs ls (by omega) (by omega) hT (lv_sub hl [4, 2, 1, 0] rfl)
                · skip
                  refine lv_aload_n hx hb dX3_check_71 rfl (lv_at hl 2 rfl) ?_
                  refine hv_gets (ci := 3) (C := RX3) (T := TX3) (N := 12) hx hb hts (tw_cs in_X3) hown hK hT (cs_kX hS) (by decide) rfl 0 (by decide) (hts _ (tw_c tw_47)) rfl (x := (fa 1)) (cs_pS hS) dX3_check_72 ?_
                  refine lv_iload_n hx hb dX3_check_75 rfl (lv_at hl 4 rfl) ?_
                  refine hv_alds (t := 0) hx hb hK hT (cs_kS hS) rfl rfl (cs_in8 (cs_lt8 hS hlti)) (x := (fa (16 + i))) (cs_qS hS hlti) dX3_check_76 ?_
                  refine hv_geti (ci := 2) (C := RX2) (T := TX2) (N := 10) hx hb hts (tw_cs in_X2) hown hK hT (cs_ks hS hlti) (by decide) rfl 4 (by decide) (hts _ (tw_c tw_81)) rfl dX3_check_77 ?_
                  refine lv_topi (fun g5 eg5 => ?_)
                  refine lv_iconst (v := 5) hx hb dX3_check_80 (by decide) ?_
                  refine lv_icmp_ne (tgt := 88) hx hb dX3_check_81 (by decide) (fun c81 => ?_) (fun c81 => ?_)
                  · skip
                    refine lv_iconst (v := 0) hx hb dX3_check_88 (by decide) ?_
                    refine lv_istore_n (lv' := [(2, _), (1, _), (4, _), (0, _), (3, _)]) hx hb dX3_check_89 rfl hl (by decide) rfl (fun ls hl => ?_)
                    refine lv_iinc (v := (nI (i + 1))) (lv' := [(3, _), (2, _), (1, _), (4, _), (0, _)]) hx hb dX3_check_90 hl (k := 4) rfl (nI_1 _) (by decide) rfl (fun ls hl => ?_)
                    refine lv_goto (tgt := 6) hx hb dX3_check_93 (by decide) ?_
                    exact ih6 (i + 1) 0 0 H locs ls (by omega) (by omega) hT (lv_sub hl [4, 2, 1, 0] rfl)
                  · skip
                    refine lv_iconst (v := 1) hx hb dX3_check_84 (by decide) ?_
                    refine lv_goto (tgt := 89) hx hb dX3_check_85 (by decide) ?_
                    refine lv_istore_n (lv' := [(2, _), (1, _), (4, _), (0, _), (3, _)]) hx hb dX3_check_89 rfl hl (by decide) rfl (fun ls hl => ?_)
                    refine lv_iinc (v := (nI (i + 1))) (lv' := [(3, _), (2, _), (1, _), (4, _), (0, _)]) hx hb dX3_check_90 hl (k := 4) rfl (nI_1 _) (by decide) rfl (fun ls hl => ?_)
                    refine lv_goto (tgt := 6) hx hb dX3_check_93 (by decide) ?_
                    exact ih6 (i + 1) 0 1 H locs ls (by omega) (by omega) hT (lv_sub hl [4, 2, 1, 0] rfl)
            · skip
              refine lv_iconst (v := 1) hx hb dX3_check_56 (by decide) ?_
              refine lv_goto (tgt := 61) hx hb dX3_check_57 (by decide) ?_
              refine lv_istore_n (lv' := [(1, _), (4, _), (0, _), (2, _), (3, _)]) hx hb dX3_check_61 rfl hl (by decide) rfl (fun ls hl => ?_)
              refine lv_iload_n hx hb dX3_check_62 rfl (lv_at hl 3 rfl) ?_
              refine lv_if_ne (tgt := 84) hx hb dX3_check_63 (by decide) (fun c63 => ?_) (fun c63 => ?_)
              · skip
                refine lv_iconst (v := 1) hx hb dX3_check_84 (by decide) ?_
                refine lv_goto (tgt := 89) hx hb dX3_check_85 (by decide) ?_
                refine lv_istore_n (lv' := [(2, _), (1, _), (4, _), (0, _), (3, _)]) hx hb dX3_check_89 rfl hl (by decide) rfl (fun ls hl => ?_)
                refine lv_iinc (v := (nI (i + 1))) (lv' := [(3, _), (2, _), (1, _), (4, _), (0, _)]) hx hb dX3_check_90 hl (k := 4) rfl (nI_1 _) (by decide) rfl (fun ls hl => ?_)
                refine lv_goto (tgt := 6) hx hb dX3_check_93 (by decide) ?_
                exact ih6 (i + 1) 1 1 H locs ls (by omega) (by omega) hT (lv_sub hl [4, 2, 1, 0] rfl)
              · skip
                refine lv_iload hx hb dX3_check_66 (lv_at hl 1 rfl) ?_
                refine lv_if_ne (tgt := 84) hx hb dX3_check_68 (by decide) (fun c68 => ?_) (fun c68 => ?_)
                · skip
                  refine lv_iconst (v := 1) hx hb dX3_check_84 (by decide) ?_
                  refine lv_goto (tgt := 89) hx hb dX3_check_85 (by decide) ?_
                  refine lv_istore_n (lv' := [(2, _), (1, _), (4, _), (0, _), (3, _)]) hx hb dX3_check_89 rfl hl (by decide) rfl (fun ls hl => ?_)
                  refine lv_iinc (v := (nI (i + 1))) (lv' := [(3, _), (2, _), (1, _), (4, _), (0, _)]) hx hb dX3_check_90 hl (k := 4) rfl (nI_1 _) (by decide) rfl (fun ls hl => ?_)
                  refine lv_goto (tgt := 6) hx hb dX3_check_93 (by decide) ?_
                  exact ih6 (i + 1) 1 1 H locs ls (by omega) (by omega) hT (lv_sub hl [4, 2, 1, 0] rfl)
                · skip
                  refine lv_aload_n hx hb dX3_check_71 rfl (lv_at hl 2 rfl) ?_
                  refine hv_gets (ci := 3) (C := RX3) (T := TX3) (N := 12) hx hb hts (tw_cs in_X3) hown hK hT (cs_kX hS) (by decide) rfl 0 (by decide) (hts _ (tw_c tw_47)) rfl (x := (fa 1)) (cs_pS hS) dX3_check_72 ?_
                  refine lv_iload_n hx hb dX3_check_75 rfl (lv_at hl 4 rfl) ?_
                  refine hv_alds (t := 0) hx hb hK hT (cs_kS hS) rfl rfl (cs_in8 (cs_lt8 hS hlti)) (x := (fa (16 + i))) (cs_qS hS hlti) dX3_check_76 ?_
                  refine hv_geti (ci := 2) (C := RX2) (T := TX2) (N := 10) hx hb hts (tw_cs in_X2) hown hK hT (cs_ks hS hlti) (by decide) rfl 4 (by decide) (hts _ (tw_c tw_81)) rfl dX3_check_77 ?_
                  refine lv_topi (fun g6 eg6 => ?_)
                  refine lv_iconst (v := 5) hx hb dX3_check_80 (by decide) ?_
                  refine lv_icmp_ne (tgt := 88) hx hb dX3_check_81 (by decide) (fun c81 => ?_) (fun c81 => ?_)
                  · skip
                    refine lv_iconst (v := 0) hx hb dX3_check_88 (by decide) ?_
                    refine lv_istore_n (lv' := [(2, _), (1, _), (4, _), (0, _), (3, _)]) hx hb dX3_check_89 rfl hl (by decide) rfl (fun ls hl => ?_)
                    refine lv_iinc (v := (nI (i + 1))) (lv' := [(3, _), (2, _), (1, _), (4, _), (0, _)]) hx hb dX3_check_90 hl (k := 4) rfl (nI_1 _) (by decide) rfl (fun ls hl => ?_)
                    refine lv_goto (tgt := 6) hx hb dX3_check_93 (by decide) ?_
                    exact ih6 (i + 1) 1 0 H locs ls (by omega) (by omega) hT (lv_sub hl [4, 2, 1, 0] rfl)
                  · skip
                    refine lv_iconst (v := 1) hx hb dX3_check_84 (by decide) ?_
                    refine lv_goto (tgt := 89) hx hb dX3_check_85 (by decide) ?_
                    refine lv_istore_n (lv' := [(2, _), (1, _), (4, _), (0, _), (3, _)]) hx hb dX3_check_89 rfl hl (by decide) rfl (fun ls hl => ?_)
                    refine lv_iinc (v := (nI (i + 1))) (lv' := [(3, _), (2, _), (1, _), (4, _), (0, _)]) hx hb dX3_check_90 hl (k := 4) rfl (nI_1 _) (by decide) rfl (fun ls hl => ?_)
                    refine lv_goto (tgt := 6) hx hb dX3_check_93 (by decide) ?_
                    exact ih6 (i + 1) 1 1 H locs ls (by omega) (by omega) hT (lv_sub hl [4, 2, 1, 0] rfl)
        · skip
          refine lv_aload_n hx hb dX3_check_21 rfl (lv_at hl 0 rfl) ?_
          refine hv_geti (ci := 3) (C := RX3) (T := TX3) (N := 12) hx hb hts (tw_cs in_X3) hown hK hT (cs_kX hS) (by decide) rfl 9 (by decide) (hts _ (tw_c tw_56)) rfl dX3_check_22 ?_
          refine lv_topi (fun g7 eg7 => ?_)
          refine lv_iload_n hx hb dX3_check_25 rfl (lv_at hl 3 rfl) ?_
          refine hv_calli (va_runS (As := [.int g7, .int (nI i)]) (rest := []) ⟨hx, hb, hml, hown, hts⟩ (c_hasBit l D tc g7 (nI i)) (va_cwS 2 hts (tw_S tw_110 tw_111 tw_1 tw_112) rfl rfl rfl (by decide +kernel) ⟨Nat.le_of_ble_eq_true rfl, Nat.le_of_ble_eq_true rfl⟩) (hv_preS hK hT.1) rfl rfl hl.1 rfl (lv_room (Nat.le_of_ble_eq_true rfl)) dX3_check_26 ⟨Nat.le_of_ble_eq_true rfl, Nat.le_of_ble_eq_true rfl⟩) hT (fun r10 v8 H locs hp9 hT => ?_)
          obtain ⟨evhp9, qhp9⟩ := hp9
          rw [evhp9] at hT
          refine lv_if_ne (tgt := 36) hx hb dX3_check_29 (by decide) (fun c29 => ?_) (fun c29 => ?_)
          · skip
            refine lv_iconst (v := 0) hx hb dX3_check_36 (by decide) ?_
            refine lv_istore (lv' := [(4, _), (0, _), (1, _), (2, _), (3, _)]) hx hb dX3_check_37 hl (by decide) rfl (fun ls hl => ?_)
            refine lv_iload_n hx hb dX3_check_39 rfl (lv_at hl 2 rfl) ?_
            refine lv_if_ne (tgt := 56) hx hb dX3_check_40 (by decide) (fun c40 => ?_) (fun c40 => ?_)
            · skip
              refine lv_iconst (v := 1) hx hb dX3_check_56 (by decide) ?_
              refine lv_goto (tgt := 61) hx hb dX3_check_57 (by decide) ?_
              refine lv_istore_n (lv' := [(1, _), (4, _), (0, _), (2, _), (3, _)]) hx hb dX3_check_61 rfl hl (by decide) rfl (fun ls hl => ?_)
              refine lv_iload_n hx hb dX3_check_62 rfl (lv_at hl 3 rfl) ?_
              refine lv_if_ne (tgt := 84) hx hb dX3_check_63 (by decide) (fun c63 => ?_) (fun c63 => ?_)
              · skip
                refine lv_iconst (v := 1) hx hb dX3_check_84 (by decide) ?_
                refine lv_goto (tgt := 89) hx hb dX3_check_85 (by decide) ?_
                refine lv_istore_n (lv' := [(2, _), (1, _), (4, _), (0, _), (3, _)]) hx hb dX3_check_89 rfl hl (by decide) rfl (fun ls hl => ?_)
                refine lv_iinc (v := (nI (i + 1))) (lv' := [(3, _), (2, _), (1, _), (4, _), (0, _)]) hx hb dX3_check_90 hl (k := 4) rfl (nI_1 _) (by decide) rfl (fun ls hl => ?_)
                refine lv_goto (tgt := 6) hx hb dX3_check_93 (by decide) ?_
                exact ih6 (i + 1) 1 1 H locs ls (by omega) (by omega) hT (lv_sub hl [4, 2, 1, 0] rfl)
              · skip
                refine lv_iload hx hb dX3_check_66 (lv_at hl 1 rfl) ?_
                refine lv_if_ne (tgt := 84) hx hb dX3_check_68 (by decide) (fun c68 => ?_) (fun c68 => ?_)
                · skip
                  refine lv_iconst (v := 1) hx hb dX3_check_84 (by decide) ?_
                  refine lv_goto (tgt := 89) hx hb dX3_check_85 (by decide) ?_
                  refine lv_istore_n (lv' := [(2, _), (1, _), (4, _), (0, _), (3, _)]) hx hb dX3_check_89 rfl hl (by decide) rfl (fun ls hl => ?_)
                  refine lv_iinc (v := (nI (i + 1))) (lv' := [(3, _), (2, _), (1, _), (4, _), (0, _)]) hx hb dX3_check_90 hl (k := 4) rfl (nI_1 _) (by decide) rfl (fun ls hl => ?_)
                  refine lv_goto (tgt := 6) hx hb dX3_check_93 (by decide) ?_
                  exact ih6 (i + 1) 1 1 H locs ls (by omega) (by omega) hT (lv_sub hl [4, 2, 1, 0] rfl)
                · skip
                  refine lv_aload_n hx hb dX3_check_71 rfl (lv_at hl 2 rfl) ?_
                  refine hv_gets (ci := 3) (C := RX3) (T := TX3) (N := 12) hx hb hts (tw_cs in_X3) hown hK hT (cs_kX hS) (by decide) rfl 0 (by decide) (hts _ (tw_c tw_47)) rfl (x := (fa 1)) (cs_pS hS) dX3_check_72 ?_
                  refine lv_iload_n hx hb dX3_check_75 rfl (lv_at hl 4 rfl) ?_
                  refine hv_alds (t := 0) hx hb hK hT (cs_kS hS) rfl rfl (cs_in8 (cs_lt8 hS hlti)) (x := (fa (16 + i))) (cs_qS hS hlti) dX3_check_76 ?_
                  refine hv_geti (ci := 2) (C := RX2) (T := TX2) (N := 10) hx hb hts (tw_cs in_X2) hown hK hT (cs_ks hS hlti) (by decide) rfl 4 (by decide) (hts _ (tw_c tw_81)) rfl dX3_check_77 ?_
                  refine lv_topi (fun g11 eg11 => ?_)
                  refine lv_iconst (v := 5) hx hb dX3_check_80 (by decide) ?_
                  refine lv_icmp_ne (tgt := 88) hx hb dX3_check_81 (by decide) (fun c81 => ?_) (fun c81 => ?_)
                  · skip
                    refine lv_iconst (v := 0) hx hb dX3_check_88 (by decide) ?_
                    refine lv_istore_n (lv' := [(2, _), (1, _), (4, _), (0, _), (3, _)]) hx hb dX3_check_89 rfl hl (by decide) rfl (fun ls hl => ?_)
                    refine lv_iinc (v := (nI (i + 1))) (lv' := [(3, _), (2, _), (1, _), (4, _), (0, _)]) hx hb dX3_check_90 hl (k := 4) rfl (nI_1 _) (by decide) rfl (fun ls hl => ?_)
                    refine lv_goto (tgt := 6) hx hb dX3_check_93 (by decide) ?_
                    exact ih6 (i + 1) 1 0 H locs ls (by omega) (by omega) hT (lv_sub hl [4, 2, 1, 0] rfl)
                  · skip
                    refine lv_iconst (v := 1) hx hb dX3_check_84 (by decide) ?_
                    refine lv_goto (tgt := 89) hx hb dX3_check_85 (by decide) ?_
                    refine lv_istore_n (lv' := [(2, _), (1, _), (4, _), (0, _), (3, _)]) hx hb dX3_check_89 rfl hl (by decide) rfl (fun ls hl => ?_)
                    refine lv_iinc (v := (nI (i + 1))) (lv' := [(3, _), (2, _), (1, _), (4, _), (0, _)]) hx hb dX3_check_90 hl (k := 4) rfl (nI_1 _) (by decide) rfl (fun ls hl => ?_)
                    refine lv_goto (tgt := 6) hx hb dX3_check_93 (by decide) ?_
                    exact ih6 (i + 1) 1 1 H locs ls (by omega) (by omega) hT (lv_sub hl [4, 2, 1, 0] rfl)
            · skip
              refine lv_aload_n hx hb dX3_check_43 rfl (lv_at hl 1 rfl) ?_
              refine hv_gets (ci := 3) (C := RX3) (T := TX3) (N := 12) hx hb hts (tw_cs in_X3) hown hK hT (cs_kX hS) (by decide) rfl 0 (by decide) (hts _ (tw_c tw_47)) rfl (x := (fa 1)) (cs_pS hS) dX3_check_44 ?_
              refine lv_iload_n hx hb dX3_check_47 rfl (lv_at hl 4 rfl) ?_
              refine hv_alds (t := 0) hx hb hK hT (cs_kS hS) rfl rfl (cs_in8 (cs_lt8 hS hlti)) (x := (fa (16 + i))) (cs_qS hS hlti) dX3_check_48 ?_
              refine hv_geti (ci := 2) (C := RX2) (T := TX2) (N := 10) hx hb hts (tw_cs in_X2) hown hK hT (cs_ks hS hlti) (by decide) rfl 4 (by decide) (hts _ (tw_c tw_81)) rfl dX3_check_49 ?_
              refine lv_topi (fun g12 eg12 => ?_)
              refine lv_iconst (v := 4) hx hb dX3_check_52 (by decide) ?_
              refine lv_icmp_ne (tgt := 60) hx hb dX3_check_53 (by decide) (fun c53 => ?_) (fun c53 => ?_)
              · skip
                refine lv_iconst (v := 0) hx hb dX3_check_60 (by decide) ?_
                refine lv_istore_n (lv' := [(1, _), (4, _), (0, _), (2, _), (3, _)]) hx hb dX3_check_61 rfl hl (by decide) rfl (fun ls hl => ?_)
                refine lv_iload_n hx hb dX3_check_62 rfl (lv_at hl 3 rfl) ?_
                refine lv_if_ne (tgt := 84) hx hb dX3_check_63 (by decide) (fun c63 => ?_) (fun c63 => ?_)
                · skip
                  refine lv_iconst (v := 1) hx hb dX3_check_84 (by decide) ?_
                  refine lv_goto (tgt := 89) hx hb dX3_check_85 (by decide) ?_
                  refine lv_istore_n (lv' := [(2, _), (1, _), (4, _), (0, _), (3, _)]) hx hb dX3_check_89 rfl hl (by decide) rfl (fun ls hl => ?_)
                  refine lv_iinc (v := (nI (i + 1))) (lv' := [(3, _), (2, _), (1, _), (4, _), (0, _)]) hx hb dX3_check_90 hl (k := 4) rfl (nI_1 _) (by decide) rfl (fun ls hl => ?_)
                  refine lv_goto (tgt := 6) hx hb dX3_check_93 (by decide) ?_
                  exact ih6 (i + 1) 0 1 H locs ls (by omega) (by omega) hT (lv_sub hl [4, 2, 1, 0] rfl)
                · skip
                  refine lv_iload hx hb dX3_check_66 (lv_at hl 1 rfl) ?_
                  refine lv_if_ne (tgt := 84) hx hb dX3_check_68 (by decide) (fun c68 => ?_) (fun c68 => ?_)
                  · skip
                    refine lv_iconst (v := 1) hx hb dX3_check_84 (by decide) ?_
                    refine lv_goto (tgt := 89) hx hb dX3_check_85 (by decide) ?_
                    refine lv_istore_n (lv' := [(2, _), (1, _), (4, _), (0, _), (3, _)]) hx hb dX3_check_89 rfl hl (by decide) rfl (fun ls hl => ?_)
                    refine lv_iinc (v := (nI (i + 1))) (lv' := [(3, _), (2, _), (1, _), (4, _), (0, _)]) hx hb dX3_check_90 hl (k := 4) rfl (nI_1 _) (by decide) rfl (fun ls hl => ?_)
                    refine lv_goto (tgt := 6) hx hb dX3_check_93 (by decide) ?_
                    exact ih6 (i + 1) 0 1 H locs ls (by omega) (by omega) hT (lv_sub hl [4, 2, 1, 0] rfl)
                  · skip
                    refine lv_aload_n hx hb dX3_check_71 rfl (lv_at hl 2 rfl) ?_
                    refine hv_gets (ci := 3) (C := RX3) (T := TX3) (N := 12) hx hb hts (tw_cs in_X3) hown hK hT (cs_kX hS) (by decide) rfl 0 (by decide) (hts _ (tw_c tw_47)) rfl (x := (fa 1)) (cs_pS hS) dX3_check_72 ?_
                    refine lv_iload_n hx hb dX3_check_75 rfl (lv_at hl 4 rfl) ?_
                    refine hv_alds (t := 0) hx hb hK hT (cs_kS hS) rfl rfl (cs_in8 (cs_lt8 hS hlti)) (x := (fa (16 + i))) (cs_qS hS hlti) dX3_check_76 ?_
                    refine hv_geti (ci := 2) (C := RX2) (T := TX2) (N := 10) hx hb hts (tw_cs in_X2) hown hK hT (cs_ks hS hlti) (by decide) rfl 4 (by decide) (hts _ (tw_c tw_81)) rfl dX3_check_77 ?_
                    refine lv_topi (fun g13 eg13 => ?_)
                    refine lv_iconst (v := 5) hx hb dX3_check_80 (by decide) ?_
                    refine lv_icmp_ne (tgt := 88) hx hb dX3_check_81 (by decide) (fun c81 => ?_) (fun c81 => ?_)
                    · skip
                      refine lv_iconst (v := 0) hx hb dX3_check_88 (by decide) ?_
                      refine lv_istore_n (lv' := [(2, _), (1, _), (4, _), (0, _), (3, _)]) hx hb dX3_check_89 rfl hl (by decide) rfl (fun ls hl => ?_)
                      refine lv_iinc (v := (nI (i + 1))) (lv' := [(3, _), (2, _), (1, _), (4, _), (0, _)]) hx hb dX3_check_90 hl (k := 4) rfl (nI_1 _) (by decide) rfl (fun ls hl => ?_)
                      refine lv_goto (tgt := 6) hx hb dX3_check_93 (by decide) ?_
                      exact ih6 (i + 1) 0 0 H locs ls (by omega) (by omega) hT (lv_sub hl [4, 2, 1, 0] rfl)
                    · skip
                      refine lv_iconst (v := 1) hx hb dX3_check_84 (by decide) ?_
                      refine lv_goto (tgt := 89) hx hb dX3_check_85 (by decide) ?_
                      refine lv_istore_n (lv' := [(2, _), (1, _), (4, _), (0, _), (3, _)]) hx hb dX3_check_89 rfl hl (by decide) rfl (fun ls hl => ?_)
                      refine lv_iinc (v := (nI (i + 1))) (lv' := [(3, _), (2, _), (1, _), (4, _), (0, _)]) hx hb dX3_check_90 hl (k := 4) rfl (nI_1 _) (by decide) rfl (fun ls hl => ?_)
                      refine lv_goto (tgt := 6) hx hb dX3_check_93 (by decide) ?_
                      exact ih6 (i + 1) 0 1 H locs ls (by omega) (by omega) hT (lv_sub hl [4, 2, 1, 0] rfl)
              · skip
                refine lv_iconst (v := 1) hx hb dX3_check_56 (by decide) ?_
                refine lv_goto (tgt := 61) hx hb dX3_check_57 (by decide) ?_
                refine lv_istore_n (lv' := [(1, _), (4, _), (0, _), (2, _), (3, _)]) hx hb dX3_check_61 rfl hl (by decide) rfl (fun ls hl => ?_)
                refine lv_iload_n hx hb dX3_check_62 rfl (lv_at hl 3 rfl) ?_
                refine lv_if_ne (tgt := 84) hx hb dX3_check_63 (by decide) (fun c63 => ?_) (fun c63 => ?_)
                · skip
                  refine lv_iconst (v := 1) hx hb dX3_check_84 (by decide) ?_
                  refine lv_goto (tgt := 89) hx hb dX3_check_85 (by decide) ?_
                  refine lv_istore_n (lv' := [(2, _), (1, _), (4, _), (0, _), (3, _)]) hx hb dX3_check_89 rfl hl (by decide) rfl (fun ls hl => ?_)
                  refine lv_iinc (v := (nI (i + 1))) (lv' := [(3, _), (2, _), (1, _), (4, _), (0, _)]) hx hb dX3_check_90 hl (k := 4) rfl (nI_1 _) (by decide) rfl (fun ls hl => ?_)
                  refine lv_goto (tgt := 6) hx hb dX3_check_93 (by decide) ?_
                  exact ih6 (i + 1) 1 1 H locs ls (by omega) (by omega) hT (lv_sub hl [4, 2, 1, 0] rfl)
                · skip
                  refine lv_iload hx hb dX3_check_66 (lv_at hl 1 rfl) ?_
                  refine lv_if_ne (tgt := 84) hx hb dX3_check_68 (by decide) (fun c68 => ?_) (fun c68 => ?_)
                  · skip
                    refine lv_iconst (v := 1) hx hb dX3_check_84 (by decide) ?_
                    refine lv_goto (tgt := 89) hx hb dX3_check_85 (by decide) ?_
                    refine lv_istore_n (lv' := [(2, _), (1, _), (4, _), (0, _), (3, _)]) hx hb dX3_check_89 rfl hl (by decide) rfl (fun ls hl => ?_)
                    refine lv_iinc (v := (nI (i + 1))) (lv' := [(3, _), (2, _), (1, _), (4, _), (0, _)]) hx hb dX3_check_90 hl (k := 4) rfl (nI_1 _) (by decide) rfl (fun ls hl => ?_)
                    refine lv_goto (tgt := 6) hx hb dX3_check_93 (by decide) ?_
                    exact ih6 (i + 1) 1 1 H locs ls (by omega) (by omega) hT (lv_sub hl [4, 2, 1, 0] rfl)
                  · skip
                    refine lv_aload_n hx hb dX3_check_71 rfl (lv_at hl 2 rfl) ?_
                    refine hv_gets (ci := 3) (C := RX3) (T := TX3) (N := 12) hx hb hts (tw_cs in_X3) hown hK hT (cs_kX hS) (by decide) rfl 0 (by decide) (hts _ (tw_c tw_47)) rfl (x := (fa 1)) (cs_pS hS) dX3_check_72 ?_
                    refine lv_iload_n hx hb dX3_check_75 rfl (lv_at hl 4 rfl) ?_
                    refine hv_alds (t := 0) hx hb hK hT (cs_kS hS) rfl rfl (cs_in8 (cs_lt8 hS hlti)) (x := (fa (16 + i))) (cs_qS hS hlti) dX3_check_76 ?_
                    refine hv_geti (ci := 2) (C := RX2) (T := TX2) (N := 10) hx hb hts (tw_cs in_X2) hown hK hT (cs_ks hS hlti) (by decide) rfl 4 (by decide) (hts _ (tw_c tw_81)) rfl dX3_check_77 ?_
                    refine lv_topi (fun g14 eg14 => ?_)
                    refine lv_iconst (v := 5) hx hb dX3_check_80 (by decide) ?_
                    refine lv_icmp_ne (tgt := 88) hx hb dX3_check_81 (by decide) (fun c81 => ?_) (fun c81 => ?_)
                    · skip
                      refine lv_iconst (v := 0) hx hb dX3_check_88 (by decide) ?_
                      refine lv_istore_n (lv' := [(2, _), (1, _), (4, _), (0, _), (3, _)]) hx hb dX3_check_89 rfl hl (by decide) rfl (fun ls hl => ?_)
                      refine lv_iinc (v := (nI (i + 1))) (lv' := [(3, _), (2, _), (1, _), (4, _), (0, _)]) hx hb dX3_check_90 hl (k := 4) rfl (nI_1 _) (by decide) rfl (fun ls hl => ?_)
                      refine lv_goto (tgt := 6) hx hb dX3_check_93 (by decide) ?_
                      exact ih6 (i + 1) 1 0 H locs ls (by omega) (by omega) hT (lv_sub hl [4, 2, 1, 0] rfl)
                    · skip
                      refine lv_iconst (v := 1) hx hb dX3_check_84 (by decide) ?_
                      refine lv_goto (tgt := 89) hx hb dX3_check_85 (by decide) ?_
                      refine lv_istore_n (lv' := [(2, _), (1, _), (4, _), (0, _), (3, _)]) hx hb dX3_check_89 rfl hl (by decide) rfl (fun ls hl => ?_)
                      refine lv_iinc (v := (nI (i + 1))) (lv' := [(3, _), (2, _), (1, _), (4, _), (0, _)]) hx hb dX3_check_90 hl (k := 4) rfl (nI_1 _) (by decide) rfl (fun ls hl => ?_)
                      refine lv_goto (tgt := 6) hx hb dX3_check_93 (by decide) ?_
                      exact ih6 (i + 1) 1 1 H locs ls (by omega) (by omega) hT (lv_sub hl [4, 2, 1, 0] rfl)
          · skip
            refine lv_iconst (v := 1) hx hb dX3_check_32 (by decide) ?_
            refine lv_goto (tgt := 37) hx hb dX3_check_33 (by decide) ?_
            refine lv_istore (lv' := [(4, _), (0, _), (1, _), (2, _), (3, _)]) hx hb dX3_check_37 hl (by decide) rfl (fun ls hl => ?_)
            refine lv_iload_n hx hb dX3_check_39 rfl (lv_at hl 2 rfl) ?_
            refine lv_if_ne (tgt := 56) hx hb dX3_check_40 (by decide) (fun c40 => ?_) (fun c40 => ?_)
            · skip
              refine lv_iconst (v := 1) hx hb dX3_check_56 (by decide) ?_
              refine lv_goto (tgt := 61) hx hb dX3_check_57 (by decide) ?_
              refine lv_istore_n (lv' := [(1, _), (4, _), (0, _), (2, _), (3, _)]) hx hb dX3_check_61 rfl hl (by decide) rfl (fun ls hl => ?_)
              refine lv_iload_n hx hb dX3_check_62 rfl (lv_at hl 3 rfl) ?_
              refine lv_if_ne (tgt := 84) hx hb dX3_check_63 (by decide) (fun c63 => ?_) (fun c63 => ?_)
              · skip
                refine lv_iconst (v := 1) hx hb dX3_check_84 (by decide) ?_
                refine lv_goto (tgt := 89) hx hb dX3_check_85 (by decide) ?_
                refine lv_istore_n (lv' := [(2, _), (1, _), (4, _), (0, _), (3, _)]) hx hb dX3_check_89 rfl hl (by decide) rfl (fun ls hl => ?_)
                refine lv_iinc (v := (nI (i + 1))) (lv' := [(3, _), (2, _), (1, _), (4, _), (0, _)]) hx hb dX3_check_90 hl (k := 4) rfl (nI_1 _) (by decide) rfl (fun ls hl => ?_)
                refine lv_goto (tgt := 6) hx hb dX3_check_93 (by decide) ?_
                exact ih6 (i + 1) 1 1 H locs ls (by omega) (by omega) hT (lv_sub hl [4, 2, 1, 0] rfl)
              · skip
                refine lv_iload hx hb dX3_check_66 (lv_at hl 1 rfl) ?_
                refine lv_if_ne (tgt := 84) hx hb dX3_check_68 (by decide) (fun c68 => ?_) (fun c68 => ?_)
                · skip
                  refine lv_iconst (v := 1) hx hb dX3_check_84 (by decide) ?_
                  refine lv_goto (tgt := 89) hx hb dX3_check_85 (by decide) ?_
                  refine lv_istore_n (lv' := [(2, _), (1, _), (4, _), (0, _), (3, _)]) hx hb dX3_check_89 rfl hl (by decide) rfl (fun ls hl => ?_)
                  refine lv_iinc (v := (nI (i + 1))) (lv' := [(3, _), (2, _), (1, _), (4, _), (0, _)]) hx hb dX3_check_90 hl (k := 4) rfl (nI_1 _) (by decide) rfl (fun ls hl => ?_)
                  refine lv_goto (tgt := 6) hx hb dX3_check_93 (by decide) ?_
                  exact ih6 (i + 1) 1 1 H locs ls (by omega) (by omega) hT (lv_sub hl [4, 2, 1, 0] rfl)
                · skip
                  refine lv_aload_n hx hb dX3_check_71 rfl (lv_at hl 2 rfl) ?_
                  refine hv_gets (ci := 3) (C := RX3) (T := TX3) (N := 12) hx hb hts (tw_cs in_X3) hown hK hT (cs_kX hS) (by decide) rfl 0 (by decide) (hts _ (tw_c tw_47)) rfl (x := (fa 1)) (cs_pS hS) dX3_check_72 ?_
                  refine lv_iload_n hx hb dX3_check_75 rfl (lv_at hl 4 rfl) ?_
                  refine hv_alds (t := 0) hx hb hK hT (cs_kS hS) rfl rfl (cs_in8 (cs_lt8 hS hlti)) (x := (fa (16 + i))) (cs_qS hS hlti) dX3_check_76 ?_
                  refine hv_geti (ci := 2) (C := RX2) (T := TX2) (N := 10) hx hb hts (tw_cs in_X2) hown hK hT (cs_ks hS hlti) (by decide) rfl 4 (by decide) (hts _ (tw_c tw_81)) rfl dX3_check_77 ?_
                  refine lv_topi (fun g15 eg15 => ?_)
                  refine lv_iconst (v := 5) hx hb dX3_check_80 (by decide) ?_
                  refine lv_icmp_ne (tgt := 88) hx hb dX3_check_81 (by decide) (fun c81 => ?_) (fun c81 => ?_)
                  · skip
                    refine lv_iconst (v := 0) hx hb dX3_check_88 (by decide) ?_
                    refine lv_istore_n (lv' := [(2, _), (1, _), (4, _), (0, _), (3, _)]) hx hb dX3_check_89 rfl hl (by decide) rfl (fun ls hl => ?_)
                    refine lv_iinc (v := (nI (i + 1))) (lv' := [(3, _), (2, _), (1, _), (4, _), (0, _)]) hx hb dX3_check_90 hl (k := 4) rfl (nI_1 _) (by decide) rfl (fun ls hl => ?_)
                    refine lv_goto (tgt := 6) hx hb dX3_check_93 (by decide) ?_
                    exact ih6 (i + 1) 1 0 H locs ls (by omega) (by omega) hT (lv_sub hl [4, 2, 1, 0] rfl)
                  · skip
                    refine lv_iconst (v := 1) hx hb dX3_check_84 (by decide) ?_
                    refine lv_goto (tgt := 89) hx hb dX3_check_85 (by decide) ?_
                    refine lv_istore_n (lv' := [(2, _), (1, _), (4, _), (0, _), (3, _)]) hx hb dX3_check_89 rfl hl (by decide) rfl (fun ls hl => ?_)
                    refine lv_iinc (v := (nI (i + 1))) (lv' := [(3, _), (2, _), (1, _), (4, _), (0, _)]) hx hb dX3_check_90 hl (k := 4) rfl (nI_1 _) (by decide) rfl (fun ls hl => ?_)
                    refine lv_goto (tgt := 6) hx hb dX3_check_93 (by decide) ?_
                    exact ih6 (i + 1) 1 1 H locs ls (by omega) (by omega) hT (lv_sub hl [4, 2, 1, 0] rfl)
            · skip
              refine lv_aload_n hx hb dX3_check_43 rfl (lv_at hl 1 rfl) ?_
              refine hv_gets (ci := 3) (C := RX3) (T := TX3) (N := 12) hx hb hts (tw_cs in_X3) hown hK hT (cs_kX hS) (by decide) rfl 0 (by decide) (hts _ (tw_c tw_47)) rfl (x := (fa 1)) (cs_pS hS) dX3_check_44 ?_
              refine lv_iload_n hx hb dX3_check_47 rfl (lv_at hl 4 rfl) ?_
              refine hv_alds (t := 0) hx hb hK hT (cs_kS hS) rfl rfl (cs_in8 (cs_lt8 hS hlti)) (x := (fa (16 + i))) (cs_qS hS hlti) dX3_check_48 ?_
              refine hv_geti (ci := 2) (C := RX2) (T := TX2) (N := 10) hx hb hts (tw_cs in_X2) hown hK hT (cs_ks hS hlti) (by decide) rfl 4 (by decide) (hts _ (tw_c tw_81)) rfl dX3_check_49 ?_
              refine lv_topi (fun g16 eg16 => ?_)
              refine lv_iconst (v := 4) hx hb dX3_check_52 (by decide) ?_
              refine lv_icmp_ne (tgt := 60) hx hb dX3_check_53 (by decide) (fun c53 => ?_) (fun c53 => ?_)
              · skip
                refine lv_iconst (v := 0) hx hb dX3_check_60 (by decide) ?_
                refine lv_istore_n (lv' := [(1, _), (4, _), (0, _), (2, _), (3, _)]) hx hb dX3_check_61 rfl hl (by decide) rfl (fun ls hl => ?_)
                refine lv_iload_n hx hb dX3_check_62 rfl (lv_at hl 3 rfl) ?_
                refine lv_if_ne (tgt := 84) hx hb dX3_check_63 (by decide) (fun c63 => ?_) (fun c63 => ?_)
                · skip
                  refine lv_iconst (v := 1) hx hb dX3_check_84 (by decide) ?_
                  refine lv_goto (tgt := 89) hx hb dX3_check_85 (by decide) ?_
                  refine lv_istore_n (lv' := [(2, _), (1, _), (4, _), (0, _), (3, _)]) hx hb dX3_check_89 rfl hl (by decide) rfl (fun ls hl => ?_)
                  refine lv_iinc (v := (nI (i + 1))) (lv' := [(3, _), (2, _), (1, _), (4, _), (0, _)]) hx hb dX3_check_90 hl (k := 4) rfl (nI_1 _) (by decide) rfl (fun ls hl => ?_)
                  refine lv_goto (tgt := 6) hx hb dX3_check_93 (by decide) ?_
                  exact ih6 (i + 1) 0 1 H locs ls (by omega) (by omega) hT (lv_sub hl [4, 2, 1, 0] rfl)
                · skip
                  refine lv_iload hx hb dX3_check_66 (lv_at hl 1 rfl) ?_
                  refine lv_if_ne (tgt := 84) hx hb dX3_check_68 (by decide) (fun c68 => ?_) (fun c68 => ?_)
                  · skip
                    refine lv_iconst (v := 1) hx hb dX3_check_84 (by decide) ?_
                    refine lv_goto (tgt := 89) hx hb dX3_check_85 (by decide) ?_
                    refine lv_istore_n (lv' := [(2, _), (1, _), (4, _), (0, _), (3, _)]) hx hb dX3_check_89 rfl hl (by decide) rfl (fun ls hl => ?_)
                    refine lv_iinc (v := (nI (i + 1))) (lv' := [(3, _), (2, _), (1, _), (4, _), (0, _)]) hx hb dX3_check_90 hl (k := 4) rfl (nI_1 _) (by decide) rfl (fun ls hl => ?_)
                    refine lv_goto (tgt := 6) hx hb dX3_check_93 (by decide) ?_
                    exact ih6 (i + 1) 0 1 H locs ls (by omega) (by omega) hT (lv_sub hl [4, 2, 1, 0] rfl)
                  · skip
                    refine lv_aload_n hx hb dX3_check_71 rfl (lv_at hl 2 rfl) ?_
                    refine hv_gets (ci := 3) (C := RX3) (T := TX3) (N := 12) hx hb hts (tw_cs in_X3) hown hK hT (cs_kX hS) (by decide) rfl 0 (by decide) (hts _ (tw_c tw_47)) rfl (x := (fa 1)) (cs_pS hS) dX3_check_72 ?_
                    refine lv_iload_n hx hb dX3_check_75 rfl (lv_at hl 4 rfl) ?_
                    refine hv_alds (t := 0) hx hb hK hT (cs_kS hS) rfl rfl (cs_in8 (cs_lt8 hS hlti)) (x := (fa (16 + i))) (cs_qS hS hlti) dX3_check_76 ?_
                    refine hv_geti (ci := 2) (C := RX2) (T := TX2) (N := 10) hx hb hts (tw_cs in_X2) hown hK hT (cs_ks hS hlti) (by decide) rfl 4 (by decide) (hts _ (tw_c tw_81)) rfl dX3_check_77 ?_
                    refine lv_topi (fun g17 eg17 => ?_)
                    refine lv_iconst (v := 5) hx hb dX3_check_80 (by decide) ?_
                    refine lv_icmp_ne (tgt := 88) hx hb dX3_check_81 (by decide) (fun c81 => ?_) (fun c81 => ?_)
                    · skip
                      refine lv_iconst (v := 0) hx hb dX3_check_88 (by decide) ?_
                      refine lv_istore_n (lv' := [(2, _), (1, _), (4, _), (0, _), (3, _)]) hx hb dX3_check_89 rfl hl (by decide) rfl (fun ls hl => ?_)
                      refine lv_iinc (v := (nI (i + 1))) (lv' := [(3, _), (2, _), (1, _), (4, _), (0, _)]) hx hb dX3_check_90 hl (k := 4) rfl (nI_1 _) (by decide) rfl (fun ls hl => ?_)
                      refine lv_goto (tgt := 6) hx hb dX3_check_93 (by decide) ?_
                      exact ih6 (i + 1) 0 0 H locs ls (by omega) (by omega) hT (lv_sub hl [4, 2, 1, 0] rfl)
                    · skip
                      refine lv_iconst (v := 1) hx hb dX3_check_84 (by decide) ?_
                      refine lv_goto (tgt := 89) hx hb dX3_check_85 (by decide) ?_
                      refine lv_istore_n (lv' := [(2, _), (1, _), (4, _), (0, _), (3, _)]) hx hb dX3_check_89 rfl hl (by decide) rfl (fun ls hl => ?_)
                      refine lv_iinc (v := (nI (i + 1))) (lv' := [(3, _), (2, _), (1, _), (4, _), (0, _)]) hx hb dX3_check_90 hl (k := 4) rfl (nI_1 _) (by decide) rfl (fun ls hl => ?_)
                      refine lv_goto (tgt := 6) hx hb dX3_check_93 (by decide) ?_
                      exact ih6 (i + 1) 0 1 H locs ls (by omega) (by omega) hT (lv_sub hl [4, 2, 1, 0] rfl)
              · skip
                refine lv_iconst (v := 1) hx hb dX3_check_56 (by decide) ?_
                refine lv_goto (tgt := 61) hx hb dX3_check_57 (by decide) ?_
                refine lv_istore_n (lv' := [(1, _), (4, _), (0, _), (2, _), (3, _)]) hx hb dX3_check_61 rfl hl (by decide) rfl (fun ls hl => ?_)
                refine lv_iload_n hx hb dX3_check_62 rfl (lv_at hl 3 rfl) ?_
                refine lv_if_ne (tgt := 84) hx hb dX3_check_63 (by decide) (fun c63 => ?_) (fun c63 => ?_)
                · skip
                  refine lv_iconst (v := 1) hx hb dX3_check_84 (by decide) ?_
                  refine lv_goto (tgt := 89) hx hb dX3_check_85 (by decide) ?_
                  refine lv_istore_n (lv' := [(2, _), (1, _), (4, _), (0, _), (3, _)]) hx hb dX3_check_89 rfl hl (by decide) rfl (fun ls hl => ?_)
                  refine lv_iinc (v := (nI (i + 1))) (lv' := [(3, _), (2, _), (1, _), (4, _), (0, _)]) hx hb dX3_check_90 hl (k := 4) rfl (nI_1 _) (by decide) rfl (fun ls hl => ?_)
                  refine lv_goto (tgt := 6) hx hb dX3_check_93 (by decide) ?_
                  exact ih6 (i + 1) 1 1 H locs ls (by omega) (by omega) hT (lv_sub hl [4, 2, 1, 0] rfl)
                · skip
                  refine lv_iload hx hb dX3_check_66 (lv_at hl 1 rfl) ?_
                  refine lv_if_ne (tgt := 84) hx hb dX3_check_68 (by decide) (fun c68 => ?_) (fun c68 => ?_)
                  · skip
                    refine lv_iconst (v := 1) hx hb dX3_check_84 (by decide) ?_
                    refine lv_goto (tgt := 89) hx hb dX3_check_85 (by decide) ?_
                    refine lv_istore_n (lv' := [(2, _), (1, _), (4, _), (0, _), (3, _)]) hx hb dX3_check_89 rfl hl (by decide) rfl (fun ls hl => ?_)
                    refine lv_iinc (v := (nI (i + 1))) (lv' := [(3, _), (2, _), (1, _), (4, _), (0, _)]) hx hb dX3_check_90 hl (k := 4) rfl (nI_1 _) (by decide) rfl (fun ls hl => ?_)
                    refine lv_goto (tgt := 6) hx hb dX3_check_93 (by decide) ?_
                    exact ih6 (i + 1) 1 1 H locs ls (by omega) (by omega) hT (lv_sub hl [4, 2, 1, 0] rfl)
                  · skip
                    refine lv_aload_n hx hb dX3_check_71 rfl (lv_at hl 2 rfl) ?_
                    refine hv_gets (ci := 3) (C := RX3) (T := TX3) (N := 12) hx hb hts (tw_cs in_X3) hown hK hT (cs_kX hS) (by decide) rfl 0 (by decide) (hts _ (tw_c tw_47)) rfl (x := (fa 1)) (cs_pS hS) dX3_check_72 ?_
                    refine lv_iload_n hx hb dX3_check_75 rfl (lv_at hl 4 rfl) ?_
                    refine hv_alds (t := 0) hx hb hK hT (cs_kS hS) rfl rfl (cs_in8 (cs_lt8 hS hlti)) (x := (fa (16 + i))) (cs_qS hS hlti) dX3_check_76 ?_
                    refine hv_geti (ci := 2) (C := RX2) (T := TX2) (N := 10) hx hb hts (tw_cs in_X2) hown hK hT (cs_ks hS hlti) (by decide) rfl 4 (by decide) (hts _ (tw_c tw_81)) rfl dX3_check_77 ?_
                    refine lv_topi (fun g18 eg18 => ?_)
                    refine lv_iconst (v := 5) hx hb dX3_check_80 (by decide) ?_
                    refine lv_icmp_ne (tgt := 88) hx hb dX3_check_81 (by decide) (fun c81 => ?_) (fun c81 => ?_)
                    · skip
                      refine lv_iconst (v := 0) hx hb dX3_check_88 (by decide) ?_
                      refine lv_istore_n (lv' := [(2, _), (1, _), (4, _), (0, _), (3, _)]) hx hb dX3_check_89 rfl hl (by decide) rfl (fun ls hl => ?_)
                      refine lv_iinc (v := (nI (i + 1))) (lv' := [(3, _), (2, _), (1, _), (4, _), (0, _)]) hx hb dX3_check_90 hl (k := 4) rfl (nI_1 _) (by decide) rfl (fun ls hl => ?_)
                      refine lv_goto (tgt := 6) hx hb dX3_check_93 (by decide) ?_
                      exact ih6 (i + 1) 1 0 H locs ls (by omega) (by omega) hT (lv_sub hl [4, 2, 1, 0] rfl)
                    · skip
                      refine lv_iconst (v := 1) hx hb dX3_check_84 (by decide) ?_
                      refine lv_goto (tgt := 89) hx hb dX3_check_85 (by decide) ?_
                      refine lv_istore_n (lv' := [(2, _), (1, _), (4, _), (0, _), (3, _)]) hx hb dX3_check_89 rfl hl (by decide) rfl (fun ls hl => ?_)
                      refine lv_iinc (v := (nI (i + 1))) (lv' := [(3, _), (2, _), (1, _), (4, _), (0, _)]) hx hb dX3_check_90 hl (k := 4) rfl (nI_1 _) (by decide) rfl (fun ls hl => ?_)
                      refine lv_goto (tgt := 6) hx hb dX3_check_93 (by decide) ?_
                      exact ih6 (i + 1) 1 1 H locs ls (by omega) (by omega) hT (lv_sub hl [4, 2, 1, 0] rfl)
  exact hL6 (n + 1) 0 0 0 H locs ls (Nat.zero_le _) (by omega) hT (lv_sub hl [3, 2, 1, 0] rfl)

set_option maxHeartbeats 4000000 in
set_option maxRecDepth 100000 in
theorem c_reset (l : Launch) (D : va_G) (tc : Nat → ClassId) {fa : Nat → Nat} {n : Nat} {w u : Nat → Nat} {b : Nat} {d : Nat → Nat → Nat} {g : Nat × Nat} {k : Nat} {v : hv_V} (hI : ci_I fa n w u b d g k [] v) : Met l yX3_reset (Cond.code yX3_reset cX3_reset 2 (some .int) :: lw_B) ({ frames := 1, cells := 0, slots := 0, locals := 25 }) (va_Pc [.ref (fa 0)] (hv_Pre D tc v)) (va_Qi (fun (r : Int32) (v1 : hv_V) => r = 1 ∧ ∃ u1 b1 d1 k1, ci_I fa n w u1 b1 d1 g k1 [] v1) (hv_Post D tc (hv_A v)) (hv_A v)) (0) (0) (hv_A v) := by
  refine hv_meti l (by decide) (Nat.le_of_ble_eq_true rfl) ?_
  intro p e s m args below meth c Q X hret hK hz H locs ls hT hl
  obtain ⟨hx, hb, hml, hts, hown, hin0⟩ := X
  have hown : s.vm.findClass "CommitSites" = some m.cls := hown
  have hl : lv_has ls 2 [(0, .ref (fa 0))] := hl
  have hS := hI.1
  have hn := hI.2.1.1
  refine lv_aload_n hx hb dX3_reset_0 rfl (lv_at hl 0 rfl) ?_
  refine lv_iconst (v := 0) hx hb dX3_reset_1 (by decide) ?_
  refine hv_puti (ci := 3) (C := RX3) (T := TX3) (N := 12) hx hb hts (tw_cs in_X3) tyX3 tyX3_ok nmX3 hown hK hT (cs_kX hS) (by decide) rfl 8 (by decide) (hts _ (tw_c tw_55)) rfl rfl (x := 0) rfl rfl dX3_reset_2 (fun H locs hT => ?_)
  have hI := ci_putB (x := 0) (b' := 0) rfl (by decide) hI
  have hS := hI.1
  refine lv_aload_n hx hb dX3_reset_5 rfl (lv_at hl 0 rfl) ?_
  refine lv_iconst (v := 0) hx hb dX3_reset_6 (by decide) ?_
  refine hv_puti (ci := 3) (C := RX3) (T := TX3) (N := 12) hx hb hts (tw_cs in_X3) tyX3 tyX3_ok nmX3 hown hK hT (cs_kX hS) (by decide) rfl 9 (by decide) (hts _ (tw_c tw_56)) rfl rfl (x := 0) rfl rfl dX3_reset_7 (fun H locs hT => ?_)
  have hI := ci_put (f := 309) (a := (fa 0)) (x := 0) rfl hI
  have hS := hI.1
  refine lv_aload_n hx hb dX3_reset_10 rfl (lv_at hl 0 rfl) ?_
  refine lv_iconst (v := 0) hx hb dX3_reset_11 (by decide) ?_
  refine hv_puti (ci := 3) (C := RX3) (T := TX3) (N := 12) hx hb hts (tw_cs in_X3) tyX3 tyX3_ok nmX3 hown hK hT (cs_kX hS) (by decide) rfl 10 (by decide) (hts _ (tw_c tw_57)) rfl rfl (x := 0) rfl rfl dX3_reset_12 (fun H locs hT => ?_)
  have hI := ci_put (f := 310) (a := (fa 0)) (x := 0) rfl hI
  have hS := hI.1
  refine lv_aload_n hx hb dX3_reset_15 rfl (lv_at hl 0 rfl) ?_
  refine lv_iconst (v := 0) hx hb dX3_reset_16 (by decide) ?_
  refine hv_puti (ci := 3) (C := RX3) (T := TX3) (N := 12) hx hb hts (tw_cs in_X3) tyX3 tyX3_ok nmX3 hown hK hT (cs_kX hS) (by decide) rfl 11 (by decide) (hts _ (tw_c tw_58)) rfl rfl (x := 0) rfl rfl dX3_reset_17 (fun H locs hT => ?_)
  have hI := ci_put (f := 311) (a := (fa 0)) (x := 0) rfl hI
  have hS := hI.1
  refine lv_aload_n hx hb dX3_reset_20 rfl (lv_at hl 0 rfl) ?_
  refine lv_iconst (v := 0) hx hb dX3_reset_21 (by decide) ?_
  refine lv_iconst (v := (-1)) hx hb dX3_reset_22 (by decide) ?_
  refine lv_iconst (v := (-1)) hx hb dX3_reset_23 (by decide) ?_
  refine lv_iconst (v := 0) hx hb dX3_reset_24 (by decide) ?_
  refine lv_iconst (v := 0) hx hb dX3_reset_25 (by decide) ?_
  refine hv_callv (va_runV (As := [.int 0, .int (-1), .int (-1), .int 0, .int 0]) (rest := []) ⟨hx, hb, hml, hown, hts⟩ (c_note l D tc hI 0 (-1) (-1) 0 0) (cwV 5 hts (tw_V tw_44 tw_45 tw_482 tw_1 tw_46) rfl rfl rfl (by decide +kernel) ⟨Nat.le_of_ble_eq_true rfl, Nat.le_of_ble_eq_true rfl⟩) (hv_preV (ci := 3) hK hT.1 (cs_kX hS) (by decide) rfl rfl) rfl rfl hl.1 rfl (lv_room (Nat.le_of_ble_eq_true rfl)) dX3_reset_26 ⟨Nat.le_of_ble_eq_true rfl, Nat.le_of_ble_eq_true rfl⟩) hT (fun v1 H locs hp2 hT => ?_)
  have hI := hp2
  have hS := hI.1
  refine lv_aload_n hx hb dX3_reset_29 rfl (lv_at hl 0 rfl) ?_
  refine hv_gets (ci := 3) (C := RX3) (T := TX3) (N := 12) hx hb hts (tw_cs in_X3) hown hK hT (cs_kX hS) (by decide) rfl 1 (by decide) (hts _ (tw_c tw_48)) rfl (x := (fa 2)) (cs_pN hS) dX3_reset_30 ?_
  refine hv_callv (va_runV (As := []) (rest := []) ⟨hx, hb, hml, hown, hts⟩ (c_netAnew l D tc hI) (cwV 0 hts (tw_V tw_276 tw_277 tw_278 tw_2 tw_279) rfl rfl rfl (by decide +kernel) ⟨Nat.le_of_ble_eq_true rfl, Nat.le_of_ble_eq_true rfl⟩) (hv_preV (ci := 1) hK hT.1 (cs_kN hS) (by decide) rfl rfl) rfl rfl hl.1 rfl (lv_room (Nat.le_of_ble_eq_true rfl)) dX3_reset_33 ⟨Nat.le_of_ble_eq_true rfl, Nat.le_of_ble_eq_true rfl⟩) hT (fun v3 H locs hp4 hT => ?_)
  have hI := hp4
  have hS := hI.1
  have hn := hI.2.1.1
  refine lv_iconst (v := 0) hx hb dX3_reset_36 (by decide) ?_
  refine hv_as (x := 0) (y := (nI 0)) nI_0.symm ?_
  refine lv_istore_n (lv' := [(1, _), (0, _)]) hx hb dX3_reset_37 rfl hl (by decide) rfl (fun ls hl => ?_)
  have hL38 : ∀ (N9 : Nat) (i : Nat) (uL : Nat → Nat) (vL : hv_V) (H : Heap) (locs : List Loc) (ls : Array Slot), i ≤ n → n < i + N9 → ci_I fa n w uL 0 d g k [] vL → hv_St (hv_A v) s D tc vL H locs → lv_has ls 2 [(0, .ref (fa 0)), (1, .int (nI i))] → W p l e ({ frames := 1, cells := 0, slots := 0, locals := 25 } : Room) s m args below meth c H locs (0) (0) Q (F0 m 38 ls []) := by
    intro N9
    induction N9 with
    | zero =>
      intro i uL vL H locs ls hle hN hI hT hl
      exfalso
      omega
    | succ N9 ih38 =>
      intro i uL vL H locs ls hle hN hI hT hl
      have hS := hI.1
      refine lv_iload_n hx hb dX3_reset_38 rfl (lv_at hl 1 rfl) ?_
      refine lv_aload_n hx hb dX3_reset_39 rfl (lv_at hl 0 rfl) ?_
      refine hv_geti (ci := 3) (C := RX3) (T := TX3) (N := 12) hx hb hts (tw_cs in_X3) hown hK hT (cs_kX hS) (by decide) rfl 3 (by decide) (hts _ (tw_c tw_50)) rfl dX3_reset_40 ?_
      refine lv_topi (fun g5 eg5 => ?_)
      refine lv_icmp_ge (tgt := 61) hx hb dX3_reset_43 (by decide) (fun c43 => ?_) (fun c43 => ?_)
      · skip
        refine lv_iconst (v := 1) hx hb dX3_reset_61 (by decide) ?_
        exact hret _ 1 vL _ _ _ _ _ dX3_reset_62 rfl hT ⟨rfl, _, _, _, _, hI⟩ (by decide) (by decide)
      · skip
        have hlti : i < n := cs_lp hle (cs_n8 hS) (by rw [← hI.2.1.1, ← eg5]; exact c43)
        refine lv_aload_n hx hb dX3_reset_46 rfl (lv_at hl 0 rfl) ?_
        refine hv_gets (ci := 3) (C := RX3) (T := TX3) (N := 12) hx hb hts (tw_cs in_X3) hown hK hT (cs_kX hS) (by decide) rfl 0 (by decide) (hts _ (tw_c tw_47)) rfl (x := (fa 1)) (cs_pS hS) dX3_reset_47 ?_
        refine lv_iload_n hx hb dX3_reset_50 rfl (lv_at hl 1 rfl) ?_
        refine hv_alds (t := 0) hx hb hK hT (cs_kS hS) rfl rfl (cs_in8 (cs_lt8 hS hlti)) (x := (fa (16 + i))) (cs_qS hS hlti) dX3_reset_51 ?_
        refine hv_callv (va_runV (As := []) (rest := []) ⟨hx, hb, hml, hown, hts⟩ (c_siteAnew l D tc (cs_ks hS hlti)) (cwV 0 hts (tw_V tw_280 tw_69 tw_70 tw_4 tw_71) rfl rfl rfl (by decide +kernel) ⟨Nat.le_of_ble_eq_true rfl, Nat.le_of_ble_eq_true rfl⟩) (hv_preV (ci := 2) hK hT.1 (cs_ks hS hlti) (by decide) rfl rfl) rfl rfl hl.1 rfl (lv_room (Nat.le_of_ble_eq_true rfl)) dX3_reset_52 ⟨Nat.le_of_ble_eq_true rfl, Nat.le_of_ble_eq_true rfl⟩) hT (fun v6 H locs hp7 hT => ?_)
        have hI := ci_anew hlti hI
        rw [← hp7] at hI
        have hS := hI.1
        refine lv_iinc (v := (nI (i + 1))) (lv' := [(1, _), (0, _)]) hx hb dX3_reset_55 hl (k := 1) rfl (nI_1 _) (by decide) rfl (fun ls hl => ?_)
        refine lv_goto (tgt := 38) hx hb dX3_reset_58 (by decide) ?_
        exact ih38 (i + 1) _ v6 H locs ls (by omega) (by omega) hI hT (lv_sub hl [1, 0] rfl)
  exact hL38 (n + 1) 0 u v3 H locs ls (by omega) (by omega) hI hT (lv_sub hl [1, 0] rfl)
