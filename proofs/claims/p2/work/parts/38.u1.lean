set_option maxHeartbeats 4000000 in
set_option maxRecDepth 100000 in
theorem s_patience (l : Launch) (D : va_G) (tc : Nat → ClassId) {fa : Nat → Nat} {n : Nat} {w u : Nat → Nat} {b : Nat} {d : Nat → Nat → Nat} {g : Nat × Nat} {k : Nat} {v : hv_V} (hI : ci_I fa n w u b d g k [] v) (x : Int32) : Met l yX3_patience (Cond.code yX3_patience cX3_patience 2 (some .int) :: lw_B) ({ frames := 0, cells := 0, slots := 0, locals := 0 }) (va_Pc [.ref (fa 0), .int x] (hv_Pre D tc v)) (va_Qi (fun (r : Int32) (v1 : hv_V) => (ok_T b x ∧ r = 1 ∨ ¬ ok_T b x ∧ r = 0) ∧ ∃ k1, ci_I fa n w u b d g k1 [] v1) (hv_Post D tc (hv_A v)) (hv_A v)) (0) (0) (hv_A v) := by
  refine hv_meti l (by decide) (Nat.le_of_ble_eq_true rfl) ?_
  intro p e s m args below meth c Q X hret hK hz H locs ls hT hl
  obtain ⟨hx, hb, hml, hts, hown, hin0⟩ := X
  have hown : s.vm.findClass "CommitSites" = some m.cls := hown
  have hl : lv_has ls 2 [(0, .ref (fa 0)), (1, .int x)] := hl
  have hS := hI.1
  have hn := hI.2.1.1
  have hb1 := hI.2.1.2.2.1.2
  refine lv_iload_n hx hb dX3_patience_0 rfl (lv_at hl 1 rfl) ?_
  refine lv_iconst (v := 5) hx hb dX3_patience_1 (by decide) ?_
  refine lv_icmp_lt (tgt := 18) hx hb dX3_patience_2 (by decide) (fun c2 => ?_) (fun c2 => ?_)
  · skip
    refine lv_iconst (v := 0) hx hb dX3_patience_18 (by decide) ?_
    exact hret _ 0 v _ _ _ _ _ dX3_patience_19 rfl hT ⟨Or.inr ⟨fun h => h.1 c2, rfl⟩, _, hI⟩ (by decide) (by decide)
  · skip
    refine lv_iload_n hx hb dX3_patience_5 rfl (lv_at hl 1 rfl) ?_
    refine lv_bipush (v := 100) hx hb dX3_patience_6 (by decide) ?_
    refine lv_icmp_gt (tgt := 18) hx hb dX3_patience_8 (by decide) (fun c8 => ?_) (fun c8 => ?_)
    · skip
      refine lv_iconst (v := 0) hx hb dX3_patience_18 (by decide) ?_
      exact hret _ 0 v _ _ _ _ _ dX3_patience_19 rfl hT ⟨Or.inr ⟨fun h => h.2.1 c8, rfl⟩, _, hI⟩ (by decide) (by decide)
    · skip
      refine lv_aload_n hx hb dX3_patience_11 rfl (lv_at hl 0 rfl) ?_
      refine hv_geti (ci := 3) (C := RX3) (T := TX3) (N := 12) hx hb hts (tw_cs in_X3) hown hK hT (cs_kX hS) (by decide) rfl 8 (by decide) (hts _ (tw_c tw_55)) rfl dX3_patience_12 ?_
      refine lv_topi (fun g1 eg1 => ?_)
      have eg1 : g1 = (nI b) := eg1.trans (hI.2.1.2.2.1.1)
      subst eg1
      refine lv_if_eq (tgt := 20) hx hb dX3_patience_15 (by decide) (fun c15 => ?_) (fun c15 => ?_)
      · skip
        refine lv_aload_n hx hb dX3_patience_20 rfl (lv_at hl 0 rfl) ?_
        refine lv_iload_n hx hb dX3_patience_21 rfl (lv_at hl 1 rfl) ?_
        refine hv_puti (ci := 3) (C := RX3) (T := TX3) (N := 12) hx hb hts (tw_cs in_X3) tyX3 tyX3_ok nmX3 hown hK hT (cs_kX hS) (by decide) rfl 7 (by decide) (hts _ (tw_c tw_54)) rfl rfl (x := x) rfl rfl dX3_patience_22 (fun H locs hT => ?_)
        obtain ⟨q, hq5, hq9, hq⟩ := is_rng (a := 5) (m := 100) (by decide) c2 c8 (by decide)
        have hI := ci_putP hq hq5 hq9 hI
        have hS := hI.1
        refine lv_iconst (v := 1) hx hb dX3_patience_25 (by decide) ?_
        exact hret _ 1 (hv_si v 307 (fa 0) x) _ _ _ _ _ dX3_patience_26 rfl hT ⟨Or.inl ⟨⟨c2, c8, nI_lit (k := 0) c15⟩, rfl⟩, _, hI⟩ (by decide) (by decide)
      · skip
        refine lv_iconst (v := 0) hx hb dX3_patience_18 (by decide) ?_
        exact hret _ 0 v _ _ _ _ _ dX3_patience_19 rfl hT ⟨Or.inr ⟨fun h => c15 (by rw [h.2.2]; exact nI_0), rfl⟩, _, hI⟩ (by decide) (by decide)

set_option maxHeartbeats 4000000 in
set_option maxRecDepth 100000 in
theorem s_quorums (l : Launch) (D : va_G) (tc : Nat → ClassId) {fa : Nat → Nat} {n : Nat} {w u : Nat → Nat} {b : Nat} {d : Nat → Nat → Nat} {g : Nat × Nat} {k : Nat} {v : hv_V} (hI : ci_I fa n w u b d g k [] v) (x y : Int32) : Met l yX3_quorums (Cond.code yX3_quorums cX3_quorums 4 (some .int) :: lw_B) ({ frames := 0, cells := 0, slots := 0, locals := 0 }) (va_Pc [.ref (fa 0), .int x, .int y] (hv_Pre D tc v)) (va_Qi (fun (r : Int32) (v1 : hv_V) => (ok_Q b (ci_sum w n) x y ∧ r = 1 ∨ ¬ ok_Q b (ci_sum w n) x y ∧ r = 0) ∧ ∃ k1, ci_I fa n w u b d g k1 [] v1) (hv_Post D tc (hv_A v)) (hv_A v)) (0) (0) (hv_A v) := by
  refine hv_meti l (by decide) (Nat.le_of_ble_eq_true rfl) ?_
  intro p e s m args below meth c Q X hret hK hz H locs ls hT hl
  obtain ⟨hx, hb, hml, hts, hown, hin0⟩ := X
  have hown : s.vm.findClass "CommitSites" = some m.cls := hown
  have hl : lv_has ls 4 [(0, .ref (fa 0)), (1, .int x), (2, .int y)] := hl
  have hS := hI.1
  have hn := hI.2.1.1
  have hb1 := hI.2.1.2.2.1.2
  refine lv_iload_n hx hb dX3_quorums_0 rfl (lv_at hl 1 rfl) ?_
  refine lv_iconst (v := 1) hx hb dX3_quorums_1 (by decide) ?_
  refine lv_icmp_lt (tgt := 30) hx hb dX3_quorums_2 (by decide) (fun c2 => ?_) (fun c2 => ?_)
  · skip
    refine lv_iconst (v := 0) hx hb dX3_quorums_30 (by decide) ?_
    refine lv_istore_n (lv' := [(3, _), (0, _), (1, _), (2, _)]) hx hb dX3_quorums_31 rfl hl (by decide) rfl (fun ls hl => ?_)
    refine lv_aload_n hx hb dX3_quorums_32 rfl (lv_at hl 1 rfl) ?_
    refine hv_geti (ci := 3) (C := RX3) (T := TX3) (N := 12) hx hb hts (tw_cs in_X3) hown hK hT (cs_kX hS) (by decide) rfl 8 (by decide) (hts _ (tw_c tw_55)) rfl dX3_quorums_33 ?_
    refine lv_topi (fun g1 eg1 => ?_)
    have eg1 : g1 = (nI b) := eg1.trans (hI.2.1.2.2.1.1)
    subst eg1
    refine lv_if_ne (tgt := 53) hx hb dX3_quorums_36 (by decide) (fun c36 => ?_) (fun c36 => ?_)
    · skip
      refine lv_iconst (v := 0) hx hb dX3_quorums_53 (by decide) ?_
      exact hret _ 0 v _ _ _ _ _ dX3_quorums_54 rfl hT ⟨Or.inr ⟨fun h => c36 (by rw [h.1]; exact nI_0), rfl⟩, _, hI⟩ (by decide) (by decide)
    · skip
      refine lv_iload_n hx hb dX3_quorums_39 rfl (lv_at hl 0 rfl) ?_
      refine lv_if_eq (tgt := 53) hx hb dX3_quorums_40 (by decide) (fun c40 => ?_) (fun c40 => ?_)
      · skip
        refine lv_iconst (v := 0) hx hb dX3_quorums_53 (by decide) ?_
        exact hret _ 0 v _ _ _ _ _ dX3_quorums_54 rfl hT ⟨Or.inr ⟨fun h => h.2.1 c2, rfl⟩, _, hI⟩ (by decide) (by decide)
      · skip
        exact absurd rfl c40
  · skip
    refine lv_iload_n hx hb dX3_quorums_5 rfl (lv_at hl 1 rfl) ?_
    refine lv_aload_n hx hb dX3_quorums_6 rfl (lv_at hl 0 rfl) ?_
    refine hv_geti (ci := 3) (C := RX3) (T := TX3) (N := 12) hx hb hts (tw_cs in_X3) hown hK hT (cs_kX hS) (by decide) rfl 4 (by decide) (hts _ (tw_c tw_51)) rfl dX3_quorums_7 ?_
    refine lv_topi (fun g2 eg2 => ?_)
    have eg2 : g2 = (nI (ci_sum w n)) := eg2.trans (hI.2.1.2.1)
    subst eg2
    refine lv_icmp_gt (tgt := 30) hx hb dX3_quorums_10 (by decide) (fun c10 => ?_) (fun c10 => ?_)
    · skip
      refine lv_iconst (v := 0) hx hb dX3_quorums_30 (by decide) ?_
      refine lv_istore_n (lv' := [(3, _), (0, _), (1, _), (2, _)]) hx hb dX3_quorums_31 rfl hl (by decide) rfl (fun ls hl => ?_)
      refine lv_aload_n hx hb dX3_quorums_32 rfl (lv_at hl 1 rfl) ?_
      refine hv_geti (ci := 3) (C := RX3) (T := TX3) (N := 12) hx hb hts (tw_cs in_X3) hown hK hT (cs_kX hS) (by decide) rfl 8 (by decide) (hts _ (tw_c tw_55)) rfl dX3_quorums_33 ?_
      refine lv_topi (fun g3 eg3 => ?_)
      have eg3 : g3 = (nI b) := eg3.trans (hI.2.1.2.2.1.1)
      subst eg3
      refine lv_if_ne (tgt := 53) hx hb dX3_quorums_36 (by decide) (fun c36 => ?_) (fun c36 => ?_)
      · skip
        refine lv_iconst (v := 0) hx hb dX3_quorums_53 (by decide) ?_
        exact hret _ 0 v _ _ _ _ _ dX3_quorums_54 rfl hT ⟨Or.inr ⟨fun h => c36 (by rw [h.1]; exact nI_0), rfl⟩, _, hI⟩ (by decide) (by decide)
      · skip
        refine lv_iload_n hx hb dX3_quorums_39 rfl (lv_at hl 0 rfl) ?_
        refine lv_if_eq (tgt := 53) hx hb dX3_quorums_40 (by decide) (fun c40 => ?_) (fun c40 => ?_)
        · skip
          refine lv_iconst (v := 0) hx hb dX3_quorums_53 (by decide) ?_
          exact hret _ 0 v _ _ _ _ _ dX3_quorums_54 rfl hT ⟨Or.inr ⟨fun h => h.2.2.1 c10, rfl⟩, _, hI⟩ (by decide) (by decide)
        · skip
          exact absurd rfl c40
    · skip
      refine lv_iload_n hx hb dX3_quorums_13 rfl (lv_at hl 2 rfl) ?_
      refine lv_iconst (v := 1) hx hb dX3_quorums_14 (by decide) ?_
      refine lv_icmp_lt (tgt := 30) hx hb dX3_quorums_15 (by decide) (fun c15 => ?_) (fun c15 => ?_)
      · skip
        refine lv_iconst (v := 0) hx hb dX3_quorums_30 (by decide) ?_
        refine lv_istore_n (lv' := [(3, _), (0, _), (1, _), (2, _)]) hx hb dX3_quorums_31 rfl hl (by decide) rfl (fun ls hl => ?_)
        refine lv_aload_n hx hb dX3_quorums_32 rfl (lv_at hl 1 rfl) ?_
        refine hv_geti (ci := 3) (C := RX3) (T := TX3) (N := 12) hx hb hts (tw_cs in_X3) hown hK hT (cs_kX hS) (by decide) rfl 8 (by decide) (hts _ (tw_c tw_55)) rfl dX3_quorums_33 ?_
        refine lv_topi (fun g4 eg4 => ?_)
        have eg4 : g4 = (nI b) := eg4.trans (hI.2.1.2.2.1.1)
        subst eg4
        refine lv_if_ne (tgt := 53) hx hb dX3_quorums_36 (by decide) (fun c36 => ?_) (fun c36 => ?_)
        · skip
          refine lv_iconst (v := 0) hx hb dX3_quorums_53 (by decide) ?_
          exact hret _ 0 v _ _ _ _ _ dX3_quorums_54 rfl hT ⟨Or.inr ⟨fun h => c36 (by rw [h.1]; exact nI_0), rfl⟩, _, hI⟩ (by decide) (by decide)
        · skip
          refine lv_iload_n hx hb dX3_quorums_39 rfl (lv_at hl 0 rfl) ?_
          refine lv_if_eq (tgt := 53) hx hb dX3_quorums_40 (by decide) (fun c40 => ?_) (fun c40 => ?_)
          · skip
            refine lv_iconst (v := 0) hx hb dX3_quorums_53 (by decide) ?_
            exact hret _ 0 v _ _ _ _ _ dX3_quorums_54 rfl hT ⟨Or.inr ⟨fun h => h.2.2.2.1 c15, rfl⟩, _, hI⟩ (by decide) (by decide)
          · skip
            exact absurd rfl c40
      · skip
        refine lv_iload_n hx hb dX3_quorums_18 rfl (lv_at hl 2 rfl) ?_
        refine lv_aload_n hx hb dX3_quorums_19 rfl (lv_at hl 0 rfl) ?_
        refine hv_geti (ci := 3) (C := RX3) (T := TX3) (N := 12) hx hb hts (tw_cs in_X3) hown hK hT (cs_kX hS) (by decide) rfl 4 (by decide) (hts _ (tw_c tw_51)) rfl dX3_quorums_20 ?_
        refine lv_topi (fun g5 eg5 => ?_)
        have eg5 : g5 = (nI (ci_sum w n)) := eg5.trans (hI.2.1.2.1)
        subst eg5
        refine lv_icmp_gt (tgt := 30) hx hb dX3_quorums_23 (by decide) (fun c23 => ?_) (fun c23 => ?_)
        · skip
          refine lv_iconst (v := 0) hx hb dX3_quorums_30 (by decide) ?_
          refine lv_istore_n (lv' := [(3, _), (0, _), (1, _), (2, _)]) hx hb dX3_quorums_31 rfl hl (by decide) rfl (fun ls hl => ?_)
          refine lv_aload_n hx hb dX3_quorums_32 rfl (lv_at hl 1 rfl) ?_
          refine hv_geti (ci := 3) (C := RX3) (T := TX3) (N := 12) hx hb hts (tw_cs in_X3) hown hK hT (cs_kX hS) (by decide) rfl 8 (by decide) (hts _ (tw_c tw_55)) rfl dX3_quorums_33 ?_
          refine lv_topi (fun g6 eg6 => ?_)
          have eg6 : g6 = (nI b) := eg6.trans (hI.2.1.2.2.1.1)
          subst eg6
          refine lv_if_ne (tgt := 53) hx hb dX3_quorums_36 (by decide) (fun c36 => ?_) (fun c36 => ?_)
          · skip
            refine lv_iconst (v := 0) hx hb dX3_quorums_53 (by decide) ?_
            exact hret _ 0 v _ _ _ _ _ dX3_quorums_54 rfl hT ⟨Or.inr ⟨fun h => c36 (by rw [h.1]; exact nI_0), rfl⟩, _, hI⟩ (by decide) (by decide)
          · skip
            refine lv_iload_n hx hb dX3_quorums_39 rfl (lv_at hl 0 rfl) ?_
            refine lv_if_eq (tgt := 53) hx hb dX3_quorums_40 (by decide) (fun c40 => ?_) (fun c40 => ?_)
            · skip
              refine lv_iconst (v := 0) hx hb dX3_quorums_53 (by decide) ?_
              exact hret _ 0 v _ _ _ _ _ dX3_quorums_54 rfl hT ⟨Or.inr ⟨fun h => h.2.2.2.2.1 c23, rfl⟩, _, hI⟩ (by decide) (by decide)
            · skip
              exact absurd rfl c40
        · skip
          refine lv_iconst (v := 1) hx hb dX3_quorums_26 (by decide) ?_
          refine lv_goto (tgt := 31) hx hb dX3_quorums_27 (by decide) ?_
          refine lv_istore_n (lv' := [(3, _), (0, _), (1, _), (2, _)]) hx hb dX3_quorums_31 rfl hl (by decide) rfl (fun ls hl => ?_)
          refine lv_aload_n hx hb dX3_quorums_32 rfl (lv_at hl 1 rfl) ?_
          refine hv_geti (ci := 3) (C := RX3) (T := TX3) (N := 12) hx hb hts (tw_cs in_X3) hown hK hT (cs_kX hS) (by decide) rfl 8 (by decide) (hts _ (tw_c tw_55)) rfl dX3_quorums_33 ?_
          refine lv_topi (fun g7 eg7 => ?_)
          have eg7 : g7 = (nI b) := eg7.trans (hI.2.1.2.2.1.1)
          subst eg7
          refine lv_if_ne (tgt := 53) hx hb dX3_quorums_36 (by decide) (fun c36 => ?_) (fun c36 => ?_)
          · skip
            refine lv_iconst (v := 0) hx hb dX3_quorums_53 (by decide) ?_
            exact hret _ 0 v _ _ _ _ _ dX3_quorums_54 rfl hT ⟨Or.inr ⟨fun h => c36 (by rw [h.1]; exact nI_0), rfl⟩, _, hI⟩ (by decide) (by decide)
          · skip
            refine lv_iload_n hx hb dX3_quorums_39 rfl (lv_at hl 0 rfl) ?_
            refine lv_if_eq (tgt := 53) hx hb dX3_quorums_40 (by decide) (fun c40 => ?_) (fun c40 => ?_)
            · skip
              exact absurd c40 (by decide)
            · skip
              refine lv_iload_n hx hb dX3_quorums_43 rfl (lv_at hl 2 rfl) ?_
              refine lv_iload_n hx hb dX3_quorums_44 rfl (lv_at hl 3 rfl) ?_
              refine lv_iadd hx hb dX3_quorums_45 ?_
              refine lv_aload_n hx hb dX3_quorums_46 rfl (lv_at hl 1 rfl) ?_
              refine hv_geti (ci := 3) (C := RX3) (T := TX3) (N := 12) hx hb hts (tw_cs in_X3) hown hK hT (cs_kX hS) (by decide) rfl 4 (by decide) (hts _ (tw_c tw_51)) rfl dX3_quorums_47 ?_
              refine lv_topi (fun g8 eg8 => ?_)
              have eg8 : g8 = (nI (ci_sum w n)) := eg8.trans (hI.2.1.2.1)
              subst eg8
              refine lv_icmp_gt (tgt := 55) hx hb dX3_quorums_50 (by decide) (fun c50 => ?_) (fun c50 => ?_)
              · skip
                refine lv_aload_n hx hb dX3_quorums_55 rfl (lv_at hl 1 rfl) ?_
                refine lv_iload_n hx hb dX3_quorums_56 rfl (lv_at hl 2 rfl) ?_
                refine hv_puti (ci := 3) (C := RX3) (T := TX3) (N := 12) hx hb hts (tw_cs in_X3) tyX3 tyX3_ok nmX3 hown hK hT (cs_kX hS) (by decide) rfl 5 (by decide) (hts _ (tw_c tw_52)) rfl rfl (x := x) rfl rfl dX3_quorums_57 (fun H locs hT => ?_)
                have hI := ci_put (f := 305) (a := (fa 0)) (x := x) rfl hI
                have hS := hI.1
                refine lv_aload_n hx hb dX3_quorums_60 rfl (lv_at hl 1 rfl) ?_
                refine lv_iload_n hx hb dX3_quorums_61 rfl (lv_at hl 3 rfl) ?_
                refine hv_puti (ci := 3) (C := RX3) (T := TX3) (N := 12) hx hb hts (tw_cs in_X3) tyX3 tyX3_ok nmX3 hown hK hT (cs_kX hS) (by decide) rfl 6 (by decide) (hts _ (tw_c tw_53)) rfl rfl (x := y) rfl rfl dX3_quorums_62 (fun H locs hT => ?_)
                have hI := ci_put (f := 306) (a := (fa 0)) (x := y) rfl hI
                have hS := hI.1
                refine lv_iconst (v := 1) hx hb dX3_quorums_65 (by decide) ?_
                exact hret _ 1 (hv_si (hv_si v 305 (fa 0) x) 306 (fa 0) y) _ _ _ _ _ dX3_quorums_66 rfl hT ⟨Or.inl ⟨⟨nI_lit (k := 0) c36, c2, c10, c15, c23, c50⟩, rfl⟩, _, hI⟩ (by decide) (by decide)
              · skip
                refine lv_iconst (v := 0) hx hb dX3_quorums_53 (by decide) ?_
                exact hret _ 0 v _ _ _ _ _ dX3_quorums_54 rfl hT ⟨Or.inr ⟨fun h => c50 h.2.2.2.2.2, rfl⟩, _, hI⟩ (by decide) (by decide)

set_option maxHeartbeats 4000000 in
set_option maxRecDepth 100000 in
theorem s_link (l : Launch) (D : va_G) (tc : Nat → ClassId) {fa : Nat → Nat} {n : Nat} {w u : Nat → Nat} {b : Nat} {d : Nat → Nat → Nat} {g : Nat × Nat} {k : Nat} {v : hv_V} (hI : ci_I fa n w u b d g k [] v) (x y z : Int32) : Met l yX3_link (Cond.code yX3_link cX3_link 4 (some .int) :: lw_B) ({ frames := 2, cells := 0, slots := 0, locals := 43 }) (va_Pc [.ref (fa 0), .int x, .int y, .int z] (hv_Pre D tc v)) (va_Qi (fun (r : Int32) (v1 : hv_V) => ((∃ i j q, ok_L n x y z i j q) ∧ r = 1 ∨ (¬ ∃ i j q, ok_L n x y z i j q) ∧ r = 0) ∧ ∃ d1, ∃ k1, ci_I fa n w u b d1 g k1 [] v1) (hv_Post D tc (hv_A v)) (hv_A v)) (0) (0) (hv_A v) := by
  refine hv_meti l (by decide) (Nat.le_of_ble_eq_true rfl) ?_
  intro p e s m args below meth c Q X hret hK hz H locs ls hT hl
  obtain ⟨hx, hb, hml, hts, hown, hin0⟩ := X
  have hown : s.vm.findClass "CommitSites" = some m.cls := hown
  have hl : lv_has ls 4 [(0, .ref (fa 0)), (1, .int x), (2, .int y), (3, .int z)] := hl
  have hS := hI.1
  have hn := hI.2.1.1
  have hb1 := hI.2.1.2.2.1.2
  refine lv_aload_n hx hb dX3_link_0 rfl (lv_at hl 0 rfl) ?_
  refine lv_iload_n hx hb dX3_link_1 rfl (lv_at hl 1 rfl) ?_
  refine lv_iload_n hx hb dX3_link_2 rfl (lv_at hl 2 rfl) ?_
  refine hv_calli (va_runV (As := [.int x, .int y]) (rest := []) ⟨hx, hb, hml, hown, hts⟩ (c_isLink l D tc x y hS hn) (cwV 2 hts (tw_V tw_100 tw_101 tw_483 tw_1 tw_102) rfl rfl rfl (by decide +kernel) ⟨Nat.le_of_ble_eq_true rfl, Nat.le_of_ble_eq_true rfl⟩) (hv_preV (ci := 3) hK hT.1 (cs_kX hS) (by decide) rfl rfl) rfl rfl hl.1 rfl (lv_room (Nat.le_of_ble_eq_true rfl)) dX3_link_3 ⟨Nat.le_of_ble_eq_true rfl, Nat.le_of_ble_eq_true rfl⟩) hT (fun r3 v1 H locs hp2 hT => ?_)
  obtain ⟨evhp2, qhp2⟩ := hp2
  rw [evhp2] at hT
  refine lv_if_eq (tgt := 19) hx hb dX3_link_6 (by decide) (fun c6 => ?_) (fun c6 => ?_)
  · skip
    refine lv_iconst (v := 0) hx hb dX3_link_19 (by decide) ?_
    exact hret _ 0 v _ _ _ _ _ dX3_link_20 rfl hT ⟨Or.inr ⟨fun ⟨i, j, q, h⟩ => (qhp2.resolve_left (fun z => absurd (z.1.symm.trans c6) (by decide))).2 ⟨i, j, h.1, h.2.1, h.2.2.1, h.2.2.2.2.1, h.2.2.2.2.2.1⟩, rfl⟩, _, _, hI⟩ (by decide) (by decide)
  · skip
    obtain ⟨i, j, hi, hj, hij, rfl, rfl⟩ := (qhp2.resolve_right (fun q => c6 q.1)).2
    refine lv_iload_n hx hb dX3_link_9 rfl (lv_at hl 3 rfl) ?_
    refine lv_if_lt (tgt := 19) hx hb dX3_link_10 (by decide) (fun c10 => ?_) (fun c10 => ?_)
    · skip
      refine lv_iconst (v := 0) hx hb dX3_link_19 (by decide) ?_
      exact hret _ 0 v _ _ _ _ _ dX3_link_20 rfl hT ⟨Or.inr ⟨fun ⟨i1, j1, q1, h⟩ => absurd c10 (by rw [h.2.2.2.2.2.2]; exact nI_pos (by have := h.2.2.2.1; omega)), rfl⟩, _, _, hI⟩ (by decide) (by decide)
    · skip
      refine lv_iload_n hx hb dX3_link_13 rfl (lv_at hl 3 rfl) ?_
      refine lv_bipush (v := 20) hx hb dX3_link_14 (by decide) ?_
      refine lv_icmp_le (tgt := 21) hx hb dX3_link_16 (by decide) (fun c16 => ?_) (fun c16 => ?_)
      · skip
        refine lv_aload_n hx hb dX3_link_21 rfl (lv_at hl 0 rfl) ?_
        refine hv_gets (ci := 3) (C := RX3) (T := TX3) (N := 12) hx hb hts (tw_cs in_X3) hown hK hT (cs_kX hS) (by decide) rfl 1 (by decide) (hts _ (tw_c tw_48)) rfl (x := (fa 2)) (cs_pN hS) dX3_link_22 ?_
        refine hv_gets (ci := 1) (C := RX1) (T := TX1) (N := 9) hx hb hts (tw_cs in_X1) hown hK hT (cs_kN hS) (by decide) rfl 0 (by decide) (hts _ (tw_c tw_27)) rfl (x := (fa 4)) (cs_pD hS) dX3_link_25 ?_
        refine lv_iload_n hx hb dX3_link_28 rfl (lv_at hl 1 rfl) ?_
        refine hv_alds (t := 2) hx hb hK hT (cs_kD hS) rfl rfl (cs_in8 (cs_lt8 hS hi)) (x := (fa (8 + i))) (cs_qD hS (cs_lt8 hS hi)) dX3_link_29 ?_
        refine lv_iload_n hx hb dX3_link_30 rfl (lv_at hl 2 rfl) ?_
        refine lv_iload_n hx hb dX3_link_31 rfl (lv_at hl 3 rfl) ?_
        refine hv_iast (x := z) hx hb hK hT (cs_kR hS (cs_lt8 hS hi)) (cs_in8 (cs_lt8 hS hj)) dX3_link_32 (fun H locs hT => ?_)
        obtain ⟨q, hq0, hq9, hq⟩ := is_rng (x := z) (a := 0) (m := 20) (by decide) c10 (Int32.not_lt.mpr c16) (by decide)
        have hI := ci_putD hq hq9 (cs_lt8 hS hi) (cs_lt8 hS hj) hI
        have hS := hI.1
        refine lv_iconst (v := 1) hx hb dX3_link_33 (by decide) ?_
        exact hret _ 1 (hv_sa v (fa (8 + i)) ((nI j) : Int32).toNatClampNeg z) _ _ _ _ _ dX3_link_34 rfl hT ⟨Or.inl ⟨⟨i, j, q, hi, hj, hij, hq9, rfl, rfl, hq⟩, rfl⟩, _, _, hI⟩ (by decide) (by decide)
      · skip
        refine lv_iconst (v := 0) hx hb dX3_link_19 (by decide) ?_
        exact hret _ 0 v _ _ _ _ _ dX3_link_20 rfl hT ⟨Or.inr ⟨fun ⟨i1, j1, q1, h⟩ => c16 (by rw [h.2.2.2.2.2.2]; exact nI_le (b := 20) h.2.2.2.1 (by omega)), rfl⟩, _, _, hI⟩ (by decide) (by decide)

set_option maxHeartbeats 4000000 in
set_option maxRecDepth 100000 in
theorem s_crash (l : Launch) (D : va_G) (tc : Nat → ClassId) {fa : Nat → Nat} {n : Nat} {w u : Nat → Nat} {b : Nat} {d : Nat → Nat → Nat} {g : Nat × Nat} {k : Nat} {v : hv_V} (hI : ci_I fa n w u b d g k [] v) (x : Int32) : Met l yX3_crash (Cond.code yX3_crash cX3_crash 3 (some .int) :: lw_B) ({ frames := 1, cells := 0, slots := 0, locals := 21 }) (va_Pc [.ref (fa 0), .int x] (hv_Pre D tc v)) (va_Qi (fun (r : Int32) (v1 : hv_V) => (∃ i, ok_U n u 1 x i ∧ r = 1 ∧ ∃ k1, ci_I fa n w (va_up u i 0) b d g k1 [] v1) ∨ (¬ ∃ i, ok_U n u 1 x i) ∧ r = 0 ∧ ∃ k1, ci_I fa n w u b d g k1 [] v1) (hv_Post D tc (hv_A v)) (hv_A v)) (0) (0) (hv_A v) := by
  refine hv_meti l (by decide) (Nat.le_of_ble_eq_true rfl) ?_
  intro p e s m args below meth c Q X hret hK hz H locs ls hT hl
  obtain ⟨hx, hb, hml, hts, hown, hin0⟩ := X
  have hown : s.vm.findClass "CommitSites" = some m.cls := hown
  have hl : lv_has ls 3 [(0, .ref (fa 0)), (1, .int x)] := hl
  have hS := hI.1
  have hn := hI.2.1.1
  have hb1 := hI.2.1.2.2.1.2
  have hI0 := hI
  refine lv_aload_n hx hb dX3_crash_0 rfl (lv_at hl 0 rfl) ?_
  refine lv_iload_n hx hb dX3_crash_1 rfl (lv_at hl 1 rfl) ?_
  refine hv_calli (va_runV (As := [.int x]) (rest := []) ⟨hx, hb, hml, hown, hts⟩ (c_isSite l D tc x hS hn) (cwV 1 hts (tw_V tw_103 tw_104 tw_484 tw_1 tw_105) rfl rfl rfl (by decide +kernel) ⟨Nat.le_of_ble_eq_true rfl, Nat.le_of_ble_eq_true rfl⟩) (hv_preV (ci := 3) hK hT.1 (cs_kX hS) (by decide) rfl rfl) rfl rfl hl.1 rfl (lv_room (Nat.le_of_ble_eq_true rfl)) dX3_crash_2 ⟨Nat.le_of_ble_eq_true rfl, Nat.le_of_ble_eq_true rfl⟩) hT (fun r3 v1 H locs hp2 hT => ?_)
  obtain ⟨evhp2, qhp2⟩ := hp2
  rw [evhp2] at hT
  refine lv_if_eq (tgt := 20) hx hb dX3_crash_5 (by decide) (fun c5 => ?_) (fun c5 => ?_)
  · skip
    refine lv_iconst (v := 0) hx hb dX3_crash_20 (by decide) ?_
    exact hret _ 0 v _ _ _ _ _ dX3_crash_21 rfl hT (Or.inr ⟨fun ⟨i, h1, h2, h3⟩ => (qhp2.resolve_left (fun z => absurd (z.1.symm.trans c5) (by decide))).2 ⟨i, h1, h2⟩, rfl, _, hI⟩) (by decide) (by decide)
  · skip
    obtain ⟨i, hi, rfl⟩ := (qhp2.resolve_right (fun q => c5 q.1)).2
    have hu1 := (hI.2.1.2.2.2.2.2.2 i hi).2.2.2.1
    refine lv_aload_n hx hb dX3_crash_8 rfl (lv_at hl 0 rfl) ?_
    refine hv_gets (ci := 3) (C := RX3) (T := TX3) (N := 12) hx hb hts (tw_cs in_X3) hown hK hT (cs_kX hS) (by decide) rfl 0 (by decide) (hts _ (tw_c tw_47)) rfl (x := (fa 1)) (cs_pS hS) dX3_crash_9 ?_
    refine lv_iload_n hx hb dX3_crash_12 rfl (lv_at hl 1 rfl) ?_
    refine hv_alds (t := 0) hx hb hK hT (cs_kS hS) rfl rfl (cs_in8 (cs_lt8 hS hi)) (x := (fa (16 + i))) (cs_qS hS hi) dX3_crash_13 ?_
    refine hv_geti (ci := 2) (C := RX2) (T := TX2) (N := 10) hx hb hts (tw_cs in_X2) hown hK hT (cs_ks hS hi) (by decide) rfl 3 (by decide) (hts _ (tw_c tw_79)) rfl dX3_crash_14 ?_
    refine lv_topi (fun g4 eg4 => ?_)
    have eg4 : g4 = (nI (u i)) := eg4.trans ((hI.2.1.2.2.2.2.2.2 i hi).2.2.2.2.1)
    subst eg4
    refine lv_if_ne (tgt := 22) hx hb dX3_crash_17 (by decide) (fun c17 => ?_) (fun c17 => ?_)
    · skip
      refine lv_aload_n hx hb dX3_crash_22 rfl (lv_at hl 0 rfl) ?_
      refine hv_gets (ci := 3) (C := RX3) (T := TX3) (N := 12) hx hb hts (tw_cs in_X3) hown hK hT (cs_kX hS) (by decide) rfl 0 (by decide) (hts _ (tw_c tw_47)) rfl (x := (fa 1)) (cs_pS hS) dX3_crash_23 ?_
      refine lv_iload_n hx hb dX3_crash_26 rfl (lv_at hl 1 rfl) ?_
      refine hv_alds (t := 0) hx hb hK hT (cs_kS hS) rfl rfl (cs_in8 (cs_lt8 hS hi)) (x := (fa (16 + i))) (cs_qS hS hi) dX3_crash_27 ?_
      refine lv_astore_n (lv' := [(2, _), (0, _), (1, _)]) hx hb dX3_crash_28 rfl hl (by decide) rfl (fun ls hl => ?_)
      refine lv_aload_n hx hb dX3_crash_29 rfl (lv_at hl 0 rfl) ?_
      refine lv_iconst (v := 0) hx hb dX3_crash_30 (by decide) ?_
      refine hv_puti (ci := 2) (C := RX2) (T := TX2) (N := 10) hx hb hts (tw_cs in_X2) tyX2 tyX2_ok nmX2 hown hK hT (cs_ks hS hi) (by decide) rfl 3 (by decide) (hts _ (tw_c tw_79)) rfl rfl (x := 0) rfl rfl dX3_crash_31 (fun H locs hT => ?_)
      have hI := ci_putU (x := 0) (z := 0) rfl (by decide) hi hI
      have hS := hI.1
      refine lv_aload_n hx hb dX3_crash_34 rfl (lv_at hl 0 rfl) ?_
      refine lv_iconst (v := 0) hx hb dX3_crash_35 (by decide) ?_
      refine hv_puti (ci := 2) (C := RX2) (T := TX2) (N := 10) hx hb hts (tw_cs in_X2) tyX2 tyX2_ok nmX2 hown hK hT (cs_ks hS hi) (by decide) rfl 6 (by decide) (hts _ (tw_c tw_85)) rfl rfl (x := 0) rfl rfl dX3_crash_36 (fun H locs hT => ?_)
      have hI := ci_put (f := 206) (a := (fa (16 + i))) (x := 0) rfl hI
      have hS := hI.1
      refine lv_aload_n hx hb dX3_crash_39 rfl (lv_at hl 0 rfl) ?_
      refine lv_iconst (v := (-1)) hx hb dX3_crash_40 (by decide) ?_
      refine hv_puti (ci := 2) (C := RX2) (T := TX2) (N := 10) hx hb hts (tw_cs in_X2) tyX2 tyX2_ok nmX2 hown hK hT (cs_ks hS hi) (by decide) rfl 8 (by decide) (hts _ (tw_c tw_89)) rfl rfl (x := (-1)) rfl rfl dX3_crash_41 (fun H locs hT => ?_)
      have hI := ci_putT (i := i) (x := (-1)) (Or.inl rfl) hI hi
      have hS := hI.1
      refine lv_iconst (v := 1) hx hb dX3_crash_44 (by decide) ?_
      exact hret _ 1 (hv_si (hv_si (hv_si v 203 (fa (16 + i)) 0) 206 (fa (16 + i)) 0) 208 (fa (16 + i)) (-1)) _ _ _ _ _ dX3_crash_45 rfl hT (Or.inl ⟨i, ⟨hi, rfl, by have := nI_nlit (k := 0) c17; omega⟩, rfl, _, hI⟩) (by decide) (by decide)
    · skip
      refine lv_iconst (v := 0) hx hb dX3_crash_20 (by decide) ?_
      exact hret _ 0 v _ _ _ _ _ dX3_crash_21 rfl hT (Or.inr ⟨fun ⟨i1, h1, h2, h3⟩ => absurd (nI_lit (k := 0) c17) (by rw [(nI_lit h2 (by have := cs_n8 hI0.1; omega) (by have := cs_n8 hI0.1; omega)), h3]; decide), rfl, _, hI⟩) (by decide) (by decide)

set_option maxHeartbeats 4000000 in
set_option maxRecDepth 100000 in
theorem s_recover (l : Launch) (D : va_G) (tc : Nat → ClassId) {fa : Nat → Nat} {n : Nat} {w u : Nat → Nat} {b : Nat} {d : Nat → Nat → Nat} {g : Nat × Nat} {k : Nat} {v : hv_V} (hI : ci_I fa n w u b d g k [] v) (x : Int32) : Met l yX3_recover (Cond.code yX3_recover cX3_recover 3 (some .int) :: lw_B) ({ frames := 4, cells := 8, slots := 64, locals := 89 }) (va_Pc [.ref (fa 0), .int x] (hv_Pre D tc v)) (va_Qi (fun (r : Int32) (v1 : hv_V) => (∃ i, ok_U n u 0 x i ∧ r = 1 ∧ ∃ k1, ci_I fa n w (va_up u i 1) b d g k1 [] v1) ∨ (¬ ∃ i, ok_U n u 0 x i) ∧ r = 0 ∧ ∃ k1, ci_I fa n w u b d g k1 [] v1) (hv_Post D tc (hv_A v)) (hv_A v)) (8) (64) (hv_A v) := by
  refine hv_meti l (by decide) (Nat.le_of_ble_eq_true rfl) ?_
  intro p e s m args below meth c Q X hret hK hz H locs ls hT hl
  obtain ⟨hx, hb, hml, hts, hown, hin0⟩ := X
  have hown : s.vm.findClass "CommitSites" = some m.cls := hown
  have hl : lv_has ls 3 [(0, .ref (fa 0)), (1, .int x)] := hl
  have hS := hI.1
  have hn := hI.2.1.1
  have hb1 := hI.2.1.2.2.1.2
  have hI0 := hI
  refine lv_aload_n hx hb dX3_recover_0 rfl (lv_at hl 0 rfl) ?_
  refine lv_iload_n hx hb dX3_recover_1 rfl (lv_at hl 1 rfl) ?_
  refine hv_calli (va_runV (As := [.int x]) (rest := []) ⟨hx, hb, hml, hown, hts⟩ (c_isSite l D tc x hS hn) (cwV 1 hts (tw_V tw_103 tw_104 tw_484 tw_1 tw_105) rfl rfl rfl (by decide +kernel) ⟨Nat.le_of_ble_eq_true rfl, Nat.le_of_ble_eq_true rfl⟩) (hv_preV (ci := 3) hK hT.1 (cs_kX hS) (by decide) rfl rfl) rfl rfl hl.1 rfl (lv_room (Nat.le_of_ble_eq_true rfl)) dX3_recover_2 ⟨by show 0 + 0 ≤ 8; omega, by show 0 + 0 ≤ 64; omega⟩) hT (fun r3 v1 H locs hp2 hT => ?_)
  obtain ⟨evhp2, qhp2⟩ := hp2
  rw [evhp2] at hT
  refine lv_if_eq (tgt := 20) hx hb dX3_recover_5 (by decide) (fun c5 => ?_) (fun c5 => ?_)
  · skip
    refine lv_iconst (v := 0) hx hb dX3_recover_20 (by decide) ?_
    exact hret _ 0 v _ _ _ _ _ dX3_recover_21 rfl hT (Or.inr ⟨fun ⟨i, h1, h2, h3⟩ => (qhp2.resolve_left (fun z => absurd (z.1.symm.trans c5) (by decide))).2 ⟨i, h1, h2⟩, rfl, _, hI⟩) (by show 0 + 0 ≤ 8; omega) (by show 0 + 0 ≤ 64; omega)
  · skip
    obtain ⟨i, hi, rfl⟩ := (qhp2.resolve_right (fun q => c5 q.1)).2
    have hu1 := (hI.2.1.2.2.2.2.2.2 i hi).2.2.2.1
    refine lv_aload_n hx hb dX3_recover_8 rfl (lv_at hl 0 rfl) ?_
    refine hv_gets (ci := 3) (C := RX3) (T := TX3) (N := 12) hx hb hts (tw_cs in_X3) hown hK hT (cs_kX hS) (by decide) rfl 0 (by decide) (hts _ (tw_c tw_47)) rfl (x := (fa 1)) (cs_pS hS) dX3_recover_9 ?_
    refine lv_iload_n hx hb dX3_recover_12 rfl (lv_at hl 1 rfl) ?_
    refine hv_alds (t := 0) hx hb hK hT (cs_kS hS) rfl rfl (cs_in8 (cs_lt8 hS hi)) (x := (fa (16 + i))) (cs_qS hS hi) dX3_recover_13 ?_
    refine hv_geti (ci := 2) (C := RX2) (T := TX2) (N := 10) hx hb hts (tw_cs in_X2) hown hK hT (cs_ks hS hi) (by decide) rfl 3 (by decide) (hts _ (tw_c tw_79)) rfl dX3_recover_14 ?_
    refine lv_topi (fun g4 eg4 => ?_)
    have eg4 : g4 = (nI (u i)) := eg4.trans ((hI.2.1.2.2.2.2.2.2 i hi).2.2.2.2.1)
    subst eg4
    refine lv_if_eq (tgt := 22) hx hb dX3_recover_17 (by decide) (fun c17 => ?_) (fun c17 => ?_)
    · skip
      refine lv_aload_n hx hb dX3_recover_22 rfl (lv_at hl 0 rfl) ?_
      refine hv_gets (ci := 3) (C := RX3) (T := TX3) (N := 12) hx hb hts (tw_cs in_X3) hown hK hT (cs_kX hS) (by decide) rfl 0 (by decide) (hts _ (tw_c tw_47)) rfl (x := (fa 1)) (cs_pS hS) dX3_recover_23 ?_
      refine lv_iload_n hx hb dX3_recover_26 rfl (lv_at hl 1 rfl) ?_
      refine hv_alds (t := 0) hx hb hK hT (cs_kS hS) rfl rfl (cs_in8 (cs_lt8 hS hi)) (x := (fa (16 + i))) (cs_qS hS hi) dX3_recover_27 ?_
      refine lv_astore_n (lv' := [(2, _), (0, _), (1, _)]) hx hb dX3_recover_28 rfl hl (by decide) rfl (fun ls hl => ?_)
      refine lv_aload_n hx hb dX3_recover_29 rfl (lv_at hl 0 rfl) ?_
      refine lv_iconst (v := 1) hx hb dX3_recover_30 (by decide) ?_
      refine hv_puti (ci := 2) (C := RX2) (T := TX2) (N := 10) hx hb hts (tw_cs in_X2) tyX2 tyX2_ok nmX2 hown hK hT (cs_ks hS hi) (by decide) rfl 3 (by decide) (hts _ (tw_c tw_79)) rfl rfl (x := 1) rfl rfl dX3_recover_31 (fun H locs hT => ?_)
      have hI := ci_putU (x := 1) (z := 1) rfl (by decide) hi hI
      have hS := hI.1
      refine lv_aload_n hx hb dX3_recover_34 rfl (lv_at hl 1 rfl) ?_
      refine hv_geti (ci := 3) (C := RX3) (T := TX3) (N := 12) hx hb hts (tw_cs in_X3) hown hK hT (cs_kX hS) (by decide) rfl 8 (by decide) (hts _ (tw_c tw_55)) rfl dX3_recover_35 ?_
      refine lv_topi (fun g5 eg5 => ?_)
      refine lv_if_eq (tgt := 57) hx hb dX3_recover_38 (by decide) (fun c38 => ?_) (fun c38 => ?_)
      · skip
        refine lv_aload_n hx hb dX3_recover_57 rfl (lv_at hl 1 rfl) ?_
        refine hv_geti (ci := 3) (C := RX3) (T := TX3) (N := 12) hx hb hts (tw_cs in_X3) hown hK hT (cs_kX hS) (by decide) rfl 8 (by decide) (hts _ (tw_c tw_55)) rfl dX3_recover_58 ?_
        refine lv_topi (fun g6 eg6 => ?_)
        refine lv_if_eq (tgt := 76) hx hb dX3_recover_61 (by decide) (fun c61 => ?_) (fun c61 => ?_)
        · skip
          refine lv_iconst (v := 1) hx hb dX3_recover_76 (by decide) ?_
          exact hret _ 1 (hv_si v 203 (fa (16 + i)) 1) _ _ _ _ _ dX3_recover_77 rfl hT (Or.inl ⟨i, ⟨hi, rfl, nI_lit (k := 0) c17⟩, rfl, _, hI⟩) (by show 0 + 0 ≤ 8; omega) (by show 0 + 0 ≤ 64; omega)
        · skip
          refine lv_aload_n hx hb dX3_recover_64 rfl (lv_at hl 0 rfl) ?_
          refine hv_calli (va_runV (As := []) (rest := []) ⟨hx, hb, hml, hown, hts⟩ (c_isDecided l D tc hS hi) (cwV 0 hts (tw_V tw_127 tw_128 tw_129 tw_4 tw_130) rfl rfl rfl (by decide +kernel) ⟨Nat.le_of_ble_eq_true rfl, Nat.le_of_ble_eq_true rfl⟩) (hv_preV (ci := 2) hK hT.1 (cs_ks hS hi) (by decide) rfl rfl) rfl rfl hl.1 rfl (lv_room (Nat.le_of_ble_eq_true rfl)) dX3_recover_65 ⟨by show 0 + 0 + 0 ≤ 8; omega, by show 0 + 0 + 0 ≤ 64; omega⟩) hT (fun r9 v7 H locs hp8 hT => ?_)
          rw [hp8] at hT
          refine lv_if_ne (tgt := 76) hx hb dX3_recover_68 (by decide) (fun c68 => ?_) (fun c68 => ?_)
          · skip
            refine lv_iconst (v := 1) hx hb dX3_recover_76 (by decide) ?_
            exact hret _ 1 (hv_si v 203 (fa (16 + i)) 1) _ _ _ _ _ dX3_recover_77 rfl hT (Or.inl ⟨i, ⟨hi, rfl, nI_lit (k := 0) c17⟩, rfl, _, hI⟩) (by show 0 + 0 + 0 ≤ 8; omega) (by show 0 + 0 + 0 ≤ 64; omega)
          · skip
            refine lv_aload_n hx hb dX3_recover_71 rfl (lv_at hl 1 rfl) ?_
            refine lv_iload_n hx hb dX3_recover_72 rfl (lv_at hl 2 rfl) ?_
            refine hv_callv (va_runV (As := [.int (nI i)]) (rest := []) ⟨hx, hb, hml, hown, hts⟩ (c_attempt l D tc hI hi (Nat.zero_le _)) (cwV 1 hts (tw_V tw_194 tw_195 tw_493 tw_1 tw_196) rfl rfl rfl (by decide +kernel) ⟨Nat.le_of_ble_eq_true rfl, Nat.le_of_ble_eq_true rfl⟩) (hv_preV (ci := 3) hK hT.1 (cs_kX hS) (by decide) rfl rfl) rfl rfl hl.1 rfl (lv_room (Nat.le_of_ble_eq_true rfl)) dX3_recover_73 ⟨by show 0 + 0 + 0 + 8 ≤ 8; omega, by show 0 + 0 + 0 + 64 ≤ 64; omega⟩) hT (fun v10 H locs hp11 hT => ?_)
            obtain ⟨_, hI⟩ := hp11
            have hS := hI.1
            refine lv_iconst (v := 1) hx hb dX3_recover_76 (by decide) ?_
            exact hret _ 1 v10 _ _ _ _ _ dX3_recover_77 rfl hT (Or.inl ⟨i, ⟨hi, rfl, nI_lit (k := 0) c17⟩, rfl, _, hI⟩) (by show 0 + 0 + 0 + 8 ≤ 8; omega) (by show 0 + 0 + 0 + 64 ≤ 64; omega)
      · skip
        refine lv_aload_n hx hb dX3_recover_41 rfl (lv_at hl 0 rfl) ?_
        refine hv_geti (ci := 2) (C := RX2) (T := TX2) (N := 10) hx hb hts (tw_cs in_X2) hown hK hT (cs_ks hS hi) (by decide) rfl 4 (by decide) (hts _ (tw_c tw_81)) rfl dX3_recover_42 ?_
        refine lv_topi (fun g12 eg12 => ?_)
        refine lv_if_ne (tgt := 57) hx hb dX3_recover_45 (by decide) (fun c45 => ?_) (fun c45 => ?_)
        · skip
          refine lv_aload_n hx hb dX3_recover_57 rfl (lv_at hl 1 rfl) ?_
          refine hv_geti (ci := 3) (C := RX3) (T := TX3) (N := 12) hx hb hts (tw_cs in_X3) hown hK hT (cs_kX hS) (by decide) rfl 8 (by decide) (hts _ (tw_c tw_55)) rfl dX3_recover_58 ?_
          refine lv_topi (fun g13 eg13 => ?_)
          refine lv_if_eq (tgt := 76) hx hb dX3_recover_61 (by decide) (fun c61 => ?_) (fun c61 => ?_)
          · skip
            refine lv_iconst (v := 1) hx hb dX3_recover_76 (by decide) ?_
            exact hret _ 1 (hv_si v 203 (fa (16 + i)) 1) _ _ _ _ _ dX3_recover_77 rfl hT (Or.inl ⟨i, ⟨hi, rfl, nI_lit (k := 0) c17⟩, rfl, _, hI⟩) (by show 0 + 0 ≤ 8; omega) (by show 0 + 0 ≤ 64; omega)
          · skip
            refine lv_aload_n hx hb dX3_recover_64 rfl (lv_at hl 0 rfl) ?_
            refine hv_calli (va_runV (As := []) (rest := []) ⟨hx, hb, hml, hown, hts⟩ (c_isDecided l D tc hS hi) (cwV 0 hts (tw_V tw_127 tw_128 tw_129 tw_4 tw_130) rfl rfl rfl (by decide +kernel) ⟨Nat.le_of_ble_eq_true rfl, Nat.le_of_ble_eq_true rfl⟩) (hv_preV (ci := 2) hK hT.1 (cs_ks hS hi) (by decide) rfl rfl) rfl rfl hl.1 rfl (lv_room (Nat.le_of_ble_eq_true rfl)) dX3_recover_65 ⟨by show 0 + 0 + 0 ≤ 8; omega, by show 0 + 0 + 0 ≤ 64; omega⟩) hT (fun r16 v14 H locs hp15 hT => ?_)
            rw [hp15] at hT
            refine lv_if_ne (tgt := 76) hx hb dX3_recover_68 (by decide) (fun c68 => ?_) (fun c68 => ?_)
            · skip
              refine lv_iconst (v := 1) hx hb dX3_recover_76 (by decide) ?_
              exact hret _ 1 (hv_si v 203 (fa (16 + i)) 1) _ _ _ _ _ dX3_recover_77 rfl hT (Or.inl ⟨i, ⟨hi, rfl, nI_lit (k := 0) c17⟩, rfl, _, hI⟩) (by show 0 + 0 + 0 ≤ 8; omega) (by show 0 + 0 + 0 ≤ 64; omega)
            · skip
              refine lv_aload_n hx hb dX3_recover_71 rfl (lv_at hl 1 rfl) ?_
              refine lv_iload_n hx hb dX3_recover_72 rfl (lv_at hl 2 rfl) ?_
              refine hv_callv (va_runV (As := [.int (nI i)]) (rest := []) ⟨hx, hb, hml, hown, hts⟩ (c_attempt l D tc hI hi (Nat.zero_le _)) (cwV 1 hts (tw_V tw_194 tw_195 tw_493 tw_1 tw_196) rfl rfl rfl (by decide +kernel) ⟨Nat.le_of_ble_eq_true rfl, Nat.le_of_ble_eq_true rfl⟩) (hv_preV (ci := 3) hK hT.1 (cs_kX hS) (by decide) rfl rfl) rfl rfl hl.1 rfl (lv_room (Nat.le_of_ble_eq_true rfl)) dX3_recover_73 ⟨by show 0 + 0 + 0 + 8 ≤ 8; omega, by show 0 + 0 + 0 + 64 ≤ 64; omega⟩) hT (fun v17 H locs hp18 hT => ?_)
              obtain ⟨_, hI⟩ := hp18
              have hS := hI.1
              refine lv_iconst (v := 1) hx hb dX3_recover_76 (by decide) ?_
              exact hret _ 1 v17 _ _ _ _ _ dX3_recover_77 rfl hT (Or.inl ⟨i, ⟨hi, rfl, nI_lit (k := 0) c17⟩, rfl, _, hI⟩) (by show 0 + 0 + 0 + 8 ≤ 8; omega) (by show 0 + 0 + 0 + 64 ≤ 64; omega)
        · skip
          refine lv_aload_n hx hb dX3_recover_48 rfl (lv_at hl 1 rfl) ?_
          refine lv_aload_n hx hb dX3_recover_49 rfl (lv_at hl 0 rfl) ?_
          refine lv_iconst (v := 5) hx hb dX3_recover_50 (by decide) ?_
          refine hv_callv (va_runV (As := [.ref (fa (16 + i)), .int 5]) (rest := []) ⟨hx, hb, hml, hown, hts⟩ (c_become l D tc hI hi 5) (cwV 2 hts (tw_V tw_124 tw_125 tw_486 tw_1 tw_126) rfl rfl rfl (by decide +kernel) ⟨Nat.le_of_ble_eq_true rfl, Nat.le_of_ble_eq_true rfl⟩) (hv_preV (ci := 3) hK hT.1 (cs_kX hS) (by decide) rfl rfl) rfl rfl hl.1 rfl (lv_room (Nat.le_of_ble_eq_true rfl)) dX3_recover_51 ⟨by show 0 + 0 + 0 ≤ 8; omega, by show 0 + 0 + 0 ≤ 64; omega⟩) hT (fun v19 H locs hp20 hT => ?_)
          have hI := hp20
          have hS := hI.1
          refine lv_goto (tgt := 76) hx hb dX3_recover_54 (by decide) ?_
          refine lv_iconst (v := 1) hx hb dX3_recover_76 (by decide) ?_
          exact hret _ 1 v19 _ _ _ _ _ dX3_recover_77 rfl hT (Or.inl ⟨i, ⟨hi, rfl, nI_lit (k := 0) c17⟩, rfl, _, hI⟩) (by show 0 + 0 + 0 ≤ 8; omega) (by show 0 + 0 + 0 ≤ 64; omega)
    · skip
      refine lv_iconst (v := 0) hx hb dX3_recover_20 (by decide) ?_
      exact hret _ 0 v _ _ _ _ _ dX3_recover_21 rfl hT (Or.inr ⟨fun ⟨i1, h1, h2, h3⟩ => c17 (by rw [(nI_lit h2 (by have := cs_n8 hI0.1; omega) (by have := cs_n8 hI0.1; omega)), h3]; rfl), rfl, _, hI⟩) (by show 0 + 0 ≤ 8; omega) (by show 0 + 0 ≤ 64; omega)

set_option maxHeartbeats 4000000 in
set_option maxRecDepth 100000 in
theorem s_begin (l : Launch) (D : va_G) (tc : Nat → ClassId) {fa : Nat → Nat} {n : Nat} {w u : Nat → Nat} {b : Nat} {d : Nat → Nat → Nat} {g : Nat × Nat} {k : Nat} {v : hv_V} (hI : ci_I fa n w u b d g k [] v) (x y : Int32) : Met l yX3_begin (Cond.code yX3_begin cX3_begin 3 (some .int) :: lw_B) ({ frames := 6, cells := 24, slots := 192, locals := 136 }) (va_Pc [.ref (fa 0), .int x, .int y] (hv_Pre D tc v)) (va_Qi (fun (r : Int32) (v1 : hv_V) => (((∃ i, ok_U n u 1 x i) ∧ b = 0) ∧ r = 1 ∧ ∃ k1, ci_I fa n w u 1 d g k1 [] v1) ∨ (¬ ((∃ i, ok_U n u 1 x i) ∧ b = 0)) ∧ r = 0 ∧ ∃ k1, ci_I fa n w u b d g k1 [] v1) (hv_Post D tc (hv_A v)) (hv_A v)) (24) (192) (hv_A v) := by
  refine hv_meti l (by decide) (Nat.le_of_ble_eq_true rfl) ?_
  intro p e s m args below meth c Q X hret hK hz H locs ls hT hl
  obtain ⟨hx, hb, hml, hts, hown, hin0⟩ := X
  have hown : s.vm.findClass "CommitSites" = some m.cls := hown
  have hl : lv_has ls 3 [(0, .ref (fa 0)), (1, .int x), (2, .int y)] := hl
  have hS := hI.1
  have hn := hI.2.1.1
  have hb1 := hI.2.1.2.2.1.2
  have hI0 := hI
  refine lv_aload_n hx hb dX3_begin_0 rfl (lv_at hl 0 rfl) ?_
  refine lv_iload_n hx hb dX3_begin_1 rfl (lv_at hl 1 rfl) ?_
  refine hv_calli (va_runV (As := [.int x]) (rest := []) ⟨hx, hb, hml, hown, hts⟩ (c_isSite l D tc x hS hn) (cwV 1 hts (tw_V tw_103 tw_104 tw_484 tw_1 tw_105) rfl rfl rfl (by decide +kernel) ⟨Nat.le_of_ble_eq_true rfl, Nat.le_of_ble_eq_true rfl⟩) (hv_preV (ci := 3) hK hT.1 (cs_kX hS) (by decide) rfl rfl) rfl rfl hl.1 rfl (lv_room (Nat.le_of_ble_eq_true rfl)) dX3_begin_2 ⟨by show 0 + 0 ≤ 24; omega, by show 0 + 0 ≤ 192; omega⟩) hT (fun r3 v1 H locs hp2 hT => ?_)
  obtain ⟨evhp2, qhp2⟩ := hp2
  rw [evhp2] at hT
  refine lv_if_eq (tgt := 27) hx hb dX3_begin_5 (by decide) (fun c5 => ?_) (fun c5 => ?_)
  · skip
    refine lv_iconst (v := 0) hx hb dX3_begin_27 (by decide) ?_
    exact hret _ 0 v _ _ _ _ _ dX3_begin_28 rfl hT (Or.inr ⟨fun ⟨⟨i, h1, h2, h3⟩, _⟩ => (qhp2.resolve_left (fun z => absurd (z.1.symm.trans c5) (by decide))).2 ⟨i, h1, h2⟩, rfl, _, hI⟩) (by show 0 + 0 ≤ 24; omega) (by show 0 + 0 ≤ 192; omega)
  · skip
    obtain ⟨i, hi, rfl⟩ := (qhp2.resolve_right (fun q => c5 q.1)).2
    have hu1 := (hI.2.1.2.2.2.2.2.2 i hi).2.2.2.1
    refine lv_aload_n hx hb dX3_begin_8 rfl (lv_at hl 0 rfl) ?_
    refine hv_gets (ci := 3) (C := RX3) (T := TX3) (N := 12) hx hb hts (tw_cs in_X3) hown hK hT (cs_kX hS) (by decide) rfl 0 (by decide) (hts _ (tw_c tw_47)) rfl (x := (fa 1)) (cs_pS hS) dX3_begin_9 ?_
    refine lv_iload_n hx hb dX3_begin_12 rfl (lv_at hl 1 rfl) ?_
    refine hv_alds (t := 0) hx hb hK hT (cs_kS hS) rfl rfl (cs_in8 (cs_lt8 hS hi)) (x := (fa (16 + i))) (cs_qS hS hi) dX3_begin_13 ?_
    refine hv_geti (ci := 2) (C := RX2) (T := TX2) (N := 10) hx hb hts (tw_cs in_X2) hown hK hT (cs_ks hS hi) (by decide) rfl 3 (by decide) (hts _ (tw_c tw_79)) rfl dX3_begin_14 ?_
    refine lv_topi (fun g4 eg4 => ?_)
    have eg4 : g4 = (nI (u i)) := eg4.trans ((hI.2.1.2.2.2.2.2.2 i hi).2.2.2.2.1)
    subst eg4
    refine lv_if_eq (tgt := 27) hx hb dX3_begin_17 (by decide) (fun c17 => ?_) (fun c17 => ?_)
    · skip
      refine lv_iconst (v := 0) hx hb dX3_begin_27 (by decide) ?_
      exact hret _ 0 v _ _ _ _ _ dX3_begin_28 rfl hT (Or.inr ⟨fun ⟨⟨i1, h1, h2, h3⟩, _⟩ => absurd (nI_lit (k := 0) c17) (by rw [(nI_lit h2 (by have := cs_n8 hI0.1; omega) (by have := cs_n8 hI0.1; omega)), h3]; decide), rfl, _, hI⟩) (by show 0 + 0 ≤ 24; omega) (by show 0 + 0 ≤ 192; omega)
    · skip
      refine lv_aload_n hx hb dX3_begin_20 rfl (lv_at hl 0 rfl) ?_
      refine hv_geti (ci := 3) (C := RX3) (T := TX3) (N := 12) hx hb hts (tw_cs in_X3) hown hK hT (cs_kX hS) (by decide) rfl 8 (by decide) (hts _ (tw_c tw_55)) rfl dX3_begin_21 ?_
      refine lv_topi (fun g5 eg5 => ?_)
      have eg5 : g5 = (nI b) := eg5.trans (hI.2.1.2.2.1.1)
      subst eg5
      refine lv_if_eq (tgt := 29) hx hb dX3_begin_24 (by decide) (fun c24 => ?_) (fun c24 => ?_)
      · skip
        refine lv_aload_n hx hb dX3_begin_29 rfl (lv_at hl 0 rfl) ?_
        refine lv_iconst (v := 1) hx hb dX3_begin_30 (by decide) ?_
        refine hv_puti (ci := 3) (C := RX3) (T := TX3) (N := 12) hx hb hts (tw_cs in_X3) tyX3 tyX3_ok nmX3 hown hK hT (cs_kX hS) (by decide) rfl 8 (by decide) (hts _ (tw_c tw_55)) rfl rfl (x := 1) rfl rfl dX3_begin_31 (fun H locs hT => ?_)
        have hI := ci_putB (x := 1) (b' := 1) rfl (by decide) hI
        have hS := hI.1
        refine lv_aload_n hx hb dX3_begin_34 rfl (lv_at hl 0 rfl) ?_
        refine lv_iload_n hx hb dX3_begin_35 rfl (lv_at hl 2 rfl) ?_
        refine hv_puti (ci := 3) (C := RX3) (T := TX3) (N := 12) hx hb hts (tw_cs in_X3) tyX3 tyX3_ok nmX3 hown hK hT (cs_kX hS) (by decide) rfl 9 (by decide) (hts _ (tw_c tw_56)) rfl rfl (x := y) rfl rfl dX3_begin_36 (fun H locs hT => ?_)
        have hI := ci_put (f := 309) (a := (fa 0)) (x := y) rfl hI
        have hS := hI.1
        refine lv_iload_n hx hb dX3_begin_39 rfl (lv_at hl 2 rfl) ?_
        refine lv_iload_n hx hb dX3_begin_40 rfl (lv_at hl 1 rfl) ?_
        refine hv_calli (va_runS (As := [.int y, .int (nI i)]) (rest := []) ⟨hx, hb, hml, hown, hts⟩ (c_hasBit l D tc y (nI i)) (va_cwS 2 hts (tw_S tw_110 tw_111 tw_1 tw_112) rfl rfl rfl (by decide +kernel) ⟨Nat.le_of_ble_eq_true rfl, Nat.le_of_ble_eq_true rfl⟩) (hv_preS hK hT.1) rfl rfl hl.1 rfl (lv_room (Nat.le_of_ble_eq_true rfl)) dX3_begin_41 ⟨by show 0 + 0 + 0 ≤ 24; omega, by show 0 + 0 + 0 ≤ 192; omega⟩) hT (fun r8 v6 H locs hp7 hT => ?_)
        obtain ⟨evhp7, qhp7⟩ := hp7
        rw [evhp7] at hT
        refine lv_if_eq (tgt := 55) hx hb dX3_begin_44 (by decide) (fun c44 => ?_) (fun c44 => ?_)
        · skip
          refine lv_aload_n hx hb dX3_begin_55 rfl (lv_at hl 0 rfl) ?_
          refine lv_iload_n hx hb dX3_begin_56 rfl (lv_at hl 1 rfl) ?_
          refine lv_iconst (v := 5) hx hb dX3_begin_57 (by decide) ?_
          refine hv_callv (va_runV (As := [.int (nI i), .int 5]) (rest := []) ⟨hx, hb, hml, hown, hts⟩ (c_decide l D tc hI hi (Nat.zero_le _) 5) (cwV 2 hts (tw_V tw_180 tw_181 tw_492 tw_1 tw_182) rfl rfl rfl (by decide +kernel) ⟨Nat.le_of_ble_eq_true rfl, Nat.le_of_ble_eq_true rfl⟩) (hv_preV (ci := 3) hK hT.1 (cs_kX hS) (by decide) rfl rfl) rfl rfl hl.1 rfl (lv_room (Nat.le_of_ble_eq_true rfl)) dX3_begin_58 ⟨by show 0 + 0 + 0 + 8 ≤ 24; omega, by show 0 + 0 + 0 + 64 ≤ 192; omega⟩) hT (fun v9 H locs hp10 hT => ?_)
          obtain ⟨_, hI⟩ := hp10
          have hS := hI.1
          refine lv_iconst (v := 1) hx hb dX3_begin_61 (by decide) ?_
          exact hret _ 1 v9 _ _ _ _ _ dX3_begin_62 rfl hT (Or.inl ⟨⟨⟨i, hi, rfl, by have := nI_nlit (k := 0) c17; omega⟩, nI_lit (k := 0) c24⟩, rfl, _, hI⟩) (by show 0 + 0 + 0 + 8 ≤ 24; omega) (by show 0 + 0 + 0 + 64 ≤ 192; omega)
        · skip
          refine lv_aload_n hx hb dX3_begin_47 rfl (lv_at hl 0 rfl) ?_
          refine lv_iload_n hx hb dX3_begin_48 rfl (lv_at hl 1 rfl) ?_
          refine hv_callv (va_runV (As := [.int (nI i)]) (rest := []) ⟨hx, hb, hml, hown, hts⟩ (c_askVotes l D tc hI hi (Nat.zero_le _)) (cwV 1 hts (tw_V tw_121 tw_122 tw_485 tw_1 tw_123) rfl rfl rfl (by decide +kernel) ⟨Nat.le_of_ble_eq_true rfl, Nat.le_of_ble_eq_true rfl⟩) (hv_preV (ci := 3) hK hT.1 (cs_kX hS) (by decide) rfl rfl) rfl rfl hl.1 rfl (lv_room (Nat.le_of_ble_eq_true rfl)) dX3_begin_49 ⟨by show 0 + 0 + 0 + 24 ≤ 24; omega, by show 0 + 0 + 0 + 192 ≤ 192; omega⟩) hT (fun v11 H locs hp12 hT => ?_)
          obtain ⟨_, hI⟩ := hp12
          have hS := hI.1
          refine lv_goto (tgt := 61) hx hb dX3_begin_52 (by decide) ?_
          refine lv_iconst (v := 1) hx hb dX3_begin_61 (by decide) ?_
          exact hret _ 1 v11 _ _ _ _ _ dX3_begin_62 rfl hT (Or.inl ⟨⟨⟨i, hi, rfl, by have := nI_nlit (k := 0) c17; omega⟩, nI_lit (k := 0) c24⟩, rfl, _, hI⟩) (by show 0 + 0 + 0 + 24 ≤ 24; omega) (by show 0 + 0 + 0 + 192 ≤ 192; omega)
      · skip
        refine lv_iconst (v := 0) hx hb dX3_begin_27 (by decide) ?_
        exact hret _ 0 v _ _ _ _ _ dX3_begin_28 rfl hT (Or.inr ⟨fun ⟨_, h⟩ => c24 (by rw [h]; exact nI_0), rfl, _, hI⟩) (by show 0 + 0 ≤ 24; omega) (by show 0 + 0 ≤ 192; omega)

set_option maxHeartbeats 4000000 in
set_option maxRecDepth 100000 in
theorem s_delay (l : Launch) (D : va_G) (tc : Nat → ClassId) {fa : Nat → Nat} {n : Nat} {w u : Nat → Nat} {b : Nat} {d : Nat → Nat → Nat} {g : Nat × Nat} {k : Nat} {v : hv_V} (hI : ci_I fa n w u b d g k [] v) (x y : Int32) : Met l yX3_delay (Cond.code yX3_delay cX3_delay 3 (some .int) :: lw_B) ({ frames := 2, cells := 0, slots := 0, locals := 43 }) (va_Pc [.ref (fa 0), .int x, .int y] (hv_Pre D tc v)) (va_Qi (fun (r : Int32) (v1 : hv_V) => ((∃ i j, ok_D n x y i j ∧ r = nI (d i j)) ∨ (¬ ∃ i j, ok_D n x y i j) ∧ r = -1) ∧ ∃ k1, ci_I fa n w u b d g k1 [] v1) (hv_Post D tc (hv_A v)) (hv_A v)) (0) (0) (hv_A v) := by
  refine hv_meti l (by decide) (Nat.le_of_ble_eq_true rfl) ?_
  intro p e s m args below meth c Q X hret hK hz H locs ls hT hl
  obtain ⟨hx, hb, hml, hts, hown, hin0⟩ := X
  have hown : s.vm.findClass "CommitSites" = some m.cls := hown
  have hl : lv_has ls 3 [(0, .ref (fa 0)), (1, .int x), (2, .int y)] := hl
  have hS := hI.1
  have hn := hI.2.1.1
  have hb1 := hI.2.1.2.2.1.2
  refine lv_aload_n hx hb dX3_delay_0 rfl (lv_at hl 0 rfl) ?_
  refine lv_iload_n hx hb dX3_delay_1 rfl (lv_at hl 1 rfl) ?_
  refine lv_iload_n hx hb dX3_delay_2 rfl (lv_at hl 2 rfl) ?_
  refine hv_calli (va_runV (As := [.int x, .int y]) (rest := []) ⟨hx, hb, hml, hown, hts⟩ (c_isLink l D tc x y hS hn) (cwV 2 hts (tw_V tw_100 tw_101 tw_483 tw_1 tw_102) rfl rfl rfl (by decide +kernel) ⟨Nat.le_of_ble_eq_true rfl, Nat.le_of_ble_eq_true rfl⟩) (hv_preV (ci := 3) hK hT.1 (cs_kX hS) (by decide) rfl rfl) rfl rfl hl.1 rfl (lv_room (Nat.le_of_ble_eq_true rfl)) dX3_delay_3 ⟨Nat.le_of_ble_eq_true rfl, Nat.le_of_ble_eq_true rfl⟩) hT (fun r3 v1 H locs hp2 hT => ?_)
  obtain ⟨evhp2, qhp2⟩ := hp2
  rw [evhp2] at hT
  refine lv_if_eq (tgt := 23) hx hb dX3_delay_6 (by decide) (fun c6 => ?_) (fun c6 => ?_)
  · skip
    refine lv_iconst (v := (-1)) hx hb dX3_delay_23 (by decide) ?_
    exact hret _ (-1) v _ _ _ _ _ dX3_delay_24 rfl hT ⟨Or.inr ⟨(qhp2.resolve_left (fun z => absurd (z.1.symm.trans c6) (by decide))).2, rfl⟩, _, hI⟩ (by decide) (by decide)
  · skip
    obtain ⟨i, j, hi, hj, hij, rfl, rfl⟩ := (qhp2.resolve_right (fun q => c6 q.1)).2
    refine lv_aload_n hx hb dX3_delay_9 rfl (lv_at hl 0 rfl) ?_
    refine hv_gets (ci := 3) (C := RX3) (T := TX3) (N := 12) hx hb hts (tw_cs in_X3) hown hK hT (cs_kX hS) (by decide) rfl 1 (by decide) (hts _ (tw_c tw_48)) rfl (x := (fa 2)) (cs_pN hS) dX3_delay_10 ?_
    refine hv_gets (ci := 1) (C := RX1) (T := TX1) (N := 9) hx hb hts (tw_cs in_X1) hown hK hT (cs_kN hS) (by decide) rfl 0 (by decide) (hts _ (tw_c tw_27)) rfl (x := (fa 4)) (cs_pD hS) dX3_delay_13 ?_
    refine lv_iload_n hx hb dX3_delay_16 rfl (lv_at hl 1 rfl) ?_
    refine hv_alds (t := 2) hx hb hK hT (cs_kD hS) rfl rfl (cs_in8 (cs_lt8 hS hi)) (x := (fa (8 + i))) (cs_qD hS (cs_lt8 hS hi)) dX3_delay_17 ?_
    refine lv_iload_n hx hb dX3_delay_18 rfl (lv_at hl 2 rfl) ?_
    refine hv_iald hx hb hK hT (cs_kR hS (cs_lt8 hS hi)) (cs_in8 (cs_lt8 hS hj)) dX3_delay_19 ?_
    refine lv_topi (fun g4 eg4 => ?_)
    have eg4 : g4 = (nI (d i j)) := eg4.trans (by rw [cs_cl (cs_lt8 hS hj)]; exact (hI.2.1.2.2.2.2.2.1 i j (cs_lt8 hS hi) (cs_lt8 hS hj)).2)
    subst eg4
    refine lv_goto (tgt := 24) hx hb dX3_delay_20 (by decide) ?_
    exact hret _ (nI (d i j)) v _ _ _ _ _ dX3_delay_24 rfl hT ⟨Or.inl ⟨i, j, ⟨hi, hj, hij, rfl, rfl⟩, rfl⟩, _, hI⟩ (by decide) (by decide)

set_option maxHeartbeats 4000000 in
set_option maxRecDepth 100000 in
theorem s_site (l : Launch) (D : va_G) (tc : Nat → ClassId) {fa : Nat → Nat} {n : Nat} {w u : Nat → Nat} {b : Nat} {d : Nat → Nat → Nat} {g : Nat × Nat} {k : Nat} {v : hv_V} (hI : ci_I fa n w u b d g k [] v) (x : Int32) : Met l yX3_site (Cond.code yX3_site cX3_site 2 (some .int) :: lw_B) ({ frames := 2, cells := 2, slots := 18, locals := 41 }) (va_Pc [.ref (fa 0), .int x] (hv_Pre D tc v)) (va_Qi (fun (r : Int32) (v1 : hv_V) => (ok_S n b x ∧ r = nI n ∧ ∃ (fa1 : Nat → Nat) (q : Nat), x = nI q ∧ fa1 0 = fa 0 ∧ ci_I fa1 (n + 1) (va_up w n q) (va_up u n 1) b d (g.1 + 2, g.2 + 18) k [] v1) ∨ ¬ ok_S n b x ∧ r = -1 ∧ ci_I fa n w u b d g k [] v1) (hv_Post D tc (hv_A v)) (hv_A v)) (2) (18) (hv_A v) := by
  refine hv_meti l (by decide) (Nat.le_of_ble_eq_true rfl) ?_
  intro p e s m args below meth c Q X hret hK hz H locs ls hT hl
  obtain ⟨hx, hb, hml, hts, hown, hin0⟩ := X
  have hown : s.vm.findClass "CommitSites" = some m.cls := hown
  have hl : lv_has ls 2 [(0, .ref (fa 0)), (1, .int x)] := hl
  have hS := hI.1
  have hn := hI.2.1.1
  have hb1 := hI.2.1.2.2.1.2
  have hn88 := cs_n8 hS
  refine lv_iload_n hx hb dX3_site_0 rfl (lv_at hl 1 rfl) ?_
  refine lv_iconst (v := 1) hx hb dX3_site_1 (by decide) ?_
  refine lv_icmp_lt (tgt := 27) hx hb dX3_site_2 (by decide) (fun c2 => ?_) (fun c2 => ?_)
  · skip
    refine lv_iconst (v := (-1)) hx hb dX3_site_27 (by decide) ?_
    exact hret _ (-1) v _ _ _ _ _ dX3_site_28 rfl hT (Or.inr ⟨fun h => h.1 c2, rfl, hI⟩) (by show 0 ≤ 2; omega) (by show 0 ≤ 18; omega)
  · skip
    refine lv_iload_n hx hb dX3_site_5 rfl (lv_at hl 1 rfl) ?_
    refine lv_bipush (v := 9) hx hb dX3_site_6 (by decide) ?_
    refine lv_icmp_gt (tgt := 27) hx hb dX3_site_8 (by decide) (fun c8 => ?_) (fun c8 => ?_)
    · skip
      refine lv_iconst (v := (-1)) hx hb dX3_site_27 (by decide) ?_
      exact hret _ (-1) v _ _ _ _ _ dX3_site_28 rfl hT (Or.inr ⟨fun h => h.2.1 c8, rfl, hI⟩) (by show 0 ≤ 2; omega) (by show 0 ≤ 18; omega)
    · skip
      refine lv_aload_n hx hb dX3_site_11 rfl (lv_at hl 0 rfl) ?_
      refine hv_geti (ci := 3) (C := RX3) (T := TX3) (N := 12) hx hb hts (tw_cs in_X3) hown hK hT (cs_kX hS) (by decide) rfl 8 (by decide) (hts _ (tw_c tw_55)) rfl dX3_site_12 ?_
      refine lv_topi (fun g1 eg1 => ?_)
      have eg1 : g1 = (nI b) := eg1.trans (hI.2.1.2.2.1.1)
      subst eg1
      refine lv_if_ne (tgt := 27) hx hb dX3_site_15 (by decide) (fun c15 => ?_) (fun c15 => ?_)
      · skip
        refine lv_iconst (v := (-1)) hx hb dX3_site_27 (by decide) ?_
        exact hret _ (-1) v _ _ _ _ _ dX3_site_28 rfl hT (Or.inr ⟨fun h => c15 (by rw [h.2.2.1]; exact nI_0), rfl, hI⟩) (by show 0 ≤ 2; omega) (by show 0 ≤ 18; omega)
      · skip
        refine lv_aload_n hx hb dX3_site_18 rfl (lv_at hl 0 rfl) ?_
        refine hv_geti (ci := 3) (C := RX3) (T := TX3) (N := 12) hx hb hts (tw_cs in_X3) hown hK hT (cs_kX hS) (by decide) rfl 3 (by decide) (hts _ (tw_c tw_50)) rfl dX3_site_19 ?_
        refine lv_topi (fun g2 eg2 => ?_)
        refine lv_bipush (v := 8) hx hb dX3_site_22 (by decide) ?_
        refine lv_icmp_lt (tgt := 29) hx hb dX3_site_24 (by decide) (fun c24 => ?_) (fun c24 => ?_)
        · skip
          obtain ⟨q, hq1, hq9, rfl⟩ := is_rng (x := x) (a := 1) (m := 9) (by decide) c2 c8 (by decide)
          have hn8 : n < 8 := (nI_ltI (b := 8) (by omega) (by decide)).mp (by rw [← hn, ← eg2]; exact c24)
          have hd1 : ∀ c, (hv_k v c).1 ≠ 0 → c < hv_n v := hT.1.2.1
          have kX := cs_kX hS
          have kS := cs_kS hS
          have hx0 : fa 0 ≠ hv_n v := hv_ne hT.1 _ (by rw [kX]; decide)
          have hx1 : fa 1 ≠ hv_n v := hv_ne hT.1 _ (by rw [kS]; decide)
          have hx01 : fa 0 ≠ hv_n v + 1 := by have := hd1 (fa 0) (by rw [kX]; decide); omega
          have hx11 : fa 1 ≠ hv_n v + 1 := by have := hd1 (fa 1) (by rw [kS]; decide); omega
          have hsum := hI.2.1.2.1
          refine lv_aload_n hx hb dX3_site_29 rfl (lv_at hl 0 rfl) ?_
          refine hv_gets (ci := 3) (C := RX3) (T := TX3) (N := 12) hx hb hts (tw_cs in_X3) hown hK hT (cs_kX hS) (by decide) rfl 0 (by decide) (hts _ (tw_c tw_47)) rfl (x := (fa 1)) (cs_pS hS) dX3_site_30 ?_
          refine lv_aload_n hx hb dX3_site_33 rfl (lv_at hl 0 rfl) ?_
          refine hv_geti (ci := 3) (C := RX3) (T := TX3) (N := 12) hx hb hts (tw_cs in_X3) hown hK hT (cs_kX hS) (by decide) rfl 3 (by decide) (hts _ (tw_c tw_50)) rfl dX3_site_34 ?_
          refine lv_topi (fun g3 eg3 => ?_)
          have eg3 : g3 = (nI n) := by rw [eg3]; exact hn
          subst eg3
          refine hv_new (ci := 2) (C := RX2) (T := TX2) (N := 10) hx hb hts (tw_cs in_X2) tyX2 tyX2_ok hown (hts _ (tw_c tw_14)) (hts _ (tw_c tw_63)) (hts _ (tw_c tw_4)) hK hT (by decide) rfl hd_X2 (by show 0 + 1 ≤ 2; omega) (by show 0 + 10 ≤ 18; omega) dX3_site_37 (fun H hT => ?_)
          refine lv_dup hx hb dX3_site_40 rfl ?_
          refine lv_iload_n hx hb dX3_site_41 rfl (lv_at hl 1 rfl) ?_
          refine hv_callv (va_runI (As := [.int (nI q)]) (rest := [.ref (hv_n v), .int (nI n), .ref (fa 1)]) ⟨hx, hb, hml, hown, hts⟩ (c_siteInit l D tc (v := (hv_nw v (3, 0) 10)) (a := (hv_n v)) (nI q) (by simp [hv_si_i, hv_si_k, hv_si_p, hv_si_a, hv_si_q, hv_sp_i, hv_sp_k, hv_sp_p, hv_sp_a, hv_sp_q, hv_sa_i, hv_sa_k, hv_sa_p, hv_sa_a, hv_sa_q, hv_sq_i, hv_sq_k, hv_sq_p, hv_sq_a, hv_sq_q, hv_nw_k, hv_nw_i, hv_nw_p, hv_nw_a, hv_nw_q, hv_nw_n, hv_nw_t, hv_si_n, hv_si_t, hv_sp_n, hv_sp_t, hv_sa_n, hv_sa_t, hv_sq_n, hv_sq_t])) (cwI 1 hts (tw_I tw_66) rfl rfl rfl (hts _ (tw_c tw_4)) (hts _ (tw_c tw_64)) (hts _ (tw_c tw_65)) rfl (by decide +kernel) ⟨Nat.le_of_ble_eq_true rfl, Nat.le_of_ble_eq_true rfl⟩) (hv_preS hK hT.1) rfl rfl hl.1 rfl (lv_room (Nat.le_of_ble_eq_true rfl)) dX3_site_42 ⟨by show 0 + 1 + 1 ≤ 2; omega, by show 0 + 10 + 8 ≤ 18; omega⟩) hT (fun v4 H locs hp5 hT => ?_)
          rw [hp5] at hT
          refine hv_aast (t := 0) (ci := 2) (r := (RX2, TX2, 10)) hx hb hK hT (by simp [hv_si_i, hv_si_k, hv_si_p, hv_si_a, hv_si_q, hv_sp_i, hv_sp_k, hv_sp_p, hv_sp_a, hv_sp_q, hv_sa_i, hv_sa_k, hv_sa_p, hv_sa_a, hv_sa_q, hv_sq_i, hv_sq_k, hv_sq_p, hv_sq_a, hv_sq_q, hv_nw_k, hv_nw_i, hv_nw_p, hv_nw_a, hv_nw_q, hv_nw_n, hv_nw_t, hv_si_n, hv_si_t, hv_sp_n, hv_sp_t, hv_sa_n, hv_sa_t, hv_sq_n, hv_sq_t, hx1, hx11, kS]) rfl (by simp [hv_si_i, hv_si_k, hv_si_p, hv_si_a, hv_si_q, hv_sp_i, hv_sp_k, hv_sp_p, hv_sp_a, hv_sp_q, hv_sa_i, hv_sa_k, hv_sa_p, hv_sa_a, hv_sa_q, hv_sq_i, hv_sq_k, hv_sq_p, hv_sq_a, hv_sq_q, hv_nw_k, hv_nw_i, hv_nw_p, hv_nw_a, hv_nw_q, hv_nw_n, hv_nw_t, hv_si_n, hv_si_t, hv_sp_n, hv_sp_t, hv_sa_n, hv_sa_t, hv_sq_n, hv_sq_t]) (by decide) rfl (cs_in8 hn8) dX3_site_45 (fun H locs hT => ?_)
          refine lv_aload_n hx hb dX3_site_46 rfl (lv_at hl 0 rfl) ?_
          refine lv_dup hx hb dX3_site_47 rfl ?_
          refine hv_geti (ci := 3) (C := RX3) (T := TX3) (N := 12) hx hb hts (tw_cs in_X3) hown hK hT (by simp [hv_si_i, hv_si_k, hv_si_p, hv_si_a, hv_si_q, hv_sp_i, hv_sp_k, hv_sp_p, hv_sp_a, hv_sp_q, hv_sa_i, hv_sa_k, hv_sa_p, hv_sa_a, hv_sa_q, hv_sq_i, hv_sq_k, hv_sq_p, hv_sq_a, hv_sq_q, hv_nw_k, hv_nw_i, hv_nw_p, hv_nw_a, hv_nw_q, hv_nw_n, hv_nw_t, hv_si_n, hv_si_t, hv_sp_n, hv_sp_t, hv_sa_n, hv_sa_t, hv_sq_n, hv_sq_t, hx0, hx01, kX]) (by decide) rfl 4 (by decide) (hts _ (tw_c tw_51)) rfl dX3_site_48 ?_
          refine lv_topi (fun g6 eg6 => ?_)
          have eg6 : g6 = (nI (ci_sum w n)) := by rw [eg6]; simp [hv_si_i, hv_si_k, hv_si_p, hv_si_a, hv_si_q, hv_sp_i, hv_sp_k, hv_sp_p, hv_sp_a, hv_sp_q, hv_sa_i, hv_sa_k, hv_sa_p, hv_sa_a, hv_sa_q, hv_sq_i, hv_sq_k, hv_sq_p, hv_sq_a, hv_sq_q, hv_nw_k, hv_nw_i, hv_nw_p, hv_nw_a, hv_nw_q, hv_nw_n, hv_nw_t, hv_si_n, hv_si_t, hv_sp_n, hv_sp_t, hv_sa_n, hv_sa_t, hv_sq_n, hv_sq_t, hx0, hx01, hsum]
          subst eg6
          refine lv_iload_n hx hb dX3_site_51 rfl (lv_at hl 1 rfl) ?_
          refine lv_iadd hx hb dX3_site_52 ?_
          refine hv_as (x := ((nI (ci_sum w n)) + (nI q))) (y := (nI ((ci_sum w n) + q))) (nI_add _ _) ?_
          refine hv_puti (ci := 3) (C := RX3) (T := TX3) (N := 12) hx hb hts (tw_cs in_X3) tyX3 tyX3_ok nmX3 hown hK hT (by simp [hv_si_i, hv_si_k, hv_si_p, hv_si_a, hv_si_q, hv_sp_i, hv_sp_k, hv_sp_p, hv_sp_a, hv_sp_q, hv_sa_i, hv_sa_k, hv_sa_p, hv_sa_a, hv_sa_q, hv_sq_i, hv_sq_k, hv_sq_p, hv_sq_a, hv_sq_q, hv_nw_k, hv_nw_i, hv_nw_p, hv_nw_a, hv_nw_q, hv_nw_n, hv_nw_t, hv_si_n, hv_si_t, hv_sp_n, hv_sp_t, hv_sa_n, hv_sa_t, hv_sq_n, hv_sq_t, hx0, hx01, kX]) (by decide) rfl 4 (by decide) (hts _ (tw_c tw_51)) rfl rfl (x := (nI ((ci_sum w n) + q))) rfl rfl dX3_site_53 (fun H locs hT => ?_)
          refine lv_aload_n hx hb dX3_site_56 rfl (lv_at hl 0 rfl) ?_
          refine hv_callv (va_runV (As := []) (rest := []) ⟨hx, hb, hml, hown, hts⟩ (c_shareQuorums l D tc (v := (hv_si (hv_sq (hv_si (hv_si (hv_si (hv_si (hv_si (hv_si (hv_si (hv_si (hv_si (hv_sp (hv_nw (hv_nw v (3, 0) 10) (100 + 0, 8) 8) 201 (hv_n v) (some (hv_n (hv_nw v (3, 0) 10)))) 200 (hv_n v) (nI q)) 202 (hv_n v) 0) 203 (hv_n v) 1) 204 (hv_n v) 0) 205 (hv_n v) 0) 206 (hv_n v) 0) 207 (hv_n v) 0) 208 (hv_n v) (-1)) 209 (hv_n v) 0) (fa 1) ((nI n) : Int32).toNatClampNeg (some (hv_n v))) 304 (fa 0) (nI ((ci_sum w n) + q)))) (a := fa 0) (by simp [hv_si_i, hv_si_k, hv_si_p, hv_si_a, hv_si_q, hv_sp_i, hv_sp_k, hv_sp_p, hv_sp_a, hv_sp_q, hv_sa_i, hv_sa_k, hv_sa_p, hv_sa_a, hv_sa_q, hv_sq_i, hv_sq_k, hv_sq_p, hv_sq_a, hv_sq_q, hv_nw_k, hv_nw_i, hv_nw_p, hv_nw_a, hv_nw_q, hv_nw_n, hv_nw_t, hv_si_n, hv_si_t, hv_sp_n, hv_sp_t, hv_sa_n, hv_sa_t, hv_sq_n, hv_sq_t, hx0, hx01, kX])) (cwV 0 hts (tw_V tw_41 tw_42 tw_481 tw_1 tw_43) rfl rfl rfl (by decide +kernel) ⟨Nat.le_of_ble_eq_true rfl, Nat.le_of_ble_eq_true rfl⟩) (hv_preV (ci := 3) hK hT.1 (by simp [hv_si_i, hv_si_k, hv_si_p, hv_si_a, hv_si_q, hv_sp_i, hv_sp_k, hv_sp_p, hv_sp_a, hv_sp_q, hv_sa_i, hv_sa_k, hv_sa_p, hv_sa_a, hv_sa_q, hv_sq_i, hv_sq_k, hv_sq_p, hv_sq_a, hv_sq_q, hv_nw_k, hv_nw_i, hv_nw_p, hv_nw_a, hv_nw_q, hv_nw_n, hv_nw_t, hv_si_n, hv_si_t, hv_sp_n, hv_sp_t, hv_sa_n, hv_sa_t, hv_sq_n, hv_sq_t, hx0, hx01, kX]) (by decide) rfl rfl) rfl rfl hl.1 rfl (lv_room (Nat.le_of_ble_eq_true rfl)) dX3_site_57 ⟨by show 0 + 1 + 1 + 0 ≤ 2; omega, by show 0 + 10 + 8 + 0 ≤ 18; omega⟩) hT (fun v7 H locs hp8 hT => ?_)
          obtain ⟨q1, q2, ev9⟩ := hp8
          rw [ev9] at hT
          refine lv_aload_n hx hb dX3_site_60 rfl (lv_at hl 0 rfl) ?_
          refine lv_dup hx hb dX3_site_61 rfl ?_
          refine hv_geti (ci := 3) (C := RX3) (T := TX3) (N := 12) hx hb hts (tw_cs in_X3) hown hK hT (by simp [hv_si_i, hv_si_k, hv_si_p, hv_si_a, hv_si_q, hv_sp_i, hv_sp_k, hv_sp_p, hv_sp_a, hv_sp_q, hv_sa_i, hv_sa_k, hv_sa_p, hv_sa_a, hv_sa_q, hv_sq_i, hv_sq_k, hv_sq_p, hv_sq_a, hv_sq_q, hv_nw_k, hv_nw_i, hv_nw_p, hv_nw_a, hv_nw_q, hv_nw_n, hv_nw_t, hv_si_n, hv_si_t, hv_sp_n, hv_sp_t, hv_sa_n, hv_sa_t, hv_sq_n, hv_sq_t, hx0, hx01, kX]) (by decide) rfl 3 (by decide) (hts _ (tw_c tw_50)) rfl dX3_site_62 ?_
          refine lv_topi (fun g9 eg9 => ?_)
          have eg9 : g9 = (nI n) := by rw [eg9]; simp [hv_si_i, hv_si_k, hv_si_p, hv_si_a, hv_si_q, hv_sp_i, hv_sp_k, hv_sp_p, hv_sp_a, hv_sp_q, hv_sa_i, hv_sa_k, hv_sa_p, hv_sa_a, hv_sa_q, hv_sq_i, hv_sq_k, hv_sq_p, hv_sq_a, hv_sq_q, hv_nw_k, hv_nw_i, hv_nw_p, hv_nw_a, hv_nw_q, hv_nw_n, hv_nw_t, hv_si_n, hv_si_t, hv_sp_n, hv_sp_t, hv_sa_n, hv_sa_t, hv_sq_n, hv_sq_t, hx0, hx01, hn]
          subst eg9
          refine lv_dup_x1 hx hb dX3_site_65 rfl rfl ?_
          refine lv_iconst (v := 1) hx hb dX3_site_66 (by decide) ?_
          refine lv_iadd hx hb dX3_site_67 ?_
          refine hv_as (x := ((nI n) + 1)) (y := (nI (n + 1))) (nI_1 _) ?_
          refine hv_puti (ci := 3) (C := RX3) (T := TX3) (N := 12) hx hb hts (tw_cs in_X3) tyX3 tyX3_ok nmX3 hown hK hT (by simp [hv_si_i, hv_si_k, hv_si_p, hv_si_a, hv_si_q, hv_sp_i, hv_sp_k, hv_sp_p, hv_sp_a, hv_sp_q, hv_sa_i, hv_sa_k, hv_sa_p, hv_sa_a, hv_sa_q, hv_sq_i, hv_sq_k, hv_sq_p, hv_sq_a, hv_sq_q, hv_nw_k, hv_nw_i, hv_nw_p, hv_nw_a, hv_nw_q, hv_nw_n, hv_nw_t, hv_si_n, hv_si_t, hv_sp_n, hv_sp_t, hv_sa_n, hv_sa_t, hv_sq_n, hv_sq_t, hx0, hx01, kX]) (by decide) rfl 3 (by decide) (hts _ (tw_c tw_50)) rfl rfl (x := (nI (n + 1))) rfl rfl dX3_site_68 (fun H locs hT => ?_)
          exact hret _ (nI n) (hv_si (hv_si (hv_si (hv_si (hv_sq (hv_si (hv_si (hv_si (hv_si (hv_si (hv_si (hv_si (hv_si (hv_si (hv_sp (hv_nw (hv_nw v (3, 0) 10) (100 + 0, 8) 8) 201 (hv_n v) (some (hv_n (hv_nw v (3, 0) 10)))) 200 (hv_n v) (nI q)) 202 (hv_n v) 0) 203 (hv_n v) 1) 204 (hv_n v) 0) 205 (hv_n v) 0) 206 (hv_n v) 0) 207 (hv_n v) 0) 208 (hv_n v) (-1)) 209 (hv_n v) 0) (fa 1) ((nI n) : Int32).toNatClampNeg (some (hv_n v))) 304 (fa 0) (nI ((ci_sum w n) + q))) 305 (fa 0) q1) 306 (fa 0) q2) 303 (fa 0) (nI (n + 1))) _ _ _ _ _ dX3_site_71 rfl hT (Or.inl ⟨⟨c2, c8, nI_lit (k := 0) c15, hn8⟩, rfl, _, q, rfl, by unfold cs_ad; rw [if_neg (by omega), if_neg (by omega)], ci_siteI hI hn8 hq1 hq9 hd1 (fun c h1 h2 => by simp [hv_si_i, hv_si_k, hv_si_p, hv_si_a, hv_si_q, hv_sp_i, hv_sp_k, hv_sp_p, hv_sp_a, hv_sp_q, hv_sa_i, hv_sa_k, hv_sa_p, hv_sa_a, hv_sa_q, hv_sq_i, hv_sq_k, hv_sq_p, hv_sq_a, hv_sq_q, hv_nw_k, hv_nw_i, hv_nw_p, hv_nw_a, hv_nw_q, hv_nw_n, hv_nw_t, hv_si_n, hv_si_t, hv_sp_n, hv_sp_t, hv_sa_n, hv_sa_t, hv_sq_n, hv_sq_t, hx0, hx1, hx01, hx11, Ne.symm hx0, Ne.symm hx1, Ne.symm hx01, Ne.symm hx11, cs_cl hn8, h1, h2]) (by simp [hv_si_i, hv_si_k, hv_si_p, hv_si_a, hv_si_q, hv_sp_i, hv_sp_k, hv_sp_p, hv_sp_a, hv_sp_q, hv_sa_i, hv_sa_k, hv_sa_p, hv_sa_a, hv_sa_q, hv_sq_i, hv_sq_k, hv_sq_p, hv_sq_a, hv_sq_q, hv_nw_k, hv_nw_i, hv_nw_p, hv_nw_a, hv_nw_q, hv_nw_n, hv_nw_t, hv_si_n, hv_si_t, hv_sp_n, hv_sp_t, hv_sa_n, hv_sa_t, hv_sq_n, hv_sq_t, hx0, hx1, hx01, hx11, Ne.symm hx0, Ne.symm hx1, Ne.symm hx01, Ne.symm hx11, cs_cl hn8]) (by simp [hv_si_i, hv_si_k, hv_si_p, hv_si_a, hv_si_q, hv_sp_i, hv_sp_k, hv_sp_p, hv_sp_a, hv_sp_q, hv_sa_i, hv_sa_k, hv_sa_p, hv_sa_a, hv_sa_q, hv_sq_i, hv_sq_k, hv_sq_p, hv_sq_a, hv_sq_q, hv_nw_k, hv_nw_i, hv_nw_p, hv_nw_a, hv_nw_q, hv_nw_n, hv_nw_t, hv_si_n, hv_si_t, hv_sp_n, hv_sp_t, hv_sa_n, hv_sa_t, hv_sq_n, hv_sq_t, hx0, hx1, hx01, hx11, Ne.symm hx0, Ne.symm hx1, Ne.symm hx01, Ne.symm hx11, cs_cl hn8]) (fun f c h1 h2 h3 h4 h5 h6 => by simp [hv_si_i, hv_si_k, hv_si_p, hv_si_a, hv_si_q, hv_sp_i, hv_sp_k, hv_sp_p, hv_sp_a, hv_sp_q, hv_sa_i, hv_sa_k, hv_sa_p, hv_sa_a, hv_sa_q, hv_sq_i, hv_sq_k, hv_sq_p, hv_sq_a, hv_sq_q, hv_nw_k, hv_nw_i, hv_nw_p, hv_nw_a, hv_nw_q, hv_nw_n, hv_nw_t, hv_si_n, hv_si_t, hv_sp_n, hv_sp_t, hv_sa_n, hv_sa_t, hv_sq_n, hv_sq_t, hx0, hx1, hx01, hx11, Ne.symm hx0, Ne.symm hx1, Ne.symm hx01, Ne.symm hx11, cs_cl hn8, h1, h2, h3, h4, h5, h6]) (by simp [hv_si_i, hv_si_k, hv_si_p, hv_si_a, hv_si_q, hv_sp_i, hv_sp_k, hv_sp_p, hv_sp_a, hv_sp_q, hv_sa_i, hv_sa_k, hv_sa_p, hv_sa_a, hv_sa_q, hv_sq_i, hv_sq_k, hv_sq_p, hv_sq_a, hv_sq_q, hv_nw_k, hv_nw_i, hv_nw_p, hv_nw_a, hv_nw_q, hv_nw_n, hv_nw_t, hv_si_n, hv_si_t, hv_sp_n, hv_sp_t, hv_sa_n, hv_sa_t, hv_sq_n, hv_sq_t, hx0, hx1, hx01, hx11, Ne.symm hx0, Ne.symm hx1, Ne.symm hx01, Ne.symm hx11, cs_cl hn8]) (by simp [hv_si_i, hv_si_k, hv_si_p, hv_si_a, hv_si_q, hv_sp_i, hv_sp_k, hv_sp_p, hv_sp_a, hv_sp_q, hv_sa_i, hv_sa_k, hv_sa_p, hv_sa_a, hv_sa_q, hv_sq_i, hv_sq_k, hv_sq_p, hv_sq_a, hv_sq_q, hv_nw_k, hv_nw_i, hv_nw_p, hv_nw_a, hv_nw_q, hv_nw_n, hv_nw_t, hv_si_n, hv_si_t, hv_sp_n, hv_sp_t, hv_sa_n, hv_sa_t, hv_sq_n, hv_sq_t, hx0, hx1, hx01, hx11, Ne.symm hx0, Ne.symm hx1, Ne.symm hx01, Ne.symm hx11, cs_cl hn8]) (by simp [hv_si_i, hv_si_k, hv_si_p, hv_si_a, hv_si_q, hv_sp_i, hv_sp_k, hv_sp_p, hv_sp_a, hv_sp_q, hv_sa_i, hv_sa_k, hv_sa_p, hv_sa_a, hv_sa_q, hv_sq_i, hv_sq_k, hv_sq_p, hv_sq_a, hv_sq_q, hv_nw_k, hv_nw_i, hv_nw_p, hv_nw_a, hv_nw_q, hv_nw_n, hv_nw_t, hv_si_n, hv_si_t, hv_sp_n, hv_sp_t, hv_sa_n, hv_sa_t, hv_sq_n, hv_sq_t, hx0, hx1, hx01, hx11, Ne.symm hx0, Ne.symm hx1, Ne.symm hx01, Ne.symm hx11, cs_cl hn8]) (by simp [hv_si_i, hv_si_k, hv_si_p, hv_si_a, hv_si_q, hv_sp_i, hv_sp_k, hv_sp_p, hv_sp_a, hv_sp_q, hv_sa_i, hv_sa_k, hv_sa_p, hv_sa_a, hv_sa_q, hv_sq_i, hv_sq_k, hv_sq_p, hv_sq_a, hv_sq_q, hv_nw_k, hv_nw_i, hv_nw_p, hv_nw_a, hv_nw_q, hv_nw_n, hv_nw_t, hv_si_n, hv_si_t, hv_sp_n, hv_sp_t, hv_sa_n, hv_sa_t, hv_sq_n, hv_sq_t, hx0, hx1, hx01, hx11, Ne.symm hx0, Ne.symm hx1, Ne.symm hx01, Ne.symm hx11, cs_cl hn8]; rfl) (by simp [hv_si_i, hv_si_k, hv_si_p, hv_si_a, hv_si_q, hv_sp_i, hv_sp_k, hv_sp_p, hv_sp_a, hv_sp_q, hv_sa_i, hv_sa_k, hv_sa_p, hv_sa_a, hv_sa_q, hv_sq_i, hv_sq_k, hv_sq_p, hv_sq_a, hv_sq_q, hv_nw_k, hv_nw_i, hv_nw_p, hv_nw_a, hv_nw_q, hv_nw_n, hv_nw_t, hv_si_n, hv_si_t, hv_sp_n, hv_sp_t, hv_sa_n, hv_sa_t, hv_sq_n, hv_sq_t, hx0, hx1, hx01, hx11, Ne.symm hx0, Ne.symm hx1, Ne.symm hx01, Ne.symm hx11, cs_cl hn8]) (fun f c h1 h2 => by simp [hv_si_i, hv_si_k, hv_si_p, hv_si_a, hv_si_q, hv_sp_i, hv_sp_k, hv_sp_p, hv_sp_a, hv_sp_q, hv_sa_i, hv_sa_k, hv_sa_p, hv_sa_a, hv_sa_q, hv_sq_i, hv_sq_k, hv_sq_p, hv_sq_a, hv_sq_q, hv_nw_k, hv_nw_i, hv_nw_p, hv_nw_a, hv_nw_q, hv_nw_n, hv_nw_t, hv_si_n, hv_si_t, hv_sp_n, hv_sp_t, hv_sa_n, hv_sa_t, hv_sq_n, hv_sq_t, hx0, hx1, hx01, hx11, Ne.symm hx0, Ne.symm hx1, Ne.symm hx01, Ne.symm hx11, cs_cl hn8, h1, h2]) (by simp [hv_si_i, hv_si_k, hv_si_p, hv_si_a, hv_si_q, hv_sp_i, hv_sp_k, hv_sp_p, hv_sp_a, hv_sp_q, hv_sa_i, hv_sa_k, hv_sa_p, hv_sa_a, hv_sa_q, hv_sq_i, hv_sq_k, hv_sq_p, hv_sq_a, hv_sq_q, hv_nw_k, hv_nw_i, hv_nw_p, hv_nw_a, hv_nw_q, hv_nw_n, hv_nw_t, hv_si_n, hv_si_t, hv_sp_n, hv_sp_t, hv_sa_n, hv_sa_t, hv_sq_n, hv_sq_t, hx0, hx1, hx01, hx11, Ne.symm hx0, Ne.symm hx1, Ne.symm hx01, Ne.symm hx11, cs_cl hn8]) (fun c j h1 h2 => by simp [hv_si_i, hv_si_k, hv_si_p, hv_si_a, hv_si_q, hv_sp_i, hv_sp_k, hv_sp_p, hv_sp_a, hv_sp_q, hv_sa_i, hv_sa_k, hv_sa_p, hv_sa_a, hv_sa_q, hv_sq_i, hv_sq_k, hv_sq_p, hv_sq_a, hv_sq_q, hv_nw_k, hv_nw_i, hv_nw_p, hv_nw_a, hv_nw_q, hv_nw_n, hv_nw_t, hv_si_n, hv_si_t, hv_sp_n, hv_sp_t, hv_sa_n, hv_sa_t, hv_sq_n, hv_sq_t, hx0, hx1, hx01, hx11, Ne.symm hx0, Ne.symm hx1, Ne.symm hx01, Ne.symm hx11, cs_cl hn8, h1, h2]) (fun c j h1 h2 h3 => by simp [hv_si_i, hv_si_k, hv_si_p, hv_si_a, hv_si_q, hv_sp_i, hv_sp_k, hv_sp_p, hv_sp_a, hv_sp_q, hv_sa_i, hv_sa_k, hv_sa_p, hv_sa_a, hv_sa_q, hv_sq_i, hv_sq_k, hv_sq_p, hv_sq_a, hv_sq_q, hv_nw_k, hv_nw_i, hv_nw_p, hv_nw_a, hv_nw_q, hv_nw_n, hv_nw_t, hv_si_n, hv_si_t, hv_sp_n, hv_sp_t, hv_sa_n, hv_sa_t, hv_sq_n, hv_sq_t, hx0, hx1, hx01, hx11, Ne.symm hx0, Ne.symm hx1, Ne.symm hx01, Ne.symm hx11, cs_cl hn8, h1, h2, h3]) (by simp [hv_si_i, hv_si_k, hv_si_p, hv_si_a, hv_si_q, hv_sp_i, hv_sp_k, hv_sp_p, hv_sp_a, hv_sp_q, hv_sa_i, hv_sa_k, hv_sa_p, hv_sa_a, hv_sa_q, hv_sq_i, hv_sq_k, hv_sq_p, hv_sq_a, hv_sq_q, hv_nw_k, hv_nw_i, hv_nw_p, hv_nw_a, hv_nw_q, hv_nw_n, hv_nw_t, hv_si_n, hv_si_t, hv_sp_n, hv_sp_t, hv_sa_n, hv_sa_t, hv_sq_n, hv_sq_t, hx0, hx1, hx01, hx11, Ne.symm hx0, Ne.symm hx1, Ne.symm hx01, Ne.symm hx11, cs_cl hn8]) (by simp [hv_si_i, hv_si_k, hv_si_p, hv_si_a, hv_si_q, hv_sp_i, hv_sp_k, hv_sp_p, hv_sp_a, hv_sp_q, hv_sa_i, hv_sa_k, hv_sa_p, hv_sa_a, hv_sa_q, hv_sq_i, hv_sq_k, hv_sq_p, hv_sq_a, hv_sq_q, hv_nw_k, hv_nw_i, hv_nw_p, hv_nw_a, hv_nw_q, hv_nw_n, hv_nw_t, hv_si_n, hv_si_t, hv_sp_n, hv_sp_t, hv_sa_n, hv_sa_t, hv_sq_n, hv_sq_t, hx0, hx1, hx01, hx11, Ne.symm hx0, Ne.symm hx1, Ne.symm hx01, Ne.symm hx11, cs_cl hn8]) (by simp [hv_si_i, hv_si_k, hv_si_p, hv_si_a, hv_si_q, hv_sp_i, hv_sp_k, hv_sp_p, hv_sp_a, hv_sp_q, hv_sa_i, hv_sa_k, hv_sa_p, hv_sa_a, hv_sa_q, hv_sq_i, hv_sq_k, hv_sq_p, hv_sq_a, hv_sq_q, hv_nw_k, hv_nw_i, hv_nw_p, hv_nw_a, hv_nw_q, hv_nw_n, hv_nw_t, hv_si_n, hv_si_t, hv_sp_n, hv_sp_t, hv_sa_n, hv_sa_t, hv_sq_n, hv_sq_t, hx0, hx1, hx01, hx11, Ne.symm hx0, Ne.symm hx1, Ne.symm hx01, Ne.symm hx11, cs_cl hn8])⟩) (by show 0 + 1 + 1 + 0 ≤ 2; omega) (by show 0 + 10 + 8 + 0 ≤ 18; omega)
        · skip
          refine lv_iconst (v := (-1)) hx hb dX3_site_27 (by decide) ?_
          exact hret _ (-1) v _ _ _ _ _ dX3_site_28 rfl hT (Or.inr ⟨fun h => c24 (by rw [eg2, hn]; exact nI_lt (b := 8) h.2.2.2 (by omega)), rfl, hI⟩) (by show 0 ≤ 2; omega) (by show 0 ≤ 18; omega)

set_option maxHeartbeats 4000000 in
set_option maxRecDepth 100000 in
theorem s_reset (l : Launch) (D : va_G) (tc : Nat → ClassId) {fa : Nat → Nat} {n : Nat} {w u : Nat → Nat} {b : Nat} {d : Nat → Nat → Nat} {g : Nat × Nat} {k : Nat} {v : hv_V} (hI : ci_I fa n w u b d g k [] v) : Met l yX3_reset (Cond.code yX3_reset cX3_reset 2 (some .int) :: lw_B) ({ frames := 1, locals := 25 }) (va_Pc [.ref (fa 0)] (hv_Pre D tc v)) (va_Qi (fun (r : Int32) (v1 : hv_V) => r = 1 ∧ ∃ u1 : Nat → Nat, (∀ i, i < n → u1 i = 1) ∧ ∃ k1, ci_I fa n w u1 0 d g k1 [] v1) (hv_Post D tc (hv_A v)) (hv_A v)) (0) (0) (hv_A v) := by
  refine hv_meti l (by decide) (Nat.le_of_ble_eq_true rfl) ?_
  intro p e s m args below meth c Q X hret hK hz H locs ls hT hl
  obtain ⟨hx, hb, hml, hts, hown, hin0⟩ := X
  have hown : s.vm.findClass "CommitSites" = some m.cls := hown
  have hl : lv_has ls 2 [(0, .ref (fa 0))] := hl
  have hS := hI.1
  have hn := hI.2.1.1
  refine lv_aload_n hx hb dX3_reset_0 rfl (lv_at hl 0 rfl) ?_
  refine lv_iconst (v := 0) hx hb dX3_reset_1 (by decide) ?_
  refine hv_puti (ci := 3) (C := RX3) (T := TX3) (N := 12) hx hb hts (tw_cs in_X3) tyX3 tyX3_ok nmX3 hown hK hT (cs_kX hS) (by decide) rfl 8 (by decide) (hts _ (tw_c tw_55)) rfl rfl (x := 0) rfl rfl dX3_reset_2 (fun H locs hT => ?_)
  have hI := ci_putB (x := 0) (b' := 0) rfl (by decide) hI
  have hS := hI.1
  refine lv_aload_n hx hb dX3_reset_5 rfl (lv_at hl 0 rfl) ?_
  refine lv_iconst (v := 0) hx hb dX3_reset_6 (by decide) ?_
  refine hv_puti (ci := 3) (C := RX3) (T := TX3) (N := 12) hx hb hts (tw_cs in_X3) tyX3 tyX3_ok nmX3 hown hK hT (cs_kX hS) (by decide) rfl 9 (by decide) (hts _ (tw_c tw_56)) rfl rfl (x := 0) rfl rfl dX3_reset_7 (fun H locs hT => ?_)
  have hI := ci_put (f := 309) (a := (fa 0)) (x := 0) rfl hI
  have hS := hI.1
  refine lv_aload_n hx hb dX3_reset_10 rfl (lv_at hl 0 rfl) ?_
  refine lv_iconst (v := 0) hx hb dX3_reset_11 (by decide) ?_
  refine hv_puti (ci := 3) (C := RX3) (T := TX3) (N := 12) hx hb hts (tw_cs in_X3) tyX3 tyX3_ok nmX3 hown hK hT (cs_kX hS) (by decide) rfl 10 (by decide) (hts _ (tw_c tw_57)) rfl rfl (x := 0) rfl rfl dX3_reset_12 (fun H locs hT => ?_)
  have hI := ci_put (f := 310) (a := (fa 0)) (x := 0) rfl hI
  have hS := hI.1
  refine lv_aload_n hx hb dX3_reset_15 rfl (lv_at hl 0 rfl) ?_
  refine lv_iconst (v := 0) hx hb dX3_reset_16 (by decide) ?_
  refine hv_puti (ci := 3) (C := RX3) (T := TX3) (N := 12) hx hb hts (tw_cs in_X3) tyX3 tyX3_ok nmX3 hown hK hT (cs_kX hS) (by decide) rfl 11 (by decide) (hts _ (tw_c tw_58)) rfl rfl (x := 0) rfl rfl dX3_reset_17 (fun H locs hT => ?_)
  have hI := ci_put (f := 311) (a := (fa 0)) (x := 0) rfl hI
  have hS := hI.1
  refine lv_aload_n hx hb dX3_reset_20 rfl (lv_at hl 0 rfl) ?_
  refine lv_iconst (v := 0) hx hb dX3_reset_21 (by decide) ?_
  refine lv_iconst (v := (-1)) hx hb dX3_reset_22 (by decide) ?_
  refine lv_iconst (v := (-1)) hx hb dX3_reset_23 (by decide) ?_
  refine lv_iconst (v := 0) hx hb dX3_reset_24 (by decide) ?_
  refine lv_iconst (v := 0) hx hb dX3_reset_25 (by decide) ?_
  refine hv_callv (va_runV (As := [.int 0, .int (-1), .int (-1), .int 0, .int 0]) (rest := []) ⟨hx, hb, hml, hown, hts⟩ (c_note l D tc hI 0 (-1) (-1) 0 0) (cwV 5 hts (tw_V tw_44 tw_45 tw_482 tw_1 tw_46) rfl rfl rfl (by decide +kernel) ⟨Nat.le_of_ble_eq_true rfl, Nat.le_of_ble_eq_true rfl⟩) (hv_preV (ci := 3) hK hT.1 (cs_kX hS) (by decide) rfl rfl) rfl rfl hl.1 rfl (lv_room (Nat.le_of_ble_eq_true rfl)) dX3_reset_26 ⟨Nat.le_of_ble_eq_true rfl, Nat.le_of_ble_eq_true rfl⟩) hT (fun v1 H locs hp2 hT => ?_)
  have hI := hp2
  have hS := hI.1
  refine lv_aload_n hx hb dX3_reset_29 rfl (lv_at hl 0 rfl) ?_
  refine hv_gets (ci := 3) (C := RX3) (T := TX3) (N := 12) hx hb hts (tw_cs in_X3) hown hK hT (cs_kX hS) (by decide) rfl 1 (by decide) (hts _ (tw_c tw_48)) rfl (x := (fa 2)) (cs_pN hS) dX3_reset_30 ?_
  refine hv_callv (va_runV (As := []) (rest := []) ⟨hx, hb, hml, hown, hts⟩ (c_netAnew l D tc hI) (cwV 0 hts (tw_V tw_276 tw_277 tw_278 tw_2 tw_279) rfl rfl rfl (by decide +kernel) ⟨Nat.le_of_ble_eq_true rfl, Nat.le_of_ble_eq_true rfl⟩) (hv_preV (ci := 1) hK hT.1 (cs_kN hS) (by decide) rfl rfl) rfl rfl hl.1 rfl (lv_room (Nat.le_of_ble_eq_true rfl)) dX3_reset_33 ⟨Nat.le_of_ble_eq_true rfl, Nat.le_of_ble_eq_true rfl⟩) hT (fun v3 H locs hp4 hT => ?_)
  have hI := hp4
  have hS := hI.1
  have hn := hI.2.1.1
  refine lv_iconst (v := 0) hx hb dX3_reset_36 (by decide) ?_
  refine hv_as (x := 0) (y := (nI 0)) nI_0.symm ?_
  refine lv_istore_n (lv' := [(1, _), (0, _)]) hx hb dX3_reset_37 rfl hl (by decide) rfl (fun ls hl => ?_)
  have hL38 : ∀ (N9 : Nat) (i : Nat) (uL : Nat → Nat) (vL : hv_V) (H : Heap) (locs : List Loc) (ls : Array Slot), i ≤ n → n < i + N9 → ci_I fa n w uL 0 d g k [] vL → (∀ i1, i1 < i → uL i1 = 1) → hv_St (hv_A v) s D tc vL H locs → lv_has ls 2 [(0, .ref (fa 0)), (1, .int (nI i))] → W p l e ({ frames := 1, locals := 25 } : Room) s m args below meth c H locs (0) (0) Q (F0 m 38 ls []) := by
    intro N9
    induction N9 with
    | zero =>
      intro i uL vL H locs ls hle hN hI hU hT hl
      exfalso
      omega
    | succ N9 ih38 =>
      intro i uL vL H locs ls hle hN hI hU hT hl
      have hS := hI.1
      refine lv_iload_n hx hb dX3_reset_38 rfl (lv_at hl 1 rfl) ?_
      refine lv_aload_n hx hb dX3_reset_39 rfl (lv_at hl 0 rfl) ?_
      refine hv_geti (ci := 3) (C := RX3) (T := TX3) (N := 12) hx hb hts (tw_cs in_X3) hown hK hT (cs_kX hS) (by decide) rfl 3 (by decide) (hts _ (tw_c tw_50)) rfl dX3_reset_40 ?_
      refine lv_topi (fun g5 eg5 => ?_)
      refine lv_icmp_ge (tgt := 61) hx hb dX3_reset_43 (by decide) (fun c43 => ?_) (fun c43 => ?_)
      · skip
        refine lv_iconst (v := 1) hx hb dX3_reset_61 (by decide) ?_
        exact hret _ 1 vL _ _ _ _ _ dX3_reset_62 rfl hT ⟨rfl, _, (fun i1 h1 => hU i1 (by have := cs_n8 hS; rw [cs_ex hle (by omega) (by rw [← hI.2.1.1, ← eg5]; exact c43)]; exact h1)), _, hI⟩ (by decide) (by decide)
      · skip
        have hlti : i < n := cs_lp hle (cs_n8 hS) (by rw [← hI.2.1.1, ← eg5]; exact c43)
        refine lv_aload_n hx hb dX3_reset_46 rfl (lv_at hl 0 rfl) ?_
        refine hv_gets (ci := 3) (C := RX3) (T := TX3) (N := 12) hx hb hts (tw_cs in_X3) hown hK hT (cs_kX hS) (by decide) rfl 0 (by decide) (hts _ (tw_c tw_47)) rfl (x := (fa 1)) (cs_pS hS) dX3_reset_47 ?_
        refine lv_iload_n hx hb dX3_reset_50 rfl (lv_at hl 1 rfl) ?_
        refine hv_alds (t := 0) hx hb hK hT (cs_kS hS) rfl rfl (cs_in8 (cs_lt8 hS hlti)) (x := (fa (16 + i))) (cs_qS hS hlti) dX3_reset_51 ?_
        refine hv_callv (va_runV (As := []) (rest := []) ⟨hx, hb, hml, hown, hts⟩ (c_siteAnew l D tc (cs_ks hS hlti)) (cwV 0 hts (tw_V tw_280 tw_69 tw_70 tw_4 tw_71) rfl rfl rfl (by decide +kernel) ⟨Nat.le_of_ble_eq_true rfl, Nat.le_of_ble_eq_true rfl⟩) (hv_preV (ci := 2) hK hT.1 (cs_ks hS hlti) (by decide) rfl rfl) rfl rfl hl.1 rfl (lv_room (Nat.le_of_ble_eq_true rfl)) dX3_reset_52 ⟨Nat.le_of_ble_eq_true rfl, Nat.le_of_ble_eq_true rfl⟩) hT (fun v6 H locs hp7 hT => ?_)
        have hI := ci_anew hlti hI
        rw [← hp7] at hI
        have hS := hI.1
        refine lv_iinc (v := (nI (i + 1))) (lv' := [(1, _), (0, _)]) hx hb dX3_reset_55 hl (k := 1) rfl (nI_1 _) (by decide) rfl (fun ls hl => ?_)
        refine lv_goto (tgt := 38) hx hb dX3_reset_58 (by decide) ?_
        exact ih38 (i + 1) _ v6 H locs ls (by omega) (by omega) hI (fun i1 h1 => by by_cases e : i1 = i <;> simp only [va_up, e, if_true, if_false] <;> exact hU i1 (by omega)) hT (lv_sub hl [1, 0] rfl)
  exact hL38 (n + 1) 0 u v3 H locs ls (by omega) (by omega) hI (fun i1 h1 => by omega) hT (lv_sub hl [1, 0] rfl)
