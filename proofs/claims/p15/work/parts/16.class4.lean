theorem cs_lp8 {i : Nat} (hi : i ≤ 8) (h : ¬ (8 : Int32) ≤ nI i) : i < 8 := by
  rcases Nat.lt_or_ge i 8 with q | q
  · exact q
  · exact absurd (show nI 8 ≤ nI i from nI_le q (by omega)) h
theorem hv_ne {D : va_G} {tc : Nat → ClassId} {v : hv_V} {H : Heap} (hW : hv_W D tc v H) : ∀ c, (hv_k v c).1 ≠ 0 → c ≠ hv_n v := fun c h e => by
  have := hW.2.1 c h
  omega

set_option maxHeartbeats 4000000 in
set_option maxRecDepth 100000 in
theorem c_send (l : Launch) (D : va_G) (tc : Nat → ClassId) {fa : Nat → Nat} {n : Nat} {w u : Nat → Nat} {b : Nat} {d : Nat → Nat → Nat} {g : Nat × Nat} {k : Nat} {hd : List Nat} {v : hv_V} (hI : ci_I fa n w u b d g k hd v) {f0 : Nat} (hf0 : f0 < n) (r0 x3 x4 x5 : Int32) (hr : ∀ t, t < 8 → ¬ hb_ r0 (nI t) = 0 → t < n) (hh : hd.length ≤ 1) : Met l yX1_send (Cond.code yX1_send cX1_send 8 none :: lw_B) ({ frames := 2, cells := 8, slots := 64, locals := 40 }) (va_Pc [.ref (fa 2), .int (nI f0), .int r0, .int x3, .int x4, .int x5] (hv_Pre D tc v)) (va_Qv (fun (v1 : hv_V) => ∃ k1, ci_I fa n w u b d g k1 hd v1) (hv_Post D tc (hv_A v)) (hv_A v)) (8) (64) (hv_A v) := by
  refine hv_metv l (by decide) (Nat.le_of_ble_eq_true rfl) ?_
  intro p e s m args below meth c Q X hret hK hz H locs ls hT hl
  obtain ⟨hx, hb, hml, hts, hown, hin0⟩ := X
  have hown : s.vm.findClass "CommitSites$Network" = some m.cls := hown
  have hl : lv_has ls 8 [(0, .ref (fa 2)), (1, .int (nI f0)), (2, .int r0), (3, .int x3), (4, .int x4), (5, .int x5)] := hl
  refine lv_iconst (v := 0) hx hb dX1_send_0 (by decide) ?_
  refine hv_as (x := 0) (y := (nI 0)) nI_0.symm ?_
  refine lv_istore (lv' := [(6, _), (0, _), (1, _), (2, _), (3, _), (4, _), (5, _)]) hx hb dX1_send_1 hl (by decide) rfl (fun ls hl => ?_)
  have hL3 : ∀ (N9 : Nat) (i : Nat) (kL : Nat) (vL : hv_V) (H : Heap) (locs : List Loc) (ls : Array Slot), i ≤ 8 → 8 < i + N9 → ci_I fa n w u b d g kL hd vL → hv_St (hv_A v) s D tc vL H locs → lv_has ls 8 [(0, .ref (fa 2)), (1, .int (nI f0)), (2, .int r0), (3, .int x3), (4, .int x4), (5, .int x5), (6, .int (nI i))] → W p l e ({ frames := 2, cells := 8, slots := 64, locals := 40 } : Room) s m args below meth c H locs (i) (8 * i) Q (F0 m 3 ls []) := by
    intro N9
    induction N9 with
    | zero =>
      intro i kL vL H locs ls hle hN hI hT hl
      exfalso
      omega
    | succ N9 ih3 =>
      intro i kL vL H locs ls hle hN hI hT hl
      have hS := hI.1
      refine lv_iload hx hb dX1_send_3 (lv_at hl 6 rfl) ?_
      refine lv_bipush (v := 8) hx hb dX1_send_5 (by decide) ?_
      refine lv_icmp_ge (tgt := 144) hx hb dX1_send_7 (by decide) (fun c7 => ?_) (fun c7 => ?_)
      · skip
        exact hret _ vL _ _ _ _ _ dX1_send_144 hT ⟨kL, hI⟩ (by show i ≤ 8; omega) (by show 8 * i ≤ 64; omega)
      · skip
        have hlti : i < 8 := cs_lp8 hle c7
        refine lv_iload_n hx hb dX1_send_10 rfl (lv_at hl 2 rfl) ?_
        refine lv_iload hx hb dX1_send_11 (lv_at hl 6 rfl) ?_
        refine hv_calli (va_runSN (As := [.int r0, .int (nI i)]) (rest := []) ⟨hx, hb, hml, hown, hts⟩ (c_hasBit l D tc r0 (nI i)) ⟨va_cnB 2 hts (tw_I tw_112) rfl rfl rfl hK.2.1 (hts _ (tw_c tw_1)) (by decide +kernel) ⟨Nat.le_of_ble_eq_true rfl, Nat.le_of_ble_eq_true rfl⟩, hts _ (tw_c tw_111), trivial⟩ (hv_preS hK hT.1) rfl rfl hl.1 rfl (lv_room (Nat.le_of_ble_eq_true rfl)) dX1_send_13 ⟨by show i + 0 ≤ 8; omega, by show 8 * i + 0 ≤ 64; omega⟩) hT (fun r3 v1 H locs hp2 hT => ?_)
        obtain ⟨evhp2, qhp2⟩ := hp2
        rw [evhp2] at hT
        refine lv_if_ne (tgt := 22) hx hb dX1_send_16 (by decide) (fun c16 => ?_) (fun c16 => ?_)
        · skip
          have hin : i < n := hr i hlti (by rw [← qhp2]; exact c16)
          refine lv_aload_n hx hb dX1_send_22 rfl (lv_at hl 0 rfl) ?_
          refine lv_dup hx hb dX1_send_23 rfl ?_
          refine hv_geti (ci := 1) (C := RX1) (T := TX1) (N := 9) hx hb hts (tw_cs in_X1) hown hK hT (cs_kN hS) (by decide) rfl 6 (by decide) (hts _ (tw_c tw_34)) rfl dX1_send_24 ?_
          refine lv_topi (fun g4 eg4 => ?_)
          refine lv_iconst (v := 1) hx hb dX1_send_27 (by decide) ?_
          refine lv_iadd hx hb dX1_send_28 ?_
          refine hv_puti (ci := 1) (C := RX1) (T := TX1) (N := 9) hx hb hts (tw_cs in_X1) tyX1 tyX1_ok nmX1 hown hK hT (cs_kN hS) (by decide) rfl 6 (by decide) (hts _ (tw_c tw_34)) rfl rfl (x := (g4 + 1)) rfl rfl dX1_send_29 (fun H locs hT => ?_)
          have hI := ci_put (f := 106) (a := (fa 2)) (x := (g4 + 1)) rfl hI
          have hS := hI.1
          refine lv_aload_n hx hb dX1_send_32 rfl (lv_at hl 0 rfl) ?_
          refine hv_gets (ci := 1) (C := RX1) (T := TX1) (N := 9) hx hb hts (tw_cs in_X1) hown hK hT (cs_kN hS) (by decide) rfl 0 (by decide) (hts _ (tw_c tw_26)) rfl (x := (fa 4)) (cs_pD hS) dX1_send_33 ?_
          refine lv_iload_n hx hb dX1_send_36 rfl (lv_at hl 1 rfl) ?_
          refine hv_alds (t := 2) hx hb hK hT (cs_kD hS) rfl rfl (cs_in8 (cs_lt8 hS hf0)) (x := (fa (8 + f0))) (cs_qD hS (cs_lt8 hS hf0)) dX1_send_37 ?_
          refine lv_iload hx hb dX1_send_38 (lv_at hl 6 rfl) ?_
          refine hv_iald hx hb hK hT (cs_kR hS (cs_lt8 hS hf0)) (cs_in8 hlti) dX1_send_40 ?_
          refine lv_topi (fun g5 eg5 => ?_)
          refine lv_if_eq (tgt := 54) hx hb dX1_send_41 (by decide) (fun c41 => ?_) (fun c41 => ?_)
          · skip
            refine lv_aload_n hx hb dX1_send_54 rfl (lv_at hl 0 rfl) ?_
            refine lv_dup hx hb dX1_send_55 rfl ?_
            refine hv_geti (ci := 1) (C := RX1) (T := TX1) (N := 9) hx hb hts (tw_cs in_X1) hown hK hT (cs_kN hS) (by decide) rfl 7 (by decide) (hts _ (tw_c tw_36)) rfl dX1_send_56 ?_
            refine lv_topi (fun g6 eg6 => ?_)
            refine lv_iconst (v := 1) hx hb dX1_send_59 (by decide) ?_
            refine lv_iadd hx hb dX1_send_60 ?_
            refine hv_puti (ci := 1) (C := RX1) (T := TX1) (N := 9) hx hb hts (tw_cs in_X1) tyX1 tyX1_ok nmX1 hown hK hT (cs_kN hS) (by decide) rfl 7 (by decide) (hts _ (tw_c tw_36)) rfl rfl (x := (g6 + 1)) rfl rfl dX1_send_61 (fun H locs hT => ?_)
            have hI := ci_put (f := 107) (a := (fa 2)) (x := (g6 + 1)) rfl hI
            have hS := hI.1
            refine lv_goto (tgt := 138) hx hb dX1_send_64 (by decide) ?_
            refine lv_iinc (v := (nI (i + 1))) (lv' := [(6, _), (0, _), (1, _), (2, _), (3, _), (4, _), (5, _)]) hx hb dX1_send_138 hl (k := 6) rfl (nI_1 _) (by decide) rfl (fun ls hl => ?_)
            refine lv_goto (tgt := 3) hx hb dX1_send_141 (by decide) ?_
            refine W.widen (k := i + 1) (n := 8 * (i + 1)) (by omega) (by omega) ?_
            exact ih3 (i + 1) _ (hv_si (hv_si vL 106 (fa 2) (g4 + 1)) 107 (fa 2) (g6 + 1)) H locs ls (by omega) (by omega) hI hT (lv_sub hl [1, 2, 3, 4, 5, 6, 0] rfl)
          · skip
            refine lv_aload_n hx hb dX1_send_44 rfl (lv_at hl 0 rfl) ?_
            refine hv_geti (ci := 1) (C := RX1) (T := TX1) (N := 9) hx hb hts (tw_cs in_X1) hown hK hT (cs_kN hS) (by decide) rfl 8 (by decide) (hts _ (tw_c tw_38)) rfl dX1_send_45 ?_
            refine lv_topi (fun g7 eg7 => ?_)
            refine lv_sipush (v := 4096) hx hb dX1_send_48 (by decide) ?_
            refine lv_icmp_lt (tgt := 67) hx hb dX1_send_51 (by decide) (fun c51 => ?_) (fun c51 => ?_)
            · skip
              cases hsp : hv_p vL 103 (fa 2) with
              | none =>
                skip
                refine lv_aload_n hx hb dX1_send_67 rfl (lv_at hl 0 rfl) ?_
                refine hv_getn (ci := 1) (C := RX1) (T := TX1) (N := 9) hx hb hts (tw_cs in_X1) hown hK hT (cs_kN hS) (by decide) rfl 3 (by decide) (hts _ (tw_c tw_30)) rfl hsp dX1_send_68 ?_
                refine lv_astoreN (lv' := [(7, _), (0, _), (1, _), (2, _), (3, _), (4, _), (5, _), (6, _)]) hx hb dX1_send_71 hl (by decide) rfl (fun ls hl => ?_)
                refine lv_aloadN hx hb dX1_send_73 (lv_at hl 0 rfl) ?_
                refine lv_ifnonnullN hx hb dX1_send_75 ?_
                have hI := ci_newI hI (hv_ne hT.1) (by omega) hsp (by rw [← eg7]; exact c51) hh
                have hka := (ci_hdI hI).1
                have hS := hI.1
                refine hv_new (ci := 0) (C := RX0) (T := TX0) (N := 8) hx hb hts (tw_cs in_X0) tyX0 tyX0_ok hown (hts _ (tw_c tw_24)) (hts _ (tw_c tw_142)) (hts _ (tw_c tw_5)) hK hT (by decide) rfl hd_X0 (by show i + 0 + 1 ≤ 8; omega) (by show 8 * i + 0 + 8 ≤ 64; omega) dX1_send_78 (fun H hT => ?_)
                refine lv_dup hx hb dX1_send_81 rfl ?_
                refine hv_callv (va_runIN (As := []) (rest := [.ref (hv_n (hv_si vL 106 (fa 2) (g4 + 1)))]) ⟨hx, hb, hml, hown, hts⟩ (c_msgInit l D tc (v := (hv_nw (hv_si vL 106 (fa 2) (g4 + 1)) (1, 0) 8)) (a := (hv_n (hv_si vL 106 (fa 2) (g4 + 1))))) ⟨va_cnB 0 hts (tw_I tw_145) rfl rfl rfl hK.2.2.1 (hts _ (tw_c tw_5)) (by decide +kernel) ⟨Nat.le_of_ble_eq_true rfl, Nat.le_of_ble_eq_true rfl⟩, rfl, hts _ (tw_c tw_144)⟩ (hv_preS hK hT.1) rfl rfl hl.1 rfl (lv_room (Nat.le_of_ble_eq_true rfl)) dX1_send_82 ⟨by show i + 0 + 1 + 0 ≤ 8; omega, by show 8 * i + 0 + 8 + 0 ≤ 64; omega⟩) hT (fun v8 H locs hp9 hT => ?_)
                rw [hp9] at hT
                refine lv_astore (lv' := [(7, _), (0, _), (1, _), (2, _), (3, _), (4, _), (5, _), (6, _)]) hx hb dX1_send_85 hl (by decide) rfl (fun ls hl => ?_)
                refine lv_goto (tgt := 99) hx hb dX1_send_87 (by decide) ?_
                refine lv_aload hx hb dX1_send_99 (lv_at hl 0 rfl) ?_
                refine lv_iload_n hx hb dX1_send_101 rfl (lv_at hl 4 rfl) ?_
                refine hv_puti (ci := 0) (C := RX0) (T := TX0) (N := 8) hx hb hts (tw_cs in_X0) tyX0 tyX0_ok nmX0 hown hK hT hka (by decide) rfl 2 (by decide) (hts _ (tw_c tw_152)) rfl rfl (x := x3) rfl rfl dX1_send_102 (fun H locs hT => ?_)
                have hI := ci_put (f := 2) (a := (hv_n (hv_si vL 106 (fa 2) (g4 + 1)))) (x := x3) rfl hI
                have hS := hI.1
                refine lv_aload hx hb dX1_send_105 (lv_at hl 0 rfl) ?_
                refine lv_iload_n hx hb dX1_send_107 rfl (lv_at hl 2 rfl) ?_
                refine hv_puti (ci := 0) (C := RX0) (T := TX0) (N := 8) hx hb hts (tw_cs in_X0) tyX0 tyX0_ok nmX0 hown hK hT hka (by decide) rfl 3 (by decide) (hts _ (tw_c tw_154)) rfl rfl (x := (nI f0)) rfl rfl dX1_send_108 (fun H locs hT => ?_)
                have hI := ci_put34 (a := (hv_n (hv_si vL 106 (fa 2) (g4 + 1)))) (Or.inl rfl) hf0 hI
                have hS := hI.1
                refine lv_aload hx hb dX1_send_111 (lv_at hl 0 rfl) ?_
                refine lv_iload hx hb dX1_send_113 (lv_at hl 7 rfl) ?_
                refine hv_puti (ci := 0) (C := RX0) (T := TX0) (N := 8) hx hb hts (tw_cs in_X0) tyX0 tyX0_ok nmX0 hown hK hT hka (by decide) rfl 4 (by decide) (hts _ (tw_c tw_156)) rfl rfl (x := (nI i)) rfl rfl dX1_send_115 (fun H locs hT => ?_)
                have hI := ci_put34 (a := (hv_n (hv_si vL 106 (fa 2) (g4 + 1)))) (Or.inr rfl) hin hI
                have hS := hI.1
                refine lv_aload hx hb dX1_send_118 (lv_at hl 0 rfl) ?_
                refine lv_iload hx hb dX1_send_120 (lv_at hl 5 rfl) ?_
                refine hv_puti (ci := 0) (C := RX0) (T := TX0) (N := 8) hx hb hts (tw_cs in_X0) tyX0 tyX0_ok nmX0 hown hK hT hka (by decide) rfl 5 (by decide) (hts _ (tw_c tw_158)) rfl rfl (x := x4) rfl rfl dX1_send_122 (fun H locs hT => ?_)
                have hI := ci_put (f := 5) (a := (hv_n (hv_si vL 106 (fa 2) (g4 + 1)))) (x := x4) rfl hI
                have hS := hI.1
                refine lv_aload hx hb dX1_send_125 (lv_at hl 0 rfl) ?_
                refine lv_iload hx hb dX1_send_127 (lv_at hl 6 rfl) ?_
                refine hv_puti (ci := 0) (C := RX0) (T := TX0) (N := 8) hx hb hts (tw_cs in_X0) tyX0 tyX0_ok nmX0 hown hK hT hka (by decide) rfl 6 (by decide) (hts _ (tw_c tw_160)) rfl rfl (x := x5) rfl rfl dX1_send_129 (fun H locs hT => ?_)
                have hI := ci_put (f := 6) (a := (hv_n (hv_si vL 106 (fa 2) (g4 + 1)))) (x := x5) rfl hI
                have hS := hI.1
                refine lv_aload_n hx hb dX1_send_132 rfl (lv_at hl 1 rfl) ?_
                refine lv_aload hx hb dX1_send_133 (lv_at hl 0 rfl) ?_
                refine hv_callv (va_runV (As := [.ref (hv_n (hv_si vL 106 (fa 2) (g4 + 1)))]) (rest := []) ⟨hx, hb, hml, hown, hts⟩ (c_putOn l D tc hI) (cwV 1 hts (tw_V tw_163 tw_164 tw_165 tw_2 tw_166) rfl rfl rfl (by decide +kernel) ⟨Nat.le_of_ble_eq_true rfl, Nat.le_of_ble_eq_true rfl⟩) (hv_preV (ci := 1) hK hT.1 (cs_kN hS) (by decide) rfl rfl) rfl rfl hl.1 rfl (lv_room (Nat.le_of_ble_eq_true rfl)) dX1_send_135 ⟨by show i + 0 + 1 + 0 + 0 ≤ 8; omega, by show 8 * i + 0 + 8 + 0 + 0 ≤ 64; omega⟩) hT (fun v10 H locs hp11 hT => ?_)
                have hI := hp11
                have hS := hI.1
                refine lv_iinc (v := (nI (i + 1))) (lv' := [(6, _), (7, _), (0, _), (1, _), (2, _), (3, _), (4, _), (5, _)]) hx hb dX1_send_138 hl (k := 7) rfl (nI_1 _) (by decide) rfl (fun ls hl => ?_)
                refine lv_goto (tgt := 3) hx hb dX1_send_141 (by decide) ?_
                refine W.widen (k := i + 1) (n := 8 * (i + 1)) (by omega) (by omega) ?_
                exact ih3 (i + 1) _ v10 H locs ls (by omega) (by omega) hI hT (lv_sub hl [2, 3, 4, 5, 6, 7, 0] rfl)
              | some z =>
                skip
                obtain ⟨hzk, hyk⟩ := ci_spareI (z := z) hI hsp
                refine lv_aload_n hx hb dX1_send_67 rfl (lv_at hl 0 rfl) ?_
                refine hv_gets (ci := 1) (C := RX1) (T := TX1) (N := 9) hx hb hts (tw_cs in_X1) hown hK hT (cs_kN hS) (by decide) rfl 3 (by decide) (hts _ (tw_c tw_30)) rfl (x := z) hsp dX1_send_68 ?_
                refine lv_astore (lv' := [(7, _), (0, _), (1, _), (2, _), (3, _), (4, _), (5, _), (6, _)]) hx hb dX1_send_71 hl (by decide) rfl (fun ls hl => ?_)
                refine lv_aload hx hb dX1_send_73 (lv_at hl 0 rfl) ?_
                refine lv_ifnonnull (tgt := 90) hx hb dX1_send_75 (by decide) ?_
                refine lv_aload_n hx hb dX1_send_90 rfl (lv_at hl 1 rfl) ?_
                refine lv_aload hx hb dX1_send_91 (lv_at hl 0 rfl) ?_
                refine hv_getr (ci := 0) (C := RX0) (T := TX0) (N := 8) hx hb hts (tw_cs in_X0) hown hK hT hzk (by decide) rfl 7 (by decide) (hts _ (tw_c tw_162)) rfl (x := (hv_p (hv_si vL 106 (fa 2) (g4 + 1)) 7 z)) rfl dX1_send_93 ?_
                refine hv_putr (ci := 1) (C := RX1) (T := TX1) (N := 9) hx hb hts (tw_cs in_X1) tyX1 tyX1_ok nmX1 hown hK hT (cs_kN hS) (by decide) rfl 3 (by decide) (hts _ (tw_c tw_30)) rfl rfl (hv_p (hv_si vL 106 (fa 2) (g4 + 1)) 7 z) rfl (hv_nrf _) (hv_frf _) dX1_send_96 (fun H locs hT => ?_)
                have hI := ci_popI hI hsp
                have hS := hI.1
                refine lv_aload hx hb dX1_send_99 (lv_at hl 0 rfl) ?_
                refine lv_iload_n hx hb dX1_send_101 rfl (lv_at hl 4 rfl) ?_
                refine hv_puti (ci := 0) (C := RX0) (T := TX0) (N := 8) hx hb hts (tw_cs in_X0) tyX0 tyX0_ok nmX0 hown hK hT hzk (by decide) rfl 2 (by decide) (hts _ (tw_c tw_152)) rfl rfl (x := x3) rfl rfl dX1_send_102 (fun H locs hT => ?_)
                have hI := ci_put (f := 2) (a := z) (x := x3) rfl hI
                have hS := hI.1
                refine lv_aload hx hb dX1_send_105 (lv_at hl 0 rfl) ?_
                refine lv_iload_n hx hb dX1_send_107 rfl (lv_at hl 2 rfl) ?_
                refine hv_puti (ci := 0) (C := RX0) (T := TX0) (N := 8) hx hb hts (tw_cs in_X0) tyX0 tyX0_ok nmX0 hown hK hT hzk (by decide) rfl 3 (by decide) (hts _ (tw_c tw_154)) rfl rfl (x := (nI f0)) rfl rfl dX1_send_108 (fun H locs hT => ?_)
                have hI := ci_put34 (a := z) (Or.inl rfl) hf0 hI
                have hS := hI.1
                refine lv_aload hx hb dX1_send_111 (lv_at hl 0 rfl) ?_
                refine lv_iload hx hb dX1_send_113 (lv_at hl 7 rfl) ?_
                refine hv_puti (ci := 0) (C := RX0) (T := TX0) (N := 8) hx hb hts (tw_cs in_X0) tyX0 tyX0_ok nmX0 hown hK hT hzk (by decide) rfl 4 (by decide) (hts _ (tw_c tw_156)) rfl rfl (x := (nI i)) rfl rfl dX1_send_115 (fun H locs hT => ?_)
                have hI := ci_put34 (a := z) (Or.inr rfl) hin hI
                have hS := hI.1
                refine lv_aload hx hb dX1_send_118 (lv_at hl 0 rfl) ?_
                refine lv_iload hx hb dX1_send_120 (lv_at hl 5 rfl) ?_
                refine hv_puti (ci := 0) (C := RX0) (T := TX0) (N := 8) hx hb hts (tw_cs in_X0) tyX0 tyX0_ok nmX0 hown hK hT hzk (by decide) rfl 5 (by decide) (hts _ (tw_c tw_158)) rfl rfl (x := x4) rfl rfl dX1_send_122 (fun H locs hT => ?_)
                have hI := ci_put (f := 5) (a := z) (x := x4) rfl hI
                have hS := hI.1
                refine lv_aload hx hb dX1_send_125 (lv_at hl 0 rfl) ?_
                refine lv_iload hx hb dX1_send_127 (lv_at hl 6 rfl) ?_
                refine hv_puti (ci := 0) (C := RX0) (T := TX0) (N := 8) hx hb hts (tw_cs in_X0) tyX0 tyX0_ok nmX0 hown hK hT hzk (by decide) rfl 6 (by decide) (hts _ (tw_c tw_160)) rfl rfl (x := x5) rfl rfl dX1_send_129 (fun H locs hT => ?_)
                have hI := ci_put (f := 6) (a := z) (x := x5) rfl hI
                have hS := hI.1
                refine lv_aload_n hx hb dX1_send_132 rfl (lv_at hl 1 rfl) ?_
                refine lv_aload hx hb dX1_send_133 (lv_at hl 0 rfl) ?_
                refine hv_callv (va_runV (As := [.ref z]) (rest := []) ⟨hx, hb, hml, hown, hts⟩ (c_putOn l D tc hI) (cwV 1 hts (tw_V tw_163 tw_164 tw_165 tw_2 tw_166) rfl rfl rfl (by decide +kernel) ⟨Nat.le_of_ble_eq_true rfl, Nat.le_of_ble_eq_true rfl⟩) (hv_preV (ci := 1) hK hT.1 (cs_kN hS) (by decide) rfl rfl) rfl rfl hl.1 rfl (lv_room (Nat.le_of_ble_eq_true rfl)) dX1_send_135 ⟨by show i + 0 + 0 ≤ 8; omega, by show 8 * i + 0 + 0 ≤ 64; omega⟩) hT (fun v12 H locs hp13 hT => ?_)
                have hI := hp13
                have hS := hI.1
                refine lv_iinc (v := (nI (i + 1))) (lv' := [(6, _), (7, _), (0, _), (1, _), (2, _), (3, _), (4, _), (5, _)]) hx hb dX1_send_138 hl (k := 7) rfl (nI_1 _) (by decide) rfl (fun ls hl => ?_)
                refine lv_goto (tgt := 3) hx hb dX1_send_141 (by decide) ?_
                refine W.widen (k := i + 1) (n := 8 * (i + 1)) (by omega) (by omega) ?_
                exact ih3 (i + 1) _ v12 H locs ls (by omega) (by omega) hI hT (lv_sub hl [2, 3, 4, 5, 6, 7, 0] rfl)
            · skip
              refine lv_aload_n hx hb dX1_send_54 rfl (lv_at hl 0 rfl) ?_
              refine lv_dup hx hb dX1_send_55 rfl ?_
              refine hv_geti (ci := 1) (C := RX1) (T := TX1) (N := 9) hx hb hts (tw_cs in_X1) hown hK hT (cs_kN hS) (by decide) rfl 7 (by decide) (hts _ (tw_c tw_36)) rfl dX1_send_56 ?_
              refine lv_topi (fun g14 eg14 => ?_)
              refine lv_iconst (v := 1) hx hb dX1_send_59 (by decide) ?_
              refine lv_iadd hx hb dX1_send_60 ?_
              refine hv_puti (ci := 1) (C := RX1) (T := TX1) (N := 9) hx hb hts (tw_cs in_X1) tyX1 tyX1_ok nmX1 hown hK hT (cs_kN hS) (by decide) rfl 7 (by decide) (hts _ (tw_c tw_36)) rfl rfl (x := (g14 + 1)) rfl rfl dX1_send_61 (fun H locs hT => ?_)
              have hI := ci_put (f := 107) (a := (fa 2)) (x := (g14 + 1)) rfl hI
              have hS := hI.1
              refine lv_goto (tgt := 138) hx hb dX1_send_64 (by decide) ?_
              refine lv_iinc (v := (nI (i + 1))) (lv' := [(6, _), (0, _), (1, _), (2, _), (3, _), (4, _), (5, _)]) hx hb dX1_send_138 hl (k := 6) rfl (nI_1 _) (by decide) rfl (fun ls hl => ?_)
              refine lv_goto (tgt := 3) hx hb dX1_send_141 (by decide) ?_
              refine W.widen (k := i + 1) (n := 8 * (i + 1)) (by omega) (by omega) ?_
              exact ih3 (i + 1) _ (hv_si (hv_si vL 106 (fa 2) (g4 + 1)) 107 (fa 2) (g14 + 1)) H locs ls (by omega) (by omega) hI hT (lv_sub hl [1, 2, 3, 4, 5, 6, 0] rfl)
        · skip
          refine lv_goto (tgt := 138) hx hb dX1_send_19 (by decide) ?_
          refine lv_iinc (v := (nI (i + 1))) (lv' := [(6, _), (0, _), (1, _), (2, _), (3, _), (4, _), (5, _)]) hx hb dX1_send_138 hl (k := 6) rfl (nI_1 _) (by decide) rfl (fun ls hl => ?_)
          refine lv_goto (tgt := 3) hx hb dX1_send_141 (by decide) ?_
          refine W.widen (k := i + 1) (n := 8 * (i + 1)) (by omega) (by omega) ?_
          exact ih3 (i + 1) _ vL H locs ls (by omega) (by omega) hI hT (lv_sub hl [1, 2, 3, 4, 5, 6, 0] rfl)
  exact hL3 9 0 k v H locs ls (by omega) (by omega) hI hT (lv_sub hl [1, 2, 3, 4, 5, 6, 0] rfl)
