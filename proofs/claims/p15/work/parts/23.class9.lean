set_option maxHeartbeats 4000000 in
set_option maxRecDepth 100000 in
theorem c_part (l : Launch) (D : va_G) (tc : Nat → ClassId) {fa : Nat → Nat} {n : Nat} {w u : Nat → Nat} {b : Nat} {d : Nat → Nat → Nat} {g : Nat × Nat} {k : Nat} {v : hv_V} (hI : ci_I fa n w u b d g k [] v) (x y : Int32) : Met l yX3_part (Cond.code yX3_part cX3_part 7 (some .int) :: lw_B) ({ frames := 1, cells := 0, slots := 0, locals := 21 }) (va_Pc [.ref (fa 0), .int x, .int y] (hv_Pre D tc v)) (va_Qi (fun (r : Int32) (v1 : hv_V) => ∃ u1 b1 d1 k1, ci_I fa n w u1 b1 d1 g k1 [] v1) (hv_Post D tc (hv_A v)) (hv_A v)) (0) (0) (hv_A v) := by
  refine hv_meti l (by decide) (Nat.le_of_ble_eq_true rfl) ?_
  intro p e s m args below meth c Q X hret hK hz H locs ls hT hl
  obtain ⟨hx, hb, hml, hts, hown, hin0⟩ := X
  have hown : s.vm.findClass "CommitSites" = some m.cls := hown
  have hl : lv_has ls 7 [(0, .ref (fa 0)), (1, .int x), (2, .int y)] := hl
  have hS := hI.1
  have hn := hI.2.1.1
  refine lv_iload_n hx hb dX3_part_0 rfl (lv_at hl 2 rfl) ?_
  refine lv_iconst (v := 1) hx hb dX3_part_1 (by decide) ?_
  refine lv_icmp_lt (tgt := 11) hx hb dX3_part_2 (by decide) (fun c2 => ?_) (fun c2 => ?_)
  · skip
    refine lv_iconst (v := (-1)) hx hb dX3_part_11 (by decide) ?_
    exact hret _ (-1) v _ _ _ _ _ dX3_part_12 rfl hT ⟨_, _, _, _, hI⟩ (by decide) (by decide)
  · skip
    refine lv_iload_n hx hb dX3_part_5 rfl (lv_at hl 2 rfl) ?_
    refine lv_bipush (v := 20) hx hb dX3_part_6 (by decide) ?_
    refine lv_icmp_le (tgt := 13) hx hb dX3_part_8 (by decide) (fun c8 => ?_) (fun c8 => ?_)
    · skip
      obtain ⟨q, hq1, hq9, rfl⟩ := is_rng (x := y) (a := 1) (m := 20) (by decide) c2 (Int32.not_lt.mpr c8) (by decide)
      refine lv_iconst (v := 0) hx hb dX3_part_13 (by decide) ?_
      refine lv_istore_n (lv' := [(3, _), (0, _), (1, _), (2, _)]) hx hb dX3_part_14 rfl hl (by decide) rfl (fun ls hl => ?_)
      refine lv_iconst (v := 0) hx hb dX3_part_15 (by decide) ?_
      refine hv_as (x := 0) (y := (nI 0)) nI_0.symm ?_
      refine lv_istore (lv' := [(4, _), (3, _), (0, _), (1, _), (2, _)]) hx hb dX3_part_16 hl (by decide) rfl (fun ls hl => ?_)
      have hL18 : ∀ (N9 : Nat) (i : Nat) (x3 : Int32) (dL : Nat → Nat → Nat) (vL : hv_V) (H : Heap) (locs : List Loc) (ls : Array Slot), i ≤ n → n < i + N9 → ci_I fa n w u b dL g k [] vL → hv_St (hv_A v) s D tc vL H locs → lv_has ls 7 [(0, .ref (fa 0)), (1, .int x), (2, .int (nI q)), (3, .int x3), (4, .int (nI i))] → W p l e ({ frames := 1, cells := 0, slots := 0, locals := 21 } : Room) s m args below meth c H locs (0) (0) Q (F0 m 18 ls []) := by
        intro N9
        induction N9 with
        | zero =>
          intro i x3 dL vL H locs ls hle hN hI hT hl
          exfalso
          omega
        | succ N9 ih18 =>
          intro i x3 dL vL H locs ls hle hN hI hT hl
          have hS := hI.1
          refine lv_iload hx hb dX3_part_18 (lv_at hl 4 rfl) ?_
          refine lv_aload_n hx hb dX3_part_20 rfl (lv_at hl 0 rfl) ?_
          refine hv_geti (ci := 3) (C := RX3) (T := TX3) (N := 12) hx hb hts (tw_cs in_X3) hown hK hT (cs_kX hS) (by decide) rfl 3 (by decide) (hts _ (tw_c tw_50)) rfl dX3_part_21 ?_
          refine lv_topi (fun g1 eg1 => ?_)
          refine lv_icmp_ge (tgt := 106) hx hb dX3_part_24 (by decide) (fun c24 => ?_) (fun c24 => ?_)
          · skip
            refine lv_iload_n hx hb dX3_part_106 rfl (lv_at hl 3 rfl) ?_
            exact hret _ x3 vL _ _ _ _ _ dX3_part_107 rfl hT ⟨_, _, _, _, hI⟩ (by decide) (by decide)
          · skip
            have hlti : i < n := cs_lp hle (cs_n8 hS) (by rw [← hI.2.1.1, ← eg1]; exact c24)
            refine lv_iconst (v := 0) hx hb dX3_part_27 (by decide) ?_
            refine hv_as (x := 0) (y := (nI 0)) nI_0.symm ?_
            refine lv_istore (lv' := [(5, _), (0, _), (1, _), (2, _), (3, _), (4, _)]) hx hb dX3_part_28 hl (by decide) rfl (fun ls hl => ?_)
            have hL30 : ∀ (N9 : Nat) (j : Nat) (x3b : Int32) (dM : Nat → Nat → Nat) (vM : hv_V) (H : Heap) (locs : List Loc) (ls : Array Slot), j ≤ n → n < j + N9 → ci_I fa n w u b dM g k [] vM → hv_St (hv_A v) s D tc vM H locs → lv_has ls 7 [(0, .ref (fa 0)), (1, .int x), (2, .int (nI q)), (3, .int x3b), (4, .int (nI i)), (5, .int (nI j))] → W p l e ({ frames := 1, cells := 0, slots := 0, locals := 21 } : Room) s m args below meth c H locs (0) (0) Q (F0 m 30 ls []) := by
              intro N9
              induction N9 with
              | zero =>
                intro j x3b dM vM H locs ls hle2 hN2 hI hT hl
                exfalso
                omega
              | succ N9 ih30 =>
                intro j x3b dM vM H locs ls hle2 hN2 hI hT hl
                have hS := hI.1
                refine lv_iload hx hb dX3_part_30 (lv_at hl 5 rfl) ?_
                refine lv_aload_n hx hb dX3_part_32 rfl (lv_at hl 0 rfl) ?_
                refine hv_geti (ci := 3) (C := RX3) (T := TX3) (N := 12) hx hb hts (tw_cs in_X3) hown hK hT (cs_kX hS) (by decide) rfl 3 (by decide) (hts _ (tw_c tw_50)) rfl dX3_part_33 ?_
                refine lv_topi (fun g2 eg2 => ?_)
                refine lv_icmp_ge (tgt := 100) hx hb dX3_part_36 (by decide) (fun c36 => ?_) (fun c36 => ?_)
                · skip
                  refine lv_iinc (v := (nI (i + 1))) (lv' := [(4, _), (0, _), (1, _), (2, _), (3, _), (5, _)]) hx hb dX3_part_100 hl (k := 4) rfl (nI_1 _) (by decide) rfl (fun ls hl => ?_)
                  refine lv_goto (tgt := 18) hx hb dX3_part_103 (by decide) ?_
                  exact ih18 (i + 1) x3b _ vM H locs ls (by omega) (by omega) hI hT (lv_sub hl [1, 2, 3, 4, 0] rfl)
                · skip
                  have hltj : j < n := cs_lp hle2 (cs_n8 hS) (by rw [← hI.2.1.1, ← eg2]; exact c36)
                  refine lv_iload hx hb dX3_part_39 (lv_at hl 4 rfl) ?_
                  refine lv_iload hx hb dX3_part_41 (lv_at hl 5 rfl) ?_
                  refine lv_icmp_eq (tgt := 94) hx hb dX3_part_43 (by decide) (fun c43 => ?_) (fun c43 => ?_)
                  · skip
                    refine lv_iinc (v := (nI (j + 1))) (lv' := [(5, _), (0, _), (1, _), (2, _), (3, _), (4, _)]) hx hb dX3_part_94 hl (k := 5) rfl (nI_1 _) (by decide) rfl (fun ls hl => ?_)
                    refine lv_goto (tgt := 30) hx hb dX3_part_97 (by decide) ?_
                    exact ih30 (j + 1) x3b _ vM H locs ls (by omega) (by omega) hI hT (lv_sub hl [1, 2, 3, 4, 5, 0] rfl)
                  · skip
                    refine lv_iload_n hx hb dX3_part_46 rfl (lv_at hl 1 rfl) ?_
                    refine lv_iload hx hb dX3_part_47 (lv_at hl 4 rfl) ?_
                    refine hv_calli (va_runS (As := [.int x, .int (nI i)]) (rest := []) ⟨hx, hb, hml, hown, hts⟩ (c_hasBit l D tc x (nI i)) (va_cwS 2 hts (tw_S tw_110 tw_111 tw_1 tw_112) rfl rfl rfl (by decide +kernel) ⟨Nat.le_of_ble_eq_true rfl, Nat.le_of_ble_eq_true rfl⟩) (hv_preS hK hT.1) rfl rfl hl.1 rfl (lv_room (Nat.le_of_ble_eq_true rfl)) dX3_part_49 ⟨Nat.le_of_ble_eq_true rfl, Nat.le_of_ble_eq_true rfl⟩) hT (fun r5 v3 H locs hp4 hT => ?_)
                    obtain ⟨evhp4, qhp4⟩ := hp4
                    rw [evhp4] at hT
                    refine lv_iload_n hx hb dX3_part_52 rfl (lv_at hl 1 rfl) ?_
                    refine lv_iload hx hb dX3_part_53 (lv_at hl 5 rfl) ?_
                    refine hv_calli (va_runS (As := [.int x, .int (nI j)]) (rest := [.int r5]) ⟨hx, hb, hml, hown, hts⟩ (c_hasBit l D tc x (nI j)) (va_cwS 2 hts (tw_S tw_110 tw_111 tw_1 tw_112) rfl rfl rfl (by decide +kernel) ⟨Nat.le_of_ble_eq_true rfl, Nat.le_of_ble_eq_true rfl⟩) (hv_preS hK hT.1) rfl rfl hl.1 rfl (lv_room (Nat.le_of_ble_eq_true rfl)) dX3_part_55 ⟨Nat.le_of_ble_eq_true rfl, Nat.le_of_ble_eq_true rfl⟩) hT (fun r8 v6 H locs hp7 hT => ?_)
                    obtain ⟨evhp7, qhp7⟩ := hp7
                    rw [evhp7] at hT
                    refine lv_icmp_ne (tgt := 65) hx hb dX3_part_58 (by decide) (fun c58 => ?_) (fun c58 => ?_)
                    · skip
                      refine lv_iconst (v := 0) hx hb dX3_part_65 (by decide) ?_
                      refine lv_istore (lv' := [(6, _), (0, _), (1, _), (2, _), (3, _), (4, _), (5, _)]) hx hb dX3_part_66 hl (by decide) rfl (fun ls hl => ?_)
                      refine lv_aload_n hx hb dX3_part_68 rfl (lv_at hl 1 rfl) ?_
                      refine hv_gets (ci := 3) (C := RX3) (T := TX3) (N := 12) hx hb hts (tw_cs in_X3) hown hK hT (cs_kX hS) (by decide) rfl 1 (by decide) (hts _ (tw_c tw_48)) rfl (x := (fa 2)) (cs_pN hS) dX3_part_69 ?_
                      refine hv_gets (ci := 1) (C := RX1) (T := TX1) (N := 9) hx hb hts (tw_cs in_X1) hown hK hT (cs_kN hS) (by decide) rfl 0 (by decide) (hts _ (tw_c tw_27)) rfl (x := (fa 4)) (cs_pD hS) dX3_part_72 ?_
                      refine lv_iload hx hb dX3_part_75 (lv_at hl 5 rfl) ?_
                      refine hv_alds (t := 2) hx hb hK hT (cs_kD hS) rfl rfl (cs_in8 (cs_lt8 hS hlti)) (x := (fa (8 + i))) (cs_qD hS (cs_lt8 hS hlti)) dX3_part_77 ?_
                      refine lv_iload hx hb dX3_part_78 (lv_at hl 6 rfl) ?_
                      refine lv_iload hx hb dX3_part_80 (lv_at hl 0 rfl) ?_
                      refine lv_if_eq (tgt := 89) hx hb dX3_part_82 (by decide) (fun c82 => ?_) (fun c82 => ?_)
                      · skip
                        refine lv_iconst (v := 0) hx hb dX3_part_89 (by decide) ?_
                        refine hv_iast (x := 0) hx hb hK hT (cs_kR hS (cs_lt8 hS hlti)) (cs_in8 (cs_lt8 hS hltj)) dX3_part_90 (fun H locs hT => ?_)
                        have hI := ci_putD (x := 0) (q := 0) rfl (by omega) (cs_lt8 hS hlti) (cs_lt8 hS hltj) hI
                        have hS := hI.1
                        obtain ⟨z9, ez9⟩ : ∃ y : Int32, y = x3b + 1 := ⟨_, rfl⟩
                        refine lv_iinc (v := z9) (lv' := [(3, _), (6, _), (0, _), (1, _), (2, _), (4, _), (5, _)]) hx hb dX3_part_91 hl (k := 4) rfl (by rw [ez9]; rfl) (by decide) rfl (fun ls hl => ?_)
                        refine lv_iinc (v := (nI (j + 1))) (lv' := [(5, _), (3, _), (6, _), (0, _), (1, _), (2, _), (4, _)]) hx hb dX3_part_94 hl (k := 6) rfl (nI_1 _) (by decide) rfl (fun ls hl => ?_)
                        refine lv_goto (tgt := 30) hx hb dX3_part_97 (by decide) ?_
                        exact ih30 (j + 1) z9 _ (hv_sa vM (fa (8 + i)) ((nI j) : Int32).toNatClampNeg 0) H locs ls (by omega) (by omega) hI hT (lv_sub hl [3, 4, 5, 1, 6, 0] rfl)
                      · skip
                        refine lv_iload_n hx hb dX3_part_85 rfl (lv_at hl 3 rfl) ?_
                        refine lv_goto (tgt := 90) hx hb dX3_part_86 (by decide) ?_
                        refine hv_iast (x := (nI q)) hx hb hK hT (cs_kR hS (cs_lt8 hS hlti)) (cs_in8 (cs_lt8 hS hltj)) dX3_part_90 (fun H locs hT => ?_)
                        have hI := ci_putD (x := nI q) (q := q) rfl hq9 (cs_lt8 hS hlti) (cs_lt8 hS hltj) hI
                        have hS := hI.1
                        obtain ⟨z10, ez10⟩ : ∃ y : Int32, y = x3b + 1 := ⟨_, rfl⟩
                        refine lv_iinc (v := z10) (lv' := [(3, _), (6, _), (0, _), (1, _), (2, _), (4, _), (5, _)]) hx hb dX3_part_91 hl (k := 4) rfl (by rw [ez10]; rfl) (by decide) rfl (fun ls hl => ?_)
                        refine lv_iinc (v := (nI (j + 1))) (lv' := [(5, _), (3, _), (6, _), (0, _), (1, _), (2, _), (4, _)]) hx hb dX3_part_94 hl (k := 6) rfl (nI_1 _) (by decide) rfl (fun ls hl => ?_)
                        refine lv_goto (tgt := 30) hx hb dX3_part_97 (by decide) ?_
                        exact ih30 (j + 1) z10 _ (hv_sa vM (fa (8 + i)) ((nI j) : Int32).toNatClampNeg (nI q)) H locs ls (by omega) (by omega) hI hT (lv_sub hl [3, 4, 5, 1, 6, 0] rfl)
                    · skip
                      refine lv_iconst (v := 1) hx hb dX3_part_61 (by decide) ?_
                      refine lv_goto (tgt := 66) hx hb dX3_part_62 (by decide) ?_
                      refine lv_istore (lv' := [(6, _), (0, _), (1, _), (2, _), (3, _), (4, _), (5, _)]) hx hb dX3_part_66 hl (by decide) rfl (fun ls hl => ?_)
                      refine lv_aload_n hx hb dX3_part_68 rfl (lv_at hl 1 rfl) ?_
                      refine hv_gets (ci := 3) (C := RX3) (T := TX3) (N := 12) hx hb hts (tw_cs in_X3) hown hK hT (cs_kX hS) (by decide) rfl 1 (by decide) (hts _ (tw_c tw_48)) rfl (x := (fa 2)) (cs_pN hS) dX3_part_69 ?_
                      refine hv_gets (ci := 1) (C := RX1) (T := TX1) (N := 9) hx hb hts (tw_cs in_X1) hown hK hT (cs_kN hS) (by decide) rfl 0 (by decide) (hts _ (tw_c tw_27)) rfl (x := (fa 4)) (cs_pD hS) dX3_part_72 ?_
                      refine lv_iload hx hb dX3_part_75 (lv_at hl 5 rfl) ?_
                      refine hv_alds (t := 2) hx hb hK hT (cs_kD hS) rfl rfl (cs_in8 (cs_lt8 hS hlti)) (x := (fa (8 + i))) (cs_qD hS (cs_lt8 hS hlti)) dX3_part_77 ?_
                      refine lv_iload hx hb dX3_part_78 (lv_at hl 6 rfl) ?_
                      refine lv_iload hx hb dX3_part_80 (lv_at hl 0 rfl) ?_
                      refine lv_if_eq (tgt := 89) hx hb dX3_part_82 (by decide) (fun c82 => ?_) (fun c82 => ?_)
                      · skip
                        refine lv_iconst (v := 0) hx hb dX3_part_89 (by decide) ?_
                        refine hv_iast (x := 0) hx hb hK hT (cs_kR hS (cs_lt8 hS hlti)) (cs_in8 (cs_lt8 hS hltj)) dX3_part_90 (fun H locs hT => ?_)
                        have hI := ci_putD (x := 0) (q := 0) rfl (by omega) (cs_lt8 hS hlti) (cs_lt8 hS hltj) hI
                        have hS := hI.1
                        obtain ⟨z11, ez11⟩ : ∃ y : Int32, y = x3b + 1 := ⟨_, rfl⟩
                        refine lv_iinc (v := z11) (lv' := [(3, _), (6, _), (0, _), (1, _), (2, _), (4, _), (5, _)]) hx hb dX3_part_91 hl (k := 4) rfl (by rw [ez11]; rfl) (by decide) rfl (fun ls hl => ?_)
                        refine lv_iinc (v := (nI (j + 1))) (lv' := [(5, _), (3, _), (6, _), (0, _), (1, _), (2, _), (4, _)]) hx hb dX3_part_94 hl (k := 6) rfl (nI_1 _) (by decide) rfl (fun ls hl => ?_)
                        refine lv_goto (tgt := 30) hx hb dX3_part_97 (by decide) ?_
                        exact ih30 (j + 1) z11 _ (hv_sa vM (fa (8 + i)) ((nI j) : Int32).toNatClampNeg 0) H locs ls (by omega) (by omega) hI hT (lv_sub hl [3, 4, 5, 1, 6, 0] rfl)
                      · skip
                        refine lv_iload_n hx hb dX3_part_85 rfl (lv_at hl 3 rfl) ?_
                        refine lv_goto (tgt := 90) hx hb dX3_part_86 (by decide) ?_
                        refine hv_iast (x := (nI q)) hx hb hK hT (cs_kR hS (cs_lt8 hS hlti)) (cs_in8 (cs_lt8 hS hltj)) dX3_part_90 (fun H locs hT => ?_)
                        have hI := ci_putD (x := nI q) (q := q) rfl hq9 (cs_lt8 hS hlti) (cs_lt8 hS hltj) hI
                        have hS := hI.1
                        obtain ⟨z12, ez12⟩ : ∃ y : Int32, y = x3b + 1 := ⟨_, rfl⟩
                        refine lv_iinc (v := z12) (lv' := [(3, _), (6, _), (0, _), (1, _), (2, _), (4, _), (5, _)]) hx hb dX3_part_91 hl (k := 4) rfl (by rw [ez12]; rfl) (by decide) rfl (fun ls hl => ?_)
                        refine lv_iinc (v := (nI (j + 1))) (lv' := [(5, _), (3, _), (6, _), (0, _), (1, _), (2, _), (4, _)]) hx hb dX3_part_94 hl (k := 6) rfl (nI_1 _) (by decide) rfl (fun ls hl => ?_)
                        refine lv_goto (tgt := 30) hx hb dX3_part_97 (by decide) ?_
                        exact ih30 (j + 1) z12 _ (hv_sa vM (fa (8 + i)) ((nI j) : Int32).toNatClampNeg (nI q)) H locs ls (by omega) (by omega) hI hT (lv_sub hl [3, 4, 5, 1, 6, 0] rfl)
            exact hL30 (n + 1) 0 x3 dL vL H locs ls (by omega) (by omega) hI hT (lv_sub hl [1, 2, 3, 4, 5, 0] rfl)
      exact hL18 (n + 1) 0 0 d v H locs ls (by omega) (by omega) hI hT (lv_sub hl [2, 3, 4, 1, 0] rfl)
    · skip
      refine lv_iconst (v := (-1)) hx hb dX3_part_11 (by decide) ?_
      exact hret _ (-1) v _ _ _ _ _ dX3_part_12 rfl hT ⟨_, _, _, _, hI⟩ (by decide) (by decide)

set_option maxHeartbeats 4000000 in
set_option maxRecDepth 100000 in
theorem c_siteInit (l : Launch) (D : va_G) (tc : Nat → ClassId) {v : hv_V} {a : Nat} (x : Int32) (ha : hv_k v a = (3, 0)) : Met l yX2_init (Cond.code yX2_init cX2_init 2 none :: lw_B) ({ frames := 1, cells := 1, slots := 8, locals := 20 }) (va_Pc [.ref a, .int x] (hv_Pre D tc v)) (va_Qv (fun (v1 : hv_V) => v1 = (hv_si (hv_si (hv_si (hv_si (hv_si (hv_si (hv_si (hv_si (hv_si (hv_sp (hv_nw v (100 + 0, 8) 8) 201 a (some (hv_n v))) 200 a x) 202 a 0) 203 a 1) 204 a 0) 205 a 0) 206 a 0) 207 a 0) 208 a (-1)) 209 a 0)) (hv_Post D tc (hv_A v)) (hv_A v)) (1) (8) (hv_A v) := by
  refine hv_metv l (by decide) (Nat.le_of_ble_eq_true rfl) ?_
  intro p e s m args below meth c Q X hret hK hz H locs ls hT hl
  obtain ⟨hx, hb, hml, hts, hown, hin0⟩ := X
  have hown : s.vm.findClass "CommitSites$Site" = some m.cls := hown
  have hl : lv_has ls 2 [(0, .ref a), (1, .int x)] := hl
  have hT0 := hT.1
  refine lv_aload_n hx hb dX2_init_0 rfl (lv_at hl 0 rfl) ?_
  refine W.objInit hx hb hown (hts _ (tw_c tw_67)) (hts _ (tw_c tw_12)) (hts _ (tw_c tw_13)) rfl (by rw [hml]; exact hl.1) rfl dX2_init_1 (Nat.le_of_ble_eq_true rfl) (Nat.le_of_ble_eq_true rfl) ?_
  refine W.eq (g2 := F0 m 4 ls []) rfl ?_
  refine lv_aload_n hx hb dX2_init_4 rfl (lv_at hl 0 rfl) ?_
  refine lv_bipush (v := 8) hx hb dX2_init_5 (by decide) ?_
  refine hv_newa (atype := .int) (t := 0) (N := 8) hx hb (by decide) (ty := .int) rfl rfl (Or.inl rfl) (hts _ (tw_c tw_40)) hK hT (by decide) (by decide) (by decide) (by show 0 + 1 ≤ 1; omega) (by show 0 + 8 ≤ 8; omega) dX2_init_7 (fun H hT => ?_)
  have ha : hv_k (hv_nw v (100 + 0, 8) 8) a = (3, 0) := by rw [hv_nw_k, if_neg (hv_ne hT0 a (by rw [ha]; decide))]; exact ha
  refine hv_putrF (ci := 2) (C := RX2) (T := TX2) (N := 10) hx hb hts (tw_cs in_X2) tyX2 tyX2_ok nmX2 hown hK hT ha (by decide) rfl 1 (by decide) (hts _ (tw_c tw_74)) rfl rfl hin0 rfl (some (hv_n v)) rfl rfl rfl dX2_init_9 (fun H locs hT => ?_)
  refine lv_aload_n hx hb dX2_init_12 rfl (lv_at hl 0 rfl) ?_
  refine lv_iload_n hx hb dX2_init_13 rfl (lv_at hl 1 rfl) ?_
  refine hv_putiF (ci := 2) (C := RX2) (T := TX2) (N := 10) hx hb hts (tw_cs in_X2) tyX2 tyX2_ok nmX2 hown hK hT ha (by decide) rfl 0 (by decide) (hts _ (tw_c tw_72)) rfl rfl hin0 rfl (x := x) rfl rfl dX2_init_14 (fun H locs hT => ?_)
  refine lv_aload_n hx hb dX2_init_17 rfl (lv_at hl 0 rfl) ?_
  refine hv_callv (va_runV (As := []) (rest := []) ⟨hx, hb, hml, hown, hts⟩ (c_siteAnew l D tc (v := (hv_si (hv_sp (hv_nw v (100 + 0, 8) 8) 201 a (some (hv_n v))) 200 a x)) ha) (cwV 0 hts (tw_V tw_68 tw_69 tw_70 tw_4 tw_71) rfl rfl rfl (by decide +kernel) ⟨Nat.le_of_ble_eq_true rfl, Nat.le_of_ble_eq_true rfl⟩) (hv_preV (ci := 2) hK hT.1 ha (by decide) rfl rfl) rfl rfl hl.1 rfl (lv_room (Nat.le_of_ble_eq_true rfl)) dX2_init_18 ⟨by show 0 + 1 + 0 ≤ 1; omega, by show 0 + 8 + 0 ≤ 8; omega⟩) hT (fun v1 H locs hp2 hT => ?_)
  rw [hp2] at hT
  exact hret _ (hv_si (hv_si (hv_si (hv_si (hv_si (hv_si (hv_si (hv_si (hv_si (hv_sp (hv_nw v (100 + 0, 8) 8) 201 a (some (hv_n v))) 200 a x) 202 a 0) 203 a 1) 204 a 0) 205 a 0) 206 a 0) 207 a 0) 208 a (-1)) 209 a 0) _ _ _ _ _ dX2_init_21 hT rfl (by show 0 + 1 + 0 ≤ 1; omega) (by show 0 + 8 + 0 ≤ 8; omega)
