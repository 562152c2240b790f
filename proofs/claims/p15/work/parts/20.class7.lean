theorem cs_lp32 {i : Nat} (hi : i ≤ 32) (h : ¬ (32 : Int32) ≤ nI i) : i < 32 := by
  rcases Nat.lt_or_ge i 32 with q | q
  · exact q
  · exact absurd (show nI 32 ≤ nI i from nI_le q (by omega)) h
theorem cs_ge32 {i : Nat} (hi : i ≤ 32) (h : (32 : Int32) ≤ nI i) : i = 32 := by
  rcases Nat.lt_or_ge i 32 with q | q
  · exact absurd (show nI 32 ≤ nI i from h) (nI_ge q (by omega))
  · omega
theorem ci_ZkT {fa : Nat → Nat} {n : Nat} {w u : Nat → Nat} {b : Nat} {d : Nat → Nat → Nat} {g : Nat × Nat} {k : Nat} {hd : List Nat} {i s z : Nat} {v : hv_V} (h : ci_Z fa n w u b d g k hd i v) (hs : s < 32) (hz : hv_q v (fa 6) s = some z) : hv_k v z = (1, 0) := by
  obtain ⟨hS, hV, ⟨Sl, Sp, hL, ho⟩, hE⟩ := h
  rw [(hL.2.2.2.2.2 s hs).2.1] at hz
  exact (hL.2.2.2.1 z (ci_L_mem hL hs (List.mem_of_getLast? hz))).1

set_option maxHeartbeats 4000000 in
set_option maxRecDepth 100000 in
theorem c_netAnew (l : Launch) (D : va_G) (tc : Nat → ClassId) {fa : Nat → Nat} {n : Nat} {w u : Nat → Nat} {b : Nat} {d : Nat → Nat → Nat} {g : Nat × Nat} {k : Nat} {hd : List Nat} {v : hv_V} (hI : ci_I fa n w u b d g k hd v) : Met l yX1_startAnew (Cond.code yX1_startAnew cX1_startAnew 2 none :: lw_B) ({ frames := 0, cells := 0, slots := 0, locals := 0 }) (va_Pc [.ref (fa 2)] (hv_Pre D tc v)) (va_Qv (fun (v1 : hv_V) => ci_I fa n w u b d g k hd v1) (hv_Post D tc (hv_A v)) (hv_A v)) (0) (0) (hv_A v) := by
  refine hv_metv l (by decide) (Nat.le_of_ble_eq_true rfl) ?_
  intro p e s m args below meth c Q X hret hK hz H locs ls hT hl
  obtain ⟨hx, hb, hml, hts, hown, hin0⟩ := X
  have hown : s.vm.findClass "CommitSites$Network" = some m.cls := hown
  have hl : lv_has ls 2 [(0, .ref (fa 2))] := hl
  refine lv_iconst (v := 0) hx hb dX1_startAnew_0 (by decide) ?_
  refine hv_as (x := 0) (y := (nI 0)) nI_0.symm ?_
  refine lv_istore_n (lv' := [(1, _), (0, _)]) hx hb dX1_startAnew_1 rfl hl (by decide) rfl (fun ls hl => ?_)
  have hL2 : ∀ (N9 : Nat) (i : Nat) (vL : hv_V) (H : Heap) (locs : List Loc) (ls : Array Slot), i ≤ 32 → 32 < i + N9 → ci_Z fa n w u b d g k hd i vL → hv_St (hv_A v) s D tc vL H locs → lv_has ls 2 [(0, .ref (fa 2)), (1, .int (nI i))] → W p l e ({ frames := 0, cells := 0, slots := 0, locals := 0 } : Room) s m args below meth c H locs (0) (0) Q (F0 m 2 ls []) := by
    intro N9
    induction N9 with
    | zero =>
      intro i vL H locs ls hle hN hZ hT hl
      exfalso
      omega
    | succ N9 ih2 =>
      intro i vL H locs ls hle hN hZ hT hl
      have hS := hZ.1
      refine lv_iload_n hx hb dX1_startAnew_2 rfl (lv_at hl 1 rfl) ?_
      refine lv_bipush (v := 32) hx hb dX1_startAnew_3 (by decide) ?_
      refine lv_icmp_ge (tgt := 60) hx hb dX1_startAnew_5 (by decide) (fun c5 => ?_) (fun c5 => ?_)
      · skip
        have h32 : i = 32 := cs_ge32 hle c5
        subst h32
        refine lv_aload_n hx hb dX1_startAnew_60 rfl (lv_at hl 0 rfl) ?_
        refine lv_iconst (v := 0) hx hb dX1_startAnew_61 (by decide) ?_
        refine hv_puti (ci := 1) (C := RX1) (T := TX1) (N := 9) hx hb hts (tw_cs in_X1) tyX1 tyX1_ok nmX1 hown hK hT (cs_kN hS) (by decide) rfl 4 (by decide) (hts _ (tw_c tw_31)) rfl rfl (x := 0) rfl rfl dX1_startAnew_62 (fun H locs hT => ?_)
        refine lv_aload_n hx hb dX1_startAnew_65 rfl (lv_at hl 0 rfl) ?_
        refine lv_iconst (v := 0) hx hb dX1_startAnew_66 (by decide) ?_
        refine hv_puti (ci := 1) (C := RX1) (T := TX1) (N := 9) hx hb hts (tw_cs in_X1) tyX1 tyX1_ok nmX1 hown hK hT (cs_kN hS) (by decide) rfl 5 (by decide) (hts _ (tw_c tw_33)) rfl rfl (x := 0) rfl rfl dX1_startAnew_67 (fun H locs hT => ?_)
        refine lv_aload_n hx hb dX1_startAnew_70 rfl (lv_at hl 0 rfl) ?_
        refine lv_iconst (v := 0) hx hb dX1_startAnew_71 (by decide) ?_
        refine hv_puti (ci := 1) (C := RX1) (T := TX1) (N := 9) hx hb hts (tw_cs in_X1) tyX1 tyX1_ok nmX1 hown hK hT (cs_kN hS) (by decide) rfl 6 (by decide) (hts _ (tw_c tw_34)) rfl rfl (x := 0) rfl rfl dX1_startAnew_72 (fun H locs hT => ?_)
        refine lv_aload_n hx hb dX1_startAnew_75 rfl (lv_at hl 0 rfl) ?_
        refine lv_iconst (v := 0) hx hb dX1_startAnew_76 (by decide) ?_
        refine hv_puti (ci := 1) (C := RX1) (T := TX1) (N := 9) hx hb hts (tw_cs in_X1) tyX1 tyX1_ok nmX1 hown hK hT (cs_kN hS) (by decide) rfl 7 (by decide) (hts _ (tw_c tw_36)) rfl rfl (x := 0) rfl rfl dX1_startAnew_77 (fun H locs hT => ?_)
        refine lv_aload_n hx hb dX1_startAnew_80 rfl (lv_at hl 0 rfl) ?_
        refine lv_iconst (v := 0) hx hb dX1_startAnew_81 (by decide) ?_
        refine hv_puti (ci := 1) (C := RX1) (T := TX1) (N := 9) hx hb hts (tw_cs in_X1) tyX1 tyX1_ok nmX1 hown hK hT (cs_kN hS) (by decide) rfl 8 (by decide) (hts _ (tw_c tw_38)) rfl rfl (x := 0) rfl rfl dX1_startAnew_82 (fun H locs hT => ?_)
        exact hret _ (hv_si (hv_si (hv_si (hv_si (hv_si vL 104 (fa 2) 0) 105 (fa 2) 0) 106 (fa 2) 0) 107 (fa 2) 0) 108 (fa 2) 0) _ _ _ _ _ dX1_startAnew_85 hT (ci_Zend hZ 0 0 0) (by decide) (by decide)
      · skip
        have hlti : i < 32 := cs_lp32 hle c5
        cases htl : hv_q vL (fa 6) i with
        | none =>
          skip
          refine lv_aload_n hx hb dX1_startAnew_8 rfl (lv_at hl 0 rfl) ?_
          refine hv_gets (ci := 1) (C := RX1) (T := TX1) (N := 9) hx hb hts (tw_cs in_X1) hown hK hT (cs_kN hS) (by decide) rfl 2 (by decide) (hts _ (tw_c tw_29)) rfl (x := (fa 6)) (cs_pT hS) dX1_startAnew_9 ?_
          refine lv_iload_n hx hb dX1_startAnew_12 rfl (lv_at hl 1 rfl) ?_
          refine hv_aldn (t := 1) hx hb hK hT (cs_kT hS) rfl rfl (cs_in32 hlti) (by rw [cs_cl32 hlti]; exact htl) dX1_startAnew_13 ?_
          refine lv_ifnullN (tgt := 40) hx hb dX1_startAnew_14 (by decide) ?_
          refine lv_aload_n hx hb dX1_startAnew_40 rfl (lv_at hl 0 rfl) ?_
          refine hv_gets (ci := 1) (C := RX1) (T := TX1) (N := 9) hx hb hts (tw_cs in_X1) hown hK hT (cs_kN hS) (by decide) rfl 1 (by decide) (hts _ (tw_c tw_28)) rfl (x := (fa 5)) (cs_pH hS) dX1_startAnew_41 ?_
          refine lv_iload_n hx hb dX1_startAnew_44 rfl (lv_at hl 1 rfl) ?_
          refine lv_null hx hb dX1_startAnew_45 ?_
          refine hv_aastN (t := 1) hx hb hK hT (cs_kH hS) rfl (cs_in32 hlti) dX1_startAnew_46 (fun H locs hT => ?_)
          have hS : cs_S fa n (hv_sq vL (fa 5) ((nI i) : Int32).toNatClampNeg none) := cs_S_sq5 hS
          refine lv_aload_n hx hb dX1_startAnew_47 rfl (lv_at hl 0 rfl) ?_
          refine hv_gets (ci := 1) (C := RX1) (T := TX1) (N := 9) hx hb hts (tw_cs in_X1) hown hK hT (cs_kN hS) (by decide) rfl 2 (by decide) (hts _ (tw_c tw_29)) rfl (x := (fa 6)) (cs_pT hS) dX1_startAnew_48 ?_
          refine lv_iload_n hx hb dX1_startAnew_51 rfl (lv_at hl 1 rfl) ?_
          refine lv_null hx hb dX1_startAnew_52 ?_
          refine hv_aastN (t := 1) hx hb hK hT (cs_kT hS) rfl (cs_in32 hlti) dX1_startAnew_53 (fun H locs hT => ?_)
          have hS : cs_S fa n (hv_sq (hv_sq vL (fa 5) ((nI i) : Int32).toNatClampNeg none) (fa 6) ((nI i) : Int32).toNatClampNeg none) := cs_S_sq6 hS
          refine lv_iinc (v := (nI (i + 1))) (lv' := [(1, _), (0, _)]) hx hb dX1_startAnew_54 hl (k := 1) rfl (nI_1 _) (by decide) rfl (fun ls hl => ?_)
          refine lv_goto (tgt := 2) hx hb dX1_startAnew_57 (by decide) ?_
          exact ih2 (i + 1) (hv_sq (hv_sq vL (fa 5) ((nI i) : Int32).toNatClampNeg none) (fa 6) ((nI i) : Int32).toNatClampNeg none) H locs ls (by omega) (by omega) (ci_Zs hZ hlti (fun _ => rfl) (fun _ _ => rfl) (fun _ _ => rfl) (fun f c h1 h2 => by simp [hv_si_i, hv_si_k, hv_si_p, hv_si_a, hv_si_q, hv_sp_i, hv_sp_k, hv_sp_p, hv_sp_a, hv_sp_q, hv_sa_i, hv_sa_k, hv_sa_p, hv_sa_a, hv_sa_q, hv_sq_i, hv_sq_k, hv_sq_p, hv_sq_a, hv_sq_q, h1, h2]) (by simp [hv_si_i, hv_si_k, hv_si_p, hv_si_a, hv_si_q, hv_sp_i, hv_sp_k, hv_sp_p, hv_sp_a, hv_sp_q, hv_sa_i, hv_sa_k, hv_sa_p, hv_sa_a, hv_sa_q, hv_sq_i, hv_sq_k, hv_sq_p, hv_sq_a, hv_sq_q, htl]) (fun c => by simp [hv_si_i, hv_si_k, hv_si_p, hv_si_a, hv_si_q, hv_sp_i, hv_sp_k, hv_sp_p, hv_sp_a, hv_sp_q, hv_sa_i, hv_sa_k, hv_sa_p, hv_sa_a, hv_sa_q, hv_sq_i, hv_sq_k, hv_sq_p, hv_sq_a, hv_sq_q, htl, eq_comm]) (fun j => by simp [hv_si_i, hv_si_k, hv_si_p, hv_si_a, hv_si_q, hv_sp_i, hv_sp_k, hv_sp_p, hv_sp_a, hv_sp_q, hv_sa_i, hv_sa_k, hv_sa_p, hv_sa_a, hv_sa_q, hv_sq_i, hv_sq_k, hv_sq_p, hv_sq_a, hv_sq_q, cs_cl32 hlti, ci_56 hZ.1]) (fun j => by simp [hv_si_i, hv_si_k, hv_si_p, hv_si_a, hv_si_q, hv_sp_i, hv_sp_k, hv_sp_p, hv_sp_a, hv_sp_q, hv_sa_i, hv_sa_k, hv_sa_p, hv_sa_a, hv_sa_q, hv_sq_i, hv_sq_k, hv_sq_p, hv_sq_a, hv_sq_q, cs_cl32 hlti, (ci_56 hZ.1).symm]) (fun c j h5 h6 => by simp [hv_si_i, hv_si_k, hv_si_p, hv_si_a, hv_si_q, hv_sp_i, hv_sp_k, hv_sp_p, hv_sp_a, hv_sp_q, hv_sa_i, hv_sa_k, hv_sa_p, hv_sa_a, hv_sa_q, hv_sq_i, hv_sq_k, hv_sq_p, hv_sq_a, hv_sq_q, h5, h6]) rfl rfl) hT (lv_sub hl [1, 0] rfl)
        | some z =>
          skip
          have hzk := ci_ZkT hZ hlti htl
          refine lv_aload_n hx hb dX1_startAnew_8 rfl (lv_at hl 0 rfl) ?_
          refine hv_gets (ci := 1) (C := RX1) (T := TX1) (N := 9) hx hb hts (tw_cs in_X1) hown hK hT (cs_kN hS) (by decide) rfl 2 (by decide) (hts _ (tw_c tw_29)) rfl (x := (fa 6)) (cs_pT hS) dX1_startAnew_9 ?_
          refine lv_iload_n hx hb dX1_startAnew_12 rfl (lv_at hl 1 rfl) ?_
          refine hv_alds (t := 1) hx hb hK hT (cs_kT hS) rfl rfl (cs_in32 hlti) (x := z) (by rw [cs_cl32 hlti]; exact htl) dX1_startAnew_13 ?_
          refine lv_ifnull hx hb dX1_startAnew_14 ?_
          refine lv_aload_n hx hb dX1_startAnew_17 rfl (lv_at hl 0 rfl) ?_
          refine hv_gets (ci := 1) (C := RX1) (T := TX1) (N := 9) hx hb hts (tw_cs in_X1) hown hK hT (cs_kN hS) (by decide) rfl 2 (by decide) (hts _ (tw_c tw_29)) rfl (x := (fa 6)) (cs_pT hS) dX1_startAnew_18 ?_
          refine lv_iload_n hx hb dX1_startAnew_21 rfl (lv_at hl 1 rfl) ?_
          refine hv_alds (t := 1) hx hb hK hT (cs_kT hS) rfl rfl (cs_in32 hlti) (x := z) (by rw [cs_cl32 hlti]; exact htl) dX1_startAnew_22 ?_
          refine lv_aload_n hx hb dX1_startAnew_23 rfl (lv_at hl 0 rfl) ?_
          refine hv_getr (ci := 1) (C := RX1) (T := TX1) (N := 9) hx hb hts (tw_cs in_X1) hown hK hT (cs_kN hS) (by decide) rfl 3 (by decide) (hts _ (tw_c tw_30)) rfl (x := (hv_p vL 103 (fa 2))) rfl dX1_startAnew_24 ?_
          refine hv_putr (ci := 0) (C := RX0) (T := TX0) (N := 8) hx hb hts (tw_cs in_X0) tyX0 tyX0_ok nmX0 hown hK hT hzk (by decide) rfl 7 (by decide) (hts _ (tw_c tw_162)) rfl rfl (hv_p vL 103 (fa 2)) rfl (hv_nrf _) (hv_frf _) dX1_startAnew_27 (fun H locs hT => ?_)
          refine lv_aload_n hx hb dX1_startAnew_30 rfl (lv_at hl 0 rfl) ?_
          refine lv_aload_n hx hb dX1_startAnew_31 rfl (lv_at hl 0 rfl) ?_
          refine hv_gets (ci := 1) (C := RX1) (T := TX1) (N := 9) hx hb hts (tw_cs in_X1) hown hK hT (cs_kN hS) (by decide) rfl 1 (by decide) (hts _ (tw_c tw_28)) rfl (x := (fa 5)) (cs_pH hS) dX1_startAnew_32 ?_
          refine lv_iload_n hx hb dX1_startAnew_35 rfl (lv_at hl 1 rfl) ?_
          refine hv_aald (t := 1) hx hb hK hT (cs_kH hS) rfl rfl (cs_in32 hlti) (x := (hv_q vL (fa 5) i)) (by rw [cs_cl32 hlti]; rfl) dX1_startAnew_36 ?_
          refine hv_putr (ci := 1) (C := RX1) (T := TX1) (N := 9) hx hb hts (tw_cs in_X1) tyX1 tyX1_ok nmX1 hown hK hT (cs_kN hS) (by decide) rfl 3 (by decide) (hts _ (tw_c tw_30)) rfl rfl (hv_q vL (fa 5) i) rfl (hv_nrf _) (hv_frf _) dX1_startAnew_37 (fun H locs hT => ?_)
          refine lv_aload_n hx hb dX1_startAnew_40 rfl (lv_at hl 0 rfl) ?_
          refine hv_gets (ci := 1) (C := RX1) (T := TX1) (N := 9) hx hb hts (tw_cs in_X1) hown hK hT (cs_kN hS) (by decide) rfl 1 (by decide) (hts _ (tw_c tw_28)) rfl (x := (fa 5)) (cs_pH hS) dX1_startAnew_41 ?_
          refine lv_iload_n hx hb dX1_startAnew_44 rfl (lv_at hl 1 rfl) ?_
          refine lv_null hx hb dX1_startAnew_45 ?_
          refine hv_aastN (t := 1) hx hb hK hT (cs_kH hS) rfl (cs_in32 hlti) dX1_startAnew_46 (fun H locs hT => ?_)
          have hS : cs_S fa n (hv_sq (hv_sp (hv_sp vL 7 z (hv_p vL 103 (fa 2))) 103 (fa 2) (hv_q vL (fa 5) i)) (fa 5) ((nI i) : Int32).toNatClampNeg none) := cs_S_sq5 hS
          refine lv_aload_n hx hb dX1_startAnew_47 rfl (lv_at hl 0 rfl) ?_
          refine hv_gets (ci := 1) (C := RX1) (T := TX1) (N := 9) hx hb hts (tw_cs in_X1) hown hK hT (cs_kN hS) (by decide) rfl 2 (by decide) (hts _ (tw_c tw_29)) rfl (x := (fa 6)) (cs_pT hS) dX1_startAnew_48 ?_
          refine lv_iload_n hx hb dX1_startAnew_51 rfl (lv_at hl 1 rfl) ?_
          refine lv_null hx hb dX1_startAnew_52 ?_
          refine hv_aastN (t := 1) hx hb hK hT (cs_kT hS) rfl (cs_in32 hlti) dX1_startAnew_53 (fun H locs hT => ?_)
          have hS : cs_S fa n (hv_sq (hv_sq (hv_sp (hv_sp vL 7 z (hv_p vL 103 (fa 2))) 103 (fa 2) (hv_q vL (fa 5) i)) (fa 5) ((nI i) : Int32).toNatClampNeg none) (fa 6) ((nI i) : Int32).toNatClampNeg none) := cs_S_sq6 hS
          refine lv_iinc (v := (nI (i + 1))) (lv' := [(1, _), (0, _)]) hx hb dX1_startAnew_54 hl (k := 1) rfl (nI_1 _) (by decide) rfl (fun ls hl => ?_)
          refine lv_goto (tgt := 2) hx hb dX1_startAnew_57 (by decide) ?_
          exact ih2 (i + 1) (hv_sq (hv_sq (hv_sp (hv_sp vL 7 z (hv_p vL 103 (fa 2))) 103 (fa 2) (hv_q vL (fa 5) i)) (fa 5) ((nI i) : Int32).toNatClampNeg none) (fa 6) ((nI i) : Int32).toNatClampNeg none) H locs ls (by omega) (by omega) (ci_Zs hZ hlti (fun _ => rfl) (fun _ _ => rfl) (fun _ _ => rfl) (fun f c h1 h2 => by simp [hv_si_i, hv_si_k, hv_si_p, hv_si_a, hv_si_q, hv_sp_i, hv_sp_k, hv_sp_p, hv_sp_a, hv_sp_q, hv_sa_i, hv_sa_k, hv_sa_p, hv_sa_a, hv_sa_q, hv_sq_i, hv_sq_k, hv_sq_p, hv_sq_a, hv_sq_q, h1, h2]) (by simp [hv_si_i, hv_si_k, hv_si_p, hv_si_a, hv_si_q, hv_sp_i, hv_sp_k, hv_sp_p, hv_sp_a, hv_sp_q, hv_sa_i, hv_sa_k, hv_sa_p, hv_sa_a, hv_sa_q, hv_sq_i, hv_sq_k, hv_sq_p, hv_sq_a, hv_sq_q, htl]) (fun c => by simp [hv_si_i, hv_si_k, hv_si_p, hv_si_a, hv_si_q, hv_sp_i, hv_sp_k, hv_sp_p, hv_sp_a, hv_sp_q, hv_sa_i, hv_sa_k, hv_sa_p, hv_sa_a, hv_sa_q, hv_sq_i, hv_sq_k, hv_sq_p, hv_sq_a, hv_sq_q, htl, eq_comm]) (fun j => by simp [hv_si_i, hv_si_k, hv_si_p, hv_si_a, hv_si_q, hv_sp_i, hv_sp_k, hv_sp_p, hv_sp_a, hv_sp_q, hv_sa_i, hv_sa_k, hv_sa_p, hv_sa_a, hv_sa_q, hv_sq_i, hv_sq_k, hv_sq_p, hv_sq_a, hv_sq_q, cs_cl32 hlti, ci_56 hZ.1]) (fun j => by simp [hv_si_i, hv_si_k, hv_si_p, hv_si_a, hv_si_q, hv_sp_i, hv_sp_k, hv_sp_p, hv_sp_a, hv_sp_q, hv_sa_i, hv_sa_k, hv_sa_p, hv_sa_a, hv_sa_q, hv_sq_i, hv_sq_k, hv_sq_p, hv_sq_a, hv_sq_q, cs_cl32 hlti, (ci_56 hZ.1).symm]) (fun c j h5 h6 => by simp [hv_si_i, hv_si_k, hv_si_p, hv_si_a, hv_si_q, hv_sp_i, hv_sp_k, hv_sp_p, hv_sp_a, hv_sp_q, hv_sa_i, hv_sa_k, hv_sa_p, hv_sa_a, hv_sa_q, hv_sq_i, hv_sq_k, hv_sq_p, hv_sq_a, hv_sq_q, h5, h6]) rfl rfl) hT (lv_sub hl [1, 0] rfl)
  exact hL2 33 0 v H locs ls (by omega) (by omega) (ci_Z0 hI) hT (lv_sub hl [1, 0] rfl)
