set_option maxHeartbeats 4000000 in
set_option maxRecDepth 100000 in
theorem c_msgInit (l : Launch) (D : va_G) (tc : Nat → ClassId) {v : hv_V} {a : Nat} : Met l yX0_init (Cond.code yX0_init cX0_init 1 none :: lw_B) ({ frames := 1, cells := 0, slots := 0, locals := 20 }) (va_Pc [.ref a] (hv_Pre D tc v)) (va_Qv (fun (v1 : hv_V) => v1 = v) (hv_Post D tc (hv_A v)) (hv_A v)) (0) (0) (hv_A v) := by
  refine hv_metv l (by decide) (Nat.le_of_ble_eq_true rfl) ?_
  intro p e s m args below meth c Q X hret hK hz H locs ls hT hl
  obtain ⟨hx, hb, hml, hts, hown, hin0⟩ := X
  have hown : s.vm.findClass "CommitSites$Message" = some m.cls := hown
  have hl : lv_has ls 1 [(0, .ref a)] := hl
  refine lv_aload_n hx hb dX0_init_0 rfl (lv_at hl 0 rfl) ?_
  refine W.objInit hx hb hown (hts _ (tw_c tw_146)) (hts _ (tw_c tw_12)) (hts _ (tw_c tw_13)) rfl (by rw [hml]; exact hl.1) rfl dX0_init_1 (Nat.le_of_ble_eq_true rfl) (Nat.le_of_ble_eq_true rfl) ?_
  refine W.eq (g2 := F0 m 4 ls []) rfl ?_
  exact hret _ v _ _ _ _ _ dX0_init_4 hT rfl (by decide) (by decide)

set_option maxHeartbeats 4000000 in
set_option maxRecDepth 100000 in
theorem c_keepSpare (l : Launch) (D : va_G) (tc : Nat → ClassId) {fa : Nat → Nat} {n : Nat} {w u : Nat → Nat} {b : Nat} {d : Nat → Nat → Nat} {g : Nat × Nat} {k : Nat} {hd : List Nat} {v : hv_V} {a : Nat} (hI : ci_I fa n w u b d g k (a :: hd) v) : Met l yX1_keepSpare (Cond.code yX1_keepSpare cX1_keepSpare 2 none :: lw_B) ({ frames := 0, cells := 0, slots := 0, locals := 0 }) (va_Pc [.ref (fa 2), .ref a] (hv_Pre D tc v)) (va_Qv (fun (v1 : hv_V) => ci_I fa n w u b d g k hd v1) (hv_Post D tc (hv_A v)) (hv_A v)) (0) (0) (hv_A v) := by
  refine hv_metv l (by decide) (Nat.le_of_ble_eq_true rfl) ?_
  intro p e s m args below meth c Q X hret hK hz H locs ls hT hl
  obtain ⟨hx, hb, hml, hts, hown, hin0⟩ := X
  have hown : s.vm.findClass "CommitSites$Network" = some m.cls := hown
  have hl : lv_has ls 2 [(0, .ref (fa 2)), (1, .ref a)] := hl
  have hS := hI.1
  have hka := (ci_hdI hI).1
  refine lv_aload_n hx hb dX1_keepSpare_0 rfl (lv_at hl 1 rfl) ?_
  refine lv_aload_n hx hb dX1_keepSpare_1 rfl (lv_at hl 0 rfl) ?_
  refine hv_getr (ci := 1) (C := RX1) (T := TX1) (N := 9) hx hb hts (tw_cs in_X1) hown hK hT (cs_kN hS) (by decide) rfl 3 (by decide) (hts _ (tw_c tw_30)) rfl (x := (hv_p v 103 (fa 2))) rfl dX1_keepSpare_2 ?_
  refine hv_putr (ci := 0) (C := RX0) (T := TX0) (N := 8) hx hb hts (tw_cs in_X0) tyX0 tyX0_ok nmX0 hown hK hT hka (by decide) rfl 7 (by decide) (hts _ (tw_c tw_162)) rfl rfl (hv_p v 103 (fa 2)) rfl (hv_nrf _) (hv_frf _) dX1_keepSpare_5 (fun H locs hT => ?_)
  refine lv_aload_n hx hb dX1_keepSpare_8 rfl (lv_at hl 0 rfl) ?_
  refine lv_aload_n hx hb dX1_keepSpare_9 rfl (lv_at hl 1 rfl) ?_
  refine hv_putr (ci := 1) (C := RX1) (T := TX1) (N := 9) hx hb hts (tw_cs in_X1) tyX1 tyX1_ok nmX1 hown hK hT (cs_kN hS) (by decide) rfl 3 (by decide) (hts _ (tw_c tw_30)) rfl rfl (some a) rfl rfl rfl dX1_keepSpare_10 (fun H locs hT => ?_)
  exact hret _ (hv_sp (hv_sp v 7 a (hv_p v 103 (fa 2))) 103 (fa 2) (some a)) _ _ _ _ _ dX1_keepSpare_13 hT (ci_keepI hI) (by decide) (by decide)

set_option maxHeartbeats 4000000 in
set_option maxRecDepth 100000 in
theorem c_takeOff (l : Launch) (D : va_G) (tc : Nat → ClassId) {fa : Nat → Nat} {n : Nat} {w u : Nat → Nat} {b : Nat} {d : Nat → Nat → Nat} {g : Nat × Nat} {k : Nat} {hd : List Nat} {v : hv_V} (hI : ci_I fa n w u b d g k hd v) {s0 a : Nat} (hs : s0 < 32) (ha : hv_q v (fa 5) s0 = some a) : Met l yX1_takeOff (Cond.code yX1_takeOff cX1_takeOff 3 none :: lw_B) ({ frames := 0, cells := 0, slots := 0, locals := 0 }) (va_Pc [.ref (fa 2), .ref a] (hv_Pre D tc v)) (va_Qv (fun (v1 : hv_V) => ci_I fa n w u b d g k (a :: hd) v1) (hv_Post D tc (hv_A v)) (hv_A v)) (0) (0) (hv_A v) := by
  refine hv_metv l (by decide) (Nat.le_of_ble_eq_true rfl) ?_
  intro p e s m args below meth c Q X hret hK hz H locs ls hT hl
  obtain ⟨hx, hb, hml, hts, hown, hin0⟩ := X
  have hown : s.vm.findClass "CommitSites$Network" = some m.cls := hown
  have hl : lv_has ls 3 [(0, .ref (fa 2)), (1, .ref a)] := hl
  have hS := hI.1
  obtain ⟨hka, -, ⟨t, ht4, hts0, htm⟩, hzk⟩ := ci_headI hI hs ha
  refine lv_aload_n hx hb dX1_takeOff_0 rfl (lv_at hl 1 rfl) ?_
  refine hv_geti (ci := 0) (C := RX0) (T := TX0) (N := 8) hx hb hts (tw_cs in_X0) hown hK hT hka (by decide) rfl 0 (by decide) (hts _ (tw_c tw_147)) rfl dX1_takeOff_1 ?_
  refine lv_topi (fun g1 eg1 => ?_)
  refine lv_bipush (v := 32) hx hb dX1_takeOff_4 (by decide) ?_
  refine lv_irem hx hb dX1_takeOff_6 (by decide) ?_
  refine hv_as (x := (g1 - g1 / 32 * 32)) (y := (nI s0)) (by rw [eg1, htm]; exact cs_rem ht4 hts0) ?_
  refine lv_istore_n (lv' := [(2, _), (0, _), (1, _)]) hx hb dX1_takeOff_7 rfl hl (by decide) rfl (fun ls hl => ?_)
  cases hnx : hv_p v 7 a with
  | none =>
    skip
    refine lv_aload_n hx hb dX1_takeOff_8 rfl (lv_at hl 1 rfl) ?_
    refine hv_gets (ci := 1) (C := RX1) (T := TX1) (N := 9) hx hb hts (tw_cs in_X1) hown hK hT (cs_kN hS) (by decide) rfl 1 (by decide) (hts _ (tw_c tw_28)) rfl (x := (fa 5)) (cs_pH hS) dX1_takeOff_9 ?_
    refine lv_iload_n hx hb dX1_takeOff_12 rfl (lv_at hl 0 rfl) ?_
    refine lv_aload_n hx hb dX1_takeOff_13 rfl (lv_at hl 2 rfl) ?_
    refine hv_getn (ci := 0) (C := RX0) (T := TX0) (N := 8) hx hb hts (tw_cs in_X0) hown hK hT hka (by decide) rfl 7 (by decide) (hts _ (tw_c tw_162)) rfl hnx dX1_takeOff_14 ?_
    refine hv_aastN (t := 1) hx hb hK hT (cs_kH hS) rfl (cs_in32 hs) dX1_takeOff_17 (fun H locs hT => ?_)
    have hS0 := hS; have hS : cs_S fa n (hv_sq v (fa 5) ((nI s0) : Int32).toNatClampNeg none) := cs_S_sq5 hS
    refine lv_aload_n hx hb dX1_takeOff_18 rfl (lv_at hl 2 rfl) ?_
    refine hv_getn (ci := 0) (C := RX0) (T := TX0) (N := 8) hx hb hts (tw_cs in_X0) hown hK hT hka (by decide) rfl 7 (by decide) (hts _ (tw_c tw_162)) rfl hnx dX1_takeOff_19 ?_
    refine lv_ifnonnullN hx hb dX1_takeOff_22 ?_
    refine lv_aload_n hx hb dX1_takeOff_25 rfl (lv_at hl 1 rfl) ?_
    refine hv_gets (ci := 1) (C := RX1) (T := TX1) (N := 9) hx hb hts (tw_cs in_X1) hown hK hT (cs_kN hS) (by decide) rfl 2 (by decide) (hts _ (tw_c tw_29)) rfl (x := (fa 6)) (cs_pT hS) dX1_takeOff_26 ?_
    refine lv_iload_n hx hb dX1_takeOff_29 rfl (lv_at hl 0 rfl) ?_
    refine lv_null hx hb dX1_takeOff_30 ?_
    refine hv_aastN (t := 1) hx hb hK hT (cs_kT hS) rfl (cs_in32 hs) dX1_takeOff_31 (fun H locs hT => ?_)
    have hS : cs_S fa n (hv_sq (hv_sq v (fa 5) ((nI s0) : Int32).toNatClampNeg none) (fa 6) ((nI s0) : Int32).toNatClampNeg none) := cs_S_sq6 hS
    refine lv_aload_n hx hb dX1_takeOff_32 rfl (lv_at hl 1 rfl) ?_
    refine lv_dup hx hb dX1_takeOff_33 rfl ?_
    refine hv_geti (ci := 1) (C := RX1) (T := TX1) (N := 9) hx hb hts (tw_cs in_X1) hown hK hT (cs_kN hS) (by decide) rfl 8 (by decide) (hts _ (tw_c tw_38)) rfl dX1_takeOff_34 ?_
    refine lv_topi (fun g2 eg2 => ?_)
    refine lv_iconst (v := 1) hx hb dX1_takeOff_37 (by decide) ?_
    refine lv_isub hx hb dX1_takeOff_38 ?_
    refine hv_puti (ci := 1) (C := RX1) (T := TX1) (N := 9) hx hb hts (tw_cs in_X1) tyX1 tyX1_ok nmX1 hown hK hT (cs_kN hS) (by decide) rfl 8 (by decide) (hts _ (tw_c tw_38)) rfl rfl (x := (g2 - 1)) rfl rfl dX1_takeOff_39 (fun H locs hT => ?_)
    exact hret _ (hv_si (hv_sq (hv_sq v (fa 5) ((nI s0) : Int32).toNatClampNeg none) (fa 6) ((nI s0) : Int32).toNatClampNeg none) 108 (fa 2) (g2 - 1)) _ _ _ _ _ dX1_takeOff_42 hT (ci_takeI hI hs ha (fun _ => rfl) (fun f c hf => by simp [hv_si_i, hv_si_k, hv_si_p, hv_si_a, hv_si_q, hv_sp_i, hv_sp_k, hv_sp_p, hv_sp_a, hv_sp_q, hv_sa_i, hv_sa_k, hv_sa_p, hv_sa_a, hv_sa_q, hv_sq_i, hv_sq_k, hv_sq_p, hv_sq_a, hv_sq_q, hf]) (by simp [hv_si_i, hv_si_k, hv_si_p, hv_si_a, hv_si_q, hv_sp_i, hv_sp_k, hv_sp_p, hv_sp_a, hv_sp_q, hv_sa_i, hv_sa_k, hv_sa_p, hv_sa_a, hv_sa_q, hv_sq_i, hv_sq_k, hv_sq_p, hv_sq_a, hv_sq_q]; rw [eg2]; simp [hv_si_i, hv_si_k, hv_si_p, hv_si_a, hv_si_q, hv_sp_i, hv_sp_k, hv_sp_p, hv_sp_a, hv_sp_q, hv_sa_i, hv_sa_k, hv_sa_p, hv_sa_a, hv_sa_q, hv_sq_i, hv_sq_k, hv_sq_p, hv_sq_a, hv_sq_q]) (fun _ _ => rfl) (fun _ _ => rfl) (fun j => by simp [hv_si_i, hv_si_k, hv_si_p, hv_si_a, hv_si_q, hv_sp_i, hv_sp_k, hv_sp_p, hv_sp_a, hv_sp_q, hv_sa_i, hv_sa_k, hv_sa_p, hv_sa_a, hv_sa_q, hv_sq_i, hv_sq_k, hv_sq_p, hv_sq_a, hv_sq_q, cs_cl32 hs, hnx, ci_56 hS]) (fun j => by simp [hv_si_i, hv_si_k, hv_si_p, hv_si_a, hv_si_q, hv_sp_i, hv_sp_k, hv_sp_p, hv_sp_a, hv_sp_q, hv_sa_i, hv_sa_k, hv_sa_p, hv_sa_a, hv_sa_q, hv_sq_i, hv_sq_k, hv_sq_p, hv_sq_a, hv_sq_q, cs_cl32 hs, hnx, (ci_56 hS).symm]) (fun c j h5 h6 => by simp [hv_si_i, hv_si_k, hv_si_p, hv_si_a, hv_si_q, hv_sp_i, hv_sp_k, hv_sp_p, hv_sp_a, hv_sp_q, hv_sa_i, hv_sa_k, hv_sa_p, hv_sa_a, hv_sa_q, hv_sq_i, hv_sq_k, hv_sq_p, hv_sq_a, hv_sq_q, h5, h6]) rfl rfl) (by decide) (by decide)
  | some z =>
    skip
    have hzk := hzk z hnx
    refine lv_aload_n hx hb dX1_takeOff_8 rfl (lv_at hl 1 rfl) ?_
    refine hv_gets (ci := 1) (C := RX1) (T := TX1) (N := 9) hx hb hts (tw_cs in_X1) hown hK hT (cs_kN hS) (by decide) rfl 1 (by decide) (hts _ (tw_c tw_28)) rfl (x := (fa 5)) (cs_pH hS) dX1_takeOff_9 ?_
    refine lv_iload_n hx hb dX1_takeOff_12 rfl (lv_at hl 0 rfl) ?_
    refine lv_aload_n hx hb dX1_takeOff_13 rfl (lv_at hl 2 rfl) ?_
    refine hv_gets (ci := 0) (C := RX0) (T := TX0) (N := 8) hx hb hts (tw_cs in_X0) hown hK hT hka (by decide) rfl 7 (by decide) (hts _ (tw_c tw_162)) rfl (x := z) hnx dX1_takeOff_14 ?_
    refine hv_aast (t := 1) (ci := 0) (r := (RX0, TX0, 8)) hx hb hK hT (cs_kH hS) rfl hzk (by decide) rfl (cs_in32 hs) dX1_takeOff_17 (fun H locs hT => ?_)
    have hS0 := hS; have hS : cs_S fa n (hv_sq v (fa 5) ((nI s0) : Int32).toNatClampNeg (some z)) := cs_S_sq5 hS
    refine lv_aload_n hx hb dX1_takeOff_18 rfl (lv_at hl 2 rfl) ?_
    refine hv_gets (ci := 0) (C := RX0) (T := TX0) (N := 8) hx hb hts (tw_cs in_X0) hown hK hT hka (by decide) rfl 7 (by decide) (hts _ (tw_c tw_162)) rfl (x := z) hnx dX1_takeOff_19 ?_
    refine lv_ifnonnull (tgt := 32) hx hb dX1_takeOff_22 (by decide) ?_
    refine lv_aload_n hx hb dX1_takeOff_32 rfl (lv_at hl 1 rfl) ?_
    refine lv_dup hx hb dX1_takeOff_33 rfl ?_
    refine hv_geti (ci := 1) (C := RX1) (T := TX1) (N := 9) hx hb hts (tw_cs in_X1) hown hK hT (cs_kN hS) (by decide) rfl 8 (by decide) (hts _ (tw_c tw_38)) rfl dX1_takeOff_34 ?_
    refine lv_topi (fun g3 eg3 => ?_)
    refine lv_iconst (v := 1) hx hb dX1_takeOff_37 (by decide) ?_
    refine lv_isub hx hb dX1_takeOff_38 ?_
    refine hv_puti (ci := 1) (C := RX1) (T := TX1) (N := 9) hx hb hts (tw_cs in_X1) tyX1 tyX1_ok nmX1 hown hK hT (cs_kN hS) (by decide) rfl 8 (by decide) (hts _ (tw_c tw_38)) rfl rfl (x := (g3 - 1)) rfl rfl dX1_takeOff_39 (fun H locs hT => ?_)
    exact hret _ (hv_si (hv_sq v (fa 5) ((nI s0) : Int32).toNatClampNeg (some z)) 108 (fa 2) (g3 - 1)) _ _ _ _ _ dX1_takeOff_42 hT (ci_takeI hI hs ha (fun _ => rfl) (fun f c hf => by simp [hv_si_i, hv_si_k, hv_si_p, hv_si_a, hv_si_q, hv_sp_i, hv_sp_k, hv_sp_p, hv_sp_a, hv_sp_q, hv_sa_i, hv_sa_k, hv_sa_p, hv_sa_a, hv_sa_q, hv_sq_i, hv_sq_k, hv_sq_p, hv_sq_a, hv_sq_q, hf]) (by simp [hv_si_i, hv_si_k, hv_si_p, hv_si_a, hv_si_q, hv_sp_i, hv_sp_k, hv_sp_p, hv_sp_a, hv_sp_q, hv_sa_i, hv_sa_k, hv_sa_p, hv_sa_a, hv_sa_q, hv_sq_i, hv_sq_k, hv_sq_p, hv_sq_a, hv_sq_q]; rw [eg3]; simp [hv_si_i, hv_si_k, hv_si_p, hv_si_a, hv_si_q, hv_sp_i, hv_sp_k, hv_sp_p, hv_sp_a, hv_sp_q, hv_sa_i, hv_sa_k, hv_sa_p, hv_sa_a, hv_sa_q, hv_sq_i, hv_sq_k, hv_sq_p, hv_sq_a, hv_sq_q]) (fun _ _ => rfl) (fun _ _ => rfl) (fun j => by simp [hv_si_i, hv_si_k, hv_si_p, hv_si_a, hv_si_q, hv_sp_i, hv_sp_k, hv_sp_p, hv_sp_a, hv_sp_q, hv_sa_i, hv_sa_k, hv_sa_p, hv_sa_a, hv_sa_q, hv_sq_i, hv_sq_k, hv_sq_p, hv_sq_a, hv_sq_q, cs_cl32 hs, hnx, ci_56 hS]) (fun j => by simp [hv_si_i, hv_si_k, hv_si_p, hv_si_a, hv_si_q, hv_sp_i, hv_sp_k, hv_sp_p, hv_sp_a, hv_sp_q, hv_sa_i, hv_sa_k, hv_sa_p, hv_sa_a, hv_sa_q, hv_sq_i, hv_sq_k, hv_sq_p, hv_sq_a, hv_sq_q, cs_cl32 hs, hnx, (ci_56 hS).symm]) (fun c j h5 h6 => by simp [hv_si_i, hv_si_k, hv_si_p, hv_si_a, hv_si_q, hv_sp_i, hv_sp_k, hv_sp_p, hv_sp_a, hv_sp_q, hv_sa_i, hv_sa_k, hv_sa_p, hv_sa_a, hv_sa_q, hv_sq_i, hv_sq_k, hv_sq_p, hv_sq_a, hv_sq_q, h5, h6]) rfl rfl) (by decide) (by decide)

theorem ci_fr5 {f : Nat} (h : ci_free f = false) : f ≠ 105 := fun e => by rw [e] at h; cases h
theorem ci_fr6 {f : Nat} (h : ci_free f = false) : f ≠ 1 := fun e => by rw [e] at h; cases h

set_option maxHeartbeats 4000000 in
set_option maxRecDepth 100000 in
theorem c_putOn (l : Launch) (D : va_G) (tc : Nat → ClassId) {fa : Nat → Nat} {n : Nat} {w u : Nat → Nat} {b : Nat} {d : Nat → Nat → Nat} {g : Nat × Nat} {k : Nat} {hd : List Nat} {v : hv_V} {a : Nat} (hI : ci_I fa n w u b d g k (a :: hd) v) : Met l yX1_putOn (Cond.code yX1_putOn cX1_putOn 3 none :: lw_B) ({ frames := 0, cells := 0, slots := 0, locals := 0 }) (va_Pc [.ref (fa 2), .ref a] (hv_Pre D tc v)) (va_Qv (fun (v1 : hv_V) => ci_I fa n w u b d g k hd v1) (hv_Post D tc (hv_A v)) (hv_A v)) (0) (0) (hv_A v) := by
  refine hv_metv l (by decide) (Nat.le_of_ble_eq_true rfl) ?_
  intro p e s m args below meth c Q X hret hK hz H locs ls hT hl
  obtain ⟨hx, hb, hml, hts, hown, hin0⟩ := X
  have hown : s.vm.findClass "CommitSites$Network" = some m.cls := hown
  have hl : lv_has ls 3 [(0, .ref (fa 2)), (1, .ref a)] := hl
  have hS := hI.1
  obtain ⟨hka, f0, t0, hf0, ht0, h3, h4⟩ := ci_hdI hI
  obtain ⟨t, ht4, ht⟩ := hI.2.1.2.2.2.2.1
  have hdl := hI.2.1.2.2.2.2.2.1
  have hd20 := (hdl f0 t0 (cs_lt8 hS hf0) (cs_lt8 hS ht0)).1
  have hsum : t + d f0 t0 ≤ 4020 := by omega
  have hs32 : (t + d f0 t0) % 32 < 32 := Nat.mod_lt _ (by decide)
  refine lv_aload_n hx hb dX1_putOn_0 rfl (lv_at hl 1 rfl) ?_
  refine lv_aload_n hx hb dX1_putOn_1 rfl (lv_at hl 0 rfl) ?_
  refine hv_geti (ci := 1) (C := RX1) (T := TX1) (N := 9) hx hb hts (tw_cs in_X1) hown hK hT (cs_kN hS) (by decide) rfl 4 (by decide) (hts _ (tw_c tw_31)) rfl dX1_putOn_2 ?_
  refine lv_topi (fun g1 eg1 => ?_)
  have eg1 : g1 = (nI t) := by rw [eg1]; exact ht
  subst eg1
  refine lv_aload_n hx hb dX1_putOn_5 rfl (lv_at hl 0 rfl) ?_
  refine hv_gets (ci := 1) (C := RX1) (T := TX1) (N := 9) hx hb hts (tw_cs in_X1) hown hK hT (cs_kN hS) (by decide) rfl 0 (by decide) (hts _ (tw_c tw_26)) rfl (x := (fa 4)) (cs_pD hS) dX1_putOn_6 ?_
  refine lv_aload_n hx hb dX1_putOn_9 rfl (lv_at hl 1 rfl) ?_
  refine hv_geti (ci := 0) (C := RX0) (T := TX0) (N := 8) hx hb hts (tw_cs in_X0) hown hK hT hka (by decide) rfl 3 (by decide) (hts _ (tw_c tw_154)) rfl dX1_putOn_10 ?_
  refine lv_topi (fun g2 eg2 => ?_)
  have eg2 : g2 = (nI f0) := by rw [eg2]; exact h3
  subst eg2
  refine hv_alds (t := 2) hx hb hK hT (cs_kD hS) rfl rfl (cs_in8 (cs_lt8 hS hf0)) (x := (fa (8 + f0))) (cs_qD hS (cs_lt8 hS hf0)) dX1_putOn_13 ?_
  refine lv_aload_n hx hb dX1_putOn_14 rfl (lv_at hl 1 rfl) ?_
  refine hv_geti (ci := 0) (C := RX0) (T := TX0) (N := 8) hx hb hts (tw_cs in_X0) hown hK hT hka (by decide) rfl 4 (by decide) (hts _ (tw_c tw_156)) rfl dX1_putOn_15 ?_
  refine lv_topi (fun g3 eg3 => ?_)
  have eg3 : g3 = (nI t0) := by rw [eg3]; exact h4
  subst eg3
  refine hv_iald hx hb hK hT (cs_kR hS (cs_lt8 hS hf0)) (cs_in8 (cs_lt8 hS ht0)) dX1_putOn_18 ?_
  refine lv_topi (fun g4 eg4 => ?_)
  have eg4 : g4 = (nI (d f0 t0)) := by rw [eg4]; rw [cs_cl (cs_lt8 hS ht0)]; exact (hdl f0 t0 (cs_lt8 hS hf0) (cs_lt8 hS ht0)).2
  subst eg4
  refine lv_iadd hx hb dX1_putOn_19 ?_
  refine hv_as (x := ((nI t) + (nI (d f0 t0)))) (y := (nI (t + d f0 t0))) (nI_add _ _) ?_
  refine hv_puti (ci := 0) (C := RX0) (T := TX0) (N := 8) hx hb hts (tw_cs in_X0) tyX0 tyX0_ok nmX0 hown hK hT hka (by decide) rfl 0 (by decide) (hts _ (tw_c tw_147)) rfl rfl (x := (nI (t + d f0 t0))) rfl rfl dX1_putOn_20 (fun H locs hT => ?_)
  refine lv_aload_n hx hb dX1_putOn_23 rfl (lv_at hl 1 rfl) ?_
  refine lv_aload_n hx hb dX1_putOn_24 rfl (lv_at hl 0 rfl) ?_
  refine lv_dup hx hb dX1_putOn_25 rfl ?_
  refine hv_geti (ci := 1) (C := RX1) (T := TX1) (N := 9) hx hb hts (tw_cs in_X1) hown hK hT (cs_kN hS) (by decide) rfl 5 (by decide) (hts _ (tw_c tw_33)) rfl dX1_putOn_26 ?_
  refine lv_topi (fun g5 eg5 => ?_)
  refine lv_dup_x1 hx hb dX1_putOn_29 rfl rfl ?_
  refine lv_iconst (v := 1) hx hb dX1_putOn_30 (by decide) ?_
  refine lv_iadd hx hb dX1_putOn_31 ?_
  refine hv_puti (ci := 1) (C := RX1) (T := TX1) (N := 9) hx hb hts (tw_cs in_X1) tyX1 tyX1_ok nmX1 hown hK hT (cs_kN hS) (by decide) rfl 5 (by decide) (hts _ (tw_c tw_33)) rfl rfl (x := (g5 + 1)) rfl rfl dX1_putOn_32 (fun H locs hT => ?_)
  refine hv_puti (ci := 0) (C := RX0) (T := TX0) (N := 8) hx hb hts (tw_cs in_X0) tyX0 tyX0_ok nmX0 hown hK hT hka (by decide) rfl 1 (by decide) (hts _ (tw_c tw_150)) rfl rfl (x := g5) rfl rfl dX1_putOn_35 (fun H locs hT => ?_)
  refine lv_aload_n hx hb dX1_putOn_38 rfl (lv_at hl 1 rfl) ?_
  refine lv_null hx hb dX1_putOn_39 ?_
  refine hv_putr (ci := 0) (C := RX0) (T := TX0) (N := 8) hx hb hts (tw_cs in_X0) tyX0 tyX0_ok nmX0 hown hK hT hka (by decide) rfl 7 (by decide) (hts _ (tw_c tw_162)) rfl rfl none rfl rfl rfl dX1_putOn_40 (fun H locs hT => ?_)
  refine lv_aload_n hx hb dX1_putOn_43 rfl (lv_at hl 1 rfl) ?_
  refine hv_geti (ci := 0) (C := RX0) (T := TX0) (N := 8) hx hb hts (tw_cs in_X0) hown hK hT hka (by decide) rfl 0 (by decide) (hts _ (tw_c tw_147)) rfl dX1_putOn_44 ?_
  refine lv_topi (fun g6 eg6 => ?_)
  have eg6 : g6 = (nI (t + d f0 t0)) := by rw [eg6]; simp [hv_si_i, hv_si_k, hv_si_p, hv_si_a, hv_si_q, hv_sp_i, hv_sp_k, hv_sp_p, hv_sp_a, hv_sp_q, hv_sa_i, hv_sa_k, hv_sa_p, hv_sa_a, hv_sa_q, hv_sq_i, hv_sq_k, hv_sq_p, hv_sq_a, hv_sq_q]
  subst eg6
  refine lv_bipush (v := 32) hx hb dX1_putOn_47 (by decide) ?_
  refine lv_irem hx hb dX1_putOn_49 (by decide) ?_
  refine hv_as (x := ((nI (t + d f0 t0)) - (nI (t + d f0 t0)) / 32 * 32)) (y := (nI ((t + d f0 t0) % 32))) (cs_rem hsum rfl) ?_
  refine lv_istore_n (lv' := [(2, _), (0, _), (1, _)]) hx hb dX1_putOn_50 rfl hl (by decide) rfl (fun ls hl => ?_)
  cases htl : hv_q v (fa 6) ((t + d f0 t0) % 32) with
  | none =>
    skip
    refine lv_aload_n hx hb dX1_putOn_51 rfl (lv_at hl 1 rfl) ?_
    refine hv_gets (ci := 1) (C := RX1) (T := TX1) (N := 9) hx hb hts (tw_cs in_X1) hown hK hT (cs_kN hS) (by decide) rfl 2 (by decide) (hts _ (tw_c tw_29)) rfl (x := (fa 6)) (cs_pT hS) dX1_putOn_52 ?_
    refine lv_iload_n hx hb dX1_putOn_55 rfl (lv_at hl 0 rfl) ?_
    refine hv_aldn (t := 1) hx hb hK hT (cs_kT hS) rfl rfl (cs_in32 hs32) (by rw [cs_cl32 hs32]; exact htl) dX1_putOn_56 ?_
    refine lv_ifnonnullN hx hb dX1_putOn_57 ?_
    refine lv_aload_n hx hb dX1_putOn_60 rfl (lv_at hl 1 rfl) ?_
    refine hv_gets (ci := 1) (C := RX1) (T := TX1) (N := 9) hx hb hts (tw_cs in_X1) hown hK hT (cs_kN hS) (by decide) rfl 1 (by decide) (hts _ (tw_c tw_28)) rfl (x := (fa 5)) (cs_pH hS) dX1_putOn_61 ?_
    refine lv_iload_n hx hb dX1_putOn_64 rfl (lv_at hl 0 rfl) ?_
    refine lv_aload_n hx hb dX1_putOn_65 rfl (lv_at hl 2 rfl) ?_
    refine hv_aast (t := 1) (ci := 0) (r := (RX0, TX0, 8)) hx hb hK hT (cs_kH hS) rfl hka (by decide) rfl (cs_in32 hs32) dX1_putOn_66 (fun H locs hT => ?_)
    have hS : cs_S fa n (hv_sq (hv_sp (hv_si (hv_si (hv_si v 0 a (nI (t + d f0 t0))) 105 (fa 2) (g5 + 1)) 1 a g5) 7 a none) (fa 5) ((nI ((t + d f0 t0) % 32)) : Int32).toNatClampNeg (some a)) := cs_S_sq5 hS
    refine lv_goto (tgt := 80) hx hb dX1_putOn_67 (by decide) ?_
    refine lv_aload_n hx hb dX1_putOn_80 rfl (lv_at hl 1 rfl) ?_
    refine hv_gets (ci := 1) (C := RX1) (T := TX1) (N := 9) hx hb hts (tw_cs in_X1) hown hK hT (cs_kN hS) (by decide) rfl 2 (by decide) (hts _ (tw_c tw_29)) rfl (x := (fa 6)) (cs_pT hS) dX1_putOn_81 ?_
    refine lv_iload_n hx hb dX1_putOn_84 rfl (lv_at hl 0 rfl) ?_
    refine lv_aload_n hx hb dX1_putOn_85 rfl (lv_at hl 2 rfl) ?_
    refine hv_aast (t := 1) (ci := 0) (r := (RX0, TX0, 8)) hx hb hK hT (cs_kT hS) rfl hka (by decide) rfl (cs_in32 hs32) dX1_putOn_86 (fun H locs hT => ?_)
    have hS : cs_S fa n (hv_sq (hv_sq (hv_sp (hv_si (hv_si (hv_si v 0 a (nI (t + d f0 t0))) 105 (fa 2) (g5 + 1)) 1 a g5) 7 a none) (fa 5) ((nI ((t + d f0 t0) % 32)) : Int32).toNatClampNeg (some a)) (fa 6) ((nI ((t + d f0 t0) % 32)) : Int32).toNatClampNeg (some a)) := cs_S_sq6 hS
    refine lv_aload_n hx hb dX1_putOn_87 rfl (lv_at hl 1 rfl) ?_
    refine lv_dup hx hb dX1_putOn_88 rfl ?_
    refine hv_geti (ci := 1) (C := RX1) (T := TX1) (N := 9) hx hb hts (tw_cs in_X1) hown hK hT (cs_kN hS) (by decide) rfl 8 (by decide) (hts _ (tw_c tw_38)) rfl dX1_putOn_89 ?_
    refine lv_topi (fun g7 eg7 => ?_)
    refine lv_iconst (v := 1) hx hb dX1_putOn_92 (by decide) ?_
    refine lv_iadd hx hb dX1_putOn_93 ?_
    refine hv_puti (ci := 1) (C := RX1) (T := TX1) (N := 9) hx hb hts (tw_cs in_X1) tyX1 tyX1_ok nmX1 hown hK hT (cs_kN hS) (by decide) rfl 8 (by decide) (hts _ (tw_c tw_38)) rfl rfl (x := (g7 + 1)) rfl rfl dX1_putOn_94 (fun H locs hT => ?_)
    exact hret _ (hv_si (hv_sq (hv_sq (hv_sp (hv_si (hv_si (hv_si v 0 a (nI (t + d f0 t0))) 105 (fa 2) (g5 + 1)) 1 a g5) 7 a none) (fa 5) ((nI ((t + d f0 t0) % 32)) : Int32).toNatClampNeg (some a)) (fa 6) ((nI ((t + d f0 t0) % 32)) : Int32).toNatClampNeg (some a)) 108 (fa 2) (g7 + 1)) _ _ _ _ _ dX1_putOn_97 hT (ci_appI hI hsum rfl hs32 (fun _ => rfl) (fun f c h1 h2 h3 => by have e5 := ci_fr5 h1; have e6 := ci_fr6 h1; simp [hv_si_i, hv_si_k, hv_si_p, hv_si_a, hv_si_q, hv_sp_i, hv_sp_k, hv_sp_p, hv_sp_a, hv_sp_q, hv_sa_i, hv_sa_k, hv_sa_p, hv_sa_a, hv_sa_q, hv_sq_i, hv_sq_k, hv_sq_p, hv_sq_a, hv_sq_q, h2, h3, e5, e6]) (fun c => by simp [hv_si_i, hv_si_k, hv_si_p, hv_si_a, hv_si_q, hv_sp_i, hv_sp_k, hv_sp_p, hv_sp_a, hv_sp_q, hv_sa_i, hv_sa_k, hv_sa_p, hv_sa_a, hv_sa_q, hv_sq_i, hv_sq_k, hv_sq_p, hv_sq_a, hv_sq_q]) (by simp [hv_si_i, hv_si_k, hv_si_p, hv_si_a, hv_si_q, hv_sp_i, hv_sp_k, hv_sp_p, hv_sp_a, hv_sp_q, hv_sa_i, hv_sa_k, hv_sa_p, hv_sa_a, hv_sa_q, hv_sq_i, hv_sq_k, hv_sq_p, hv_sq_a, hv_sq_q]; rw [eg7]; simp [hv_si_i, hv_si_k, hv_si_p, hv_si_a, hv_si_q, hv_sp_i, hv_sp_k, hv_sp_p, hv_sp_a, hv_sp_q, hv_sa_i, hv_sa_k, hv_sa_p, hv_sa_a, hv_sa_q, hv_sq_i, hv_sq_k, hv_sq_p, hv_sq_a, hv_sq_q]) (fun f c h7 => by simp [hv_si_i, hv_si_k, hv_si_p, hv_si_a, hv_si_q, hv_sp_i, hv_sp_k, hv_sp_p, hv_sp_a, hv_sp_q, hv_sa_i, hv_sa_k, hv_sa_p, hv_sa_a, hv_sa_q, hv_sq_i, hv_sq_k, hv_sq_p, hv_sq_a, hv_sq_q, h7]) (fun _ _ => rfl) (fun c => by simp [hv_si_i, hv_si_k, hv_si_p, hv_si_a, hv_si_q, hv_sp_i, hv_sp_k, hv_sp_p, hv_sp_a, hv_sp_q, hv_sa_i, hv_sa_k, hv_sa_p, hv_sa_a, hv_sa_q, hv_sq_i, hv_sq_k, hv_sq_p, hv_sq_a, hv_sq_q, htl]) (fun j => by simp [hv_si_i, hv_si_k, hv_si_p, hv_si_a, hv_si_q, hv_sp_i, hv_sp_k, hv_sp_p, hv_sp_a, hv_sp_q, hv_sa_i, hv_sa_k, hv_sa_p, hv_sa_a, hv_sa_q, hv_sq_i, hv_sq_k, hv_sq_p, hv_sq_a, hv_sq_q, cs_cl32 hs32, htl, ci_56 hS]) (fun j => by simp [hv_si_i, hv_si_k, hv_si_p, hv_si_a, hv_si_q, hv_sp_i, hv_sp_k, hv_sp_p, hv_sp_a, hv_sp_q, hv_sa_i, hv_sa_k, hv_sa_p, hv_sa_a, hv_sa_q, hv_sq_i, hv_sq_k, hv_sq_p, hv_sq_a, hv_sq_q, cs_cl32 hs32, htl, (ci_56 hS).symm]) (fun c j h5 h6 => by simp [hv_si_i, hv_si_k, hv_si_p, hv_si_a, hv_si_q, hv_sp_i, hv_sp_k, hv_sp_p, hv_sp_a, hv_sp_q, hv_sa_i, hv_sa_k, hv_sa_p, hv_sa_a, hv_sa_q, hv_sq_i, hv_sq_k, hv_sq_p, hv_sq_a, hv_sq_q, h5, h6]) rfl rfl) (by decide) (by decide)
  | some z =>
    skip
    have hzk := ci_tailI hI hs32 htl
    have hza := ci_tailne hI hs32 htl
    refine lv_aload_n hx hb dX1_putOn_51 rfl (lv_at hl 1 rfl) ?_
    refine hv_gets (ci := 1) (C := RX1) (T := TX1) (N := 9) hx hb hts (tw_cs in_X1) hown hK hT (cs_kN hS) (by decide) rfl 2 (by decide) (hts _ (tw_c tw_29)) rfl (x := (fa 6)) (cs_pT hS) dX1_putOn_52 ?_
    refine lv_iload_n hx hb dX1_putOn_55 rfl (lv_at hl 0 rfl) ?_
    refine hv_alds (t := 1) hx hb hK hT (cs_kT hS) rfl rfl (cs_in32 hs32) (x := z) (by rw [cs_cl32 hs32]; exact htl) dX1_putOn_56 ?_
    refine lv_ifnonnull (tgt := 70) hx hb dX1_putOn_57 (by decide) ?_
    refine lv_aload_n hx hb dX1_putOn_70 rfl (lv_at hl 1 rfl) ?_
    refine hv_gets (ci := 1) (C := RX1) (T := TX1) (N := 9) hx hb hts (tw_cs in_X1) hown hK hT (cs_kN hS) (by decide) rfl 2 (by decide) (hts _ (tw_c tw_29)) rfl (x := (fa 6)) (cs_pT hS) dX1_putOn_71 ?_
    refine lv_iload_n hx hb dX1_putOn_74 rfl (lv_at hl 0 rfl) ?_
    refine hv_alds (t := 1) hx hb hK hT (cs_kT hS) rfl rfl (cs_in32 hs32) (x := z) (by rw [cs_cl32 hs32]; exact htl) dX1_putOn_75 ?_
    refine lv_aload_n hx hb dX1_putOn_76 rfl (lv_at hl 2 rfl) ?_
    refine hv_putr (ci := 0) (C := RX0) (T := TX0) (N := 8) hx hb hts (tw_cs in_X0) tyX0 tyX0_ok nmX0 hown hK hT hzk (by decide) rfl 7 (by decide) (hts _ (tw_c tw_162)) rfl rfl (some a) rfl rfl rfl dX1_putOn_77 (fun H locs hT => ?_)
    refine lv_aload_n hx hb dX1_putOn_80 rfl (lv_at hl 1 rfl) ?_
    refine hv_gets (ci := 1) (C := RX1) (T := TX1) (N := 9) hx hb hts (tw_cs in_X1) hown hK hT (cs_kN hS) (by decide) rfl 2 (by decide) (hts _ (tw_c tw_29)) rfl (x := (fa 6)) (cs_pT hS) dX1_putOn_81 ?_
    refine lv_iload_n hx hb dX1_putOn_84 rfl (lv_at hl 0 rfl) ?_
    refine lv_aload_n hx hb dX1_putOn_85 rfl (lv_at hl 2 rfl) ?_
    refine hv_aast (t := 1) (ci := 0) (r := (RX0, TX0, 8)) hx hb hK hT (cs_kT hS) rfl hka (by decide) rfl (cs_in32 hs32) dX1_putOn_86 (fun H locs hT => ?_)
    have hS : cs_S fa n (hv_sq (hv_sp (hv_sp (hv_si (hv_si (hv_si v 0 a (nI (t + d f0 t0))) 105 (fa 2) (g5 + 1)) 1 a g5) 7 a none) 7 z (some a)) (fa 6) ((nI ((t + d f0 t0) % 32)) : Int32).toNatClampNeg (some a)) := cs_S_sq6 hS
    refine lv_aload_n hx hb dX1_putOn_87 rfl (lv_at hl 1 rfl) ?_
    refine lv_dup hx hb dX1_putOn_88 rfl ?_
    refine hv_geti (ci := 1) (C := RX1) (T := TX1) (N := 9) hx hb hts (tw_cs in_X1) hown hK hT (cs_kN hS) (by decide) rfl 8 (by decide) (hts _ (tw_c tw_38)) rfl dX1_putOn_89 ?_
    refine lv_topi (fun g8 eg8 => ?_)
    refine lv_iconst (v := 1) hx hb dX1_putOn_92 (by decide) ?_
    refine lv_iadd hx hb dX1_putOn_93 ?_
    refine hv_puti (ci := 1) (C := RX1) (T := TX1) (N := 9) hx hb hts (tw_cs in_X1) tyX1 tyX1_ok nmX1 hown hK hT (cs_kN hS) (by decide) rfl 8 (by decide) (hts _ (tw_c tw_38)) rfl rfl (x := (g8 + 1)) rfl rfl dX1_putOn_94 (fun H locs hT => ?_)
    exact hret _ (hv_si (hv_sq (hv_sp (hv_sp (hv_si (hv_si (hv_si v 0 a (nI (t + d f0 t0))) 105 (fa 2) (g5 + 1)) 1 a g5) 7 a none) 7 z (some a)) (fa 6) ((nI ((t + d f0 t0) % 32)) : Int32).toNatClampNeg (some a)) 108 (fa 2) (g8 + 1)) _ _ _ _ _ dX1_putOn_97 hT (ci_appI hI hsum rfl hs32 (fun _ => rfl) (fun f c h1 h2 h3 => by have e5 := ci_fr5 h1; have e6 := ci_fr6 h1; simp [hv_si_i, hv_si_k, hv_si_p, hv_si_a, hv_si_q, hv_sp_i, hv_sp_k, hv_sp_p, hv_sp_a, hv_sp_q, hv_sa_i, hv_sa_k, hv_sa_p, hv_sa_a, hv_sa_q, hv_sq_i, hv_sq_k, hv_sq_p, hv_sq_a, hv_sq_q, h2, h3, e5, e6]) (fun c => by simp [hv_si_i, hv_si_k, hv_si_p, hv_si_a, hv_si_q, hv_sp_i, hv_sp_k, hv_sp_p, hv_sp_a, hv_sp_q, hv_sa_i, hv_sa_k, hv_sa_p, hv_sa_a, hv_sa_q, hv_sq_i, hv_sq_k, hv_sq_p, hv_sq_a, hv_sq_q]) (by simp [hv_si_i, hv_si_k, hv_si_p, hv_si_a, hv_si_q, hv_sp_i, hv_sp_k, hv_sp_p, hv_sp_a, hv_sp_q, hv_sa_i, hv_sa_k, hv_sa_p, hv_sa_a, hv_sa_q, hv_sq_i, hv_sq_k, hv_sq_p, hv_sq_a, hv_sq_q]; rw [eg8]; simp [hv_si_i, hv_si_k, hv_si_p, hv_si_a, hv_si_q, hv_sp_i, hv_sp_k, hv_sp_p, hv_sp_a, hv_sp_q, hv_sa_i, hv_sa_k, hv_sa_p, hv_sa_a, hv_sa_q, hv_sq_i, hv_sq_k, hv_sq_p, hv_sq_a, hv_sq_q]) (fun f c h7 => by simp [hv_si_i, hv_si_k, hv_si_p, hv_si_a, hv_si_q, hv_sp_i, hv_sp_k, hv_sp_p, hv_sp_a, hv_sp_q, hv_sa_i, hv_sa_k, hv_sa_p, hv_sa_a, hv_sa_q, hv_sq_i, hv_sq_k, hv_sq_p, hv_sq_a, hv_sq_q, h7]) (fun _ _ => rfl) (fun c => by have h := ci_p7 (c := c) (o := hv_p v 7 c) hza; simpa [hv_si_i, hv_si_k, hv_si_p, hv_si_a, hv_si_q, hv_sp_i, hv_sp_k, hv_sp_p, hv_sp_a, hv_sp_q, hv_sa_i, hv_sa_k, hv_sa_p, hv_sa_a, hv_sa_q, hv_sq_i, hv_sq_k, hv_sq_p, hv_sq_a, hv_sq_q, htl] using h) (fun j => by simp [hv_si_i, hv_si_k, hv_si_p, hv_si_a, hv_si_q, hv_sp_i, hv_sp_k, hv_sp_p, hv_sp_a, hv_sp_q, hv_sa_i, hv_sa_k, hv_sa_p, hv_sa_a, hv_sa_q, hv_sq_i, hv_sq_k, hv_sq_p, hv_sq_a, hv_sq_q, cs_cl32 hs32, htl, ci_56 hS]) (fun j => by simp [hv_si_i, hv_si_k, hv_si_p, hv_si_a, hv_si_q, hv_sp_i, hv_sp_k, hv_sp_p, hv_sp_a, hv_sp_q, hv_sa_i, hv_sa_k, hv_sa_p, hv_sa_a, hv_sa_q, hv_sq_i, hv_sq_k, hv_sq_p, hv_sq_a, hv_sq_q, cs_cl32 hs32, htl, (ci_56 hS).symm]) (fun c j h5 h6 => by simp [hv_si_i, hv_si_k, hv_si_p, hv_si_a, hv_si_q, hv_sp_i, hv_sp_k, hv_sp_p, hv_sp_a, hv_sp_q, hv_sa_i, hv_sa_k, hv_sa_p, hv_sa_a, hv_sa_q, hv_sq_i, hv_sq_k, hv_sq_p, hv_sq_a, hv_sq_q, h5, h6]) rfl rfl) (by decide) (by decide)

set_option maxHeartbeats 4000000 in
set_option maxRecDepth 100000 in
theorem c_first (l : Launch) (D : va_G) (tc : Nat → ClassId) {fa : Nat → Nat} {n : Nat} {v : hv_V} (hS : cs_S fa n v) {t : Nat} (ht4 : t ≤ 4000) (ht : hv_i v 104 (fa 2) = nI t) : Met l yX1_first (Cond.code yX1_first cX1_first 2 (some (.object "CommitSites$Message")) :: lw_B) ({ frames := 0, cells := 0, slots := 0, locals := 0 }) (va_Pc [.ref (fa 2)] (hv_Pre D tc v)) (va_Qq (fun (r : Option Nat) (v1 : hv_V) => v1 = v ∧ (r = none ∨ ∃ s a, s < 32 ∧ r = some a ∧ hv_q v (fa 5) s = some a)) (hv_Post D tc (hv_A v)) (hv_A v)) (0) (0) (hv_A v) := by
  refine hv_metq l (by decide) (Nat.le_of_ble_eq_true rfl) ?_
  intro p e s m args below meth c Q X hret hK hz H locs ls hT hl
  obtain ⟨hx, hb, hml, hts, hown, hin0⟩ := X
  have hown : s.vm.findClass "CommitSites$Network" = some m.cls := hown
  have hl : lv_has ls 2 [(0, .ref (fa 2))] := hl
  refine lv_aload_n hx hb dX1_first_0 rfl (lv_at hl 0 rfl) ?_
  refine hv_geti (ci := 1) (C := RX1) (T := TX1) (N := 9) hx hb hts (tw_cs in_X1) hown hK hT (cs_kN hS) (by decide) rfl 8 (by decide) (hts _ (tw_c tw_38)) rfl dX1_first_1 ?_
  refine lv_topi (fun g1 eg1 => ?_)
  refine lv_if_ne (tgt := 9) hx hb dX1_first_4 (by decide) (fun c4 => ?_) (fun c4 => ?_)
  · skip
    refine lv_aload_n hx hb dX1_first_9 rfl (lv_at hl 0 rfl) ?_
    refine hv_geti (ci := 1) (C := RX1) (T := TX1) (N := 9) hx hb hts (tw_cs in_X1) hown hK hT (cs_kN hS) (by decide) rfl 4 (by decide) (hts _ (tw_c tw_31)) rfl dX1_first_10 ?_
    refine lv_topi (fun g2 eg2 => ?_)
    have eg2 : g2 = (nI t) := by rw [eg2]; exact ht
    subst eg2
    refine lv_istore_n (lv' := [(1, _), (0, _)]) hx hb dX1_first_13 rfl hl (by decide) rfl (fun ls hl => ?_)
    have hL14 : ∀ (N9 : Nat) (i : Nat) (H : Heap) (locs : List Loc) (ls : Array Slot), t ≤ i → i ≤ t + 21 → t + 21 < i + N9 → hv_St (hv_A v) s D tc v H locs → lv_has ls 2 [(0, .ref (fa 2)), (1, .int (nI i))] → W p l e ({ frames := 0, cells := 0, slots := 0, locals := 0 } : Room) s m args below meth c H locs (0) (0) Q (F0 m 14 ls []) := by
      intro N9
      induction N9 with
      | zero =>
        intro i H locs ls hge hle hN hT hl
        exfalso
        omega
      | succ N9 ih14 =>
        intro i H locs ls hge hle hN hT hl
        refine lv_iload_n hx hb dX1_first_14 rfl (lv_at hl 1 rfl) ?_
        refine lv_aload_n hx hb dX1_first_15 rfl (lv_at hl 0 rfl) ?_
        refine hv_geti (ci := 1) (C := RX1) (T := TX1) (N := 9) hx hb hts (tw_cs in_X1) hown hK hT (cs_kN hS) (by decide) rfl 4 (by decide) (hts _ (tw_c tw_31)) rfl dX1_first_16 ?_
        refine lv_topi (fun g3 eg3 => ?_)
        have eg3 : g3 = (nI t) := by rw [eg3]; exact ht
        subst eg3
        refine lv_bipush (v := 20) hx hb dX1_first_19 (by decide) ?_
        refine lv_iadd hx hb dX1_first_21 ?_
        refine hv_as (x := ((nI t) + 20)) (y := (nI (t + 20))) (nI_add _ 20) ?_
        refine lv_icmp_gt (tgt := 53) hx hb dX1_first_22 (by decide) (fun c22 => ?_) (fun c22 => ?_)
        · skip
          refine lv_null hx hb dX1_first_53 ?_
          exact hret _ _ none v _ _ _ _ _ dX1_first_54 rfl hT ⟨rfl, Or.inl rfl⟩ (by decide) (by decide)
        · skip
          have hlti : i ≤ t + 20 := by
            rcases Nat.lt_or_ge (t + 20) i with q | q
            · exact absurd ((nI_ltI (by omega) (by omega)).mpr q) c22
            · exact q
          have hm32 : i % 32 < 32 := Nat.mod_lt _ (by decide)
          cases hh : hv_q v (fa 5) (i % 32) with
          | none =>
            skip
            refine lv_aload_n hx hb dX1_first_25 rfl (lv_at hl 0 rfl) ?_
            refine hv_gets (ci := 1) (C := RX1) (T := TX1) (N := 9) hx hb hts (tw_cs in_X1) hown hK hT (cs_kN hS) (by decide) rfl 1 (by decide) (hts _ (tw_c tw_28)) rfl (x := (fa 5)) (cs_pH hS) dX1_first_26 ?_
            refine lv_iload_n hx hb dX1_first_29 rfl (lv_at hl 1 rfl) ?_
            refine lv_bipush (v := 32) hx hb dX1_first_30 (by decide) ?_
            refine lv_irem hx hb dX1_first_32 (by decide) ?_
            refine hv_as (x := ((nI i) - (nI i) / 32 * 32)) (y := (nI (i % 32))) (cs_rem (by omega) rfl) ?_
            refine hv_aldn (t := 1) hx hb hK hT (cs_kH hS) rfl rfl (cs_in32 hm32) (by rw [cs_cl32 hm32]; exact hh) dX1_first_33 ?_
            refine lv_ifnullN (tgt := 47) hx hb dX1_first_34 (by decide) ?_
            refine lv_iinc (v := (nI (i + 1))) (lv' := [(1, _), (0, _)]) hx hb dX1_first_47 hl (k := 1) rfl (nI_1 _) (by decide) rfl (fun ls hl => ?_)
            refine lv_goto (tgt := 14) hx hb dX1_first_50 (by decide) ?_
            exact ih14 (i + 1) H locs ls (by omega) (by omega) (by omega) hT (lv_sub hl [1, 0] rfl)
          | some z =>
            skip
            refine lv_aload_n hx hb dX1_first_25 rfl (lv_at hl 0 rfl) ?_
            refine hv_gets (ci := 1) (C := RX1) (T := TX1) (N := 9) hx hb hts (tw_cs in_X1) hown hK hT (cs_kN hS) (by decide) rfl 1 (by decide) (hts _ (tw_c tw_28)) rfl (x := (fa 5)) (cs_pH hS) dX1_first_26 ?_
            refine lv_iload_n hx hb dX1_first_29 rfl (lv_at hl 1 rfl) ?_
            refine lv_bipush (v := 32) hx hb dX1_first_30 (by decide) ?_
            refine lv_irem hx hb dX1_first_32 (by decide) ?_
            refine hv_as (x := ((nI i) - (nI i) / 32 * 32)) (y := (nI (i % 32))) (cs_rem (by omega) rfl) ?_
            refine hv_alds (t := 1) hx hb hK hT (cs_kH hS) rfl rfl (cs_in32 hm32) (x := z) (by rw [cs_cl32 hm32]; exact hh) dX1_first_33 ?_
            refine lv_ifnull hx hb dX1_first_34 ?_
            refine lv_aload_n hx hb dX1_first_37 rfl (lv_at hl 0 rfl) ?_
            refine hv_gets (ci := 1) (C := RX1) (T := TX1) (N := 9) hx hb hts (tw_cs in_X1) hown hK hT (cs_kN hS) (by decide) rfl 1 (by decide) (hts _ (tw_c tw_28)) rfl (x := (fa 5)) (cs_pH hS) dX1_first_38 ?_
            refine lv_iload_n hx hb dX1_first_41 rfl (lv_at hl 1 rfl) ?_
            refine lv_bipush (v := 32) hx hb dX1_first_42 (by decide) ?_
            refine lv_irem hx hb dX1_first_44 (by decide) ?_
            refine hv_as (x := ((nI i) - (nI i) / 32 * 32)) (y := (nI (i % 32))) (cs_rem (by omega) rfl) ?_
            refine hv_alds (t := 1) hx hb hK hT (cs_kH hS) rfl rfl (cs_in32 hm32) (x := z) (by rw [cs_cl32 hm32]; exact hh) dX1_first_45 ?_
            exact hret _ _ (some z) v _ _ _ _ _ dX1_first_46 rfl hT ⟨rfl, Or.inr ⟨i % 32, z, hm32, rfl, hh⟩⟩ (by decide) (by decide)
    exact hL14 22 t H locs ls (Nat.le_refl _) (by omega) (by omega) hT (lv_sub hl [1, 0] rfl)
  · skip
    refine lv_null hx hb dX1_first_7 ?_
    exact hret _ _ none v _ _ _ _ _ dX1_first_8 rfl hT ⟨rfl, Or.inl rfl⟩ (by decide) (by decide)
