set_option maxHeartbeats 4000000 in
set_option maxRecDepth 100000 in
theorem c_netInit (l : Launch) (D : va_G) (tc : Nat → ClassId) {v : hv_V} {a : Nat} (kA : hv_k v a = (2, 0)) : Met l yX1_init (Cond.code yX1_init cX1_init 3 none :: lw_B) ({ frames := 1, cells := 11, slots := 136, locals := 20 }) (va_Pc [.ref a] (hv_Pre D tc v)) (va_Qv (fun (v1 : hv_V) => cn_P a v v1) (hv_Post D tc (hv_A v)) (hv_A v)) (11) (136) (hv_A v) := by
  refine hv_metv l (by decide) (Nat.le_of_ble_eq_true rfl) ?_
  intro p e s m args below meth c Q X hret hK hz H locs ls hT hl
  obtain ⟨hx, hb, hml, hts, hown, hin0⟩ := X
  have hown : s.vm.findClass "CommitSites$Network" = some m.cls := hown
  have hl : lv_has ls 3 [(0, .ref a)] := hl
  have hal : a < hv_n v := hT.1.2.1 a (by rw [kA]; decide)
  have han : a ≠ hv_n v := by omega
  have hal1 : ¬ hv_n v ≤ a := by omega
  have hal2 : ¬ (hv_n v < a ∧ a ≤ hv_n v + 8) := by omega
  have hal3 : a ≠ hv_n v + 9 := by omega
  have hal4 : a ≠ hv_n v + 10 := by omega
  refine lv_aload_n hx hb dX1_init_0 rfl (lv_at hl 0 rfl) ?_
  refine W.objInit hx hb hown (hts _ (tw_c tw_21)) (hts _ (tw_c tw_12)) (hts _ (tw_c tw_13)) rfl (by rw [hml]; exact hl.1) rfl dX1_init_1 (Nat.le_of_ble_eq_true rfl) (Nat.le_of_ble_eq_true rfl) ?_
  refine W.eq (g2 := F0 m 4 ls []) rfl ?_
  refine lv_aload_n hx hb dX1_init_4 rfl (lv_at hl 0 rfl) ?_
  refine lv_bipush (v := 8) hx hb dX1_init_5 (by decide) ?_
  refine lv_bipush (v := 8) hx hb dX1_init_7 (by decide) ?_
  refine hv_mna (N := 8) (M := 8) hx hb hown (hts _ (tw_c tw_22)) (hts _ (tw_c tw_40)) hK hT (by decide) (by decide) rfl rfl (by decide) (by decide) (by show 0 + (1 + 8) ≤ 11; omega) (by show 0 + (8 + 8 * 8) ≤ 136; omega) dX1_init_9 (fun H hT => ?_)
  refine hv_putrF (ci := 1) (C := RX1) (T := TX1) (N := 9) hx hb hts (tw_cs in_X1) tyX1 tyX1_ok nmX1 hown hK hT (by simp [hv_si_i, hv_si_k, hv_si_p, hv_si_a, hv_si_q, hv_sp_i, hv_sp_k, hv_sp_p, hv_sp_a, hv_sp_q, hv_sa_i, hv_sa_k, hv_sa_p, hv_sa_a, hv_sa_q, hv_sq_i, hv_sq_k, hv_sq_p, hv_sq_a, hv_sq_q, hv_nw_k, hv_nw_i, hv_nw_p, hv_nw_a, hv_nw_q, hv_nw_n, hv_nw_t, hv_si_n, hv_si_t, hv_sp_n, hv_sp_t, hv_sa_n, hv_sa_t, hv_sq_n, hv_sq_t, hv_mn_k, hv_mn_i, hv_mn_p, hv_mn_a, hv_mn_q, hv_mn_n, hv_mn_t, kA, han, hal1, hal2, hal3, hal4]) (by decide) rfl 0 (by decide) (hts _ (tw_c tw_26)) rfl rfl hin0 rfl (some (hv_n v)) rfl rfl rfl dX1_init_13 (fun H locs hT => ?_)
  refine lv_aload_n hx hb dX1_init_16 rfl (lv_at hl 0 rfl) ?_
  refine lv_bipush (v := 32) hx hb dX1_init_17 (by decide) ?_
  refine hv_newq (t := 1) (N := 32) hx hb hown (hts _ (tw_c tw_24)) (Cond.arrayOver_alike (Vm.Alike.refl _) hK.2.2.2.2.1) rfl hK hT (by decide) (by decide) (by decide) (by show 0 + 1 + 8 + 1 ≤ 11; omega) (by show 0 + 8 + 8 * 8 + 32 ≤ 136; omega) dX1_init_19 (fun H hT => ?_)
  refine hv_putrF (ci := 1) (C := RX1) (T := TX1) (N := 9) hx hb hts (tw_cs in_X1) tyX1 tyX1_ok nmX1 hown hK hT (by simp [hv_si_i, hv_si_k, hv_si_p, hv_si_a, hv_si_q, hv_sp_i, hv_sp_k, hv_sp_p, hv_sp_a, hv_sp_q, hv_sa_i, hv_sa_k, hv_sa_p, hv_sa_a, hv_sa_q, hv_sq_i, hv_sq_k, hv_sq_p, hv_sq_a, hv_sq_q, hv_nw_k, hv_nw_i, hv_nw_p, hv_nw_a, hv_nw_q, hv_nw_n, hv_nw_t, hv_si_n, hv_si_t, hv_sp_n, hv_sp_t, hv_sa_n, hv_sa_t, hv_sq_n, hv_sq_t, hv_mn_k, hv_mn_i, hv_mn_p, hv_mn_a, hv_mn_q, hv_mn_n, hv_mn_t, kA, han, hal1, hal2, hal3, hal4]) (by decide) rfl 1 (by decide) (hts _ (tw_c tw_28)) rfl rfl hin0 rfl (some (hv_n (hv_sp (hv_mn v 8 8) 100 a (some (hv_n v))))) rfl rfl rfl dX1_init_22 (fun H locs hT => ?_)
  refine lv_aload_n hx hb dX1_init_25 rfl (lv_at hl 0 rfl) ?_
  refine lv_bipush (v := 32) hx hb dX1_init_26 (by decide) ?_
  refine hv_newq (t := 1) (N := 32) hx hb hown (hts _ (tw_c tw_24)) (Cond.arrayOver_alike (Vm.Alike.refl _) hK.2.2.2.2.1) rfl hK hT (by decide) (by decide) (by decide) (by show 0 + 1 + 8 + 1 + 1 ≤ 11; omega) (by show 0 + 8 + 8 * 8 + 32 + 32 ≤ 136; omega) dX1_init_28 (fun H hT => ?_)
  refine hv_putrF (ci := 1) (C := RX1) (T := TX1) (N := 9) hx hb hts (tw_cs in_X1) tyX1 tyX1_ok nmX1 hown hK hT (by simp [hv_si_i, hv_si_k, hv_si_p, hv_si_a, hv_si_q, hv_sp_i, hv_sp_k, hv_sp_p, hv_sp_a, hv_sp_q, hv_sa_i, hv_sa_k, hv_sa_p, hv_sa_a, hv_sa_q, hv_sq_i, hv_sq_k, hv_sq_p, hv_sq_a, hv_sq_q, hv_nw_k, hv_nw_i, hv_nw_p, hv_nw_a, hv_nw_q, hv_nw_n, hv_nw_t, hv_si_n, hv_si_t, hv_sp_n, hv_sp_t, hv_sa_n, hv_sa_t, hv_sq_n, hv_sq_t, hv_mn_k, hv_mn_i, hv_mn_p, hv_mn_a, hv_mn_q, hv_mn_n, hv_mn_t, kA, han, hal1, hal2, hal3, hal4]) (by decide) rfl 2 (by decide) (hts _ (tw_c tw_29)) rfl rfl hin0 rfl (some (hv_n (hv_sp (hv_nw (hv_sp (hv_mn v 8 8) 100 a (some (hv_n v))) (102 + 1, 32) 32) 101 a (some (hv_n (hv_sp (hv_mn v 8 8) 100 a (some (hv_n v)))))))) rfl rfl rfl dX1_init_31 (fun H locs hT => ?_)
  obtain ⟨V0, eV0⟩ : ∃ z, z = (hv_sp (hv_nw (hv_sp (hv_nw (hv_sp (hv_mn v 8 8) 100 a (some (hv_n v))) (102 + 1, 32) 32) 101 a (some (hv_n (hv_sp (hv_mn v 8 8) 100 a (some (hv_n v)))))) (102 + 1, 32) 32) 102 a (some (hv_n (hv_sp (hv_nw (hv_sp (hv_mn v 8 8) 100 a (some (hv_n v))) (102 + 1, 32) 32) 101 a (some (hv_n (hv_sp (hv_mn v 8 8) 100 a (some (hv_n v))))))))) := ⟨_, rfl⟩
  have hT : hv_St (hv_A v) s D tc V0 H locs := by rw [eV0]; exact hT
  have kA0 : hv_k V0 a = (2, 0) := by rw [eV0]; simp only [hv_si_i, hv_si_k, hv_si_p, hv_si_a, hv_si_q, hv_sp_i, hv_sp_k, hv_sp_p, hv_sp_a, hv_sp_q, hv_sa_i, hv_sa_k, hv_sa_p, hv_sa_a, hv_sa_q, hv_sq_i, hv_sq_k, hv_sq_p, hv_sq_a, hv_sq_q, hv_nw_k, hv_nw_i, hv_nw_p, hv_nw_a, hv_nw_q, hv_mn_k, hv_mn_i, hv_mn_p, hv_mn_a, hv_mn_q]; (repeat' split) <;> first | rfl | (exfalso; omega) | (exfalso; simp only [hv_nw_n, hv_mn_n, hv_si_n, hv_sp_n, hv_sa_n, hv_sq_n, hv_nw_t, hv_mn_t, hv_si_t, hv_sp_t, hv_sa_t, hv_sq_t] at * <;> omega) | (exfalso; simp_all; done) | exact kA
  have kD0 : hv_k V0 (hv_n v) = (104, 8) := by rw [eV0]; simp only [hv_si_i, hv_si_k, hv_si_p, hv_si_a, hv_si_q, hv_sp_i, hv_sp_k, hv_sp_p, hv_sp_a, hv_sp_q, hv_sa_i, hv_sa_k, hv_sa_p, hv_sa_a, hv_sa_q, hv_sq_i, hv_sq_k, hv_sq_p, hv_sq_a, hv_sq_q, hv_nw_k, hv_nw_i, hv_nw_p, hv_nw_a, hv_nw_q, hv_mn_k, hv_mn_i, hv_mn_p, hv_mn_a, hv_mn_q]; (repeat' split) <;> first | rfl | (exfalso; omega) | (exfalso; simp only [hv_nw_n, hv_mn_n, hv_si_n, hv_sp_n, hv_sa_n, hv_sq_n, hv_nw_t, hv_mn_t, hv_si_t, hv_sp_t, hv_sa_t, hv_sq_t] at * <;> omega) | (exfalso; simp_all; done) | exact kA
  have kR0 : ∀ i, i < 8 → hv_k V0 (hv_n v + 1 + i) = (100, 8) := fun i hi => by
    rw [eV0]
    simp only [hv_si_i, hv_si_k, hv_si_p, hv_si_a, hv_si_q, hv_sp_i, hv_sp_k, hv_sp_p, hv_sp_a, hv_sp_q, hv_sa_i, hv_sa_k, hv_sa_p, hv_sa_a, hv_sa_q, hv_sq_i, hv_sq_k, hv_sq_p, hv_sq_a, hv_sq_q, hv_nw_k, hv_nw_i, hv_nw_p, hv_nw_a, hv_nw_q, hv_mn_k, hv_mn_i, hv_mn_p, hv_mn_a, hv_mn_q]; (repeat' split) <;> first | rfl | (exfalso; omega) | (exfalso; simp only [hv_nw_n, hv_mn_n, hv_si_n, hv_sp_n, hv_sa_n, hv_sq_n, hv_nw_t, hv_mn_t, hv_si_t, hv_sp_t, hv_sa_t, hv_sq_t] at * <;> omega) | (exfalso; simp_all; done) | exact kA
  have k9 : hv_k V0 (hv_n v + 9) = (103, 32) := by rw [eV0, hv_sp_k, hv_nw_k, if_neg (by show ¬ (hv_n v + 9 = hv_n v + 1 + 8 + 1); omega), hv_sp_k, hv_nw_k]; exact if_pos rfl
  have k10 : hv_k V0 (hv_n v + 10) = (103, 32) := by rw [eV0, hv_sp_k, hv_nw_k]; exact if_pos rfl
  have pD0 : hv_p V0 100 a = some (hv_n v) := by rw [eV0]; simp only [hv_si_i, hv_si_k, hv_si_p, hv_si_a, hv_si_q, hv_sp_i, hv_sp_k, hv_sp_p, hv_sp_a, hv_sp_q, hv_sa_i, hv_sa_k, hv_sa_p, hv_sa_a, hv_sa_q, hv_sq_i, hv_sq_k, hv_sq_p, hv_sq_a, hv_sq_q, hv_nw_k, hv_nw_i, hv_nw_p, hv_nw_a, hv_nw_q, hv_mn_k, hv_mn_i, hv_mn_p, hv_mn_a, hv_mn_q]; (repeat' split) <;> first | rfl | (exfalso; omega) | (exfalso; simp only [hv_nw_n, hv_mn_n, hv_si_n, hv_sp_n, hv_sa_n, hv_sq_n, hv_nw_t, hv_mn_t, hv_si_t, hv_sp_t, hv_sa_t, hv_sq_t] at * <;> omega) | (exfalso; simp_all; done) | exact kA
  have qD0 : ∀ i, i < 8 → hv_q V0 (hv_n v) i = some (hv_n v + 1 + i) := fun i hi => by rw [eV0]; simp only [hv_si_i, hv_si_k, hv_si_p, hv_si_a, hv_si_q, hv_sp_i, hv_sp_k, hv_sp_p, hv_sp_a, hv_sp_q, hv_sa_i, hv_sa_k, hv_sa_p, hv_sa_a, hv_sa_q, hv_sq_i, hv_sq_k, hv_sq_p, hv_sq_a, hv_sq_q, hv_nw_k, hv_nw_i, hv_nw_p, hv_nw_a, hv_nw_q, hv_mn_k, hv_mn_i, hv_mn_p, hv_mn_a, hv_mn_q]; (repeat' split) <;> first | rfl | (exfalso; omega) | (exfalso; simp only [hv_nw_n, hv_mn_n, hv_si_n, hv_sp_n, hv_sa_n, hv_sq_n, hv_nw_t, hv_mn_t, hv_si_t, hv_sp_t, hv_sa_t, hv_sq_t] at * <;> omega) | (exfalso; simp_all; done) | exact kA
  refine lv_iconst (v := 0) hx hb dX1_init_34 (by decide) ?_
  refine hv_as (x := 0) (y := (nI 0)) nI_0.symm ?_
  refine lv_istore_n (lv' := [(1, _), (0, _)]) hx hb dX1_init_35 rfl hl (by decide) rfl (fun ls hl => ?_)
  have hL36 : ∀ (N9 : Nat) (i : Nat) (vL : hv_V) (H : Heap) (locs : List Loc) (ls : Array Slot), i ≤ 8 → 8 < i + N9 → cn_L V0 (hv_n v) i 0 vL → hv_St (hv_A v) s D tc vL H locs → lv_has ls 3 [(0, .ref a), (1, .int (nI i))] → W p l e ({ frames := 1, cells := 11, slots := 136, locals := 20 } : Room) s m args below meth c H locs (11) (136) Q (F0 m 36 ls []) := by
    intro N9
    induction N9 with
    | zero =>
      intro i vL H locs ls hle hN hL hT hl
      exfalso
      omega
    | succ N9 ih36 =>
      intro i vL H locs ls hle hN hL hT hl
      refine lv_iload_n hx hb dX1_init_36 rfl (lv_at hl 1 rfl) ?_
      refine lv_bipush (v := 8) hx hb dX1_init_37 (by decide) ?_
      refine lv_icmp_ge (tgt := 71) hx hb dX1_init_39 (by decide) (fun c39 => ?_) (fun c39 => ?_)
      · skip
        have h8 : i = 8 := cs_ge8 hle c39
        subst h8
        exact hret _ vL _ _ _ _ _ dX1_init_71 hT (by
      obtain ⟨l1, l2, l3, l4, l5, l6, l7, l8⟩ := hL
      have hk0 : ∀ c, c < hv_n v → hv_k V0 c = hv_k v c := fun c hc => by rw [eV0]; simp only [hv_si_i, hv_si_k, hv_si_p, hv_si_a, hv_si_q, hv_sp_i, hv_sp_k, hv_sp_p, hv_sp_a, hv_sp_q, hv_sa_i, hv_sa_k, hv_sa_p, hv_sa_a, hv_sa_q, hv_sq_i, hv_sq_k, hv_sq_p, hv_sq_a, hv_sq_q, hv_nw_k, hv_nw_i, hv_nw_p, hv_nw_a, hv_nw_q, hv_mn_k, hv_mn_i, hv_mn_p, hv_mn_a, hv_mn_q]; (repeat' split) <;> first | rfl | (exfalso; omega) | (exfalso; simp only [hv_nw_n, hv_mn_n, hv_si_n, hv_sp_n, hv_sa_n, hv_sq_n, hv_nw_t, hv_mn_t, hv_si_t, hv_sp_t, hv_sa_t, hv_sq_t] at * <;> omega) | (exfalso; simp_all; done) | exact kA
      refine ⟨fun c hc => by rw [l1, hk0 c hc], by rw [l1]; exact kD0, fun i hi => by rw [l1]; exact kR0 i hi, by rw [l1]; exact k9, by rw [l1]; exact k10, fun f c hc => ?_, fun f c hc hf => ?_, by rw [l3]; exact pD0, by rw [l3, eV0]; simp only [hv_si_i, hv_si_k, hv_si_p, hv_si_a, hv_si_q, hv_sp_i, hv_sp_k, hv_sp_p, hv_sp_a, hv_sp_q, hv_sa_i, hv_sa_k, hv_sa_p, hv_sa_a, hv_sa_q, hv_sq_i, hv_sq_k, hv_sq_p, hv_sq_a, hv_sq_q, hv_nw_k, hv_nw_i, hv_nw_p, hv_nw_a, hv_nw_q, hv_mn_k, hv_mn_i, hv_mn_p, hv_mn_a, hv_mn_q]; (repeat' split) <;> first | rfl | (exfalso; omega) | (exfalso; simp only [hv_nw_n, hv_mn_n, hv_si_n, hv_sp_n, hv_sa_n, hv_sq_n, hv_nw_t, hv_mn_t, hv_si_t, hv_sp_t, hv_sa_t, hv_sq_t] at * <;> omega) | (exfalso; simp_all; done) | exact kA, by rw [l3, eV0]; simp only [hv_si_i, hv_si_k, hv_si_p, hv_si_a, hv_si_q, hv_sp_i, hv_sp_k, hv_sp_p, hv_sp_a, hv_sp_q, hv_sa_i, hv_sa_k, hv_sa_p, hv_sa_a, hv_sa_q, hv_sq_i, hv_sq_k, hv_sq_p, hv_sq_a, hv_sq_q, hv_nw_k, hv_nw_i, hv_nw_p, hv_nw_a, hv_nw_q, hv_mn_k, hv_mn_i, hv_mn_p, hv_mn_a, hv_mn_q]; (repeat' split) <;> first | rfl | (exfalso; omega) | (exfalso; simp only [hv_nw_n, hv_mn_n, hv_si_n, hv_sp_n, hv_sa_n, hv_sq_n, hv_nw_t, hv_mn_t, hv_si_t, hv_sp_t, hv_sa_t, hv_sq_t] at * <;> omega) | (exfalso; simp_all; done) | exact kA, fun c e hc => ?_, fun i j hi hj => l8 i j hi hj (Or.inl hi), fun c e hc => ?_, fun i hi => by rw [l4]; exact qD0 i hi, fun e => ⟨by rw [l4, eV0]; simp only [hv_si_i, hv_si_k, hv_si_p, hv_si_a, hv_si_q, hv_sp_i, hv_sp_k, hv_sp_p, hv_sp_a, hv_sp_q, hv_sa_i, hv_sa_k, hv_sa_p, hv_sa_a, hv_sa_q, hv_sq_i, hv_sq_k, hv_sq_p, hv_sq_a, hv_sq_q, hv_nw_k, hv_nw_i, hv_nw_p, hv_nw_a, hv_nw_q, hv_mn_k, hv_mn_i, hv_mn_p, hv_mn_a, hv_mn_q]; (repeat' split) <;> first | rfl | (exfalso; omega) | (exfalso; simp only [hv_nw_n, hv_mn_n, hv_si_n, hv_sp_n, hv_sa_n, hv_sq_n, hv_nw_t, hv_mn_t, hv_si_t, hv_sp_t, hv_sa_t, hv_sq_t] at * <;> omega) | (exfalso; simp_all; done) | exact kA, by rw [l4, eV0]; simp only [hv_si_i, hv_si_k, hv_si_p, hv_si_a, hv_si_q, hv_sp_i, hv_sp_k, hv_sp_p, hv_sp_a, hv_sp_q, hv_sa_i, hv_sa_k, hv_sa_p, hv_sa_a, hv_sa_q, hv_sq_i, hv_sq_k, hv_sq_p, hv_sq_a, hv_sq_q, hv_nw_k, hv_nw_i, hv_nw_p, hv_nw_a, hv_nw_q, hv_mn_k, hv_mn_i, hv_mn_p, hv_mn_a, hv_mn_q]; (repeat' split) <;> first | rfl | (exfalso; omega) | (exfalso; simp only [hv_nw_n, hv_mn_n, hv_si_n, hv_sp_n, hv_sa_n, hv_sq_n, hv_nw_t, hv_mn_t, hv_si_t, hv_sp_t, hv_sa_t, hv_sq_t] at * <;> omega) | (exfalso; simp_all; done) | exact kA⟩, by rw [l5, eV0]; simp only [hv_nw_n, hv_mn_n, hv_si_n, hv_sp_n, hv_sa_n, hv_sq_n, hv_nw_t, hv_mn_t, hv_si_t, hv_sp_t, hv_sa_t, hv_sq_t], by rw [l6, eV0]; simp only [hv_nw_n, hv_mn_n, hv_si_n, hv_sp_n, hv_sa_n, hv_sq_n, hv_nw_t, hv_mn_t, hv_si_t, hv_sp_t, hv_sa_t, hv_sq_t]⟩
      · rw [l2, eV0]; simp only [hv_si_i, hv_si_k, hv_si_p, hv_si_a, hv_si_q, hv_sp_i, hv_sp_k, hv_sp_p, hv_sp_a, hv_sp_q, hv_sa_i, hv_sa_k, hv_sa_p, hv_sa_a, hv_sa_q, hv_sq_i, hv_sq_k, hv_sq_p, hv_sq_a, hv_sq_q, hv_nw_k, hv_nw_i, hv_nw_p, hv_nw_a, hv_nw_q, hv_mn_k, hv_mn_i, hv_mn_p, hv_mn_a, hv_mn_q]; (repeat' split) <;> first | rfl | (exfalso; omega) | (exfalso; simp only [hv_nw_n, hv_mn_n, hv_si_n, hv_sp_n, hv_sa_n, hv_sq_n, hv_nw_t, hv_mn_t, hv_si_t, hv_sp_t, hv_sa_t, hv_sq_t] at * <;> omega) | (exfalso; simp_all; done) | exact kA
      · rw [l3, eV0]; simp only [hv_si_i, hv_si_k, hv_si_p, hv_si_a, hv_si_q, hv_sp_i, hv_sp_k, hv_sp_p, hv_sp_a, hv_sp_q, hv_sa_i, hv_sa_k, hv_sa_p, hv_sa_a, hv_sa_q, hv_sq_i, hv_sq_k, hv_sq_p, hv_sq_a, hv_sq_q, hv_nw_k, hv_nw_i, hv_nw_p, hv_nw_a, hv_nw_q, hv_mn_k, hv_mn_i, hv_mn_p, hv_mn_a, hv_mn_q]; (repeat' split) <;> first | rfl | (exfalso; omega) | (exfalso; simp only [hv_nw_n, hv_mn_n, hv_si_n, hv_sp_n, hv_sa_n, hv_sq_n, hv_nw_t, hv_mn_t, hv_si_t, hv_sp_t, hv_sa_t, hv_sq_t] at * <;> omega) | (exfalso; simp_all; done) | exact kA
      · rw [l7 c e (by omega), eV0]; simp only [hv_si_i, hv_si_k, hv_si_p, hv_si_a, hv_si_q, hv_sp_i, hv_sp_k, hv_sp_p, hv_sp_a, hv_sp_q, hv_sa_i, hv_sa_k, hv_sa_p, hv_sa_a, hv_sa_q, hv_sq_i, hv_sq_k, hv_sq_p, hv_sq_a, hv_sq_q, hv_nw_k, hv_nw_i, hv_nw_p, hv_nw_a, hv_nw_q, hv_mn_k, hv_mn_i, hv_mn_p, hv_mn_a, hv_mn_q]; (repeat' split) <;> first | rfl | (exfalso; omega) | (exfalso; simp only [hv_nw_n, hv_mn_n, hv_si_n, hv_sp_n, hv_sa_n, hv_sq_n, hv_nw_t, hv_mn_t, hv_si_t, hv_sp_t, hv_sa_t, hv_sq_t] at * <;> omega) | (exfalso; simp_all; done) | exact kA
      · rw [l4, eV0]; simp only [hv_si_i, hv_si_k, hv_si_p, hv_si_a, hv_si_q, hv_sp_i, hv_sp_k, hv_sp_p, hv_sp_a, hv_sp_q, hv_sa_i, hv_sa_k, hv_sa_p, hv_sa_a, hv_sa_q, hv_sq_i, hv_sq_k, hv_sq_p, hv_sq_a, hv_sq_q, hv_nw_k, hv_nw_i, hv_nw_p, hv_nw_a, hv_nw_q, hv_mn_k, hv_mn_i, hv_mn_p, hv_mn_a, hv_mn_q]; (repeat' split) <;> first | rfl | (exfalso; omega) | (exfalso; simp only [hv_nw_n, hv_mn_n, hv_si_n, hv_sp_n, hv_sa_n, hv_sq_n, hv_nw_t, hv_mn_t, hv_si_t, hv_sp_t, hv_sa_t, hv_sq_t] at * <;> omega) | (exfalso; simp_all; done) | exact kA) (by show 11 ≤ 11; omega) (by show 136 ≤ 136; omega)
      · skip
        have hi8 : i < 8 := cs_lp8 hle c39
        refine lv_iconst (v := 0) hx hb dX1_init_42 (by decide) ?_
        refine hv_as (x := 0) (y := (nI 0)) nI_0.symm ?_
        refine lv_istore_n (lv' := [(2, _), (0, _), (1, _)]) hx hb dX1_init_43 rfl hl (by decide) rfl (fun ls hl => ?_)
        have hL44 : ∀ (N9 : Nat) (j : Nat) (vM : hv_V) (H : Heap) (locs : List Loc) (ls : Array Slot), j ≤ 8 → 8 < j + N9 → cn_L V0 (hv_n v) i j vM → hv_St (hv_A v) s D tc vM H locs → lv_has ls 3 [(0, .ref a), (1, .int (nI i)), (2, .int (nI j))] → W p l e ({ frames := 1, cells := 11, slots := 136, locals := 20 } : Room) s m args below meth c H locs (11) (136) Q (F0 m 44 ls []) := by
          intro N9
          induction N9 with
          | zero =>
            intro j vM H locs ls hle2 hN2 hL hT hl
            exfalso
            omega
          | succ N9 ih44 =>
            intro j vM H locs ls hle2 hN2 hL hT hl
            refine lv_iload_n hx hb dX1_init_44 rfl (lv_at hl 2 rfl) ?_
            refine lv_bipush (v := 8) hx hb dX1_init_45 (by decide) ?_
            refine lv_icmp_ge (tgt := 65) hx hb dX1_init_47 (by decide) (fun c47 => ?_) (fun c47 => ?_)
            · skip
              have h8 : j = 8 := cs_ge8 hle2 c47
              subst h8
              refine lv_iinc (v := (nI (i + 1))) (lv' := [(1, _), (0, _), (2, _)]) hx hb dX1_init_65 hl (k := 1) rfl (nI_1 _) (by decide) rfl (fun ls hl => ?_)
              refine lv_goto (tgt := 36) hx hb dX1_init_68 (by decide) ?_
              exact ih36 (i + 1) vM H locs ls (by omega) (by omega) (cn_Lrow hL) hT (lv_sub hl [1, 0] rfl)
            · skip
              have hj8 : j < 8 := cs_lp8 hle2 c47
              refine lv_aload_n hx hb dX1_init_50 rfl (lv_at hl 0 rfl) ?_
              refine hv_gets (ci := 1) (C := RX1) (T := TX1) (N := 9) hx hb hts (tw_cs in_X1) hown hK hT (by rw [hL.1]; exact kA0) (by decide) rfl 0 (by decide) (hts _ (tw_c tw_26)) rfl (x := (hv_n v)) (by rw [hL.2.2.1]; exact pD0) dX1_init_51 ?_
              refine lv_iload_n hx hb dX1_init_54 rfl (lv_at hl 1 rfl) ?_
              refine hv_alds (t := 2) hx hb hK hT (by rw [hL.1]; exact kD0) rfl rfl (cs_in8 hi8) (x := (hv_n v + 1 + i)) (by rw [cs_cl hi8, hL.2.2.2.1]; exact qD0 i hi8) dX1_init_55 ?_
              refine lv_iload_n hx hb dX1_init_56 rfl (lv_at hl 2 rfl) ?_
              refine lv_iconst (v := 1) hx hb dX1_init_57 (by decide) ?_
              refine hv_iast (x := 1) hx hb hK hT (by rw [hL.1]; exact kR0 i hi8) (cs_in8 hj8) dX1_init_58 (fun H locs hT => ?_)
              refine lv_iinc (v := (nI (j + 1))) (lv' := [(2, _), (0, _), (1, _)]) hx hb dX1_init_59 hl (k := 2) rfl (nI_1 _) (by decide) rfl (fun ls hl => ?_)
              refine lv_goto (tgt := 44) hx hb dX1_init_62 (by decide) ?_
              exact ih44 (j + 1) (hv_sa vM (hv_n v + 1 + i) ((nI j) : Int32).toNatClampNeg 1) H locs ls (by omega) (by omega) (cn_Lput hj8 hL) hT (lv_sub hl [1, 2, 0] rfl)
        exact hL44 9 0 vL H locs ls (by omega) (by omega) hL hT (lv_sub hl [1, 2, 0] rfl)
  refine W.widen (k := 11) (n := 136) (by decide) (by decide) ?_
  exact hL36 9 0 V0 H locs ls (by omega) (by omega) (cn_L0 _ _) hT (lv_sub hl [1, 0] rfl)
