set_option maxHeartbeats 4000000 in
set_option maxRecDepth 100000 in
theorem c_init (l : Launch) (D : va_G) (tc : Nat → ClassId) {v : hv_V} {x : Nat} (kx0 : hv_k v x = (4, 0)) (h0 : ∀ f, hv_i v f x = 0) : Met l yX3_init (Cond.code yX3_init cX3_init 1 none :: lw_B) ({ frames := 2, cells := 14, slots := 158, locals := 42 }) (va_Pc [.ref x] (hv_Pre D tc v)) (va_Qv (fun (v1 : hv_V) => ∃ fa : Nat → Nat, fa 0 = x ∧ ci_I fa 0 (fun _ => 0) (fun _ => 0) 0 (fun _ _ => 1) (hv_n v + 14, hv_t v + 158) 0 [] v1) (hv_Post D tc (hv_A v)) (hv_A v)) (14) (158) (hv_A v) := by
  refine hv_metv l (by decide) (Nat.le_of_ble_eq_true rfl) ?_
  intro p e s m args below meth c Q X hret hK hz H locs ls hT hl
  obtain ⟨hx, hb, hml, hts, hown, hin0⟩ := X
  have hown : s.vm.findClass "CommitSites" = some m.cls := hown
  have hl : lv_has ls 1 [(0, .ref x)] := hl
  have kx := kx0
  have hxl : x < hv_n v := hT.1.2.1 x (by rw [kx]; decide)
  refine lv_aload_n hx hb dX3_init_0 rfl (lv_at hl 0 rfl) ?_
  refine W.objInit hx hb hown (hts _ (tw_c tw_11)) (hts _ (tw_c tw_12)) (hts _ (tw_c tw_13)) rfl (by rw [hml]; exact hl.1) rfl dX3_init_1 (Nat.le_of_ble_eq_true rfl) (Nat.le_of_ble_eq_true rfl) ?_
  refine W.eq (g2 := F0 m 4 ls []) rfl ?_
  refine lv_aload_n hx hb dX3_init_4 rfl (lv_at hl 0 rfl) ?_
  refine lv_bipush (v := 8) hx hb dX3_init_5 (by decide) ?_
  have hW0 := hT.1
  refine hv_newq (t := 0) (N := 8) hx hb hown (hts _ (tw_c tw_14)) (Cond.arrayOver_alike (Vm.Alike.refl _) hK.2.2.2.1) rfl hK hT (by decide) (by decide) (by decide) (by show 0 + 1 ≤ 14; omega) (by show 0 + 8 ≤ 158; omega) dX3_init_7 (fun H hT => ?_)
  have kx : hv_k (hv_nw v (102 + 0, 8) 8) x = (4, 0) := by rw [hv_nw_k, if_neg (hv_ne hW0 x (by rw [kx]; decide))]; exact kx
  refine hv_putrF (ci := 3) (C := RX3) (T := TX3) (N := 12) hx hb hts (tw_cs in_X3) tyX3 tyX3_ok nmX3 hown hK hT kx (by decide) rfl 0 (by decide) (hts _ (tw_c tw_47)) rfl rfl hin0 rfl (some (hv_n v)) rfl rfl rfl dX3_init_10 (fun H locs hT => ?_)
  refine lv_aload_n hx hb dX3_init_13 rfl (lv_at hl 0 rfl) ?_
  have hW0 := hT.1
  have kx : hv_k (hv_sp (hv_nw v (102 + 0, 8) 8) 300 x (some (hv_n v))) x = (4, 0) := kx
  refine hv_new (ci := 1) (C := RX1) (T := TX1) (N := 9) hx hb hts (tw_cs in_X1) tyX1 tyX1_ok hown (hts _ (tw_c tw_16)) (hts _ (tw_c tw_17)) (hts _ (tw_c tw_2)) hK hT (by decide) rfl hd_X1 (by show 0 + 1 + 1 ≤ 14; omega) (by show 0 + 8 + 9 ≤ 158; omega) dX3_init_14 (fun H hT => ?_)
  have kx : hv_k (hv_nw (hv_sp (hv_nw v (102 + 0, 8) 8) 300 x (some (hv_n v))) (2, 0) 9) x = (4, 0) := by rw [hv_nw_k, if_neg (hv_ne hW0 x (by rw [kx]; decide))]; exact kx
  refine lv_dup hx hb dX3_init_17 rfl ?_
  refine hv_callv (va_runI (As := []) (rest := [.ref (hv_n (hv_sp (hv_nw v (102 + 0, 8) 8) 300 x (some (hv_n v)))), .ref x]) ⟨hx, hb, hml, hown, hts⟩ (c_netInit l D tc (v := (hv_nw (hv_sp (hv_nw v (102 + 0, 8) 8) 300 x (some (hv_n v))) (2, 0) 9)) (a := (hv_n (hv_sp (hv_nw v (102 + 0, 8) 8) 300 x (some (hv_n v))))) (by rw [hv_nw_k]; exact if_pos rfl)) (cwI 0 hts (tw_I tw_20) rfl rfl rfl (hts _ (tw_c tw_2)) (hts _ (tw_c tw_18)) (hts _ (tw_c tw_19)) rfl (by decide +kernel) ⟨Nat.le_of_ble_eq_true rfl, Nat.le_of_ble_eq_true rfl⟩) (hv_preS hK hT.1) rfl rfl hl.1 rfl (lv_room (Nat.le_of_ble_eq_true rfl)) dX3_init_18 ⟨by show 0 + 1 + 1 + 11 ≤ 14; omega, by show 0 + 8 + 9 + 136 ≤ 158; omega⟩) hT (fun v4 H locs hp1 hT => ?_)
  have kx : hv_k v4 x = (4, 0) := by rw [hp1.1 x (by show x < hv_n v + 1 + 1; omega)]; exact kx
  refine hv_putrF (ci := 3) (C := RX3) (T := TX3) (N := 12) hx hb hts (tw_cs in_X3) tyX3 tyX3_ok nmX3 hown hK hT kx (by decide) rfl 1 (by decide) (hts _ (tw_c tw_48)) rfl rfl hin0 rfl (some (hv_n (hv_sp (hv_nw v (102 + 0, 8) 8) 300 x (some (hv_n v))))) rfl rfl rfl dX3_init_21 (fun H locs hT => ?_)
  refine lv_aload_n hx hb dX3_init_24 rfl (lv_at hl 0 rfl) ?_
  refine lv_iconst (v := 5) hx hb dX3_init_25 (by decide) ?_
  have hW0 := hT.1
  have kx : hv_k (hv_sp v4 301 x (some (hv_n (hv_sp (hv_nw v (102 + 0, 8) 8) 300 x (some (hv_n v)))))) x = (4, 0) := kx
  refine hv_newa (atype := .int) (t := 0) (N := 5) hx hb (by decide) (ty := .int) rfl rfl (Or.inl rfl) (hts _ (tw_c tw_40)) hK hT (by decide) (by decide) (by decide) (by show 0 + 1 + 1 + 11 + 1 ≤ 14; omega) (by show 0 + 8 + 9 + 136 + 5 ≤ 158; omega) dX3_init_26 (fun H hT => ?_)
  have kx : hv_k (hv_nw (hv_sp v4 301 x (some (hv_n (hv_sp (hv_nw v (102 + 0, 8) 8) 300 x (some (hv_n v)))))) (100 + 0, 5) 5) x = (4, 0) := by rw [hv_nw_k, if_neg (hv_ne hW0 x (by rw [kx]; decide))]; exact kx
  refine hv_putrF (ci := 3) (C := RX3) (T := TX3) (N := 12) hx hb hts (tw_cs in_X3) tyX3 tyX3_ok nmX3 hown hK hT kx (by decide) rfl 2 (by decide) (hts _ (tw_c tw_49)) rfl rfl hin0 rfl (some (hv_n (hv_sp v4 301 x (some (hv_n (hv_sp (hv_nw v (102 + 0, 8) 8) 300 x (some (hv_n v)))))))) rfl rfl rfl dX3_init_28 (fun H locs hT => ?_)
  refine lv_aload_n hx hb dX3_init_31 rfl (lv_at hl 0 rfl) ?_
  refine lv_bipush (v := 10) hx hb dX3_init_32 (by decide) ?_
  refine hv_puti (ci := 3) (C := RX3) (T := TX3) (N := 12) hx hb hts (tw_cs in_X3) tyX3 tyX3_ok nmX3 hown hK hT kx (by decide) rfl 7 (by decide) (hts _ (tw_c tw_54)) rfl rfl (x := 10) rfl rfl dX3_init_34 (fun H locs hT => ?_)
  refine lv_aload_n hx hb dX3_init_37 rfl (lv_at hl 0 rfl) ?_
  refine hv_callv (va_runV (As := []) (rest := []) ⟨hx, hb, hml, hown, hts⟩ (c_shareQuorums l D tc (v := (hv_si (hv_sp (hv_nw (hv_sp v4 301 x (some (hv_n (hv_sp (hv_nw v (102 + 0, 8) 8) 300 x (some (hv_n v)))))) (100 + 0, 5) 5) 302 x (some (hv_n (hv_sp v4 301 x (some (hv_n (hv_sp (hv_nw v (102 + 0, 8) 8) 300 x (some (hv_n v))))))))) 307 x 10)) (a := x) kx) (cwV 0 hts (tw_V tw_41 tw_42 tw_481 tw_1 tw_43) rfl rfl rfl (by decide +kernel) ⟨Nat.le_of_ble_eq_true rfl, Nat.le_of_ble_eq_true rfl⟩) (hv_preV (ci := 3) hK hT.1 kx (by decide) rfl rfl) rfl rfl hl.1 rfl (lv_room (Nat.le_of_ble_eq_true rfl)) dX3_init_38 ⟨by show 0 + 1 + 1 + 11 + 1 + 0 ≤ 14; omega, by show 0 + 8 + 9 + 136 + 5 + 0 ≤ 158; omega⟩) hT (fun v2 H locs hp3 hT => ?_)
  obtain ⟨q1, q2, ev9⟩ := hp3
  rw [ev9] at hT
  have hI : ci_I (cn_ad x (hv_n v)) 0 (fun _ => 0) (fun _ => 0) 0 (fun _ _ => 1) (hv_n v + 14, hv_t v + 158) 0 [] (hv_si (hv_si (hv_si (hv_sp (hv_nw (hv_sp v4 301 x (some (hv_n (hv_sp (hv_nw v (102 + 0, 8) 8) 300 x (some (hv_n v)))))) (100 + 0, 5) 5) 302 x (some (hv_n (hv_sp v4 301 x (some (hv_n (hv_sp (hv_nw v (102 + 0, 8) 8) 300 x (some (hv_n v))))))))) 307 x 10) 305 x q1) 306 x q2) := cn_I kx0 h0 hxl hp1
  have hS := hI.1
  refine lv_aload_n hx hb dX3_init_41 rfl (lv_at hl 0 rfl) ?_
  refine lv_iconst (v := 0) hx hb dX3_init_42 (by decide) ?_
  refine lv_iconst (v := (-1)) hx hb dX3_init_43 (by decide) ?_
  refine lv_iconst (v := (-1)) hx hb dX3_init_44 (by decide) ?_
  refine lv_iconst (v := 0) hx hb dX3_init_45 (by decide) ?_
  refine lv_iconst (v := 0) hx hb dX3_init_46 (by decide) ?_
  refine hv_callv (va_runV (As := [.int 0, .int (-1), .int (-1), .int 0, .int 0]) (rest := []) ⟨hx, hb, hml, hown, hts⟩ (c_note l D tc hI 0 (-1) (-1) 0 0) (cwV 5 hts (tw_V tw_44 tw_45 tw_482 tw_1 tw_46) rfl rfl rfl (by decide +kernel) ⟨Nat.le_of_ble_eq_true rfl, Nat.le_of_ble_eq_true rfl⟩) (hv_preV (ci := 3) hK hT.1 (cs_kX hS) (by decide) rfl rfl) rfl rfl hl.1 rfl (lv_room (Nat.le_of_ble_eq_true rfl)) dX3_init_47 ⟨by show 0 + 1 + 1 + 11 + 1 + 0 + 0 ≤ 14; omega, by show 0 + 8 + 9 + 136 + 5 + 0 + 0 ≤ 158; omega⟩) hT (fun v4 H locs hp5 hT => ?_)
  have hI := hp5
  exact hret _ v4 _ _ _ _ _ dX3_init_50 hT ⟨_, rfl, hI⟩ (by show 0 + 1 + 1 + 11 + 1 + 0 + 0 ≤ 14; omega) (by show 0 + 8 + 9 + 136 + 5 + 0 + 0 ≤ 158; omega)
