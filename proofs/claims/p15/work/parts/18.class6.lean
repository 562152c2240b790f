theorem hv_nul {p : Program} {l : Launch} {e : Env} {R : Room} {s : State} {m : MethodId} {args : Array Value} {below : List Frame} {meth : Method} {c : Code} {H : Heap} {locs : List Loc} {cells slots : Nat} {Q : State → Prop} {pc : Nat} {ls : Array Slot} {rest : List Value} (k : W p l e R s m args below meth c H locs cells slots Q (F0 m pc ls (.null :: rest))) : W p l e R s m args below meth c H locs cells slots Q (F0 m pc ls (va_rf none :: rest)) := k
theorem hv_som {p : Program} {l : Launch} {e : Env} {R : Room} {s : State} {m : MethodId} {args : Array Value} {below : List Frame} {meth : Method} {c : Code} {H : Heap} {locs : List Loc} {cells slots : Nat} {Q : State → Prop} {pc : Nat} {ls : Array Slot} {rest : List Value} {a : Nat} (k : W p l e R s m args below meth c H locs cells slots Q (F0 m pc ls (.ref a :: rest))) : W p l e R s m args below meth c H locs cells slots Q (F0 m pc ls (va_rf (some a) :: rest)) := k
theorem cs_lpM {i : Nat} (hi : i ≤ 1000000) (h : ¬ (1000000 : Int32) ≤ nI i) : i < 1000000 := by
  rcases Nat.lt_or_ge i 1000000 with q | q
  · exact q
  · exact absurd (show nI 1000000 ≤ nI i from nI_le q (by omega)) h

set_option maxHeartbeats 4000000 in
set_option maxRecDepth 100000 in
theorem c_receive (l : Launch) (D : va_G) (tc : Nat → ClassId) {fa : Nat → Nat} {n : Nat} {w u : Nat → Nat} {b : Nat} {d : Nat → Nat → Nat} {g : Nat × Nat} {k : Nat} {hd : List Nat} {v : hv_V} {a : Nat} (hI : ci_I fa n w u b d g k (a :: hd) v) (hh : (a :: hd).length ≤ 1) : Met l yX3_receive (Cond.code yX3_receive cX3_receive 2 none :: lw_B) ({ frames := 6, cells := 16, slots := 128, locals := 137 }) (va_Pc [.ref (fa 0), .ref a] (hv_Pre D tc v)) (va_Qv (fun (v1 : hv_V) => ∃ k1, ci_I fa n w u b d g k1 (a :: hd) v1) (hv_Post D tc (hv_A v)) (hv_A v)) (16) (128) (hv_A v) := by
  refine hv_metv l (by decide) (Nat.le_of_ble_eq_true rfl) ?_
  intro p e s m args below meth c Q X hret hK hz H locs ls hT hl
  obtain ⟨hx, hb, hml, hts, hown, hin0⟩ := X
  have hown : s.vm.findClass "CommitSites" = some m.cls := hown
  have hl : lv_has ls 2 [(0, .ref (fa 0)), (1, .ref a)] := hl
  have hS := hI.1
  obtain ⟨hka, f0, t0, hf0, ht0, hfr, hto⟩ := ci_hdI hI
  refine lv_aload_n hx hb dX3_receive_0 rfl (lv_at hl 1 rfl) ?_
  refine hv_geti (ci := 0) (C := RX0) (T := TX0) (N := 8) hx hb hts (tw_cs in_X0) hown hK hT hka (by decide) rfl 2 (by decide) (hts _ (tw_c tw_153)) rfl dX3_receive_1 ?_
  refine lv_topi (fun g1 eg1 => ?_)
  by_cases t4_1 : g1 = 1
  · skip
    refine lv_tableIn (off := 56) (tgt := 60) hx hb dX3_receive_4 (by rw [t4_1]; decide) (by rw [t4_1]; decide) (by rw [t4_1]; rfl) (by decide) ?_
    refine lv_aload_n hx hb dX3_receive_60 rfl (lv_at hl 0 rfl) ?_
    refine lv_aload_n hx hb dX3_receive_61 rfl (lv_at hl 1 rfl) ?_
    refine hv_geti (ci := 0) (C := RX0) (T := TX0) (N := 8) hx hb hts (tw_cs in_X0) hown hK hT hka (by decide) rfl 4 (by decide) (hts _ (tw_c tw_157)) rfl dX3_receive_62 ?_
    refine lv_topi (fun g2 eg2 => ?_)
    have eg2 : g2 = (nI t0) := by rw [eg2]; exact hto
    subst eg2
    refine lv_aload_n hx hb dX3_receive_65 rfl (lv_at hl 1 rfl) ?_
    refine hv_geti (ci := 0) (C := RX0) (T := TX0) (N := 8) hx hb hts (tw_cs in_X0) hown hK hT hka (by decide) rfl 3 (by decide) (hts _ (tw_c tw_155)) rfl dX3_receive_66 ?_
    refine lv_topi (fun g3 eg3 => ?_)
    have eg3 : g3 = (nI f0) := by rw [eg3]; exact hfr
    subst eg3
    refine hv_callv (va_runV (As := [.int (nI t0), .int (nI f0)]) (rest := []) ⟨hx, hb, hml, hown, hts⟩ (c_onAskVote l D tc hI ht0 hf0 hh) (cwV 2 hts (tw_V tw_233 tw_234 tw_499 tw_1 tw_235) rfl rfl rfl (by decide +kernel) ⟨Nat.le_of_ble_eq_true rfl, Nat.le_of_ble_eq_true rfl⟩) (hv_preV (ci := 3) hK hT.1 (cs_kX hS) (by decide) rfl rfl) rfl rfl hl.1 rfl (lv_room (Nat.le_of_ble_eq_true rfl)) dX3_receive_69 ⟨by show 0 + 8 ≤ 16; omega, by show 0 + 64 ≤ 128; omega⟩) hT (fun v4 H locs hp5 hT => ?_)
    obtain ⟨_, hI⟩ := hp5
    have hS := hI.1
    refine lv_goto (tgt := 226) hx hb dX3_receive_72 (by decide) ?_
    exact hret _ v4 _ _ _ _ _ dX3_receive_226 hT ⟨_, hI⟩ (by show 0 + 8 ≤ 16; omega) (by show 0 + 64 ≤ 128; omega)
  by_cases t4_2 : g1 = 2
  · skip
    refine lv_tableIn (off := 71) (tgt := 75) hx hb dX3_receive_4 (by rw [t4_2]; decide) (by rw [t4_2]; decide) (by rw [t4_2]; rfl) (by decide) ?_
    refine lv_aload_n hx hb dX3_receive_75 rfl (lv_at hl 0 rfl) ?_
    refine lv_aload_n hx hb dX3_receive_76 rfl (lv_at hl 1 rfl) ?_
    refine hv_geti (ci := 0) (C := RX0) (T := TX0) (N := 8) hx hb hts (tw_cs in_X0) hown hK hT hka (by decide) rfl 4 (by decide) (hts _ (tw_c tw_157)) rfl dX3_receive_77 ?_
    refine lv_topi (fun g6 eg6 => ?_)
    have eg6 : g6 = (nI t0) := by rw [eg6]; exact hto
    subst eg6
    refine lv_aload_n hx hb dX3_receive_80 rfl (lv_at hl 1 rfl) ?_
    refine hv_geti (ci := 0) (C := RX0) (T := TX0) (N := 8) hx hb hts (tw_cs in_X0) hown hK hT hka (by decide) rfl 3 (by decide) (hts _ (tw_c tw_155)) rfl dX3_receive_81 ?_
    refine lv_topi (fun g7 eg7 => ?_)
    have eg7 : g7 = (nI f0) := by rw [eg7]; exact hfr
    subst eg7
    refine hv_callv (va_runV (As := [.int (nI t0), .int (nI f0)]) (rest := []) ⟨hx, hb, hml, hown, hts⟩ (c_onYes l D tc hI ht0 hf0 hh) (cwV 2 hts (tw_V tw_236 tw_237 tw_500 tw_1 tw_238) rfl rfl rfl (by decide +kernel) ⟨Nat.le_of_ble_eq_true rfl, Nat.le_of_ble_eq_true rfl⟩) (hv_preV (ci := 3) hK hT.1 (cs_kX hS) (by decide) rfl rfl) rfl rfl hl.1 rfl (lv_room (Nat.le_of_ble_eq_true rfl)) dX3_receive_84 ⟨by show 0 + 16 ≤ 16; omega, by show 0 + 128 ≤ 128; omega⟩) hT (fun v8 H locs hp9 hT => ?_)
    obtain ⟨_, hI⟩ := hp9
    have hS := hI.1
    refine lv_goto (tgt := 226) hx hb dX3_receive_87 (by decide) ?_
    exact hret _ v8 _ _ _ _ _ dX3_receive_226 hT ⟨_, hI⟩ (by show 0 + 16 ≤ 16; omega) (by show 0 + 128 ≤ 128; omega)
  by_cases t4_3 : g1 = 3
  · skip
    refine lv_tableIn (off := 86) (tgt := 90) hx hb dX3_receive_4 (by rw [t4_3]; decide) (by rw [t4_3]; decide) (by rw [t4_3]; rfl) (by decide) ?_
    refine lv_aload_n hx hb dX3_receive_90 rfl (lv_at hl 0 rfl) ?_
    refine lv_aload_n hx hb dX3_receive_91 rfl (lv_at hl 1 rfl) ?_
    refine hv_geti (ci := 0) (C := RX0) (T := TX0) (N := 8) hx hb hts (tw_cs in_X0) hown hK hT hka (by decide) rfl 4 (by decide) (hts _ (tw_c tw_157)) rfl dX3_receive_92 ?_
    refine lv_topi (fun g10 eg10 => ?_)
    have eg10 : g10 = (nI t0) := by rw [eg10]; exact hto
    subst eg10
    refine hv_callv (va_runV (As := [.int (nI t0)]) (rest := []) ⟨hx, hb, hml, hown, hts⟩ (c_onNo l D tc hI ht0 hh) (cwV 1 hts (tw_V tw_239 tw_240 tw_501 tw_1 tw_241) rfl rfl rfl (by decide +kernel) ⟨Nat.le_of_ble_eq_true rfl, Nat.le_of_ble_eq_true rfl⟩) (hv_preV (ci := 3) hK hT.1 (cs_kX hS) (by decide) rfl rfl) rfl rfl hl.1 rfl (lv_room (Nat.le_of_ble_eq_true rfl)) dX3_receive_95 ⟨by show 0 + 8 ≤ 16; omega, by show 0 + 64 ≤ 128; omega⟩) hT (fun v11 H locs hp12 hT => ?_)
    obtain ⟨_, hI⟩ := hp12
    have hS := hI.1
    refine lv_goto (tgt := 226) hx hb dX3_receive_98 (by decide) ?_
    exact hret _ v11 _ _ _ _ _ dX3_receive_226 hT ⟨_, hI⟩ (by show 0 + 8 ≤ 16; omega) (by show 0 + 64 ≤ 128; omega)
  by_cases t4_4 : g1 = 4
  · skip
    refine lv_tableIn (off := 97) (tgt := 101) hx hb dX3_receive_4 (by rw [t4_4]; decide) (by rw [t4_4]; decide) (by rw [t4_4]; rfl) (by decide) ?_
    refine lv_aload_n hx hb dX3_receive_101 rfl (lv_at hl 0 rfl) ?_
    refine lv_aload_n hx hb dX3_receive_102 rfl (lv_at hl 1 rfl) ?_
    refine hv_geti (ci := 0) (C := RX0) (T := TX0) (N := 8) hx hb hts (tw_cs in_X0) hown hK hT hka (by decide) rfl 4 (by decide) (hts _ (tw_c tw_157)) rfl dX3_receive_103 ?_
    refine lv_topi (fun g13 eg13 => ?_)
    have eg13 : g13 = (nI t0) := by rw [eg13]; exact hto
    subst eg13
    refine lv_aload_n hx hb dX3_receive_106 rfl (lv_at hl 1 rfl) ?_
    refine hv_geti (ci := 0) (C := RX0) (T := TX0) (N := 8) hx hb hts (tw_cs in_X0) hown hK hT hka (by decide) rfl 3 (by decide) (hts _ (tw_c tw_155)) rfl dX3_receive_107 ?_
    refine lv_topi (fun g14 eg14 => ?_)
    have eg14 : g14 = (nI f0) := by rw [eg14]; exact hfr
    subst eg14
    refine lv_aload_n hx hb dX3_receive_110 rfl (lv_at hl 1 rfl) ?_
    refine hv_geti (ci := 0) (C := RX0) (T := TX0) (N := 8) hx hb hts (tw_cs in_X0) hown hK hT hka (by decide) rfl 5 (by decide) (hts _ (tw_c tw_159)) rfl dX3_receive_111 ?_
    refine lv_topi (fun g15 eg15 => ?_)
    refine hv_callv (va_runV (As := [.int (nI t0), .int (nI f0), .int g15]) (rest := []) ⟨hx, hb, hml, hown, hts⟩ (c_onAskState l D tc hI ht0 hf0 hh g15) (cwV 3 hts (tw_V tw_242 tw_243 tw_502 tw_1 tw_244) rfl rfl rfl (by decide +kernel) ⟨Nat.le_of_ble_eq_true rfl, Nat.le_of_ble_eq_true rfl⟩) (hv_preV (ci := 3) hK hT.1 (cs_kX hS) (by decide) rfl rfl) rfl rfl hl.1 rfl (lv_room (Nat.le_of_ble_eq_true rfl)) dX3_receive_114 ⟨by show 0 + 8 ≤ 16; omega, by show 0 + 64 ≤ 128; omega⟩) hT (fun v16 H locs hp17 hT => ?_)
    obtain ⟨_, hI⟩ := hp17
    have hS := hI.1
    refine lv_goto (tgt := 226) hx hb dX3_receive_117 (by decide) ?_
    exact hret _ v16 _ _ _ _ _ dX3_receive_226 hT ⟨_, hI⟩ (by show 0 + 8 ≤ 16; omega) (by show 0 + 64 ≤ 128; omega)
  by_cases t4_5 : g1 = 5
  · skip
    refine lv_tableIn (off := 116) (tgt := 120) hx hb dX3_receive_4 (by rw [t4_5]; decide) (by rw [t4_5]; decide) (by rw [t4_5]; rfl) (by decide) ?_
    refine lv_aload_n hx hb dX3_receive_120 rfl (lv_at hl 0 rfl) ?_
    refine lv_aload_n hx hb dX3_receive_121 rfl (lv_at hl 1 rfl) ?_
    refine hv_geti (ci := 0) (C := RX0) (T := TX0) (N := 8) hx hb hts (tw_cs in_X0) hown hK hT hka (by decide) rfl 4 (by decide) (hts _ (tw_c tw_157)) rfl dX3_receive_122 ?_
    refine lv_topi (fun g18 eg18 => ?_)
    have eg18 : g18 = (nI t0) := by rw [eg18]; exact hto
    subst eg18
    refine lv_aload_n hx hb dX3_receive_125 rfl (lv_at hl 1 rfl) ?_
    refine hv_geti (ci := 0) (C := RX0) (T := TX0) (N := 8) hx hb hts (tw_cs in_X0) hown hK hT hka (by decide) rfl 3 (by decide) (hts _ (tw_c tw_155)) rfl dX3_receive_126 ?_
    refine lv_topi (fun g19 eg19 => ?_)
    have eg19 : g19 = (nI f0) := by rw [eg19]; exact hfr
    subst eg19
    refine lv_aload_n hx hb dX3_receive_129 rfl (lv_at hl 1 rfl) ?_
    refine hv_geti (ci := 0) (C := RX0) (T := TX0) (N := 8) hx hb hts (tw_cs in_X0) hown hK hT hka (by decide) rfl 5 (by decide) (hts _ (tw_c tw_159)) rfl dX3_receive_130 ?_
    refine lv_topi (fun g20 eg20 => ?_)
    refine lv_aload_n hx hb dX3_receive_133 rfl (lv_at hl 1 rfl) ?_
    refine hv_geti (ci := 0) (C := RX0) (T := TX0) (N := 8) hx hb hts (tw_cs in_X0) hown hK hT hka (by decide) rfl 6 (by decide) (hts _ (tw_c tw_161)) rfl dX3_receive_134 ?_
    refine lv_topi (fun g21 eg21 => ?_)
    refine hv_callv (va_runV (As := [.int (nI t0), .int (nI f0), .int g20, .int g21]) (rest := []) ⟨hx, hb, hml, hown, hts⟩ (c_onState l D tc hI ht0 hf0 hh g20 g21) (cwV 4 hts (tw_V tw_248 tw_249 tw_504 tw_1 tw_250) rfl rfl rfl (by decide +kernel) ⟨Nat.le_of_ble_eq_true rfl, Nat.le_of_ble_eq_true rfl⟩) (hv_preV (ci := 3) hK hT.1 (cs_kX hS) (by decide) rfl rfl) rfl rfl hl.1 rfl (lv_room (Nat.le_of_ble_eq_true rfl)) dX3_receive_137 ⟨by show 0 + 8 ≤ 16; omega, by show 0 + 64 ≤ 128; omega⟩) hT (fun v22 H locs hp23 hT => ?_)
    obtain ⟨_, hI⟩ := hp23
    have hS := hI.1
    refine lv_goto (tgt := 226) hx hb dX3_receive_140 (by decide) ?_
    exact hret _ v22 _ _ _ _ _ dX3_receive_226 hT ⟨_, hI⟩ (by show 0 + 8 ≤ 16; omega) (by show 0 + 64 ≤ 128; omega)
  by_cases t4_6 : g1 = 6
  · skip
    refine lv_tableIn (off := 139) (tgt := 143) hx hb dX3_receive_4 (by rw [t4_6]; decide) (by rw [t4_6]; decide) (by rw [t4_6]; rfl) (by decide) ?_
    refine lv_aload_n hx hb dX3_receive_143 rfl (lv_at hl 0 rfl) ?_
    refine lv_aload_n hx hb dX3_receive_144 rfl (lv_at hl 1 rfl) ?_
    refine hv_geti (ci := 0) (C := RX0) (T := TX0) (N := 8) hx hb hts (tw_cs in_X0) hown hK hT hka (by decide) rfl 4 (by decide) (hts _ (tw_c tw_157)) rfl dX3_receive_145 ?_
    refine lv_topi (fun g24 eg24 => ?_)
    have eg24 : g24 = (nI t0) := by rw [eg24]; exact hto
    subst eg24
    refine lv_aload_n hx hb dX3_receive_148 rfl (lv_at hl 1 rfl) ?_
    refine hv_geti (ci := 0) (C := RX0) (T := TX0) (N := 8) hx hb hts (tw_cs in_X0) hown hK hT hka (by decide) rfl 3 (by decide) (hts _ (tw_c tw_155)) rfl dX3_receive_149 ?_
    refine lv_topi (fun g25 eg25 => ?_)
    have eg25 : g25 = (nI f0) := by rw [eg25]; exact hfr
    subst eg25
    refine lv_aload_n hx hb dX3_receive_152 rfl (lv_at hl 1 rfl) ?_
    refine hv_geti (ci := 0) (C := RX0) (T := TX0) (N := 8) hx hb hts (tw_cs in_X0) hown hK hT hka (by decide) rfl 5 (by decide) (hts _ (tw_c tw_159)) rfl dX3_receive_153 ?_
    refine lv_topi (fun g26 eg26 => ?_)
    refine lv_iconst (v := 2) hx hb dX3_receive_156 (by decide) ?_
    refine hv_callv (va_runV (As := [.int (nI t0), .int (nI f0), .int g26, .int 2]) (rest := []) ⟨hx, hb, hml, hown, hts⟩ (c_onAskReady l D tc hI ht0 hf0 hh g26 2) (cwV 4 hts (tw_V tw_251 tw_252 tw_505 tw_1 tw_253) rfl rfl rfl (by decide +kernel) ⟨Nat.le_of_ble_eq_true rfl, Nat.le_of_ble_eq_true rfl⟩) (hv_preV (ci := 3) hK hT.1 (cs_kX hS) (by decide) rfl rfl) rfl rfl hl.1 rfl (lv_room (Nat.le_of_ble_eq_true rfl)) dX3_receive_157 ⟨by show 0 + 8 ≤ 16; omega, by show 0 + 64 ≤ 128; omega⟩) hT (fun v27 H locs hp28 hT => ?_)
    obtain ⟨_, hI⟩ := hp28
    have hS := hI.1
    refine lv_goto (tgt := 226) hx hb dX3_receive_160 (by decide) ?_
    exact hret _ v27 _ _ _ _ _ dX3_receive_226 hT ⟨_, hI⟩ (by show 0 + 8 ≤ 16; omega) (by show 0 + 64 ≤ 128; omega)
  by_cases t4_7 : g1 = 7
  · skip
    refine lv_tableIn (off := 159) (tgt := 163) hx hb dX3_receive_4 (by rw [t4_7]; decide) (by rw [t4_7]; decide) (by rw [t4_7]; rfl) (by decide) ?_
    refine lv_aload_n hx hb dX3_receive_163 rfl (lv_at hl 0 rfl) ?_
    refine lv_aload_n hx hb dX3_receive_164 rfl (lv_at hl 1 rfl) ?_
    refine hv_geti (ci := 0) (C := RX0) (T := TX0) (N := 8) hx hb hts (tw_cs in_X0) hown hK hT hka (by decide) rfl 4 (by decide) (hts _ (tw_c tw_157)) rfl dX3_receive_165 ?_
    refine lv_topi (fun g29 eg29 => ?_)
    have eg29 : g29 = (nI t0) := by rw [eg29]; exact hto
    subst eg29
    refine lv_aload_n hx hb dX3_receive_168 rfl (lv_at hl 1 rfl) ?_
    refine hv_geti (ci := 0) (C := RX0) (T := TX0) (N := 8) hx hb hts (tw_cs in_X0) hown hK hT hka (by decide) rfl 3 (by decide) (hts _ (tw_c tw_155)) rfl dX3_receive_169 ?_
    refine lv_topi (fun g30 eg30 => ?_)
    have eg30 : g30 = (nI f0) := by rw [eg30]; exact hfr
    subst eg30
    refine lv_aload_n hx hb dX3_receive_172 rfl (lv_at hl 1 rfl) ?_
    refine hv_geti (ci := 0) (C := RX0) (T := TX0) (N := 8) hx hb hts (tw_cs in_X0) hown hK hT hka (by decide) rfl 5 (by decide) (hts _ (tw_c tw_159)) rfl dX3_receive_173 ?_
    refine lv_topi (fun g31 eg31 => ?_)
    refine lv_iconst (v := 3) hx hb dX3_receive_176 (by decide) ?_
    refine hv_callv (va_runV (As := [.int (nI t0), .int (nI f0), .int g31, .int 3]) (rest := []) ⟨hx, hb, hml, hown, hts⟩ (c_onAskReady l D tc hI ht0 hf0 hh g31 3) (cwV 4 hts (tw_V tw_251 tw_252 tw_505 tw_1 tw_253) rfl rfl rfl (by decide +kernel) ⟨Nat.le_of_ble_eq_true rfl, Nat.le_of_ble_eq_true rfl⟩) (hv_preV (ci := 3) hK hT.1 (cs_kX hS) (by decide) rfl rfl) rfl rfl hl.1 rfl (lv_room (Nat.le_of_ble_eq_true rfl)) dX3_receive_177 ⟨by show 0 + 8 ≤ 16; omega, by show 0 + 64 ≤ 128; omega⟩) hT (fun v32 H locs hp33 hT => ?_)
    obtain ⟨_, hI⟩ := hp33
    have hS := hI.1
    refine lv_goto (tgt := 226) hx hb dX3_receive_180 (by decide) ?_
    exact hret _ v32 _ _ _ _ _ dX3_receive_226 hT ⟨_, hI⟩ (by show 0 + 8 ≤ 16; omega) (by show 0 + 64 ≤ 128; omega)
  by_cases t4_8 : g1 = 8
  · skip
    refine lv_tableIn (off := 179) (tgt := 183) hx hb dX3_receive_4 (by rw [t4_8]; decide) (by rw [t4_8]; decide) (by rw [t4_8]; rfl) (by decide) ?_
    refine lv_aload_n hx hb dX3_receive_183 rfl (lv_at hl 0 rfl) ?_
    refine lv_aload_n hx hb dX3_receive_184 rfl (lv_at hl 1 rfl) ?_
    refine hv_geti (ci := 0) (C := RX0) (T := TX0) (N := 8) hx hb hts (tw_cs in_X0) hown hK hT hka (by decide) rfl 4 (by decide) (hts _ (tw_c tw_157)) rfl dX3_receive_185 ?_
    refine lv_topi (fun g34 eg34 => ?_)
    have eg34 : g34 = (nI t0) := by rw [eg34]; exact hto
    subst eg34
    refine lv_aload_n hx hb dX3_receive_188 rfl (lv_at hl 1 rfl) ?_
    refine hv_geti (ci := 0) (C := RX0) (T := TX0) (N := 8) hx hb hts (tw_cs in_X0) hown hK hT hka (by decide) rfl 3 (by decide) (hts _ (tw_c tw_155)) rfl dX3_receive_189 ?_
    refine lv_topi (fun g35 eg35 => ?_)
    have eg35 : g35 = (nI f0) := by rw [eg35]; exact hfr
    subst eg35
    refine lv_aload_n hx hb dX3_receive_192 rfl (lv_at hl 1 rfl) ?_
    refine hv_geti (ci := 0) (C := RX0) (T := TX0) (N := 8) hx hb hts (tw_cs in_X0) hown hK hT hka (by decide) rfl 5 (by decide) (hts _ (tw_c tw_159)) rfl dX3_receive_193 ?_
    refine lv_topi (fun g36 eg36 => ?_)
    refine hv_callv (va_runV (As := [.int (nI t0), .int (nI f0), .int g36]) (rest := []) ⟨hx, hb, hml, hown, hts⟩ (c_onAcknowledge l D tc hI ht0 hf0 hh g36) (cwV 3 hts (tw_V tw_254 tw_255 tw_506 tw_1 tw_256) rfl rfl rfl (by decide +kernel) ⟨Nat.le_of_ble_eq_true rfl, Nat.le_of_ble_eq_true rfl⟩) (hv_preV (ci := 3) hK hT.1 (cs_kX hS) (by decide) rfl rfl) rfl rfl hl.1 rfl (lv_room (Nat.le_of_ble_eq_true rfl)) dX3_receive_196 ⟨by show 0 + 8 ≤ 16; omega, by show 0 + 64 ≤ 128; omega⟩) hT (fun v37 H locs hp38 hT => ?_)
    obtain ⟨_, hI⟩ := hp38
    have hS := hI.1
    refine lv_goto (tgt := 226) hx hb dX3_receive_199 (by decide) ?_
    exact hret _ v37 _ _ _ _ _ dX3_receive_226 hT ⟨_, hI⟩ (by show 0 + 8 ≤ 16; omega) (by show 0 + 64 ≤ 128; omega)
  by_cases t4_9 : g1 = 9
  · skip
    refine lv_tableIn (off := 198) (tgt := 202) hx hb dX3_receive_4 (by rw [t4_9]; decide) (by rw [t4_9]; decide) (by rw [t4_9]; rfl) (by decide) ?_
    refine lv_aload_n hx hb dX3_receive_202 rfl (lv_at hl 0 rfl) ?_
    refine lv_aload_n hx hb dX3_receive_203 rfl (lv_at hl 1 rfl) ?_
    refine hv_geti (ci := 0) (C := RX0) (T := TX0) (N := 8) hx hb hts (tw_cs in_X0) hown hK hT hka (by decide) rfl 4 (by decide) (hts _ (tw_c tw_157)) rfl dX3_receive_204 ?_
    refine lv_topi (fun g39 eg39 => ?_)
    have eg39 : g39 = (nI t0) := by rw [eg39]; exact hto
    subst eg39
    refine lv_iconst (v := 4) hx hb dX3_receive_207 (by decide) ?_
    refine hv_callv (va_runV (As := [.int (nI t0), .int 4]) (rest := []) ⟨hx, hb, hml, hown, hts⟩ (c_onDecision l D tc hI ht0 4) (cwV 2 hts (tw_V tw_261 tw_262 tw_507 tw_1 tw_263) rfl rfl rfl (by decide +kernel) ⟨Nat.le_of_ble_eq_true rfl, Nat.le_of_ble_eq_true rfl⟩) (hv_preV (ci := 3) hK hT.1 (cs_kX hS) (by decide) rfl rfl) rfl rfl hl.1 rfl (lv_room (Nat.le_of_ble_eq_true rfl)) dX3_receive_208 ⟨by show 0 + 0 ≤ 16; omega, by show 0 + 0 ≤ 128; omega⟩) hT (fun v40 H locs hp41 hT => ?_)
    obtain ⟨_, hI⟩ := hp41
    have hS := hI.1
    refine lv_goto (tgt := 226) hx hb dX3_receive_211 (by decide) ?_
    exact hret _ v40 _ _ _ _ _ dX3_receive_226 hT ⟨_, hI⟩ (by show 0 + 0 ≤ 16; omega) (by show 0 + 0 ≤ 128; omega)
  by_cases t4_10 : g1 = 10
  · skip
    refine lv_tableIn (off := 210) (tgt := 214) hx hb dX3_receive_4 (by rw [t4_10]; decide) (by rw [t4_10]; decide) (by rw [t4_10]; rfl) (by decide) ?_
    refine lv_aload_n hx hb dX3_receive_214 rfl (lv_at hl 0 rfl) ?_
    refine lv_aload_n hx hb dX3_receive_215 rfl (lv_at hl 1 rfl) ?_
    refine hv_geti (ci := 0) (C := RX0) (T := TX0) (N := 8) hx hb hts (tw_cs in_X0) hown hK hT hka (by decide) rfl 4 (by decide) (hts _ (tw_c tw_157)) rfl dX3_receive_216 ?_
    refine lv_topi (fun g42 eg42 => ?_)
    have eg42 : g42 = (nI t0) := by rw [eg42]; exact hto
    subst eg42
    refine lv_iconst (v := 5) hx hb dX3_receive_219 (by decide) ?_
    refine hv_callv (va_runV (As := [.int (nI t0), .int 5]) (rest := []) ⟨hx, hb, hml, hown, hts⟩ (c_onDecision l D tc hI ht0 5) (cwV 2 hts (tw_V tw_261 tw_262 tw_507 tw_1 tw_263) rfl rfl rfl (by decide +kernel) ⟨Nat.le_of_ble_eq_true rfl, Nat.le_of_ble_eq_true rfl⟩) (hv_preV (ci := 3) hK hT.1 (cs_kX hS) (by decide) rfl rfl) rfl rfl hl.1 rfl (lv_room (Nat.le_of_ble_eq_true rfl)) dX3_receive_220 ⟨by show 0 + 0 ≤ 16; omega, by show 0 + 0 ≤ 128; omega⟩) hT (fun v43 H locs hp44 hT => ?_)
    obtain ⟨_, hI⟩ := hp44
    have hS := hI.1
    refine lv_goto (tgt := 226) hx hb dX3_receive_223 (by decide) ?_
    exact hret _ v43 _ _ _ _ _ dX3_receive_226 hT ⟨_, hI⟩ (by show 0 + 0 ≤ 16; omega) (by show 0 + 0 ≤ 128; omega)
  refine lv_tableOut (tgt := 226) hx hb dX3_receive_4 (by have h0 := lv_neT t4_1 (a := 1) rfl; have h1 := lv_neT t4_2 (a := 2) rfl; have h2 := lv_neT t4_3 (a := 3) rfl; have h3 := lv_neT t4_4 (a := 4) rfl; have h4 := lv_neT t4_5 (a := 5) rfl; have h5 := lv_neT t4_6 (a := 6) rfl; have h6 := lv_neT t4_7 (a := 7) rfl; have h7 := lv_neT t4_8 (a := 8) rfl; have h8 := lv_neT t4_9 (a := 9) rfl; have h9 := lv_neT t4_10 (a := 10) rfl; omega) (by decide) ?_
  exact hret _ v _ _ _ _ _ dX3_receive_226 hT ⟨_, hI⟩ (by show 0 ≤ 16; omega) (by show 0 ≤ 128; omega)

set_option maxHeartbeats 4000000 in
set_option maxRecDepth 100000 in
theorem c_takeNext (l : Launch) (D : va_G) (tc : Nat → ClassId) {fa : Nat → Nat} {n : Nat} {w u : Nat → Nat} {b : Nat} {d : Nat → Nat → Nat} {g : Nat × Nat} {k : Nat} {v : hv_V} (hI : ci_I fa n w u b d g k [] v) {L : Nat} (hL : L ≤ 4000) : Met l yX3_takeNext (Cond.code yX3_takeNext cX3_takeNext 5 (some .int) :: lw_B) ({ frames := 7, cells := 16, slots := 128, locals := 158 }) (va_Pc [.ref (fa 0), .int (nI L)] (hv_Pre D tc v)) (va_Qi (fun (r : Int32) (v1 : hv_V) => ∃ k1, ci_I fa n w u b d g k1 [] v1) (hv_Post D tc (hv_A v)) (hv_A v)) (16) (128) (hv_A v) := by
  refine hv_meti l (by decide) (Nat.le_of_ble_eq_true rfl) ?_
  intro p e s m args below meth c Q X hret hK hz H locs ls hT hl
  obtain ⟨hx, hb, hml, hts, hown, hin0⟩ := X
  have hown : s.vm.findClass "CommitSites" = some m.cls := hown
  have hl : lv_has ls 5 [(0, .ref (fa 0)), (1, .int (nI L))] := hl
  have hS := hI.1
  obtain ⟨t, ht4, ht⟩ := hI.2.1.2.2.2.2.1
  refine lv_aload_n hx hb dX3_takeNext_0 rfl (lv_at hl 0 rfl) ?_
  refine hv_gets (ci := 3) (C := RX3) (T := TX3) (N := 12) hx hb hts (tw_cs in_X3) hown hK hT (cs_kX hS) (by decide) rfl 1 (by decide) (hts _ (tw_c tw_48)) rfl (x := (fa 2)) (cs_pN hS) dX3_takeNext_1 ?_
  refine hv_callq (va_runV (As := []) (rest := []) ⟨hx, hb, hml, hown, hts⟩ (c_first l D tc hS ht4 ht) (cwV 0 hts (tw_V tw_205 tw_206 tw_207 tw_2 tw_208) rfl rfl rfl (by decide +kernel) ⟨Nat.le_of_ble_eq_true rfl, Nat.le_of_ble_eq_true rfl⟩) (hv_preV (ci := 1) hK hT.1 (cs_kN hS) (by decide) rfl rfl) rfl rfl hl.1 rfl (lv_room (Nat.le_of_ble_eq_true rfl)) dX3_takeNext_4 ⟨by show 0 + 0 ≤ 16; omega, by show 0 + 0 ≤ 128; omega⟩) hT (fun r3 v1 H locs hp2 hT => ?_)
  obtain ⟨ev9, hq9⟩ := hp2
  rw [ev9] at hT
  rcases hq9 with hq9 | ⟨s0, a, hs, hq9, ha⟩
  · subst hq9
    refine hv_nul ?_
    refine lv_astore_nN (lv' := [(2, _), (0, _), (1, _)]) hx hb dX3_takeNext_7 rfl hl (by decide) rfl (fun ls hl => ?_)
    refine lv_aload_n hx hb dX3_takeNext_8 rfl (lv_at hl 1 rfl) ?_
    refine hv_calli (va_runV (As := []) (rest := []) ⟨hx, hb, hml, hown, hts⟩ (c_firstTimer l D tc hS hI.2.1.1) (cwV 0 hts (tw_V tw_209 tw_210 tw_495 tw_1 tw_211) rfl rfl rfl (by decide +kernel) ⟨Nat.le_of_ble_eq_true rfl, Nat.le_of_ble_eq_true rfl⟩) (hv_preV (ci := 3) hK hT.1 (cs_kX hS) (by decide) rfl rfl) rfl rfl hl.1 rfl (lv_room (Nat.le_of_ble_eq_true rfl)) dX3_takeNext_9 ⟨by show 0 + 0 + 0 ≤ 16; omega, by show 0 + 0 + 0 ≤ 128; omega⟩) hT (fun r6 v4 H locs hp5 hT => ?_)
    obtain ⟨evhp5, qhp5⟩ := hp5
    rw [evhp5] at hT
    refine lv_istore_n (lv' := [(3, _), (2, _), (0, _), (1, _)]) hx hb dX3_takeNext_12 rfl hl (by decide) rfl (fun ls hl => ?_)
    refine lv_iload_n hx hb dX3_takeNext_13 rfl (lv_at hl 0 rfl) ?_
    refine lv_iconst (v := (-1)) hx hb dX3_takeNext_14 (by decide) ?_
    refine lv_icmp_eq (tgt := 99) hx hb dX3_takeNext_15 (by decide) (fun c15 => ?_) (fun c15 => ?_)
    · skip
      refine lv_aload_nN hx hb dX3_takeNext_99 rfl (lv_at hl 1 rfl) ?_
      refine lv_ifnullN (tgt := 111) hx hb dX3_takeNext_100 (by decide) ?_
      refine lv_iconst (v := 0) hx hb dX3_takeNext_111 (by decide) ?_
      exact hret _ 0 v _ _ _ _ _ dX3_takeNext_112 rfl hT ⟨_, hI⟩ (by show 0 + 0 + 0 ≤ 16; omega) (by show 0 + 0 + 0 ≤ 128; omega)
    · skip
      obtain ⟨j, hj, ej, hjt⟩ := qhp5.resolve_left c15
      subst ej
      obtain ⟨tj, htj5, htj⟩ := ((hI.2.1.2.2.2.2.2.2 j hj).2.2.2.2.2).resolve_left hjt
      refine lv_aload_n hx hb dX3_takeNext_18 rfl (lv_at hl 2 rfl) ?_
      refine hv_gets (ci := 3) (C := RX3) (T := TX3) (N := 12) hx hb hts (tw_cs in_X3) hown hK hT (cs_kX hS) (by decide) rfl 0 (by decide) (hts _ (tw_c tw_47)) rfl (x := (fa 1)) (cs_pS hS) dX3_takeNext_19 ?_
      refine lv_iload_n hx hb dX3_takeNext_22 rfl (lv_at hl 0 rfl) ?_
      refine hv_alds (t := 0) hx hb hK hT (cs_kS hS) rfl rfl (cs_in8 (cs_lt8 hS hj)) (x := (fa (16 + j))) (cs_qS hS hj) dX3_takeNext_23 ?_
      refine lv_aload_nN hx hb dX3_takeNext_24 rfl (lv_at hl 1 rfl) ?_
      refine hv_calli (va_runV (As := [.null]) (rest := []) ⟨hx, hb, hml, hown, hts⟩ (c_runsOutBefore0 l D tc hS hj) (cwV 1 hts (tw_V tw_216 tw_217 tw_218 tw_4 tw_219) rfl rfl rfl (by decide +kernel) ⟨Nat.le_of_ble_eq_true rfl, Nat.le_of_ble_eq_true rfl⟩) (hv_preV (ci := 2) hK hT.1 (cs_ks hS hj) (by decide) rfl rfl) rfl rfl hl.1 rfl (lv_room (Nat.le_of_ble_eq_true rfl)) dX3_takeNext_25 ⟨by show 0 + 0 + 0 + 0 ≤ 16; omega, by show 0 + 0 + 0 + 0 ≤ 128; omega⟩) hT (fun r9 v7 H locs hp8 hT => ?_)
      rw [hp8] at hT
      refine lv_if_eq (tgt := 99) hx hb dX3_takeNext_28 (by decide) (fun c28 => ?_) (fun c28 => ?_)
      · skip
        refine lv_aload_nN hx hb dX3_takeNext_99 rfl (lv_at hl 1 rfl) ?_
        refine lv_ifnullN (tgt := 111) hx hb dX3_takeNext_100 (by decide) ?_
        refine lv_iconst (v := 0) hx hb dX3_takeNext_111 (by decide) ?_
        exact hret _ 0 v _ _ _ _ _ dX3_takeNext_112 rfl hT ⟨_, hI⟩ (by show 0 + 0 + 0 + 0 ≤ 16; omega) (by show 0 + 0 + 0 + 0 ≤ 128; omega)
      · skip
        refine lv_aload_n hx hb dX3_takeNext_31 rfl (lv_at hl 2 rfl) ?_
        refine hv_gets (ci := 3) (C := RX3) (T := TX3) (N := 12) hx hb hts (tw_cs in_X3) hown hK hT (cs_kX hS) (by decide) rfl 0 (by decide) (hts _ (tw_c tw_47)) rfl (x := (fa 1)) (cs_pS hS) dX3_takeNext_32 ?_
        refine lv_iload_n hx hb dX3_takeNext_35 rfl (lv_at hl 0 rfl) ?_
        refine hv_alds (t := 0) hx hb hK hT (cs_kS hS) rfl rfl (cs_in8 (cs_lt8 hS hj)) (x := (fa (16 + j))) (cs_qS hS hj) dX3_takeNext_36 ?_
        refine hv_geti (ci := 2) (C := RX2) (T := TX2) (N := 10) hx hb hts (tw_cs in_X2) hown hK hT (cs_ks hS hj) (by decide) rfl 8 (by decide) (hts _ (tw_c tw_89)) rfl dX3_takeNext_37 ?_
        refine lv_topi (fun g10 eg10 => ?_)
        have eg10 : g10 = (nI tj) := by rw [eg10]; exact htj
        subst eg10
        refine lv_iload_n hx hb dX3_takeNext_40 rfl (lv_at hl 3 rfl) ?_
        refine lv_icmp_le (tgt := 46) hx hb dX3_takeNext_41 (by decide) (fun c41 => ?_) (fun c41 => ?_)
        · skip
          have hle : tj ≤ L := (nI_leI (by omega) (by omega)).mp c41
          refine lv_aload_n hx hb dX3_takeNext_46 rfl (lv_at hl 2 rfl) ?_
          refine hv_gets (ci := 3) (C := RX3) (T := TX3) (N := 12) hx hb hts (tw_cs in_X3) hown hK hT (cs_kX hS) (by decide) rfl 1 (by decide) (hts _ (tw_c tw_48)) rfl (x := (fa 2)) (cs_pN hS) dX3_takeNext_47 ?_
          refine lv_aload_n hx hb dX3_takeNext_50 rfl (lv_at hl 2 rfl) ?_
          refine hv_gets (ci := 3) (C := RX3) (T := TX3) (N := 12) hx hb hts (tw_cs in_X3) hown hK hT (cs_kX hS) (by decide) rfl 0 (by decide) (hts _ (tw_c tw_47)) rfl (x := (fa 1)) (cs_pS hS) dX3_takeNext_51 ?_
          refine lv_iload_n hx hb dX3_takeNext_54 rfl (lv_at hl 0 rfl) ?_
          refine hv_alds (t := 0) hx hb hK hT (cs_kS hS) rfl rfl (cs_in8 (cs_lt8 hS hj)) (x := (fa (16 + j))) (cs_qS hS hj) dX3_takeNext_55 ?_
          refine hv_geti (ci := 2) (C := RX2) (T := TX2) (N := 10) hx hb hts (tw_cs in_X2) hown hK hT (cs_ks hS hj) (by decide) rfl 8 (by decide) (hts _ (tw_c tw_89)) rfl dX3_takeNext_56 ?_
          refine lv_topi (fun g11 eg11 => ?_)
          have eg11 : g11 = (nI tj) := by rw [eg11]; exact htj
          subst eg11
          refine hv_puti (ci := 1) (C := RX1) (T := TX1) (N := 9) hx hb hts (tw_cs in_X1) tyX1 tyX1_ok nmX1 hown hK hT (cs_kN hS) (by decide) rfl 4 (by decide) (hts _ (tw_c tw_32)) rfl rfl (x := (nI tj)) rfl rfl dX3_takeNext_59 (fun H locs hT => ?_)
          have hI := ci_putN (t := tj) (by omega) hI
          have hS := hI.1
          refine lv_aload_n hx hb dX3_takeNext_62 rfl (lv_at hl 2 rfl) ?_
          refine hv_gets (ci := 3) (C := RX3) (T := TX3) (N := 12) hx hb hts (tw_cs in_X3) hown hK hT (cs_kX hS) (by decide) rfl 0 (by decide) (hts _ (tw_c tw_47)) rfl (x := (fa 1)) (cs_pS hS) dX3_takeNext_63 ?_
          refine lv_iload_n hx hb dX3_takeNext_66 rfl (lv_at hl 0 rfl) ?_
          refine hv_alds (t := 0) hx hb hK hT (cs_kS hS) rfl rfl (cs_in8 (cs_lt8 hS hj)) (x := (fa (16 + j))) (cs_qS hS hj) dX3_takeNext_67 ?_
          refine lv_iconst (v := (-1)) hx hb dX3_takeNext_68 (by decide) ?_
          refine hv_puti (ci := 2) (C := RX2) (T := TX2) (N := 10) hx hb hts (tw_cs in_X2) tyX2 tyX2_ok nmX2 hown hK hT (cs_ks hS hj) (by decide) rfl 8 (by decide) (hts _ (tw_c tw_89)) rfl rfl (x := (-1)) rfl rfl dX3_takeNext_69 (fun H locs hT => ?_)
          have hI := ci_putT (i := j) (x := (-1)) (Or.inl rfl) hI hj
          have hS := hI.1
          refine lv_aload_n hx hb dX3_takeNext_72 rfl (lv_at hl 2 rfl) ?_
          refine lv_dup hx hb dX3_takeNext_73 rfl ?_
          refine hv_geti (ci := 3) (C := RX3) (T := TX3) (N := 12) hx hb hts (tw_cs in_X3) hown hK hT (cs_kX hS) (by decide) rfl 11 (by decide) (hts _ (tw_c tw_58)) rfl dX3_takeNext_74 ?_
          refine lv_topi (fun g12 eg12 => ?_)
          refine lv_iconst (v := 1) hx hb dX3_takeNext_77 (by decide) ?_
          refine lv_iadd hx hb dX3_takeNext_78 ?_
          refine hv_puti (ci := 3) (C := RX3) (T := TX3) (N := 12) hx hb hts (tw_cs in_X3) tyX3 tyX3_ok nmX3 hown hK hT (cs_kX hS) (by decide) rfl 11 (by decide) (hts _ (tw_c tw_58)) rfl rfl (x := (g12 + 1)) rfl rfl dX3_takeNext_79 (fun H locs hT => ?_)
          have hI := ci_put (f := 311) (a := (fa 0)) (x := (g12 + 1)) rfl hI
          have hS := hI.1
          refine lv_aload_n hx hb dX3_takeNext_82 rfl (lv_at hl 2 rfl) ?_
          refine lv_bipush (v := 11) hx hb dX3_takeNext_83 (by decide) ?_
          refine lv_iload_n hx hb dX3_takeNext_85 rfl (lv_at hl 0 rfl) ?_
          refine lv_iload_n hx hb dX3_takeNext_86 rfl (lv_at hl 0 rfl) ?_
          refine lv_iconst (v := 0) hx hb dX3_takeNext_87 (by decide) ?_
          refine lv_iconst (v := 0) hx hb dX3_takeNext_88 (by decide) ?_
          refine hv_callv (va_runV (As := [.int 11, .int (nI j), .int (nI j), .int 0, .int 0]) (rest := []) ⟨hx, hb, hml, hown, hts⟩ (c_note l D tc hI 11 (nI j) (nI j) 0 0) (cwV 5 hts (tw_V tw_44 tw_45 tw_482 tw_1 tw_46) rfl rfl rfl (by decide +kernel) ⟨Nat.le_of_ble_eq_true rfl, Nat.le_of_ble_eq_true rfl⟩) (hv_preV (ci := 3) hK hT.1 (cs_kX hS) (by decide) rfl rfl) rfl rfl hl.1 rfl (lv_room (Nat.le_of_ble_eq_true rfl)) dX3_takeNext_89 ⟨by show 0 + 0 + 0 + 0 + 0 ≤ 16; omega, by show 0 + 0 + 0 + 0 + 0 ≤ 128; omega⟩) hT (fun v13 H locs hp14 hT => ?_)
          have hI := hp14
          have hS := hI.1
          refine lv_aload_n hx hb dX3_takeNext_92 rfl (lv_at hl 2 rfl) ?_
          refine lv_iload_n hx hb dX3_takeNext_93 rfl (lv_at hl 0 rfl) ?_
          refine hv_callv (va_runV (As := [.int (nI j)]) (rest := []) ⟨hx, hb, hml, hown, hts⟩ (c_runOut l D tc hI hj (Nat.zero_le _)) (cwV 1 hts (tw_V tw_220 tw_221 tw_496 tw_1 tw_222) rfl rfl rfl (by decide +kernel) ⟨Nat.le_of_ble_eq_true rfl, Nat.le_of_ble_eq_true rfl⟩) (hv_preV (ci := 3) hK hT.1 (cs_kX hS) (by decide) rfl rfl) rfl rfl hl.1 rfl (lv_room (Nat.le_of_ble_eq_true rfl)) dX3_takeNext_94 ⟨by show 0 + 0 + 0 + 0 + 0 + 16 ≤ 16; omega, by show 0 + 0 + 0 + 0 + 0 + 128 ≤ 128; omega⟩) hT (fun v15 H locs hp16 hT => ?_)
          obtain ⟨_, hI⟩ := hp16
          have hS := hI.1
          refine lv_iconst (v := 2) hx hb dX3_takeNext_97 (by decide) ?_
          exact hret _ 2 v15 _ _ _ _ _ dX3_takeNext_98 rfl hT ⟨_, hI⟩ (by show 0 + 0 + 0 + 0 + 0 + 16 ≤ 16; omega) (by show 0 + 0 + 0 + 0 + 0 + 128 ≤ 128; omega)
        · skip
          refine lv_iconst (v := 0) hx hb dX3_takeNext_44 (by decide) ?_
          exact hret _ 0 v _ _ _ _ _ dX3_takeNext_45 rfl hT ⟨_, hI⟩ (by show 0 + 0 + 0 + 0 ≤ 16; omega) (by show 0 + 0 + 0 + 0 ≤ 128; omega)
  · subst hq9
    refine hv_som ?_
    obtain ⟨hka, -, ⟨tm, htm4, htms, htm⟩, -⟩ := ci_headI hI hs ha
    refine lv_astore_n (lv' := [(2, _), (0, _), (1, _)]) hx hb dX3_takeNext_7 rfl hl (by decide) rfl (fun ls hl => ?_)
    refine lv_aload_n hx hb dX3_takeNext_8 rfl (lv_at hl 1 rfl) ?_
    refine hv_calli (va_runV (As := []) (rest := []) ⟨hx, hb, hml, hown, hts⟩ (c_firstTimer l D tc hS hI.2.1.1) (cwV 0 hts (tw_V tw_209 tw_210 tw_495 tw_1 tw_211) rfl rfl rfl (by decide +kernel) ⟨Nat.le_of_ble_eq_true rfl, Nat.le_of_ble_eq_true rfl⟩) (hv_preV (ci := 3) hK hT.1 (cs_kX hS) (by decide) rfl rfl) rfl rfl hl.1 rfl (lv_room (Nat.le_of_ble_eq_true rfl)) dX3_takeNext_9 ⟨by show 0 + 0 + 0 ≤ 16; omega, by show 0 + 0 + 0 ≤ 128; omega⟩) hT (fun r19 v17 H locs hp18 hT => ?_)
    obtain ⟨evhp18, qhp18⟩ := hp18
    rw [evhp18] at hT
    refine lv_istore_n (lv' := [(3, _), (2, _), (0, _), (1, _)]) hx hb dX3_takeNext_12 rfl hl (by decide) rfl (fun ls hl => ?_)
    refine lv_iload_n hx hb dX3_takeNext_13 rfl (lv_at hl 0 rfl) ?_
    refine lv_iconst (v := (-1)) hx hb dX3_takeNext_14 (by decide) ?_
    refine lv_icmp_eq (tgt := 99) hx hb dX3_takeNext_15 (by decide) (fun c15 => ?_) (fun c15 => ?_)
    · skip
      refine lv_aload_n hx hb dX3_takeNext_99 rfl (lv_at hl 1 rfl) ?_
      refine lv_ifnull hx hb dX3_takeNext_100 ?_
      refine lv_aload_n hx hb dX3_takeNext_103 rfl (lv_at hl 1 rfl) ?_
      refine hv_geti (ci := 0) (C := RX0) (T := TX0) (N := 8) hx hb hts (tw_cs in_X0) hown hK hT hka (by decide) rfl 0 (by decide) (hts _ (tw_c tw_149)) rfl dX3_takeNext_104 ?_
      refine lv_topi (fun g20 eg20 => ?_)
      have eg20 : g20 = (nI tm) := by rw [eg20]; exact htm
      subst eg20
      refine lv_iload_n hx hb dX3_takeNext_107 rfl (lv_at hl 3 rfl) ?_
      refine lv_icmp_le (tgt := 113) hx hb dX3_takeNext_108 (by decide) (fun c108 => ?_) (fun c108 => ?_)
      · skip
        have hle : tm ≤ L := (nI_leI (by omega) (by omega)).mp c108
        refine lv_aload_n hx hb dX3_takeNext_113 rfl (lv_at hl 2 rfl) ?_
        refine hv_gets (ci := 3) (C := RX3) (T := TX3) (N := 12) hx hb hts (tw_cs in_X3) hown hK hT (cs_kX hS) (by decide) rfl 1 (by decide) (hts _ (tw_c tw_48)) rfl (x := (fa 2)) (cs_pN hS) dX3_takeNext_114 ?_
        refine lv_aload_n hx hb dX3_takeNext_117 rfl (lv_at hl 1 rfl) ?_
        refine hv_geti (ci := 0) (C := RX0) (T := TX0) (N := 8) hx hb hts (tw_cs in_X0) hown hK hT hka (by decide) rfl 0 (by decide) (hts _ (tw_c tw_149)) rfl dX3_takeNext_118 ?_
        refine lv_topi (fun g21 eg21 => ?_)
        have eg21 : g21 = (nI tm) := by rw [eg21]; exact htm
        subst eg21
        refine hv_puti (ci := 1) (C := RX1) (T := TX1) (N := 9) hx hb hts (tw_cs in_X1) tyX1 tyX1_ok nmX1 hown hK hT (cs_kN hS) (by decide) rfl 4 (by decide) (hts _ (tw_c tw_32)) rfl rfl (x := (nI tm)) rfl rfl dX3_takeNext_121 (fun H locs hT => ?_)
        have hI := ci_putN (t := tm) (by omega) hI
        have hS := hI.1
        refine lv_aload_n hx hb dX3_takeNext_124 rfl (lv_at hl 2 rfl) ?_
        refine hv_gets (ci := 3) (C := RX3) (T := TX3) (N := 12) hx hb hts (tw_cs in_X3) hown hK hT (cs_kX hS) (by decide) rfl 1 (by decide) (hts _ (tw_c tw_48)) rfl (x := (fa 2)) (cs_pN hS) dX3_takeNext_125 ?_
        refine lv_aload_n hx hb dX3_takeNext_128 rfl (lv_at hl 1 rfl) ?_
        refine hv_callv (va_runV (As := [.ref a]) (rest := []) ⟨hx, hb, hml, hown, hts⟩ (c_takeOff l D tc hI hs ha) (cwV 1 hts (tw_V tw_226 tw_227 tw_228 tw_2 tw_229) rfl rfl rfl (by decide +kernel) ⟨Nat.le_of_ble_eq_true rfl, Nat.le_of_ble_eq_true rfl⟩) (hv_preV (ci := 1) hK hT.1 (cs_kN hS) (by decide) rfl rfl) rfl rfl hl.1 rfl (lv_room (Nat.le_of_ble_eq_true rfl)) dX3_takeNext_129 ⟨by show 0 + 0 + 0 + 0 ≤ 16; omega, by show 0 + 0 + 0 + 0 ≤ 128; omega⟩) hT (fun v22 H locs hp23 hT => ?_)
        have hI := hp23
        have hS := hI.1
        obtain ⟨hka, f0, t0, hf0, ht0, hfr, hto⟩ := ci_hdI hI
        refine lv_aload_n hx hb dX3_takeNext_132 rfl (lv_at hl 2 rfl) ?_
        refine hv_gets (ci := 3) (C := RX3) (T := TX3) (N := 12) hx hb hts (tw_cs in_X3) hown hK hT (cs_kX hS) (by decide) rfl 0 (by decide) (hts _ (tw_c tw_47)) rfl (x := (fa 1)) (cs_pS hS) dX3_takeNext_133 ?_
        refine lv_aload_n hx hb dX3_takeNext_136 rfl (lv_at hl 1 rfl) ?_
        refine hv_geti (ci := 0) (C := RX0) (T := TX0) (N := 8) hx hb hts (tw_cs in_X0) hown hK hT hka (by decide) rfl 4 (by decide) (hts _ (tw_c tw_157)) rfl dX3_takeNext_137 ?_
        refine lv_topi (fun g24 eg24 => ?_)
        have eg24 : g24 = (nI t0) := by rw [eg24]; exact hto
        subst eg24
        refine hv_alds (t := 0) hx hb hK hT (cs_kS hS) rfl rfl (cs_in8 (cs_lt8 hS ht0)) (x := (fa (16 + t0))) (cs_qS hS ht0) dX3_takeNext_140 ?_
        refine hv_geti (ci := 2) (C := RX2) (T := TX2) (N := 10) hx hb hts (tw_cs in_X2) hown hK hT (cs_ks hS ht0) (by decide) rfl 3 (by decide) (hts _ (tw_c tw_79)) rfl dX3_takeNext_141 ?_
        refine lv_topi (fun g25 eg25 => ?_)
        refine lv_istore (lv' := [(4, _), (3, _), (2, _), (0, _), (1, _)]) hx hb dX3_takeNext_144 hl (by decide) rfl (fun ls hl => ?_)
        refine lv_iload hx hb dX3_takeNext_146 (lv_at hl 0 rfl) ?_
        refine lv_if_eq (tgt := 193) hx hb dX3_takeNext_148 (by decide) (fun c148 => ?_) (fun c148 => ?_)
        · skip
          refine lv_aload_n hx hb dX3_takeNext_193 rfl (lv_at hl 3 rfl) ?_
          refine hv_gets (ci := 3) (C := RX3) (T := TX3) (N := 12) hx hb hts (tw_cs in_X3) hown hK hT (cs_kX hS) (by decide) rfl 1 (by decide) (hts _ (tw_c tw_48)) rfl (x := (fa 2)) (cs_pN hS) dX3_takeNext_194 ?_
          refine lv_dup hx hb dX3_takeNext_197 rfl ?_
          refine hv_geti (ci := 1) (C := RX1) (T := TX1) (N := 9) hx hb hts (tw_cs in_X1) hown hK hT (cs_kN hS) (by decide) rfl 7 (by decide) (hts _ (tw_c tw_37)) rfl dX3_takeNext_198 ?_
          refine lv_topi (fun g26 eg26 => ?_)
          refine lv_iconst (v := 1) hx hb dX3_takeNext_201 (by decide) ?_
          refine lv_iadd hx hb dX3_takeNext_202 ?_
          refine hv_puti (ci := 1) (C := RX1) (T := TX1) (N := 9) hx hb hts (tw_cs in_X1) tyX1 tyX1_ok nmX1 hown hK hT (cs_kN hS) (by decide) rfl 7 (by decide) (hts _ (tw_c tw_37)) rfl rfl (x := (g26 + 1)) rfl rfl dX3_takeNext_203 (fun H locs hT => ?_)
          have hI := ci_put (f := 107) (a := (fa 2)) (x := (g26 + 1)) rfl hI
          have hS := hI.1
          have hka := (ci_hdI hI).1
          refine lv_aload_n hx hb dX3_takeNext_206 rfl (lv_at hl 3 rfl) ?_
          refine hv_gets (ci := 3) (C := RX3) (T := TX3) (N := 12) hx hb hts (tw_cs in_X3) hown hK hT (cs_kX hS) (by decide) rfl 1 (by decide) (hts _ (tw_c tw_48)) rfl (x := (fa 2)) (cs_pN hS) dX3_takeNext_207 ?_
          refine lv_aload_n hx hb dX3_takeNext_210 rfl (lv_at hl 2 rfl) ?_
          refine hv_callv (va_runV (As := [.ref a]) (rest := []) ⟨hx, hb, hml, hown, hts⟩ (c_keepSpare l D tc hI) (cwV 1 hts (tw_V tw_264 tw_265 tw_266 tw_2 tw_267) rfl rfl rfl (by decide +kernel) ⟨Nat.le_of_ble_eq_true rfl, Nat.le_of_ble_eq_true rfl⟩) (hv_preV (ci := 1) hK hT.1 (cs_kN hS) (by decide) rfl rfl) rfl rfl hl.1 rfl (lv_room (Nat.le_of_ble_eq_true rfl)) dX3_takeNext_211 ⟨by show 0 + 0 + 0 + 0 + 0 ≤ 16; omega, by show 0 + 0 + 0 + 0 + 0 ≤ 128; omega⟩) hT (fun v27 H locs hp28 hT => ?_)
          have hI := hp28
          have hS := hI.1
          refine lv_iload hx hb dX3_takeNext_214 (lv_at hl 0 rfl) ?_
          refine lv_if_eq (tgt := 223) hx hb dX3_takeNext_216 (by decide) (fun c216 => ?_) (fun c216 => ?_)
          · skip
            refine lv_iconst (v := 1) hx hb dX3_takeNext_223 (by decide) ?_
            exact hret _ 1 v27 _ _ _ _ _ dX3_takeNext_224 rfl hT ⟨_, hI⟩ (by show 0 + 0 + 0 + 0 + 0 ≤ 16; omega) (by show 0 + 0 + 0 + 0 + 0 ≤ 128; omega)
          · skip
            refine lv_iconst (v := 2) hx hb dX3_takeNext_219 (by decide) ?_
            refine lv_goto (tgt := 224) hx hb dX3_takeNext_220 (by decide) ?_
            exact hret _ 2 v27 _ _ _ _ _ dX3_takeNext_224 rfl hT ⟨_, hI⟩ (by show 0 + 0 + 0 + 0 + 0 ≤ 16; omega) (by show 0 + 0 + 0 + 0 + 0 ≤ 128; omega)
        · skip
          refine lv_aload_n hx hb dX3_takeNext_151 rfl (lv_at hl 3 rfl) ?_
          refine lv_dup hx hb dX3_takeNext_152 rfl ?_
          refine hv_geti (ci := 3) (C := RX3) (T := TX3) (N := 12) hx hb hts (tw_cs in_X3) hown hK hT (cs_kX hS) (by decide) rfl 10 (by decide) (hts _ (tw_c tw_57)) rfl dX3_takeNext_153 ?_
          refine lv_topi (fun g29 eg29 => ?_)
          refine lv_iconst (v := 1) hx hb dX3_takeNext_156 (by decide) ?_
          refine lv_iadd hx hb dX3_takeNext_157 ?_
          refine hv_puti (ci := 3) (C := RX3) (T := TX3) (N := 12) hx hb hts (tw_cs in_X3) tyX3 tyX3_ok nmX3 hown hK hT (cs_kX hS) (by decide) rfl 10 (by decide) (hts _ (tw_c tw_57)) rfl rfl (x := (g29 + 1)) rfl rfl dX3_takeNext_158 (fun H locs hT => ?_)
          have hI := ci_put (f := 310) (a := (fa 0)) (x := (g29 + 1)) rfl hI
          have hS := hI.1
          refine lv_aload_n hx hb dX3_takeNext_161 rfl (lv_at hl 3 rfl) ?_
          refine lv_aload_n hx hb dX3_takeNext_162 rfl (lv_at hl 2 rfl) ?_
          refine hv_geti (ci := 0) (C := RX0) (T := TX0) (N := 8) hx hb hts (tw_cs in_X0) hown hK hT hka (by decide) rfl 2 (by decide) (hts _ (tw_c tw_153)) rfl dX3_takeNext_163 ?_
          refine lv_topi (fun g30 eg30 => ?_)
          refine lv_aload_n hx hb dX3_takeNext_166 rfl (lv_at hl 2 rfl) ?_
          refine hv_geti (ci := 0) (C := RX0) (T := TX0) (N := 8) hx hb hts (tw_cs in_X0) hown hK hT hka (by decide) rfl 4 (by decide) (hts _ (tw_c tw_157)) rfl dX3_takeNext_167 ?_
          refine lv_topi (fun g31 eg31 => ?_)
          have eg31 : g31 = (nI t0) := by rw [eg31]; exact hto
          subst eg31
          refine lv_aload_n hx hb dX3_takeNext_170 rfl (lv_at hl 2 rfl) ?_
          refine hv_geti (ci := 0) (C := RX0) (T := TX0) (N := 8) hx hb hts (tw_cs in_X0) hown hK hT hka (by decide) rfl 3 (by decide) (hts _ (tw_c tw_155)) rfl dX3_takeNext_171 ?_
          refine lv_topi (fun g32 eg32 => ?_)
          have eg32 : g32 = (nI f0) := by rw [eg32]; exact hfr
          subst eg32
          refine lv_aload_n hx hb dX3_takeNext_174 rfl (lv_at hl 2 rfl) ?_
          refine hv_geti (ci := 0) (C := RX0) (T := TX0) (N := 8) hx hb hts (tw_cs in_X0) hown hK hT hka (by decide) rfl 5 (by decide) (hts _ (tw_c tw_159)) rfl dX3_takeNext_175 ?_
          refine lv_topi (fun g33 eg33 => ?_)
          refine lv_aload_n hx hb dX3_takeNext_178 rfl (lv_at hl 2 rfl) ?_
          refine hv_geti (ci := 0) (C := RX0) (T := TX0) (N := 8) hx hb hts (tw_cs in_X0) hown hK hT hka (by decide) rfl 6 (by decide) (hts _ (tw_c tw_161)) rfl dX3_takeNext_179 ?_
          refine lv_topi (fun g34 eg34 => ?_)
          refine hv_callv (va_runV (As := [.int g30, .int (nI t0), .int (nI f0), .int g33, .int g34]) (rest := []) ⟨hx, hb, hml, hown, hts⟩ (c_note l D tc hI g30 (nI t0) (nI f0) g33 g34) (cwV 5 hts (tw_V tw_44 tw_45 tw_482 tw_1 tw_46) rfl rfl rfl (by decide +kernel) ⟨Nat.le_of_ble_eq_true rfl, Nat.le_of_ble_eq_true rfl⟩) (hv_preV (ci := 3) hK hT.1 (cs_kX hS) (by decide) rfl rfl) rfl rfl hl.1 rfl (lv_room (Nat.le_of_ble_eq_true rfl)) dX3_takeNext_182 ⟨by show 0 + 0 + 0 + 0 + 0 ≤ 16; omega, by show 0 + 0 + 0 + 0 + 0 ≤ 128; omega⟩) hT (fun v35 H locs hp36 hT => ?_)
          have hI := hp36
          have hS := hI.1
          obtain ⟨hka, f0, t0, hf0, ht0, hfr, hto⟩ := ci_hdI hI
          refine lv_aload_n hx hb dX3_takeNext_185 rfl (lv_at hl 3 rfl) ?_
          refine lv_aload_n hx hb dX3_takeNext_186 rfl (lv_at hl 2 rfl) ?_
          refine hv_callv (va_runV (As := [.ref a]) (rest := []) ⟨hx, hb, hml, hown, hts⟩ (c_receive l D tc hI (Nat.le_refl _)) (cwV 1 hts (tw_V tw_230 tw_231 tw_498 tw_1 tw_232) rfl rfl rfl (by decide +kernel) ⟨Nat.le_of_ble_eq_true rfl, Nat.le_of_ble_eq_true rfl⟩) (hv_preV (ci := 3) hK hT.1 (cs_kX hS) (by decide) rfl rfl) rfl rfl hl.1 rfl (lv_room (Nat.le_of_ble_eq_true rfl)) dX3_takeNext_187 ⟨by show 0 + 0 + 0 + 0 + 0 + 16 ≤ 16; omega, by show 0 + 0 + 0 + 0 + 0 + 128 ≤ 128; omega⟩) hT (fun v37 H locs hp38 hT => ?_)
          obtain ⟨_, hI⟩ := hp38
          have hS := hI.1
          refine lv_goto (tgt := 206) hx hb dX3_takeNext_190 (by decide) ?_
          have hka := (ci_hdI hI).1
          refine lv_aload_n hx hb dX3_takeNext_206 rfl (lv_at hl 3 rfl) ?_
          refine hv_gets (ci := 3) (C := RX3) (T := TX3) (N := 12) hx hb hts (tw_cs in_X3) hown hK hT (cs_kX hS) (by decide) rfl 1 (by decide) (hts _ (tw_c tw_48)) rfl (x := (fa 2)) (cs_pN hS) dX3_takeNext_207 ?_
          refine lv_aload_n hx hb dX3_takeNext_210 rfl (lv_at hl 2 rfl) ?_
          refine hv_callv (va_runV (As := [.ref a]) (rest := []) ⟨hx, hb, hml, hown, hts⟩ (c_keepSpare l D tc hI) (cwV 1 hts (tw_V tw_264 tw_265 tw_266 tw_2 tw_267) rfl rfl rfl (by decide +kernel) ⟨Nat.le_of_ble_eq_true rfl, Nat.le_of_ble_eq_true rfl⟩) (hv_preV (ci := 1) hK hT.1 (cs_kN hS) (by decide) rfl rfl) rfl rfl hl.1 rfl (lv_room (Nat.le_of_ble_eq_true rfl)) dX3_takeNext_211 ⟨by show 0 + 0 + 0 + 0 + 0 + 16 + 0 ≤ 16; omega, by show 0 + 0 + 0 + 0 + 0 + 128 + 0 ≤ 128; omega⟩) hT (fun v39 H locs hp40 hT => ?_)
          have hI := hp40
          have hS := hI.1
          refine lv_iload hx hb dX3_takeNext_214 (lv_at hl 0 rfl) ?_
          refine lv_if_eq (tgt := 223) hx hb dX3_takeNext_216 (by decide) (fun c216 => ?_) (fun c216 => ?_)
          · skip
            refine lv_iconst (v := 1) hx hb dX3_takeNext_223 (by decide) ?_
            exact hret _ 1 v39 _ _ _ _ _ dX3_takeNext_224 rfl hT ⟨_, hI⟩ (by show 0 + 0 + 0 + 0 + 0 + 16 + 0 ≤ 16; omega) (by show 0 + 0 + 0 + 0 + 0 + 128 + 0 ≤ 128; omega)
          · skip
            refine lv_iconst (v := 2) hx hb dX3_takeNext_219 (by decide) ?_
            refine lv_goto (tgt := 224) hx hb dX3_takeNext_220 (by decide) ?_
            exact hret _ 2 v39 _ _ _ _ _ dX3_takeNext_224 rfl hT ⟨_, hI⟩ (by show 0 + 0 + 0 + 0 + 0 + 16 + 0 ≤ 16; omega) (by show 0 + 0 + 0 + 0 + 0 + 128 + 0 ≤ 128; omega)
      · skip
        refine lv_iconst (v := 0) hx hb dX3_takeNext_111 (by decide) ?_
        exact hret _ 0 v _ _ _ _ _ dX3_takeNext_112 rfl hT ⟨_, hI⟩ (by show 0 + 0 + 0 ≤ 16; omega) (by show 0 + 0 + 0 ≤ 128; omega)
    · skip
      obtain ⟨j, hj, ej, hjt⟩ := qhp18.resolve_left c15
      subst ej
      obtain ⟨tj, htj5, htj⟩ := ((hI.2.1.2.2.2.2.2.2 j hj).2.2.2.2.2).resolve_left hjt
      refine lv_aload_n hx hb dX3_takeNext_18 rfl (lv_at hl 2 rfl) ?_
      refine hv_gets (ci := 3) (C := RX3) (T := TX3) (N := 12) hx hb hts (tw_cs in_X3) hown hK hT (cs_kX hS) (by decide) rfl 0 (by decide) (hts _ (tw_c tw_47)) rfl (x := (fa 1)) (cs_pS hS) dX3_takeNext_19 ?_
      refine lv_iload_n hx hb dX3_takeNext_22 rfl (lv_at hl 0 rfl) ?_
      refine hv_alds (t := 0) hx hb hK hT (cs_kS hS) rfl rfl (cs_in8 (cs_lt8 hS hj)) (x := (fa (16 + j))) (cs_qS hS hj) dX3_takeNext_23 ?_
      refine lv_aload_n hx hb dX3_takeNext_24 rfl (lv_at hl 1 rfl) ?_
      refine hv_calli (va_runV (As := [.ref a]) (rest := []) ⟨hx, hb, hml, hown, hts⟩ (c_runsOutBefore l D tc hS hj hka) (cwV 1 hts (tw_V tw_216 tw_217 tw_218 tw_4 tw_219) rfl rfl rfl (by decide +kernel) ⟨Nat.le_of_ble_eq_true rfl, Nat.le_of_ble_eq_true rfl⟩) (hv_preV (ci := 2) hK hT.1 (cs_ks hS hj) (by decide) rfl rfl) rfl rfl hl.1 rfl (lv_room (Nat.le_of_ble_eq_true rfl)) dX3_takeNext_25 ⟨by show 0 + 0 + 0 + 0 ≤ 16; omega, by show 0 + 0 + 0 + 0 ≤ 128; omega⟩) hT (fun r43 v41 H locs hp42 hT => ?_)
      rw [hp42] at hT
      refine lv_if_eq (tgt := 99) hx hb dX3_takeNext_28 (by decide) (fun c28 => ?_) (fun c28 => ?_)
      · skip
        refine lv_aload_n hx hb dX3_takeNext_99 rfl (lv_at hl 1 rfl) ?_
        refine lv_ifnull hx hb dX3_takeNext_100 ?_
        refine lv_aload_n hx hb dX3_takeNext_103 rfl (lv_at hl 1 rfl) ?_
        refine hv_geti (ci := 0) (C := RX0) (T := TX0) (N := 8) hx hb hts (tw_cs in_X0) hown hK hT hka (by decide) rfl 0 (by decide) (hts _ (tw_c tw_149)) rfl dX3_takeNext_104 ?_
        refine lv_topi (fun g44 eg44 => ?_)
        have eg44 : g44 = (nI tm) := by rw [eg44]; exact htm
        subst eg44
        refine lv_iload_n hx hb dX3_takeNext_107 rfl (lv_at hl 3 rfl) ?_
        refine lv_icmp_le (tgt := 113) hx hb dX3_takeNext_108 (by decide) (fun c108 => ?_) (fun c108 => ?_)
        · skip
          have hle : tm ≤ L := (nI_leI (by omega) (by omega)).mp c108
          refine lv_aload_n hx hb dX3_takeNext_113 rfl (lv_at hl 2 rfl) ?_
          refine hv_gets (ci := 3) (C := RX3) (T := TX3) (N := 12) hx hb hts (tw_cs in_X3) hown hK hT (cs_kX hS) (by decide) rfl 1 (by decide) (hts _ (tw_c tw_48)) rfl (x := (fa 2)) (cs_pN hS) dX3_takeNext_114 ?_
          refine lv_aload_n hx hb dX3_takeNext_117 rfl (lv_at hl 1 rfl) ?_
          refine hv_geti (ci := 0) (C := RX0) (T := TX0) (N := 8) hx hb hts (tw_cs in_X0) hown hK hT hka (by decide) rfl 0 (by decide) (hts _ (tw_c tw_149)) rfl dX3_takeNext_118 ?_
          refine lv_topi (fun g45 eg45 => ?_)
          have eg45 : g45 = (nI tm) := by rw [eg45]; exact htm
          subst eg45
          refine hv_puti (ci := 1) (C := RX1) (T := TX1) (N := 9) hx hb hts (tw_cs in_X1) tyX1 tyX1_ok nmX1 hown hK hT (cs_kN hS) (by decide) rfl 4 (by decide) (hts _ (tw_c tw_32)) rfl rfl (x := (nI tm)) rfl rfl dX3_takeNext_121 (fun H locs hT => ?_)
          have hI := ci_putN (t := tm) (by omega) hI
          have hS := hI.1
          refine lv_aload_n hx hb dX3_takeNext_124 rfl (lv_at hl 2 rfl) ?_
          refine hv_gets (ci := 3) (C := RX3) (T := TX3) (N := 12) hx hb hts (tw_cs in_X3) hown hK hT (cs_kX hS) (by decide) rfl 1 (by decide) (hts _ (tw_c tw_48)) rfl (x := (fa 2)) (cs_pN hS) dX3_takeNext_125 ?_
          refine lv_aload_n hx hb dX3_takeNext_128 rfl (lv_at hl 1 rfl) ?_
          refine hv_callv (va_runV (As := [.ref a]) (rest := []) ⟨hx, hb, hml, hown, hts⟩ (c_takeOff l D tc hI hs ha) (cwV 1 hts (tw_V tw_226 tw_227 tw_228 tw_2 tw_229) rfl rfl rfl (by decide +kernel) ⟨Nat.le_of_ble_eq_true rfl, Nat.le_of_ble_eq_true rfl⟩) (hv_preV (ci := 1) hK hT.1 (cs_kN hS) (by decide) rfl rfl) rfl rfl hl.1 rfl (lv_room (Nat.le_of_ble_eq_true rfl)) dX3_takeNext_129 ⟨by show 0 + 0 + 0 + 0 + 0 ≤ 16; omega, by show 0 + 0 + 0 + 0 + 0 ≤ 128; omega⟩) hT (fun v46 H locs hp47 hT => ?_)
          have hI := hp47
          have hS := hI.1
          obtain ⟨hka, f0, t0, hf0, ht0, hfr, hto⟩ := ci_hdI hI
          refine lv_aload_n hx hb dX3_takeNext_132 rfl (lv_at hl 2 rfl) ?_
          refine hv_gets (ci := 3) (C := RX3) (T := TX3) (N := 12) hx hb hts (tw_cs in_X3) hown hK hT (cs_kX hS) (by decide) rfl 0 (by decide) (hts _ (tw_c tw_47)) rfl (x := (fa 1)) (cs_pS hS) dX3_takeNext_133 ?_
          refine lv_aload_n hx hb dX3_takeNext_136 rfl (lv_at hl 1 rfl) ?_
          refine hv_geti (ci := 0) (C := RX0) (T := TX0) (N := 8) hx hb hts (tw_cs in_X0) hown hK hT hka (by decide) rfl 4 (by decide) (hts _ (tw_c tw_157)) rfl dX3_takeNext_137 ?_
          refine lv_topi (fun g48 eg48 => ?_)
          have eg48 : g48 = (nI t0) := by rw [eg48]; exact hto
          subst eg48
          refine hv_alds (t := 0) hx hb hK hT (cs_kS hS) rfl rfl (cs_in8 (cs_lt8 hS ht0)) (x := (fa (16 + t0))) (cs_qS hS ht0) dX3_takeNext_140 ?_
          refine hv_geti (ci := 2) (C := RX2) (T := TX2) (N := 10) hx hb hts (tw_cs in_X2) hown hK hT (cs_ks hS ht0) (by decide) rfl 3 (by decide) (hts _ (tw_c tw_79)) rfl dX3_takeNext_141 ?_
          refine lv_topi (fun g49 eg49 => ?_)
          refine lv_istore (lv' := [(4, _), (3, _), (2, _), (0, _), (1, _)]) hx hb dX3_takeNext_144 hl (by decide) rfl (fun ls hl => ?_)
          refine lv_iload hx hb dX3_takeNext_146 (lv_at hl 0 rfl) ?_
          refine lv_if_eq (tgt := 193) hx hb dX3_takeNext_148 (by decide) (fun c148 => ?_) (fun c148 => ?_)
          · skip
            refine lv_aload_n hx hb dX3_takeNext_193 rfl (lv_at hl 3 rfl) ?_
            refine hv_gets (ci := 3) (C := RX3) (T := TX3) (N := 12) hx hb hts (tw_cs in_X3) hown hK hT (cs_kX hS) (by decide) rfl 1 (by decide) (hts _ (tw_c tw_48)) rfl (x := (fa 2)) (cs_pN hS) dX3_takeNext_194 ?_
            refine lv_dup hx hb dX3_takeNext_197 rfl ?_
            refine hv_geti (ci := 1) (C := RX1) (T := TX1) (N := 9) hx hb hts (tw_cs in_X1) hown hK hT (cs_kN hS) (by decide) rfl 7 (by decide) (hts _ (tw_c tw_37)) rfl dX3_takeNext_198 ?_
            refine lv_topi (fun g50 eg50 => ?_)
            refine lv_iconst (v := 1) hx hb dX3_takeNext_201 (by decide) ?_
            refine lv_iadd hx hb dX3_takeNext_202 ?_
            refine hv_puti (ci := 1) (C := RX1) (T := TX1) (N := 9) hx hb hts (tw_cs in_X1) tyX1 tyX1_ok nmX1 hown hK hT (cs_kN hS) (by decide) rfl 7 (by decide) (hts _ (tw_c tw_37)) rfl rfl (x := (g50 + 1)) rfl rfl dX3_takeNext_203 (fun H locs hT => ?_)
            have hI := ci_put (f := 107) (a := (fa 2)) (x := (g50 + 1)) rfl hI
            have hS := hI.1
            have hka := (ci_hdI hI).1
            refine lv_aload_n hx hb dX3_takeNext_206 rfl (lv_at hl 3 rfl) ?_
            refine hv_gets (ci := 3) (C := RX3) (T := TX3) (N := 12) hx hb hts (tw_cs in_X3) hown hK hT (cs_kX hS) (by decide) rfl 1 (by decide) (hts _ (tw_c tw_48)) rfl (x := (fa 2)) (cs_pN hS) dX3_takeNext_207 ?_
            refine lv_aload_n hx hb dX3_takeNext_210 rfl (lv_at hl 2 rfl) ?_
            refine hv_callv (va_runV (As := [.ref a]) (rest := []) ⟨hx, hb, hml, hown, hts⟩ (c_keepSpare l D tc hI) (cwV 1 hts (tw_V tw_264 tw_265 tw_266 tw_2 tw_267) rfl rfl rfl (by decide +kernel) ⟨Nat.le_of_ble_eq_true rfl, Nat.le_of_ble_eq_true rfl⟩) (hv_preV (ci := 1) hK hT.1 (cs_kN hS) (by decide) rfl rfl) rfl rfl hl.1 rfl (lv_room (Nat.le_of_ble_eq_true rfl)) dX3_takeNext_211 ⟨by show 0 + 0 + 0 + 0 + 0 + 0 ≤ 16; omega, by show 0 + 0 + 0 + 0 + 0 + 0 ≤ 128; omega⟩) hT (fun v51 H locs hp52 hT => ?_)
            have hI := hp52
            have hS := hI.1
            refine lv_iload hx hb dX3_takeNext_214 (lv_at hl 0 rfl) ?_
            refine lv_if_eq (tgt := 223) hx hb dX3_takeNext_216 (by decide) (fun c216 => ?_) (fun c216 => ?_)
            · skip
              refine lv_iconst (v := 1) hx hb dX3_takeNext_223 (by decide) ?_
              exact hret _ 1 v51 _ _ _ _ _ dX3_takeNext_224 rfl hT ⟨_, hI⟩ (by show 0 + 0 + 0 + 0 + 0 + 0 ≤ 16; omega) (by show 0 + 0 + 0 + 0 + 0 + 0 ≤ 128; omega)
            · skip
              refine lv_iconst (v := 2) hx hb dX3_takeNext_219 (by decide) ?_
              refine lv_goto (tgt := 224) hx hb dX3_takeNext_220 (by decide) ?_
              exact hret _ 2 v51 _ _ _ _ _ dX3_takeNext_224 rfl hT ⟨_, hI⟩ (by show 0 + 0 + 0 + 0 + 0 + 0 ≤ 16; omega) (by show 0 + 0 + 0 + 0 + 0 + 0 ≤ 128; omega)
          · skip
            refine lv_aload_n hx hb dX3_takeNext_151 rfl (lv_at hl 3 rfl) ?_
            refine lv_dup hx hb dX3_takeNext_152 rfl ?_
            refine hv_geti (ci := 3) (C := RX3) (T := TX3) (N := 12) hx hb hts (tw_cs in_X3) hown hK hT (cs_kX hS) (by decide) rfl 10 (by decide) (hts _ (tw_c tw_57)) rfl dX3_takeNext_153 ?_
            refine lv_topi (fun g53 eg53 => ?_)
            refine lv_iconst (v := 1) hx hb dX3_takeNext_156 (by decide) ?_
            refine lv_iadd hx hb dX3_takeNext_157 ?_
            refine hv_puti (ci := 3) (C := RX3) (T := TX3) (N := 12) hx hb hts (tw_cs in_X3) tyX3 tyX3_ok nmX3 hown hK hT (cs_kX hS) (by decide) rfl 10 (by decide) (hts _ (tw_c tw_57)) rfl rfl (x := (g53 + 1)) rfl rfl dX3_takeNext_158 (fun H locs hT => ?_)
            have hI := ci_put (f := 310) (a := (fa 0)) (x := (g53 + 1)) rfl hI
            have hS := hI.1
            refine lv_aload_n hx hb dX3_takeNext_161 rfl (lv_at hl 3 rfl) ?_
            refine lv_aload_n hx hb dX3_takeNext_162 rfl (lv_at hl 2 rfl) ?_
            refine hv_geti (ci := 0) (C := RX0) (T := TX0) (N := 8) hx hb hts (tw_cs in_X0) hown hK hT hka (by decide) rfl 2 (by decide) (hts _ (tw_c tw_153)) rfl dX3_takeNext_163 ?_
            refine lv_topi (fun g54 eg54 => ?_)
            refine lv_aload_n hx hb dX3_takeNext_166 rfl (lv_at hl 2 rfl) ?_
            refine hv_geti (ci := 0) (C := RX0) (T := TX0) (N := 8) hx hb hts (tw_cs in_X0) hown hK hT hka (by decide) rfl 4 (by decide) (hts _ (tw_c tw_157)) rfl dX3_takeNext_167 ?_
            refine lv_topi (fun g55 eg55 => ?_)
            have eg55 : g55 = (nI t0) := by rw [eg55]; exact hto
            subst eg55
            refine lv_aload_n hx hb dX3_takeNext_170 rfl (lv_at hl 2 rfl) ?_
            refine hv_geti (ci := 0) (C := RX0) (T := TX0) (N := 8) hx hb hts (tw_cs in_X0) hown hK hT hka (by decide) rfl 3 (by decide) (hts _ (tw_c tw_155)) rfl dX3_takeNext_171 ?_
            refine lv_topi (fun g56 eg56 => ?_)
            have eg56 : g56 = (nI f0) := by rw [eg56]; exact hfr
            subst eg56
            refine lv_aload_n hx hb dX3_takeNext_174 rfl (lv_at hl 2 rfl) ?_
            refine hv_geti (ci := 0) (C := RX0) (T := TX0) (N := 8) hx hb hts (tw_cs in_X0) hown hK hT hka (by decide) rfl 5 (by decide) (hts _ (tw_c tw_159)) rfl dX3_takeNext_175 ?_
            refine lv_topi (fun g57 eg57 => ?_)
            refine lv_aload_n hx hb dX3_takeNext_178 rfl (lv_at hl 2 rfl) ?_
            refine hv_geti (ci := 0) (C := RX0) (T := TX0) (N := 8) hx hb hts (tw_cs in_X0) hown hK hT hka (by decide) rfl 6 (by decide) (hts _ (tw_c tw_161)) rfl dX3_takeNext_179 ?_
            refine lv_topi (fun g58 eg58 => ?_)
            refine hv_callv (va_runV (As := [.int g54, .int (nI t0), .int (nI f0), .int g57, .int g58]) (rest := []) ⟨hx, hb, hml, hown, hts⟩ (c_note l D tc hI g54 (nI t0) (nI f0) g57 g58) (cwV 5 hts (tw_V tw_44 tw_45 tw_482 tw_1 tw_46) rfl rfl rfl (by decide +kernel) ⟨Nat.le_of_ble_eq_true rfl, Nat.le_of_ble_eq_true rfl⟩) (hv_preV (ci := 3) hK hT.1 (cs_kX hS) (by decide) rfl rfl) rfl rfl hl.1 rfl (lv_room (Nat.le_of_ble_eq_true rfl)) dX3_takeNext_182 ⟨by show 0 + 0 + 0 + 0 + 0 + 0 ≤ 16; omega, by show 0 + 0 + 0 + 0 + 0 + 0 ≤ 128; omega⟩) hT (fun v59 H locs hp60 hT => ?_)
            have hI := hp60
            have hS := hI.1
            obtain ⟨hka, f0, t0, hf0, ht0, hfr, hto⟩ := ci_hdI hI
            refine lv_aload_n hx hb dX3_takeNext_185 rfl (lv_at hl 3 rfl) ?_
            refine lv_aload_n hx hb dX3_takeNext_186 rfl (lv_at hl 2 rfl) ?_
            refine hv_callv (va_runV (As := [.ref a]) (rest := []) ⟨hx, hb, hml, hown, hts⟩ (c_receive l D tc hI (Nat.le_refl _)) (cwV 1 hts (tw_V tw_230 tw_231 tw_498 tw_1 tw_232) rfl rfl rfl (by decide +kernel) ⟨Nat.le_of_ble_eq_true rfl, Nat.le_of_ble_eq_true rfl⟩) (hv_preV (ci := 3) hK hT.1 (cs_kX hS) (by decide) rfl rfl) rfl rfl hl.1 rfl (lv_room (Nat.le_of_ble_eq_true rfl)) dX3_takeNext_187 ⟨by show 0 + 0 + 0 + 0 + 0 + 0 + 16 ≤ 16; omega, by show 0 + 0 + 0 + 0 + 0 + 0 + 128 ≤ 128; omega⟩) hT (fun v61 H locs hp62 hT => ?_)
            obtain ⟨_, hI⟩ := hp62
            have hS := hI.1
            refine lv_goto (tgt := 206) hx hb dX3_takeNext_190 (by decide) ?_
            have hka := (ci_hdI hI).1
            refine lv_aload_n hx hb dX3_takeNext_206 rfl (lv_at hl 3 rfl) ?_
            refine hv_gets (ci := 3) (C := RX3) (T := TX3) (N := 12) hx hb hts (tw_cs in_X3) hown hK hT (cs_kX hS) (by decide) rfl 1 (by decide) (hts _ (tw_c tw_48)) rfl (x := (fa 2)) (cs_pN hS) dX3_takeNext_207 ?_
            refine lv_aload_n hx hb dX3_takeNext_210 rfl (lv_at hl 2 rfl) ?_
            refine hv_callv (va_runV (As := [.ref a]) (rest := []) ⟨hx, hb, hml, hown, hts⟩ (c_keepSpare l D tc hI) (cwV 1 hts (tw_V tw_264 tw_265 tw_266 tw_2 tw_267) rfl rfl rfl (by decide +kernel) ⟨Nat.le_of_ble_eq_true rfl, Nat.le_of_ble_eq_true rfl⟩) (hv_preV (ci := 1) hK hT.1 (cs_kN hS) (by decide) rfl rfl) rfl rfl hl.1 rfl (lv_room (Nat.le_of_ble_eq_true rfl)) dX3_takeNext_211 ⟨by show 0 + 0 + 0 + 0 + 0 + 0 + 16 + 0 ≤ 16; omega, by show 0 + 0 + 0 + 0 + 0 + 0 + 128 + 0 ≤ 128; omega⟩) hT (fun v63 H locs hp64 hT => ?_)
            have hI := hp64
            have hS := hI.1
            refine lv_iload hx hb dX3_takeNext_214 (lv_at hl 0 rfl) ?_
            refine lv_if_eq (tgt := 223) hx hb dX3_takeNext_216 (by decide) (fun c216 => ?_) (fun c216 => ?_)
            · skip
              refine lv_iconst (v := 1) hx hb dX3_takeNext_223 (by decide) ?_
              exact hret _ 1 v63 _ _ _ _ _ dX3_takeNext_224 rfl hT ⟨_, hI⟩ (by show 0 + 0 + 0 + 0 + 0 + 0 + 16 + 0 ≤ 16; omega) (by show 0 + 0 + 0 + 0 + 0 + 0 + 128 + 0 ≤ 128; omega)
            · skip
              refine lv_iconst (v := 2) hx hb dX3_takeNext_219 (by decide) ?_
              refine lv_goto (tgt := 224) hx hb dX3_takeNext_220 (by decide) ?_
              exact hret _ 2 v63 _ _ _ _ _ dX3_takeNext_224 rfl hT ⟨_, hI⟩ (by show 0 + 0 + 0 + 0 + 0 + 0 + 16 + 0 ≤ 16; omega) (by show 0 + 0 + 0 + 0 + 0 + 0 + 128 + 0 ≤ 128; omega)
        · skip
          refine lv_iconst (v := 0) hx hb dX3_takeNext_111 (by decide) ?_
          exact hret _ 0 v _ _ _ _ _ dX3_takeNext_112 rfl hT ⟨_, hI⟩ (by show 0 + 0 + 0 + 0 ≤ 16; omega) (by show 0 + 0 + 0 + 0 ≤ 128; omega)
      · skip
        refine lv_aload_n hx hb dX3_takeNext_31 rfl (lv_at hl 2 rfl) ?_
        refine hv_gets (ci := 3) (C := RX3) (T := TX3) (N := 12) hx hb hts (tw_cs in_X3) hown hK hT (cs_kX hS) (by decide) rfl 0 (by decide) (hts _ (tw_c tw_47)) rfl (x := (fa 1)) (cs_pS hS) dX3_takeNext_32 ?_
        refine lv_iload_n hx hb dX3_takeNext_35 rfl (lv_at hl 0 rfl) ?_
        refine hv_alds (t := 0) hx hb hK hT (cs_kS hS) rfl rfl (cs_in8 (cs_lt8 hS hj)) (x := (fa (16 + j))) (cs_qS hS hj) dX3_takeNext_36 ?_
        refine hv_geti (ci := 2) (C := RX2) (T := TX2) (N := 10) hx hb hts (tw_cs in_X2) hown hK hT (cs_ks hS hj) (by decide) rfl 8 (by decide) (hts _ (tw_c tw_89)) rfl dX3_takeNext_37 ?_
        refine lv_topi (fun g65 eg65 => ?_)
        have eg65 : g65 = (nI tj) := by rw [eg65]; exact htj
        subst eg65
        refine lv_iload_n hx hb dX3_takeNext_40 rfl (lv_at hl 3 rfl) ?_
        refine lv_icmp_le (tgt := 46) hx hb dX3_takeNext_41 (by decide) (fun c41 => ?_) (fun c41 => ?_)
        · skip
          have hle : tj ≤ L := (nI_leI (by omega) (by omega)).mp c41
          refine lv_aload_n hx hb dX3_takeNext_46 rfl (lv_at hl 2 rfl) ?_
          refine hv_gets (ci := 3) (C := RX3) (T := TX3) (N := 12) hx hb hts (tw_cs in_X3) hown hK hT (cs_kX hS) (by decide) rfl 1 (by decide) (hts _ (tw_c tw_48)) rfl (x := (fa 2)) (cs_pN hS) dX3_takeNext_47 ?_
          refine lv_aload_n hx hb dX3_takeNext_50 rfl (lv_at hl 2 rfl) ?_
          refine hv_gets (ci := 3) (C := RX3) (T := TX3) (N := 12) hx hb hts (tw_cs in_X3) hown hK hT (cs_kX hS) (by decide) rfl 0 (by decide) (hts _ (tw_c tw_47)) rfl (x := (fa 1)) (cs_pS hS) dX3_takeNext_51 ?_
          refine lv_iload_n hx hb dX3_takeNext_54 rfl (lv_at hl 0 rfl) ?_
          refine hv_alds (t := 0) hx hb hK hT (cs_kS hS) rfl rfl (cs_in8 (cs_lt8 hS hj)) (x := (fa (16 + j))) (cs_qS hS hj) dX3_takeNext_55 ?_
          refine hv_geti (ci := 2) (C := RX2) (T := TX2) (N := 10) hx hb hts (tw_cs in_X2) hown hK hT (cs_ks hS hj) (by decide) rfl 8 (by decide) (hts _ (tw_c tw_89)) rfl dX3_takeNext_56 ?_
          refine lv_topi (fun g66 eg66 => ?_)
          have eg66 : g66 = (nI tj) := by rw [eg66]; exact htj
          subst eg66
          refine hv_puti (ci := 1) (C := RX1) (T := TX1) (N := 9) hx hb hts (tw_cs in_X1) tyX1 tyX1_ok nmX1 hown hK hT (cs_kN hS) (by decide) rfl 4 (by decide) (hts _ (tw_c tw_32)) rfl rfl (x := (nI tj)) rfl rfl dX3_takeNext_59 (fun H locs hT => ?_)
          have hI := ci_putN (t := tj) (by omega) hI
          have hS := hI.1
          refine lv_aload_n hx hb dX3_takeNext_62 rfl (lv_at hl 2 rfl) ?_
          refine hv_gets (ci := 3) (C := RX3) (T := TX3) (N := 12) hx hb hts (tw_cs in_X3) hown hK hT (cs_kX hS) (by decide) rfl 0 (by decide) (hts _ (tw_c tw_47)) rfl (x := (fa 1)) (cs_pS hS) dX3_takeNext_63 ?_
          refine lv_iload_n hx hb dX3_takeNext_66 rfl (lv_at hl 0 rfl) ?_
          refine hv_alds (t := 0) hx hb hK hT (cs_kS hS) rfl rfl (cs_in8 (cs_lt8 hS hj)) (x := (fa (16 + j))) (cs_qS hS hj) dX3_takeNext_67 ?_
          refine lv_iconst (v := (-1)) hx hb dX3_takeNext_68 (by decide) ?_
          refine hv_puti (ci := 2) (C := RX2) (T := TX2) (N := 10) hx hb hts (tw_cs in_X2) tyX2 tyX2_ok nmX2 hown hK hT (cs_ks hS hj) (by decide) rfl 8 (by decide) (hts _ (tw_c tw_89)) rfl rfl (x := (-1)) rfl rfl dX3_takeNext_69 (fun H locs hT => ?_)
          have hI := ci_putT (i := j) (x := (-1)) (Or.inl rfl) hI hj
          have hS := hI.1
          refine lv_aload_n hx hb dX3_takeNext_72 rfl (lv_at hl 2 rfl) ?_
          refine lv_dup hx hb dX3_takeNext_73 rfl ?_
          refine hv_geti (ci := 3) (C := RX3) (T := TX3) (N := 12) hx hb hts (tw_cs in_X3) hown hK hT (cs_kX hS) (by decide) rfl 11 (by decide) (hts _ (tw_c tw_58)) rfl dX3_takeNext_74 ?_
          refine lv_topi (fun g67 eg67 => ?_)
          refine lv_iconst (v := 1) hx hb dX3_takeNext_77 (by decide) ?_
          refine lv_iadd hx hb dX3_takeNext_78 ?_
          refine hv_puti (ci := 3) (C := RX3) (T := TX3) (N := 12) hx hb hts (tw_cs in_X3) tyX3 tyX3_ok nmX3 hown hK hT (cs_kX hS) (by decide) rfl 11 (by decide) (hts _ (tw_c tw_58)) rfl rfl (x := (g67 + 1)) rfl rfl dX3_takeNext_79 (fun H locs hT => ?_)
          have hI := ci_put (f := 311) (a := (fa 0)) (x := (g67 + 1)) rfl hI
          have hS := hI.1
          refine lv_aload_n hx hb dX3_takeNext_82 rfl (lv_at hl 2 rfl) ?_
          refine lv_bipush (v := 11) hx hb dX3_takeNext_83 (by decide) ?_
          refine lv_iload_n hx hb dX3_takeNext_85 rfl (lv_at hl 0 rfl) ?_
          refine lv_iload_n hx hb dX3_takeNext_86 rfl (lv_at hl 0 rfl) ?_
          refine lv_iconst (v := 0) hx hb dX3_takeNext_87 (by decide) ?_
          refine lv_iconst (v := 0) hx hb dX3_takeNext_88 (by decide) ?_
          refine hv_callv (va_runV (As := [.int 11, .int (nI j), .int (nI j), .int 0, .int 0]) (rest := []) ⟨hx, hb, hml, hown, hts⟩ (c_note l D tc hI 11 (nI j) (nI j) 0 0) (cwV 5 hts (tw_V tw_44 tw_45 tw_482 tw_1 tw_46) rfl rfl rfl (by decide +kernel) ⟨Nat.le_of_ble_eq_true rfl, Nat.le_of_ble_eq_true rfl⟩) (hv_preV (ci := 3) hK hT.1 (cs_kX hS) (by decide) rfl rfl) rfl rfl hl.1 rfl (lv_room (Nat.le_of_ble_eq_true rfl)) dX3_takeNext_89 ⟨by show 0 + 0 + 0 + 0 + 0 ≤ 16; omega, by show 0 + 0 + 0 + 0 + 0 ≤ 128; omega⟩) hT (fun v68 H locs hp69 hT => ?_)
          have hI := hp69
          have hS := hI.1
          refine lv_aload_n hx hb dX3_takeNext_92 rfl (lv_at hl 2 rfl) ?_
          refine lv_iload_n hx hb dX3_takeNext_93 rfl (lv_at hl 0 rfl) ?_
          refine hv_callv (va_runV (As := [.int (nI j)]) (rest := []) ⟨hx, hb, hml, hown, hts⟩ (c_runOut l D tc hI hj (Nat.zero_le _)) (cwV 1 hts (tw_V tw_220 tw_221 tw_496 tw_1 tw_222) rfl rfl rfl (by decide +kernel) ⟨Nat.le_of_ble_eq_true rfl, Nat.le_of_ble_eq_true rfl⟩) (hv_preV (ci := 3) hK hT.1 (cs_kX hS) (by decide) rfl rfl) rfl rfl hl.1 rfl (lv_room (Nat.le_of_ble_eq_true rfl)) dX3_takeNext_94 ⟨by show 0 + 0 + 0 + 0 + 0 + 16 ≤ 16; omega, by show 0 + 0 + 0 + 0 + 0 + 128 ≤ 128; omega⟩) hT (fun v70 H locs hp71 hT => ?_)
          obtain ⟨_, hI⟩ := hp71
          have hS := hI.1
          refine lv_iconst (v := 2) hx hb dX3_takeNext_97 (by decide) ?_
          exact hret _ 2 v70 _ _ _ _ _ dX3_takeNext_98 rfl hT ⟨_, hI⟩ (by show 0 + 0 + 0 + 0 + 0 + 16 ≤ 16; omega) (by show 0 + 0 + 0 + 0 + 0 + 128 ≤ 128; omega)
        · skip
          refine lv_iconst (v := 0) hx hb dX3_takeNext_44 (by decide) ?_
          exact hret _ 0 v _ _ _ _ _ dX3_takeNext_45 rfl hT ⟨_, hI⟩ (by show 0 + 0 + 0 + 0 ≤ 16; omega) (by show 0 + 0 + 0 + 0 ≤ 128; omega)

set_option maxHeartbeats 4000000 in
set_option maxRecDepth 100000 in
theorem c_run (l : Launch) (D : va_G) (tc : Nat → ClassId) {fa : Nat → Nat} {n : Nat} {w u : Nat → Nat} {b : Nat} {d : Nat → Nat → Nat} {g : Nat × Nat} {k : Nat} {v : hv_V} (hI : ci_I fa n w u b d g k [] v) (x : Int32) : Met l yX3_run (Cond.code yX3_run cX3_run 6 (some .int) :: lw_B) ({ frames := 8, cells := 4113, slots := 32904, locals := 182 }) (va_Pc [.ref (fa 0), .int x] (hv_Pre D tc v)) (va_Qi (fun (r : Int32) (v1 : hv_V) => ∃ k1, ci_I fa n w u b d g k1 [] v1) (hv_Post D tc (hv_A v)) (hv_A v)) (4113) (32904) (hv_A v) := by
  refine hv_meti l (by decide) (Nat.le_of_ble_eq_true rfl) ?_
  intro p e s m args below meth c Q X hret hK hz H locs ls hT hl
  obtain ⟨hx, hb, hml, hts, hown, hin0⟩ := X
  have hown : s.vm.findClass "CommitSites" = some m.cls := hown
  have hl : lv_has ls 6 [(0, .ref (fa 0)), (1, .int x)] := hl
  have hS := hI.1
  have hE0 := hI.2.2.2
  obtain ⟨t, ht4, ht⟩ := hI.2.1.2.2.2.2.1
  refine lv_iload_n hx hb dX3_run_0 rfl (lv_at hl 1 rfl) ?_
  refine lv_if_lt (tgt := 26) hx hb dX3_run_1 (by decide) (fun c1 => ?_) (fun c1 => ?_)
  · skip
    refine lv_iconst (v := (-1)) hx hb dX3_run_26 (by decide) ?_
    exact hret _ (-1) v _ _ _ _ _ dX3_run_27 rfl hT ⟨_, hI⟩ (by show 0 ≤ 4113; omega) (by show 0 ≤ 32904; omega)
  · skip
    refine lv_iload_n hx hb dX3_run_4 rfl (lv_at hl 1 rfl) ?_
    refine lv_sipush (v := 500) hx hb dX3_run_5 (by decide) ?_
    refine lv_icmp_gt (tgt := 26) hx hb dX3_run_8 (by decide) (fun c8 => ?_) (fun c8 => ?_)
    · skip
      refine lv_iconst (v := (-1)) hx hb dX3_run_26 (by decide) ?_
      exact hret _ (-1) v _ _ _ _ _ dX3_run_27 rfl hT ⟨_, hI⟩ (by show 0 ≤ 4113; omega) (by show 0 ≤ 32904; omega)
    · skip
      obtain ⟨q, hq5, rfl⟩ := nI_of2 (M := 500) (n := 500) rfl c1 (Int32.not_lt.mp c8)
      refine lv_aload_n hx hb dX3_run_11 rfl (lv_at hl 0 rfl) ?_
      refine hv_gets (ci := 3) (C := RX3) (T := TX3) (N := 12) hx hb hts (tw_cs in_X3) hown hK hT (cs_kX hS) (by decide) rfl 1 (by decide) (hts _ (tw_c tw_48)) rfl (x := (fa 2)) (cs_pN hS) dX3_run_12 ?_
      refine hv_geti (ci := 1) (C := RX1) (T := TX1) (N := 9) hx hb hts (tw_cs in_X1) hown hK hT (cs_kN hS) (by decide) rfl 4 (by decide) (hts _ (tw_c tw_32)) rfl dX3_run_15 ?_
      refine lv_topi (fun g1 eg1 => ?_)
      have eg1 : g1 = (nI t) := by rw [eg1]; exact ht
      subst eg1
      refine lv_iload_n hx hb dX3_run_18 rfl (lv_at hl 1 rfl) ?_
      refine lv_iadd hx hb dX3_run_19 ?_
      refine hv_as (x := ((nI t) + (nI q))) (y := (nI (t + q))) (nI_add _ _) ?_
      refine lv_sipush (v := 4000) hx hb dX3_run_20 (by decide) ?_
      refine lv_icmp_le (tgt := 28) hx hb dX3_run_23 (by decide) (fun c23 => ?_) (fun c23 => ?_)
      · skip
        have hsum : t + q ≤ 4000 := (nI_leI (b := 4000) (by omega) (by omega)).mp c23
        refine lv_aload_n hx hb dX3_run_28 rfl (lv_at hl 0 rfl) ?_
        refine hv_gets (ci := 3) (C := RX3) (T := TX3) (N := 12) hx hb hts (tw_cs in_X3) hown hK hT (cs_kX hS) (by decide) rfl 1 (by decide) (hts _ (tw_c tw_48)) rfl (x := (fa 2)) (cs_pN hS) dX3_run_29 ?_
        refine hv_geti (ci := 1) (C := RX1) (T := TX1) (N := 9) hx hb hts (tw_cs in_X1) hown hK hT (cs_kN hS) (by decide) rfl 4 (by decide) (hts _ (tw_c tw_32)) rfl dX3_run_32 ?_
        refine lv_topi (fun g2 eg2 => ?_)
        have eg2 : g2 = (nI t) := by rw [eg2]; exact ht
        subst eg2
        refine lv_iload_n hx hb dX3_run_35 rfl (lv_at hl 1 rfl) ?_
        refine lv_iadd hx hb dX3_run_36 ?_
        refine hv_as (x := ((nI t) + (nI q))) (y := (nI (t + q))) (nI_add _ _) ?_
        refine lv_istore_n (lv' := [(2, _), (0, _), (1, _)]) hx hb dX3_run_37 rfl hl (by decide) rfl (fun ls hl => ?_)
        refine lv_iconst (v := 0) hx hb dX3_run_38 (by decide) ?_
        refine lv_istore_n (lv' := [(3, _), (2, _), (0, _), (1, _)]) hx hb dX3_run_39 rfl hl (by decide) rfl (fun ls hl => ?_)
        refine lv_iconst (v := 0) hx hb dX3_run_40 (by decide) ?_
        refine hv_as (x := 0) (y := (nI 0)) nI_0.symm ?_
        refine lv_istore (lv' := [(4, _), (3, _), (2, _), (0, _), (1, _)]) hx hb dX3_run_41 hl (by decide) rfl (fun ls hl => ?_)
        have hL43 : ∀ (N9 : Nat) (i : Nat) (x3 : Int32) (kL : Nat) (vL : hv_V) (H : Heap) (locs : List Loc) (ls : Array Slot), i ≤ 1000000 → 1000000 < i + N9 → ci_I fa n w u b d g kL [] vL → hv_St (hv_A v) s D tc vL H locs → lv_has ls 6 [(0, .ref (fa 0)), (2, .int (nI (t + q))), (3, .int x3), (4, .int (nI i))] → W p l e ({ frames := 8, cells := 4113, slots := 32904, locals := 182 } : Room) s m args below meth c H locs (kL - k) (8 * (kL - k)) Q (F0 m 43 ls []) := by
          intro N9
          induction N9 with
          | zero =>
            intro i x3 kL vL H locs ls hle hN hI hT hl
            exfalso
            omega
          | succ N9 ih43 =>
            intro i x3 kL vL H locs ls hle hN hI hT hl
            have hS := hI.1
            have hkL := ci_kle hI
            refine lv_iload hx hb dX3_run_43 (lv_at hl 3 rfl) ?_
            refine lv_ldc (v := 1000000) hx hb hown (hts _ (tw_c tw_201)) dX3_run_45 ?_
            refine lv_icmp_ge (tgt := 80) hx hb dX3_run_47 (by decide) (fun c47 => ?_) (fun c47 => ?_)
            · skip
              refine lv_aload_n hx hb dX3_run_80 rfl (lv_at hl 0 rfl) ?_
              refine hv_gets (ci := 3) (C := RX3) (T := TX3) (N := 12) hx hb hts (tw_cs in_X3) hown hK hT (cs_kX hS) (by decide) rfl 1 (by decide) (hts _ (tw_c tw_48)) rfl (x := (fa 2)) (cs_pN hS) dX3_run_81 ?_
              refine lv_iload_n hx hb dX3_run_84 rfl (lv_at hl 1 rfl) ?_
              refine hv_puti (ci := 1) (C := RX1) (T := TX1) (N := 9) hx hb hts (tw_cs in_X1) tyX1 tyX1_ok nmX1 hown hK hT (cs_kN hS) (by decide) rfl 4 (by decide) (hts _ (tw_c tw_32)) rfl rfl (x := (nI (t + q))) rfl rfl dX3_run_85 (fun H locs hT => ?_)
              have hI := ci_putN (t := t + q) hsum hI
              have hS := hI.1
              refine lv_iload_n hx hb dX3_run_88 rfl (lv_at hl 2 rfl) ?_
              exact hret _ x3 (hv_si vL 104 (fa 2) (nI (t + q))) _ _ _ _ _ dX3_run_89 rfl hT ⟨_, hI⟩ (by show kL - k ≤ 4113; omega) (by show 8 * (kL - k) ≤ 32904; omega)
            · skip
              have hlti : i < 1000000 := cs_lpM hle c47
              refine lv_aload_n hx hb dX3_run_50 rfl (lv_at hl 0 rfl) ?_
              refine lv_iload_n hx hb dX3_run_51 rfl (lv_at hl 1 rfl) ?_
              refine hv_calli (va_runV (As := [.int (nI (t + q))]) (rest := []) ⟨hx, hb, hml, hown, hts⟩ (c_takeNext l D tc hI (L := (t + q)) (by omega)) (cwV 1 hts (tw_V tw_202 tw_203 tw_494 tw_1 tw_204) rfl rfl rfl (by decide +kernel) ⟨Nat.le_of_ble_eq_true rfl, Nat.le_of_ble_eq_true rfl⟩) (hv_preV (ci := 3) hK hT.1 (cs_kX hS) (by decide) rfl rfl) rfl rfl hl.1 rfl (lv_room (Nat.le_of_ble_eq_true rfl)) dX3_run_52 ⟨by show kL - k + 16 ≤ 4113; omega, by show 8 * (kL - k) + 128 ≤ 32904; omega⟩) hT (fun r5 v3 H locs hp4 hT => ?_)
              obtain ⟨k2, hI⟩ := hp4
              have hS := hI.1
              refine lv_istore (lv' := [(5, _), (0, _), (2, _), (3, _), (4, _)]) hx hb dX3_run_55 hl (by decide) rfl (fun ls hl => ?_)
              refine lv_iload hx hb dX3_run_57 (lv_at hl 0 rfl) ?_
              refine lv_if_ne (tgt := 65) hx hb dX3_run_59 (by decide) (fun c59 => ?_) (fun c59 => ?_)
              · skip
                refine lv_iload hx hb dX3_run_65 (lv_at hl 0 rfl) ?_
                refine lv_iconst (v := 2) hx hb dX3_run_67 (by decide) ?_
                refine lv_icmp_ne (tgt := 74) hx hb dX3_run_68 (by decide) (fun c68 => ?_) (fun c68 => ?_)
                · skip
                  refine lv_iinc (v := (nI (i + 1))) (lv' := [(4, _), (5, _), (0, _), (2, _), (3, _)]) hx hb dX3_run_74 hl (k := 4) rfl (nI_1 _) (by decide) rfl (fun ls hl => ?_)
                  refine lv_goto (tgt := 43) hx hb dX3_run_77 (by decide) ?_
                  have e1 := hT.1.2.2.1
                  have e2 := hI.2.2.2
                  have e3 := hT.2.2.1.1
                  have e4 := hT.1.2.2.2
                  refine hv_tight (c1 := k2 - k) (n1 := 8 * (k2 - k)) (by omega) (by omega) ?_
                  exact ih43 (i + 1) x3 k2 v3 H locs ls (by omega) (by omega) hI hT (lv_sub hl [2, 3, 4, 0] rfl)
                · skip
                  obtain ⟨z6, ez6⟩ : ∃ y : Int32, y = x3 + 1 := ⟨_, rfl⟩
                  refine lv_iinc (v := z6) (lv' := [(3, _), (5, _), (0, _), (2, _), (4, _)]) hx hb dX3_run_71 hl (k := 3) rfl (by rw [ez6]; rfl) (by decide) rfl (fun ls hl => ?_)
                  refine lv_iinc (v := (nI (i + 1))) (lv' := [(4, _), (3, _), (5, _), (0, _), (2, _)]) hx hb dX3_run_74 hl (k := 4) rfl (nI_1 _) (by decide) rfl (fun ls hl => ?_)
                  refine lv_goto (tgt := 43) hx hb dX3_run_77 (by decide) ?_
                  have e1 := hT.1.2.2.1
                  have e2 := hI.2.2.2
                  have e3 := hT.2.2.1.1
                  have e4 := hT.1.2.2.2
                  refine hv_tight (c1 := k2 - k) (n1 := 8 * (k2 - k)) (by omega) (by omega) ?_
                  exact ih43 (i + 1) z6 k2 v3 H locs ls (by omega) (by omega) hI hT (lv_sub hl [3, 4, 1, 0] rfl)
              · skip
                refine lv_goto (tgt := 80) hx hb dX3_run_62 (by decide) ?_
                refine lv_aload_n hx hb dX3_run_80 rfl (lv_at hl 1 rfl) ?_
                refine hv_gets (ci := 3) (C := RX3) (T := TX3) (N := 12) hx hb hts (tw_cs in_X3) hown hK hT (cs_kX hS) (by decide) rfl 1 (by decide) (hts _ (tw_c tw_48)) rfl (x := (fa 2)) (cs_pN hS) dX3_run_81 ?_
                refine lv_iload_n hx hb dX3_run_84 rfl (lv_at hl 2 rfl) ?_
                refine hv_puti (ci := 1) (C := RX1) (T := TX1) (N := 9) hx hb hts (tw_cs in_X1) tyX1 tyX1_ok nmX1 hown hK hT (cs_kN hS) (by decide) rfl 4 (by decide) (hts _ (tw_c tw_32)) rfl rfl (x := (nI (t + q))) rfl rfl dX3_run_85 (fun H locs hT => ?_)
                have hI := ci_putN (t := t + q) hsum hI
                have hS := hI.1
                refine lv_iload_n hx hb dX3_run_88 rfl (lv_at hl 3 rfl) ?_
                exact hret _ x3 (hv_si v3 104 (fa 2) (nI (t + q))) _ _ _ _ _ dX3_run_89 rfl hT ⟨_, hI⟩ (by show kL - k + 16 ≤ 4113; omega) (by show 8 * (kL - k) + 128 ≤ 32904; omega)
        refine W.widen (k := k - k) (n := 8 * (k - k)) (by omega) (by omega) ?_
        exact hL43 1000001 0 0 k v H locs ls (by omega) (by omega) hI hT (lv_sub hl [3, 2, 1, 0] rfl)
      · skip
        refine lv_iconst (v := (-1)) hx hb dX3_run_26 (by decide) ?_
        exact hret _ (-1) v _ _ _ _ _ dX3_run_27 rfl hT ⟨_, hI⟩ (by show 0 ≤ 4113; omega) (by show 0 ≤ 32904; omega)

set_option maxHeartbeats 4000000 in
set_option maxRecDepth 100000 in
theorem c_step (l : Launch) (D : va_G) (tc : Nat → ClassId) {fa : Nat → Nat} {n : Nat} {w u : Nat → Nat} {b : Nat} {d : Nat → Nat → Nat} {g : Nat × Nat} {k : Nat} {v : hv_V} (hI : ci_I fa n w u b d g k [] v) : Met l yX3_step (Cond.code yX3_step cX3_step 3 (some .int) :: lw_B) ({ frames := 8, cells := 4113, slots := 32904, locals := 182 }) (va_Pc [.ref (fa 0)] (hv_Pre D tc v)) (va_Qi (fun (r : Int32) (v1 : hv_V) => ∃ k1, ci_I fa n w u b d g k1 [] v1) (hv_Post D tc (hv_A v)) (hv_A v)) (4113) (32904) (hv_A v) := by
  refine hv_meti l (by decide) (Nat.le_of_ble_eq_true rfl) ?_
  intro p e s m args below meth c Q X hret hK hz H locs ls hT hl
  obtain ⟨hx, hb, hml, hts, hown, hin0⟩ := X
  have hown : s.vm.findClass "CommitSites" = some m.cls := hown
  have hl : lv_has ls 3 [(0, .ref (fa 0))] := hl
  have hS := hI.1
  have hE0 := hI.2.2.2
  obtain ⟨t, ht4, ht⟩ := hI.2.1.2.2.2.2.1
  refine lv_iconst (v := 0) hx hb dX3_step_0 (by decide) ?_
  refine hv_as (x := 0) (y := (nI 0)) nI_0.symm ?_
  refine lv_istore_n (lv' := [(1, _), (0, _)]) hx hb dX3_step_1 rfl hl (by decide) rfl (fun ls hl => ?_)
  have hL2 : ∀ (N9 : Nat) (i : Nat) (kL : Nat) (vL : hv_V) (H : Heap) (locs : List Loc) (ls : Array Slot), i ≤ 1000000 → 1000000 < i + N9 → ci_I fa n w u b d g kL [] vL → hv_St (hv_A v) s D tc vL H locs → lv_has ls 3 [(0, .ref (fa 0)), (1, .int (nI i))] → W p l e ({ frames := 8, cells := 4113, slots := 32904, locals := 182 } : Room) s m args below meth c H locs (kL - k) (8 * (kL - k)) Q (F0 m 2 ls []) := by
    intro N9
    induction N9 with
    | zero =>
      intro i kL vL H locs ls hle hN hI hT hl
      exfalso
      omega
    | succ N9 ih2 =>
      intro i kL vL H locs ls hle hN hI hT hl
      have hS := hI.1
      have hkL := ci_kle hI
      refine lv_iload_n hx hb dX3_step_2 rfl (lv_at hl 1 rfl) ?_
      refine lv_ldc (v := 1000000) hx hb hown (hts _ (tw_c tw_201)) dX3_step_3 ?_
      refine lv_icmp_ge (tgt := 42) hx hb dX3_step_5 (by decide) (fun c5 => ?_) (fun c5 => ?_)
      · skip
        refine lv_iconst (v := (-1)) hx hb dX3_step_42 (by decide) ?_
        exact hret _ (-1) vL _ _ _ _ _ dX3_step_43 rfl hT ⟨_, hI⟩ (by show kL - k ≤ 4113; omega) (by show 8 * (kL - k) ≤ 32904; omega)
      · skip
        have hlti : i < 1000000 := cs_lpM hle c5
        refine lv_aload_n hx hb dX3_step_8 rfl (lv_at hl 0 rfl) ?_
        refine lv_sipush (v := 4000) hx hb dX3_step_9 (by decide) ?_
        refine hv_as (x := 4000) (y := (nI 4000)) rfl ?_
        refine hv_calli (va_runV (As := [.int (nI 4000)]) (rest := []) ⟨hx, hb, hml, hown, hts⟩ (c_takeNext l D tc hI (L := 4000) (by omega)) (cwV 1 hts (tw_V tw_202 tw_203 tw_494 tw_1 tw_204) rfl rfl rfl (by decide +kernel) ⟨Nat.le_of_ble_eq_true rfl, Nat.le_of_ble_eq_true rfl⟩) (hv_preV (ci := 3) hK hT.1 (cs_kX hS) (by decide) rfl rfl) rfl rfl hl.1 rfl (lv_room (Nat.le_of_ble_eq_true rfl)) dX3_step_12 ⟨by show kL - k + 16 ≤ 4113; omega, by show 8 * (kL - k) + 128 ≤ 32904; omega⟩) hT (fun r3 v1 H locs hp2 hT => ?_)
        obtain ⟨k2, hI⟩ := hp2
        have hS := hI.1
        refine lv_istore_n (lv' := [(2, _), (0, _), (1, _)]) hx hb dX3_step_15 rfl hl (by decide) rfl (fun ls hl => ?_)
        refine lv_iload_n hx hb dX3_step_16 rfl (lv_at hl 0 rfl) ?_
        refine lv_iconst (v := 2) hx hb dX3_step_17 (by decide) ?_
        refine lv_icmp_ne (tgt := 29) hx hb dX3_step_18 (by decide) (fun c18 => ?_) (fun c18 => ?_)
        · skip
          refine lv_iload_n hx hb dX3_step_29 rfl (lv_at hl 0 rfl) ?_
          refine lv_if_ne (tgt := 36) hx hb dX3_step_30 (by decide) (fun c30 => ?_) (fun c30 => ?_)
          · skip
            refine lv_iinc (v := (nI (i + 1))) (lv' := [(1, _), (2, _), (0, _)]) hx hb dX3_step_36 hl (k := 2) rfl (nI_1 _) (by decide) rfl (fun ls hl => ?_)
            refine lv_goto (tgt := 2) hx hb dX3_step_39 (by decide) ?_
            have e1 := hT.1.2.2.1
            have e2 := hI.2.2.2
            have e3 := hT.2.2.1.1
            have e4 := hT.1.2.2.2
            refine hv_tight (c1 := k2 - k) (n1 := 8 * (k2 - k)) (by omega) (by omega) ?_
            exact ih2 (i + 1) k2 v1 H locs ls (by omega) (by omega) hI hT (lv_sub hl [2, 0] rfl)
          · skip
            refine lv_goto (tgt := 42) hx hb dX3_step_33 (by decide) ?_
            refine lv_iconst (v := (-1)) hx hb dX3_step_42 (by decide) ?_
            exact hret _ (-1) v1 _ _ _ _ _ dX3_step_43 rfl hT ⟨_, hI⟩ (by show kL - k + 16 ≤ 4113; omega) (by show 8 * (kL - k) + 128 ≤ 32904; omega)
        · skip
          refine lv_aload_n hx hb dX3_step_21 rfl (lv_at hl 1 rfl) ?_
          refine hv_gets (ci := 3) (C := RX3) (T := TX3) (N := 12) hx hb hts (tw_cs in_X3) hown hK hT (cs_kX hS) (by decide) rfl 1 (by decide) (hts _ (tw_c tw_48)) rfl (x := (fa 2)) (cs_pN hS) dX3_step_22 ?_
          refine hv_geti (ci := 1) (C := RX1) (T := TX1) (N := 9) hx hb hts (tw_cs in_X1) hown hK hT (cs_kN hS) (by decide) rfl 4 (by decide) (hts _ (tw_c tw_32)) rfl dX3_step_25 ?_
          refine lv_topi (fun g4 eg4 => ?_)
          exact hret _ g4 v1 _ _ _ _ _ dX3_step_28 rfl hT ⟨_, hI⟩ (by show kL - k + 16 ≤ 4113; omega) (by show 8 * (kL - k) + 128 ≤ 32904; omega)
  refine W.widen (k := k - k) (n := 8 * (k - k)) (by omega) (by omega) ?_
  exact hL2 1000001 0 k v H locs ls (by omega) (by omega) hI hT (lv_sub hl [1, 0] rfl)
