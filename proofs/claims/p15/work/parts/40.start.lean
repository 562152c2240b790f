set_option maxHeartbeats 4000000 in
set_option maxRecDepth 100000 in
/-- THE LAW, from its entry -/
theorem whole_start {p : Program} {e : Env} {s : State} {m : MethodId} {below : List Frame} {meth : Method} {c : Code} (l : Launch) {b L : Nat} {xs : Nat → Int32} (hL : L ≤ 2048) (C0 : lw_At p s m meth c b L xs) : W p l e room_1 s m #[Value.ref b] below meth c s.heap [] 0 0 (lw_Z below #[Value.ref b] s) (entryFrame m ([Value.ref b] : List Value).toArray 4) := by
  obtain ⟨hx, hb, hr, hml, hown, hts0, hX, hbl, hlocks, hgv⟩ := id C0
  have hts := lw_hB hts0
  have hown : s.vm.findClass "CommitSitesLaw" = some m.cls := hown
  obtain ⟨D, tc, hK⟩ := lw_K hts0
  have hl := lv_entry ([.ref b]) (n := 4) (Nat.le_of_ble_eq_true rfl)
  rw [lg_entry_eq]
  generalize (lg_sl ([.ref b]) ++ List.replicate (4 - (lg_sl ([.ref b])).length) Slot.unset).toArray = ls at hl ⊢
  have hl : lv_has ls 4 [(0, .ref b)] := hl
  have hT : hv_St (fun q : Nat => s.heap.size ≤ q) s D tc (hv_emp s.heap.size (hv_tot s.heap)) s.heap [] := ⟨hv_W_emp, fun a h => absurd rfl h, va_S.rf, fun _ h => h⟩
  refine hv_new (ci := 3) (C := RX3) (T := TX3) (N := 12) hx hb hts (tw_cs in_X3) tyX3 tyX3_ok hown (hts _ (tw_c tw_6)) (hts _ (tw_c tw_7)) (hts _ (tw_c tw_1)) hK hT (by decide) rfl hd_X3 (by show 0 + 1 ≤ 600000; omega) (by show 0 + 12 ≤ 7302250; omega) dL_law_0 (fun H hT => ?_)
  refine lv_dup hx hb dL_law_3 rfl ?_
  refine hv_callv (va_runI (As := []) (rest := [.ref (hv_n (hv_emp s.heap.size (hv_tot s.heap)))]) ⟨hx, hb, hml, hown, hts⟩ (c_init l D tc (v := (hv_nw (hv_emp s.heap.size (hv_tot s.heap)) (4, 0) 12)) (x := (hv_n (hv_emp s.heap.size (hv_tot s.heap)))) (by rw [hv_nw_k]; exact if_pos rfl) (fun f => by rw [hv_nw_i]; exact if_pos rfl)) (cwI 0 hts (tw_I tw_10) rfl rfl rfl (hts _ (tw_c tw_1)) (hts _ (tw_c tw_8)) (hts _ (tw_c tw_9)) rfl (by decide +kernel) ⟨Nat.le_of_ble_eq_true rfl, Nat.le_of_ble_eq_true rfl⟩) (hv_preS hK hT.1) rfl rfl hl.1 rfl (lv_room (Nat.le_of_ble_eq_true rfl)) dL_law_4 ⟨by show 0 + 1 + 14 ≤ 600000; omega, by show 0 + 12 + 158 ≤ 7302250; omega⟩) hT (fun v1 H locs hp1 hT => ?_)
  obtain ⟨fa, hfa, hI⟩ := hp1
  have hn1 : hv_n v1 = s.heap.size + 1 + 14 + 0 := hI.2.2.2.1
  have ht1 : hv_t v1 = hv_tot s.heap + 12 + 158 + 8 * 0 := hI.2.2.2.2
  have hW1 := hT.1.2.1
  have hA1 := hT.2.1
  refine lv_astore_n (lv' := [(1, _), (0, _)]) hx hb dL_law_7 rfl hl (by decide) rfl (fun ls hl => ?_)
  refine hv_new (ci := 4) (C := RX4) (T := TX4) (N := 34) hx hb hts (tw_cs in_X4) tyX4 tyX4_ok hown (hts _ (tw_c tw_305)) (hts _ (tw_c tw_306)) (hts _ (tw_c tw_3)) hK hT (by decide) rfl hd_X4 (by show 0 + 1 + 14 + 1 ≤ 600000; omega) (by show 0 + 12 + 158 + 34 ≤ 7302250; omega) dL_law_8 (fun H hT => ?_)
  refine lv_dup hx hb dL_law_11 rfl ?_
  have hS : lw_S s D tc (hv_one (hv_n v1) (hv_n v1 + 1) (hv_t v1 + 34)) (hv_sz v1 (hv_n v1 + 1) (hv_t v1 + 34)) H locs := by
    have hone : ∀ a, (hv_k (hv_one (hv_n v1) (hv_n v1 + 1) (hv_t v1 + 34)) a).1 ≠ 0 → a = hv_n v1 := fun a ha => by
      by_cases q : a = hv_n v1
      · exact q
      · exact absurd (congrArg Prod.fst (show hv_k (hv_one (hv_n v1) (hv_n v1 + 1) (hv_t v1 + 34)) a = (0, 0) from if_neg q)) ha
    refine ⟨hv_W_res hT.1 (fun a ha => ?_) rfl rfl, hv_W_res hT.1 (fun a ha => ?_) rfl rfl, fun a ha => ?_, fun a ha => hA1 a ha, hT.2.2.1, fun a h1 h2 => ?_⟩
    · have q := hone a ha
      subst q
      refine ⟨?_, fun f => ?_, fun f => ?_, fun j => ?_, fun j => ?_⟩
      · rw [hv_nw_k, if_pos rfl]; exact if_pos rfl
      · rw [hv_nw_i, if_pos rfl]; rfl
      · rw [hv_nw_p, if_pos rfl]; rfl
      · rw [hv_nw_a, if_pos rfl]; rfl
      · rw [hv_nw_q, if_pos rfl]; rfl
    · have q : ¬ a = hv_n v1 := fun q => by have := hW1 a ha; omega
      exact ⟨by rw [hv_nw_k, if_neg q]; rfl, fun f => by rw [hv_nw_i, if_neg q]; rfl, fun f => by rw [hv_nw_p, if_neg q]; rfl, fun j => by rw [hv_nw_a, if_neg q]; rfl, fun j => by rw [hv_nw_q, if_neg q]; rfl⟩
    · have q := hone a ha
      omega
    · have q := hone a h1
      have := hW1 a h2
      omega
  refine lw_callv (va_runI (As := []) (rest := [.ref (hv_n v1)]) ⟨hx, hb, hml, hown, hts⟩ (m_init l D tc (v := hv_one (hv_n v1) (hv_n v1 + 1) (hv_t v1 + 34)) (x := hv_n v1) (if_pos rfl) (fun f => rfl)) (cwI 0 hts (tw_I tw_309) rfl rfl rfl (hts _ (tw_c tw_3)) (hts _ (tw_c tw_307)) (hts _ (tw_c tw_308)) rfl (by decide +kernel) ⟨Nat.le_of_ble_eq_true rfl, Nat.le_of_ble_eq_true rfl⟩) (hv_preS hK hS.1) rfl rfl hl.1 rfl (lv_room (Nat.le_of_ble_eq_true rfl)) dL_law_12 ⟨by show 0 + 1 + 14 + 1 + 19 ≤ 600000; omega, by show 0 + 12 + 158 + 34 + 420205 ≤ 7302250; omega⟩) hS (fun r1 H locs hp hT hn9 ht9 => ?_)
  obtain ⟨ra, hra, hrn, hrt, hJ⟩ := hp
  have hrn : hv_n r1 = hv_n v1 + 1 + 19 := hrn
  have hrt : hv_t r1 = hv_t v1 + 34 + 420205 := hrt
  have hJJ : lw_J (s.heap.size + 35, hv_tot s.heap + 420409) (fa 0) (ra 0) 410048 (hv_sz v1 H.size (hv_tot H)) r1 := ⟨fa, 0, _, _, 0, _, ra, _, rfl, rfl, ⟨fun k hk => absurd hk (Nat.not_lt_zero _), fun k hk => absurd hk (Nat.not_lt_zero _), fun k _ _ => rfl, fun a c ha => absurd ha (Nat.not_lt_zero _), fun a c _ => rfl⟩, ⟨0, ci_sz (g1 := (s.heap.size + 35 + 2 * 0, hv_tot s.heap + 420409 + 18 * 0)) hI (by show H.size = s.heap.size + 35 + 2 * 0 + 0; omega) (by show hv_tot H = hv_tot s.heap + 420409 + 18 * 0 + 8 * 0; omega)⟩, ⟨0, 0, _, _, _, _, hJ⟩⟩
  rw [hfa, hra] at hJJ
  refine lv_astore_n (lv' := [(2, _), (1, _), (0, _)]) hx hb dL_law_15 rfl hl (by decide) rfl (fun ls hl => ?_)
  refine lv_iconst (v := 0) hx hb dL_law_16 (by decide) ?_
  refine hv_as (x := 0) (y := (nI 0)) nI_0.symm ?_
  refine lv_istore_n (lv' := [(3, _), (2, _), (1, _), (0, _)]) hx hb dL_law_17 rfl hl (by decide) rfl (fun ls hl => ?_)
  exact lw_loop l hK hL C0 (L + 1) 0 410048 _ _ H locs ls (Nat.zero_le _) (by omega) (by omega) hJJ hT.sw (lv_sub hl [3, 2, 1, 0] rfl)