def hv_emp (n t : Nat) : hv_V := (fun _ => (0, 0), fun _ _ => 0, fun _ _ => none, fun _ _ => 0, fun _ _ => none, n, t)
def hv_one (y n t : Nat) : hv_V := (fun a => if a = y then (5, 0) else (0, 0), fun _ _ => 0, fun _ _ => none, fun _ _ => 0, fun _ _ => none, n, t)
theorem hv_W_emp {D : va_G} {tc : Nat → ClassId} {H : Heap} : hv_W D tc (hv_emp H.size (hv_tot H)) H := by
  refine ⟨fun a => ⟨fun ci h1 _ => ?_, fun t n h1 _ => ?_, fun t n h1 => ?_⟩, fun a h => absurd rfl h, rfl, rfl⟩
  · have h1 : ((0, 0) : Nat × Nat) = (ci + 1, 0) := h1
    exact absurd (congrArg Prod.fst h1) (by show ¬ (0 = ci + 1); omega)
  · have h1 : ((0, 0) : Nat × Nat) = (100 + t, n) := h1
    exact absurd (congrArg Prod.fst h1) (by show ¬ (0 = 100 + t); omega)
  · have h1 : ((0, 0) : Nat × Nat) = (102 + t, n) := h1
    exact absurd (congrArg Prod.fst h1) (by show ¬ (0 = 102 + t); omega)
/-- a part of a view -/
theorem hv_W_res {D : va_G} {tc : Nat → ClassId} {V v : hv_V} {H : Heap} (h : hv_W D tc V H) (hk : ∀ a, (hv_k v a).1 ≠ 0 → hv_k v a = hv_k V a ∧ (∀ f, hv_i v f a = hv_i V f a) ∧ (∀ f, hv_p v f a = hv_p V f a) ∧ (∀ j, hv_a v a j = hv_a V a j) ∧ ∀ j, hv_q v a j = hv_q V a j) (hn : hv_n v = hv_n V) (ht : hv_t v = hv_t V) : hv_W D tc v H := by
  refine ⟨fun a => ?_, fun a ha => ?_, by rw [hn]; exact h.2.2.1, by rw [ht]; exact h.2.2.2⟩
  · by_cases h0 : (hv_k v a).1 = 0
    · refine ⟨fun ci h1 h2 => ?_, fun t n h1 h2 => ?_, fun t n h1 => ?_⟩
      · rw [h1] at h0
        exact absurd h0 (Nat.succ_ne_zero ci)
      · rw [h1] at h0
        exact absurd h0 (by show ¬ (100 + t = 0); omega)
      · rw [h1] at h0
        exact absurd h0 (by show ¬ (102 + t = 0); omega)
    · obtain ⟨e1, e2, e3, e4, e5⟩ := hk a h0
      exact hv_c_kept (h.1 a) rfl e1 e2 e3 e4 e5
  · rw [hn]
    exact h.2.1 a (by rw [← (hk a ha).1]; exact ha)
theorem lw_lt {j L : Nat} (hL : L ≤ 2048) (hj : j ≤ 4000) (h : ¬ nI L - 4 < nI j) : j + 4 ≤ L := by
  rcases Nat.lt_or_ge L 4 with q | q
  · have key : ∀ L, L < 4 → nI L - 4 < 0 := by decide +kernel
    exact absurd (Int32.lt_of_lt_of_le (key L q) (nI_pos' (by omega))) h
  · obtain ⟨a, rfl⟩ : ∃ a, L = a + 4 := ⟨L - 4, by omega⟩
    have e : nI (a + 4) - 4 = nI a := by
      rw [← nI_add a 4]
      show nI a + nI 4 - nI 4 = nI a
      exact Int32.add_sub_cancel _ _
    rw [e] at h
    have := (nI_leI (a := j) (b := a) (by omega) (by omega)).mp (Int32.not_lt.mp h)
    omega

set_option maxHeartbeats 4000000 in
set_option maxRecDepth 100000 in
theorem lw_loop {p : Program} {e : Env} {s : State} {m : MethodId} {below : List Frame} {meth : Method} {c : Code} (l : Launch) {D : va_G} {tc : Nat → ClassId} {b L : Nat} {xs : Nat → Int32} {x y : Nat} (hK : hv_K D tc s) (hL : L ≤ 2048) (C0 : lw_At p s m meth c b L xs) : ∀ (N9 j B : Nat) (v r : hv_V) (H : Heap) (locs : List Loc) (ls : Array Slot), j ≤ L → L < j + N9 → B ≤ 410048 + 32 * j → lw_C (s.heap.size + 35, hv_tot s.heap + 420409) x j v → lw_R y B r → lw_S s D tc v r H locs → lv_has ls 4 [(0, .ref b), (1, .ref x), (2, .ref y), (3, .int (nI j))] → W p l e room_1 s m #[Value.ref b] below meth c H locs (H.size - s.heap.size) (hv_tot H - hv_tot s.heap) (lw_Z below #[Value.ref b] s) (F0 m 18 ls []) := by
  obtain ⟨hx, hb, hr, hml, hown, hts0, hX, hbl, hlocks, hgv⟩ := id C0
  have hts := lw_hB hts0
  have hbA : ¬ (fun q : Nat => s.heap.size ≤ q) b := Nat.not_le.mpr hbl
  have hown : s.vm.findClass "CommitSitesLaw" = some m.cls := hown
  intro N9
  induction N9 with
  | zero =>
    intro j B v r H locs ls h1 h2
    exfalso
    omega
  | succ N9 ih =>
    intro j B v r H locs ls hj hN hB hC hR hT hl
    refine lv_iload_n hx hb dL_law_18 rfl (lv_at hl 3 rfl) ?_
    refine lv_aload_n hx hb dL_law_19 rfl (lv_at hl 0 rfl) ?_
    refine va_slen hx hb hX hbl hbA hT.2.2.2.2.1 dL_law_20 ?_
    refine lv_iconst (v := 4) hx hb dL_law_21 (by decide) ?_
    refine lv_isub hx hb dL_law_22 ?_
    refine lv_icmp_gt (tgt := 553) hx hb dL_law_23 (by decide) (fun c23 => ?_) (fun c23 => ?_)
    · skip
      refine lv_iconst (v := 1) hx hb dL_law_553 (by decide) ?_
      have hsz : hv_n _ ≤ s.heap.size + 35 + 4113 ∧ hv_t _ ≤ hv_tot s.heap + 420409 + 32920 := lw_Csize hC
      have hz1 := hT.1.2.2.1
      have hz2 := hT.1.2.2.2
      refine va_forget (fun q hq => hT.2.2.2.2.1.2.2 q hq) ?_
      refine W.widen (k := 600000) (n := 7302250) (by omega) (by omega) ?_
      exact lw_ret hx hb hr hlocks dL_law_554
    · skip
      have hlt : j + 4 ≤ L := lw_lt hL (by omega) c23
      refine lv_aload_n hx hb dL_law_26 rfl (lv_at hl 0 rfl) ?_
      refine lv_iload_n hx hb dL_law_27 rfl (lv_at hl 3 rfl) ?_
      refine va_sld (i := (nI j)) hx hb hX hbl hbA hT.2.2.2.2.1 (vp_in_nI (by omega) (by omega)) dL_law_28 ?_
      refine lv_topi (fun g1 eg1 => ?_)
      refine lv_bipush (v := 31) hx hb dL_law_29 (by decide) ?_
      refine lv_iand hx hb dL_law_31 ?_
      by_cases t32_0 : (g1 &&& 31) = 0
      · skip
        refine lv_tableIn (off := 84) (tgt := 116) hx hb dL_law_32 (by rw [t32_0]; decide) (by rw [t32_0]; decide) (by rw [t32_0]; rfl) (by decide) ?_
        refine lv_aload_n hx hb dL_law_116 rfl (lv_at hl 1 rfl) ?_
        refine lv_aload_n hx hb dL_law_117 rfl (lv_at hl 0 rfl) ?_
        refine lv_iload_n hx hb dL_law_118 rfl (lv_at hl 3 rfl) ?_
        refine lv_iconst (v := 1) hx hb dL_law_119 (by decide) ?_
        refine lv_iadd hx hb dL_law_120 ?_
        refine hv_as (x := ((nI j) + 1)) (y := (nI (j + 1))) (nI_add j 1) ?_
        refine va_sld (i := (nI (j + 1))) hx hb hX hbl hbA hT.2.2.2.2.1 (vp_in_nI (by omega) (by omega)) dL_law_121 ?_
        refine lv_topi (fun g2 eg2 => ?_)
        have hsz : hv_n _ ≤ s.heap.size + 35 + 4113 ∧ hv_t _ ≤ hv_tot s.heap + 420409 + 32920 := lw_Csize hC
        have hz1 := hT.1.2.2.1
        have hz2 := hT.1.2.2.2
        obtain ⟨fa, n, w, u, b1, d, k, ys, qc, qa, am, G, C, hfa, ham, hI, hc⟩ := hC
        subst hfa
        refine lw_calli (va_runV (As := [.int g2]) (rest := []) ⟨hx, hb, hml, hown, hts⟩ (c_site l D tc hI hc (by omega) g2) (cwV 1 hts (tw_V tw_59 tw_60 tw_61 tw_1 tw_62) rfl rfl rfl (by decide +kernel) ⟨Nat.le_of_ble_eq_true rfl, Nat.le_of_ble_eq_true rfl⟩) (hv_preV (ci := 3) hK hT.1 (cs_kX hI.1.1) (by decide) rfl rfl) rfl rfl hl.1 rfl (lv_room (Nat.le_of_ble_eq_true rfl)) dL_law_122 ⟨by show (H.size - s.heap.size) + 2 ≤ 600000; omega, by show (hv_tot H - hv_tot s.heap) + 18 ≤ 7302250; omega⟩) hT (fun r3 v4 H locs hp5 hT hn1 ht1 => ?_)
        have hC : lw_C (s.heap.size + 35, hv_tot s.heap + 420409) (fa 0) (j + 4) v4 := by
          rcases hp5 with hp5 | ⟨h8, fa1, q9, ys1, qc1, qa1, G1, C1, hfa1, hp5, hc1⟩
          · obtain ⟨u1, b3, d1, k1, ys1, qc1, qa1, G1, C1, hp5, hc1⟩ := hp5; exact ⟨fa, n, w, u1, b3, d1, k1, ys1, qc1, qa1, _, G1, C1, rfl, (by omega), hp5, hc1⟩
          · exact ⟨fa1, n + 1, _, _, 0, d, k, ys1, qc1, qa1, _, G1, C1, hfa1, (by omega), hp5, hc1⟩
        have hR := lw_Rsz H.size (hv_tot H) hR
        refine lv_pop hx hb dL_law_125 rfl ?_
        refine lv_aload_n hx hb dL_law_126 rfl (lv_at hl 2 rfl) ?_
        refine lv_aload_n hx hb dL_law_127 rfl (lv_at hl 0 rfl) ?_
        refine lv_iload_n hx hb dL_law_128 rfl (lv_at hl 3 rfl) ?_
        refine lv_iconst (v := 1) hx hb dL_law_129 (by decide) ?_
        refine lv_iadd hx hb dL_law_130 ?_
        refine hv_as (x := ((nI j) + 1)) (y := (nI (j + 1))) (nI_add j 1) ?_
        refine va_sld (i := (nI (j + 1))) hx hb hX hbl hbA hT.2.2.2.2.1 (vp_in_nI (by omega) (by omega)) dL_law_131 ?_
        refine lv_topi (fun g6 eg6 => ?_)
        have hsz : hv_n _ ≤ s.heap.size + 35 + 4113 ∧ hv_t _ ≤ hv_tot s.heap + 420409 + 32920 := lw_Csize hC
        have hz1 := hT.1.2.2.1
        have hz2 := hT.1.2.2.2
        obtain ⟨ra, n2, b2, t2, nm, stt, dg, F, kd, hra, hJ⟩ := hR
        subst hra
        have ho1 := hT.2.1.2.2.1
        have ho2 := hT.2.1.2.2.2
        refine lw_calli (va_runV (As := [.int g6]) (rest := []) ⟨hx, hb, hml, hown, hts⟩ (m_site l D tc hJ g6) (cwV 1 hts (tw_V tw_347 tw_348 tw_349 tw_3 tw_350) rfl rfl rfl (by decide +kernel) ⟨Nat.le_of_ble_eq_true rfl, Nat.le_of_ble_eq_true rfl⟩) (hv_preV (ci := 4) hK hT.sw.1 (rs_k0 hJ.1) (by decide) rfl rfl) rfl rfl hl.1 rfl (lv_room (Nat.le_of_ble_eq_true rfl)) dL_law_132 ⟨by show (H.size - s.heap.size) + 0 ≤ 600000; omega, by show (hv_tot H - hv_tot s.heap) + 0 ≤ 7302250; omega⟩) hT.sw (fun r7 v8 H locs hp9 hT hn1 ht1 => ?_)
        obtain ⟨n3, t3, nm3, st3, dg3, F3, kd3, hJ1⟩ := hp9
        have hC := lw_Csz (N := H.size) (S := hv_tot H) hC (by rw [hn1, hJ1.1.1.2.1, ← hJ.1.1.2.1, ← ho1]; exact hz1) (by rw [ht1, hJ1.1.1.2.2, ← hJ.1.1.2.2, ← ho2]; exact hz2)
        have hR : lw_R (ra 0) B v8 := ⟨ra, n3, b2, t3, nm3, st3, dg3, F3, kd3, rfl, hJ1⟩
        have hT := hT.sw
        refine lv_pop hx hb dL_law_135 rfl ?_
        refine lv_goto (tgt := 547) hx hb dL_law_136 (by decide) ?_
        refine lv_iinc (v := (nI (j + 4))) (lv' := [(3, _), (0, _), (1, _), (2, _)]) hx hb dL_law_547 hl (k := 3) rfl (nI_add j 4) (by decide) rfl (fun ls hl => ?_)
        refine lv_goto (tgt := 18) hx hb dL_law_550 (by decide) ?_
        exact ih (j + 4) _ _ _ H locs ls (by omega) (by omega) (by omega) hC hR hT (lv_sub hl [1, 2, 3, 0] rfl)
      by_cases t32_1 : (g1 &&& 31) = 1
      · skip
        refine lv_tableIn (off := 107) (tgt := 139) hx hb dL_law_32 (by rw [t32_1]; decide) (by rw [t32_1]; decide) (by rw [t32_1]; rfl) (by decide) ?_
        refine lv_aload_n hx hb dL_law_139 rfl (lv_at hl 1 rfl) ?_
        refine lv_aload_n hx hb dL_law_140 rfl (lv_at hl 0 rfl) ?_
        refine lv_iload_n hx hb dL_law_141 rfl (lv_at hl 3 rfl) ?_
        refine lv_iconst (v := 1) hx hb dL_law_142 (by decide) ?_
        refine lv_iadd hx hb dL_law_143 ?_
        refine hv_as (x := ((nI j) + 1)) (y := (nI (j + 1))) (nI_add j 1) ?_
        refine va_sld (i := (nI (j + 1))) hx hb hX hbl hbA hT.2.2.2.2.1 (vp_in_nI (by omega) (by omega)) dL_law_144 ?_
        refine lv_topi (fun g10 eg10 => ?_)
        refine lv_aload_n hx hb dL_law_145 rfl (lv_at hl 0 rfl) ?_
        refine lv_iload_n hx hb dL_law_146 rfl (lv_at hl 3 rfl) ?_
        refine lv_iconst (v := 2) hx hb dL_law_147 (by decide) ?_
        refine lv_iadd hx hb dL_law_148 ?_
        refine hv_as (x := ((nI j) + 2)) (y := (nI (j + 2))) (nI_add j 2) ?_
        refine va_sld (i := (nI (j + 2))) hx hb hX hbl hbA hT.2.2.2.2.1 (vp_in_nI (by omega) (by omega)) dL_law_149 ?_
        refine lv_topi (fun g11 eg11 => ?_)
        have hsz : hv_n _ ≤ s.heap.size + 35 + 4113 ∧ hv_t _ ≤ hv_tot s.heap + 420409 + 32920 := lw_Csize hC
        have hz1 := hT.1.2.2.1
        have hz2 := hT.1.2.2.2
        obtain ⟨fa, n, w, u, b1, d, k, ys, qc, qa, am, G, C, hfa, ham, hI, hc⟩ := hC
        subst hfa
        refine lw_calli (va_runV (As := [.int g10, .int g11]) (rest := []) ⟨hx, hb, hml, hown, hts⟩ (c_quorums l D tc hI hc (by omega) g10 g11) (cwV 2 hts (tw_V tw_92 tw_93 tw_94 tw_1 tw_95) rfl rfl rfl (by decide +kernel) ⟨Nat.le_of_ble_eq_true rfl, Nat.le_of_ble_eq_true rfl⟩) (hv_preV (ci := 3) hK hT.1 (cs_kX hI.1.1) (by decide) rfl rfl) rfl rfl hl.1 rfl (lv_room (Nat.le_of_ble_eq_true rfl)) dL_law_150 ⟨by show (H.size - s.heap.size) + 0 ≤ 600000; omega, by show (hv_tot H - hv_tot s.heap) + 0 ≤ 7302250; omega⟩) hT (fun r12 v13 H locs hp14 hT hn1 ht1 => ?_)
        have hC : lw_C (s.heap.size + 35, hv_tot s.heap + 420409) (fa 0) (j + 4) v13 := by obtain ⟨u1, b3, d1, k1, ys1, qc1, qa1, G1, C1, hp14, hc1⟩ := hp14; exact ⟨fa, n, w, u1, b3, d1, k1, ys1, qc1, qa1, _, G1, C1, rfl, (by omega), hp14, hc1⟩
        have hR := lw_Rsz H.size (hv_tot H) hR
        refine lv_pop hx hb dL_law_153 rfl ?_
        refine lv_aload_n hx hb dL_law_154 rfl (lv_at hl 2 rfl) ?_
        refine lv_aload_n hx hb dL_law_155 rfl (lv_at hl 0 rfl) ?_
        refine lv_iload_n hx hb dL_law_156 rfl (lv_at hl 3 rfl) ?_
        refine lv_iconst (v := 1) hx hb dL_law_157 (by decide) ?_
        refine lv_iadd hx hb dL_law_158 ?_
        refine hv_as (x := ((nI j) + 1)) (y := (nI (j + 1))) (nI_add j 1) ?_
        refine va_sld (i := (nI (j + 1))) hx hb hX hbl hbA hT.2.2.2.2.1 (vp_in_nI (by omega) (by omega)) dL_law_159 ?_
        refine lv_topi (fun g15 eg15 => ?_)
        refine lv_aload_n hx hb dL_law_160 rfl (lv_at hl 0 rfl) ?_
        refine lv_iload_n hx hb dL_law_161 rfl (lv_at hl 3 rfl) ?_
        refine lv_iconst (v := 2) hx hb dL_law_162 (by decide) ?_
        refine lv_iadd hx hb dL_law_163 ?_
        refine hv_as (x := ((nI j) + 2)) (y := (nI (j + 2))) (nI_add j 2) ?_
        refine va_sld (i := (nI (j + 2))) hx hb hX hbl hbA hT.2.2.2.2.1 (vp_in_nI (by omega) (by omega)) dL_law_164 ?_
        refine lv_topi (fun g16 eg16 => ?_)
        have hsz : hv_n _ ≤ s.heap.size + 35 + 4113 ∧ hv_t _ ≤ hv_tot s.heap + 420409 + 32920 := lw_Csize hC
        have hz1 := hT.1.2.2.1
        have hz2 := hT.1.2.2.2
        obtain ⟨ra, n2, b2, t2, nm, stt, dg, F, kd, hra, hJ⟩ := hR
        subst hra
        have ho1 := hT.2.1.2.2.1
        have ho2 := hT.2.1.2.2.2
        refine lw_calli (va_runV (As := [.int g15, .int g16]) (rest := []) ⟨hx, hb, hml, hown, hts⟩ (m_quorums l D tc hJ g15 g16) (cwV 2 hts (tw_V tw_354 tw_355 tw_356 tw_3 tw_357) rfl rfl rfl (by decide +kernel) ⟨Nat.le_of_ble_eq_true rfl, Nat.le_of_ble_eq_true rfl⟩) (hv_preV (ci := 4) hK hT.sw.1 (rs_k0 hJ.1) (by decide) rfl rfl) rfl rfl hl.1 rfl (lv_room (Nat.le_of_ble_eq_true rfl)) dL_law_165 ⟨by show (H.size - s.heap.size) + 0 ≤ 600000; omega, by show (hv_tot H - hv_tot s.heap) + 0 ≤ 7302250; omega⟩) hT.sw (fun r17 v18 H locs hp19 hT hn1 ht1 => ?_)
        obtain ⟨t3, nm3, st3, dg3, F3, kd3, hJ1⟩ := hp19
        have hC := lw_Csz (N := H.size) (S := hv_tot H) hC (by rw [hn1, hJ1.1.1.2.1, ← hJ.1.1.2.1, ← ho1]; exact hz1) (by rw [ht1, hJ1.1.1.2.2, ← hJ.1.1.2.2, ← ho2]; exact hz2)
        have hR : lw_R (ra 0) B v18 := ⟨ra, n2, b2, t3, nm3, st3, dg3, F3, kd3, rfl, hJ1⟩
        have hT := hT.sw
        refine lv_pop hx hb dL_law_168 rfl ?_
        refine lv_goto (tgt := 547) hx hb dL_law_169 (by decide) ?_
        refine lv_iinc (v := (nI (j + 4))) (lv' := [(3, _), (0, _), (1, _), (2, _)]) hx hb dL_law_547 hl (k := 3) rfl (nI_add j 4) (by decide) rfl (fun ls hl => ?_)
        refine lv_goto (tgt := 18) hx hb dL_law_550 (by decide) ?_
        exact ih (j + 4) _ _ _ H locs ls (by omega) (by omega) (by omega) hC hR hT (lv_sub hl [1, 2, 3, 0] rfl)
      by_cases t32_2 : (g1 &&& 31) = 2
      · skip
        refine lv_tableIn (off := 140) (tgt := 172) hx hb dL_law_32 (by rw [t32_2]; decide) (by rw [t32_2]; decide) (by rw [t32_2]; rfl) (by decide) ?_
        refine lv_aload_n hx hb dL_law_172 rfl (lv_at hl 1 rfl) ?_
        refine lv_aload_n hx hb dL_law_173 rfl (lv_at hl 0 rfl) ?_
        refine lv_iload_n hx hb dL_law_174 rfl (lv_at hl 3 rfl) ?_
        refine lv_iconst (v := 1) hx hb dL_law_175 (by decide) ?_
        refine lv_iadd hx hb dL_law_176 ?_
        refine hv_as (x := ((nI j) + 1)) (y := (nI (j + 1))) (nI_add j 1) ?_
        refine va_sld (i := (nI (j + 1))) hx hb hX hbl hbA hT.2.2.2.2.1 (vp_in_nI (by omega) (by omega)) dL_law_177 ?_
        refine lv_topi (fun g20 eg20 => ?_)
        refine lv_aload_n hx hb dL_law_178 rfl (lv_at hl 0 rfl) ?_
        refine lv_iload_n hx hb dL_law_179 rfl (lv_at hl 3 rfl) ?_
        refine lv_iconst (v := 2) hx hb dL_law_180 (by decide) ?_
        refine lv_iadd hx hb dL_law_181 ?_
        refine hv_as (x := ((nI j) + 2)) (y := (nI (j + 2))) (nI_add j 2) ?_
        refine va_sld (i := (nI (j + 2))) hx hb hX hbl hbA hT.2.2.2.2.1 (vp_in_nI (by omega) (by omega)) dL_law_182 ?_
        refine lv_topi (fun g21 eg21 => ?_)
        refine lv_aload_n hx hb dL_law_183 rfl (lv_at hl 0 rfl) ?_
        refine lv_iload_n hx hb dL_law_184 rfl (lv_at hl 3 rfl) ?_
        refine lv_iconst (v := 3) hx hb dL_law_185 (by decide) ?_
        refine lv_iadd hx hb dL_law_186 ?_
        refine hv_as (x := ((nI j) + 3)) (y := (nI (j + 3))) (nI_add j 3) ?_
        refine va_sld (i := (nI (j + 3))) hx hb hX hbl hbA hT.2.2.2.2.1 (vp_in_nI (by omega) (by omega)) dL_law_187 ?_
        refine lv_topi (fun g22 eg22 => ?_)
        have hsz : hv_n _ ≤ s.heap.size + 35 + 4113 ∧ hv_t _ ≤ hv_tot s.heap + 420409 + 32920 := lw_Csize hC
        have hz1 := hT.1.2.2.1
        have hz2 := hT.1.2.2.2
        obtain ⟨fa, n, w, u, b1, d, k, ys, qc, qa, am, G, C, hfa, ham, hI, hc⟩ := hC
        subst hfa
        refine lw_calli (va_runV (As := [.int g20, .int g21, .int g22]) (rest := []) ⟨hx, hb, hml, hown, hts⟩ (c_link l D tc hI hc (by omega) g20 g21 g22) (cwV 3 hts (tw_V tw_96 tw_97 tw_98 tw_1 tw_99) rfl rfl rfl (by decide +kernel) ⟨Nat.le_of_ble_eq_true rfl, Nat.le_of_ble_eq_true rfl⟩) (hv_preV (ci := 3) hK hT.1 (cs_kX hI.1.1) (by decide) rfl rfl) rfl rfl hl.1 rfl (lv_room (Nat.le_of_ble_eq_true rfl)) dL_law_188 ⟨by show (H.size - s.heap.size) + 0 ≤ 600000; omega, by show (hv_tot H - hv_tot s.heap) + 0 ≤ 7302250; omega⟩) hT (fun r23 v24 H locs hp25 hT hn1 ht1 => ?_)
        have hC : lw_C (s.heap.size + 35, hv_tot s.heap + 420409) (fa 0) (j + 4) v24 := by obtain ⟨u1, b3, d1, k1, ys1, qc1, qa1, G1, C1, hp25, hc1⟩ := hp25; exact ⟨fa, n, w, u1, b3, d1, k1, ys1, qc1, qa1, _, G1, C1, rfl, (by omega), hp25, hc1⟩
        have hR := lw_Rsz H.size (hv_tot H) hR
        refine lv_pop hx hb dL_law_191 rfl ?_
        refine lv_aload_n hx hb dL_law_192 rfl (lv_at hl 2 rfl) ?_
        refine lv_aload_n hx hb dL_law_193 rfl (lv_at hl 0 rfl) ?_
        refine lv_iload_n hx hb dL_law_194 rfl (lv_at hl 3 rfl) ?_
        refine lv_iconst (v := 1) hx hb dL_law_195 (by decide) ?_
        refine lv_iadd hx hb dL_law_196 ?_
        refine hv_as (x := ((nI j) + 1)) (y := (nI (j + 1))) (nI_add j 1) ?_
        refine va_sld (i := (nI (j + 1))) hx hb hX hbl hbA hT.2.2.2.2.1 (vp_in_nI (by omega) (by omega)) dL_law_197 ?_
        refine lv_topi (fun g26 eg26 => ?_)
        refine lv_aload_n hx hb dL_law_198 rfl (lv_at hl 0 rfl) ?_
        refine lv_iload_n hx hb dL_law_199 rfl (lv_at hl 3 rfl) ?_
        refine lv_iconst (v := 2) hx hb dL_law_200 (by decide) ?_
        refine lv_iadd hx hb dL_law_201 ?_
        refine hv_as (x := ((nI j) + 2)) (y := (nI (j + 2))) (nI_add j 2) ?_
        refine va_sld (i := (nI (j + 2))) hx hb hX hbl hbA hT.2.2.2.2.1 (vp_in_nI (by omega) (by omega)) dL_law_202 ?_
        refine lv_topi (fun g27 eg27 => ?_)
        refine lv_aload_n hx hb dL_law_203 rfl (lv_at hl 0 rfl) ?_
        refine lv_iload_n hx hb dL_law_204 rfl (lv_at hl 3 rfl) ?_
        refine lv_iconst (v := 3) hx hb dL_law_205 (by decide) ?_
        refine lv_iadd hx hb dL_law_206 ?_
        refine hv_as (x := ((nI j) + 3)) (y := (nI (j + 3))) (nI_add j 3) ?_
        refine va_sld (i := (nI (j + 3))) hx hb hX hbl hbA hT.2.2.2.2.1 (vp_in_nI (by omega) (by omega)) dL_law_207 ?_
        refine lv_topi (fun g28 eg28 => ?_)
        have hsz : hv_n _ ≤ s.heap.size + 35 + 4113 ∧ hv_t _ ≤ hv_tot s.heap + 420409 + 32920 := lw_Csize hC
        have hz1 := hT.1.2.2.1
        have hz2 := hT.1.2.2.2
        obtain ⟨ra, n2, b2, t2, nm, stt, dg, F, kd, hra, hJ⟩ := hR
        subst hra
        have ho1 := hT.2.1.2.2.1
        have ho2 := hT.2.1.2.2.2
        refine lw_calli (va_runV (As := [.int g26, .int g27, .int g28]) (rest := []) ⟨hx, hb, hml, hown, hts⟩ (m_link l D tc hJ g26 g27 g28) (cwV 3 hts (tw_V tw_358 tw_359 tw_360 tw_3 tw_361) rfl rfl rfl (by decide +kernel) ⟨Nat.le_of_ble_eq_true rfl, Nat.le_of_ble_eq_true rfl⟩) (hv_preV (ci := 4) hK hT.sw.1 (rs_k0 hJ.1) (by decide) rfl rfl) rfl rfl hl.1 rfl (lv_room (Nat.le_of_ble_eq_true rfl)) dL_law_208 ⟨by show (H.size - s.heap.size) + 0 ≤ 600000; omega, by show (hv_tot H - hv_tot s.heap) + 0 ≤ 7302250; omega⟩) hT.sw (fun r29 v30 H locs hp31 hT hn1 ht1 => ?_)
        obtain ⟨t3, nm3, st3, dg3, F3, kd3, hJ1⟩ := hp31
        have hC := lw_Csz (N := H.size) (S := hv_tot H) hC (by rw [hn1, hJ1.1.1.2.1, ← hJ.1.1.2.1, ← ho1]; exact hz1) (by rw [ht1, hJ1.1.1.2.2, ← hJ.1.1.2.2, ← ho2]; exact hz2)
        have hR : lw_R (ra 0) B v30 := ⟨ra, n2, b2, t3, nm3, st3, dg3, F3, kd3, rfl, hJ1⟩
        have hT := hT.sw
        refine lv_pop hx hb dL_law_211 rfl ?_
        refine lv_goto (tgt := 547) hx hb dL_law_212 (by decide) ?_
        refine lv_iinc (v := (nI (j + 4))) (lv' := [(3, _), (0, _), (1, _), (2, _)]) hx hb dL_law_547 hl (k := 3) rfl (nI_add j 4) (by decide) rfl (fun ls hl => ?_)
        refine lv_goto (tgt := 18) hx hb dL_law_550 (by decide) ?_
        exact ih (j + 4) _ _ _ H locs ls (by omega) (by omega) (by omega) hC hR hT (lv_sub hl [1, 2, 3, 0] rfl)
      by_cases t32_3 : (g1 &&& 31) = 3
      · skip
        refine lv_tableIn (off := 183) (tgt := 215) hx hb dL_law_32 (by rw [t32_3]; decide) (by rw [t32_3]; decide) (by rw [t32_3]; rfl) (by decide) ?_
        refine lv_aload_n hx hb dL_law_215 rfl (lv_at hl 1 rfl) ?_
        refine lv_aload_n hx hb dL_law_216 rfl (lv_at hl 0 rfl) ?_
        refine lv_iload_n hx hb dL_law_217 rfl (lv_at hl 3 rfl) ?_
        refine lv_iconst (v := 1) hx hb dL_law_218 (by decide) ?_
        refine lv_iadd hx hb dL_law_219 ?_
        refine hv_as (x := ((nI j) + 1)) (y := (nI (j + 1))) (nI_add j 1) ?_
        refine va_sld (i := (nI (j + 1))) hx hb hX hbl hbA hT.2.2.2.2.1 (vp_in_nI (by omega) (by omega)) dL_law_220 ?_
        refine lv_topi (fun g32 eg32 => ?_)
        refine lv_aload_n hx hb dL_law_221 rfl (lv_at hl 0 rfl) ?_
        refine lv_iload_n hx hb dL_law_222 rfl (lv_at hl 3 rfl) ?_
        refine lv_iconst (v := 2) hx hb dL_law_223 (by decide) ?_
        refine lv_iadd hx hb dL_law_224 ?_
        refine hv_as (x := ((nI j) + 2)) (y := (nI (j + 2))) (nI_add j 2) ?_
        refine va_sld (i := (nI (j + 2))) hx hb hX hbl hbA hT.2.2.2.2.1 (vp_in_nI (by omega) (by omega)) dL_law_225 ?_
        refine lv_topi (fun g33 eg33 => ?_)
        have hsz : hv_n _ ≤ s.heap.size + 35 + 4113 ∧ hv_t _ ≤ hv_tot s.heap + 420409 + 32920 := lw_Csize hC
        have hz1 := hT.1.2.2.1
        have hz2 := hT.1.2.2.2
        obtain ⟨fa, n, w, u, b1, d, k, ys, qc, qa, am, G, C, hfa, ham, hI, hc⟩ := hC
        subst hfa
        refine lw_calli (va_runV (As := [.int g32, .int g33]) (rest := []) ⟨hx, hb, hml, hown, hts⟩ (c_part l D tc hI hc (by omega) g32 g33) (cwV 2 hts (tw_V tw_106 tw_107 tw_108 tw_1 tw_109) rfl rfl rfl (by decide +kernel) ⟨Nat.le_of_ble_eq_true rfl, Nat.le_of_ble_eq_true rfl⟩) (hv_preV (ci := 3) hK hT.1 (cs_kX hI.1.1) (by decide) rfl rfl) rfl rfl hl.1 rfl (lv_room (Nat.le_of_ble_eq_true rfl)) dL_law_226 ⟨by show (H.size - s.heap.size) + 0 ≤ 600000; omega, by show (hv_tot H - hv_tot s.heap) + 0 ≤ 7302250; omega⟩) hT (fun r34 v35 H locs hp36 hT hn1 ht1 => ?_)
        have hC : lw_C (s.heap.size + 35, hv_tot s.heap + 420409) (fa 0) (j + 4) v35 := by obtain ⟨u1, b3, d1, k1, ys1, qc1, qa1, G1, C1, hp36, hc1⟩ := hp36; exact ⟨fa, n, w, u1, b3, d1, k1, ys1, qc1, qa1, _, G1, C1, rfl, (by omega), hp36, hc1⟩
        have hR := lw_Rsz H.size (hv_tot H) hR
        refine lv_pop hx hb dL_law_229 rfl ?_
        refine lv_aload_n hx hb dL_law_230 rfl (lv_at hl 2 rfl) ?_
        refine lv_aload_n hx hb dL_law_231 rfl (lv_at hl 0 rfl) ?_
        refine lv_iload_n hx hb dL_law_232 rfl (lv_at hl 3 rfl) ?_
        refine lv_iconst (v := 1) hx hb dL_law_233 (by decide) ?_
        refine lv_iadd hx hb dL_law_234 ?_
        refine hv_as (x := ((nI j) + 1)) (y := (nI (j + 1))) (nI_add j 1) ?_
        refine va_sld (i := (nI (j + 1))) hx hb hX hbl hbA hT.2.2.2.2.1 (vp_in_nI (by omega) (by omega)) dL_law_235 ?_
        refine lv_topi (fun g37 eg37 => ?_)
        refine lv_aload_n hx hb dL_law_236 rfl (lv_at hl 0 rfl) ?_
        refine lv_iload_n hx hb dL_law_237 rfl (lv_at hl 3 rfl) ?_
        refine lv_iconst (v := 2) hx hb dL_law_238 (by decide) ?_
        refine lv_iadd hx hb dL_law_239 ?_
        refine hv_as (x := ((nI j) + 2)) (y := (nI (j + 2))) (nI_add j 2) ?_
        refine va_sld (i := (nI (j + 2))) hx hb hX hbl hbA hT.2.2.2.2.1 (vp_in_nI (by omega) (by omega)) dL_law_240 ?_
        refine lv_topi (fun g38 eg38 => ?_)
        have hsz : hv_n _ ≤ s.heap.size + 35 + 4113 ∧ hv_t _ ≤ hv_tot s.heap + 420409 + 32920 := lw_Csize hC
        have hz1 := hT.1.2.2.1
        have hz2 := hT.1.2.2.2
        obtain ⟨ra, n2, b2, t2, nm, stt, dg, F, kd, hra, hJ⟩ := hR
        subst hra
        have ho1 := hT.2.1.2.2.1
        have ho2 := hT.2.1.2.2.2
        refine lw_calli (va_runV (As := [.int g37, .int g38]) (rest := []) ⟨hx, hb, hml, hown, hts⟩ (m_part l D tc hJ g37 g38) (cwV 2 hts (tw_V tw_365 tw_366 tw_367 tw_3 tw_368) rfl rfl rfl (by decide +kernel) ⟨Nat.le_of_ble_eq_true rfl, Nat.le_of_ble_eq_true rfl⟩) (hv_preV (ci := 4) hK hT.sw.1 (rs_k0 hJ.1) (by decide) rfl rfl) rfl rfl hl.1 rfl (lv_room (Nat.le_of_ble_eq_true rfl)) dL_law_241 ⟨by show (H.size - s.heap.size) + 0 ≤ 600000; omega, by show (hv_tot H - hv_tot s.heap) + 0 ≤ 7302250; omega⟩) hT.sw (fun r39 v40 H locs hp41 hT hn1 ht1 => ?_)
        obtain ⟨t3, nm3, st3, dg3, F3, kd3, hJ1⟩ := hp41
        have hC := lw_Csz (N := H.size) (S := hv_tot H) hC (by rw [hn1, hJ1.1.1.2.1, ← hJ.1.1.2.1, ← ho1]; exact hz1) (by rw [ht1, hJ1.1.1.2.2, ← hJ.1.1.2.2, ← ho2]; exact hz2)
        have hR : lw_R (ra 0) B v40 := ⟨ra, n2, b2, t3, nm3, st3, dg3, F3, kd3, rfl, hJ1⟩
        have hT := hT.sw
        refine lv_pop hx hb dL_law_244 rfl ?_
        refine lv_goto (tgt := 547) hx hb dL_law_245 (by decide) ?_
        refine lv_iinc (v := (nI (j + 4))) (lv' := [(3, _), (0, _), (1, _), (2, _)]) hx hb dL_law_547 hl (k := 3) rfl (nI_add j 4) (by decide) rfl (fun ls hl => ?_)
        refine lv_goto (tgt := 18) hx hb dL_law_550 (by decide) ?_
        exact ih (j + 4) _ _ _ H locs ls (by omega) (by omega) (by omega) hC hR hT (lv_sub hl [1, 2, 3, 0] rfl)
      by_cases t32_4 : (g1 &&& 31) = 4
      · skip
        refine lv_tableIn (off := 216) (tgt := 248) hx hb dL_law_32 (by rw [t32_4]; decide) (by rw [t32_4]; decide) (by rw [t32_4]; rfl) (by decide) ?_
        refine lv_aload_n hx hb dL_law_248 rfl (lv_at hl 1 rfl) ?_
        refine lv_aload_n hx hb dL_law_249 rfl (lv_at hl 0 rfl) ?_
        refine lv_iload_n hx hb dL_law_250 rfl (lv_at hl 3 rfl) ?_
        refine lv_iconst (v := 1) hx hb dL_law_251 (by decide) ?_
        refine lv_iadd hx hb dL_law_252 ?_
        refine hv_as (x := ((nI j) + 1)) (y := (nI (j + 1))) (nI_add j 1) ?_
        refine va_sld (i := (nI (j + 1))) hx hb hX hbl hbA hT.2.2.2.2.1 (vp_in_nI (by omega) (by omega)) dL_law_253 ?_
        refine lv_topi (fun g42 eg42 => ?_)
        have hsz : hv_n _ ≤ s.heap.size + 35 + 4113 ∧ hv_t _ ≤ hv_tot s.heap + 420409 + 32920 := lw_Csize hC
        have hz1 := hT.1.2.2.1
        have hz2 := hT.1.2.2.2
        obtain ⟨fa, n, w, u, b1, d, k, ys, qc, qa, am, G, C, hfa, ham, hI, hc⟩ := hC
        subst hfa
        refine lw_calli (va_runV (As := [.int g42]) (rest := []) ⟨hx, hb, hml, hown, hts⟩ (c_patience l D tc hI hc (by omega) g42) (cwV 1 hts (tw_V tw_113 tw_114 tw_115 tw_1 tw_116) rfl rfl rfl (by decide +kernel) ⟨Nat.le_of_ble_eq_true rfl, Nat.le_of_ble_eq_true rfl⟩) (hv_preV (ci := 3) hK hT.1 (cs_kX hI.1.1) (by decide) rfl rfl) rfl rfl hl.1 rfl (lv_room (Nat.le_of_ble_eq_true rfl)) dL_law_254 ⟨by show (H.size - s.heap.size) + 0 ≤ 600000; omega, by show (hv_tot H - hv_tot s.heap) + 0 ≤ 7302250; omega⟩) hT (fun r43 v44 H locs hp45 hT hn1 ht1 => ?_)
        have hC : lw_C (s.heap.size + 35, hv_tot s.heap + 420409) (fa 0) (j + 4) v44 := by obtain ⟨u1, b3, d1, k1, ys1, qc1, qa1, G1, C1, hp45, hc1⟩ := hp45; exact ⟨fa, n, w, u1, b3, d1, k1, ys1, qc1, qa1, _, G1, C1, rfl, (by omega), hp45, hc1⟩
        have hR := lw_Rsz H.size (hv_tot H) hR
        refine lv_pop hx hb dL_law_257 rfl ?_
        refine lv_aload_n hx hb dL_law_258 rfl (lv_at hl 2 rfl) ?_
        refine lv_aload_n hx hb dL_law_259 rfl (lv_at hl 0 rfl) ?_
        refine lv_iload_n hx hb dL_law_260 rfl (lv_at hl 3 rfl) ?_
        refine lv_iconst (v := 1) hx hb dL_law_261 (by decide) ?_
        refine lv_iadd hx hb dL_law_262 ?_
        refine hv_as (x := ((nI j) + 1)) (y := (nI (j + 1))) (nI_add j 1) ?_
        refine va_sld (i := (nI (j + 1))) hx hb hX hbl hbA hT.2.2.2.2.1 (vp_in_nI (by omega) (by omega)) dL_law_263 ?_
        refine lv_topi (fun g46 eg46 => ?_)
        have hsz : hv_n _ ≤ s.heap.size + 35 + 4113 ∧ hv_t _ ≤ hv_tot s.heap + 420409 + 32920 := lw_Csize hC
        have hz1 := hT.1.2.2.1
        have hz2 := hT.1.2.2.2
        obtain ⟨ra, n2, b2, t2, nm, stt, dg, F, kd, hra, hJ⟩ := hR
        subst hra
        have ho1 := hT.2.1.2.2.1
        have ho2 := hT.2.1.2.2.2
        refine lw_calli (va_runV (As := [.int g46]) (rest := []) ⟨hx, hb, hml, hown, hts⟩ (m_patience l D tc hJ g46) (cwV 1 hts (tw_V tw_369 tw_370 tw_371 tw_3 tw_372) rfl rfl rfl (by decide +kernel) ⟨Nat.le_of_ble_eq_true rfl, Nat.le_of_ble_eq_true rfl⟩) (hv_preV (ci := 4) hK hT.sw.1 (rs_k0 hJ.1) (by decide) rfl rfl) rfl rfl hl.1 rfl (lv_room (Nat.le_of_ble_eq_true rfl)) dL_law_264 ⟨by show (H.size - s.heap.size) + 0 ≤ 600000; omega, by show (hv_tot H - hv_tot s.heap) + 0 ≤ 7302250; omega⟩) hT.sw (fun r47 v48 H locs hp49 hT hn1 ht1 => ?_)
        obtain ⟨t3, nm3, st3, dg3, F3, kd3, hJ1⟩ := hp49
        have hC := lw_Csz (N := H.size) (S := hv_tot H) hC (by rw [hn1, hJ1.1.1.2.1, ← hJ.1.1.2.1, ← ho1]; exact hz1) (by rw [ht1, hJ1.1.1.2.2, ← hJ.1.1.2.2, ← ho2]; exact hz2)
        have hR : lw_R (ra 0) B v48 := ⟨ra, n2, b2, t3, nm3, st3, dg3, F3, kd3, rfl, hJ1⟩
        have hT := hT.sw
        refine lv_pop hx hb dL_law_267 rfl ?_
        refine lv_goto (tgt := 547) hx hb dL_law_268 (by decide) ?_
        refine lv_iinc (v := (nI (j + 4))) (lv' := [(3, _), (0, _), (1, _), (2, _)]) hx hb dL_law_547 hl (k := 3) rfl (nI_add j 4) (by decide) rfl (fun ls hl => ?_)
        refine lv_goto (tgt := 18) hx hb dL_law_550 (by decide) ?_
        exact ih (j + 4) _ _ _ H locs ls (by omega) (by omega) (by omega) hC hR hT (lv_sub hl [1, 2, 3, 0] rfl)
      by_cases t32_5 : (g1 &&& 31) = 5
      · skip
        refine lv_tableIn (off := 239) (tgt := 271) hx hb dL_law_32 (by rw [t32_5]; decide) (by rw [t32_5]; decide) (by rw [t32_5]; rfl) (by decide) ?_
        refine lv_aload_n hx hb dL_law_271 rfl (lv_at hl 1 rfl) ?_
        refine lv_aload_n hx hb dL_law_272 rfl (lv_at hl 0 rfl) ?_
        refine lv_iload_n hx hb dL_law_273 rfl (lv_at hl 3 rfl) ?_
        refine lv_iconst (v := 1) hx hb dL_law_274 (by decide) ?_
        refine lv_iadd hx hb dL_law_275 ?_
        refine hv_as (x := ((nI j) + 1)) (y := (nI (j + 1))) (nI_add j 1) ?_
        refine va_sld (i := (nI (j + 1))) hx hb hX hbl hbA hT.2.2.2.2.1 (vp_in_nI (by omega) (by omega)) dL_law_276 ?_
        refine lv_topi (fun g50 eg50 => ?_)
        refine lv_aload_n hx hb dL_law_277 rfl (lv_at hl 0 rfl) ?_
        refine lv_iload_n hx hb dL_law_278 rfl (lv_at hl 3 rfl) ?_
        refine lv_iconst (v := 2) hx hb dL_law_279 (by decide) ?_
        refine lv_iadd hx hb dL_law_280 ?_
        refine hv_as (x := ((nI j) + 2)) (y := (nI (j + 2))) (nI_add j 2) ?_
        refine va_sld (i := (nI (j + 2))) hx hb hX hbl hbA hT.2.2.2.2.1 (vp_in_nI (by omega) (by omega)) dL_law_281 ?_
        refine lv_topi (fun g51 eg51 => ?_)
        have hsz : hv_n _ ≤ s.heap.size + 35 + 4113 ∧ hv_t _ ≤ hv_tot s.heap + 420409 + 32920 := lw_Csize hC
        have hz1 := hT.1.2.2.1
        have hz2 := hT.1.2.2.2
        obtain ⟨fa, n, w, u, b1, d, k, ys, qc, qa, am, G, C, hfa, ham, hI, hc⟩ := hC
        subst hfa
        refine lw_calli (va_runV (As := [.int g50, .int g51]) (rest := []) ⟨hx, hb, hml, hown, hts⟩ (c_begin l D tc hI hc (by omega) g50 g51) (cwV 2 hts (tw_V tw_117 tw_118 tw_119 tw_1 tw_120) rfl rfl rfl (by decide +kernel) ⟨Nat.le_of_ble_eq_true rfl, Nat.le_of_ble_eq_true rfl⟩) (hv_preV (ci := 3) hK hT.1 (cs_kX hI.1.1) (by decide) rfl rfl) rfl rfl hl.1 rfl (lv_room (Nat.le_of_ble_eq_true rfl)) dL_law_282 ⟨by show (H.size - s.heap.size) + 24 ≤ 600000; omega, by show (hv_tot H - hv_tot s.heap) + 192 ≤ 7302250; omega⟩) hT (fun r52 v53 H locs hp54 hT hn1 ht1 => ?_)
        have hC : lw_C (s.heap.size + 35, hv_tot s.heap + 420409) (fa 0) (j + 4) v53 := by obtain ⟨u1, b3, d1, k1, ys1, qc1, qa1, G1, C1, hp54, hc1⟩ := hp54; exact ⟨fa, n, w, u1, b3, d1, k1, ys1, qc1, qa1, _, G1, C1, rfl, (by omega), hp54, hc1⟩
        have hR := lw_Rsz H.size (hv_tot H) hR
        refine lv_pop hx hb dL_law_285 rfl ?_
        refine lv_aload_n hx hb dL_law_286 rfl (lv_at hl 2 rfl) ?_
        refine lv_aload_n hx hb dL_law_287 rfl (lv_at hl 0 rfl) ?_
        refine lv_iload_n hx hb dL_law_288 rfl (lv_at hl 3 rfl) ?_
        refine lv_iconst (v := 1) hx hb dL_law_289 (by decide) ?_
        refine lv_iadd hx hb dL_law_290 ?_
        refine hv_as (x := ((nI j) + 1)) (y := (nI (j + 1))) (nI_add j 1) ?_
        refine va_sld (i := (nI (j + 1))) hx hb hX hbl hbA hT.2.2.2.2.1 (vp_in_nI (by omega) (by omega)) dL_law_291 ?_
        refine lv_topi (fun g55 eg55 => ?_)
        refine lv_aload_n hx hb dL_law_292 rfl (lv_at hl 0 rfl) ?_
        refine lv_iload_n hx hb dL_law_293 rfl (lv_at hl 3 rfl) ?_
        refine lv_iconst (v := 2) hx hb dL_law_294 (by decide) ?_
        refine lv_iadd hx hb dL_law_295 ?_
        refine hv_as (x := ((nI j) + 2)) (y := (nI (j + 2))) (nI_add j 2) ?_
        refine va_sld (i := (nI (j + 2))) hx hb hX hbl hbA hT.2.2.2.2.1 (vp_in_nI (by omega) (by omega)) dL_law_296 ?_
        refine lv_topi (fun g56 eg56 => ?_)
        have hsz : hv_n _ ≤ s.heap.size + 35 + 4113 ∧ hv_t _ ≤ hv_tot s.heap + 420409 + 32920 := lw_Csize hC
        have hz1 := hT.1.2.2.1
        have hz2 := hT.1.2.2.2
        obtain ⟨ra, n2, b2, t2, nm, stt, dg, F, kd, hra, hJ⟩ := hR
        subst hra
        have ho1 := hT.2.1.2.2.1
        have ho2 := hT.2.1.2.2.2
        refine lw_calli (va_runV (As := [.int g55, .int g56]) (rest := []) ⟨hx, hb, hml, hown, hts⟩ (m_begin l D tc hJ (by omega) g55 g56) (cwV 2 hts (tw_V tw_373 tw_374 tw_375 tw_3 tw_376) rfl rfl rfl (by decide +kernel) ⟨Nat.le_of_ble_eq_true rfl, Nat.le_of_ble_eq_true rfl⟩) (hv_preV (ci := 4) hK hT.sw.1 (rs_k0 hJ.1) (by decide) rfl rfl) rfl rfl hl.1 rfl (lv_room (Nat.le_of_ble_eq_true rfl)) dL_law_297 ⟨by show (H.size - s.heap.size) + 0 ≤ 600000; omega, by show (hv_tot H - hv_tot s.heap) + 0 ≤ 7302250; omega⟩) hT.sw (fun r57 v58 H locs hp59 hT hn1 ht1 => ?_)
        obtain ⟨b3, t3, nm3, st3, dg3, F3, kd3, hJ1⟩ := hp59
        have hC := lw_Csz (N := H.size) (S := hv_tot H) hC (by rw [hn1, hJ1.1.1.2.1, ← hJ.1.1.2.1, ← ho1]; exact hz1) (by rw [ht1, hJ1.1.1.2.2, ← hJ.1.1.2.2, ← ho2]; exact hz2)
        have hR : lw_R (ra 0) (B + 126) v58 := ⟨ra, n2, b3, t3, nm3, st3, dg3, F3, kd3, rfl, hJ1⟩
        have hT := hT.sw
        refine lv_pop hx hb dL_law_300 rfl ?_
        refine lv_goto (tgt := 547) hx hb dL_law_301 (by decide) ?_
        refine lv_iinc (v := (nI (j + 4))) (lv' := [(3, _), (0, _), (1, _), (2, _)]) hx hb dL_law_547 hl (k := 3) rfl (nI_add j 4) (by decide) rfl (fun ls hl => ?_)
        refine lv_goto (tgt := 18) hx hb dL_law_550 (by decide) ?_
        exact ih (j + 4) _ _ _ H locs ls (by omega) (by omega) (by omega) hC hR hT (lv_sub hl [1, 2, 3, 0] rfl)
      by_cases t32_6 : (g1 &&& 31) = 6
      · skip
        refine lv_tableIn (off := 272) (tgt := 304) hx hb dL_law_32 (by rw [t32_6]; decide) (by rw [t32_6]; decide) (by rw [t32_6]; rfl) (by decide) ?_
        refine lv_aload_n hx hb dL_law_304 rfl (lv_at hl 1 rfl) ?_
        refine lv_aload_n hx hb dL_law_305 rfl (lv_at hl 0 rfl) ?_
        refine lv_iload_n hx hb dL_law_306 rfl (lv_at hl 3 rfl) ?_
        refine lv_iconst (v := 1) hx hb dL_law_307 (by decide) ?_
        refine lv_iadd hx hb dL_law_308 ?_
        refine hv_as (x := ((nI j) + 1)) (y := (nI (j + 1))) (nI_add j 1) ?_
        refine va_sld (i := (nI (j + 1))) hx hb hX hbl hbA hT.2.2.2.2.1 (vp_in_nI (by omega) (by omega)) dL_law_309 ?_
        refine lv_topi (fun g60 eg60 => ?_)
        have hsz : hv_n _ ≤ s.heap.size + 35 + 4113 ∧ hv_t _ ≤ hv_tot s.heap + 420409 + 32920 := lw_Csize hC
        have hz1 := hT.1.2.2.1
        have hz2 := hT.1.2.2.2
        obtain ⟨fa, n, w, u, b1, d, k, ys, qc, qa, am, G, C, hfa, ham, hI, hc⟩ := hC
        subst hfa
        refine lw_calli (va_runV (As := [.int g60]) (rest := []) ⟨hx, hb, hml, hown, hts⟩ (c_crash l D tc hI hc (by omega) g60) (cwV 1 hts (tw_V tw_186 tw_187 tw_188 tw_1 tw_189) rfl rfl rfl (by decide +kernel) ⟨Nat.le_of_ble_eq_true rfl, Nat.le_of_ble_eq_true rfl⟩) (hv_preV (ci := 3) hK hT.1 (cs_kX hI.1.1) (by decide) rfl rfl) rfl rfl hl.1 rfl (lv_room (Nat.le_of_ble_eq_true rfl)) dL_law_310 ⟨by show (H.size - s.heap.size) + 0 ≤ 600000; omega, by show (hv_tot H - hv_tot s.heap) + 0 ≤ 7302250; omega⟩) hT (fun r61 v62 H locs hp63 hT hn1 ht1 => ?_)
        have hC : lw_C (s.heap.size + 35, hv_tot s.heap + 420409) (fa 0) (j + 4) v62 := by obtain ⟨u1, b3, d1, k1, ys1, qc1, qa1, G1, C1, hp63, hc1⟩ := hp63; exact ⟨fa, n, w, u1, b3, d1, k1, ys1, qc1, qa1, _, G1, C1, rfl, (by omega), hp63, hc1⟩
        have hR := lw_Rsz H.size (hv_tot H) hR
        refine lv_pop hx hb dL_law_313 rfl ?_
        refine lv_aload_n hx hb dL_law_314 rfl (lv_at hl 2 rfl) ?_
        refine lv_aload_n hx hb dL_law_315 rfl (lv_at hl 0 rfl) ?_
        refine lv_iload_n hx hb dL_law_316 rfl (lv_at hl 3 rfl) ?_
        refine lv_iconst (v := 1) hx hb dL_law_317 (by decide) ?_
        refine lv_iadd hx hb dL_law_318 ?_
        refine hv_as (x := ((nI j) + 1)) (y := (nI (j + 1))) (nI_add j 1) ?_
        refine va_sld (i := (nI (j + 1))) hx hb hX hbl hbA hT.2.2.2.2.1 (vp_in_nI (by omega) (by omega)) dL_law_319 ?_
        refine lv_topi (fun g64 eg64 => ?_)
        have hsz : hv_n _ ≤ s.heap.size + 35 + 4113 ∧ hv_t _ ≤ hv_tot s.heap + 420409 + 32920 := lw_Csize hC
        have hz1 := hT.1.2.2.1
        have hz2 := hT.1.2.2.2
        obtain ⟨ra, n2, b2, t2, nm, stt, dg, F, kd, hra, hJ⟩ := hR
        subst hra
        have ho1 := hT.2.1.2.2.1
        have ho2 := hT.2.1.2.2.2
        refine lw_calli (va_runV (As := [.int g64]) (rest := []) ⟨hx, hb, hml, hown, hts⟩ (m_crash l D tc hJ g64) (cwV 1 hts (tw_V tw_407 tw_408 tw_409 tw_3 tw_410) rfl rfl rfl (by decide +kernel) ⟨Nat.le_of_ble_eq_true rfl, Nat.le_of_ble_eq_true rfl⟩) (hv_preV (ci := 4) hK hT.sw.1 (rs_k0 hJ.1) (by decide) rfl rfl) rfl rfl hl.1 rfl (lv_room (Nat.le_of_ble_eq_true rfl)) dL_law_320 ⟨by show (H.size - s.heap.size) + 0 ≤ 600000; omega, by show (hv_tot H - hv_tot s.heap) + 0 ≤ 7302250; omega⟩) hT.sw (fun r65 v66 H locs hp67 hT hn1 ht1 => ?_)
        obtain ⟨t3, nm3, st3, dg3, F3, kd3, hJ1⟩ := hp67
        have hC := lw_Csz (N := H.size) (S := hv_tot H) hC (by rw [hn1, hJ1.1.1.2.1, ← hJ.1.1.2.1, ← ho1]; exact hz1) (by rw [ht1, hJ1.1.1.2.2, ← hJ.1.1.2.2, ← ho2]; exact hz2)
        have hR : lw_R (ra 0) B v66 := ⟨ra, n2, b2, t3, nm3, st3, dg3, F3, kd3, rfl, hJ1⟩
        have hT := hT.sw
        refine lv_pop hx hb dL_law_323 rfl ?_
        refine lv_goto (tgt := 547) hx hb dL_law_324 (by decide) ?_
        refine lv_iinc (v := (nI (j + 4))) (lv' := [(3, _), (0, _), (1, _), (2, _)]) hx hb dL_law_547 hl (k := 3) rfl (nI_add j 4) (by decide) rfl (fun ls hl => ?_)
        refine lv_goto (tgt := 18) hx hb dL_law_550 (by decide) ?_
        exact ih (j + 4) _ _ _ H locs ls (by omega) (by omega) (by omega) hC hR hT (lv_sub hl [1, 2, 3, 0] rfl)
      by_cases t32_7 : (g1 &&& 31) = 7
      · skip
        refine lv_tableIn (off := 295) (tgt := 327) hx hb dL_law_32 (by rw [t32_7]; decide) (by rw [t32_7]; decide) (by rw [t32_7]; rfl) (by decide) ?_
        refine lv_aload_n hx hb dL_law_327 rfl (lv_at hl 1 rfl) ?_
        refine lv_aload_n hx hb dL_law_328 rfl (lv_at hl 0 rfl) ?_
        refine lv_iload_n hx hb dL_law_329 rfl (lv_at hl 3 rfl) ?_
        refine lv_iconst (v := 1) hx hb dL_law_330 (by decide) ?_
        refine lv_iadd hx hb dL_law_331 ?_
        refine hv_as (x := ((nI j) + 1)) (y := (nI (j + 1))) (nI_add j 1) ?_
        refine va_sld (i := (nI (j + 1))) hx hb hX hbl hbA hT.2.2.2.2.1 (vp_in_nI (by omega) (by omega)) dL_law_332 ?_
        refine lv_topi (fun g68 eg68 => ?_)
        have hsz : hv_n _ ≤ s.heap.size + 35 + 4113 ∧ hv_t _ ≤ hv_tot s.heap + 420409 + 32920 := lw_Csize hC
        have hz1 := hT.1.2.2.1
        have hz2 := hT.1.2.2.2
        obtain ⟨fa, n, w, u, b1, d, k, ys, qc, qa, am, G, C, hfa, ham, hI, hc⟩ := hC
        subst hfa
        refine lw_calli (va_runV (As := [.int g68]) (rest := []) ⟨hx, hb, hml, hown, hts⟩ (c_recover l D tc hI hc (by omega) g68) (cwV 1 hts (tw_V tw_190 tw_191 tw_192 tw_1 tw_193) rfl rfl rfl (by decide +kernel) ⟨Nat.le_of_ble_eq_true rfl, Nat.le_of_ble_eq_true rfl⟩) (hv_preV (ci := 3) hK hT.1 (cs_kX hI.1.1) (by decide) rfl rfl) rfl rfl hl.1 rfl (lv_room (Nat.le_of_ble_eq_true rfl)) dL_law_333 ⟨by show (H.size - s.heap.size) + 8 ≤ 600000; omega, by show (hv_tot H - hv_tot s.heap) + 64 ≤ 7302250; omega⟩) hT (fun r69 v70 H locs hp71 hT hn1 ht1 => ?_)
        have hC : lw_C (s.heap.size + 35, hv_tot s.heap + 420409) (fa 0) (j + 4) v70 := by obtain ⟨u1, b3, d1, k1, ys1, qc1, qa1, G1, C1, hp71, hc1⟩ := hp71; exact ⟨fa, n, w, u1, b3, d1, k1, ys1, qc1, qa1, _, G1, C1, rfl, (by omega), hp71, hc1⟩
        have hR := lw_Rsz H.size (hv_tot H) hR
        refine lv_pop hx hb dL_law_336 rfl ?_
        refine lv_aload_n hx hb dL_law_337 rfl (lv_at hl 2 rfl) ?_
        refine lv_aload_n hx hb dL_law_338 rfl (lv_at hl 0 rfl) ?_
        refine lv_iload_n hx hb dL_law_339 rfl (lv_at hl 3 rfl) ?_
        refine lv_iconst (v := 1) hx hb dL_law_340 (by decide) ?_
        refine lv_iadd hx hb dL_law_341 ?_
        refine hv_as (x := ((nI j) + 1)) (y := (nI (j + 1))) (nI_add j 1) ?_
        refine va_sld (i := (nI (j + 1))) hx hb hX hbl hbA hT.2.2.2.2.1 (vp_in_nI (by omega) (by omega)) dL_law_342 ?_
        refine lv_topi (fun g72 eg72 => ?_)
        have hsz : hv_n _ ≤ s.heap.size + 35 + 4113 ∧ hv_t _ ≤ hv_tot s.heap + 420409 + 32920 := lw_Csize hC
        have hz1 := hT.1.2.2.1
        have hz2 := hT.1.2.2.2
        obtain ⟨ra, n2, b2, t2, nm, stt, dg, F, kd, hra, hJ⟩ := hR
        subst hra
        have ho1 := hT.2.1.2.2.1
        have ho2 := hT.2.1.2.2.2
        refine lw_calli (va_runV (As := [.int g72]) (rest := []) ⟨hx, hb, hml, hown, hts⟩ (m_recover l D tc hJ (by omega) g72) (cwV 1 hts (tw_V tw_411 tw_412 tw_413 tw_3 tw_414) rfl rfl rfl (by decide +kernel) ⟨Nat.le_of_ble_eq_true rfl, Nat.le_of_ble_eq_true rfl⟩) (hv_preV (ci := 4) hK hT.sw.1 (rs_k0 hJ.1) (by decide) rfl rfl) rfl rfl hl.1 rfl (lv_room (Nat.le_of_ble_eq_true rfl)) dL_law_343 ⟨by show (H.size - s.heap.size) + 0 ≤ 600000; omega, by show (hv_tot H - hv_tot s.heap) + 0 ≤ 7302250; omega⟩) hT.sw (fun r73 v74 H locs hp75 hT hn1 ht1 => ?_)
        obtain ⟨t3, nm3, st3, dg3, F3, kd3, hJ1⟩ := hp75
        have hC := lw_Csz (N := H.size) (S := hv_tot H) hC (by rw [hn1, hJ1.1.1.2.1, ← hJ.1.1.2.1, ← ho1]; exact hz1) (by rw [ht1, hJ1.1.1.2.2, ← hJ.1.1.2.2, ← ho2]; exact hz2)
        have hR : lw_R (ra 0) (B + 63) v74 := ⟨ra, n2, b2, t3, nm3, st3, dg3, F3, kd3, rfl, hJ1⟩
        have hT := hT.sw
        refine lv_pop hx hb dL_law_346 rfl ?_
        refine lv_goto (tgt := 547) hx hb dL_law_347 (by decide) ?_
        refine lv_iinc (v := (nI (j + 4))) (lv' := [(3, _), (0, _), (1, _), (2, _)]) hx hb dL_law_547 hl (k := 3) rfl (nI_add j 4) (by decide) rfl (fun ls hl => ?_)
        refine lv_goto (tgt := 18) hx hb dL_law_550 (by decide) ?_
        exact ih (j + 4) _ _ _ H locs ls (by omega) (by omega) (by omega) hC hR hT (lv_sub hl [1, 2, 3, 0] rfl)
      by_cases t32_8 : (g1 &&& 31) = 8
      · skip
        refine lv_tableIn (off := 318) (tgt := 350) hx hb dL_law_32 (by rw [t32_8]; decide) (by rw [t32_8]; decide) (by rw [t32_8]; rfl) (by decide) ?_
        refine lv_aload_n hx hb dL_law_350 rfl (lv_at hl 1 rfl) ?_
        refine lv_aload_n hx hb dL_law_351 rfl (lv_at hl 0 rfl) ?_
        refine lv_iload_n hx hb dL_law_352 rfl (lv_at hl 3 rfl) ?_
        refine lv_iconst (v := 1) hx hb dL_law_353 (by decide) ?_
        refine lv_iadd hx hb dL_law_354 ?_
        refine hv_as (x := ((nI j) + 1)) (y := (nI (j + 1))) (nI_add j 1) ?_
        refine va_sld (i := (nI (j + 1))) hx hb hX hbl hbA hT.2.2.2.2.1 (vp_in_nI (by omega) (by omega)) dL_law_355 ?_
        refine lv_topi (fun g76 eg76 => ?_)
        have hsz : hv_n _ ≤ s.heap.size + 35 + 4113 ∧ hv_t _ ≤ hv_tot s.heap + 420409 + 32920 := lw_Csize hC
        have hz1 := hT.1.2.2.1
        have hz2 := hT.1.2.2.2
        obtain ⟨fa, n, w, u, b1, d, k, ys, qc, qa, am, G, C, hfa, ham, hI, hc⟩ := hC
        subst hfa
        refine lw_calli (va_runV (As := [.int g76]) (rest := []) ⟨hx, hb, hml, hown, hts⟩ (c_run l D tc hI hc (by omega) g76) (cwV 1 hts (tw_V tw_197 tw_198 tw_199 tw_1 tw_200) rfl rfl rfl (by decide +kernel) ⟨Nat.le_of_ble_eq_true rfl, Nat.le_of_ble_eq_true rfl⟩) (hv_preV (ci := 3) hK hT.1 (cs_kX hI.1.1) (by decide) rfl rfl) rfl rfl hl.1 rfl (lv_room (Nat.le_of_ble_eq_true rfl)) dL_law_356 ⟨by show (H.size - s.heap.size) + 4113 ≤ 600000; omega, by show (hv_tot H - hv_tot s.heap) + 32904 ≤ 7302250; omega⟩) hT (fun r77 v78 H locs hp79 hT hn1 ht1 => ?_)
        have hC : lw_C (s.heap.size + 35, hv_tot s.heap + 420409) (fa 0) (j + 4) v78 := by obtain ⟨k1, G1, C1, hp79, hc1⟩ := hp79; exact ⟨fa, n, w, u, b1, d, k1, ys, qc, qa, _, G1, C1, rfl, (by omega), hp79, hc1⟩
        have hR := lw_Rsz H.size (hv_tot H) hR
        refine lv_pop hx hb dL_law_359 rfl ?_
        refine lv_aload_n hx hb dL_law_360 rfl (lv_at hl 2 rfl) ?_
        refine lv_aload_n hx hb dL_law_361 rfl (lv_at hl 0 rfl) ?_
        refine lv_iload_n hx hb dL_law_362 rfl (lv_at hl 3 rfl) ?_
        refine lv_iconst (v := 1) hx hb dL_law_363 (by decide) ?_
        refine lv_iadd hx hb dL_law_364 ?_
        refine hv_as (x := ((nI j) + 1)) (y := (nI (j + 1))) (nI_add j 1) ?_
        refine va_sld (i := (nI (j + 1))) hx hb hX hbl hbA hT.2.2.2.2.1 (vp_in_nI (by omega) (by omega)) dL_law_365 ?_
        refine lv_topi (fun g80 eg80 => ?_)
        have hsz : hv_n _ ≤ s.heap.size + 35 + 4113 ∧ hv_t _ ≤ hv_tot s.heap + 420409 + 32920 := lw_Csize hC
        have hz1 := hT.1.2.2.1
        have hz2 := hT.1.2.2.2
        obtain ⟨ra, n2, b2, t2, nm, stt, dg, F, kd, hra, hJ⟩ := hR
        subst hra
        have ho1 := hT.2.1.2.2.1
        have ho2 := hT.2.1.2.2.2
        refine lw_calli (va_runV (As := [.int g80]) (rest := []) ⟨hx, hb, hml, hown, hts⟩ (m_run l D tc hJ g80 (by omega)) (cwV 1 hts (tw_V tw_421 tw_422 tw_423 tw_3 tw_424) rfl rfl rfl (by decide +kernel) ⟨Nat.le_of_ble_eq_true rfl, Nat.le_of_ble_eq_true rfl⟩) (hv_preV (ci := 4) hK hT.sw.1 (rs_k0 hJ.1) (by decide) rfl rfl) rfl rfl hl.1 rfl (lv_room (Nat.le_of_ble_eq_true rfl)) dL_law_366 ⟨by show (H.size - s.heap.size) + 0 ≤ 600000; omega, by show (hv_tot H - hv_tot s.heap) + 0 ≤ 7302250; omega⟩) hT.sw (fun r81 v82 H locs hp83 hT hn1 ht1 => ?_)
        obtain ⟨t3, nm3, st3, dg3, F3, kd3, hJ1⟩ := hp83
        have hC := lw_Csz (N := H.size) (S := hv_tot H) hC (by rw [hn1, hJ1.1.1.2.1, ← hJ.1.1.2.1, ← ho1]; exact hz1) (by rw [ht1, hJ1.1.1.2.2, ← hJ.1.1.2.2, ← ho2]; exact hz2)
        have hR : lw_R (ra 0) B v82 := ⟨ra, n2, b2, t3, nm3, st3, dg3, F3, kd3, rfl, hJ1⟩
        have hT := hT.sw
        refine lv_pop hx hb dL_law_369 rfl ?_
        refine lv_goto (tgt := 547) hx hb dL_law_370 (by decide) ?_
        refine lv_iinc (v := (nI (j + 4))) (lv' := [(3, _), (0, _), (1, _), (2, _)]) hx hb dL_law_547 hl (k := 3) rfl (nI_add j 4) (by decide) rfl (fun ls hl => ?_)
        refine lv_goto (tgt := 18) hx hb dL_law_550 (by decide) ?_
        exact ih (j + 4) _ _ _ H locs ls (by omega) (by omega) (by omega) hC hR hT (lv_sub hl [1, 2, 3, 0] rfl)
      by_cases t32_9 : (g1 &&& 31) = 9
      · skip
        refine lv_tableIn (off := 341) (tgt := 373) hx hb dL_law_32 (by rw [t32_9]; decide) (by rw [t32_9]; decide) (by rw [t32_9]; rfl) (by decide) ?_
        refine lv_aload_n hx hb dL_law_373 rfl (lv_at hl 1 rfl) ?_
        have hsz : hv_n _ ≤ s.heap.size + 35 + 4113 ∧ hv_t _ ≤ hv_tot s.heap + 420409 + 32920 := lw_Csize hC
        have hz1 := hT.1.2.2.1
        have hz2 := hT.1.2.2.2
        obtain ⟨fa, n, w, u, b1, d, k, ys, qc, qa, am, G, C, hfa, ham, hI, hc⟩ := hC
        subst hfa
        refine lw_calli (va_runV (As := []) (rest := []) ⟨hx, hb, hml, hown, hts⟩ (c_step l D tc hI hc (by omega) ) (cwV 0 hts (tw_V tw_268 tw_269 tw_270 tw_1 tw_271) rfl rfl rfl (by decide +kernel) ⟨Nat.le_of_ble_eq_true rfl, Nat.le_of_ble_eq_true rfl⟩) (hv_preV (ci := 3) hK hT.1 (cs_kX hI.1.1) (by decide) rfl rfl) rfl rfl hl.1 rfl (lv_room (Nat.le_of_ble_eq_true rfl)) dL_law_374 ⟨by show (H.size - s.heap.size) + 4113 ≤ 600000; omega, by show (hv_tot H - hv_tot s.heap) + 32904 ≤ 7302250; omega⟩) hT (fun r84 v85 H locs hp86 hT hn1 ht1 => ?_)
        have hC : lw_C (s.heap.size + 35, hv_tot s.heap + 420409) (fa 0) (j + 4) v85 := by obtain ⟨k1, G1, C1, hp86, hc1⟩ := hp86; exact ⟨fa, n, w, u, b1, d, k1, ys, qc, qa, _, G1, C1, rfl, (by omega), hp86, hc1⟩
        have hR := lw_Rsz H.size (hv_tot H) hR
        refine lv_pop hx hb dL_law_377 rfl ?_
        refine lv_aload_n hx hb dL_law_378 rfl (lv_at hl 2 rfl) ?_
        have hsz : hv_n _ ≤ s.heap.size + 35 + 4113 ∧ hv_t _ ≤ hv_tot s.heap + 420409 + 32920 := lw_Csize hC
        have hz1 := hT.1.2.2.1
        have hz2 := hT.1.2.2.2
        obtain ⟨ra, n2, b2, t2, nm, stt, dg, F, kd, hra, hJ⟩ := hR
        subst hra
        have ho1 := hT.2.1.2.2.1
        have ho2 := hT.2.1.2.2.2
        refine lw_calli (va_runV (As := []) (rest := []) ⟨hx, hb, hml, hown, hts⟩ (m_step l D tc hJ  (by omega)) (cwV 0 hts (tw_V tw_449 tw_450 tw_451 tw_3 tw_452) rfl rfl rfl (by decide +kernel) ⟨Nat.le_of_ble_eq_true rfl, Nat.le_of_ble_eq_true rfl⟩) (hv_preV (ci := 4) hK hT.sw.1 (rs_k0 hJ.1) (by decide) rfl rfl) rfl rfl hl.1 rfl (lv_room (Nat.le_of_ble_eq_true rfl)) dL_law_379 ⟨by show (H.size - s.heap.size) + 0 ≤ 600000; omega, by show (hv_tot H - hv_tot s.heap) + 0 ≤ 7302250; omega⟩) hT.sw (fun r87 v88 H locs hp89 hT hn1 ht1 => ?_)
        obtain ⟨t3, nm3, st3, dg3, F3, kd3, hJ1⟩ := hp89
        have hC := lw_Csz (N := H.size) (S := hv_tot H) hC (by rw [hn1, hJ1.1.1.2.1, ← hJ.1.1.2.1, ← ho1]; exact hz1) (by rw [ht1, hJ1.1.1.2.2, ← hJ.1.1.2.2, ← ho2]; exact hz2)
        have hR : lw_R (ra 0) B v88 := ⟨ra, n2, b2, t3, nm3, st3, dg3, F3, kd3, rfl, hJ1⟩
        have hT := hT.sw
        refine lv_pop hx hb dL_law_382 rfl ?_
        refine lv_goto (tgt := 547) hx hb dL_law_383 (by decide) ?_
        refine lv_iinc (v := (nI (j + 4))) (lv' := [(3, _), (0, _), (1, _), (2, _)]) hx hb dL_law_547 hl (k := 3) rfl (nI_add j 4) (by decide) rfl (fun ls hl => ?_)
        refine lv_goto (tgt := 18) hx hb dL_law_550 (by decide) ?_
        exact ih (j + 4) _ _ _ H locs ls (by omega) (by omega) (by omega) hC hR hT (lv_sub hl [1, 2, 3, 0] rfl)
      by_cases t32_10 : (g1 &&& 31) = 10
      · skip
        refine lv_tableIn (off := 354) (tgt := 386) hx hb dL_law_32 (by rw [t32_10]; decide) (by rw [t32_10]; decide) (by rw [t32_10]; rfl) (by decide) ?_
        refine lv_aload_n hx hb dL_law_386 rfl (lv_at hl 1 rfl) ?_
        have hsz : hv_n _ ≤ s.heap.size + 35 + 4113 ∧ hv_t _ ≤ hv_tot s.heap + 420409 + 32920 := lw_Csize hC
        have hz1 := hT.1.2.2.1
        have hz2 := hT.1.2.2.2
        obtain ⟨fa, n, w, u, b1, d, k, ys, qc, qa, am, G, C, hfa, ham, hI, hc⟩ := hC
        subst hfa
        refine lw_calli (va_runV (As := []) (rest := []) ⟨hx, hb, hml, hown, hts⟩ (c_reset l D tc hI hc (by omega) ) (cwV 0 hts (tw_V tw_272 tw_273 tw_274 tw_1 tw_275) rfl rfl rfl (by decide +kernel) ⟨Nat.le_of_ble_eq_true rfl, Nat.le_of_ble_eq_true rfl⟩) (hv_preV (ci := 3) hK hT.1 (cs_kX hI.1.1) (by decide) rfl rfl) rfl rfl hl.1 rfl (lv_room (Nat.le_of_ble_eq_true rfl)) dL_law_387 ⟨by show (H.size - s.heap.size) + 0 ≤ 600000; omega, by show (hv_tot H - hv_tot s.heap) + 0 ≤ 7302250; omega⟩) hT (fun r90 v91 H locs hp92 hT hn1 ht1 => ?_)
        have hC : lw_C (s.heap.size + 35, hv_tot s.heap + 420409) (fa 0) (j + 4) v91 := by obtain ⟨u1, b3, d1, k1, ys1, qc1, qa1, G1, C1, hp92, hc1⟩ := hp92; exact ⟨fa, n, w, u1, b3, d1, k1, ys1, qc1, qa1, _, G1, C1, rfl, (by omega), hp92, hc1⟩
        have hR := lw_Rsz H.size (hv_tot H) hR
        refine lv_pop hx hb dL_law_390 rfl ?_
        refine lv_aload_n hx hb dL_law_391 rfl (lv_at hl 2 rfl) ?_
        have hsz : hv_n _ ≤ s.heap.size + 35 + 4113 ∧ hv_t _ ≤ hv_tot s.heap + 420409 + 32920 := lw_Csize hC
        have hz1 := hT.1.2.2.1
        have hz2 := hT.1.2.2.2
        obtain ⟨ra, n2, b2, t2, nm, stt, dg, F, kd, hra, hJ⟩ := hR
        subst hra
        have ho1 := hT.2.1.2.2.1
        have ho2 := hT.2.1.2.2.2
        refine lw_calli (va_runV (As := []) (rest := []) ⟨hx, hb, hml, hown, hts⟩ (m_reset l D tc hJ ) (cwV 0 hts (tw_V tw_453 tw_454 tw_455 tw_3 tw_456) rfl rfl rfl (by decide +kernel) ⟨Nat.le_of_ble_eq_true rfl, Nat.le_of_ble_eq_true rfl⟩) (hv_preV (ci := 4) hK hT.sw.1 (rs_k0 hJ.1) (by decide) rfl rfl) rfl rfl hl.1 rfl (lv_room (Nat.le_of_ble_eq_true rfl)) dL_law_392 ⟨by show (H.size - s.heap.size) + 0 ≤ 600000; omega, by show (hv_tot H - hv_tot s.heap) + 0 ≤ 7302250; omega⟩) hT.sw (fun r93 v94 H locs hp95 hT hn1 ht1 => ?_)
        obtain ⟨er2, hp95⟩ := hp95
        obtain ⟨t3, nm3, st3, dg3, F3, kd3, hJ1⟩ := hp95
        have hC := lw_Csz (N := H.size) (S := hv_tot H) hC (by rw [hn1, hJ1.1.1.2.1, ← hJ.1.1.2.1, ← ho1]; exact hz1) (by rw [ht1, hJ1.1.1.2.2, ← hJ.1.1.2.2, ← ho2]; exact hz2)
        have hR : lw_R (ra 0) 410048 v94 := ⟨ra, n2, 0, t3, nm3, st3, dg3, F3, kd3, rfl, hJ1⟩
        have hT := hT.sw
        refine lv_pop hx hb dL_law_395 rfl ?_
        refine lv_goto (tgt := 547) hx hb dL_law_396 (by decide) ?_
        refine lv_iinc (v := (nI (j + 4))) (lv' := [(3, _), (0, _), (1, _), (2, _)]) hx hb dL_law_547 hl (k := 3) rfl (nI_add j 4) (by decide) rfl (fun ls hl => ?_)
        refine lv_goto (tgt := 18) hx hb dL_law_550 (by decide) ?_
        exact ih (j + 4) _ _ _ H locs ls (by omega) (by omega) (by omega) hC hR hT (lv_sub hl [1, 2, 3, 0] rfl)
      by_cases t32_11 : (g1 &&& 31) = 11
      · skip
        refine lv_tableIn (off := 367) (tgt := 399) hx hb dL_law_32 (by rw [t32_11]; decide) (by rw [t32_11]; decide) (by rw [t32_11]; rfl) (by decide) ?_
        refine lv_aload_n hx hb dL_law_399 rfl (lv_at hl 1 rfl) ?_
        refine lv_aload_n hx hb dL_law_400 rfl (lv_at hl 0 rfl) ?_
        refine lv_iload_n hx hb dL_law_401 rfl (lv_at hl 3 rfl) ?_
        refine lv_iconst (v := 1) hx hb dL_law_402 (by decide) ?_
        refine lv_iadd hx hb dL_law_403 ?_
        refine hv_as (x := ((nI j) + 1)) (y := (nI (j + 1))) (nI_add j 1) ?_
        refine va_sld (i := (nI (j + 1))) hx hb hX hbl hbA hT.2.2.2.2.1 (vp_in_nI (by omega) (by omega)) dL_law_404 ?_
        refine lv_topi (fun g96 eg96 => ?_)
        refine lv_aload_n hx hb dL_law_405 rfl (lv_at hl 0 rfl) ?_
        refine lv_iload_n hx hb dL_law_406 rfl (lv_at hl 3 rfl) ?_
        refine lv_iconst (v := 2) hx hb dL_law_407 (by decide) ?_
        refine lv_iadd hx hb dL_law_408 ?_
        refine hv_as (x := ((nI j) + 2)) (y := (nI (j + 2))) (nI_add j 2) ?_
        refine va_sld (i := (nI (j + 2))) hx hb hX hbl hbA hT.2.2.2.2.1 (vp_in_nI (by omega) (by omega)) dL_law_409 ?_
        refine lv_topi (fun g97 eg97 => ?_)
        have hsz : hv_n _ ≤ s.heap.size + 35 + 4113 ∧ hv_t _ ≤ hv_tot s.heap + 420409 + 32920 := lw_Csize hC
        have hz1 := hT.1.2.2.1
        have hz2 := hT.1.2.2.2
        obtain ⟨fa, n, w, u, b1, d, k, ys, qc, qa, am, G, C, hfa, ham, hI, hc⟩ := hC
        subst hfa
        refine lw_calli (va_runV (As := [.int g96, .int g97]) (rest := []) ⟨hx, hb, hml, hown, hts⟩ (c_of l D tc hI hc (by omega) g96 g97) (cwV 2 hts (tw_V tw_281 tw_282 tw_283 tw_1 tw_284) rfl rfl rfl (by decide +kernel) ⟨Nat.le_of_ble_eq_true rfl, Nat.le_of_ble_eq_true rfl⟩) (hv_preV (ci := 3) hK hT.1 (cs_kX hI.1.1) (by decide) rfl rfl) rfl rfl hl.1 rfl (lv_room (Nat.le_of_ble_eq_true rfl)) dL_law_410 ⟨by show (H.size - s.heap.size) + 0 ≤ 600000; omega, by show (hv_tot H - hv_tot s.heap) + 0 ≤ 7302250; omega⟩) hT (fun r98 v99 H locs hp100 hT hn1 ht1 => ?_)
        have hC : lw_C (s.heap.size + 35, hv_tot s.heap + 420409) (fa 0) (j + 4) v99 := by obtain ⟨u1, b3, d1, k1, ys1, qc1, qa1, G1, C1, hp100, hc1⟩ := hp100; exact ⟨fa, n, w, u1, b3, d1, k1, ys1, qc1, qa1, _, G1, C1, rfl, (by omega), hp100, hc1⟩
        have hR := lw_Rsz H.size (hv_tot H) hR
        refine lv_pop hx hb dL_law_413 rfl ?_
        refine lv_aload_n hx hb dL_law_414 rfl (lv_at hl 2 rfl) ?_
        refine lv_aload_n hx hb dL_law_415 rfl (lv_at hl 0 rfl) ?_
        refine lv_iload_n hx hb dL_law_416 rfl (lv_at hl 3 rfl) ?_
        refine lv_iconst (v := 1) hx hb dL_law_417 (by decide) ?_
        refine lv_iadd hx hb dL_law_418 ?_
        refine hv_as (x := ((nI j) + 1)) (y := (nI (j + 1))) (nI_add j 1) ?_
        refine va_sld (i := (nI (j + 1))) hx hb hX hbl hbA hT.2.2.2.2.1 (vp_in_nI (by omega) (by omega)) dL_law_419 ?_
        refine lv_topi (fun g101 eg101 => ?_)
        refine lv_aload_n hx hb dL_law_420 rfl (lv_at hl 0 rfl) ?_
        refine lv_iload_n hx hb dL_law_421 rfl (lv_at hl 3 rfl) ?_
        refine lv_iconst (v := 2) hx hb dL_law_422 (by decide) ?_
        refine lv_iadd hx hb dL_law_423 ?_
        refine hv_as (x := ((nI j) + 2)) (y := (nI (j + 2))) (nI_add j 2) ?_
        refine va_sld (i := (nI (j + 2))) hx hb hX hbl hbA hT.2.2.2.2.1 (vp_in_nI (by omega) (by omega)) dL_law_424 ?_
        refine lv_topi (fun g102 eg102 => ?_)
        have hsz : hv_n _ ≤ s.heap.size + 35 + 4113 ∧ hv_t _ ≤ hv_tot s.heap + 420409 + 32920 := lw_Csize hC
        have hz1 := hT.1.2.2.1
        have hz2 := hT.1.2.2.2
        obtain ⟨ra, n2, b2, t2, nm, stt, dg, F, kd, hra, hJ⟩ := hR
        subst hra
        have ho1 := hT.2.1.2.2.1
        have ho2 := hT.2.1.2.2.2
        refine lw_calli (va_runV (As := [.int g101, .int g102]) (rest := []) ⟨hx, hb, hml, hown, hts⟩ (m_of l D tc hJ g101 g102) (cwV 2 hts (tw_V tw_457 tw_458 tw_459 tw_3 tw_460) rfl rfl rfl (by decide +kernel) ⟨Nat.le_of_ble_eq_true rfl, Nat.le_of_ble_eq_true rfl⟩) (hv_preV (ci := 4) hK hT.sw.1 (rs_k0 hJ.1) (by decide) rfl rfl) rfl rfl hl.1 rfl (lv_room (Nat.le_of_ble_eq_true rfl)) dL_law_425 ⟨by show (H.size - s.heap.size) + 0 ≤ 600000; omega, by show (hv_tot H - hv_tot s.heap) + 0 ≤ 7302250; omega⟩) hT.sw (fun r103 v104 H locs hp105 hT hn1 ht1 => ?_)
        obtain ⟨t3, nm3, st3, dg3, F3, kd3, hJ1⟩ := hp105
        have hC := lw_Csz (N := H.size) (S := hv_tot H) hC (by rw [hn1, hJ1.1.1.2.1, ← hJ.1.1.2.1, ← ho1]; exact hz1) (by rw [ht1, hJ1.1.1.2.2, ← hJ.1.1.2.2, ← ho2]; exact hz2)
        have hR : lw_R (ra 0) B v104 := ⟨ra, n2, b2, t3, nm3, st3, dg3, F3, kd3, rfl, hJ1⟩
        have hT := hT.sw
        refine lv_pop hx hb dL_law_428 rfl ?_
        refine lv_goto (tgt := 547) hx hb dL_law_429 (by decide) ?_
        refine lv_iinc (v := (nI (j + 4))) (lv' := [(3, _), (0, _), (1, _), (2, _)]) hx hb dL_law_547 hl (k := 3) rfl (nI_add j 4) (by decide) rfl (fun ls hl => ?_)
        refine lv_goto (tgt := 18) hx hb dL_law_550 (by decide) ?_
        exact ih (j + 4) _ _ _ H locs ls (by omega) (by omega) (by omega) hC hR hT (lv_sub hl [1, 2, 3, 0] rfl)
      by_cases t32_12 : (g1 &&& 31) = 12
      · skip
        refine lv_tableIn (off := 400) (tgt := 432) hx hb dL_law_32 (by rw [t32_12]; decide) (by rw [t32_12]; decide) (by rw [t32_12]; rfl) (by decide) ?_
        refine lv_aload_n hx hb dL_law_432 rfl (lv_at hl 1 rfl) ?_
        refine lv_aload_n hx hb dL_law_433 rfl (lv_at hl 0 rfl) ?_
        refine lv_iload_n hx hb dL_law_434 rfl (lv_at hl 3 rfl) ?_
        refine lv_iconst (v := 1) hx hb dL_law_435 (by decide) ?_
        refine lv_iadd hx hb dL_law_436 ?_
        refine hv_as (x := ((nI j) + 1)) (y := (nI (j + 1))) (nI_add j 1) ?_
        refine va_sld (i := (nI (j + 1))) hx hb hX hbl hbA hT.2.2.2.2.1 (vp_in_nI (by omega) (by omega)) dL_law_437 ?_
        refine lv_topi (fun g106 eg106 => ?_)
        have hsz : hv_n _ ≤ s.heap.size + 35 + 4113 ∧ hv_t _ ≤ hv_tot s.heap + 420409 + 32920 := lw_Csize hC
        have hz1 := hT.1.2.2.1
        have hz2 := hT.1.2.2.2
        obtain ⟨fa, n, w, u, b1, d, k, ys, qc, qa, am, G, C, hfa, ham, hI, hc⟩ := hC
        subst hfa
        refine lw_calli (va_runV (As := [.int g106]) (rest := []) ⟨hx, hb, hml, hown, hts⟩ (c_count l D tc hI hc (by omega) g106) (cwV 1 hts (tw_V tw_285 tw_286 tw_287 tw_1 tw_288) rfl rfl rfl (by decide +kernel) ⟨Nat.le_of_ble_eq_true rfl, Nat.le_of_ble_eq_true rfl⟩) (hv_preV (ci := 3) hK hT.1 (cs_kX hI.1.1) (by decide) rfl rfl) rfl rfl hl.1 rfl (lv_room (Nat.le_of_ble_eq_true rfl)) dL_law_438 ⟨by show (H.size - s.heap.size) + 0 ≤ 600000; omega, by show (hv_tot H - hv_tot s.heap) + 0 ≤ 7302250; omega⟩) hT (fun r107 v108 H locs hp109 hT hn1 ht1 => ?_)
        have hC : lw_C (s.heap.size + 35, hv_tot s.heap + 420409) (fa 0) (j + 4) v108 := by obtain ⟨u1, b3, d1, k1, ys1, qc1, qa1, G1, C1, hp109, hc1⟩ := hp109; exact ⟨fa, n, w, u1, b3, d1, k1, ys1, qc1, qa1, _, G1, C1, rfl, (by omega), hp109, hc1⟩
        have hR := lw_Rsz H.size (hv_tot H) hR
        refine lv_pop hx hb dL_law_441 rfl ?_
        refine lv_aload_n hx hb dL_law_442 rfl (lv_at hl 2 rfl) ?_
        refine lv_aload_n hx hb dL_law_443 rfl (lv_at hl 0 rfl) ?_
        refine lv_iload_n hx hb dL_law_444 rfl (lv_at hl 3 rfl) ?_
        refine lv_iconst (v := 1) hx hb dL_law_445 (by decide) ?_
        refine lv_iadd hx hb dL_law_446 ?_
        refine hv_as (x := ((nI j) + 1)) (y := (nI (j + 1))) (nI_add j 1) ?_
        refine va_sld (i := (nI (j + 1))) hx hb hX hbl hbA hT.2.2.2.2.1 (vp_in_nI (by omega) (by omega)) dL_law_447 ?_
        refine lv_topi (fun g110 eg110 => ?_)
        have hsz : hv_n _ ≤ s.heap.size + 35 + 4113 ∧ hv_t _ ≤ hv_tot s.heap + 420409 + 32920 := lw_Csize hC
        have hz1 := hT.1.2.2.1
        have hz2 := hT.1.2.2.2
        obtain ⟨ra, n2, b2, t2, nm, stt, dg, F, kd, hra, hJ⟩ := hR
        subst hra
        have ho1 := hT.2.1.2.2.1
        have ho2 := hT.2.1.2.2.2
        refine lw_calli (va_runV (As := [.int g110]) (rest := []) ⟨hx, hb, hml, hown, hts⟩ (m_count l D tc hJ g110) (cwV 1 hts (tw_V tw_461 tw_462 tw_463 tw_3 tw_464) rfl rfl rfl (by decide +kernel) ⟨Nat.le_of_ble_eq_true rfl, Nat.le_of_ble_eq_true rfl⟩) (hv_preV (ci := 4) hK hT.sw.1 (rs_k0 hJ.1) (by decide) rfl rfl) rfl rfl hl.1 rfl (lv_room (Nat.le_of_ble_eq_true rfl)) dL_law_448 ⟨by show (H.size - s.heap.size) + 0 ≤ 600000; omega, by show (hv_tot H - hv_tot s.heap) + 0 ≤ 7302250; omega⟩) hT.sw (fun r111 v112 H locs hp113 hT hn1 ht1 => ?_)
        obtain ⟨t3, nm3, st3, dg3, F3, kd3, hJ1⟩ := hp113
        have hC := lw_Csz (N := H.size) (S := hv_tot H) hC (by rw [hn1, hJ1.1.1.2.1, ← hJ.1.1.2.1, ← ho1]; exact hz1) (by rw [ht1, hJ1.1.1.2.2, ← hJ.1.1.2.2, ← ho2]; exact hz2)
        have hR : lw_R (ra 0) B v112 := ⟨ra, n2, b2, t3, nm3, st3, dg3, F3, kd3, rfl, hJ1⟩
        have hT := hT.sw
        refine lv_pop hx hb dL_law_451 rfl ?_
        refine lv_goto (tgt := 547) hx hb dL_law_452 (by decide) ?_
        refine lv_iinc (v := (nI (j + 4))) (lv' := [(3, _), (0, _), (1, _), (2, _)]) hx hb dL_law_547 hl (k := 3) rfl (nI_add j 4) (by decide) rfl (fun ls hl => ?_)
        refine lv_goto (tgt := 18) hx hb dL_law_550 (by decide) ?_
        exact ih (j + 4) _ _ _ H locs ls (by omega) (by omega) (by omega) hC hR hT (lv_sub hl [1, 2, 3, 0] rfl)
      by_cases t32_13 : (g1 &&& 31) = 13
      · skip
        refine lv_tableIn (off := 423) (tgt := 455) hx hb dL_law_32 (by rw [t32_13]; decide) (by rw [t32_13]; decide) (by rw [t32_13]; rfl) (by decide) ?_
        refine lv_aload_n hx hb dL_law_455 rfl (lv_at hl 1 rfl) ?_
        refine lv_aload_n hx hb dL_law_456 rfl (lv_at hl 0 rfl) ?_
        refine lv_iload_n hx hb dL_law_457 rfl (lv_at hl 3 rfl) ?_
        refine lv_iconst (v := 1) hx hb dL_law_458 (by decide) ?_
        refine lv_iadd hx hb dL_law_459 ?_
        refine hv_as (x := ((nI j) + 1)) (y := (nI (j + 1))) (nI_add j 1) ?_
        refine va_sld (i := (nI (j + 1))) hx hb hX hbl hbA hT.2.2.2.2.1 (vp_in_nI (by omega) (by omega)) dL_law_460 ?_
        refine lv_topi (fun g114 eg114 => ?_)
        refine lv_aload_n hx hb dL_law_461 rfl (lv_at hl 0 rfl) ?_
        refine lv_iload_n hx hb dL_law_462 rfl (lv_at hl 3 rfl) ?_
        refine lv_iconst (v := 2) hx hb dL_law_463 (by decide) ?_
        refine lv_iadd hx hb dL_law_464 ?_
        refine hv_as (x := ((nI j) + 2)) (y := (nI (j + 2))) (nI_add j 2) ?_
        refine va_sld (i := (nI (j + 2))) hx hb hX hbl hbA hT.2.2.2.2.1 (vp_in_nI (by omega) (by omega)) dL_law_465 ?_
        refine lv_topi (fun g115 eg115 => ?_)
        have hsz : hv_n _ ≤ s.heap.size + 35 + 4113 ∧ hv_t _ ≤ hv_tot s.heap + 420409 + 32920 := lw_Csize hC
        have hz1 := hT.1.2.2.1
        have hz2 := hT.1.2.2.2
        obtain ⟨fa, n, w, u, b1, d, k, ys, qc, qa, am, G, C, hfa, ham, hI, hc⟩ := hC
        subst hfa
        refine lw_calli (va_runV (As := [.int g114, .int g115]) (rest := []) ⟨hx, hb, hml, hown, hts⟩ (c_delay l D tc hI hc (by omega) g114 g115) (cwV 2 hts (tw_V tw_289 tw_290 tw_291 tw_1 tw_292) rfl rfl rfl (by decide +kernel) ⟨Nat.le_of_ble_eq_true rfl, Nat.le_of_ble_eq_true rfl⟩) (hv_preV (ci := 3) hK hT.1 (cs_kX hI.1.1) (by decide) rfl rfl) rfl rfl hl.1 rfl (lv_room (Nat.le_of_ble_eq_true rfl)) dL_law_466 ⟨by show (H.size - s.heap.size) + 0 ≤ 600000; omega, by show (hv_tot H - hv_tot s.heap) + 0 ≤ 7302250; omega⟩) hT (fun r116 v117 H locs hp118 hT hn1 ht1 => ?_)
        have hC : lw_C (s.heap.size + 35, hv_tot s.heap + 420409) (fa 0) (j + 4) v117 := by obtain ⟨u1, b3, d1, k1, ys1, qc1, qa1, G1, C1, hp118, hc1⟩ := hp118; exact ⟨fa, n, w, u1, b3, d1, k1, ys1, qc1, qa1, _, G1, C1, rfl, (by omega), hp118, hc1⟩
        have hR := lw_Rsz H.size (hv_tot H) hR
        refine lv_pop hx hb dL_law_469 rfl ?_
        refine lv_aload_n hx hb dL_law_470 rfl (lv_at hl 2 rfl) ?_
        refine lv_aload_n hx hb dL_law_471 rfl (lv_at hl 0 rfl) ?_
        refine lv_iload_n hx hb dL_law_472 rfl (lv_at hl 3 rfl) ?_
        refine lv_iconst (v := 1) hx hb dL_law_473 (by decide) ?_
        refine lv_iadd hx hb dL_law_474 ?_
        refine hv_as (x := ((nI j) + 1)) (y := (nI (j + 1))) (nI_add j 1) ?_
        refine va_sld (i := (nI (j + 1))) hx hb hX hbl hbA hT.2.2.2.2.1 (vp_in_nI (by omega) (by omega)) dL_law_475 ?_
        refine lv_topi (fun g119 eg119 => ?_)
        refine lv_aload_n hx hb dL_law_476 rfl (lv_at hl 0 rfl) ?_
        refine lv_iload_n hx hb dL_law_477 rfl (lv_at hl 3 rfl) ?_
        refine lv_iconst (v := 2) hx hb dL_law_478 (by decide) ?_
        refine lv_iadd hx hb dL_law_479 ?_
        refine hv_as (x := ((nI j) + 2)) (y := (nI (j + 2))) (nI_add j 2) ?_
        refine va_sld (i := (nI (j + 2))) hx hb hX hbl hbA hT.2.2.2.2.1 (vp_in_nI (by omega) (by omega)) dL_law_480 ?_
        refine lv_topi (fun g120 eg120 => ?_)
        have hsz : hv_n _ ≤ s.heap.size + 35 + 4113 ∧ hv_t _ ≤ hv_tot s.heap + 420409 + 32920 := lw_Csize hC
        have hz1 := hT.1.2.2.1
        have hz2 := hT.1.2.2.2
        obtain ⟨ra, n2, b2, t2, nm, stt, dg, F, kd, hra, hJ⟩ := hR
        subst hra
        have ho1 := hT.2.1.2.2.1
        have ho2 := hT.2.1.2.2.2
        refine lw_calli (va_runV (As := [.int g119, .int g120]) (rest := []) ⟨hx, hb, hml, hown, hts⟩ (m_delay l D tc hJ g119 g120) (cwV 2 hts (tw_V tw_465 tw_466 tw_467 tw_3 tw_468) rfl rfl rfl (by decide +kernel) ⟨Nat.le_of_ble_eq_true rfl, Nat.le_of_ble_eq_true rfl⟩) (hv_preV (ci := 4) hK hT.sw.1 (rs_k0 hJ.1) (by decide) rfl rfl) rfl rfl hl.1 rfl (lv_room (Nat.le_of_ble_eq_true rfl)) dL_law_481 ⟨by show (H.size - s.heap.size) + 0 ≤ 600000; omega, by show (hv_tot H - hv_tot s.heap) + 0 ≤ 7302250; omega⟩) hT.sw (fun r121 v122 H locs hp123 hT hn1 ht1 => ?_)
        obtain ⟨t3, nm3, st3, dg3, F3, kd3, hJ1⟩ := hp123
        have hC := lw_Csz (N := H.size) (S := hv_tot H) hC (by rw [hn1, hJ1.1.1.2.1, ← hJ.1.1.2.1, ← ho1]; exact hz1) (by rw [ht1, hJ1.1.1.2.2, ← hJ.1.1.2.2, ← ho2]; exact hz2)
        have hR : lw_R (ra 0) B v122 := ⟨ra, n2, b2, t3, nm3, st3, dg3, F3, kd3, rfl, hJ1⟩
        have hT := hT.sw
        refine lv_pop hx hb dL_law_484 rfl ?_
        refine lv_goto (tgt := 547) hx hb dL_law_485 (by decide) ?_
        refine lv_iinc (v := (nI (j + 4))) (lv' := [(3, _), (0, _), (1, _), (2, _)]) hx hb dL_law_547 hl (k := 3) rfl (nI_add j 4) (by decide) rfl (fun ls hl => ?_)
        refine lv_goto (tgt := 18) hx hb dL_law_550 (by decide) ?_
        exact ih (j + 4) _ _ _ H locs ls (by omega) (by omega) (by omega) hC hR hT (lv_sub hl [1, 2, 3, 0] rfl)
      by_cases t32_14 : (g1 &&& 31) = 14
      · skip
        refine lv_tableIn (off := 456) (tgt := 488) hx hb dL_law_32 (by rw [t32_14]; decide) (by rw [t32_14]; decide) (by rw [t32_14]; rfl) (by decide) ?_
        refine lv_aload_n hx hb dL_law_488 rfl (lv_at hl 1 rfl) ?_
        refine lv_aload_n hx hb dL_law_489 rfl (lv_at hl 0 rfl) ?_
        refine lv_iload_n hx hb dL_law_490 rfl (lv_at hl 3 rfl) ?_
        refine lv_iconst (v := 1) hx hb dL_law_491 (by decide) ?_
        refine lv_iadd hx hb dL_law_492 ?_
        refine hv_as (x := ((nI j) + 1)) (y := (nI (j + 1))) (nI_add j 1) ?_
        refine va_sld (i := (nI (j + 1))) hx hb hX hbl hbA hT.2.2.2.2.1 (vp_in_nI (by omega) (by omega)) dL_law_493 ?_
        refine lv_topi (fun g124 eg124 => ?_)
        have hsz : hv_n _ ≤ s.heap.size + 35 + 4113 ∧ hv_t _ ≤ hv_tot s.heap + 420409 + 32920 := lw_Csize hC
        have hz1 := hT.1.2.2.1
        have hz2 := hT.1.2.2.2
        obtain ⟨fa, n, w, u, b1, d, k, ys, qc, qa, am, G, C, hfa, ham, hI, hc⟩ := hC
        subst hfa
        refine lw_calli (va_runV (As := [.int g124]) (rest := []) ⟨hx, hb, hml, hown, hts⟩ (c_weight l D tc hI hc (by omega) g124) (cwV 1 hts (tw_V tw_293 tw_294 tw_295 tw_1 tw_296) rfl rfl rfl (by decide +kernel) ⟨Nat.le_of_ble_eq_true rfl, Nat.le_of_ble_eq_true rfl⟩) (hv_preV (ci := 3) hK hT.1 (cs_kX hI.1.1) (by decide) rfl rfl) rfl rfl hl.1 rfl (lv_room (Nat.le_of_ble_eq_true rfl)) dL_law_494 ⟨by show (H.size - s.heap.size) + 0 ≤ 600000; omega, by show (hv_tot H - hv_tot s.heap) + 0 ≤ 7302250; omega⟩) hT (fun r125 v126 H locs hp127 hT hn1 ht1 => ?_)
        have hC : lw_C (s.heap.size + 35, hv_tot s.heap + 420409) (fa 0) (j + 4) v126 := by obtain ⟨u1, b3, d1, k1, ys1, qc1, qa1, G1, C1, hp127, hc1⟩ := hp127; exact ⟨fa, n, w, u1, b3, d1, k1, ys1, qc1, qa1, _, G1, C1, rfl, (by omega), hp127, hc1⟩
        have hR := lw_Rsz H.size (hv_tot H) hR
        refine lv_pop hx hb dL_law_497 rfl ?_
        refine lv_aload_n hx hb dL_law_498 rfl (lv_at hl 2 rfl) ?_
        refine lv_aload_n hx hb dL_law_499 rfl (lv_at hl 0 rfl) ?_
        refine lv_iload_n hx hb dL_law_500 rfl (lv_at hl 3 rfl) ?_
        refine lv_iconst (v := 1) hx hb dL_law_501 (by decide) ?_
        refine lv_iadd hx hb dL_law_502 ?_
        refine hv_as (x := ((nI j) + 1)) (y := (nI (j + 1))) (nI_add j 1) ?_
        refine va_sld (i := (nI (j + 1))) hx hb hX hbl hbA hT.2.2.2.2.1 (vp_in_nI (by omega) (by omega)) dL_law_503 ?_
        refine lv_topi (fun g128 eg128 => ?_)
        have hsz : hv_n _ ≤ s.heap.size + 35 + 4113 ∧ hv_t _ ≤ hv_tot s.heap + 420409 + 32920 := lw_Csize hC
        have hz1 := hT.1.2.2.1
        have hz2 := hT.1.2.2.2
        obtain ⟨ra, n2, b2, t2, nm, stt, dg, F, kd, hra, hJ⟩ := hR
        subst hra
        have ho1 := hT.2.1.2.2.1
        have ho2 := hT.2.1.2.2.2
        refine lw_calli (va_runV (As := [.int g128]) (rest := []) ⟨hx, hb, hml, hown, hts⟩ (m_weight l D tc hJ g128) (cwV 1 hts (tw_V tw_469 tw_470 tw_471 tw_3 tw_472) rfl rfl rfl (by decide +kernel) ⟨Nat.le_of_ble_eq_true rfl, Nat.le_of_ble_eq_true rfl⟩) (hv_preV (ci := 4) hK hT.sw.1 (rs_k0 hJ.1) (by decide) rfl rfl) rfl rfl hl.1 rfl (lv_room (Nat.le_of_ble_eq_true rfl)) dL_law_504 ⟨by show (H.size - s.heap.size) + 0 ≤ 600000; omega, by show (hv_tot H - hv_tot s.heap) + 0 ≤ 7302250; omega⟩) hT.sw (fun r129 v130 H locs hp131 hT hn1 ht1 => ?_)
        obtain ⟨t3, nm3, st3, dg3, F3, kd3, hJ1⟩ := hp131
        have hC := lw_Csz (N := H.size) (S := hv_tot H) hC (by rw [hn1, hJ1.1.1.2.1, ← hJ.1.1.2.1, ← ho1]; exact hz1) (by rw [ht1, hJ1.1.1.2.2, ← hJ.1.1.2.2, ← ho2]; exact hz2)
        have hR : lw_R (ra 0) B v130 := ⟨ra, n2, b2, t3, nm3, st3, dg3, F3, kd3, rfl, hJ1⟩
        have hT := hT.sw
        refine lv_pop hx hb dL_law_507 rfl ?_
        refine lv_goto (tgt := 547) hx hb dL_law_508 (by decide) ?_
        refine lv_iinc (v := (nI (j + 4))) (lv' := [(3, _), (0, _), (1, _), (2, _)]) hx hb dL_law_547 hl (k := 3) rfl (nI_add j 4) (by decide) rfl (fun ls hl => ?_)
        refine lv_goto (tgt := 18) hx hb dL_law_550 (by decide) ?_
        exact ih (j + 4) _ _ _ H locs ls (by omega) (by omega) (by omega) hC hR hT (lv_sub hl [1, 2, 3, 0] rfl)
      by_cases t32_15 : (g1 &&& 31) = 15
      · skip
        refine lv_tableIn (off := 479) (tgt := 511) hx hb dL_law_32 (by rw [t32_15]; decide) (by rw [t32_15]; decide) (by rw [t32_15]; rfl) (by decide) ?_
        refine lv_aload_n hx hb dL_law_511 rfl (lv_at hl 1 rfl) ?_
        refine lv_aload_n hx hb dL_law_512 rfl (lv_at hl 0 rfl) ?_
        refine lv_iload_n hx hb dL_law_513 rfl (lv_at hl 3 rfl) ?_
        refine lv_iconst (v := 1) hx hb dL_law_514 (by decide) ?_
        refine lv_iadd hx hb dL_law_515 ?_
        refine hv_as (x := ((nI j) + 1)) (y := (nI (j + 1))) (nI_add j 1) ?_
        refine va_sld (i := (nI (j + 1))) hx hb hX hbl hbA hT.2.2.2.2.1 (vp_in_nI (by omega) (by omega)) dL_law_516 ?_
        refine lv_topi (fun g132 eg132 => ?_)
        have hsz : hv_n _ ≤ s.heap.size + 35 + 4113 ∧ hv_t _ ≤ hv_tot s.heap + 420409 + 32920 := lw_Csize hC
        have hz1 := hT.1.2.2.1
        have hz2 := hT.1.2.2.2
        obtain ⟨fa, n, w, u, b1, d, k, ys, qc, qa, am, G, C, hfa, ham, hI, hc⟩ := hC
        subst hfa
        refine lw_calli (va_runV (As := [.int g132]) (rest := []) ⟨hx, hb, hml, hown, hts⟩ (c_latest l D tc hI hc (by omega) g132) (cwV 1 hts (tw_V tw_297 tw_298 tw_299 tw_1 tw_300) rfl rfl rfl (by decide +kernel) ⟨Nat.le_of_ble_eq_true rfl, Nat.le_of_ble_eq_true rfl⟩) (hv_preV (ci := 3) hK hT.1 (cs_kX hI.1.1) (by decide) rfl rfl) rfl rfl hl.1 rfl (lv_room (Nat.le_of_ble_eq_true rfl)) dL_law_517 ⟨by show (H.size - s.heap.size) + 0 ≤ 600000; omega, by show (hv_tot H - hv_tot s.heap) + 0 ≤ 7302250; omega⟩) hT (fun r133 v134 H locs hp135 hT hn1 ht1 => ?_)
        have hC : lw_C (s.heap.size + 35, hv_tot s.heap + 420409) (fa 0) (j + 4) v134 := by obtain ⟨u1, b3, d1, k1, ys1, qc1, qa1, G1, C1, hp135, hc1⟩ := hp135; exact ⟨fa, n, w, u1, b3, d1, k1, ys1, qc1, qa1, _, G1, C1, rfl, (by omega), hp135, hc1⟩
        have hR := lw_Rsz H.size (hv_tot H) hR
        refine lv_pop hx hb dL_law_520 rfl ?_
        refine lv_aload_n hx hb dL_law_521 rfl (lv_at hl 2 rfl) ?_
        refine lv_aload_n hx hb dL_law_522 rfl (lv_at hl 0 rfl) ?_
        refine lv_iload_n hx hb dL_law_523 rfl (lv_at hl 3 rfl) ?_
        refine lv_iconst (v := 1) hx hb dL_law_524 (by decide) ?_
        refine lv_iadd hx hb dL_law_525 ?_
        refine hv_as (x := ((nI j) + 1)) (y := (nI (j + 1))) (nI_add j 1) ?_
        refine va_sld (i := (nI (j + 1))) hx hb hX hbl hbA hT.2.2.2.2.1 (vp_in_nI (by omega) (by omega)) dL_law_526 ?_
        refine lv_topi (fun g136 eg136 => ?_)
        have hsz : hv_n _ ≤ s.heap.size + 35 + 4113 ∧ hv_t _ ≤ hv_tot s.heap + 420409 + 32920 := lw_Csize hC
        have hz1 := hT.1.2.2.1
        have hz2 := hT.1.2.2.2
        obtain ⟨ra, n2, b2, t2, nm, stt, dg, F, kd, hra, hJ⟩ := hR
        subst hra
        have ho1 := hT.2.1.2.2.1
        have ho2 := hT.2.1.2.2.2
        refine lw_calli (va_runV (As := [.int g136]) (rest := []) ⟨hx, hb, hml, hown, hts⟩ (m_latest l D tc hJ g136) (cwV 1 hts (tw_V tw_473 tw_474 tw_475 tw_3 tw_476) rfl rfl rfl (by decide +kernel) ⟨Nat.le_of_ble_eq_true rfl, Nat.le_of_ble_eq_true rfl⟩) (hv_preV (ci := 4) hK hT.sw.1 (rs_k0 hJ.1) (by decide) rfl rfl) rfl rfl hl.1 rfl (lv_room (Nat.le_of_ble_eq_true rfl)) dL_law_527 ⟨by show (H.size - s.heap.size) + 0 ≤ 600000; omega, by show (hv_tot H - hv_tot s.heap) + 0 ≤ 7302250; omega⟩) hT.sw (fun r137 v138 H locs hp139 hT hn1 ht1 => ?_)
        obtain ⟨t3, nm3, st3, dg3, F3, kd3, hJ1⟩ := hp139
        have hC := lw_Csz (N := H.size) (S := hv_tot H) hC (by rw [hn1, hJ1.1.1.2.1, ← hJ.1.1.2.1, ← ho1]; exact hz1) (by rw [ht1, hJ1.1.1.2.2, ← hJ.1.1.2.2, ← ho2]; exact hz2)
        have hR : lw_R (ra 0) B v138 := ⟨ra, n2, b2, t3, nm3, st3, dg3, F3, kd3, rfl, hJ1⟩
        have hT := hT.sw
        refine lv_pop hx hb dL_law_530 rfl ?_
        refine lv_goto (tgt := 547) hx hb dL_law_531 (by decide) ?_
        refine lv_iinc (v := (nI (j + 4))) (lv' := [(3, _), (0, _), (1, _), (2, _)]) hx hb dL_law_547 hl (k := 3) rfl (nI_add j 4) (by decide) rfl (fun ls hl => ?_)
        refine lv_goto (tgt := 18) hx hb dL_law_550 (by decide) ?_
        exact ih (j + 4) _ _ _ H locs ls (by omega) (by omega) (by omega) hC hR hT (lv_sub hl [1, 2, 3, 0] rfl)
      by_cases t32_16 : (g1 &&& 31) = 16
      · skip
        refine lv_tableIn (off := 502) (tgt := 534) hx hb dL_law_32 (by rw [t32_16]; decide) (by rw [t32_16]; decide) (by rw [t32_16]; rfl) (by decide) ?_
        refine lv_aload_n hx hb dL_law_534 rfl (lv_at hl 1 rfl) ?_
        have hsz : hv_n _ ≤ s.heap.size + 35 + 4113 ∧ hv_t _ ≤ hv_tot s.heap + 420409 + 32920 := lw_Csize hC
        have hz1 := hT.1.2.2.1
        have hz2 := hT.1.2.2.2
        obtain ⟨fa, n, w, u, b1, d, k, ys, qc, qa, am, G, C, hfa, ham, hI, hc⟩ := hC
        subst hfa
        refine lw_calli (va_runV (As := []) (rest := []) ⟨hx, hb, hml, hown, hts⟩ (c_check l D tc hI hc (by omega) ) (cwV 0 hts (tw_V tw_301 tw_302 tw_303 tw_1 tw_304) rfl rfl rfl (by decide +kernel) ⟨Nat.le_of_ble_eq_true rfl, Nat.le_of_ble_eq_true rfl⟩) (hv_preV (ci := 3) hK hT.1 (cs_kX hI.1.1) (by decide) rfl rfl) rfl rfl hl.1 rfl (lv_room (Nat.le_of_ble_eq_true rfl)) dL_law_535 ⟨by show (H.size - s.heap.size) + 0 ≤ 600000; omega, by show (hv_tot H - hv_tot s.heap) + 0 ≤ 7302250; omega⟩) hT (fun r140 v141 H locs hp142 hT hn1 ht1 => ?_)
        obtain ⟨er1, hp142⟩ := hp142
        have hC : lw_C (s.heap.size + 35, hv_tot s.heap + 420409) (fa 0) (j + 4) v141 := by obtain ⟨u1, b3, d1, k1, ys1, qc1, qa1, G1, C1, hp142, hc1⟩ := hp142; exact ⟨fa, n, w, u1, b3, d1, k1, ys1, qc1, qa1, _, G1, C1, rfl, (by omega), hp142, hc1⟩
        have hR := lw_Rsz H.size (hv_tot H) hR
        refine lv_aload_n hx hb dL_law_538 rfl (lv_at hl 2 rfl) ?_
        have hsz : hv_n _ ≤ s.heap.size + 35 + 4113 ∧ hv_t _ ≤ hv_tot s.heap + 420409 + 32920 := lw_Csize hC
        have hz1 := hT.1.2.2.1
        have hz2 := hT.1.2.2.2
        obtain ⟨ra, n2, b2, t2, nm, stt, dg, F, kd, hra, hJ⟩ := hR
        subst hra
        have ho1 := hT.2.1.2.2.1
        have ho2 := hT.2.1.2.2.2
        refine lw_calli (va_runV (As := []) (rest := [.int r140]) ⟨hx, hb, hml, hown, hts⟩ (m_check l D tc hJ ) (cwV 0 hts (tw_V tw_477 tw_478 tw_479 tw_3 tw_480) rfl rfl rfl (by decide +kernel) ⟨Nat.le_of_ble_eq_true rfl, Nat.le_of_ble_eq_true rfl⟩) (hv_preV (ci := 4) hK hT.sw.1 (rs_k0 hJ.1) (by decide) rfl rfl) rfl rfl hl.1 rfl (lv_room (Nat.le_of_ble_eq_true rfl)) dL_law_539 ⟨by show (H.size - s.heap.size) + 0 ≤ 600000; omega, by show (hv_tot H - hv_tot s.heap) + 0 ≤ 7302250; omega⟩) hT.sw (fun r143 v144 H locs hp145 hT hn1 ht1 => ?_)
        obtain ⟨er2, hp145⟩ := hp145
        obtain ⟨t3, nm3, st3, dg3, F3, kd3, hJ1⟩ := hp145
        have hC := lw_Csz (N := H.size) (S := hv_tot H) hC (by rw [hn1, hJ1.1.1.2.1, ← hJ.1.1.2.1, ← ho1]; exact hz1) (by rw [ht1, hJ1.1.1.2.2, ← hJ.1.1.2.2, ← ho2]; exact hz2)
        have hR : lw_R (ra 0) B v144 := ⟨ra, n2, b2, t3, nm3, st3, dg3, F3, kd3, rfl, hJ1⟩
        have hT := hT.sw
        refine lv_icmp_eq (tgt := 547) hx hb dL_law_542 (by decide) (fun c542 => ?_) (fun c542 => ?_)
        · skip
          refine lv_iinc (v := (nI (j + 4))) (lv' := [(3, _), (0, _), (1, _), (2, _)]) hx hb dL_law_547 hl (k := 3) rfl (nI_add j 4) (by decide) rfl (fun ls hl => ?_)
          refine lv_goto (tgt := 18) hx hb dL_law_550 (by decide) ?_
          exact ih (j + 4) _ _ _ H locs ls (by omega) (by omega) (by omega) hC hR hT (lv_sub hl [1, 2, 3, 0] rfl)
        · skip
          exact absurd (by rw [er1, er2]) c542
      refine lv_tableOut (tgt := 547) hx hb dL_law_32 (by have h0 := lv_neT t32_0 (a := 0) rfl; have h1 := lv_neT t32_1 (a := 1) rfl; have h2 := lv_neT t32_2 (a := 2) rfl; have h3 := lv_neT t32_3 (a := 3) rfl; have h4 := lv_neT t32_4 (a := 4) rfl; have h5 := lv_neT t32_5 (a := 5) rfl; have h6 := lv_neT t32_6 (a := 6) rfl; have h7 := lv_neT t32_7 (a := 7) rfl; have h8 := lv_neT t32_8 (a := 8) rfl; have h9 := lv_neT t32_9 (a := 9) rfl; have h10 := lv_neT t32_10 (a := 10) rfl; have h11 := lv_neT t32_11 (a := 11) rfl; have h12 := lv_neT t32_12 (a := 12) rfl; have h13 := lv_neT t32_13 (a := 13) rfl; have h14 := lv_neT t32_14 (a := 14) rfl; have h15 := lv_neT t32_15 (a := 15) rfl; have h16 := lv_neT t32_16 (a := 16) rfl; omega) (by decide) ?_
      refine lv_iinc (v := (nI (j + 4))) (lv' := [(3, _), (0, _), (1, _), (2, _)]) hx hb dL_law_547 hl (k := 3) rfl (nI_add j 4) (by decide) rfl (fun ls hl => ?_)
      refine lv_goto (tgt := 18) hx hb dL_law_550 (by decide) ?_
      exact ih (j + 4) _ _ _ H locs ls (by omega) (by omega) (by omega) (lw_Cup hC) hR hT (lv_sub hl [1, 2, 3, 0] rfl)