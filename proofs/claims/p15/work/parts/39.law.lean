def hv_emp (n t : Nat) : hv_V := (fun _ => (0, 0), fun _ _ => 0, fun _ _ => none, fun _ _ => 0, fun _ _ => none, n, t)
def hv_one (y n t : Nat) : hv_V := (fun a => if a = y then (5, 0) else (0, 0), fun _ _ => 0, fun _ _ => none, fun _ _ => 0, fun _ _ => none, n, t)
theorem hv_W_emp {D : va_G} {tc : Nat → ClassId} {H : Heap} : hv_W D tc (hv_emp H.size (hv_tot H)) H := by
  refine ⟨fun a => ⟨fun ci h1 _ => ?_, fun t n h1 _ => ?_, fun t n h1 => ?_⟩, fun a h => absurd rfl h, rfl, rfl⟩
  · have h1 : ((0, 0) : Nat × Nat) = (ci + 1, 0) := h1
    exact absurd (congrArg Prod.fst h1) (by show ¬ (0 = ci + 1); omega)
  · have h1 : ((0, 0) : Nat × Nat) = (100 + t, n) := h1
    exact absurd (congrArg Prod.fst h1) (by show ¬ (0 = 100 + t); omega)
  · have h1 : ((0, 0) : Nat × Nat) = (102 + t, n) := h1
    exact absurd (congrArg Prod.fst h1) (by show ¬ (0 = 102 + t); omega)
/-- a part of a view -/
theorem hv_W_res {D : va_G} {tc : Nat → ClassId} {V v : hv_V} {H : Heap} (h : hv_W D tc V H) (hk : ∀ a, (hv_k v a).1 ≠ 0 → hv_k v a = hv_k V a ∧ (∀ f, hv_i v f a = hv_i V f a) ∧ (∀ f, hv_p v f a = hv_p V f a) ∧ (∀ j, hv_a v a j = hv_a V a j) ∧ ∀ j, hv_q v a j = hv_q V a j) (hn : hv_n v = hv_n V) (ht : hv_t v = hv_t V) : hv_W D tc v H := by
  refine ⟨fun a => ?_, fun a ha => ?_, by rw [hn]; exact h.2.2.1, by rw [ht]; exact h.2.2.2⟩
  · by_cases h0 : (hv_k v a).1 = 0
    · refine ⟨fun ci h1 h2 => ?_, fun t n h1 h2 => ?_, fun t n h1 => ?_⟩
      · rw [h1] at h0
        exact absurd h0 (Nat.succ_ne_zero ci)
      · rw [h1] at h0
        exact absurd h0 (by show ¬ (100 + t = 0); omega)
      · rw [h1] at h0
        exact absurd h0 (by show ¬ (102 + t = 0); omega)
    · obtain ⟨e1, e2, e3, e4, e5⟩ := hk a h0
      exact hv_c_kept (h.1 a) rfl e1 e2 e3 e4 e5
  · rw [hn]
    exact h.2.1 a (by rw [← (hk a ha).1]; exact ha)
theorem lw_lt {j L : Nat} (hL : L ≤ 2048) (hj : j ≤ 4000) (h : ¬ nI L - 4 < nI j) : j + 4 ≤ L := by
  rcases Nat.lt_or_ge L 4 with q | q
  · have key : ∀ L, L < 4 → nI L - 4 < 0 := by decide +kernel
    exact absurd (Int32.lt_of_lt_of_le (key L q) (nI_pos' (by omega))) h
  · obtain ⟨a, rfl⟩ : ∃ a, L = a + 4 := ⟨L - 4, by omega⟩
    have e : nI (a + 4) - 4 = nI a := by
      rw [← nI_add a 4]
      show nI a + nI 4 - nI 4 = nI a
      exact Int32.add_sub_cancel _ _
    rw [e] at h
    have := (nI_leI (a := j) (b := a) (by omega) (by omega)).mp (Int32.not_lt.mp h)
    omega

set_option maxHeartbeats 4000000 in
set_option maxRecDepth 100000 in
theorem lw_loop {p : Program} {e : Env} {s : State} {m : MethodId} {below : List Frame} {meth : Method} {c : Code} (l : Launch) {D : va_G} {tc : Nat → ClassId} {b L : Nat} {xs : Nat → Int32} {x y : Nat} (hK : hv_K D tc s) (hL : L ≤ 2048) (C0 : lw_At p s m meth c b L xs) : ∀ (N9 j B : Nat) (v r : hv_V) (H : Heap) (locs : List Loc) (ls : Array Slot), j ≤ L → L < j + N9 → B ≤ 410048 + 32 * j → lw_J (s.heap.size + 35, hv_tot s.heap + 420409) x y B v r → lw_S s D tc v r H locs → lv_has ls 4 [(0, .ref b), (1, .ref x), (2, .ref y), (3, .int (nI j))] → W p l e room_1 s m #[Value.ref b] below meth c H locs (H.size - s.heap.size) (hv_tot H - hv_tot s.heap) (lw_Z below #[Value.ref b] s) (F0 m 18 ls []) := by
  obtain ⟨hx, hb, hr, hml, hown, hts0, hX, hbl, hlocks, hgv⟩ := id C0
  have hts := lw_hB hts0
  have hbA : ¬ (fun q : Nat => s.heap.size ≤ q) b := Nat.not_le.mpr hbl
  have hown : s.vm.findClass "CommitSitesLaw" = some m.cls := hown
  intro N9
  induction N9 with
  | zero =>
    intro j B v r H locs ls h1 h2
    exfalso
    omega
  | succ N9 ih =>
    intro j B v r H locs ls hj hN hB hJJ hT hl
    refine lv_iload_n hx hb dL_law_18 rfl (lv_at hl 3 rfl) ?_
    refine lv_aload_n hx hb dL_law_19 rfl (lv_at hl 0 rfl) ?_
    refine va_slen hx hb hX hbl hbA hT.2.2.2.2.1 dL_law_20 ?_
    refine lv_iconst (v := 4) hx hb dL_law_21 (by decide) ?_
    refine lv_isub hx hb dL_law_22 ?_
    refine lv_icmp_gt (tgt := 553) hx hb dL_law_23 (by decide) (fun c23 => ?_) (fun c23 => ?_)
    · skip
      refine lv_iconst (v := 1) hx hb dL_law_553 (by decide) ?_
      have hsz : hv_n _ ≤ s.heap.size + 35 + 4113 ∧ hv_t _ ≤ hv_tot s.heap + 420409 + 32920 := lw_Jsize hJJ
      have hz1 := hT.1.2.2.1
      have hz2 := hT.1.2.2.2
      refine va_forget (fun q hq => hT.2.2.2.2.1.2.2 q hq) ?_
      refine W.widen (k := 600000) (n := 7302250) (by omega) (by omega) ?_
      exact lw_ret hx hb hr hlocks dL_law_554
    · skip
      have hlt : j + 4 ≤ L := lw_lt hL (by omega) c23
      refine lv_aload_n hx hb dL_law_26 rfl (lv_at hl 0 rfl) ?_
      refine lv_iload_n hx hb dL_law_27 rfl (lv_at hl 3 rfl) ?_
      refine va_sld (i := (nI j)) hx hb hX hbl hbA hT.2.2.2.2.1 (vp_in_nI (by omega) (by omega)) dL_law_28 ?_
      refine lv_topi (fun g1 eg1 => ?_)
      refine lv_bipush (v := 31) hx hb dL_law_29 (by decide) ?_
      refine lv_iand hx hb dL_law_31 ?_
      by_cases t32_0 : (g1 &&& 31) = 0
      · skip
        refine lv_tableIn (off := 84) (tgt := 116) hx hb dL_law_32 (by rw [t32_0]; decide) (by rw [t32_0]; decide) (by rw [t32_0]; rfl) (by decide) ?_
        refine lv_aload_n hx hb dL_law_116 rfl (lv_at hl 1 rfl) ?_
        refine lv_aload_n hx hb dL_law_117 rfl (lv_at hl 0 rfl) ?_
        refine lv_iload_n hx hb dL_law_118 rfl (lv_at hl 3 rfl) ?_
        refine lv_iconst (v := 1) hx hb dL_law_119 (by decide) ?_
        refine lv_iadd hx hb dL_law_120 ?_
        refine hv_as (x := ((nI j) + 1)) (y := (nI (j + 1))) (nI_add j 1) ?_
        refine va_sld (i := (nI (j + 1))) hx hb hX hbl hbA hT.2.2.2.2.1 (vp_in_nI (by omega) (by omega)) dL_law_121 ?_
        refine lv_topi (fun g2 eg2 => ?_)
        have hsz : hv_n _ ≤ s.heap.size + 35 + 4113 ∧ hv_t _ ≤ hv_tot s.heap + 420409 + 32920 := lw_Jsize hJJ
        have hz1 := hT.1.2.2.1
        have hz2 := hT.1.2.2.2
        obtain ⟨fa, n, w, u, b1, d, ra, gh, hfa, hra, hrel, ⟨k, hI⟩, ⟨t2, nm, stt, dg, F, kd, hJ⟩⟩ := hJJ
        subst hfa
        refine lw_calli (va_runV (As := [.int g2]) (rest := []) ⟨hx, hb, hml, hown, hts⟩ (s_site l D tc hI g2) (cwV 1 hts (tw_V tw_59 tw_60 tw_61 tw_1 tw_62) rfl rfl rfl (by decide +kernel) ⟨Nat.le_of_ble_eq_true rfl, Nat.le_of_ble_eq_true rfl⟩) (hv_preV (ci := 3) hK hT.1 (cs_kX hI.1) (by decide) rfl rfl) rfl rfl hl.1 rfl (lv_room (Nat.le_of_ble_eq_true rfl)) dL_law_122 ⟨by show (H.size - s.heap.size) + 2 ≤ 600000; omega, by show (hv_tot H - hv_tot s.heap) + 18 ≤ 7302250; omega⟩) hT (fun r3 v4 H locs hp5 hT hn1 ht1 => ?_)
        have hp1 : cp_site fa n w u b1 d (s.heap.size + 35 + 2 * n, hv_tot s.heap + 420409 + 18 * n) g2 r3 v4 := by
          rcases hp5 with ⟨q1, q2, fa1, q, q3, q4, h⟩ | ⟨q1, q2, h⟩
          · exact Or.inl ⟨q1, q2, fa1, q, q3, q4, k, h⟩
          · exact Or.inr ⟨q1, q2, k, h⟩
        have hC : lw_C (s.heap.size + 35, hv_tot s.heap + 420409) (fa 0) v4 := cp_site_C (T := (s.heap.size + 35, hv_tot s.heap + 420409)) hp1
        obtain ⟨ra1, hra1, hJ⟩ : ∃ ra1 : Nat → Nat, ra1 0 = y ∧ rf_J ra1 gh n b1 B t2 nm stt dg F kd (hv_sz r H.size (hv_tot H)) := ⟨rs_up ra H.size (hv_tot H), hra, rf_sz _ _ hJ⟩
        clear hra
        subst hra1
        refine lv_pop hx hb dL_law_125 rfl ?_
        refine lv_aload_n hx hb dL_law_126 rfl (lv_at hl 2 rfl) ?_
        refine lv_aload_n hx hb dL_law_127 rfl (lv_at hl 0 rfl) ?_
        refine lv_iload_n hx hb dL_law_128 rfl (lv_at hl 3 rfl) ?_
        refine lv_iconst (v := 1) hx hb dL_law_129 (by decide) ?_
        refine lv_iadd hx hb dL_law_130 ?_
        refine hv_as (x := ((nI j) + 1)) (y := (nI (j + 1))) (nI_add j 1) ?_
        refine va_sld (i := (nI (j + 1))) hx hb hX hbl hbA hT.2.2.2.2.1 (vp_in_nI (by omega) (by omega)) dL_law_131 ?_
        refine lv_topi (fun g6 eg6 => ?_)
        obtain rfl : g2 = g6 := eg2.trans eg6.symm
        have hsz : hv_n _ ≤ s.heap.size + 35 + 4113 ∧ hv_t _ ≤ hv_tot s.heap + 420409 + 32920 := lw_Csize hC
        have hz1 := hT.1.2.2.1
        have hz2 := hT.1.2.2.2
        have ho1 := hT.2.1.2.2.1
        have ho2 := hT.2.1.2.2.2
        refine lw_calli (va_runV (As := [.int g2]) (rest := []) ⟨hx, hb, hml, hown, hts⟩ (m_site l D tc hJ g2) (cwV 1 hts (tw_V tw_347 tw_348 tw_349 tw_3 tw_350) rfl rfl rfl (by decide +kernel) ⟨Nat.le_of_ble_eq_true rfl, Nat.le_of_ble_eq_true rfl⟩) (hv_preV (ci := 4) hK hT.sw.1 (rs_k0 hJ.1) (by decide) rfl rfl) rfl rfl hl.1 rfl (lv_room (Nat.le_of_ble_eq_true rfl)) dL_law_132 ⟨by show (H.size - s.heap.size) + 0 ≤ 600000; omega, by show (hv_tot H - hv_tot s.heap) + 0 ≤ 7302250; omega⟩) hT.sw (fun r7 v8 H locs hp9 hT hn1 ht1 => ?_)
        have hp2 : mp_site ra1 gh n b1 B g2 r7 v8 := hp9
        have hrs : rs_S ra1 v8 := mp_site_S hp2
        have ev : hv_sz v4 H.size (hv_tot H) = v4 := lw_sz (by rw [hn1, hrs.1.2.1, ← hJ.1.1.2.1, ← ho1]; exact hz1) (by rw [ht1, hrs.1.2.2, ← hJ.1.1.2.2, ← ho2]; exact hz2)
        have hT := hT.sw
        rw [ev] at hT
        obtain ⟨her, hJJ⟩ := lw_site (T := (s.heap.size + 35, hv_tot s.heap + 420409)) hrel hp1 hp2
        refine lv_pop hx hb dL_law_135 rfl ?_
        refine lv_goto (tgt := 547) hx hb dL_law_136 (by decide) ?_
        refine lv_iinc (v := (nI (j + 4))) (lv' := [(3, _), (0, _), (1, _), (2, _)]) hx hb dL_law_547 hl (k := 3) rfl (nI_add j 4) (by decide) rfl (fun ls hl => ?_)
        refine lv_goto (tgt := 18) hx hb dL_law_550 (by decide) ?_
        exact ih (j + 4) _ _ _ H locs ls (by omega) (by omega) (by omega) hJJ hT (lv_sub hl [1, 2, 3, 0] rfl)
      by_cases t32_1 : (g1 &&& 31) = 1
      · skip
        refine lv_tableIn (off := 107) (tgt := 139) hx hb dL_law_32 (by rw [t32_1]; decide) (by rw [t32_1]; decide) (by rw [t32_1]; rfl) (by decide) ?_
        refine lv_aload_n hx hb dL_law_139 rfl (lv_at hl 1 rfl) ?_
        refine lv_aload_n hx hb dL_law_140 rfl (lv_at hl 0 rfl) ?_
        refine lv_iload_n hx hb dL_law_141 rfl (lv_at hl 3 rfl) ?_
        refine lv_iconst (v := 1) hx hb dL_law_142 (by decide) ?_
        refine lv_iadd hx hb dL_law_143 ?_
        refine hv_as (x := ((nI j) + 1)) (y := (nI (j + 1))) (nI_add j 1) ?_
        refine va_sld (i := (nI (j + 1))) hx hb hX hbl hbA hT.2.2.2.2.1 (vp_in_nI (by omega) (by omega)) dL_law_144 ?_
        refine lv_topi (fun g10 eg10 => ?_)
        refine lv_aload_n hx hb dL_law_145 rfl (lv_at hl 0 rfl) ?_
        refine lv_iload_n hx hb dL_law_146 rfl (lv_at hl 3 rfl) ?_
        refine lv_iconst (v := 2) hx hb dL_law_147 (by decide) ?_
        refine lv_iadd hx hb dL_law_148 ?_
        refine hv_as (x := ((nI j) + 2)) (y := (nI (j + 2))) (nI_add j 2) ?_
        refine va_sld (i := (nI (j + 2))) hx hb hX hbl hbA hT.2.2.2.2.1 (vp_in_nI (by omega) (by omega)) dL_law_149 ?_
        refine lv_topi (fun g11 eg11 => ?_)
        have hsz : hv_n _ ≤ s.heap.size + 35 + 4113 ∧ hv_t _ ≤ hv_tot s.heap + 420409 + 32920 := lw_Jsize hJJ
        have hz1 := hT.1.2.2.1
        have hz2 := hT.1.2.2.2
        obtain ⟨fa, n, w, u, b1, d, ra, gh, hfa, hra, hrel, ⟨k, hI⟩, ⟨t2, nm, stt, dg, F, kd, hJ⟩⟩ := hJJ
        subst hfa
        refine lw_calli (va_runV (As := [.int g10, .int g11]) (rest := []) ⟨hx, hb, hml, hown, hts⟩ (s_quorums l D tc hI g10 g11) (cwV 2 hts (tw_V tw_92 tw_93 tw_94 tw_1 tw_95) rfl rfl rfl (by decide +kernel) ⟨Nat.le_of_ble_eq_true rfl, Nat.le_of_ble_eq_true rfl⟩) (hv_preV (ci := 3) hK hT.1 (cs_kX hI.1) (by decide) rfl rfl) rfl rfl hl.1 rfl (lv_room (Nat.le_of_ble_eq_true rfl)) dL_law_150 ⟨by show (H.size - s.heap.size) + 0 ≤ 600000; omega, by show (hv_tot H - hv_tot s.heap) + 0 ≤ 7302250; omega⟩) hT (fun r12 v13 H locs hp14 hT hn1 ht1 => ?_)
        have hp1 : cp_quorums fa n w u b1 d (s.heap.size + 35 + 2 * n, hv_tot s.heap + 420409 + 18 * n) g10 g11 r12 v13 := hp14
        have hC : lw_C (s.heap.size + 35, hv_tot s.heap + 420409) (fa 0) v13 := cp_quorums_C (T := (s.heap.size + 35, hv_tot s.heap + 420409)) hp1
        obtain ⟨ra1, hra1, hJ⟩ : ∃ ra1 : Nat → Nat, ra1 0 = y ∧ rf_J ra1 gh n b1 B t2 nm stt dg F kd (hv_sz r H.size (hv_tot H)) := ⟨rs_up ra H.size (hv_tot H), hra, rf_sz _ _ hJ⟩
        clear hra
        subst hra1
        refine lv_pop hx hb dL_law_153 rfl ?_
        refine lv_aload_n hx hb dL_law_154 rfl (lv_at hl 2 rfl) ?_
        refine lv_aload_n hx hb dL_law_155 rfl (lv_at hl 0 rfl) ?_
        refine lv_iload_n hx hb dL_law_156 rfl (lv_at hl 3 rfl) ?_
        refine lv_iconst (v := 1) hx hb dL_law_157 (by decide) ?_
        refine lv_iadd hx hb dL_law_158 ?_
        refine hv_as (x := ((nI j) + 1)) (y := (nI (j + 1))) (nI_add j 1) ?_
        refine va_sld (i := (nI (j + 1))) hx hb hX hbl hbA hT.2.2.2.2.1 (vp_in_nI (by omega) (by omega)) dL_law_159 ?_
        refine lv_topi (fun g15 eg15 => ?_)
        obtain rfl : g10 = g15 := eg10.trans eg15.symm
        refine lv_aload_n hx hb dL_law_160 rfl (lv_at hl 0 rfl) ?_
        refine lv_iload_n hx hb dL_law_161 rfl (lv_at hl 3 rfl) ?_
        refine lv_iconst (v := 2) hx hb dL_law_162 (by decide) ?_
        refine lv_iadd hx hb dL_law_163 ?_
        refine hv_as (x := ((nI j) + 2)) (y := (nI (j + 2))) (nI_add j 2) ?_
        refine va_sld (i := (nI (j + 2))) hx hb hX hbl hbA hT.2.2.2.2.1 (vp_in_nI (by omega) (by omega)) dL_law_164 ?_
        refine lv_topi (fun g16 eg16 => ?_)
        obtain rfl : g11 = g16 := eg11.trans eg16.symm
        have hsz : hv_n _ ≤ s.heap.size + 35 + 4113 ∧ hv_t _ ≤ hv_tot s.heap + 420409 + 32920 := lw_Csize hC
        have hz1 := hT.1.2.2.1
        have hz2 := hT.1.2.2.2
        have ho1 := hT.2.1.2.2.1
        have ho2 := hT.2.1.2.2.2
        refine lw_calli (va_runV (As := [.int g10, .int g11]) (rest := []) ⟨hx, hb, hml, hown, hts⟩ (m_quorums l D tc hJ g10 g11) (cwV 2 hts (tw_V tw_354 tw_355 tw_356 tw_3 tw_357) rfl rfl rfl (by decide +kernel) ⟨Nat.le_of_ble_eq_true rfl, Nat.le_of_ble_eq_true rfl⟩) (hv_preV (ci := 4) hK hT.sw.1 (rs_k0 hJ.1) (by decide) rfl rfl) rfl rfl hl.1 rfl (lv_room (Nat.le_of_ble_eq_true rfl)) dL_law_165 ⟨by show (H.size - s.heap.size) + 0 ≤ 600000; omega, by show (hv_tot H - hv_tot s.heap) + 0 ≤ 7302250; omega⟩) hT.sw (fun r17 v18 H locs hp19 hT hn1 ht1 => ?_)
        have hp2 : mp_quorums ra1 gh n b1 B g10 g11 r17 v18 := hp19
        have hrs : rs_S ra1 v18 := mp_quorums_S hp2
        have ev : hv_sz v13 H.size (hv_tot H) = v13 := lw_sz (by rw [hn1, hrs.1.2.1, ← hJ.1.1.2.1, ← ho1]; exact hz1) (by rw [ht1, hrs.1.2.2, ← hJ.1.1.2.2, ← ho2]; exact hz2)
        have hT := hT.sw
        rw [ev] at hT
        obtain ⟨her, hJJ⟩ := lw_quorums (T := (s.heap.size + 35, hv_tot s.heap + 420409)) hrel hp1 hp2
        refine lv_pop hx hb dL_law_168 rfl ?_
        refine lv_goto (tgt := 547) hx hb dL_law_169 (by decide) ?_
        refine lv_iinc (v := (nI (j + 4))) (lv' := [(3, _), (0, _), (1, _), (2, _)]) hx hb dL_law_547 hl (k := 3) rfl (nI_add j 4) (by decide) rfl (fun ls hl => ?_)
        refine lv_goto (tgt := 18) hx hb dL_law_550 (by decide) ?_
        exact ih (j + 4) _ _ _ H locs ls (by omega) (by omega) (by omega) hJJ hT (lv_sub hl [1, 2, 3, 0] rfl)
      by_cases t32_2 : (g1 &&& 31) = 2
      · skip
        refine lv_tableIn (off := 140) (tgt := 172) hx hb dL_law_32 (by rw [t32_2]; decide) (by rw [t32_2]; decide) (by rw [t32_2]; rfl) (by decide) ?_
        refine lv_aload_n hx hb dL_law_172 rfl (lv_at hl 1 rfl) ?_
        refine lv_aload_n hx hb dL_law_173 rfl (lv_at hl 0 rfl) ?_
        refine lv_iload_n hx hb dL_law_174 rfl (lv_at hl 3 rfl) ?_
        refine lv_iconst (v := 1) hx hb dL_law_175 (by decide) ?_
        refine lv_iadd hx hb dL_law_176 ?_
        refine hv_as (x := ((nI j) + 1)) (y := (nI (j + 1))) (nI_add j 1) ?_
        refine va_sld (i := (nI (j + 1))) hx hb hX hbl hbA hT.2.2.2.2.1 (vp_in_nI (by omega) (by omega)) dL_law_177 ?_
        refine lv_topi (fun g20 eg20 => ?_)
        refine lv_aload_n hx hb dL_law_178 rfl (lv_at hl 0 rfl) ?_
        refine lv_iload_n hx hb dL_law_179 rfl (lv_at hl 3 rfl) ?_
        refine lv_iconst (v := 2) hx hb dL_law_180 (by decide) ?_
        refine lv_iadd hx hb dL_law_181 ?_
        refine hv_as (x := ((nI j) + 2)) (y := (nI (j + 2))) (nI_add j 2) ?_
        refine va_sld (i := (nI (j + 2))) hx hb hX hbl hbA hT.2.2.2.2.1 (vp_in_nI (by omega) (by omega)) dL_law_182 ?_
        refine lv_topi (fun g21 eg21 => ?_)
        refine lv_aload_n hx hb dL_law_183 rfl (lv_at hl 0 rfl) ?_
        refine lv_iload_n hx hb dL_law_184 rfl (lv_at hl 3 rfl) ?_
        refine lv_iconst (v := 3) hx hb dL_law_185 (by decide) ?_
        refine lv_iadd hx hb dL_law_186 ?_
        refine hv_as (x := ((nI j) + 3)) (y := (nI (j + 3))) (nI_add j 3) ?_
        refine va_sld (i := (nI (j + 3))) hx hb hX hbl hbA hT.2.2.2.2.1 (vp_in_nI (by omega) (by omega)) dL_law_187 ?_
        refine lv_topi (fun g22 eg22 => ?_)
        have hsz : hv_n _ ≤ s.heap.size + 35 + 4113 ∧ hv_t _ ≤ hv_tot s.heap + 420409 + 32920 := lw_Jsize hJJ
        have hz1 := hT.1.2.2.1
        have hz2 := hT.1.2.2.2
        obtain ⟨fa, n, w, u, b1, d, ra, gh, hfa, hra, hrel, ⟨k, hI⟩, ⟨t2, nm, stt, dg, F, kd, hJ⟩⟩ := hJJ
        subst hfa
        refine lw_calli (va_runV (As := [.int g20, .int g21, .int g22]) (rest := []) ⟨hx, hb, hml, hown, hts⟩ (s_link l D tc hI g20 g21 g22) (cwV 3 hts (tw_V tw_96 tw_97 tw_98 tw_1 tw_99) rfl rfl rfl (by decide +kernel) ⟨Nat.le_of_ble_eq_true rfl, Nat.le_of_ble_eq_true rfl⟩) (hv_preV (ci := 3) hK hT.1 (cs_kX hI.1) (by decide) rfl rfl) rfl rfl hl.1 rfl (lv_room (Nat.le_of_ble_eq_true rfl)) dL_law_188 ⟨by show (H.size - s.heap.size) + 0 ≤ 600000; omega, by show (hv_tot H - hv_tot s.heap) + 0 ≤ 7302250; omega⟩) hT (fun r23 v24 H locs hp25 hT hn1 ht1 => ?_)
        have hp1 : cp_link fa n w u b1 d (s.heap.size + 35 + 2 * n, hv_tot s.heap + 420409 + 18 * n) g20 g21 g22 r23 v24 := hp25
        have hC : lw_C (s.heap.size + 35, hv_tot s.heap + 420409) (fa 0) v24 := cp_link_C (T := (s.heap.size + 35, hv_tot s.heap + 420409)) hp1
        obtain ⟨ra1, hra1, hJ⟩ : ∃ ra1 : Nat → Nat, ra1 0 = y ∧ rf_J ra1 gh n b1 B t2 nm stt dg F kd (hv_sz r H.size (hv_tot H)) := ⟨rs_up ra H.size (hv_tot H), hra, rf_sz _ _ hJ⟩
        clear hra
        subst hra1
        refine lv_pop hx hb dL_law_191 rfl ?_
        refine lv_aload_n hx hb dL_law_192 rfl (lv_at hl 2 rfl) ?_
        refine lv_aload_n hx hb dL_law_193 rfl (lv_at hl 0 rfl) ?_
        refine lv_iload_n hx hb dL_law_194 rfl (lv_at hl 3 rfl) ?_
        refine lv_iconst (v := 1) hx hb dL_law_195 (by decide) ?_
        refine lv_iadd hx hb dL_law_196 ?_
        refine hv_as (x := ((nI j) + 1)) (y := (nI (j + 1))) (nI_add j 1) ?_
        refine va_sld (i := (nI (j + 1))) hx hb hX hbl hbA hT.2.2.2.2.1 (vp_in_nI (by omega) (by omega)) dL_law_197 ?_
        refine lv_topi (fun g26 eg26 => ?_)
        obtain rfl : g20 = g26 := eg20.trans eg26.symm
        refine lv_aload_n hx hb dL_law_198 rfl (lv_at hl 0 rfl) ?_
        refine lv_iload_n hx hb dL_law_199 rfl (lv_at hl 3 rfl) ?_
        refine lv_iconst (v := 2) hx hb dL_law_200 (by decide) ?_
        refine lv_iadd hx hb dL_law_201 ?_
        refine hv_as (x := ((nI j) + 2)) (y := (nI (j + 2))) (nI_add j 2) ?_
        refine va_sld (i := (nI (j + 2))) hx hb hX hbl hbA hT.2.2.2.2.1 (vp_in_nI (by omega) (by omega)) dL_law_202 ?_
        refine lv_topi (fun g27 eg27 => ?_)
        obtain rfl : g21 = g27 := eg21.trans eg27.symm
        refine lv_aload_n hx hb dL_law_203 rfl (lv_at hl 0 rfl) ?_
        refine lv_iload_n hx hb dL_law_204 rfl (lv_at hl 3 rfl) ?_
        refine lv_iconst (v := 3) hx hb dL_law_205 (by decide) ?_
        refine lv_iadd hx hb dL_law_206 ?_
        refine hv_as (x := ((nI j) + 3)) (y := (nI (j + 3))) (nI_add j 3) ?_
        refine va_sld (i := (nI (j + 3))) hx hb hX hbl hbA hT.2.2.2.2.1 (vp_in_nI (by omega) (by omega)) dL_law_207 ?_
        refine lv_topi (fun g28 eg28 => ?_)
        obtain rfl : g22 = g28 := eg22.trans eg28.symm
        have hsz : hv_n _ ≤ s.heap.size + 35 + 4113 ∧ hv_t _ ≤ hv_tot s.heap + 420409 + 32920 := lw_Csize hC
        have hz1 := hT.1.2.2.1
        have hz2 := hT.1.2.2.2
        have ho1 := hT.2.1.2.2.1
        have ho2 := hT.2.1.2.2.2
        refine lw_calli (va_runV (As := [.int g20, .int g21, .int g22]) (rest := []) ⟨hx, hb, hml, hown, hts⟩ (m_link l D tc hJ g20 g21 g22) (cwV 3 hts (tw_V tw_358 tw_359 tw_360 tw_3 tw_361) rfl rfl rfl (by decide +kernel) ⟨Nat.le_of_ble_eq_true rfl, Nat.le_of_ble_eq_true rfl⟩) (hv_preV (ci := 4) hK hT.sw.1 (rs_k0 hJ.1) (by decide) rfl rfl) rfl rfl hl.1 rfl (lv_room (Nat.le_of_ble_eq_true rfl)) dL_law_208 ⟨by show (H.size - s.heap.size) + 0 ≤ 600000; omega, by show (hv_tot H - hv_tot s.heap) + 0 ≤ 7302250; omega⟩) hT.sw (fun r29 v30 H locs hp31 hT hn1 ht1 => ?_)
        have hp2 : mp_link ra1 gh n b1 B g20 g21 g22 r29 v30 := hp31
        have hrs : rs_S ra1 v30 := mp_link_S hp2
        have ev : hv_sz v24 H.size (hv_tot H) = v24 := lw_sz (by rw [hn1, hrs.1.2.1, ← hJ.1.1.2.1, ← ho1]; exact hz1) (by rw [ht1, hrs.1.2.2, ← hJ.1.1.2.2, ← ho2]; exact hz2)
        have hT := hT.sw
        rw [ev] at hT
        obtain ⟨her, hJJ⟩ := lw_link (T := (s.heap.size + 35, hv_tot s.heap + 420409)) hrel hp1 hp2
        refine lv_pop hx hb dL_law_211 rfl ?_
        refine lv_goto (tgt := 547) hx hb dL_law_212 (by decide) ?_
        refine lv_iinc (v := (nI (j + 4))) (lv' := [(3, _), (0, _), (1, _), (2, _)]) hx hb dL_law_547 hl (k := 3) rfl (nI_add j 4) (by decide) rfl (fun ls hl => ?_)
        refine lv_goto (tgt := 18) hx hb dL_law_550 (by decide) ?_
        exact ih (j + 4) _ _ _ H locs ls (by omega) (by omega) (by omega) hJJ hT (lv_sub hl [1, 2, 3, 0] rfl)
      by_cases t32_3 : (g1 &&& 31) = 3
      · skip
        refine lv_tableIn (off := 183) (tgt := 215) hx hb dL_law_32 (by rw [t32_3]; decide) (by rw [t32_3]; decide) (by rw [t32_3]; rfl) (by decide) ?_
        refine lv_aload_n hx hb dL_law_215 rfl (lv_at hl 1 rfl) ?_
        refine lv_aload_n hx hb dL_law_216 rfl (lv_at hl 0 rfl) ?_
        refine lv_iload_n hx hb dL_law_217 rfl (lv_at hl 3 rfl) ?_
        refine lv_iconst (v := 1) hx hb dL_law_218 (by decide) ?_
        refine lv_iadd hx hb dL_law_219 ?_
        refine hv_as (x := ((nI j) + 1)) (y := (nI (j + 1))) (nI_add j 1) ?_
        refine va_sld (i := (nI (j + 1))) hx hb hX hbl hbA hT.2.2.2.2.1 (vp_in_nI (by omega) (by omega)) dL_law_220 ?_
        refine lv_topi (fun g32 eg32 => ?_)
        refine lv_aload_n hx hb dL_law_221 rfl (lv_at hl 0 rfl) ?_
        refine lv_iload_n hx hb dL_law_222 rfl (lv_at hl 3 rfl) ?_
        refine lv_iconst (v := 2) hx hb dL_law_223 (by decide) ?_
        refine lv_iadd hx hb dL_law_224 ?_
        refine hv_as (x := ((nI j) + 2)) (y := (nI (j + 2))) (nI_add j 2) ?_
        refine va_sld (i := (nI (j + 2))) hx hb hX hbl hbA hT.2.2.2.2.1 (vp_in_nI (by omega) (by omega)) dL_law_225 ?_
        refine lv_topi (fun g33 eg33 => ?_)
        have hsz : hv_n _ ≤ s.heap.size + 35 + 4113 ∧ hv_t _ ≤ hv_tot s.heap + 420409 + 32920 := lw_Jsize hJJ
        have hz1 := hT.1.2.2.1
        have hz2 := hT.1.2.2.2
        obtain ⟨fa, n, w, u, b1, d, ra, gh, hfa, hra, hrel, ⟨k, hI⟩, ⟨t2, nm, stt, dg, F, kd, hJ⟩⟩ := hJJ
        subst hfa
        refine lw_calli (va_runV (As := [.int g32, .int g33]) (rest := []) ⟨hx, hb, hml, hown, hts⟩ (s_part l D tc hI g32 g33) (cwV 2 hts (tw_V tw_106 tw_107 tw_108 tw_1 tw_109) rfl rfl rfl (by decide +kernel) ⟨Nat.le_of_ble_eq_true rfl, Nat.le_of_ble_eq_true rfl⟩) (hv_preV (ci := 3) hK hT.1 (cs_kX hI.1) (by decide) rfl rfl) rfl rfl hl.1 rfl (lv_room (Nat.le_of_ble_eq_true rfl)) dL_law_226 ⟨by show (H.size - s.heap.size) + 0 ≤ 600000; omega, by show (hv_tot H - hv_tot s.heap) + 0 ≤ 7302250; omega⟩) hT (fun r34 v35 H locs hp36 hT hn1 ht1 => ?_)
        have hp1 : cp_part fa n w u b1 d (s.heap.size + 35 + 2 * n, hv_tot s.heap + 420409 + 18 * n) g32 g33 r34 v35 := hp36
        have hC : lw_C (s.heap.size + 35, hv_tot s.heap + 420409) (fa 0) v35 := cp_part_C (T := (s.heap.size + 35, hv_tot s.heap + 420409)) hp1
        obtain ⟨ra1, hra1, hJ⟩ : ∃ ra1 : Nat → Nat, ra1 0 = y ∧ rf_J ra1 gh n b1 B t2 nm stt dg F kd (hv_sz r H.size (hv_tot H)) := ⟨rs_up ra H.size (hv_tot H), hra, rf_sz _ _ hJ⟩
        clear hra
        subst hra1
        refine lv_pop hx hb dL_law_229 rfl ?_
        refine lv_aload_n hx hb dL_law_230 rfl (lv_at hl 2 rfl) ?_
        refine lv_aload_n hx hb dL_law_231 rfl (lv_at hl 0 rfl) ?_
        refine lv_iload_n hx hb dL_law_232 rfl (lv_at hl 3 rfl) ?_
        refine lv_iconst (v := 1) hx hb dL_law_233 (by decide) ?_
        refine lv_iadd hx hb dL_law_234 ?_
        refine hv_as (x := ((nI j) + 1)) (y := (nI (j + 1))) (nI_add j 1) ?_
        refine va_sld (i := (nI (j + 1))) hx hb hX hbl hbA hT.2.2.2.2.1 (vp_in_nI (by omega) (by omega)) dL_law_235 ?_
        refine lv_topi (fun g37 eg37 => ?_)
        obtain rfl : g32 = g37 := eg32.trans eg37.symm
        refine lv_aload_n hx hb dL_law_236 rfl (lv_at hl 0 rfl) ?_
        refine lv_iload_n hx hb dL_law_237 rfl (lv_at hl 3 rfl) ?_
        refine lv_iconst (v := 2) hx hb dL_law_238 (by decide) ?_
        refine lv_iadd hx hb dL_law_239 ?_
        refine hv_as (x := ((nI j) + 2)) (y := (nI (j + 2))) (nI_add j 2) ?_
        refine va_sld (i := (nI (j + 2))) hx hb hX hbl hbA hT.2.2.2.2.1 (vp_in_nI (by omega) (by omega)) dL_law_240 ?_
        refine lv_topi (fun g38 eg38 => ?_)
        obtain rfl : g33 = g38 := eg33.trans eg38.symm
        have hsz : hv_n _ ≤ s.heap.size + 35 + 4113 ∧ hv_t _ ≤ hv_tot s.heap + 420409 + 32920 := lw_Csize hC
        have hz1 := hT.1.2.2.1
        have hz2 := hT.1.2.2.2
        have ho1 := hT.2.1.2.2.1
        have ho2 := hT.2.1.2.2.2
        refine lw_calli (va_runV (As := [.int g32, .int g33]) (rest := []) ⟨hx, hb, hml, hown, hts⟩ (m_part l D tc hJ g32 g33) (cwV 2 hts (tw_V tw_365 tw_366 tw_367 tw_3 tw_368) rfl rfl rfl (by decide +kernel) ⟨Nat.le_of_ble_eq_true rfl, Nat.le_of_ble_eq_true rfl⟩) (hv_preV (ci := 4) hK hT.sw.1 (rs_k0 hJ.1) (by decide) rfl rfl) rfl rfl hl.1 rfl (lv_room (Nat.le_of_ble_eq_true rfl)) dL_law_241 ⟨by show (H.size - s.heap.size) + 0 ≤ 600000; omega, by show (hv_tot H - hv_tot s.heap) + 0 ≤ 7302250; omega⟩) hT.sw (fun r39 v40 H locs hp41 hT hn1 ht1 => ?_)
        have hp2 : mp_part ra1 gh n b1 B g32 g33 r39 v40 := hp41
        have hrs : rs_S ra1 v40 := mp_part_S hp2
        have ev : hv_sz v35 H.size (hv_tot H) = v35 := lw_sz (by rw [hn1, hrs.1.2.1, ← hJ.1.1.2.1, ← ho1]; exact hz1) (by rw [ht1, hrs.1.2.2, ← hJ.1.1.2.2, ← ho2]; exact hz2)
        have hT := hT.sw
        rw [ev] at hT
        obtain ⟨her, hJJ⟩ := lw_part (T := (s.heap.size + 35, hv_tot s.heap + 420409)) hrel hp1 hp2
        refine lv_pop hx hb dL_law_244 rfl ?_
        refine lv_goto (tgt := 547) hx hb dL_law_245 (by decide) ?_
        refine lv_iinc (v := (nI (j + 4))) (lv' := [(3, _), (0, _), (1, _), (2, _)]) hx hb dL_law_547 hl (k := 3) rfl (nI_add j 4) (by decide) rfl (fun ls hl => ?_)
        refine lv_goto (tgt := 18) hx hb dL_law_550 (by decide) ?_
        exact ih (j + 4) _ _ _ H locs ls (by omega) (by omega) (by omega) hJJ hT (lv_sub hl [1, 2, 3, 0] rfl)
      by_cases t32_4 : (g1 &&& 31) = 4
      · skip
        refine lv_tableIn (off := 216) (tgt := 248) hx hb dL_law_32 (by rw [t32_4]; decide) (by rw [t32_4]; decide) (by rw [t32_4]; rfl) (by decide) ?_
        refine lv_aload_n hx hb dL_law_248 rfl (lv_at hl 1 rfl) ?_
        refine lv_aload_n hx hb dL_law_249 rfl (lv_at hl 0 rfl) ?_
        refine lv_iload_n hx hb dL_law_250 rfl (lv_at hl 3 rfl) ?_
        refine lv_iconst (v := 1) hx hb dL_law_251 (by decide) ?_
        refine lv_iadd hx hb dL_law_252 ?_
        refine hv_as (x := ((nI j) + 1)) (y := (nI (j + 1))) (nI_add j 1) ?_
        refine va_sld (i := (nI (j + 1))) hx hb hX hbl hbA hT.2.2.2.2.1 (vp_in_nI (by omega) (by omega)) dL_law_253 ?_
        refine lv_topi (fun g42 eg42 => ?_)
        have hsz : hv_n _ ≤ s.heap.size + 35 + 4113 ∧ hv_t _ ≤ hv_tot s.heap + 420409 + 32920 := lw_Jsize hJJ
        have hz1 := hT.1.2.2.1
        have hz2 := hT.1.2.2.2
        obtain ⟨fa, n, w, u, b1, d, ra, gh, hfa, hra, hrel, ⟨k, hI⟩, ⟨t2, nm, stt, dg, F, kd, hJ⟩⟩ := hJJ
        subst hfa
        refine lw_calli (va_runV (As := [.int g42]) (rest := []) ⟨hx, hb, hml, hown, hts⟩ (s_patience l D tc hI g42) (cwV 1 hts (tw_V tw_113 tw_114 tw_115 tw_1 tw_116) rfl rfl rfl (by decide +kernel) ⟨Nat.le_of_ble_eq_true rfl, Nat.le_of_ble_eq_true rfl⟩) (hv_preV (ci := 3) hK hT.1 (cs_kX hI.1) (by decide) rfl rfl) rfl rfl hl.1 rfl (lv_room (Nat.le_of_ble_eq_true rfl)) dL_law_254 ⟨by show (H.size - s.heap.size) + 0 ≤ 600000; omega, by show (hv_tot H - hv_tot s.heap) + 0 ≤ 7302250; omega⟩) hT (fun r43 v44 H locs hp45 hT hn1 ht1 => ?_)
        have hp1 : cp_patience fa n w u b1 d (s.heap.size + 35 + 2 * n, hv_tot s.heap + 420409 + 18 * n) g42 r43 v44 := hp45
        have hC : lw_C (s.heap.size + 35, hv_tot s.heap + 420409) (fa 0) v44 := cp_patience_C (T := (s.heap.size + 35, hv_tot s.heap + 420409)) hp1
        obtain ⟨ra1, hra1, hJ⟩ : ∃ ra1 : Nat → Nat, ra1 0 = y ∧ rf_J ra1 gh n b1 B t2 nm stt dg F kd (hv_sz r H.size (hv_tot H)) := ⟨rs_up ra H.size (hv_tot H), hra, rf_sz _ _ hJ⟩
        clear hra
        subst hra1
        refine lv_pop hx hb dL_law_257 rfl ?_
        refine lv_aload_n hx hb dL_law_258 rfl (lv_at hl 2 rfl) ?_
        refine lv_aload_n hx hb dL_law_259 rfl (lv_at hl 0 rfl) ?_
        refine lv_iload_n hx hb dL_law_260 rfl (lv_at hl 3 rfl) ?_
        refine lv_iconst (v := 1) hx hb dL_law_261 (by decide) ?_
        refine lv_iadd hx hb dL_law_262 ?_
        refine hv_as (x := ((nI j) + 1)) (y := (nI (j + 1))) (nI_add j 1) ?_
        refine va_sld (i := (nI (j + 1))) hx hb hX hbl hbA hT.2.2.2.2.1 (vp_in_nI (by omega) (by omega)) dL_law_263 ?_
        refine lv_topi (fun g46 eg46 => ?_)
        obtain rfl : g42 = g46 := eg42.trans eg46.symm
        have hsz : hv_n _ ≤ s.heap.size + 35 + 4113 ∧ hv_t _ ≤ hv_tot s.heap + 420409 + 32920 := lw_Csize hC
        have hz1 := hT.1.2.2.1
        have hz2 := hT.1.2.2.2
        have ho1 := hT.2.1.2.2.1
        have ho2 := hT.2.1.2.2.2
        refine lw_calli (va_runV (As := [.int g42]) (rest := []) ⟨hx, hb, hml, hown, hts⟩ (m_patience l D tc hJ g42) (cwV 1 hts (tw_V tw_369 tw_370 tw_371 tw_3 tw_372) rfl rfl rfl (by decide +kernel) ⟨Nat.le_of_ble_eq_true rfl, Nat.le_of_ble_eq_true rfl⟩) (hv_preV (ci := 4) hK hT.sw.1 (rs_k0 hJ.1) (by decide) rfl rfl) rfl rfl hl.1 rfl (lv_room (Nat.le_of_ble_eq_true rfl)) dL_law_264 ⟨by show (H.size - s.heap.size) + 0 ≤ 600000; omega, by show (hv_tot H - hv_tot s.heap) + 0 ≤ 7302250; omega⟩) hT.sw (fun r47 v48 H locs hp49 hT hn1 ht1 => ?_)
        have hp2 : mp_patience ra1 gh n b1 B g42 r47 v48 := hp49
        have hrs : rs_S ra1 v48 := mp_patience_S hp2
        have ev : hv_sz v44 H.size (hv_tot H) = v44 := lw_sz (by rw [hn1, hrs.1.2.1, ← hJ.1.1.2.1, ← ho1]; exact hz1) (by rw [ht1, hrs.1.2.2, ← hJ.1.1.2.2, ← ho2]; exact hz2)
        have hT := hT.sw
        rw [ev] at hT
        obtain ⟨her, hJJ⟩ := lw_patience (T := (s.heap.size + 35, hv_tot s.heap + 420409)) hrel hp1 hp2
        refine lv_pop hx hb dL_law_267 rfl ?_
        refine lv_goto (tgt := 547) hx hb dL_law_268 (by decide) ?_
        refine lv_iinc (v := (nI (j + 4))) (lv' := [(3, _), (0, _), (1, _), (2, _)]) hx hb dL_law_547 hl (k := 3) rfl (nI_add j 4) (by decide) rfl (fun ls hl => ?_)
        refine lv_goto (tgt := 18) hx hb dL_law_550 (by decide) ?_
        exact ih (j + 4) _ _ _ H locs ls (by omega) (by omega) (by omega) hJJ hT (lv_sub hl [1, 2, 3, 0] rfl)
      by_cases t32_5 : (g1 &&& 31) = 5
      · skip
        refine lv_tableIn (off := 239) (tgt := 271) hx hb dL_law_32 (by rw [t32_5]; decide) (by rw [t32_5]; decide) (by rw [t32_5]; rfl) (by decide) ?_
        refine lv_aload_n hx hb dL_law_271 rfl (lv_at hl 1 rfl) ?_
        refine lv_aload_n hx hb dL_law_272 rfl (lv_at hl 0 rfl) ?_
        refine lv_iload_n hx hb dL_law_273 rfl (lv_at hl 3 rfl) ?_
        refine lv_iconst (v := 1) hx hb dL_law_274 (by decide) ?_
        refine lv_iadd hx hb dL_law_275 ?_
        refine hv_as (x := ((nI j) + 1)) (y := (nI (j + 1))) (nI_add j 1) ?_
        refine va_sld (i := (nI (j + 1))) hx hb hX hbl hbA hT.2.2.2.2.1 (vp_in_nI (by omega) (by omega)) dL_law_276 ?_
        refine lv_topi (fun g50 eg50 => ?_)
        refine lv_aload_n hx hb dL_law_277 rfl (lv_at hl 0 rfl) ?_
        refine lv_iload_n hx hb dL_law_278 rfl (lv_at hl 3 rfl) ?_
        refine lv_iconst (v := 2) hx hb dL_law_279 (by decide) ?_
        refine lv_iadd hx hb dL_law_280 ?_
        refine hv_as (x := ((nI j) + 2)) (y := (nI (j + 2))) (nI_add j 2) ?_
        refine va_sld (i := (nI (j + 2))) hx hb hX hbl hbA hT.2.2.2.2.1 (vp_in_nI (by omega) (by omega)) dL_law_281 ?_
        refine lv_topi (fun g51 eg51 => ?_)
        have hsz : hv_n _ ≤ s.heap.size + 35 + 4113 ∧ hv_t _ ≤ hv_tot s.heap + 420409 + 32920 := lw_Jsize hJJ
        have hz1 := hT.1.2.2.1
        have hz2 := hT.1.2.2.2
        obtain ⟨fa, n, w, u, b1, d, ra, gh, hfa, hra, hrel, ⟨k, hI⟩, ⟨t2, nm, stt, dg, F, kd, hJ⟩⟩ := hJJ
        subst hfa
        refine lw_calli (va_runV (As := [.int g50, .int g51]) (rest := []) ⟨hx, hb, hml, hown, hts⟩ (s_begin l D tc hI g50 g51) (cwV 2 hts (tw_V tw_117 tw_118 tw_119 tw_1 tw_120) rfl rfl rfl (by decide +kernel) ⟨Nat.le_of_ble_eq_true rfl, Nat.le_of_ble_eq_true rfl⟩) (hv_preV (ci := 3) hK hT.1 (cs_kX hI.1) (by decide) rfl rfl) rfl rfl hl.1 rfl (lv_room (Nat.le_of_ble_eq_true rfl)) dL_law_282 ⟨by show (H.size - s.heap.size) + 24 ≤ 600000; omega, by show (hv_tot H - hv_tot s.heap) + 192 ≤ 7302250; omega⟩) hT (fun r52 v53 H locs hp54 hT hn1 ht1 => ?_)
        have hp1 : cp_begin fa n w u b1 d (s.heap.size + 35 + 2 * n, hv_tot s.heap + 420409 + 18 * n) g50 g51 r52 v53 := hp54
        have hC : lw_C (s.heap.size + 35, hv_tot s.heap + 420409) (fa 0) v53 := cp_begin_C (T := (s.heap.size + 35, hv_tot s.heap + 420409)) hp1
        obtain ⟨ra1, hra1, hJ⟩ : ∃ ra1 : Nat → Nat, ra1 0 = y ∧ rf_J ra1 gh n b1 B t2 nm stt dg F kd (hv_sz r H.size (hv_tot H)) := ⟨rs_up ra H.size (hv_tot H), hra, rf_sz _ _ hJ⟩
        clear hra
        subst hra1
        refine lv_pop hx hb dL_law_285 rfl ?_
        refine lv_aload_n hx hb dL_law_286 rfl (lv_at hl 2 rfl) ?_
        refine lv_aload_n hx hb dL_law_287 rfl (lv_at hl 0 rfl) ?_
        refine lv_iload_n hx hb dL_law_288 rfl (lv_at hl 3 rfl) ?_
        refine lv_iconst (v := 1) hx hb dL_law_289 (by decide) ?_
        refine lv_iadd hx hb dL_law_290 ?_
        refine hv_as (x := ((nI j) + 1)) (y := (nI (j + 1))) (nI_add j 1) ?_
        refine va_sld (i := (nI (j + 1))) hx hb hX hbl hbA hT.2.2.2.2.1 (vp_in_nI (by omega) (by omega)) dL_law_291 ?_
        refine lv_topi (fun g55 eg55 => ?_)
        obtain rfl : g50 = g55 := eg50.trans eg55.symm
        refine lv_aload_n hx hb dL_law_292 rfl (lv_at hl 0 rfl) ?_
        refine lv_iload_n hx hb dL_law_293 rfl (lv_at hl 3 rfl) ?_
        refine lv_iconst (v := 2) hx hb dL_law_294 (by decide) ?_
        refine lv_iadd hx hb dL_law_295 ?_
        refine hv_as (x := ((nI j) + 2)) (y := (nI (j + 2))) (nI_add j 2) ?_
        refine va_sld (i := (nI (j + 2))) hx hb hX hbl hbA hT.2.2.2.2.1 (vp_in_nI (by omega) (by omega)) dL_law_296 ?_
        refine lv_topi (fun g56 eg56 => ?_)
        obtain rfl : g51 = g56 := eg51.trans eg56.symm
        have hsz : hv_n _ ≤ s.heap.size + 35 + 4113 ∧ hv_t _ ≤ hv_tot s.heap + 420409 + 32920 := lw_Csize hC
        have hz1 := hT.1.2.2.1
        have hz2 := hT.1.2.2.2
        have ho1 := hT.2.1.2.2.1
        have ho2 := hT.2.1.2.2.2
        refine lw_calli (va_runV (As := [.int g50, .int g51]) (rest := []) ⟨hx, hb, hml, hown, hts⟩ (m_begin l D tc hJ (by omega) g50 g51) (cwV 2 hts (tw_V tw_373 tw_374 tw_375 tw_3 tw_376) rfl rfl rfl (by decide +kernel) ⟨Nat.le_of_ble_eq_true rfl, Nat.le_of_ble_eq_true rfl⟩) (hv_preV (ci := 4) hK hT.sw.1 (rs_k0 hJ.1) (by decide) rfl rfl) rfl rfl hl.1 rfl (lv_room (Nat.le_of_ble_eq_true rfl)) dL_law_297 ⟨by show (H.size - s.heap.size) + 0 ≤ 600000; omega, by show (hv_tot H - hv_tot s.heap) + 0 ≤ 7302250; omega⟩) hT.sw (fun r57 v58 H locs hp59 hT hn1 ht1 => ?_)
        have hp2 : mp_begin ra1 gh n b1 B g50 g51 r57 v58 := hp59
        have hrs : rs_S ra1 v58 := mp_begin_S hp2
        have ev : hv_sz v53 H.size (hv_tot H) = v53 := lw_sz (by rw [hn1, hrs.1.2.1, ← hJ.1.1.2.1, ← ho1]; exact hz1) (by rw [ht1, hrs.1.2.2, ← hJ.1.1.2.2, ← ho2]; exact hz2)
        have hT := hT.sw
        rw [ev] at hT
        obtain ⟨her, hJJ⟩ := lw_begin (T := (s.heap.size + 35, hv_tot s.heap + 420409)) hrel hp1 hp2
        refine lv_pop hx hb dL_law_300 rfl ?_
        refine lv_goto (tgt := 547) hx hb dL_law_301 (by decide) ?_
        refine lv_iinc (v := (nI (j + 4))) (lv' := [(3, _), (0, _), (1, _), (2, _)]) hx hb dL_law_547 hl (k := 3) rfl (nI_add j 4) (by decide) rfl (fun ls hl => ?_)
        refine lv_goto (tgt := 18) hx hb dL_law_550 (by decide) ?_
        exact ih (j + 4) _ _ _ H locs ls (by omega) (by omega) (by omega) hJJ hT (lv_sub hl [1, 2, 3, 0] rfl)
      by_cases t32_6 : (g1 &&& 31) = 6
      · skip
        refine lv_tableIn (off := 272) (tgt := 304) hx hb dL_law_32 (by rw [t32_6]; decide) (by rw [t32_6]; decide) (by rw [t32_6]; rfl) (by decide) ?_
        refine lv_aload_n hx hb dL_law_304 rfl (lv_at hl 1 rfl) ?_
        refine lv_aload_n hx hb dL_law_305 rfl (lv_at hl 0 rfl) ?_
        refine lv_iload_n hx hb dL_law_306 rfl (lv_at hl 3 rfl) ?_
        refine lv_iconst (v := 1) hx hb dL_law_307 (by decide) ?_
        refine lv_iadd hx hb dL_law_308 ?_
        refine hv_as (x := ((nI j) + 1)) (y := (nI (j + 1))) (nI_add j 1) ?_
        refine va_sld (i := (nI (j + 1))) hx hb hX hbl hbA hT.2.2.2.2.1 (vp_in_nI (by omega) (by omega)) dL_law_309 ?_
        refine lv_topi (fun g60 eg60 => ?_)
        have hsz : hv_n _ ≤ s.heap.size + 35 + 4113 ∧ hv_t _ ≤ hv_tot s.heap + 420409 + 32920 := lw_Jsize hJJ
        have hz1 := hT.1.2.2.1
        have hz2 := hT.1.2.2.2
        obtain ⟨fa, n, w, u, b1, d, ra, gh, hfa, hra, hrel, ⟨k, hI⟩, ⟨t2, nm, stt, dg, F, kd, hJ⟩⟩ := hJJ
        subst hfa
        refine lw_calli (va_runV (As := [.int g60]) (rest := []) ⟨hx, hb, hml, hown, hts⟩ (s_crash l D tc hI g60) (cwV 1 hts (tw_V tw_186 tw_187 tw_188 tw_1 tw_189) rfl rfl rfl (by decide +kernel) ⟨Nat.le_of_ble_eq_true rfl, Nat.le_of_ble_eq_true rfl⟩) (hv_preV (ci := 3) hK hT.1 (cs_kX hI.1) (by decide) rfl rfl) rfl rfl hl.1 rfl (lv_room (Nat.le_of_ble_eq_true rfl)) dL_law_310 ⟨by show (H.size - s.heap.size) + 0 ≤ 600000; omega, by show (hv_tot H - hv_tot s.heap) + 0 ≤ 7302250; omega⟩) hT (fun r61 v62 H locs hp63 hT hn1 ht1 => ?_)
        have hp1 : cp_crash fa n w u b1 d (s.heap.size + 35 + 2 * n, hv_tot s.heap + 420409 + 18 * n) g60 r61 v62 := hp63
        have hC : lw_C (s.heap.size + 35, hv_tot s.heap + 420409) (fa 0) v62 := cp_crash_C (T := (s.heap.size + 35, hv_tot s.heap + 420409)) hp1
        obtain ⟨ra1, hra1, hJ⟩ : ∃ ra1 : Nat → Nat, ra1 0 = y ∧ rf_J ra1 gh n b1 B t2 nm stt dg F kd (hv_sz r H.size (hv_tot H)) := ⟨rs_up ra H.size (hv_tot H), hra, rf_sz _ _ hJ⟩
        clear hra
        subst hra1
        refine lv_pop hx hb dL_law_313 rfl ?_
        refine lv_aload_n hx hb dL_law_314 rfl (lv_at hl 2 rfl) ?_
        refine lv_aload_n hx hb dL_law_315 rfl (lv_at hl 0 rfl) ?_
        refine lv_iload_n hx hb dL_law_316 rfl (lv_at hl 3 rfl) ?_
        refine lv_iconst (v := 1) hx hb dL_law_317 (by decide) ?_
        refine lv_iadd hx hb dL_law_318 ?_
        refine hv_as (x := ((nI j) + 1)) (y := (nI (j + 1))) (nI_add j 1) ?_
        refine va_sld (i := (nI (j + 1))) hx hb hX hbl hbA hT.2.2.2.2.1 (vp_in_nI (by omega) (by omega)) dL_law_319 ?_
        refine lv_topi (fun g64 eg64 => ?_)
        obtain rfl : g60 = g64 := eg60.trans eg64.symm
        have hsz : hv_n _ ≤ s.heap.size + 35 + 4113 ∧ hv_t _ ≤ hv_tot s.heap + 420409 + 32920 := lw_Csize hC
        have hz1 := hT.1.2.2.1
        have hz2 := hT.1.2.2.2
        have ho1 := hT.2.1.2.2.1
        have ho2 := hT.2.1.2.2.2
        refine lw_calli (va_runV (As := [.int g60]) (rest := []) ⟨hx, hb, hml, hown, hts⟩ (m_crash l D tc hJ g60) (cwV 1 hts (tw_V tw_407 tw_408 tw_409 tw_3 tw_410) rfl rfl rfl (by decide +kernel) ⟨Nat.le_of_ble_eq_true rfl, Nat.le_of_ble_eq_true rfl⟩) (hv_preV (ci := 4) hK hT.sw.1 (rs_k0 hJ.1) (by decide) rfl rfl) rfl rfl hl.1 rfl (lv_room (Nat.le_of_ble_eq_true rfl)) dL_law_320 ⟨by show (H.size - s.heap.size) + 0 ≤ 600000; omega, by show (hv_tot H - hv_tot s.heap) + 0 ≤ 7302250; omega⟩) hT.sw (fun r65 v66 H locs hp67 hT hn1 ht1 => ?_)
        have hp2 : mp_crash ra1 gh n b1 B g60 r65 v66 := hp67
        have hrs : rs_S ra1 v66 := mp_crash_S hp2
        have ev : hv_sz v62 H.size (hv_tot H) = v62 := lw_sz (by rw [hn1, hrs.1.2.1, ← hJ.1.1.2.1, ← ho1]; exact hz1) (by rw [ht1, hrs.1.2.2, ← hJ.1.1.2.2, ← ho2]; exact hz2)
        have hT := hT.sw
        rw [ev] at hT
        obtain ⟨her, hJJ⟩ := lw_crash (T := (s.heap.size + 35, hv_tot s.heap + 420409)) hrel hp1 hp2
        refine lv_pop hx hb dL_law_323 rfl ?_
        refine lv_goto (tgt := 547) hx hb dL_law_324 (by decide) ?_
        refine lv_iinc (v := (nI (j + 4))) (lv' := [(3, _), (0, _), (1, _), (2, _)]) hx hb dL_law_547 hl (k := 3) rfl (nI_add j 4) (by decide) rfl (fun ls hl => ?_)
        refine lv_goto (tgt := 18) hx hb dL_law_550 (by decide) ?_
        exact ih (j + 4) _ _ _ H locs ls (by omega) (by omega) (by omega) hJJ hT (lv_sub hl [1, 2, 3, 0] rfl)
      by_cases t32_7 : (g1 &&& 31) = 7
      · skip
        refine lv_tableIn (off := 295) (tgt := 327) hx hb dL_law_32 (by rw [t32_7]; decide) (by rw [t32_7]; decide) (by rw [t32_7]; rfl) (by decide) ?_
        refine lv_aload_n hx hb dL_law_327 rfl (lv_at hl 1 rfl) ?_
        refine lv_aload_n hx hb dL_law_328 rfl (lv_at hl 0 rfl) ?_
        refine lv_iload_n hx hb dL_law_329 rfl (lv_at hl 3 rfl) ?_
        refine lv_iconst (v := 1) hx hb dL_law_330 (by decide) ?_
        refine lv_iadd hx hb dL_law_331 ?_
        refine hv_as (x := ((nI j) + 1)) (y := (nI (j + 1))) (nI_add j 1) ?_
        refine va_sld (i := (nI (j + 1))) hx hb hX hbl hbA hT.2.2.2.2.1 (vp_in_nI (by omega) (by omega)) dL_law_332 ?_
        refine lv_topi (fun g68 eg68 => ?_)
        have hsz : hv_n _ ≤ s.heap.size + 35 + 4113 ∧ hv_t _ ≤ hv_tot s.heap + 420409 + 32920 := lw_Jsize hJJ
        have hz1 := hT.1.2.2.1
        have hz2 := hT.1.2.2.2
        obtain ⟨fa, n, w, u, b1, d, ra, gh, hfa, hra, hrel, ⟨k, hI⟩, ⟨t2, nm, stt, dg, F, kd, hJ⟩⟩ := hJJ
        subst hfa
        refine lw_calli (va_runV (As := [.int g68]) (rest := []) ⟨hx, hb, hml, hown, hts⟩ (s_recover l D tc hI g68) (cwV 1 hts (tw_V tw_190 tw_191 tw_192 tw_1 tw_193) rfl rfl rfl (by decide +kernel) ⟨Nat.le_of_ble_eq_true rfl, Nat.le_of_ble_eq_true rfl⟩) (hv_preV (ci := 3) hK hT.1 (cs_kX hI.1) (by decide) rfl rfl) rfl rfl hl.1 rfl (lv_room (Nat.le_of_ble_eq_true rfl)) dL_law_333 ⟨by show (H.size - s.heap.size) + 8 ≤ 600000; omega, by show (hv_tot H - hv_tot s.heap) + 64 ≤ 7302250; omega⟩) hT (fun r69 v70 H locs hp71 hT hn1 ht1 => ?_)
        have hp1 : cp_recover fa n w u b1 d (s.heap.size + 35 + 2 * n, hv_tot s.heap + 420409 + 18 * n) g68 r69 v70 := hp71
        have hC : lw_C (s.heap.size + 35, hv_tot s.heap + 420409) (fa 0) v70 := cp_recover_C (T := (s.heap.size + 35, hv_tot s.heap + 420409)) hp1
        obtain ⟨ra1, hra1, hJ⟩ : ∃ ra1 : Nat → Nat, ra1 0 = y ∧ rf_J ra1 gh n b1 B t2 nm stt dg F kd (hv_sz r H.size (hv_tot H)) := ⟨rs_up ra H.size (hv_tot H), hra, rf_sz _ _ hJ⟩
        clear hra
        subst hra1
        refine lv_pop hx hb dL_law_336 rfl ?_
        refine lv_aload_n hx hb dL_law_337 rfl (lv_at hl 2 rfl) ?_
        refine lv_aload_n hx hb dL_law_338 rfl (lv_at hl 0 rfl) ?_
        refine lv_iload_n hx hb dL_law_339 rfl (lv_at hl 3 rfl) ?_
        refine lv_iconst (v := 1) hx hb dL_law_340 (by decide) ?_
        refine lv_iadd hx hb dL_law_341 ?_
        refine hv_as (x := ((nI j) + 1)) (y := (nI (j + 1))) (nI_add j 1) ?_
        refine va_sld (i := (nI (j + 1))) hx hb hX hbl hbA hT.2.2.2.2.1 (vp_in_nI (by omega) (by omega)) dL_law_342 ?_
        refine lv_topi (fun g72 eg72 => ?_)
        obtain rfl : g68 = g72 := eg68.trans eg72.symm
        have hsz : hv_n _ ≤ s.heap.size + 35 + 4113 ∧ hv_t _ ≤ hv_tot s.heap + 420409 + 32920 := lw_Csize hC
        have hz1 := hT.1.2.2.1
        have hz2 := hT.1.2.2.2
        have ho1 := hT.2.1.2.2.1
        have ho2 := hT.2.1.2.2.2
        refine lw_calli (va_runV (As := [.int g68]) (rest := []) ⟨hx, hb, hml, hown, hts⟩ (m_recover l D tc hJ (by omega) g68) (cwV 1 hts (tw_V tw_411 tw_412 tw_413 tw_3 tw_414) rfl rfl rfl (by decide +kernel) ⟨Nat.le_of_ble_eq_true rfl, Nat.le_of_ble_eq_true rfl⟩) (hv_preV (ci := 4) hK hT.sw.1 (rs_k0 hJ.1) (by decide) rfl rfl) rfl rfl hl.1 rfl (lv_room (Nat.le_of_ble_eq_true rfl)) dL_law_343 ⟨by show (H.size - s.heap.size) + 0 ≤ 600000; omega, by show (hv_tot H - hv_tot s.heap) + 0 ≤ 7302250; omega⟩) hT.sw (fun r73 v74 H locs hp75 hT hn1 ht1 => ?_)
        have hp2 : mp_recover ra1 gh n b1 B g68 r73 v74 := hp75
        have hrs : rs_S ra1 v74 := mp_recover_S hp2
        have ev : hv_sz v70 H.size (hv_tot H) = v70 := lw_sz (by rw [hn1, hrs.1.2.1, ← hJ.1.1.2.1, ← ho1]; exact hz1) (by rw [ht1, hrs.1.2.2, ← hJ.1.1.2.2, ← ho2]; exact hz2)
        have hT := hT.sw
        rw [ev] at hT
        obtain ⟨her, hJJ⟩ := lw_recover (T := (s.heap.size + 35, hv_tot s.heap + 420409)) hrel hp1 hp2
        refine lv_pop hx hb dL_law_346 rfl ?_
        refine lv_goto (tgt := 547) hx hb dL_law_347 (by decide) ?_
        refine lv_iinc (v := (nI (j + 4))) (lv' := [(3, _), (0, _), (1, _), (2, _)]) hx hb dL_law_547 hl (k := 3) rfl (nI_add j 4) (by decide) rfl (fun ls hl => ?_)
        refine lv_goto (tgt := 18) hx hb dL_law_550 (by decide) ?_
        exact ih (j + 4) _ _ _ H locs ls (by omega) (by omega) (by omega) hJJ hT (lv_sub hl [1, 2, 3, 0] rfl)
      by_cases t32_8 : (g1 &&& 31) = 8
      · skip
        refine lv_tableIn (off := 318) (tgt := 350) hx hb dL_law_32 (by rw [t32_8]; decide) (by rw [t32_8]; decide) (by rw [t32_8]; rfl) (by decide) ?_
        refine lv_aload_n hx hb dL_law_350 rfl (lv_at hl 1 rfl) ?_
        refine lv_aload_n hx hb dL_law_351 rfl (lv_at hl 0 rfl) ?_
        refine lv_iload_n hx hb dL_law_352 rfl (lv_at hl 3 rfl) ?_
        refine lv_iconst (v := 1) hx hb dL_law_353 (by decide) ?_
        refine lv_iadd hx hb dL_law_354 ?_
        refine hv_as (x := ((nI j) + 1)) (y := (nI (j + 1))) (nI_add j 1) ?_
        refine va_sld (i := (nI (j + 1))) hx hb hX hbl hbA hT.2.2.2.2.1 (vp_in_nI (by omega) (by omega)) dL_law_355 ?_
        refine lv_topi (fun g76 eg76 => ?_)
        have hsz : hv_n _ ≤ s.heap.size + 35 + 4113 ∧ hv_t _ ≤ hv_tot s.heap + 420409 + 32920 := lw_Jsize hJJ
        have hz1 := hT.1.2.2.1
        have hz2 := hT.1.2.2.2
        obtain ⟨fa, n, w, u, b1, d, ra, gh, hfa, hra, hrel, ⟨k, hI⟩, ⟨t2, nm, stt, dg, F, kd, hJ⟩⟩ := hJJ
        subst hfa
        refine lw_calli (va_runV (As := [.int g76]) (rest := []) ⟨hx, hb, hml, hown, hts⟩ (c_run l D tc hI g76) (cwV 1 hts (tw_V tw_197 tw_198 tw_199 tw_1 tw_200) rfl rfl rfl (by decide +kernel) ⟨Nat.le_of_ble_eq_true rfl, Nat.le_of_ble_eq_true rfl⟩) (hv_preV (ci := 3) hK hT.1 (cs_kX hI.1) (by decide) rfl rfl) rfl rfl hl.1 rfl (lv_room (Nat.le_of_ble_eq_true rfl)) dL_law_356 ⟨by show (H.size - s.heap.size) + 4113 ≤ 600000; omega, by show (hv_tot H - hv_tot s.heap) + 32904 ≤ 7302250; omega⟩) hT (fun r77 v78 H locs hp79 hT hn1 ht1 => ?_)
        have hp1 : cp_run fa n w u b1 d (s.heap.size + 35 + 2 * n, hv_tot s.heap + 420409 + 18 * n) g76 r77 v78 := hp79
        have hC : lw_C (s.heap.size + 35, hv_tot s.heap + 420409) (fa 0) v78 := cp_run_C (T := (s.heap.size + 35, hv_tot s.heap + 420409)) hp1
        obtain ⟨ra1, hra1, hJ⟩ : ∃ ra1 : Nat → Nat, ra1 0 = y ∧ rf_J ra1 gh n b1 B t2 nm stt dg F kd (hv_sz r H.size (hv_tot H)) := ⟨rs_up ra H.size (hv_tot H), hra, rf_sz _ _ hJ⟩
        clear hra
        subst hra1
        refine lv_pop hx hb dL_law_359 rfl ?_
        refine lv_aload_n hx hb dL_law_360 rfl (lv_at hl 2 rfl) ?_
        refine lv_aload_n hx hb dL_law_361 rfl (lv_at hl 0 rfl) ?_
        refine lv_iload_n hx hb dL_law_362 rfl (lv_at hl 3 rfl) ?_
        refine lv_iconst (v := 1) hx hb dL_law_363 (by decide) ?_
        refine lv_iadd hx hb dL_law_364 ?_
        refine hv_as (x := ((nI j) + 1)) (y := (nI (j + 1))) (nI_add j 1) ?_
        refine va_sld (i := (nI (j + 1))) hx hb hX hbl hbA hT.2.2.2.2.1 (vp_in_nI (by omega) (by omega)) dL_law_365 ?_
        refine lv_topi (fun g80 eg80 => ?_)
        obtain rfl : g76 = g80 := eg76.trans eg80.symm
        have hsz : hv_n _ ≤ s.heap.size + 35 + 4113 ∧ hv_t _ ≤ hv_tot s.heap + 420409 + 32920 := lw_Csize hC
        have hz1 := hT.1.2.2.1
        have hz2 := hT.1.2.2.2
        have ho1 := hT.2.1.2.2.1
        have ho2 := hT.2.1.2.2.2
        refine lw_calli (va_runV (As := [.int g76]) (rest := []) ⟨hx, hb, hml, hown, hts⟩ (m_run l D tc hJ g76 (by omega)) (cwV 1 hts (tw_V tw_421 tw_422 tw_423 tw_3 tw_424) rfl rfl rfl (by decide +kernel) ⟨Nat.le_of_ble_eq_true rfl, Nat.le_of_ble_eq_true rfl⟩) (hv_preV (ci := 4) hK hT.sw.1 (rs_k0 hJ.1) (by decide) rfl rfl) rfl rfl hl.1 rfl (lv_room (Nat.le_of_ble_eq_true rfl)) dL_law_366 ⟨by show (H.size - s.heap.size) + 0 ≤ 600000; omega, by show (hv_tot H - hv_tot s.heap) + 0 ≤ 7302250; omega⟩) hT.sw (fun r81 v82 H locs hp83 hT hn1 ht1 => ?_)
        have hp2 : mp_run ra1 gh n b1 B g76 r81 v82 := hp83
        have hrs : rs_S ra1 v82 := mp_run_S hp2
        have ev : hv_sz v78 H.size (hv_tot H) = v78 := lw_sz (by rw [hn1, hrs.1.2.1, ← hJ.1.1.2.1, ← ho1]; exact hz1) (by rw [ht1, hrs.1.2.2, ← hJ.1.1.2.2, ← ho2]; exact hz2)
        have hT := hT.sw
        rw [ev] at hT
        have hJJ := lw_run (T := (s.heap.size + 35, hv_tot s.heap + 420409)) hrel hp1 hp2
        refine lv_pop hx hb dL_law_369 rfl ?_
        refine lv_goto (tgt := 547) hx hb dL_law_370 (by decide) ?_
        refine lv_iinc (v := (nI (j + 4))) (lv' := [(3, _), (0, _), (1, _), (2, _)]) hx hb dL_law_547 hl (k := 3) rfl (nI_add j 4) (by decide) rfl (fun ls hl => ?_)
        refine lv_goto (tgt := 18) hx hb dL_law_550 (by decide) ?_
        exact ih (j + 4) _ _ _ H locs ls (by omega) (by omega) (by omega) hJJ hT (lv_sub hl [1, 2, 3, 0] rfl)
      by_cases t32_9 : (g1 &&& 31) = 9
      · skip
        refine lv_tableIn (off := 341) (tgt := 373) hx hb dL_law_32 (by rw [t32_9]; decide) (by rw [t32_9]; decide) (by rw [t32_9]; rfl) (by decide) ?_
        refine lv_aload_n hx hb dL_law_373 rfl (lv_at hl 1 rfl) ?_
        have hsz : hv_n _ ≤ s.heap.size + 35 + 4113 ∧ hv_t _ ≤ hv_tot s.heap + 420409 + 32920 := lw_Jsize hJJ
        have hz1 := hT.1.2.2.1
        have hz2 := hT.1.2.2.2
        obtain ⟨fa, n, w, u, b1, d, ra, gh, hfa, hra, hrel, ⟨k, hI⟩, ⟨t2, nm, stt, dg, F, kd, hJ⟩⟩ := hJJ
        subst hfa
        refine lw_calli (va_runV (As := []) (rest := []) ⟨hx, hb, hml, hown, hts⟩ (c_step l D tc hI) (cwV 0 hts (tw_V tw_268 tw_269 tw_270 tw_1 tw_271) rfl rfl rfl (by decide +kernel) ⟨Nat.le_of_ble_eq_true rfl, Nat.le_of_ble_eq_true rfl⟩) (hv_preV (ci := 3) hK hT.1 (cs_kX hI.1) (by decide) rfl rfl) rfl rfl hl.1 rfl (lv_room (Nat.le_of_ble_eq_true rfl)) dL_law_374 ⟨by show (H.size - s.heap.size) + 4113 ≤ 600000; omega, by show (hv_tot H - hv_tot s.heap) + 32904 ≤ 7302250; omega⟩) hT (fun r84 v85 H locs hp86 hT hn1 ht1 => ?_)
        have hp1 : cp_step fa n w u b1 d (s.heap.size + 35 + 2 * n, hv_tot s.heap + 420409 + 18 * n) r84 v85 := hp86
        have hC : lw_C (s.heap.size + 35, hv_tot s.heap + 420409) (fa 0) v85 := cp_step_C (T := (s.heap.size + 35, hv_tot s.heap + 420409)) hp1
        obtain ⟨ra1, hra1, hJ⟩ : ∃ ra1 : Nat → Nat, ra1 0 = y ∧ rf_J ra1 gh n b1 B t2 nm stt dg F kd (hv_sz r H.size (hv_tot H)) := ⟨rs_up ra H.size (hv_tot H), hra, rf_sz _ _ hJ⟩
        clear hra
        subst hra1
        refine lv_pop hx hb dL_law_377 rfl ?_
        refine lv_aload_n hx hb dL_law_378 rfl (lv_at hl 2 rfl) ?_
        have hsz : hv_n _ ≤ s.heap.size + 35 + 4113 ∧ hv_t _ ≤ hv_tot s.heap + 420409 + 32920 := lw_Csize hC
        have hz1 := hT.1.2.2.1
        have hz2 := hT.1.2.2.2
        have ho1 := hT.2.1.2.2.1
        have ho2 := hT.2.1.2.2.2
        refine lw_calli (va_runV (As := []) (rest := []) ⟨hx, hb, hml, hown, hts⟩ (m_step l D tc hJ (by omega)) (cwV 0 hts (tw_V tw_449 tw_450 tw_451 tw_3 tw_452) rfl rfl rfl (by decide +kernel) ⟨Nat.le_of_ble_eq_true rfl, Nat.le_of_ble_eq_true rfl⟩) (hv_preV (ci := 4) hK hT.sw.1 (rs_k0 hJ.1) (by decide) rfl rfl) rfl rfl hl.1 rfl (lv_room (Nat.le_of_ble_eq_true rfl)) dL_law_379 ⟨by show (H.size - s.heap.size) + 0 ≤ 600000; omega, by show (hv_tot H - hv_tot s.heap) + 0 ≤ 7302250; omega⟩) hT.sw (fun r87 v88 H locs hp89 hT hn1 ht1 => ?_)
        have hp2 : mp_step ra1 gh n b1 B r87 v88 := hp89
        have hrs : rs_S ra1 v88 := mp_step_S hp2
        have ev : hv_sz v85 H.size (hv_tot H) = v85 := lw_sz (by rw [hn1, hrs.1.2.1, ← hJ.1.1.2.1, ← ho1]; exact hz1) (by rw [ht1, hrs.1.2.2, ← hJ.1.1.2.2, ← ho2]; exact hz2)
        have hT := hT.sw
        rw [ev] at hT
        have hJJ := lw_step (T := (s.heap.size + 35, hv_tot s.heap + 420409)) hrel hp1 hp2
        refine lv_pop hx hb dL_law_382 rfl ?_
        refine lv_goto (tgt := 547) hx hb dL_law_383 (by decide) ?_
        refine lv_iinc (v := (nI (j + 4))) (lv' := [(3, _), (0, _), (1, _), (2, _)]) hx hb dL_law_547 hl (k := 3) rfl (nI_add j 4) (by decide) rfl (fun ls hl => ?_)
        refine lv_goto (tgt := 18) hx hb dL_law_550 (by decide) ?_
        exact ih (j + 4) _ _ _ H locs ls (by omega) (by omega) (by omega) hJJ hT (lv_sub hl [1, 2, 3, 0] rfl)
      by_cases t32_10 : (g1 &&& 31) = 10
      · skip
        refine lv_tableIn (off := 354) (tgt := 386) hx hb dL_law_32 (by rw [t32_10]; decide) (by rw [t32_10]; decide) (by rw [t32_10]; rfl) (by decide) ?_
        refine lv_aload_n hx hb dL_law_386 rfl (lv_at hl 1 rfl) ?_
        have hsz : hv_n _ ≤ s.heap.size + 35 + 4113 ∧ hv_t _ ≤ hv_tot s.heap + 420409 + 32920 := lw_Jsize hJJ
        have hz1 := hT.1.2.2.1
        have hz2 := hT.1.2.2.2
        obtain ⟨fa, n, w, u, b1, d, ra, gh, hfa, hra, hrel, ⟨k, hI⟩, ⟨t2, nm, stt, dg, F, kd, hJ⟩⟩ := hJJ
        subst hfa
        refine lw_calli (va_runV (As := []) (rest := []) ⟨hx, hb, hml, hown, hts⟩ (s_reset l D tc hI) (cwV 0 hts (tw_V tw_272 tw_273 tw_274 tw_1 tw_275) rfl rfl rfl (by decide +kernel) ⟨Nat.le_of_ble_eq_true rfl, Nat.le_of_ble_eq_true rfl⟩) (hv_preV (ci := 3) hK hT.1 (cs_kX hI.1) (by decide) rfl rfl) rfl rfl hl.1 rfl (lv_room (Nat.le_of_ble_eq_true rfl)) dL_law_387 ⟨by show (H.size - s.heap.size) + 0 ≤ 600000; omega, by show (hv_tot H - hv_tot s.heap) + 0 ≤ 7302250; omega⟩) hT (fun r90 v91 H locs hp92 hT hn1 ht1 => ?_)
        have hp1 : cp_reset fa n w u b1 d (s.heap.size + 35 + 2 * n, hv_tot s.heap + 420409 + 18 * n) r90 v91 := hp92
        have hC : lw_C (s.heap.size + 35, hv_tot s.heap + 420409) (fa 0) v91 := cp_reset_C (T := (s.heap.size + 35, hv_tot s.heap + 420409)) hp1
        obtain ⟨ra1, hra1, hJ⟩ : ∃ ra1 : Nat → Nat, ra1 0 = y ∧ rf_J ra1 gh n b1 B t2 nm stt dg F kd (hv_sz r H.size (hv_tot H)) := ⟨rs_up ra H.size (hv_tot H), hra, rf_sz _ _ hJ⟩
        clear hra
        subst hra1
        refine lv_pop hx hb dL_law_390 rfl ?_
        refine lv_aload_n hx hb dL_law_391 rfl (lv_at hl 2 rfl) ?_
        have hsz : hv_n _ ≤ s.heap.size + 35 + 4113 ∧ hv_t _ ≤ hv_tot s.heap + 420409 + 32920 := lw_Csize hC
        have hz1 := hT.1.2.2.1
        have hz2 := hT.1.2.2.2
        have ho1 := hT.2.1.2.2.1
        have ho2 := hT.2.1.2.2.2
        refine lw_calli (va_runV (As := []) (rest := []) ⟨hx, hb, hml, hown, hts⟩ (m_reset l D tc hJ) (cwV 0 hts (tw_V tw_453 tw_454 tw_455 tw_3 tw_456) rfl rfl rfl (by decide +kernel) ⟨Nat.le_of_ble_eq_true rfl, Nat.le_of_ble_eq_true rfl⟩) (hv_preV (ci := 4) hK hT.sw.1 (rs_k0 hJ.1) (by decide) rfl rfl) rfl rfl hl.1 rfl (lv_room (Nat.le_of_ble_eq_true rfl)) dL_law_392 ⟨by show (H.size - s.heap.size) + 0 ≤ 600000; omega, by show (hv_tot H - hv_tot s.heap) + 0 ≤ 7302250; omega⟩) hT.sw (fun r93 v94 H locs hp95 hT hn1 ht1 => ?_)
        have hp2 : mp_reset ra1 gh n b1 B r93 v94 := hp95
        have hrs : rs_S ra1 v94 := mp_reset_S hp2
        have ev : hv_sz v91 H.size (hv_tot H) = v91 := lw_sz (by rw [hn1, hrs.1.2.1, ← hJ.1.1.2.1, ← ho1]; exact hz1) (by rw [ht1, hrs.1.2.2, ← hJ.1.1.2.2, ← ho2]; exact hz2)
        have hT := hT.sw
        rw [ev] at hT
        obtain ⟨her, hJJ⟩ := lw_reset (T := (s.heap.size + 35, hv_tot s.heap + 420409)) hrel hp1 hp2
        refine lv_pop hx hb dL_law_395 rfl ?_
        refine lv_goto (tgt := 547) hx hb dL_law_396 (by decide) ?_
        refine lv_iinc (v := (nI (j + 4))) (lv' := [(3, _), (0, _), (1, _), (2, _)]) hx hb dL_law_547 hl (k := 3) rfl (nI_add j 4) (by decide) rfl (fun ls hl => ?_)
        refine lv_goto (tgt := 18) hx hb dL_law_550 (by decide) ?_
        exact ih (j + 4) _ _ _ H locs ls (by omega) (by omega) (by omega) hJJ hT (lv_sub hl [1, 2, 3, 0] rfl)
      by_cases t32_11 : (g1 &&& 31) = 11
      · skip
        refine lv_tableIn (off := 367) (tgt := 399) hx hb dL_law_32 (by rw [t32_11]; decide) (by rw [t32_11]; decide) (by rw [t32_11]; rfl) (by decide) ?_
        refine lv_aload_n hx hb dL_law_399 rfl (lv_at hl 1 rfl) ?_
        refine lv_aload_n hx hb dL_law_400 rfl (lv_at hl 0 rfl) ?_
        refine lv_iload_n hx hb dL_law_401 rfl (lv_at hl 3 rfl) ?_
        refine lv_iconst (v := 1) hx hb dL_law_402 (by decide) ?_
        refine lv_iadd hx hb dL_law_403 ?_
        refine hv_as (x := ((nI j) + 1)) (y := (nI (j + 1))) (nI_add j 1) ?_
        refine va_sld (i := (nI (j + 1))) hx hb hX hbl hbA hT.2.2.2.2.1 (vp_in_nI (by omega) (by omega)) dL_law_404 ?_
        refine lv_topi (fun g96 eg96 => ?_)
        refine lv_aload_n hx hb dL_law_405 rfl (lv_at hl 0 rfl) ?_
        refine lv_iload_n hx hb dL_law_406 rfl (lv_at hl 3 rfl) ?_
        refine lv_iconst (v := 2) hx hb dL_law_407 (by decide) ?_
        refine lv_iadd hx hb dL_law_408 ?_
        refine hv_as (x := ((nI j) + 2)) (y := (nI (j + 2))) (nI_add j 2) ?_
        refine va_sld (i := (nI (j + 2))) hx hb hX hbl hbA hT.2.2.2.2.1 (vp_in_nI (by omega) (by omega)) dL_law_409 ?_
        refine lv_topi (fun g97 eg97 => ?_)
        have hsz : hv_n _ ≤ s.heap.size + 35 + 4113 ∧ hv_t _ ≤ hv_tot s.heap + 420409 + 32920 := lw_Jsize hJJ
        have hz1 := hT.1.2.2.1
        have hz2 := hT.1.2.2.2
        obtain ⟨fa, n, w, u, b1, d, ra, gh, hfa, hra, hrel, ⟨k, hI⟩, ⟨t2, nm, stt, dg, F, kd, hJ⟩⟩ := hJJ
        subst hfa
        refine lw_calli (va_runV (As := [.int g96, .int g97]) (rest := []) ⟨hx, hb, hml, hown, hts⟩ (s_of l D tc hI g96 g97) (cwV 2 hts (tw_V tw_281 tw_282 tw_283 tw_1 tw_284) rfl rfl rfl (by decide +kernel) ⟨Nat.le_of_ble_eq_true rfl, Nat.le_of_ble_eq_true rfl⟩) (hv_preV (ci := 3) hK hT.1 (cs_kX hI.1) (by decide) rfl rfl) rfl rfl hl.1 rfl (lv_room (Nat.le_of_ble_eq_true rfl)) dL_law_410 ⟨by show (H.size - s.heap.size) + 0 ≤ 600000; omega, by show (hv_tot H - hv_tot s.heap) + 0 ≤ 7302250; omega⟩) hT (fun r98 v99 H locs hp100 hT hn1 ht1 => ?_)
        have hp1 : cp_of fa n w u b1 d (s.heap.size + 35 + 2 * n, hv_tot s.heap + 420409 + 18 * n) g96 g97 r98 v99 := hp100
        have hC : lw_C (s.heap.size + 35, hv_tot s.heap + 420409) (fa 0) v99 := cp_of_C (T := (s.heap.size + 35, hv_tot s.heap + 420409)) hp1
        obtain ⟨ra1, hra1, hJ⟩ : ∃ ra1 : Nat → Nat, ra1 0 = y ∧ rf_J ra1 gh n b1 B t2 nm stt dg F kd (hv_sz r H.size (hv_tot H)) := ⟨rs_up ra H.size (hv_tot H), hra, rf_sz _ _ hJ⟩
        clear hra
        subst hra1
        refine lv_pop hx hb dL_law_413 rfl ?_
        refine lv_aload_n hx hb dL_law_414 rfl (lv_at hl 2 rfl) ?_
        refine lv_aload_n hx hb dL_law_415 rfl (lv_at hl 0 rfl) ?_
        refine lv_iload_n hx hb dL_law_416 rfl (lv_at hl 3 rfl) ?_
        refine lv_iconst (v := 1) hx hb dL_law_417 (by decide) ?_
        refine lv_iadd hx hb dL_law_418 ?_
        refine hv_as (x := ((nI j) + 1)) (y := (nI (j + 1))) (nI_add j 1) ?_
        refine va_sld (i := (nI (j + 1))) hx hb hX hbl hbA hT.2.2.2.2.1 (vp_in_nI (by omega) (by omega)) dL_law_419 ?_
        refine lv_topi (fun g101 eg101 => ?_)
        obtain rfl : g96 = g101 := eg96.trans eg101.symm
        refine lv_aload_n hx hb dL_law_420 rfl (lv_at hl 0 rfl) ?_
        refine lv_iload_n hx hb dL_law_421 rfl (lv_at hl 3 rfl) ?_
        refine lv_iconst (v := 2) hx hb dL_law_422 (by decide) ?_
        refine lv_iadd hx hb dL_law_423 ?_
        refine hv_as (x := ((nI j) + 2)) (y := (nI (j + 2))) (nI_add j 2) ?_
        refine va_sld (i := (nI (j + 2))) hx hb hX hbl hbA hT.2.2.2.2.1 (vp_in_nI (by omega) (by omega)) dL_law_424 ?_
        refine lv_topi (fun g102 eg102 => ?_)
        obtain rfl : g97 = g102 := eg97.trans eg102.symm
        have hsz : hv_n _ ≤ s.heap.size + 35 + 4113 ∧ hv_t _ ≤ hv_tot s.heap + 420409 + 32920 := lw_Csize hC
        have hz1 := hT.1.2.2.1
        have hz2 := hT.1.2.2.2
        have ho1 := hT.2.1.2.2.1
        have ho2 := hT.2.1.2.2.2
        refine lw_calli (va_runV (As := [.int g96, .int g97]) (rest := []) ⟨hx, hb, hml, hown, hts⟩ (m_of l D tc hJ g96 g97) (cwV 2 hts (tw_V tw_457 tw_458 tw_459 tw_3 tw_460) rfl rfl rfl (by decide +kernel) ⟨Nat.le_of_ble_eq_true rfl, Nat.le_of_ble_eq_true rfl⟩) (hv_preV (ci := 4) hK hT.sw.1 (rs_k0 hJ.1) (by decide) rfl rfl) rfl rfl hl.1 rfl (lv_room (Nat.le_of_ble_eq_true rfl)) dL_law_425 ⟨by show (H.size - s.heap.size) + 0 ≤ 600000; omega, by show (hv_tot H - hv_tot s.heap) + 0 ≤ 7302250; omega⟩) hT.sw (fun r103 v104 H locs hp105 hT hn1 ht1 => ?_)
        have hp2 : mp_of ra1 gh n b1 B g96 g97 r103 v104 := hp105
        have hrs : rs_S ra1 v104 := mp_of_S hp2
        have ev : hv_sz v99 H.size (hv_tot H) = v99 := lw_sz (by rw [hn1, hrs.1.2.1, ← hJ.1.1.2.1, ← ho1]; exact hz1) (by rw [ht1, hrs.1.2.2, ← hJ.1.1.2.2, ← ho2]; exact hz2)
        have hT := hT.sw
        rw [ev] at hT
        have hJJ := lw_of (T := (s.heap.size + 35, hv_tot s.heap + 420409)) hrel hp1 hp2
        refine lv_pop hx hb dL_law_428 rfl ?_
        refine lv_goto (tgt := 547) hx hb dL_law_429 (by decide) ?_
        refine lv_iinc (v := (nI (j + 4))) (lv' := [(3, _), (0, _), (1, _), (2, _)]) hx hb dL_law_547 hl (k := 3) rfl (nI_add j 4) (by decide) rfl (fun ls hl => ?_)
        refine lv_goto (tgt := 18) hx hb dL_law_550 (by decide) ?_
        exact ih (j + 4) _ _ _ H locs ls (by omega) (by omega) (by omega) hJJ hT (lv_sub hl [1, 2, 3, 0] rfl)
      by_cases t32_12 : (g1 &&& 31) = 12
      · skip
        refine lv_tableIn (off := 400) (tgt := 432) hx hb dL_law_32 (by rw [t32_12]; decide) (by rw [t32_12]; decide) (by rw [t32_12]; rfl) (by decide) ?_
        refine lv_aload_n hx hb dL_law_432 rfl (lv_at hl 1 rfl) ?_
        refine lv_aload_n hx hb dL_law_433 rfl (lv_at hl 0 rfl) ?_
        refine lv_iload_n hx hb dL_law_434 rfl (lv_at hl 3 rfl) ?_
        refine lv_iconst (v := 1) hx hb dL_law_435 (by decide) ?_
        refine lv_iadd hx hb dL_law_436 ?_
        refine hv_as (x := ((nI j) + 1)) (y := (nI (j + 1))) (nI_add j 1) ?_
        refine va_sld (i := (nI (j + 1))) hx hb hX hbl hbA hT.2.2.2.2.1 (vp_in_nI (by omega) (by omega)) dL_law_437 ?_
        refine lv_topi (fun g106 eg106 => ?_)
        have hsz : hv_n _ ≤ s.heap.size + 35 + 4113 ∧ hv_t _ ≤ hv_tot s.heap + 420409 + 32920 := lw_Jsize hJJ
        have hz1 := hT.1.2.2.1
        have hz2 := hT.1.2.2.2
        obtain ⟨fa, n, w, u, b1, d, ra, gh, hfa, hra, hrel, ⟨k, hI⟩, ⟨t2, nm, stt, dg, F, kd, hJ⟩⟩ := hJJ
        subst hfa
        refine lw_calli (va_runV (As := [.int g106]) (rest := []) ⟨hx, hb, hml, hown, hts⟩ (s_count l D tc hI g106) (cwV 1 hts (tw_V tw_285 tw_286 tw_287 tw_1 tw_288) rfl rfl rfl (by decide +kernel) ⟨Nat.le_of_ble_eq_true rfl, Nat.le_of_ble_eq_true rfl⟩) (hv_preV (ci := 3) hK hT.1 (cs_kX hI.1) (by decide) rfl rfl) rfl rfl hl.1 rfl (lv_room (Nat.le_of_ble_eq_true rfl)) dL_law_438 ⟨by show (H.size - s.heap.size) + 0 ≤ 600000; omega, by show (hv_tot H - hv_tot s.heap) + 0 ≤ 7302250; omega⟩) hT (fun r107 v108 H locs hp109 hT hn1 ht1 => ?_)
        have hp1 : cp_count fa n w u b1 d (s.heap.size + 35 + 2 * n, hv_tot s.heap + 420409 + 18 * n) g106 r107 v108 := hp109
        have hC : lw_C (s.heap.size + 35, hv_tot s.heap + 420409) (fa 0) v108 := cp_count_C (T := (s.heap.size + 35, hv_tot s.heap + 420409)) hp1
        obtain ⟨ra1, hra1, hJ⟩ : ∃ ra1 : Nat → Nat, ra1 0 = y ∧ rf_J ra1 gh n b1 B t2 nm stt dg F kd (hv_sz r H.size (hv_tot H)) := ⟨rs_up ra H.size (hv_tot H), hra, rf_sz _ _ hJ⟩
        clear hra
        subst hra1
        refine lv_pop hx hb dL_law_441 rfl ?_
        refine lv_aload_n hx hb dL_law_442 rfl (lv_at hl 2 rfl) ?_
        refine lv_aload_n hx hb dL_law_443 rfl (lv_at hl 0 rfl) ?_
        refine lv_iload_n hx hb dL_law_444 rfl (lv_at hl 3 rfl) ?_
        refine lv_iconst (v := 1) hx hb dL_law_445 (by decide) ?_
        refine lv_iadd hx hb dL_law_446 ?_
        refine hv_as (x := ((nI j) + 1)) (y := (nI (j + 1))) (nI_add j 1) ?_
        refine va_sld (i := (nI (j + 1))) hx hb hX hbl hbA hT.2.2.2.2.1 (vp_in_nI (by omega) (by omega)) dL_law_447 ?_
        refine lv_topi (fun g110 eg110 => ?_)
        obtain rfl : g106 = g110 := eg106.trans eg110.symm
        have hsz : hv_n _ ≤ s.heap.size + 35 + 4113 ∧ hv_t _ ≤ hv_tot s.heap + 420409 + 32920 := lw_Csize hC
        have hz1 := hT.1.2.2.1
        have hz2 := hT.1.2.2.2
        have ho1 := hT.2.1.2.2.1
        have ho2 := hT.2.1.2.2.2
        refine lw_calli (va_runV (As := [.int g106]) (rest := []) ⟨hx, hb, hml, hown, hts⟩ (m_count l D tc hJ g106) (cwV 1 hts (tw_V tw_461 tw_462 tw_463 tw_3 tw_464) rfl rfl rfl (by decide +kernel) ⟨Nat.le_of_ble_eq_true rfl, Nat.le_of_ble_eq_true rfl⟩) (hv_preV (ci := 4) hK hT.sw.1 (rs_k0 hJ.1) (by decide) rfl rfl) rfl rfl hl.1 rfl (lv_room (Nat.le_of_ble_eq_true rfl)) dL_law_448 ⟨by show (H.size - s.heap.size) + 0 ≤ 600000; omega, by show (hv_tot H - hv_tot s.heap) + 0 ≤ 7302250; omega⟩) hT.sw (fun r111 v112 H locs hp113 hT hn1 ht1 => ?_)
        have hp2 : mp_count ra1 gh n b1 B g106 r111 v112 := hp113
        have hrs : rs_S ra1 v112 := mp_count_S hp2
        have ev : hv_sz v108 H.size (hv_tot H) = v108 := lw_sz (by rw [hn1, hrs.1.2.1, ← hJ.1.1.2.1, ← ho1]; exact hz1) (by rw [ht1, hrs.1.2.2, ← hJ.1.1.2.2, ← ho2]; exact hz2)
        have hT := hT.sw
        rw [ev] at hT
        have hJJ := lw_count (T := (s.heap.size + 35, hv_tot s.heap + 420409)) hrel hp1 hp2
        refine lv_pop hx hb dL_law_451 rfl ?_
        refine lv_goto (tgt := 547) hx hb dL_law_452 (by decide) ?_
        refine lv_iinc (v := (nI (j + 4))) (lv' := [(3, _), (0, _), (1, _), (2, _)]) hx hb dL_law_547 hl (k := 3) rfl (nI_add j 4) (by decide) rfl (fun ls hl => ?_)
        refine lv_goto (tgt := 18) hx hb dL_law_550 (by decide) ?_
        exact ih (j + 4) _ _ _ H locs ls (by omega) (by omega) (by omega) hJJ hT (lv_sub hl [1, 2, 3, 0] rfl)
      by_cases t32_13 : (g1 &&& 31) = 13
      · skip
        refine lv_tableIn (off := 423) (tgt := 455) hx hb dL_law_32 (by rw [t32_13]; decide) (by rw [t32_13]; decide) (by rw [t32_13]; rfl) (by decide) ?_
        refine lv_aload_n hx hb dL_law_455 rfl (lv_at hl 1 rfl) ?_
        refine lv_aload_n hx hb dL_law_456 rfl (lv_at hl 0 rfl) ?_
        refine lv_iload_n hx hb dL_law_457 rfl (lv_at hl 3 rfl) ?_
        refine lv_iconst (v := 1) hx hb dL_law_458 (by decide) ?_
        refine lv_iadd hx hb dL_law_459 ?_
        refine hv_as (x := ((nI j) + 1)) (y := (nI (j + 1))) (nI_add j 1) ?_
        refine va_sld (i := (nI (j + 1))) hx hb hX hbl hbA hT.2.2.2.2.1 (vp_in_nI (by omega) (by omega)) dL_law_460 ?_
        refine lv_topi (fun g114 eg114 => ?_)
        refine lv_aload_n hx hb dL_law_461 rfl (lv_at hl 0 rfl) ?_
        refine lv_iload_n hx hb dL_law_462 rfl (lv_at hl 3 rfl) ?_
        refine lv_iconst (v := 2) hx hb dL_law_463 (by decide) ?_
        refine lv_iadd hx hb dL_law_464 ?_
        refine hv_as (x := ((nI j) + 2)) (y := (nI (j + 2))) (nI_add j 2) ?_
        refine va_sld (i := (nI (j + 2))) hx hb hX hbl hbA hT.2.2.2.2.1 (vp_in_nI (by omega) (by omega)) dL_law_465 ?_
        refine lv_topi (fun g115 eg115 => ?_)
        have hsz : hv_n _ ≤ s.heap.size + 35 + 4113 ∧ hv_t _ ≤ hv_tot s.heap + 420409 + 32920 := lw_Jsize hJJ
        have hz1 := hT.1.2.2.1
        have hz2 := hT.1.2.2.2
        obtain ⟨fa, n, w, u, b1, d, ra, gh, hfa, hra, hrel, ⟨k, hI⟩, ⟨t2, nm, stt, dg, F, kd, hJ⟩⟩ := hJJ
        subst hfa
        refine lw_calli (va_runV (As := [.int g114, .int g115]) (rest := []) ⟨hx, hb, hml, hown, hts⟩ (s_delay l D tc hI g114 g115) (cwV 2 hts (tw_V tw_289 tw_290 tw_291 tw_1 tw_292) rfl rfl rfl (by decide +kernel) ⟨Nat.le_of_ble_eq_true rfl, Nat.le_of_ble_eq_true rfl⟩) (hv_preV (ci := 3) hK hT.1 (cs_kX hI.1) (by decide) rfl rfl) rfl rfl hl.1 rfl (lv_room (Nat.le_of_ble_eq_true rfl)) dL_law_466 ⟨by show (H.size - s.heap.size) + 0 ≤ 600000; omega, by show (hv_tot H - hv_tot s.heap) + 0 ≤ 7302250; omega⟩) hT (fun r116 v117 H locs hp118 hT hn1 ht1 => ?_)
        have hp1 : cp_delay fa n w u b1 d (s.heap.size + 35 + 2 * n, hv_tot s.heap + 420409 + 18 * n) g114 g115 r116 v117 := hp118
        have hC : lw_C (s.heap.size + 35, hv_tot s.heap + 420409) (fa 0) v117 := cp_delay_C (T := (s.heap.size + 35, hv_tot s.heap + 420409)) hp1
        obtain ⟨ra1, hra1, hJ⟩ : ∃ ra1 : Nat → Nat, ra1 0 = y ∧ rf_J ra1 gh n b1 B t2 nm stt dg F kd (hv_sz r H.size (hv_tot H)) := ⟨rs_up ra H.size (hv_tot H), hra, rf_sz _ _ hJ⟩
        clear hra
        subst hra1
        refine lv_aload_n hx hb dL_law_469 rfl (lv_at hl 2 rfl) ?_
        refine lv_aload_n hx hb dL_law_470 rfl (lv_at hl 0 rfl) ?_
        refine lv_iload_n hx hb dL_law_471 rfl (lv_at hl 3 rfl) ?_
        refine lv_iconst (v := 1) hx hb dL_law_472 (by decide) ?_
        refine lv_iadd hx hb dL_law_473 ?_
        refine hv_as (x := ((nI j) + 1)) (y := (nI (j + 1))) (nI_add j 1) ?_
        refine va_sld (i := (nI (j + 1))) hx hb hX hbl hbA hT.2.2.2.2.1 (vp_in_nI (by omega) (by omega)) dL_law_474 ?_
        refine lv_topi (fun g119 eg119 => ?_)
        obtain rfl : g114 = g119 := eg114.trans eg119.symm
        refine lv_aload_n hx hb dL_law_475 rfl (lv_at hl 0 rfl) ?_
        refine lv_iload_n hx hb dL_law_476 rfl (lv_at hl 3 rfl) ?_
        refine lv_iconst (v := 2) hx hb dL_law_477 (by decide) ?_
        refine lv_iadd hx hb dL_law_478 ?_
        refine hv_as (x := ((nI j) + 2)) (y := (nI (j + 2))) (nI_add j 2) ?_
        refine va_sld (i := (nI (j + 2))) hx hb hX hbl hbA hT.2.2.2.2.1 (vp_in_nI (by omega) (by omega)) dL_law_479 ?_
        refine lv_topi (fun g120 eg120 => ?_)
        obtain rfl : g115 = g120 := eg115.trans eg120.symm
        have hsz : hv_n _ ≤ s.heap.size + 35 + 4113 ∧ hv_t _ ≤ hv_tot s.heap + 420409 + 32920 := lw_Csize hC
        have hz1 := hT.1.2.2.1
        have hz2 := hT.1.2.2.2
        have ho1 := hT.2.1.2.2.1
        have ho2 := hT.2.1.2.2.2
        refine lw_calli (va_runV (As := [.int g114, .int g115]) (rest := [.int r116]) ⟨hx, hb, hml, hown, hts⟩ (m_delay l D tc hJ g114 g115) (cwV 2 hts (tw_V tw_465 tw_466 tw_467 tw_3 tw_468) rfl rfl rfl (by decide +kernel) ⟨Nat.le_of_ble_eq_true rfl, Nat.le_of_ble_eq_true rfl⟩) (hv_preV (ci := 4) hK hT.sw.1 (rs_k0 hJ.1) (by decide) rfl rfl) rfl rfl hl.1 rfl (lv_room (Nat.le_of_ble_eq_true rfl)) dL_law_480 ⟨by show (H.size - s.heap.size) + 0 ≤ 600000; omega, by show (hv_tot H - hv_tot s.heap) + 0 ≤ 7302250; omega⟩) hT.sw (fun r121 v122 H locs hp123 hT hn1 ht1 => ?_)
        have hp2 : mp_delay ra1 gh n b1 B g114 g115 r121 v122 := hp123
        have hrs : rs_S ra1 v122 := mp_delay_S hp2
        have ev : hv_sz v117 H.size (hv_tot H) = v117 := lw_sz (by rw [hn1, hrs.1.2.1, ← hJ.1.1.2.1, ← ho1]; exact hz1) (by rw [ht1, hrs.1.2.2, ← hJ.1.1.2.2, ← ho2]; exact hz2)
        have hT := hT.sw
        rw [ev] at hT
        obtain ⟨her, hJJ⟩ := lw_delay (T := (s.heap.size + 35, hv_tot s.heap + 420409)) hrel hp1 hp2
        refine lv_icmp_eq (tgt := 547) hx hb dL_law_483 (by decide) (fun c483 => ?_) (fun c483 => ?_)
        · skip
          refine lv_iinc (v := (nI (j + 4))) (lv' := [(3, _), (0, _), (1, _), (2, _)]) hx hb dL_law_547 hl (k := 3) rfl (nI_add j 4) (by decide) rfl (fun ls hl => ?_)
          refine lv_goto (tgt := 18) hx hb dL_law_550 (by decide) ?_
          exact ih (j + 4) _ _ _ H locs ls (by omega) (by omega) (by omega) hJJ hT (lv_sub hl [1, 2, 3, 0] rfl)
        · skip
          exact absurd her c483
      by_cases t32_14 : (g1 &&& 31) = 14
      · skip
        refine lv_tableIn (off := 456) (tgt := 488) hx hb dL_law_32 (by rw [t32_14]; decide) (by rw [t32_14]; decide) (by rw [t32_14]; rfl) (by decide) ?_
        refine lv_aload_n hx hb dL_law_488 rfl (lv_at hl 1 rfl) ?_
        refine lv_aload_n hx hb dL_law_489 rfl (lv_at hl 0 rfl) ?_
        refine lv_iload_n hx hb dL_law_490 rfl (lv_at hl 3 rfl) ?_
        refine lv_iconst (v := 1) hx hb dL_law_491 (by decide) ?_
        refine lv_iadd hx hb dL_law_492 ?_
        refine hv_as (x := ((nI j) + 1)) (y := (nI (j + 1))) (nI_add j 1) ?_
        refine va_sld (i := (nI (j + 1))) hx hb hX hbl hbA hT.2.2.2.2.1 (vp_in_nI (by omega) (by omega)) dL_law_493 ?_
        refine lv_topi (fun g124 eg124 => ?_)
        have hsz : hv_n _ ≤ s.heap.size + 35 + 4113 ∧ hv_t _ ≤ hv_tot s.heap + 420409 + 32920 := lw_Jsize hJJ
        have hz1 := hT.1.2.2.1
        have hz2 := hT.1.2.2.2
        obtain ⟨fa, n, w, u, b1, d, ra, gh, hfa, hra, hrel, ⟨k, hI⟩, ⟨t2, nm, stt, dg, F, kd, hJ⟩⟩ := hJJ
        subst hfa
        refine lw_calli (va_runV (As := [.int g124]) (rest := []) ⟨hx, hb, hml, hown, hts⟩ (s_weight l D tc hI g124) (cwV 1 hts (tw_V tw_293 tw_294 tw_295 tw_1 tw_296) rfl rfl rfl (by decide +kernel) ⟨Nat.le_of_ble_eq_true rfl, Nat.le_of_ble_eq_true rfl⟩) (hv_preV (ci := 3) hK hT.1 (cs_kX hI.1) (by decide) rfl rfl) rfl rfl hl.1 rfl (lv_room (Nat.le_of_ble_eq_true rfl)) dL_law_494 ⟨by show (H.size - s.heap.size) + 0 ≤ 600000; omega, by show (hv_tot H - hv_tot s.heap) + 0 ≤ 7302250; omega⟩) hT (fun r125 v126 H locs hp127 hT hn1 ht1 => ?_)
        have hp1 : cp_weight fa n w u b1 d (s.heap.size + 35 + 2 * n, hv_tot s.heap + 420409 + 18 * n) g124 r125 v126 := hp127
        have hC : lw_C (s.heap.size + 35, hv_tot s.heap + 420409) (fa 0) v126 := cp_weight_C (T := (s.heap.size + 35, hv_tot s.heap + 420409)) hp1
        obtain ⟨ra1, hra1, hJ⟩ : ∃ ra1 : Nat → Nat, ra1 0 = y ∧ rf_J ra1 gh n b1 B t2 nm stt dg F kd (hv_sz r H.size (hv_tot H)) := ⟨rs_up ra H.size (hv_tot H), hra, rf_sz _ _ hJ⟩
        clear hra
        subst hra1
        refine lv_pop hx hb dL_law_497 rfl ?_
        refine lv_aload_n hx hb dL_law_498 rfl (lv_at hl 2 rfl) ?_
        refine lv_aload_n hx hb dL_law_499 rfl (lv_at hl 0 rfl) ?_
        refine lv_iload_n hx hb dL_law_500 rfl (lv_at hl 3 rfl) ?_
        refine lv_iconst (v := 1) hx hb dL_law_501 (by decide) ?_
        refine lv_iadd hx hb dL_law_502 ?_
        refine hv_as (x := ((nI j) + 1)) (y := (nI (j + 1))) (nI_add j 1) ?_
        refine va_sld (i := (nI (j + 1))) hx hb hX hbl hbA hT.2.2.2.2.1 (vp_in_nI (by omega) (by omega)) dL_law_503 ?_
        refine lv_topi (fun g128 eg128 => ?_)
        obtain rfl : g124 = g128 := eg124.trans eg128.symm
        have hsz : hv_n _ ≤ s.heap.size + 35 + 4113 ∧ hv_t _ ≤ hv_tot s.heap + 420409 + 32920 := lw_Csize hC
        have hz1 := hT.1.2.2.1
        have hz2 := hT.1.2.2.2
        have ho1 := hT.2.1.2.2.1
        have ho2 := hT.2.1.2.2.2
        refine lw_calli (va_runV (As := [.int g124]) (rest := []) ⟨hx, hb, hml, hown, hts⟩ (m_weight l D tc hJ g124) (cwV 1 hts (tw_V tw_469 tw_470 tw_471 tw_3 tw_472) rfl rfl rfl (by decide +kernel) ⟨Nat.le_of_ble_eq_true rfl, Nat.le_of_ble_eq_true rfl⟩) (hv_preV (ci := 4) hK hT.sw.1 (rs_k0 hJ.1) (by decide) rfl rfl) rfl rfl hl.1 rfl (lv_room (Nat.le_of_ble_eq_true rfl)) dL_law_504 ⟨by show (H.size - s.heap.size) + 0 ≤ 600000; omega, by show (hv_tot H - hv_tot s.heap) + 0 ≤ 7302250; omega⟩) hT.sw (fun r129 v130 H locs hp131 hT hn1 ht1 => ?_)
        have hp2 : mp_weight ra1 gh n b1 B g124 r129 v130 := hp131
        have hrs : rs_S ra1 v130 := mp_weight_S hp2
        have ev : hv_sz v126 H.size (hv_tot H) = v126 := lw_sz (by rw [hn1, hrs.1.2.1, ← hJ.1.1.2.1, ← ho1]; exact hz1) (by rw [ht1, hrs.1.2.2, ← hJ.1.1.2.2, ← ho2]; exact hz2)
        have hT := hT.sw
        rw [ev] at hT
        have hJJ := lw_weight (T := (s.heap.size + 35, hv_tot s.heap + 420409)) hrel hp1 hp2
        refine lv_pop hx hb dL_law_507 rfl ?_
        refine lv_goto (tgt := 547) hx hb dL_law_508 (by decide) ?_
        refine lv_iinc (v := (nI (j + 4))) (lv' := [(3, _), (0, _), (1, _), (2, _)]) hx hb dL_law_547 hl (k := 3) rfl (nI_add j 4) (by decide) rfl (fun ls hl => ?_)
        refine lv_goto (tgt := 18) hx hb dL_law_550 (by decide) ?_
        exact ih (j + 4) _ _ _ H locs ls (by omega) (by omega) (by omega) hJJ hT (lv_sub hl [1, 2, 3, 0] rfl)
      by_cases t32_15 : (g1 &&& 31) = 15
      · skip
        refine lv_tableIn (off := 479) (tgt := 511) hx hb dL_law_32 (by rw [t32_15]; decide) (by rw [t32_15]; decide) (by rw [t32_15]; rfl) (by decide) ?_
        refine lv_aload_n hx hb dL_law_511 rfl (lv_at hl 1 rfl) ?_
        refine lv_aload_n hx hb dL_law_512 rfl (lv_at hl 0 rfl) ?_
        refine lv_iload_n hx hb dL_law_513 rfl (lv_at hl 3 rfl) ?_
        refine lv_iconst (v := 1) hx hb dL_law_514 (by decide) ?_
        refine lv_iadd hx hb dL_law_515 ?_
        refine hv_as (x := ((nI j) + 1)) (y := (nI (j + 1))) (nI_add j 1) ?_
        refine va_sld (i := (nI (j + 1))) hx hb hX hbl hbA hT.2.2.2.2.1 (vp_in_nI (by omega) (by omega)) dL_law_516 ?_
        refine lv_topi (fun g132 eg132 => ?_)
        have hsz : hv_n _ ≤ s.heap.size + 35 + 4113 ∧ hv_t _ ≤ hv_tot s.heap + 420409 + 32920 := lw_Jsize hJJ
        have hz1 := hT.1.2.2.1
        have hz2 := hT.1.2.2.2
        obtain ⟨fa, n, w, u, b1, d, ra, gh, hfa, hra, hrel, ⟨k, hI⟩, ⟨t2, nm, stt, dg, F, kd, hJ⟩⟩ := hJJ
        subst hfa
        refine lw_calli (va_runV (As := [.int g132]) (rest := []) ⟨hx, hb, hml, hown, hts⟩ (s_latest l D tc hI g132) (cwV 1 hts (tw_V tw_297 tw_298 tw_299 tw_1 tw_300) rfl rfl rfl (by decide +kernel) ⟨Nat.le_of_ble_eq_true rfl, Nat.le_of_ble_eq_true rfl⟩) (hv_preV (ci := 3) hK hT.1 (cs_kX hI.1) (by decide) rfl rfl) rfl rfl hl.1 rfl (lv_room (Nat.le_of_ble_eq_true rfl)) dL_law_517 ⟨by show (H.size - s.heap.size) + 0 ≤ 600000; omega, by show (hv_tot H - hv_tot s.heap) + 0 ≤ 7302250; omega⟩) hT (fun r133 v134 H locs hp135 hT hn1 ht1 => ?_)
        have hp1 : cp_latest fa n w u b1 d (s.heap.size + 35 + 2 * n, hv_tot s.heap + 420409 + 18 * n) g132 r133 v134 := hp135
        have hC : lw_C (s.heap.size + 35, hv_tot s.heap + 420409) (fa 0) v134 := cp_latest_C (T := (s.heap.size + 35, hv_tot s.heap + 420409)) hp1
        obtain ⟨ra1, hra1, hJ⟩ : ∃ ra1 : Nat → Nat, ra1 0 = y ∧ rf_J ra1 gh n b1 B t2 nm stt dg F kd (hv_sz r H.size (hv_tot H)) := ⟨rs_up ra H.size (hv_tot H), hra, rf_sz _ _ hJ⟩
        clear hra
        subst hra1
        refine lv_pop hx hb dL_law_520 rfl ?_
        refine lv_aload_n hx hb dL_law_521 rfl (lv_at hl 2 rfl) ?_
        refine lv_aload_n hx hb dL_law_522 rfl (lv_at hl 0 rfl) ?_
        refine lv_iload_n hx hb dL_law_523 rfl (lv_at hl 3 rfl) ?_
        refine lv_iconst (v := 1) hx hb dL_law_524 (by decide) ?_
        refine lv_iadd hx hb dL_law_525 ?_
        refine hv_as (x := ((nI j) + 1)) (y := (nI (j + 1))) (nI_add j 1) ?_
        refine va_sld (i := (nI (j + 1))) hx hb hX hbl hbA hT.2.2.2.2.1 (vp_in_nI (by omega) (by omega)) dL_law_526 ?_
        refine lv_topi (fun g136 eg136 => ?_)
        obtain rfl : g132 = g136 := eg132.trans eg136.symm
        have hsz : hv_n _ ≤ s.heap.size + 35 + 4113 ∧ hv_t _ ≤ hv_tot s.heap + 420409 + 32920 := lw_Csize hC
        have hz1 := hT.1.2.2.1
        have hz2 := hT.1.2.2.2
        have ho1 := hT.2.1.2.2.1
        have ho2 := hT.2.1.2.2.2
        refine lw_calli (va_runV (As := [.int g132]) (rest := []) ⟨hx, hb, hml, hown, hts⟩ (m_latest l D tc hJ g132) (cwV 1 hts (tw_V tw_473 tw_474 tw_475 tw_3 tw_476) rfl rfl rfl (by decide +kernel) ⟨Nat.le_of_ble_eq_true rfl, Nat.le_of_ble_eq_true rfl⟩) (hv_preV (ci := 4) hK hT.sw.1 (rs_k0 hJ.1) (by decide) rfl rfl) rfl rfl hl.1 rfl (lv_room (Nat.le_of_ble_eq_true rfl)) dL_law_527 ⟨by show (H.size - s.heap.size) + 0 ≤ 600000; omega, by show (hv_tot H - hv_tot s.heap) + 0 ≤ 7302250; omega⟩) hT.sw (fun r137 v138 H locs hp139 hT hn1 ht1 => ?_)
        have hp2 : mp_latest ra1 gh n b1 B g132 r137 v138 := hp139
        have hrs : rs_S ra1 v138 := mp_latest_S hp2
        have ev : hv_sz v134 H.size (hv_tot H) = v134 := lw_sz (by rw [hn1, hrs.1.2.1, ← hJ.1.1.2.1, ← ho1]; exact hz1) (by rw [ht1, hrs.1.2.2, ← hJ.1.1.2.2, ← ho2]; exact hz2)
        have hT := hT.sw
        rw [ev] at hT
        have hJJ := lw_latest (T := (s.heap.size + 35, hv_tot s.heap + 420409)) hrel hp1 hp2
        refine lv_pop hx hb dL_law_530 rfl ?_
        refine lv_goto (tgt := 547) hx hb dL_law_531 (by decide) ?_
        refine lv_iinc (v := (nI (j + 4))) (lv' := [(3, _), (0, _), (1, _), (2, _)]) hx hb dL_law_547 hl (k := 3) rfl (nI_add j 4) (by decide) rfl (fun ls hl => ?_)
        refine lv_goto (tgt := 18) hx hb dL_law_550 (by decide) ?_
        exact ih (j + 4) _ _ _ H locs ls (by omega) (by omega) (by omega) hJJ hT (lv_sub hl [1, 2, 3, 0] rfl)
      by_cases t32_16 : (g1 &&& 31) = 16
      · skip
        refine lv_tableIn (off := 502) (tgt := 534) hx hb dL_law_32 (by rw [t32_16]; decide) (by rw [t32_16]; decide) (by rw [t32_16]; rfl) (by decide) ?_
        refine lv_aload_n hx hb dL_law_534 rfl (lv_at hl 1 rfl) ?_
        have hsz : hv_n _ ≤ s.heap.size + 35 + 4113 ∧ hv_t _ ≤ hv_tot s.heap + 420409 + 32920 := lw_Jsize hJJ
        have hz1 := hT.1.2.2.1
        have hz2 := hT.1.2.2.2
        obtain ⟨fa, n, w, u, b1, d, ra, gh, hfa, hra, hrel, ⟨k, hI⟩, ⟨t2, nm, stt, dg, F, kd, hJ⟩⟩ := hJJ
        subst hfa
        refine lw_calli (va_runV (As := []) (rest := []) ⟨hx, hb, hml, hown, hts⟩ (s_check l D tc hI) (cwV 0 hts (tw_V tw_301 tw_302 tw_303 tw_1 tw_304) rfl rfl rfl (by decide +kernel) ⟨Nat.le_of_ble_eq_true rfl, Nat.le_of_ble_eq_true rfl⟩) (hv_preV (ci := 3) hK hT.1 (cs_kX hI.1) (by decide) rfl rfl) rfl rfl hl.1 rfl (lv_room (Nat.le_of_ble_eq_true rfl)) dL_law_535 ⟨by show (H.size - s.heap.size) + 0 ≤ 600000; omega, by show (hv_tot H - hv_tot s.heap) + 0 ≤ 7302250; omega⟩) hT (fun r140 v141 H locs hp142 hT hn1 ht1 => ?_)
        have hp1 : cp_check fa n w u b1 d (s.heap.size + 35 + 2 * n, hv_tot s.heap + 420409 + 18 * n) r140 v141 := hp142
        have hC : lw_C (s.heap.size + 35, hv_tot s.heap + 420409) (fa 0) v141 := cp_check_C (T := (s.heap.size + 35, hv_tot s.heap + 420409)) hp1
        obtain ⟨ra1, hra1, hJ⟩ : ∃ ra1 : Nat → Nat, ra1 0 = y ∧ rf_J ra1 gh n b1 B t2 nm stt dg F kd (hv_sz r H.size (hv_tot H)) := ⟨rs_up ra H.size (hv_tot H), hra, rf_sz _ _ hJ⟩
        clear hra
        subst hra1
        refine lv_pop hx hb dL_law_538 rfl ?_
        refine lv_aload_n hx hb dL_law_539 rfl (lv_at hl 2 rfl) ?_
        have hsz : hv_n _ ≤ s.heap.size + 35 + 4113 ∧ hv_t _ ≤ hv_tot s.heap + 420409 + 32920 := lw_Csize hC
        have hz1 := hT.1.2.2.1
        have hz2 := hT.1.2.2.2
        have ho1 := hT.2.1.2.2.1
        have ho2 := hT.2.1.2.2.2
        refine lw_calli (va_runV (As := []) (rest := []) ⟨hx, hb, hml, hown, hts⟩ (m_check l D tc hJ) (cwV 0 hts (tw_V tw_477 tw_478 tw_479 tw_3 tw_480) rfl rfl rfl (by decide +kernel) ⟨Nat.le_of_ble_eq_true rfl, Nat.le_of_ble_eq_true rfl⟩) (hv_preV (ci := 4) hK hT.sw.1 (rs_k0 hJ.1) (by decide) rfl rfl) rfl rfl hl.1 rfl (lv_room (Nat.le_of_ble_eq_true rfl)) dL_law_540 ⟨by show (H.size - s.heap.size) + 0 ≤ 600000; omega, by show (hv_tot H - hv_tot s.heap) + 0 ≤ 7302250; omega⟩) hT.sw (fun r143 v144 H locs hp145 hT hn1 ht1 => ?_)
        have hp2 : mp_check ra1 gh n b1 B r143 v144 := hp145
        have hrs : rs_S ra1 v144 := mp_check_S hp2
        have ev : hv_sz v141 H.size (hv_tot H) = v141 := lw_sz (by rw [hn1, hrs.1.2.1, ← hJ.1.1.2.1, ← ho1]; exact hz1) (by rw [ht1, hrs.1.2.2, ← hJ.1.1.2.2, ← ho2]; exact hz2)
        have hT := hT.sw
        rw [ev] at hT
        have hJJ := lw_check (T := (s.heap.size + 35, hv_tot s.heap + 420409)) hrel hp1 hp2
        refine lv_pop hx hb dL_law_543 rfl ?_
        refine lv_goto (tgt := 547) hx hb dL_law_544 (by decide) ?_
        refine lv_iinc (v := (nI (j + 4))) (lv' := [(3, _), (0, _), (1, _), (2, _)]) hx hb dL_law_547 hl (k := 3) rfl (nI_add j 4) (by decide) rfl (fun ls hl => ?_)
        refine lv_goto (tgt := 18) hx hb dL_law_550 (by decide) ?_
        exact ih (j + 4) _ _ _ H locs ls (by omega) (by omega) (by omega) hJJ hT (lv_sub hl [1, 2, 3, 0] rfl)
      refine lv_tableOut (tgt := 547) hx hb dL_law_32 (by have h0 := lv_neT t32_0 (a := 0) rfl; have h1 := lv_neT t32_1 (a := 1) rfl; have h2 := lv_neT t32_2 (a := 2) rfl; have h3 := lv_neT t32_3 (a := 3) rfl; have h4 := lv_neT t32_4 (a := 4) rfl; have h5 := lv_neT t32_5 (a := 5) rfl; have h6 := lv_neT t32_6 (a := 6) rfl; have h7 := lv_neT t32_7 (a := 7) rfl; have h8 := lv_neT t32_8 (a := 8) rfl; have h9 := lv_neT t32_9 (a := 9) rfl; have h10 := lv_neT t32_10 (a := 10) rfl; have h11 := lv_neT t32_11 (a := 11) rfl; have h12 := lv_neT t32_12 (a := 12) rfl; have h13 := lv_neT t32_13 (a := 13) rfl; have h14 := lv_neT t32_14 (a := 14) rfl; have h15 := lv_neT t32_15 (a := 15) rfl; have h16 := lv_neT t32_16 (a := 16) rfl; omega) (by decide) ?_
      refine lv_iinc (v := (nI (j + 4))) (lv' := [(3, _), (0, _), (1, _), (2, _)]) hx hb dL_law_547 hl (k := 3) rfl (nI_add j 4) (by decide) rfl (fun ls hl => ?_)
      refine lv_goto (tgt := 18) hx hb dL_law_550 (by decide) ?_
      exact ih (j + 4) _ _ _ H locs ls (by omega) (by omega) (by omega) hJJ hT (lv_sub hl [1, 2, 3, 0] rfl)