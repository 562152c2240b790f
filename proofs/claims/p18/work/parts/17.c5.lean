theorem cs_all {n i : Nat} {r : Int32} (hr : r = (((1 : Int32) <<< (nI n &&& 31)) - 1) &&& (((1 : Int32) <<< (nI i &&& 31)) ^^^ (-1))) (hn : n ≤ 8) (hi : i < 8) : ∀ t, t < 8 → ¬ hb_ r (nI t) = 0 → t < n := by
  have key : ∀ n, n < 9 → ∀ i, i < 8 → ∀ t, t < 8 → ¬ hb_ ((((1 : Int32) <<< (nI n &&& 31)) - 1) &&& (((1 : Int32) <<< (nI i &&& 31)) ^^^ (-1))) (nI t) = 0 → t < n := by decide +kernel
  subst hr
  exact key n (by omega) i hi
theorem cs_bit1 {j t : Nat} (hj8 : j < 8) (ht : t < 8) (h : ¬ hb_ ((1 : Int32) <<< (nI j &&& 31)) (nI t) = 0) : t = j := by
  have key : ∀ j, j < 8 → ∀ t, t < 8 → ¬ hb_ ((1 : Int32) <<< (nI j &&& 31)) (nI t) = 0 → t = j := by decide +kernel
  exact key j hj8 t ht h
theorem cs_bit {n j : Nat} (hj8 : j < 8) (hj : j < n) : ∀ t, t < 8 → ¬ hb_ ((1 : Int32) <<< (nI j &&& 31)) (nI t) = 0 → t < n := fun t ht h => by rw [cs_bit1 hj8 ht h]; exact hj
theorem cs_every {n j : Nat} (hn : n ≤ 8) (hj : j < n) : ¬ hb_ (((1 : Int32) <<< (nI n &&& 31)) - 1) (nI j) = 0 := by
  have key : ∀ n, n < 9 → ∀ j, j < 8 → j < n → ¬ hb_ (((1 : Int32) <<< (nI n &&& 31)) - 1) (nI j) = 0 := by decide +kernel
  exact key n (by omega) j (by omega) hj
theorem hb_0 {j : Nat} (hj : j < 8) : hb_ 0 (nI j) = 0 := by
  have key : ∀ j, j < 8 → hb_ 0 (nI j) = 0 := by decide +kernel
  exact key j hj
theorem hb_or {x : Int32} {j k : Nat} (hj : j < 8) (hk : k < 8) (h : ¬ hb_ (x ||| ((1 : Int32) <<< (nI j &&& 31))) (nI k) = 0) : ¬ hb_ x (nI k) = 0 ∨ k = j := by
  by_cases q : hb_ x (nI k) = 0
  · refine Or.inr (cs_bit1 hj hk (fun z => h ?_))
    unfold hb_ at *
    split at q
    · split at z
      · rename_i h1 h2
        rw [if_pos]
        apply Int32.toBitVec_inj.mp
        have e1 := congrArg Int32.toBitVec h1
        have e2 := congrArg Int32.toBitVec h2
        rw [Int32.toBitVec_and, Int32.toBitVec_shiftRight] at e1 e2 ⊢
        unfold BitVec.sshiftRight' at *
        rw [Int32.toBitVec_or, BitVec.sshiftRight_or_distrib, BitVec.and_or_distrib_right, e1, e2]; rfl
      · exact absurd z (by decide)
    · exact absurd q (by decide)
  · exact Or.inl q
theorem pc_Ti {C : PC} {i j : Nat} {t : Nat → Prop} (z : (pc_T C i t).T i j) : t j := by
  have z : (if i = i then t else C.T i) j := z
  rw [if_pos rfl] at z; exact z
theorem pc_Oi {C : PC} {i j s : Nat} : (pc_O C i j s).O i j = s := by
  show (if i = i then va_up (C.O i) j s else C.O i) j = s
  rw [if_pos rfl]; exact va_up_self ..
theorem pc_On {C : PC} {i j s k : Nat} (h : k ≠ j) : (pc_O C i j s).O i k = C.O i k := by
  show (if i = i then va_up (C.O i) j s else C.O i) k = C.O i k
  rw [if_pos rfl]; exact va_up_ne _ _ h
theorem pc_D_id {C : PC} {i : Nat} : pc_D C i (C.D i) = C := by
  have e : va_up C.D i (C.D i) = C.D := by
    funext k
    by_cases q : k = i
    · rw [q, va_up_self]
    · exact va_up_ne _ _ q
  unfold pc_D
  rw [e]
section QM
variable {F : PF} {G : PG} {am i t a s : Nat}
theorem qm_1 (hi : i < F.n) (ht : t < F.n) : qm_ F G am 1 1 (nI i) (nI t) 0 0 := ⟨rfl, 1, i, t, 0, 0, rfl, rfl, rfl, rfl, rfl, hi, ht, Nat.zero_le _, by decide, by decide, fun z => absurd z (by decide), fun z => absurd z (by decide), fun z => absurd z (by decide), fun z => absurd z (by decide), fun z => absurd z (by decide), fun z => absurd z (by decide), fun z => absurd z (by decide)⟩
theorem qm_2 (hi : i < F.n) (ht : t < F.n) (h : G.y i = 1) : qm_ F G am 1 2 (nI i) (nI t) 0 0 := ⟨rfl, 2, i, t, 0, 0, rfl, rfl, rfl, rfl, rfl, hi, ht, Nat.zero_le _, by decide, by decide, fun _ => h, fun z => absurd z (by decide), fun z => absurd z (by decide), fun z => absurd z (by decide), fun z => absurd z (by decide), fun z => absurd z (by decide), fun z => absurd z (by decide)⟩
theorem qm_3 (hi : i < F.n) (ht : t < F.n) : qm_ F G am 1 3 (nI i) (nI t) 0 0 := ⟨rfl, 3, i, t, 0, 0, rfl, rfl, rfl, rfl, rfl, hi, ht, Nat.zero_le _, by decide, by decide, fun z => absurd z (by decide), fun z => absurd z (by decide), fun z => absurd z (by decide), fun z => absurd z (by decide), fun z => absurd z (by decide), fun z => absurd z (by decide), fun z => absurd z (by decide)⟩
theorem qm_4 (hi : i < F.n) (ht : t < F.n) (ha : a ≤ am) : qm_ F G am 1 4 (nI i) (nI t) (nI a) 0 := ⟨rfl, 4, i, t, a, 0, rfl, rfl, rfl, rfl, rfl, hi, ht, ha, by decide, by decide, fun z => absurd z (by decide), fun z => absurd z (by decide), fun z => absurd z (by decide), fun z => absurd z (by decide), fun z => absurd z (by decide), fun z => absurd z (by decide), fun z => absurd z (by decide)⟩
theorem qm_5 (hi : i < F.n) (ht : t < F.n) (ha : a ≤ am) (hs : s ≤ 5) (h : (s = 2 → G.c = 1) ∧ (s = 4 → pg_CO F G) ∧ (s = 5 → pg_AB F G)) : qm_ F G am 1 5 (nI i) (nI t) (nI a) (nI s) := ⟨rfl, 5, i, t, a, s, rfl, rfl, rfl, rfl, rfl, hi, ht, ha, by decide, hs, fun z => absurd z (by decide), fun _ => h, fun z => absurd z (by decide), fun z => absurd z (by decide), fun z => absurd z (by decide), fun z => absurd z (by decide), fun z => absurd z (by decide)⟩
theorem qm_6 (hi : i < F.n) (ht : t < F.n) (ha : a ≤ am) (h : G.c = 1) (hk : G.K i a = 2) : qm_ F G am 1 6 (nI i) (nI t) (nI a) 0 := ⟨rfl, 6, i, t, a, 0, rfl, rfl, rfl, rfl, rfl, hi, ht, ha, by decide, by decide, fun z => absurd z (by decide), fun z => absurd z (by decide), fun _ => ⟨h, hk⟩, fun z => absurd z (by decide), fun z => absurd z (by decide), fun z => absurd z (by decide), fun z => absurd z (by decide)⟩
theorem qm_7 (hi : i < F.n) (ht : t < F.n) (ha : a ≤ am) (hk : G.K i a = 3) : qm_ F G am 1 7 (nI i) (nI t) (nI a) 0 := ⟨rfl, 7, i, t, a, 0, rfl, rfl, rfl, rfl, rfl, hi, ht, ha, by decide, by decide, fun z => absurd z (by decide), fun z => absurd z (by decide), fun z => absurd z (by decide), fun _ => hk, fun z => absurd z (by decide), fun z => absurd z (by decide), fun z => absurd z (by decide)⟩
theorem qm_8 (hi : i < F.n) (ht : t < F.n) (ha : a ≤ am) (hk : G.K t a = G.e i ∧ G.e i ≠ 0) : qm_ F G am 1 8 (nI i) (nI t) (nI a) 0 := ⟨rfl, 8, i, t, a, 0, rfl, rfl, rfl, rfl, rfl, hi, ht, ha, by decide, by decide, fun z => absurd z (by decide), fun z => absurd z (by decide), fun z => absurd z (by decide), fun z => absurd z (by decide), fun _ => hk, fun z => absurd z (by decide), fun z => absurd z (by decide)⟩
theorem qm_9 (hi : i < F.n) (ht : t < F.n) (h : pg_CO F G) : qm_ F G am 1 9 (nI i) (nI t) 0 0 := ⟨rfl, 9, i, t, 0, 0, rfl, rfl, rfl, rfl, rfl, hi, ht, Nat.zero_le _, by decide, by decide, fun z => absurd z (by decide), fun z => absurd z (by decide), fun z => absurd z (by decide), fun z => absurd z (by decide), fun z => absurd z (by decide), fun _ => h, fun z => absurd z (by decide)⟩
theorem qm_10 (hi : i < F.n) (ht : t < F.n) (h : pg_AB F G) : qm_ F G am 1 10 (nI i) (nI t) 0 0 := ⟨rfl, 10, i, t, 0, 0, rfl, rfl, rfl, rfl, rfl, hi, ht, Nat.zero_le _, by decide, by decide, fun z => absurd z (by decide), fun z => absurd z (by decide), fun z => absurd z (by decide), fun z => absurd z (by decide), fun z => absurd z (by decide), fun z => absurd z (by decide), fun _ => h⟩
theorem qm_dec {x r : Int32} {s1 : Nat} (hxs : x = nI s1) (hs : s1 = 4 ∧ pg_CO F G ∨ s1 = 5 ∧ pg_AB F G) (hr : r = if x = 4 then 9 else 10) (hi : i < F.n) (ht : t < F.n) : qm_ F G am 1 r (nI i) (nI t) 0 0 := by
  rcases hs with ⟨e, q⟩ | ⟨e, q⟩
  · rw [hr, hxs, e, if_pos (show nI 4 = 4 from rfl)]; exact qm_9 hi ht q
  · rw [hr, hxs, e, if_neg (by decide)]; exact qm_10 hi ht q
end QM

set_option maxHeartbeats 800000 in
set_option maxRecDepth 100000 in
theorem c_decide (l : Launch) (D : va_G) (tc : Nat → ClassId) {ys : Nat → Prop} {qc qa am : Nat} {G : PG} {C : PC} {fa : Nat → Nat} {n : Nat} {w u : Nat → Nat} {d : Nat → Nat → Nat} {g : Nat × Nat} {k : Nat} {hd : List Nat} {v : hv_V} (hI : cj_I ys qc qa am G C fa n w u 1 d g k hd v) {i : Nat} (hi : i < n) (hh : hd.length ≤ 1) (x : Int32) {s1 : Nat} (hxs : x = nI s1) (hs : s1 = 4 ∧ pg_CO ⟨n, w, ys, qc, qa⟩ G ∨ s1 = 5 ∧ pg_AB ⟨n, w, ys, qc, qa⟩ G) : Met l yX3_decide (Cond.code yX3_decide cX3_decide 4 none :: lw_B) ({ frames := 3, cells := 8, slots := 64, locals := 67 }) (va_Pc [.ref (fa 0), .int (nI i), .int x] (hv_Pre D tc v)) (va_Qv (fun (v1 : hv_V) => ∃ k1, cj_I ys qc qa am G (pc_D (pc_S C i s1) i 0) fa n w u 1 d g k1 hd v1) (hv_Post D tc (hv_A v)) (hv_A v)) (8) (64) (hv_A v) := by
  refine hv_metv l (by decide) (Nat.le_of_ble_eq_true rfl) ?_
  intro p e s m args below meth c Q X hret hK hz H locs ls hT hl
  obtain ⟨hx, hb, hml, hts, hown, hin0⟩ := X
  have hown : s.vm.findClass "CommitSites" = some m.cls := hown
  have hl : lv_has ls 4 [(0, .ref (fa 0)), (1, .int (nI i)), (2, .int x)] := hl
  have hS := hI.1.1
  refine lv_aload_n hx hb dX3_decide_0 rfl (lv_at hl 0 rfl) ?_
  refine hv_gets (ci := 3) (C := RX3) (T := TX3) (N := 12) hx hb hts (tw_cs in_X3) hown hK hT (cs_kX hS) (by decide) rfl 0 (by decide) (hts _ (tw_c tw_47)) rfl (x := (fa 1)) (cs_pS hS) dX3_decide_1 ?_
  refine lv_iload_n hx hb dX3_decide_4 rfl (lv_at hl 1 rfl) ?_
  refine hv_alds (t := 0) hx hb hK hT (cs_kS hS) rfl rfl (cs_in8 (cs_lt8 hS hi)) (x := (fa (16 + i))) (cs_qS hS hi) dX3_decide_5 ?_
  refine lv_astore_n (lv' := [(3, _), (0, _), (1, _), (2, _)]) hx hb dX3_decide_6 rfl hl (by decide) rfl (fun ls hl => ?_)
  refine lv_aload_n hx hb dX3_decide_7 rfl (lv_at hl 1 rfl) ?_
  refine lv_aload_n hx hb dX3_decide_8 rfl (lv_at hl 0 rfl) ?_
  refine lv_iload_n hx hb dX3_decide_9 rfl (lv_at hl 3 rfl) ?_
  refine hv_callv (va_runV (As := [.ref (fa (16 + i)), .int x]) (rest := []) ⟨hx, hb, hml, hown, hts⟩ (c_become l D tc hI hi x (s1 := s1) hxs (by omega)) (cwV 2 hts (tw_V tw_124 tw_125 tw_486 tw_1 tw_126) rfl rfl rfl (by decide +kernel) ⟨Nat.le_of_ble_eq_true rfl, Nat.le_of_ble_eq_true rfl⟩) (hv_preV (ci := 3) hK hT.1 (cs_kX hS) (by decide) rfl rfl) rfl rfl hl.1 rfl (lv_room (Nat.le_of_ble_eq_true rfl)) dX3_decide_10 ⟨by show 0 + 0 ≤ 8; omega, by show 0 + 0 ≤ 64; omega⟩) hT (fun v1 H locs hp2 hT => ?_)
  have hI := hp2
  have hS := hI.1.1
  refine lv_aload_n hx hb dX3_decide_13 rfl (lv_at hl 0 rfl) ?_
  refine lv_iconst (v := 0) hx hb dX3_decide_14 (by decide) ?_
  refine hv_puti (ci := 2) (C := RX2) (T := TX2) (N := 10) hx hb hts (tw_cs in_X2) tyX2 tyX2_ok nmX2 hown hK hT (cs_ks hS hi) (by decide) rfl 6 (by decide) (hts _ (tw_c tw_85)) rfl rfl (x := 0) rfl rfl dX3_decide_15 (fun H locs hT => ?_)
  have hI := cj_206 (i := i) (x := 0) (s := 0) rfl (by decide) hi hI
  have hS := hI.1.1
  refine lv_aload_n hx hb dX3_decide_18 rfl (lv_at hl 1 rfl) ?_
  refine hv_gets (ci := 3) (C := RX3) (T := TX3) (N := 12) hx hb hts (tw_cs in_X3) hown hK hT (cs_kX hS) (by decide) rfl 1 (by decide) (hts _ (tw_c tw_48)) rfl (x := (fa 2)) (cs_pN hS) dX3_decide_19 ?_
  refine lv_iload_n hx hb dX3_decide_22 rfl (lv_at hl 2 rfl) ?_
  refine lv_aload_n hx hb dX3_decide_23 rfl (lv_at hl 1 rfl) ?_
  refine lv_iload_n hx hb dX3_decide_24 rfl (lv_at hl 2 rfl) ?_
  refine hv_calli (va_runV (As := [.int (nI i)]) (rest := [.int (nI i), .ref (fa 2)]) ⟨hx, hb, hml, hown, hts⟩ (c_allBut l D tc hS hI.1.2.1.1 (nI i)) (cwV 1 hts (tw_V tw_131 tw_132 tw_487 tw_1 tw_133) rfl rfl rfl (by decide +kernel) ⟨Nat.le_of_ble_eq_true rfl, Nat.le_of_ble_eq_true rfl⟩) (hv_preV (ci := 3) hK hT.1 (cs_kX hS) (by decide) rfl rfl) rfl rfl hl.1 rfl (lv_room (Nat.le_of_ble_eq_true rfl)) dX3_decide_25 ⟨by show 0 + 0 + 0 ≤ 8; omega, by show 0 + 0 + 0 ≤ 64; omega⟩) hT (fun r5 v3 H locs hp4 hT => ?_)
  obtain ⟨evhp4, qhp4⟩ := hp4
  rw [evhp4] at hT
  refine lv_iload_n hx hb dX3_decide_28 rfl (lv_at hl 3 rfl) ?_
  refine hv_calli (va_runS (As := [.int x]) (rest := [.int r5, .int (nI i), .ref (fa 2)]) ⟨hx, hb, hml, hown, hts⟩ (c_tidingsOf l D tc x) (va_cwS 1 hts (tw_S tw_183 tw_184 tw_1 tw_185) rfl rfl rfl (by decide +kernel) ⟨Nat.le_of_ble_eq_true rfl, Nat.le_of_ble_eq_true rfl⟩) (hv_preS hK hT.1) rfl rfl hl.1 rfl (lv_room (Nat.le_of_ble_eq_true rfl)) dX3_decide_29 ⟨by show 0 + 0 + 0 + 0 ≤ 8; omega, by show 0 + 0 + 0 + 0 ≤ 64; omega⟩) hT (fun r8 v6 H locs hp7 hT => ?_)
  obtain ⟨evhp7, qhp7⟩ := hp7
  rw [evhp7] at hT
  refine lv_iconst (v := 0) hx hb dX3_decide_32 (by decide) ?_
  refine lv_iconst (v := 0) hx hb dX3_decide_33 (by decide) ?_
  refine hv_callv (va_runV (As := [.int (nI i), .int r5, .int r8, .int 0, .int 0]) (rest := []) ⟨hx, hb, hml, hown, hts⟩ (c_send l D tc hI hi r5 r8 0 0 (cs_all qhp4 (cs_n8 hS) (cs_lt8 hS hi)) hh (fun t ht hb => qm_dec hxs hs qhp7 hi ((cs_all qhp4 (cs_n8 hS) (cs_lt8 hS hi)) t ht hb))) (cwV 5 hts (tw_V tw_137 tw_138 tw_139 tw_2 tw_140) rfl rfl rfl (by decide +kernel) ⟨Nat.le_of_ble_eq_true rfl, Nat.le_of_ble_eq_true rfl⟩) (hv_preV (ci := 1) hK hT.1 (cs_kN hS) (by decide) rfl rfl) rfl rfl hl.1 rfl (lv_room (Nat.le_of_ble_eq_true rfl)) dX3_decide_34 ⟨by show 0 + 0 + 0 + 0 + 8 ≤ 8; omega, by show 0 + 0 + 0 + 0 + 64 ≤ 64; omega⟩) hT (fun v9 H locs hp10 hT => ?_)
  obtain ⟨_, hI⟩ := hp10
  have hS := hI.1.1
  exact hret _ v9 _ _ _ _ _ dX3_decide_37 hT ⟨_, hI⟩ (by show 0 + 0 + 0 + 0 + 8 ≤ 8; omega) (by show 0 + 0 + 0 + 0 + 64 ≤ 64; omega)

set_option maxHeartbeats 800000 in
set_option maxRecDepth 100000 in
theorem c_attempt (l : Launch) (D : va_G) (tc : Nat → ClassId) {ys : Nat → Prop} {qc qa am : Nat} {G : PG} {C : PC} {fa : Nat → Nat} {n : Nat} {w u : Nat → Nat} {d : Nat → Nat → Nat} {g : Nat × Nat} {k : Nat} {hd : List Nat} {v : hv_V} (hI : cj_I ys qc qa am G C fa n w u 1 d g k hd v) {i : Nat} (hi : i < n) (hh : hd.length ≤ 1) (hP : pr_ok ⟨n, w, ys, qc, qa⟩ G C) (h9 : am < 1000000000) : Met l yX3_attempt (Cond.code yX3_attempt cX3_attempt 3 none :: lw_B) ({ frames := 3, cells := 8, slots := 64, locals := 67 }) (va_Pc [.ref (fa 0), .int (nI i)] (hv_Pre D tc v)) (va_Qv (fun (v1 : hv_V) => ∃ k1 C1, cj_I ys qc qa (am + 1) G C1 fa n w u 1 d g k1 hd v1 ∧ pr_ok ⟨n, w, ys, qc, qa⟩ G C1) (hv_Post D tc (hv_A v)) (hv_A v)) (8) (64) (hv_A v) := by
  refine hv_metv l (by decide) (Nat.le_of_ble_eq_true rfl) ?_
  intro p e s m args below meth c Q X hret hK hz H locs ls hT hl
  obtain ⟨hx, hb, hml, hts, hown, hin0⟩ := X
  have hown : s.vm.findClass "CommitSites" = some m.cls := hown
  have hl : lv_has ls 3 [(0, .ref (fa 0)), (1, .int (nI i))] := hl
  have hS := hI.1.1
  have hs5 := cj_s5 hI hi
  have ham := cj_am hI hi
  have hI := cj_le pg_le.rf (Nat.le_succ am) h9 hI
  refine lv_aload_n hx hb dX3_attempt_0 rfl (lv_at hl 0 rfl) ?_
  refine hv_gets (ci := 3) (C := RX3) (T := TX3) (N := 12) hx hb hts (tw_cs in_X3) hown hK hT (cs_kX hS) (by decide) rfl 0 (by decide) (hts _ (tw_c tw_47)) rfl (x := (fa 1)) (cs_pS hS) dX3_attempt_1 ?_
  refine lv_iload_n hx hb dX3_attempt_4 rfl (lv_at hl 1 rfl) ?_
  refine hv_alds (t := 0) hx hb hK hT (cs_kS hS) rfl rfl (cs_in8 (cs_lt8 hS hi)) (x := (fa (16 + i))) (cs_qS hS hi) dX3_attempt_5 ?_
  refine lv_astore_n (lv' := [(2, _), (0, _), (1, _)]) hx hb dX3_attempt_6 rfl hl (by decide) rfl (fun ls hl => ?_)
  refine lv_aload_n hx hb dX3_attempt_7 rfl (lv_at hl 0 rfl) ?_
  refine lv_dup hx hb dX3_attempt_8 rfl ?_
  refine hv_geti (ci := 2) (C := RX2) (T := TX2) (N := 10) hx hb hts (tw_cs in_X2) hown hK hT (cs_ks hS hi) (by decide) rfl 7 (by decide) (hts _ (tw_c tw_87)) rfl dX3_attempt_9 ?_
  refine lv_topi (fun g1 eg1 => ?_)
  have eg1 : g1 = (nI (C.A i)) := eg1.trans (by have h := cj_a hI hi; exact h)
  subst eg1
  refine lv_iconst (v := 1) hx hb dX3_attempt_12 (by decide) ?_
  refine lv_iadd hx hb dX3_attempt_13 ?_
  refine hv_as (x := ((nI (C.A i)) + 1)) (y := (nI (C.A i + 1))) (nI_1 _) ?_
  refine hv_puti (ci := 2) (C := RX2) (T := TX2) (N := 10) hx hb hts (tw_cs in_X2) tyX2 tyX2_ok nmX2 hown hK hT (cs_ks hS hi) (by decide) rfl 7 (by decide) (hts _ (tw_c tw_87)) rfl rfl (x := (nI (C.A i + 1))) rfl rfl dX3_attempt_14 (fun H locs hT => ?_)
  have hI := cj_207 (i := i) (x := (nI (C.A i + 1))) (s := (C.A i + 1)) rfl (by have := cj_am hI hi; omega) hi hI
  have hS := hI.1.1
  refine lv_aload_n hx hb dX3_attempt_17 rfl (lv_at hl 0 rfl) ?_
  refine lv_iconst (v := 3) hx hb dX3_attempt_18 (by decide) ?_
  refine hv_puti (ci := 2) (C := RX2) (T := TX2) (N := 10) hx hb hts (tw_cs in_X2) tyX2 tyX2_ok nmX2 hown hK hT (cs_ks hS hi) (by decide) rfl 6 (by decide) (hts _ (tw_c tw_85)) rfl rfl (x := 3) rfl rfl dX3_attempt_19 (fun H locs hT => ?_)
  have hI := cj_206 (i := i) (x := 3) (s := 3) rfl (by decide) hi hI
  have hS := hI.1.1
  refine lv_aload_n hx hb dX3_attempt_22 rfl (lv_at hl 0 rfl) ?_
  refine lv_iconst (v := 1) hx hb dX3_attempt_23 (by decide) ?_
  refine lv_iload_n hx hb dX3_attempt_24 rfl (lv_at hl 2 rfl) ?_
  refine lv_ishl hx hb dX3_attempt_25 ?_
  refine hv_puti (ci := 2) (C := RX2) (T := TX2) (N := 10) hx hb hts (tw_cs in_X2) tyX2 tyX2_ok nmX2 hown hK hT (cs_ks hS hi) (by decide) rfl 2 (by decide) (hts _ (tw_c tw_77)) rfl rfl (x := (1 <<< ((nI i) &&& 31))) rfl rfl dX3_attempt_26 (fun H locs hT => ?_)
  have hI := cj_202 (i := i) (x := (1 <<< ((nI i) &&& 31))) hi hI
  have hS := hI.1.1
  refine lv_aload_n hx hb dX3_attempt_29 rfl (lv_at hl 0 rfl) ?_
  refine hv_gets (ci := 2) (C := RX2) (T := TX2) (N := 10) hx hb hts (tw_cs in_X2) hown hK hT (cs_ks hS hi) (by decide) rfl 1 (by decide) (hts _ (tw_c tw_75)) rfl (x := (fa (24 + i))) (cs_po hS hi) dX3_attempt_30 ?_
  refine lv_iload_n hx hb dX3_attempt_33 rfl (lv_at hl 2 rfl) ?_
  refine lv_aload_n hx hb dX3_attempt_34 rfl (lv_at hl 0 rfl) ?_
  refine hv_geti (ci := 2) (C := RX2) (T := TX2) (N := 10) hx hb hts (tw_cs in_X2) hown hK hT (cs_ks hS hi) (by decide) rfl 4 (by decide) (hts _ (tw_c tw_81)) rfl dX3_attempt_35 ?_
  refine lv_topi (fun g2 eg2 => ?_)
  have eg2 : g2 = (nI (C.S i)) := eg2.trans (by have h := cj_s hI hi; exact h)
  subst eg2
  refine hv_iast (x := (nI (C.S i))) hx hb hK hT (cs_ko hS hi) (cs_in8 (cs_lt8 hS hi)) dX3_attempt_38 (fun H locs hT => ?_)
  have hI := cj_o (i := i) (j := i) (x := (nI (C.S i))) (s := (C.S i)) rfl hs5 (cs_lt8 hS hi) hi hI
  have hS := hI.1.1
  refine lv_aload_n hx hb dX3_attempt_39 rfl (lv_at hl 1 rfl) ?_
  refine hv_gets (ci := 3) (C := RX3) (T := TX3) (N := 12) hx hb hts (tw_cs in_X3) hown hK hT (cs_kX hS) (by decide) rfl 1 (by decide) (hts _ (tw_c tw_48)) rfl (x := (fa 2)) (cs_pN hS) dX3_attempt_40 ?_
  refine lv_iload_n hx hb dX3_attempt_43 rfl (lv_at hl 2 rfl) ?_
  refine lv_aload_n hx hb dX3_attempt_44 rfl (lv_at hl 1 rfl) ?_
  refine lv_iload_n hx hb dX3_attempt_45 rfl (lv_at hl 2 rfl) ?_
  refine hv_calli (va_runV (As := [.int (nI i)]) (rest := [.int (nI i), .ref (fa 2)]) ⟨hx, hb, hml, hown, hts⟩ (c_allBut l D tc hS hI.1.2.1.1 (nI i)) (cwV 1 hts (tw_V tw_131 tw_132 tw_487 tw_1 tw_133) rfl rfl rfl (by decide +kernel) ⟨Nat.le_of_ble_eq_true rfl, Nat.le_of_ble_eq_true rfl⟩) (hv_preV (ci := 3) hK hT.1 (cs_kX hS) (by decide) rfl rfl) rfl rfl hl.1 rfl (lv_room (Nat.le_of_ble_eq_true rfl)) dX3_attempt_46 ⟨by show 0 + 0 ≤ 8; omega, by show 0 + 0 ≤ 64; omega⟩) hT (fun r5 v3 H locs hp4 hT => ?_)
  obtain ⟨evhp4, qhp4⟩ := hp4
  rw [evhp4] at hT
  refine lv_iconst (v := 4) hx hb dX3_attempt_49 (by decide) ?_
  refine lv_aload_n hx hb dX3_attempt_50 rfl (lv_at hl 0 rfl) ?_
  refine hv_geti (ci := 2) (C := RX2) (T := TX2) (N := 10) hx hb hts (tw_cs in_X2) hown hK hT (cs_ks hS hi) (by decide) rfl 7 (by decide) (hts _ (tw_c tw_87)) rfl dX3_attempt_51 ?_
  refine lv_topi (fun g6 eg6 => ?_)
  have eg6 : g6 = (nI (C.A i + 1)) := eg6.trans (by have h := cj_a hI hi; exact h.trans (congrArg nI (va_up_self ..)))
  subst eg6
  refine lv_iconst (v := 0) hx hb dX3_attempt_54 (by decide) ?_
  refine hv_callv (va_runV (As := [.int (nI i), .int r5, .int 4, .int (nI (C.A i + 1)), .int 0]) (rest := []) ⟨hx, hb, hml, hown, hts⟩ (c_send l D tc hI hi r5 4 (nI (C.A i + 1)) 0 (cs_all qhp4 (cs_n8 hS) (cs_lt8 hS hi)) hh (fun t ht hb => qm_4 hi ((cs_all qhp4 (cs_n8 hS) (cs_lt8 hS hi)) t ht hb) (by omega))) (cwV 5 hts (tw_V tw_137 tw_138 tw_139 tw_2 tw_140) rfl rfl rfl (by decide +kernel) ⟨Nat.le_of_ble_eq_true rfl, Nat.le_of_ble_eq_true rfl⟩) (hv_preV (ci := 1) hK hT.1 (cs_kN hS) (by decide) rfl rfl) rfl rfl hl.1 rfl (lv_room (Nat.le_of_ble_eq_true rfl)) dX3_attempt_55 ⟨by show 0 + 0 + 8 ≤ 8; omega, by show 0 + 0 + 64 ≤ 64; omega⟩) hT (fun v7 H locs hp8 hT => ?_)
  obtain ⟨_, hI⟩ := hp8
  have hS := hI.1.1
  refine lv_aload_n hx hb dX3_attempt_58 rfl (lv_at hl 1 rfl) ?_
  refine lv_aload_n hx hb dX3_attempt_59 rfl (lv_at hl 0 rfl) ?_
  refine lv_aload_n hx hb dX3_attempt_60 rfl (lv_at hl 1 rfl) ?_
  refine hv_geti (ci := 3) (C := RX3) (T := TX3) (N := 12) hx hb hts (tw_cs in_X3) hown hK hT (cs_kX hS) (by decide) rfl 7 (by decide) (hts _ (tw_c tw_54)) rfl dX3_attempt_61 ?_
  refine lv_topi (fun g9 eg9 => ?_)
  obtain ⟨q10, h5q10, h100q10, hq10⟩ := hI.1.2.1.2.2.2.1
  have eg9 : g9 = (nI q10) := by rw [eg9]; exact hq10
  subst eg9
  refine hv_callv (va_runV (As := [.ref (fa (16 + i)), .int (nI q10)]) (rest := []) ⟨hx, hb, hml, hown, hts⟩ (c_setTimer l D tc hI hi (q := q10) (by have h8 := cs_lt8 hS hi; omega)) (cwV 2 hts (tw_V tw_167 tw_168 tw_489 tw_1 tw_169) rfl rfl rfl (by decide +kernel) ⟨Nat.le_of_ble_eq_true rfl, Nat.le_of_ble_eq_true rfl⟩) (hv_preV (ci := 3) hK hT.1 (cs_kX hS) (by decide) rfl rfl) rfl rfl hl.1 rfl (lv_room (Nat.le_of_ble_eq_true rfl)) dX3_attempt_64 ⟨by show 0 + 0 + 8 + 0 ≤ 8; omega, by show 0 + 0 + 64 + 0 ≤ 64; omega⟩) hT (fun v11 H locs hp12 hT => ?_)
  have hI := hp12
  have hS := hI.1.1
  exact hret _ v11 _ _ _ _ _ dX3_attempt_67 hT ⟨_, _, hI, pr_try hP hi (((pc_A_off.tr pc_D_off).tr pc_T_off).tr pc_O_off) rfl (va_up_self ..) (va_up_self ..) (fun j hj z => cs_bit1 (cs_lt8 hS hi) (cs_lt8 hS hj) (pc_Ti z)) pc_Oi⟩ (by show 0 + 0 + 8 + 0 ≤ 8; omega) (by show 0 + 0 + 64 + 0 ≤ 64; omega)

theorem pr_yield {F : PF} {G : PG} {C : PC} {i z : Nat} (h : pr_ok F G C) (hi : i < F.n) (hz : z = C.D i ∨ z = 0) : pr_ok F G (pc_D C i z) := by
  rcases hz with rfl | rfl
  · rw [pc_D_id]; exact h
  · exact pr_rest h hi pc_D_off rfl (va_up_self ..) rfl

set_option maxHeartbeats 800000 in
set_option maxRecDepth 100000 in
theorem c_lead2 (l : Launch) (D : va_G) (tc : Nat → ClassId) {ys : Nat → Prop} {qc qa am : Nat} {G : PG} {C : PC} {fa : Nat → Nat} {n : Nat} {w u : Nat → Nat} {d : Nat → Nat → Nat} {g : Nat × Nat} {k : Nat} {hd : List Nat} {v : hv_V} (hI : cj_I ys qc qa am G C fa n w u 1 d g k hd v) {i : Nat} (hi : i < n) (hh : hd.length ≤ 1) {C' : PC} (hP : pr_ok ⟨n, w, ys, qc, qa⟩ G C') (ho : pc_off C' C i) (hSS : C'.S i = C.S i) (hAA : C'.A i = C.A i) (hK0 : G.K i (C.A i) = 0) (hc : G.c = 1) : Met l yX3_lead (Cond.code yX3_lead cX3_lead 5 none :: lw_B) ({ frames := 4, cells := 16, slots := 128, locals := 90 }) (va_Pc [.ref (fa 0), .int (nI i), .int 2] (hv_Pre D tc v)) (va_Qv (fun (v1 : hv_V) => ∃ k1 G1 C1, cj_I ys qc qa am G1 C1 fa n w u 1 d g k1 hd v1 ∧ pr_ok ⟨n, w, ys, qc, qa⟩ G1 C1) (hv_Post D tc (hv_A v)) (hv_A v)) (16) (128) (hv_A v) := by
  refine hv_metv l (by decide) (Nat.le_of_ble_eq_true rfl) ?_
  intro p e s m args below meth c Q X hret hK hz H locs ls hT hl
  obtain ⟨hx, hb, hml, hts, hown, hin0⟩ := X
  have hown : s.vm.findClass "CommitSites" = some m.cls := hown
  have hl : lv_has ls 5 [(0, .ref (fa 0)), (1, .int (nI i)), (2, .int 2)] := hl
  have hS := hI.1.1
  have hs5 := cj_s5 hI hi
  have hI0 := hI
  refine lv_aload_n hx hb dX3_lead_0 rfl (lv_at hl 0 rfl) ?_
  refine hv_gets (ci := 3) (C := RX3) (T := TX3) (N := 12) hx hb hts (tw_cs in_X3) hown hK hT (cs_kX hS) (by decide) rfl 0 (by decide) (hts _ (tw_c tw_47)) rfl (x := (fa 1)) (cs_pS hS) dX3_lead_1 ?_
  refine lv_iload_n hx hb dX3_lead_4 rfl (lv_at hl 1 rfl) ?_
  refine hv_alds (t := 0) hx hb hK hT (cs_kS hS) rfl rfl (cs_in8 (cs_lt8 hS hi)) (x := (fa (16 + i))) (cs_qS hS hi) dX3_lead_5 ?_
  refine lv_astore_n (lv' := [(3, _), (0, _), (1, _), (2, _)]) hx hb dX3_lead_6 rfl hl (by decide) rfl (fun ls hl => ?_)
  refine lv_iload_n hx hb dX3_lead_7 rfl (lv_at hl 3 rfl) ?_
  refine lv_iconst (v := 2) hx hb dX3_lead_8 (by decide) ?_
  refine lv_icmp_ne (tgt := 16) hx hb dX3_lead_9 (by decide) (fun c9 => ?_) (fun c9 => ?_)
  · skip
    exact absurd rfl c9
  · skip
    refine lv_iconst (v := 1) hx hb dX3_lead_12 (by decide) ?_
    refine lv_goto (tgt := 17) hx hb dX3_lead_13 (by decide) ?_
    refine lv_istore (lv' := [(4, _), (3, _), (0, _), (1, _), (2, _)]) hx hb dX3_lead_17 hl (by decide) rfl (fun ls hl => ?_)
    refine lv_aload_n hx hb dX3_lead_19 rfl (lv_at hl 1 rfl) ?_
    refine hv_geti (ci := 2) (C := RX2) (T := TX2) (N := 10) hx hb hts (tw_cs in_X2) hown hK hT (cs_ks hS hi) (by decide) rfl 4 (by decide) (hts _ (tw_c tw_81)) rfl dX3_lead_20 ?_
    refine lv_topi (fun g1 eg1 => ?_)
    have eg1 : g1 = (nI (C.S i)) := eg1.trans (by have h := cj_s hI hi; exact h)
    subst eg1
    refine lv_iconst (v := 1) hx hb dX3_lead_23 (by decide) ?_
    refine lv_icmp_ne (tgt := 33) hx hb dX3_lead_24 (by decide) (fun c24 => ?_) (fun c24 => ?_)
    · skip
      have hS1 : ¬ C.S i = 1 := nI_nlit (k := 1) c24
      refine lv_aload_n hx hb dX3_lead_33 rfl (lv_at hl 1 rfl) ?_
      refine lv_iload hx hb dX3_lead_34 (lv_at hl 0 rfl) ?_
      refine lv_if_eq (tgt := 43) hx hb dX3_lead_36 (by decide) (fun c36 => ?_) (fun c36 => ?_)
      · skip
        exact absurd c36 (by decide)
      · skip
        refine lv_iconst (v := 2) hx hb dX3_lead_39 (by decide) ?_
        refine lv_goto (tgt := 44) hx hb dX3_lead_40 (by decide) ?_
        refine hv_puti (ci := 2) (C := RX2) (T := TX2) (N := 10) hx hb hts (tw_cs in_X2) tyX2 tyX2_ok nmX2 hown hK hT (cs_ks hS hi) (by decide) rfl 6 (by decide) (hts _ (tw_c tw_85)) rfl rfl (x := 2) rfl rfl dX3_lead_44 (fun H locs hT => ?_)
        have hI := cj_206 (i := i) (x := 2) (s := 2) rfl (by decide) hi hI
        have hS := hI.1.1
        refine lv_aload_n hx hb dX3_lead_47 rfl (lv_at hl 1 rfl) ?_
        refine lv_aload_n hx hb dX3_lead_48 rfl (lv_at hl 1 rfl) ?_
        refine hv_geti (ci := 2) (C := RX2) (T := TX2) (N := 10) hx hb hts (tw_cs in_X2) hown hK hT (cs_ks hS hi) (by decide) rfl 4 (by decide) (hts _ (tw_c tw_81)) rfl dX3_lead_49 ?_
        refine lv_topi (fun g2 eg2 => ?_)
        have eg2 : g2 = (nI (C.S i)) := eg2.trans (by have h := cj_s hI hi; exact h)
        subst eg2
        refine lv_iload_n hx hb dX3_lead_52 rfl (lv_at hl 4 rfl) ?_
        refine lv_icmp_ne (tgt := 62) hx hb dX3_lead_53 (by decide) (fun c53 => ?_) (fun c53 => ?_)
        · skip
          refine lv_iconst (v := 0) hx hb dX3_lead_62 (by decide) ?_
          refine hv_puti (ci := 2) (C := RX2) (T := TX2) (N := 10) hx hb hts (tw_cs in_X2) tyX2 tyX2_ok nmX2 hown hK hT (cs_ks hS hi) (by decide) rfl 2 (by decide) (hts _ (tw_c tw_77)) rfl rfl (x := 0) rfl rfl dX3_lead_63 (fun H locs hT => ?_)
          have hI := cj_202 (i := i) (x := 0) hi hI
          have hS := hI.1.1
          refine lv_aload_n hx hb dX3_lead_66 rfl (lv_at hl 2 rfl) ?_
          refine hv_gets (ci := 3) (C := RX3) (T := TX3) (N := 12) hx hb hts (tw_cs in_X3) hown hK hT (cs_kX hS) (by decide) rfl 1 (by decide) (hts _ (tw_c tw_48)) rfl (x := (fa 2)) (cs_pN hS) dX3_lead_67 ?_
          refine lv_iload_n hx hb dX3_lead_70 rfl (lv_at hl 3 rfl) ?_
          refine lv_aload_n hx hb dX3_lead_71 rfl (lv_at hl 2 rfl) ?_
          refine lv_iload_n hx hb dX3_lead_72 rfl (lv_at hl 3 rfl) ?_
          refine hv_calli (va_runV (As := [.int (nI i)]) (rest := [.int (nI i), .ref (fa 2)]) ⟨hx, hb, hml, hown, hts⟩ (c_allBut l D tc hS hI.1.2.1.1 (nI i)) (cwV 1 hts (tw_V tw_131 tw_132 tw_487 tw_1 tw_133) rfl rfl rfl (by decide +kernel) ⟨Nat.le_of_ble_eq_true rfl, Nat.le_of_ble_eq_true rfl⟩) (hv_preV (ci := 3) hK hT.1 (cs_kX hS) (by decide) rfl rfl) rfl rfl hl.1 rfl (lv_room (Nat.le_of_ble_eq_true rfl)) dX3_lead_73 ⟨by show 0 + 0 ≤ 16; omega, by show 0 + 0 ≤ 128; omega⟩) hT (fun r5 v3 H locs hp4 hT => ?_)
          obtain ⟨evhp4, qhp4⟩ := hp4
          rw [evhp4] at hT
          refine lv_iload hx hb dX3_lead_76 (lv_at hl 0 rfl) ?_
          refine lv_if_eq (tgt := 86) hx hb dX3_lead_78 (by decide) (fun c78 => ?_) (fun c78 => ?_)
          · skip
            exact absurd c78 (by decide)
          · skip
            refine lv_bipush (v := 6) hx hb dX3_lead_81 (by decide) ?_
            refine lv_goto (tgt := 88) hx hb dX3_lead_83 (by decide) ?_
            refine lv_aload_n hx hb dX3_lead_88 rfl (lv_at hl 1 rfl) ?_
            refine hv_geti (ci := 2) (C := RX2) (T := TX2) (N := 10) hx hb hts (tw_cs in_X2) hown hK hT (cs_ks hS hi) (by decide) rfl 7 (by decide) (hts _ (tw_c tw_87)) rfl dX3_lead_89 ?_
            refine lv_topi (fun g6 eg6 => ?_)
            have eg6 : g6 = (nI (C.A i)) := eg6.trans (by have h := cj_a hI hi; exact h)
            subst eg6
            refine lv_iconst (v := 0) hx hb dX3_lead_92 (by decide) ?_
            obtain ⟨H, hP1, hle, hK1, hc1⟩ := pr_lead (E := (pc_T (pc_D C i 2) i (fun j9 => ¬ hb_ 0 (nI j9) = 0))) (r := 2) (d := 2) hP hi (ho.tr (pc_D_off.tr pc_T_off)) (by rw [hAA]; exact hK0) (Or.inl ⟨rfl, rfl, hc⟩) (by rw [if_neg (fun z => hS1 (hSS.symm.trans z))]; exact hSS.symm) (va_up_self ..) hAA.symm (fun j hj z => absurd (hb_0 (cs_lt8 hS hj)) (pc_Ti z))
            rw [hAA] at hK1
            have hI := cj_le hle (Nat.le_refl _) (cj_am9 hI) hI
            refine hv_callv (va_runV (As := [.int (nI i), .int r5, .int 6, .int (nI (C.A i)), .int 0]) (rest := []) ⟨hx, hb, hml, hown, hts⟩ (c_send l D tc hI hi r5 6 (nI (C.A i)) 0 (cs_all qhp4 (cs_n8 hS) (cs_lt8 hS hi)) hh (fun t ht hb => qm_6 hi ((cs_all qhp4 (cs_n8 hS) (cs_lt8 hS hi)) t ht hb) (cj_am hI0 hi) (hc1.trans hc) hK1)) (cwV 5 hts (tw_V tw_137 tw_138 tw_139 tw_2 tw_140) rfl rfl rfl (by decide +kernel) ⟨Nat.le_of_ble_eq_true rfl, Nat.le_of_ble_eq_true rfl⟩) (hv_preV (ci := 1) hK hT.1 (cs_kN hS) (by decide) rfl rfl) rfl rfl hl.1 rfl (lv_room (Nat.le_of_ble_eq_true rfl)) dX3_lead_93 ⟨by show 0 + 0 + 8 ≤ 16; omega, by show 0 + 0 + 64 ≤ 128; omega⟩) hT (fun v7 H locs hp8 hT => ?_)
            obtain ⟨_, hI⟩ := hp8
            have hS := hI.1.1
            refine lv_aload_n hx hb dX3_lead_96 rfl (lv_at hl 2 rfl) ?_
            refine lv_aload_n hx hb dX3_lead_97 rfl (lv_at hl 1 rfl) ?_
            refine lv_aload_n hx hb dX3_lead_98 rfl (lv_at hl 2 rfl) ?_
            refine hv_geti (ci := 3) (C := RX3) (T := TX3) (N := 12) hx hb hts (tw_cs in_X3) hown hK hT (cs_kX hS) (by decide) rfl 7 (by decide) (hts _ (tw_c tw_54)) rfl dX3_lead_99 ?_
            refine lv_topi (fun g9 eg9 => ?_)
            obtain ⟨q10, h5q10, h100q10, hq10⟩ := hI.1.2.1.2.2.2.1
            have eg9 : g9 = (nI q10) := by rw [eg9]; exact hq10
            subst eg9
            refine hv_callv (va_runV (As := [.ref (fa (16 + i)), .int (nI q10)]) (rest := []) ⟨hx, hb, hml, hown, hts⟩ (c_setTimer l D tc hI hi (q := q10) (by have h8 := cs_lt8 hS hi; omega)) (cwV 2 hts (tw_V tw_167 tw_168 tw_489 tw_1 tw_169) rfl rfl rfl (by decide +kernel) ⟨Nat.le_of_ble_eq_true rfl, Nat.le_of_ble_eq_true rfl⟩) (hv_preV (ci := 3) hK hT.1 (cs_kX hS) (by decide) rfl rfl) rfl rfl hl.1 rfl (lv_room (Nat.le_of_ble_eq_true rfl)) dX3_lead_102 ⟨by show 0 + 0 + 8 + 0 ≤ 16; omega, by show 0 + 0 + 64 + 0 ≤ 128; omega⟩) hT (fun v11 H locs hp12 hT => ?_)
            have hI := hp12
            have hS := hI.1.1
            refine lv_aload_n hx hb dX3_lead_105 rfl (lv_at hl 2 rfl) ?_
            refine lv_aload_n hx hb dX3_lead_106 rfl (lv_at hl 1 rfl) ?_
            refine hv_calli (va_runV (As := [.ref (fa (16 + i))]) (rest := []) ⟨hx, hb, hml, hown, hts⟩ (c_hasQuorum l D tc hI hi) (cwV 1 hts (tw_V tw_177 tw_178 tw_491 tw_1 tw_179) rfl rfl rfl (by decide +kernel) ⟨Nat.le_of_ble_eq_true rfl, Nat.le_of_ble_eq_true rfl⟩) (hv_preV (ci := 3) hK hT.1 (cs_kX hS) (by decide) rfl rfl) rfl rfl hl.1 rfl (lv_room (Nat.le_of_ble_eq_true rfl)) dX3_lead_107 ⟨by show 0 + 0 + 8 + 0 + 0 ≤ 16; omega, by show 0 + 0 + 64 + 0 + 0 ≤ 128; omega⟩) hT (fun r15 v13 H locs hp14 hT => ?_)
            obtain ⟨evhp14, qhp14⟩ := hp14
            rw [evhp14] at hT
            refine lv_if_eq (tgt := 128) hx hb dX3_lead_110 (by decide) (fun c110 => ?_) (fun c110 => ?_)
            · skip
              exact hret _ v11 _ _ _ _ _ dX3_lead_128 hT ⟨_, _, _, hI, hP1⟩ (by show 0 + 0 + 8 + 0 + 0 ≤ 16; omega) (by show 0 + 0 + 64 + 0 + 0 ≤ 128; omega)
            · skip
              have hq9 := (qhp14.resolve_right c110).2
              rw [if_pos (show (pc_T (pc_D C i 2) i (fun j9 => ¬ hb_ 0 (nI j9) = 0)).D i = 2 from va_up_self ..)] at hq9
              have hev := pr_CO hP1 hi (va_up_self ..) hq9 (fun j hj z => ⟨(qt_T z).1, (cj_ty hI hi (cs_lt8 hS hj)).mpr (qt_T z).2⟩)
              refine lv_aload_n hx hb dX3_lead_113 rfl (lv_at hl 2 rfl) ?_
              refine lv_iload_n hx hb dX3_lead_114 rfl (lv_at hl 3 rfl) ?_
              refine lv_iload hx hb dX3_lead_115 (lv_at hl 0 rfl) ?_
              refine lv_if_eq (tgt := 124) hx hb dX3_lead_117 (by decide) (fun c117 => ?_) (fun c117 => ?_)
              · skip
                exact absurd c117 (by decide)
              · skip
                refine lv_iconst (v := 4) hx hb dX3_lead_120 (by decide) ?_
                refine lv_goto (tgt := 125) hx hb dX3_lead_121 (by decide) ?_
                refine hv_callv (va_runV (As := [.int (nI i), .int 4]) (rest := []) ⟨hx, hb, hml, hown, hts⟩ (c_decide l D tc hI hi hh 4 (s1 := 4) rfl (Or.inl ⟨rfl, hev⟩)) (cwV 2 hts (tw_V tw_180 tw_181 tw_492 tw_1 tw_182) rfl rfl rfl (by decide +kernel) ⟨Nat.le_of_ble_eq_true rfl, Nat.le_of_ble_eq_true rfl⟩) (hv_preV (ci := 3) hK hT.1 (cs_kX hS) (by decide) rfl rfl) rfl rfl hl.1 rfl (lv_room (Nat.le_of_ble_eq_true rfl)) dX3_lead_125 ⟨by show 0 + 0 + 8 + 0 + 0 + 8 ≤ 16; omega, by show 0 + 0 + 64 + 0 + 0 + 64 ≤ 128; omega⟩) hT (fun v16 H locs hp17 hT => ?_)
                obtain ⟨_, hI⟩ := hp17
                have hS := hI.1.1
                exact hret _ v16 _ _ _ _ _ dX3_lead_128 hT ⟨_, _, _, hI, pr_dec hP1 hi (pc_S_off.tr pc_D_off) (Or.inl ⟨va_up_self .., hev⟩) ⟨Or.inr (va_up_self ..), rfl, fun _ h => h, fun _ => rfl⟩ (by show ¬ va_up _ i 0 i = 1; rw [va_up_self]; decide)⟩ (by show 0 + 0 + 8 + 0 + 0 + 8 ≤ 16; omega) (by show 0 + 0 + 64 + 0 + 0 + 64 ≤ 128; omega)
        · skip
          have hSr : C.S i = 2 := nI_lit (k := 2) (by first | exact c53 | exact Classical.not_not.mp c53)
          refine lv_iconst (v := 1) hx hb dX3_lead_56 (by decide) ?_
          refine lv_iload_n hx hb dX3_lead_57 rfl (lv_at hl 3 rfl) ?_
          refine lv_ishl hx hb dX3_lead_58 ?_
          refine lv_goto (tgt := 63) hx hb dX3_lead_59 (by decide) ?_
          refine hv_puti (ci := 2) (C := RX2) (T := TX2) (N := 10) hx hb hts (tw_cs in_X2) tyX2 tyX2_ok nmX2 hown hK hT (cs_ks hS hi) (by decide) rfl 2 (by decide) (hts _ (tw_c tw_77)) rfl rfl (x := (1 <<< ((nI i) &&& 31))) rfl rfl dX3_lead_63 (fun H locs hT => ?_)
          have hI := cj_202 (i := i) (x := (1 <<< ((nI i) &&& 31))) hi hI
          have hS := hI.1.1
          refine lv_aload_n hx hb dX3_lead_66 rfl (lv_at hl 2 rfl) ?_
          refine hv_gets (ci := 3) (C := RX3) (T := TX3) (N := 12) hx hb hts (tw_cs in_X3) hown hK hT (cs_kX hS) (by decide) rfl 1 (by decide) (hts _ (tw_c tw_48)) rfl (x := (fa 2)) (cs_pN hS) dX3_lead_67 ?_
          refine lv_iload_n hx hb dX3_lead_70 rfl (lv_at hl 3 rfl) ?_
          refine lv_aload_n hx hb dX3_lead_71 rfl (lv_at hl 2 rfl) ?_
          refine lv_iload_n hx hb dX3_lead_72 rfl (lv_at hl 3 rfl) ?_
          refine hv_calli (va_runV (As := [.int (nI i)]) (rest := [.int (nI i), .ref (fa 2)]) ⟨hx, hb, hml, hown, hts⟩ (c_allBut l D tc hS hI.1.2.1.1 (nI i)) (cwV 1 hts (tw_V tw_131 tw_132 tw_487 tw_1 tw_133) rfl rfl rfl (by decide +kernel) ⟨Nat.le_of_ble_eq_true rfl, Nat.le_of_ble_eq_true rfl⟩) (hv_preV (ci := 3) hK hT.1 (cs_kX hS) (by decide) rfl rfl) rfl rfl hl.1 rfl (lv_room (Nat.le_of_ble_eq_true rfl)) dX3_lead_73 ⟨by show 0 + 0 ≤ 16; omega, by show 0 + 0 ≤ 128; omega⟩) hT (fun r20 v18 H locs hp19 hT => ?_)
          obtain ⟨evhp19, qhp19⟩ := hp19
          rw [evhp19] at hT
          refine lv_iload hx hb dX3_lead_76 (lv_at hl 0 rfl) ?_
          refine lv_if_eq (tgt := 86) hx hb dX3_lead_78 (by decide) (fun c78 => ?_) (fun c78 => ?_)
          · skip
            exact absurd c78 (by decide)
          · skip
            refine lv_bipush (v := 6) hx hb dX3_lead_81 (by decide) ?_
            refine lv_goto (tgt := 88) hx hb dX3_lead_83 (by decide) ?_
            refine lv_aload_n hx hb dX3_lead_88 rfl (lv_at hl 1 rfl) ?_
            refine hv_geti (ci := 2) (C := RX2) (T := TX2) (N := 10) hx hb hts (tw_cs in_X2) hown hK hT (cs_ks hS hi) (by decide) rfl 7 (by decide) (hts _ (tw_c tw_87)) rfl dX3_lead_89 ?_
            refine lv_topi (fun g21 eg21 => ?_)
            have eg21 : g21 = (nI (C.A i)) := eg21.trans (by have h := cj_a hI hi; exact h)
            subst eg21
            refine lv_iconst (v := 0) hx hb dX3_lead_92 (by decide) ?_
            obtain ⟨H, hP1, hle, hK1, hc1⟩ := pr_lead (E := (pc_T (pc_D C i 2) i (fun j9 => ¬ hb_ (1 <<< ((nI i) &&& 31)) (nI j9) = 0))) (r := 2) (d := 2) hP hi (ho.tr (pc_D_off.tr pc_T_off)) (by rw [hAA]; exact hK0) (Or.inl ⟨rfl, rfl, hc⟩) (by rw [if_neg (fun z => hS1 (hSS.symm.trans z))]; exact hSS.symm) (va_up_self ..) hAA.symm (fun j hj z => ⟨cs_bit1 (cs_lt8 hS hi) (cs_lt8 hS hj) (pc_Ti z), hSr⟩)
            rw [hAA] at hK1
            have hI := cj_le hle (Nat.le_refl _) (cj_am9 hI) hI
            refine hv_callv (va_runV (As := [.int (nI i), .int r20, .int 6, .int (nI (C.A i)), .int 0]) (rest := []) ⟨hx, hb, hml, hown, hts⟩ (c_send l D tc hI hi r20 6 (nI (C.A i)) 0 (cs_all qhp19 (cs_n8 hS) (cs_lt8 hS hi)) hh (fun t ht hb => qm_6 hi ((cs_all qhp19 (cs_n8 hS) (cs_lt8 hS hi)) t ht hb) (cj_am hI0 hi) (hc1.trans hc) hK1)) (cwV 5 hts (tw_V tw_137 tw_138 tw_139 tw_2 tw_140) rfl rfl rfl (by decide +kernel) ⟨Nat.le_of_ble_eq_true rfl, Nat.le_of_ble_eq_true rfl⟩) (hv_preV (ci := 1) hK hT.1 (cs_kN hS) (by decide) rfl rfl) rfl rfl hl.1 rfl (lv_room (Nat.le_of_ble_eq_true rfl)) dX3_lead_93 ⟨by show 0 + 0 + 8 ≤ 16; omega, by show 0 + 0 + 64 ≤ 128; omega⟩) hT (fun v22 H locs hp23 hT => ?_)
            obtain ⟨_, hI⟩ := hp23
            have hS := hI.1.1
            refine lv_aload_n hx hb dX3_lead_96 rfl (lv_at hl 2 rfl) ?_
            refine lv_aload_n hx hb dX3_lead_97 rfl (lv_at hl 1 rfl) ?_
            refine lv_aload_n hx hb dX3_lead_98 rfl (lv_at hl 2 rfl) ?_
            refine hv_geti (ci := 3) (C := RX3) (T := TX3) (N := 12) hx hb hts (tw_cs in_X3) hown hK hT (cs_kX hS) (by decide) rfl 7 (by decide) (hts _ (tw_c tw_54)) rfl dX3_lead_99 ?_
            refine lv_topi (fun g24 eg24 => ?_)
            obtain ⟨q25, h5q25, h100q25, hq25⟩ := hI.1.2.1.2.2.2.1
            have eg24 : g24 = (nI q25) := by rw [eg24]; exact hq25
            subst eg24
            refine hv_callv (va_runV (As := [.ref (fa (16 + i)), .int (nI q25)]) (rest := []) ⟨hx, hb, hml, hown, hts⟩ (c_setTimer l D tc hI hi (q := q25) (by have h8 := cs_lt8 hS hi; omega)) (cwV 2 hts (tw_V tw_167 tw_168 tw_489 tw_1 tw_169) rfl rfl rfl (by decide +kernel) ⟨Nat.le_of_ble_eq_true rfl, Nat.le_of_ble_eq_true rfl⟩) (hv_preV (ci := 3) hK hT.1 (cs_kX hS) (by decide) rfl rfl) rfl rfl hl.1 rfl (lv_room (Nat.le_of_ble_eq_true rfl)) dX3_lead_102 ⟨by show 0 + 0 + 8 + 0 ≤ 16; omega, by show 0 + 0 + 64 + 0 ≤ 128; omega⟩) hT (fun v26 H locs hp27 hT => ?_)
            have hI := hp27
            have hS := hI.1.1
            refine lv_aload_n hx hb dX3_lead_105 rfl (lv_at hl 2 rfl) ?_
            refine lv_aload_n hx hb dX3_lead_106 rfl (lv_at hl 1 rfl) ?_
            refine hv_calli (va_runV (As := [.ref (fa (16 + i))]) (rest := []) ⟨hx, hb, hml, hown, hts⟩ (c_hasQuorum l D tc hI hi) (cwV 1 hts (tw_V tw_177 tw_178 tw_491 tw_1 tw_179) rfl rfl rfl (by decide +kernel) ⟨Nat.le_of_ble_eq_true rfl, Nat.le_of_ble_eq_true rfl⟩) (hv_preV (ci := 3) hK hT.1 (cs_kX hS) (by decide) rfl rfl) rfl rfl hl.1 rfl (lv_room (Nat.le_of_ble_eq_true rfl)) dX3_lead_107 ⟨by show 0 + 0 + 8 + 0 + 0 ≤ 16; omega, by show 0 + 0 + 64 + 0 + 0 ≤ 128; omega⟩) hT (fun r30 v28 H locs hp29 hT => ?_)
            obtain ⟨evhp29, qhp29⟩ := hp29
            rw [evhp29] at hT
            refine lv_if_eq (tgt := 128) hx hb dX3_lead_110 (by decide) (fun c110 => ?_) (fun c110 => ?_)
            · skip
              exact hret _ v26 _ _ _ _ _ dX3_lead_128 hT ⟨_, _, _, hI, hP1⟩ (by show 0 + 0 + 8 + 0 + 0 ≤ 16; omega) (by show 0 + 0 + 64 + 0 + 0 ≤ 128; omega)
            · skip
              have hq9 := (qhp29.resolve_right c110).2
              rw [if_pos (show (pc_T (pc_D C i 2) i (fun j9 => ¬ hb_ (1 <<< ((nI i) &&& 31)) (nI j9) = 0)).D i = 2 from va_up_self ..)] at hq9
              have hev := pr_CO hP1 hi (va_up_self ..) hq9 (fun j hj z => ⟨(qt_T z).1, (cj_ty hI hi (cs_lt8 hS hj)).mpr (qt_T z).2⟩)
              refine lv_aload_n hx hb dX3_lead_113 rfl (lv_at hl 2 rfl) ?_
              refine lv_iload_n hx hb dX3_lead_114 rfl (lv_at hl 3 rfl) ?_
              refine lv_iload hx hb dX3_lead_115 (lv_at hl 0 rfl) ?_
              refine lv_if_eq (tgt := 124) hx hb dX3_lead_117 (by decide) (fun c117 => ?_) (fun c117 => ?_)
              · skip
                exact absurd c117 (by decide)
              · skip
                refine lv_iconst (v := 4) hx hb dX3_lead_120 (by decide) ?_
                refine lv_goto (tgt := 125) hx hb dX3_lead_121 (by decide) ?_
                refine hv_callv (va_runV (As := [.int (nI i), .int 4]) (rest := []) ⟨hx, hb, hml, hown, hts⟩ (c_decide l D tc hI hi hh 4 (s1 := 4) rfl (Or.inl ⟨rfl, hev⟩)) (cwV 2 hts (tw_V tw_180 tw_181 tw_492 tw_1 tw_182) rfl rfl rfl (by decide +kernel) ⟨Nat.le_of_ble_eq_true rfl, Nat.le_of_ble_eq_true rfl⟩) (hv_preV (ci := 3) hK hT.1 (cs_kX hS) (by decide) rfl rfl) rfl rfl hl.1 rfl (lv_room (Nat.le_of_ble_eq_true rfl)) dX3_lead_125 ⟨by show 0 + 0 + 8 + 0 + 0 + 8 ≤ 16; omega, by show 0 + 0 + 64 + 0 + 0 + 64 ≤ 128; omega⟩) hT (fun v31 H locs hp32 hT => ?_)
                obtain ⟨_, hI⟩ := hp32
                have hS := hI.1.1
                exact hret _ v31 _ _ _ _ _ dX3_lead_128 hT ⟨_, _, _, hI, pr_dec hP1 hi (pc_S_off.tr pc_D_off) (Or.inl ⟨va_up_self .., hev⟩) ⟨Or.inr (va_up_self ..), rfl, fun _ h => h, fun _ => rfl⟩ (by show ¬ va_up _ i 0 i = 1; rw [va_up_self]; decide)⟩ (by show 0 + 0 + 8 + 0 + 0 + 8 ≤ 16; omega) (by show 0 + 0 + 64 + 0 + 0 + 64 ≤ 128; omega)
    · skip
      have hS1 : C.S i = 1 := nI_lit (k := 1) (by first | exact c24 | exact Classical.not_not.mp c24)
      refine lv_aload_n hx hb dX3_lead_27 rfl (lv_at hl 2 rfl) ?_
      refine lv_aload_n hx hb dX3_lead_28 rfl (lv_at hl 1 rfl) ?_
      refine lv_iload_n hx hb dX3_lead_29 rfl (lv_at hl 4 rfl) ?_
      refine hv_callv (va_runV (As := [.ref (fa (16 + i)), .int 2]) (rest := []) ⟨hx, hb, hml, hown, hts⟩ (c_become l D tc hI hi 2 (s1 := 2) rfl (by decide)) (cwV 2 hts (tw_V tw_124 tw_125 tw_486 tw_1 tw_126) rfl rfl rfl (by decide +kernel) ⟨Nat.le_of_ble_eq_true rfl, Nat.le_of_ble_eq_true rfl⟩) (hv_preV (ci := 3) hK hT.1 (cs_kX hS) (by decide) rfl rfl) rfl rfl hl.1 rfl (lv_room (Nat.le_of_ble_eq_true rfl)) dX3_lead_30 ⟨by show 0 + 0 ≤ 16; omega, by show 0 + 0 ≤ 128; omega⟩) hT (fun v33 H locs hp34 hT => ?_)
      have hI := hp34
      have hS := hI.1.1
      refine lv_aload_n hx hb dX3_lead_33 rfl (lv_at hl 1 rfl) ?_
      refine lv_iload hx hb dX3_lead_34 (lv_at hl 0 rfl) ?_
      refine lv_if_eq (tgt := 43) hx hb dX3_lead_36 (by decide) (fun c36 => ?_) (fun c36 => ?_)
      · skip
        exact absurd c36 (by decide)
      · skip
        refine lv_iconst (v := 2) hx hb dX3_lead_39 (by decide) ?_
        refine lv_goto (tgt := 44) hx hb dX3_lead_40 (by decide) ?_
        refine hv_puti (ci := 2) (C := RX2) (T := TX2) (N := 10) hx hb hts (tw_cs in_X2) tyX2 tyX2_ok nmX2 hown hK hT (cs_ks hS hi) (by decide) rfl 6 (by decide) (hts _ (tw_c tw_85)) rfl rfl (x := 2) rfl rfl dX3_lead_44 (fun H locs hT => ?_)
        have hI := cj_206 (i := i) (x := 2) (s := 2) rfl (by decide) hi hI
        have hS := hI.1.1
        refine lv_aload_n hx hb dX3_lead_47 rfl (lv_at hl 1 rfl) ?_
        refine lv_aload_n hx hb dX3_lead_48 rfl (lv_at hl 1 rfl) ?_
        refine hv_geti (ci := 2) (C := RX2) (T := TX2) (N := 10) hx hb hts (tw_cs in_X2) hown hK hT (cs_ks hS hi) (by decide) rfl 4 (by decide) (hts _ (tw_c tw_81)) rfl dX3_lead_49 ?_
        refine lv_topi (fun g35 eg35 => ?_)
        have eg35 : g35 = (nI 2) := eg35.trans (by have h := cj_s hI hi; exact h.trans (congrArg nI (va_up_self ..)))
        subst eg35
        refine lv_iload_n hx hb dX3_lead_52 rfl (lv_at hl 4 rfl) ?_
        refine lv_icmp_ne (tgt := 62) hx hb dX3_lead_53 (by decide) (fun c53 => ?_) (fun c53 => ?_)
        · skip
          exact absurd rfl c53
        · skip
          refine lv_iconst (v := 1) hx hb dX3_lead_56 (by decide) ?_
          refine lv_iload_n hx hb dX3_lead_57 rfl (lv_at hl 3 rfl) ?_
          refine lv_ishl hx hb dX3_lead_58 ?_
          refine lv_goto (tgt := 63) hx hb dX3_lead_59 (by decide) ?_
          refine hv_puti (ci := 2) (C := RX2) (T := TX2) (N := 10) hx hb hts (tw_cs in_X2) tyX2 tyX2_ok nmX2 hown hK hT (cs_ks hS hi) (by decide) rfl 2 (by decide) (hts _ (tw_c tw_77)) rfl rfl (x := (1 <<< ((nI i) &&& 31))) rfl rfl dX3_lead_63 (fun H locs hT => ?_)
          have hI := cj_202 (i := i) (x := (1 <<< ((nI i) &&& 31))) hi hI
          have hS := hI.1.1
          refine lv_aload_n hx hb dX3_lead_66 rfl (lv_at hl 2 rfl) ?_
          refine hv_gets (ci := 3) (C := RX3) (T := TX3) (N := 12) hx hb hts (tw_cs in_X3) hown hK hT (cs_kX hS) (by decide) rfl 1 (by decide) (hts _ (tw_c tw_48)) rfl (x := (fa 2)) (cs_pN hS) dX3_lead_67 ?_
          refine lv_iload_n hx hb dX3_lead_70 rfl (lv_at hl 3 rfl) ?_
          refine lv_aload_n hx hb dX3_lead_71 rfl (lv_at hl 2 rfl) ?_
          refine lv_iload_n hx hb dX3_lead_72 rfl (lv_at hl 3 rfl) ?_
          refine hv_calli (va_runV (As := [.int (nI i)]) (rest := [.int (nI i), .ref (fa 2)]) ⟨hx, hb, hml, hown, hts⟩ (c_allBut l D tc hS hI.1.2.1.1 (nI i)) (cwV 1 hts (tw_V tw_131 tw_132 tw_487 tw_1 tw_133) rfl rfl rfl (by decide +kernel) ⟨Nat.le_of_ble_eq_true rfl, Nat.le_of_ble_eq_true rfl⟩) (hv_preV (ci := 3) hK hT.1 (cs_kX hS) (by decide) rfl rfl) rfl rfl hl.1 rfl (lv_room (Nat.le_of_ble_eq_true rfl)) dX3_lead_73 ⟨by show 0 + 0 + 0 ≤ 16; omega, by show 0 + 0 + 0 ≤ 128; omega⟩) hT (fun r38 v36 H locs hp37 hT => ?_)
          obtain ⟨evhp37, qhp37⟩ := hp37
          rw [evhp37] at hT
          refine lv_iload hx hb dX3_lead_76 (lv_at hl 0 rfl) ?_
          refine lv_if_eq (tgt := 86) hx hb dX3_lead_78 (by decide) (fun c78 => ?_) (fun c78 => ?_)
          · skip
            exact absurd c78 (by decide)
          · skip
            refine lv_bipush (v := 6) hx hb dX3_lead_81 (by decide) ?_
            refine lv_goto (tgt := 88) hx hb dX3_lead_83 (by decide) ?_
            refine lv_aload_n hx hb dX3_lead_88 rfl (lv_at hl 1 rfl) ?_
            refine hv_geti (ci := 2) (C := RX2) (T := TX2) (N := 10) hx hb hts (tw_cs in_X2) hown hK hT (cs_ks hS hi) (by decide) rfl 7 (by decide) (hts _ (tw_c tw_87)) rfl dX3_lead_89 ?_
            refine lv_topi (fun g39 eg39 => ?_)
            have eg39 : g39 = (nI (C.A i)) := eg39.trans (by have h := cj_a hI hi; exact h)
            subst eg39
            refine lv_iconst (v := 0) hx hb dX3_lead_92 (by decide) ?_
            obtain ⟨H, hP1, hle, hK1, hc1⟩ := pr_lead (E := (pc_T (pc_D (pc_S C i 2) i 2) i (fun j9 => ¬ hb_ (1 <<< ((nI i) &&& 31)) (nI j9) = 0))) (r := 2) (d := 2) hP hi (ho.tr ((pc_S_off.tr pc_D_off).tr pc_T_off)) (by rw [hAA]; exact hK0) (Or.inl ⟨rfl, rfl, hc⟩) (by rw [if_pos (hSS.trans hS1)]; exact va_up_self ..) (va_up_self ..) hAA.symm (fun j hj z => ⟨cs_bit1 (cs_lt8 hS hi) (cs_lt8 hS hj) (pc_Ti z), va_up_self ..⟩)
            rw [hAA] at hK1
            have hI := cj_le hle (Nat.le_refl _) (cj_am9 hI) hI
            refine hv_callv (va_runV (As := [.int (nI i), .int r38, .int 6, .int (nI (C.A i)), .int 0]) (rest := []) ⟨hx, hb, hml, hown, hts⟩ (c_send l D tc hI hi r38 6 (nI (C.A i)) 0 (cs_all qhp37 (cs_n8 hS) (cs_lt8 hS hi)) hh (fun t ht hb => qm_6 hi ((cs_all qhp37 (cs_n8 hS) (cs_lt8 hS hi)) t ht hb) (cj_am hI0 hi) (hc1.trans hc) hK1)) (cwV 5 hts (tw_V tw_137 tw_138 tw_139 tw_2 tw_140) rfl rfl rfl (by decide +kernel) ⟨Nat.le_of_ble_eq_true rfl, Nat.le_of_ble_eq_true rfl⟩) (hv_preV (ci := 1) hK hT.1 (cs_kN hS) (by decide) rfl rfl) rfl rfl hl.1 rfl (lv_room (Nat.le_of_ble_eq_true rfl)) dX3_lead_93 ⟨by show 0 + 0 + 0 + 8 ≤ 16; omega, by show 0 + 0 + 0 + 64 ≤ 128; omega⟩) hT (fun v40 H locs hp41 hT => ?_)
            obtain ⟨_, hI⟩ := hp41
            have hS := hI.1.1
            refine lv_aload_n hx hb dX3_lead_96 rfl (lv_at hl 2 rfl) ?_
            refine lv_aload_n hx hb dX3_lead_97 rfl (lv_at hl 1 rfl) ?_
            refine lv_aload_n hx hb dX3_lead_98 rfl (lv_at hl 2 rfl) ?_
            refine hv_geti (ci := 3) (C := RX3) (T := TX3) (N := 12) hx hb hts (tw_cs in_X3) hown hK hT (cs_kX hS) (by decide) rfl 7 (by decide) (hts _ (tw_c tw_54)) rfl dX3_lead_99 ?_
            refine lv_topi (fun g42 eg42 => ?_)
            obtain ⟨q43, h5q43, h100q43, hq43⟩ := hI.1.2.1.2.2.2.1
            have eg42 : g42 = (nI q43) := by rw [eg42]; exact hq43
            subst eg42
            refine hv_callv (va_runV (As := [.ref (fa (16 + i)), .int (nI q43)]) (rest := []) ⟨hx, hb, hml, hown, hts⟩ (c_setTimer l D tc hI hi (q := q43) (by have h8 := cs_lt8 hS hi; omega)) (cwV 2 hts (tw_V tw_167 tw_168 tw_489 tw_1 tw_169) rfl rfl rfl (by decide +kernel) ⟨Nat.le_of_ble_eq_true rfl, Nat.le_of_ble_eq_true rfl⟩) (hv_preV (ci := 3) hK hT.1 (cs_kX hS) (by decide) rfl rfl) rfl rfl hl.1 rfl (lv_room (Nat.le_of_ble_eq_true rfl)) dX3_lead_102 ⟨by show 0 + 0 + 0 + 8 + 0 ≤ 16; omega, by show 0 + 0 + 0 + 64 + 0 ≤ 128; omega⟩) hT (fun v44 H locs hp45 hT => ?_)
            have hI := hp45
            have hS := hI.1.1
            refine lv_aload_n hx hb dX3_lead_105 rfl (lv_at hl 2 rfl) ?_
            refine lv_aload_n hx hb dX3_lead_106 rfl (lv_at hl 1 rfl) ?_
            refine hv_calli (va_runV (As := [.ref (fa (16 + i))]) (rest := []) ⟨hx, hb, hml, hown, hts⟩ (c_hasQuorum l D tc hI hi) (cwV 1 hts (tw_V tw_177 tw_178 tw_491 tw_1 tw_179) rfl rfl rfl (by decide +kernel) ⟨Nat.le_of_ble_eq_true rfl, Nat.le_of_ble_eq_true rfl⟩) (hv_preV (ci := 3) hK hT.1 (cs_kX hS) (by decide) rfl rfl) rfl rfl hl.1 rfl (lv_room (Nat.le_of_ble_eq_true rfl)) dX3_lead_107 ⟨by show 0 + 0 + 0 + 8 + 0 + 0 ≤ 16; omega, by show 0 + 0 + 0 + 64 + 0 + 0 ≤ 128; omega⟩) hT (fun r48 v46 H locs hp47 hT => ?_)
            obtain ⟨evhp47, qhp47⟩ := hp47
            rw [evhp47] at hT
            refine lv_if_eq (tgt := 128) hx hb dX3_lead_110 (by decide) (fun c110 => ?_) (fun c110 => ?_)
            · skip
              exact hret _ v44 _ _ _ _ _ dX3_lead_128 hT ⟨_, _, _, hI, hP1⟩ (by show 0 + 0 + 0 + 8 + 0 + 0 ≤ 16; omega) (by show 0 + 0 + 0 + 64 + 0 + 0 ≤ 128; omega)
            · skip
              have hq9 := (qhp47.resolve_right c110).2
              rw [if_pos (show (pc_T (pc_D (pc_S C i 2) i 2) i (fun j9 => ¬ hb_ (1 <<< ((nI i) &&& 31)) (nI j9) = 0)).D i = 2 from va_up_self ..)] at hq9
              have hev := pr_CO hP1 hi (va_up_self ..) hq9 (fun j hj z => ⟨(qt_T z).1, (cj_ty hI hi (cs_lt8 hS hj)).mpr (qt_T z).2⟩)
              refine lv_aload_n hx hb dX3_lead_113 rfl (lv_at hl 2 rfl) ?_
              refine lv_iload_n hx hb dX3_lead_114 rfl (lv_at hl 3 rfl) ?_
              refine lv_iload hx hb dX3_lead_115 (lv_at hl 0 rfl) ?_
              refine lv_if_eq (tgt := 124) hx hb dX3_lead_117 (by decide) (fun c117 => ?_) (fun c117 => ?_)
              · skip
                exact absurd c117 (by decide)
              · skip
                refine lv_iconst (v := 4) hx hb dX3_lead_120 (by decide) ?_
                refine lv_goto (tgt := 125) hx hb dX3_lead_121 (by decide) ?_
                refine hv_callv (va_runV (As := [.int (nI i), .int 4]) (rest := []) ⟨hx, hb, hml, hown, hts⟩ (c_decide l D tc hI hi hh 4 (s1 := 4) rfl (Or.inl ⟨rfl, hev⟩)) (cwV 2 hts (tw_V tw_180 tw_181 tw_492 tw_1 tw_182) rfl rfl rfl (by decide +kernel) ⟨Nat.le_of_ble_eq_true rfl, Nat.le_of_ble_eq_true rfl⟩) (hv_preV (ci := 3) hK hT.1 (cs_kX hS) (by decide) rfl rfl) rfl rfl hl.1 rfl (lv_room (Nat.le_of_ble_eq_true rfl)) dX3_lead_125 ⟨by show 0 + 0 + 0 + 8 + 0 + 0 + 8 ≤ 16; omega, by show 0 + 0 + 0 + 64 + 0 + 0 + 64 ≤ 128; omega⟩) hT (fun v49 H locs hp50 hT => ?_)
                obtain ⟨_, hI⟩ := hp50
                have hS := hI.1.1
                exact hret _ v49 _ _ _ _ _ dX3_lead_128 hT ⟨_, _, _, hI, pr_dec hP1 hi (pc_S_off.tr pc_D_off) (Or.inl ⟨va_up_self .., hev⟩) ⟨Or.inr (va_up_self ..), rfl, fun _ h => h, fun _ => rfl⟩ (by show ¬ va_up _ i 0 i = 1; rw [va_up_self]; decide)⟩ (by show 0 + 0 + 0 + 8 + 0 + 0 + 8 ≤ 16; omega) (by show 0 + 0 + 0 + 64 + 0 + 0 + 64 ≤ 128; omega)

set_option maxHeartbeats 800000 in
set_option maxRecDepth 100000 in
theorem c_lead3 (l : Launch) (D : va_G) (tc : Nat → ClassId) {ys : Nat → Prop} {qc qa am : Nat} {G : PG} {C : PC} {fa : Nat → Nat} {n : Nat} {w u : Nat → Nat} {d : Nat → Nat → Nat} {g : Nat × Nat} {k : Nat} {hd : List Nat} {v : hv_V} (hI : cj_I ys qc qa am G C fa n w u 1 d g k hd v) {i : Nat} (hi : i < n) (hh : hd.length ≤ 1) {C' : PC} (hP : pr_ok ⟨n, w, ys, qc, qa⟩ G C') (ho : pc_off C' C i) (hSS : C'.S i = C.S i) (hAA : C'.A i = C.A i) (hK0 : G.K i (C.A i) = 0) : Met l yX3_lead (Cond.code yX3_lead cX3_lead 5 none :: lw_B) ({ frames := 4, cells := 16, slots := 128, locals := 90 }) (va_Pc [.ref (fa 0), .int (nI i), .int 3] (hv_Pre D tc v)) (va_Qv (fun (v1 : hv_V) => ∃ k1 G1 C1, cj_I ys qc qa am G1 C1 fa n w u 1 d g k1 hd v1 ∧ pr_ok ⟨n, w, ys, qc, qa⟩ G1 C1) (hv_Post D tc (hv_A v)) (hv_A v)) (16) (128) (hv_A v) := by
  refine hv_metv l (by decide) (Nat.le_of_ble_eq_true rfl) ?_
  intro p e s m args below meth c Q X hret hK hz H locs ls hT hl
  obtain ⟨hx, hb, hml, hts, hown, hin0⟩ := X
  have hown : s.vm.findClass "CommitSites" = some m.cls := hown
  have hl : lv_has ls 5 [(0, .ref (fa 0)), (1, .int (nI i)), (2, .int 3)] := hl
  have hS := hI.1.1
  have hs5 := cj_s5 hI hi
  have hI0 := hI
  refine lv_aload_n hx hb dX3_lead_0 rfl (lv_at hl 0 rfl) ?_
  refine hv_gets (ci := 3) (C := RX3) (T := TX3) (N := 12) hx hb hts (tw_cs in_X3) hown hK hT (cs_kX hS) (by decide) rfl 0 (by decide) (hts _ (tw_c tw_47)) rfl (x := (fa 1)) (cs_pS hS) dX3_lead_1 ?_
  refine lv_iload_n hx hb dX3_lead_4 rfl (lv_at hl 1 rfl) ?_
  refine hv_alds (t := 0) hx hb hK hT (cs_kS hS) rfl rfl (cs_in8 (cs_lt8 hS hi)) (x := (fa (16 + i))) (cs_qS hS hi) dX3_lead_5 ?_
  refine lv_astore_n (lv' := [(3, _), (0, _), (1, _), (2, _)]) hx hb dX3_lead_6 rfl hl (by decide) rfl (fun ls hl => ?_)
  refine lv_iload_n hx hb dX3_lead_7 rfl (lv_at hl 3 rfl) ?_
  refine lv_iconst (v := 2) hx hb dX3_lead_8 (by decide) ?_
  refine lv_icmp_ne (tgt := 16) hx hb dX3_lead_9 (by decide) (fun c9 => ?_) (fun c9 => ?_)
  · skip
    refine lv_iconst (v := 0) hx hb dX3_lead_16 (by decide) ?_
    refine lv_istore (lv' := [(4, _), (3, _), (0, _), (1, _), (2, _)]) hx hb dX3_lead_17 hl (by decide) rfl (fun ls hl => ?_)
    refine lv_aload_n hx hb dX3_lead_19 rfl (lv_at hl 1 rfl) ?_
    refine hv_geti (ci := 2) (C := RX2) (T := TX2) (N := 10) hx hb hts (tw_cs in_X2) hown hK hT (cs_ks hS hi) (by decide) rfl 4 (by decide) (hts _ (tw_c tw_81)) rfl dX3_lead_20 ?_
    refine lv_topi (fun g1 eg1 => ?_)
    have eg1 : g1 = (nI (C.S i)) := eg1.trans (by have h := cj_s hI hi; exact h)
    subst eg1
    refine lv_iconst (v := 1) hx hb dX3_lead_23 (by decide) ?_
    refine lv_icmp_ne (tgt := 33) hx hb dX3_lead_24 (by decide) (fun c24 => ?_) (fun c24 => ?_)
    · skip
      have hS1 : ¬ C.S i = 1 := nI_nlit (k := 1) c24
      refine lv_aload_n hx hb dX3_lead_33 rfl (lv_at hl 1 rfl) ?_
      refine lv_iload hx hb dX3_lead_34 (lv_at hl 0 rfl) ?_
      refine lv_if_eq (tgt := 43) hx hb dX3_lead_36 (by decide) (fun c36 => ?_) (fun c36 => ?_)
      · skip
        refine lv_iconst (v := 4) hx hb dX3_lead_43 (by decide) ?_
        refine hv_puti (ci := 2) (C := RX2) (T := TX2) (N := 10) hx hb hts (tw_cs in_X2) tyX2 tyX2_ok nmX2 hown hK hT (cs_ks hS hi) (by decide) rfl 6 (by decide) (hts _ (tw_c tw_85)) rfl rfl (x := 4) rfl rfl dX3_lead_44 (fun H locs hT => ?_)
        have hI := cj_206 (i := i) (x := 4) (s := 4) rfl (by decide) hi hI
        have hS := hI.1.1
        refine lv_aload_n hx hb dX3_lead_47 rfl (lv_at hl 1 rfl) ?_
        refine lv_aload_n hx hb dX3_lead_48 rfl (lv_at hl 1 rfl) ?_
        refine hv_geti (ci := 2) (C := RX2) (T := TX2) (N := 10) hx hb hts (tw_cs in_X2) hown hK hT (cs_ks hS hi) (by decide) rfl 4 (by decide) (hts _ (tw_c tw_81)) rfl dX3_lead_49 ?_
        refine lv_topi (fun g2 eg2 => ?_)
        have eg2 : g2 = (nI (C.S i)) := eg2.trans (by have h := cj_s hI hi; exact h)
        subst eg2
        refine lv_iload_n hx hb dX3_lead_52 rfl (lv_at hl 4 rfl) ?_
        refine lv_icmp_ne (tgt := 62) hx hb dX3_lead_53 (by decide) (fun c53 => ?_) (fun c53 => ?_)
        · skip
          refine lv_iconst (v := 0) hx hb dX3_lead_62 (by decide) ?_
          refine hv_puti (ci := 2) (C := RX2) (T := TX2) (N := 10) hx hb hts (tw_cs in_X2) tyX2 tyX2_ok nmX2 hown hK hT (cs_ks hS hi) (by decide) rfl 2 (by decide) (hts _ (tw_c tw_77)) rfl rfl (x := 0) rfl rfl dX3_lead_63 (fun H locs hT => ?_)
          have hI := cj_202 (i := i) (x := 0) hi hI
          have hS := hI.1.1
          refine lv_aload_n hx hb dX3_lead_66 rfl (lv_at hl 2 rfl) ?_
          refine hv_gets (ci := 3) (C := RX3) (T := TX3) (N := 12) hx hb hts (tw_cs in_X3) hown hK hT (cs_kX hS) (by decide) rfl 1 (by decide) (hts _ (tw_c tw_48)) rfl (x := (fa 2)) (cs_pN hS) dX3_lead_67 ?_
          refine lv_iload_n hx hb dX3_lead_70 rfl (lv_at hl 3 rfl) ?_
          refine lv_aload_n hx hb dX3_lead_71 rfl (lv_at hl 2 rfl) ?_
          refine lv_iload_n hx hb dX3_lead_72 rfl (lv_at hl 3 rfl) ?_
          refine hv_calli (va_runV (As := [.int (nI i)]) (rest := [.int (nI i), .ref (fa 2)]) ⟨hx, hb, hml, hown, hts⟩ (c_allBut l D tc hS hI.1.2.1.1 (nI i)) (cwV 1 hts (tw_V tw_131 tw_132 tw_487 tw_1 tw_133) rfl rfl rfl (by decide +kernel) ⟨Nat.le_of_ble_eq_true rfl, Nat.le_of_ble_eq_true rfl⟩) (hv_preV (ci := 3) hK hT.1 (cs_kX hS) (by decide) rfl rfl) rfl rfl hl.1 rfl (lv_room (Nat.le_of_ble_eq_true rfl)) dX3_lead_73 ⟨by show 0 + 0 ≤ 16; omega, by show 0 + 0 ≤ 128; omega⟩) hT (fun r5 v3 H locs hp4 hT => ?_)
          obtain ⟨evhp4, qhp4⟩ := hp4
          rw [evhp4] at hT
          refine lv_iload hx hb dX3_lead_76 (lv_at hl 0 rfl) ?_
          refine lv_if_eq (tgt := 86) hx hb dX3_lead_78 (by decide) (fun c78 => ?_) (fun c78 => ?_)
          · skip
            refine lv_bipush (v := 7) hx hb dX3_lead_86 (by decide) ?_
            refine lv_aload_n hx hb dX3_lead_88 rfl (lv_at hl 1 rfl) ?_
            refine hv_geti (ci := 2) (C := RX2) (T := TX2) (N := 10) hx hb hts (tw_cs in_X2) hown hK hT (cs_ks hS hi) (by decide) rfl 7 (by decide) (hts _ (tw_c tw_87)) rfl dX3_lead_89 ?_
            refine lv_topi (fun g6 eg6 => ?_)
            have eg6 : g6 = (nI (C.A i)) := eg6.trans (by have h := cj_a hI hi; exact h)
            subst eg6
            refine lv_iconst (v := 0) hx hb dX3_lead_92 (by decide) ?_
            obtain ⟨H, hP1, hle, hK1, hc1⟩ := pr_lead (E := (pc_T (pc_D C i 4) i (fun j9 => ¬ hb_ 0 (nI j9) = 0))) (r := 3) (d := 4) hP hi (ho.tr (pc_D_off.tr pc_T_off)) (by rw [hAA]; exact hK0) (Or.inr ⟨rfl, rfl⟩) (by rw [if_neg (fun z => hS1 (hSS.symm.trans z))]; exact hSS.symm) (va_up_self ..) hAA.symm (fun j hj z => absurd (hb_0 (cs_lt8 hS hj)) (pc_Ti z))
            rw [hAA] at hK1
            have hI := cj_le hle (Nat.le_refl _) (cj_am9 hI) hI
            refine hv_callv (va_runV (As := [.int (nI i), .int r5, .int 7, .int (nI (C.A i)), .int 0]) (rest := []) ⟨hx, hb, hml, hown, hts⟩ (c_send l D tc hI hi r5 7 (nI (C.A i)) 0 (cs_all qhp4 (cs_n8 hS) (cs_lt8 hS hi)) hh (fun t ht hb => qm_7 hi ((cs_all qhp4 (cs_n8 hS) (cs_lt8 hS hi)) t ht hb) (cj_am hI0 hi) hK1)) (cwV 5 hts (tw_V tw_137 tw_138 tw_139 tw_2 tw_140) rfl rfl rfl (by decide +kernel) ⟨Nat.le_of_ble_eq_true rfl, Nat.le_of_ble_eq_true rfl⟩) (hv_preV (ci := 1) hK hT.1 (cs_kN hS) (by decide) rfl rfl) rfl rfl hl.1 rfl (lv_room (Nat.le_of_ble_eq_true rfl)) dX3_lead_93 ⟨by show 0 + 0 + 8 ≤ 16; omega, by show 0 + 0 + 64 ≤ 128; omega⟩) hT (fun v7 H locs hp8 hT => ?_)
            obtain ⟨_, hI⟩ := hp8
            have hS := hI.1.1
            refine lv_aload_n hx hb dX3_lead_96 rfl (lv_at hl 2 rfl) ?_
            refine lv_aload_n hx hb dX3_lead_97 rfl (lv_at hl 1 rfl) ?_
            refine lv_aload_n hx hb dX3_lead_98 rfl (lv_at hl 2 rfl) ?_
            refine hv_geti (ci := 3) (C := RX3) (T := TX3) (N := 12) hx hb hts (tw_cs in_X3) hown hK hT (cs_kX hS) (by decide) rfl 7 (by decide) (hts _ (tw_c tw_54)) rfl dX3_lead_99 ?_
            refine lv_topi (fun g9 eg9 => ?_)
            obtain ⟨q10, h5q10, h100q10, hq10⟩ := hI.1.2.1.2.2.2.1
            have eg9 : g9 = (nI q10) := by rw [eg9]; exact hq10
            subst eg9
            refine hv_callv (va_runV (As := [.ref (fa (16 + i)), .int (nI q10)]) (rest := []) ⟨hx, hb, hml, hown, hts⟩ (c_setTimer l D tc hI hi (q := q10) (by have h8 := cs_lt8 hS hi; omega)) (cwV 2 hts (tw_V tw_167 tw_168 tw_489 tw_1 tw_169) rfl rfl rfl (by decide +kernel) ⟨Nat.le_of_ble_eq_true rfl, Nat.le_of_ble_eq_true rfl⟩) (hv_preV (ci := 3) hK hT.1 (cs_kX hS) (by decide) rfl rfl) rfl rfl hl.1 rfl (lv_room (Nat.le_of_ble_eq_true rfl)) dX3_lead_102 ⟨by show 0 + 0 + 8 + 0 ≤ 16; omega, by show 0 + 0 + 64 + 0 ≤ 128; omega⟩) hT (fun v11 H locs hp12 hT => ?_)
            have hI := hp12
            have hS := hI.1.1
            refine lv_aload_n hx hb dX3_lead_105 rfl (lv_at hl 2 rfl) ?_
            refine lv_aload_n hx hb dX3_lead_106 rfl (lv_at hl 1 rfl) ?_
            refine hv_calli (va_runV (As := [.ref (fa (16 + i))]) (rest := []) ⟨hx, hb, hml, hown, hts⟩ (c_hasQuorum l D tc hI hi) (cwV 1 hts (tw_V tw_177 tw_178 tw_491 tw_1 tw_179) rfl rfl rfl (by decide +kernel) ⟨Nat.le_of_ble_eq_true rfl, Nat.le_of_ble_eq_true rfl⟩) (hv_preV (ci := 3) hK hT.1 (cs_kX hS) (by decide) rfl rfl) rfl rfl hl.1 rfl (lv_room (Nat.le_of_ble_eq_true rfl)) dX3_lead_107 ⟨by show 0 + 0 + 8 + 0 + 0 ≤ 16; omega, by show 0 + 0 + 64 + 0 + 0 ≤ 128; omega⟩) hT (fun r15 v13 H locs hp14 hT => ?_)
            obtain ⟨evhp14, qhp14⟩ := hp14
            rw [evhp14] at hT
            refine lv_if_eq (tgt := 128) hx hb dX3_lead_110 (by decide) (fun c110 => ?_) (fun c110 => ?_)
            · skip
              exact hret _ v11 _ _ _ _ _ dX3_lead_128 hT ⟨_, _, _, hI, hP1⟩ (by show 0 + 0 + 8 + 0 + 0 ≤ 16; omega) (by show 0 + 0 + 64 + 0 + 0 ≤ 128; omega)
            · skip
              have hq9 := (qhp14.resolve_right c110).2
              rw [if_neg (show ¬ (pc_T (pc_D C i 4) i (fun j9 => ¬ hb_ 0 (nI j9) = 0)).D i = 2 from (by show ¬ va_up _ i 4 i = 2; rw [va_up_self]; decide))] at hq9
              have hev := pr_AB hP1 hi (va_up_self ..) hq9 (fun j hj z => ⟨(qt_T z).1, (cj_ty hI hi (cs_lt8 hS hj)).mpr (qt_T z).2⟩)
              refine lv_aload_n hx hb dX3_lead_113 rfl (lv_at hl 2 rfl) ?_
              refine lv_iload_n hx hb dX3_lead_114 rfl (lv_at hl 3 rfl) ?_
              refine lv_iload hx hb dX3_lead_115 (lv_at hl 0 rfl) ?_
              refine lv_if_eq (tgt := 124) hx hb dX3_lead_117 (by decide) (fun c117 => ?_) (fun c117 => ?_)
              · skip
                refine lv_iconst (v := 5) hx hb dX3_lead_124 (by decide) ?_
                refine hv_callv (va_runV (As := [.int (nI i), .int 5]) (rest := []) ⟨hx, hb, hml, hown, hts⟩ (c_decide l D tc hI hi hh 5 (s1 := 5) rfl (Or.inr ⟨rfl, hev⟩)) (cwV 2 hts (tw_V tw_180 tw_181 tw_492 tw_1 tw_182) rfl rfl rfl (by decide +kernel) ⟨Nat.le_of_ble_eq_true rfl, Nat.le_of_ble_eq_true rfl⟩) (hv_preV (ci := 3) hK hT.1 (cs_kX hS) (by decide) rfl rfl) rfl rfl hl.1 rfl (lv_room (Nat.le_of_ble_eq_true rfl)) dX3_lead_125 ⟨by show 0 + 0 + 8 + 0 + 0 + 8 ≤ 16; omega, by show 0 + 0 + 64 + 0 + 0 + 64 ≤ 128; omega⟩) hT (fun v16 H locs hp17 hT => ?_)
                obtain ⟨_, hI⟩ := hp17
                have hS := hI.1.1
                exact hret _ v16 _ _ _ _ _ dX3_lead_128 hT ⟨_, _, _, hI, pr_dec hP1 hi (pc_S_off.tr pc_D_off) (Or.inr ⟨va_up_self .., hev⟩) ⟨Or.inr (va_up_self ..), rfl, fun _ h => h, fun _ => rfl⟩ (by show ¬ va_up _ i 0 i = 1; rw [va_up_self]; decide)⟩ (by show 0 + 0 + 8 + 0 + 0 + 8 ≤ 16; omega) (by show 0 + 0 + 64 + 0 + 0 + 64 ≤ 128; omega)
              · skip
                exact absurd rfl c117
          · skip
            exact absurd rfl c78
        · skip
          have hSr : C.S i = 3 := nI_lit (k := 3) (by first | exact c53 | exact Classical.not_not.mp c53)
          refine lv_iconst (v := 1) hx hb dX3_lead_56 (by decide) ?_
          refine lv_iload_n hx hb dX3_lead_57 rfl (lv_at hl 3 rfl) ?_
          refine lv_ishl hx hb dX3_lead_58 ?_
          refine lv_goto (tgt := 63) hx hb dX3_lead_59 (by decide) ?_
          refine hv_puti (ci := 2) (C := RX2) (T := TX2) (N := 10) hx hb hts (tw_cs in_X2) tyX2 tyX2_ok nmX2 hown hK hT (cs_ks hS hi) (by decide) rfl 2 (by decide) (hts _ (tw_c tw_77)) rfl rfl (x := (1 <<< ((nI i) &&& 31))) rfl rfl dX3_lead_63 (fun H locs hT => ?_)
          have hI := cj_202 (i := i) (x := (1 <<< ((nI i) &&& 31))) hi hI
          have hS := hI.1.1
          refine lv_aload_n hx hb dX3_lead_66 rfl (lv_at hl 2 rfl) ?_
          refine hv_gets (ci := 3) (C := RX3) (T := TX3) (N := 12) hx hb hts (tw_cs in_X3) hown hK hT (cs_kX hS) (by decide) rfl 1 (by decide) (hts _ (tw_c tw_48)) rfl (x := (fa 2)) (cs_pN hS) dX3_lead_67 ?_
          refine lv_iload_n hx hb dX3_lead_70 rfl (lv_at hl 3 rfl) ?_
          refine lv_aload_n hx hb dX3_lead_71 rfl (lv_at hl 2 rfl) ?_
          refine lv_iload_n hx hb dX3_lead_72 rfl (lv_at hl 3 rfl) ?_
          refine hv_calli (va_runV (As := [.int (nI i)]) (rest := [.int (nI i), .ref (fa 2)]) ⟨hx, hb, hml, hown, hts⟩ (c_allBut l D tc hS hI.1.2.1.1 (nI i)) (cwV 1 hts (tw_V tw_131 tw_132 tw_487 tw_1 tw_133) rfl rfl rfl (by decide +kernel) ⟨Nat.le_of_ble_eq_true rfl, Nat.le_of_ble_eq_true rfl⟩) (hv_preV (ci := 3) hK hT.1 (cs_kX hS) (by decide) rfl rfl) rfl rfl hl.1 rfl (lv_room (Nat.le_of_ble_eq_true rfl)) dX3_lead_73 ⟨by show 0 + 0 ≤ 16; omega, by show 0 + 0 ≤ 128; omega⟩) hT (fun r20 v18 H locs hp19 hT => ?_)
          obtain ⟨evhp19, qhp19⟩ := hp19
          rw [evhp19] at hT
          refine lv_iload hx hb dX3_lead_76 (lv_at hl 0 rfl) ?_
          refine lv_if_eq (tgt := 86) hx hb dX3_lead_78 (by decide) (fun c78 => ?_) (fun c78 => ?_)
          · skip
            refine lv_bipush (v := 7) hx hb dX3_lead_86 (by decide) ?_
            refine lv_aload_n hx hb dX3_lead_88 rfl (lv_at hl 1 rfl) ?_
            refine hv_geti (ci := 2) (C := RX2) (T := TX2) (N := 10) hx hb hts (tw_cs in_X2) hown hK hT (cs_ks hS hi) (by decide) rfl 7 (by decide) (hts _ (tw_c tw_87)) rfl dX3_lead_89 ?_
            refine lv_topi (fun g21 eg21 => ?_)
            have eg21 : g21 = (nI (C.A i)) := eg21.trans (by have h := cj_a hI hi; exact h)
            subst eg21
            refine lv_iconst (v := 0) hx hb dX3_lead_92 (by decide) ?_
            obtain ⟨H, hP1, hle, hK1, hc1⟩ := pr_lead (E := (pc_T (pc_D C i 4) i (fun j9 => ¬ hb_ (1 <<< ((nI i) &&& 31)) (nI j9) = 0))) (r := 3) (d := 4) hP hi (ho.tr (pc_D_off.tr pc_T_off)) (by rw [hAA]; exact hK0) (Or.inr ⟨rfl, rfl⟩) (by rw [if_neg (fun z => hS1 (hSS.symm.trans z))]; exact hSS.symm) (va_up_self ..) hAA.symm (fun j hj z => ⟨cs_bit1 (cs_lt8 hS hi) (cs_lt8 hS hj) (pc_Ti z), hSr⟩)
            rw [hAA] at hK1
            have hI := cj_le hle (Nat.le_refl _) (cj_am9 hI) hI
            refine hv_callv (va_runV (As := [.int (nI i), .int r20, .int 7, .int (nI (C.A i)), .int 0]) (rest := []) ⟨hx, hb, hml, hown, hts⟩ (c_send l D tc hI hi r20 7 (nI (C.A i)) 0 (cs_all qhp19 (cs_n8 hS) (cs_lt8 hS hi)) hh (fun t ht hb => qm_7 hi ((cs_all qhp19 (cs_n8 hS) (cs_lt8 hS hi)) t ht hb) (cj_am hI0 hi) hK1)) (cwV 5 hts (tw_V tw_137 tw_138 tw_139 tw_2 tw_140) rfl rfl rfl (by decide +kernel) ⟨Nat.le_of_ble_eq_true rfl, Nat.le_of_ble_eq_true rfl⟩) (hv_preV (ci := 1) hK hT.1 (cs_kN hS) (by decide) rfl rfl) rfl rfl hl.1 rfl (lv_room (Nat.le_of_ble_eq_true rfl)) dX3_lead_93 ⟨by show 0 + 0 + 8 ≤ 16; omega, by show 0 + 0 + 64 ≤ 128; omega⟩) hT (fun v22 H locs hp23 hT => ?_)
            obtain ⟨_, hI⟩ := hp23
            have hS := hI.1.1
            refine lv_aload_n hx hb dX3_lead_96 rfl (lv_at hl 2 rfl) ?_
            refine lv_aload_n hx hb dX3_lead_97 rfl (lv_at hl 1 rfl) ?_
            refine lv_aload_n hx hb dX3_lead_98 rfl (lv_at hl 2 rfl) ?_
            refine hv_geti (ci := 3) (C := RX3) (T := TX3) (N := 12) hx hb hts (tw_cs in_X3) hown hK hT (cs_kX hS) (by decide) rfl 7 (by decide) (hts _ (tw_c tw_54)) rfl dX3_lead_99 ?_
            refine lv_topi (fun g24 eg24 => ?_)
            obtain ⟨q25, h5q25, h100q25, hq25⟩ := hI.1.2.1.2.2.2.1
            have eg24 : g24 = (nI q25) := by rw [eg24]; exact hq25
            subst eg24
            refine hv_callv (va_runV (As := [.ref (fa (16 + i)), .int (nI q25)]) (rest := []) ⟨hx, hb, hml, hown, hts⟩ (c_setTimer l D tc hI hi (q := q25) (by have h8 := cs_lt8 hS hi; omega)) (cwV 2 hts (tw_V tw_167 tw_168 tw_489 tw_1 tw_169) rfl rfl rfl (by decide +kernel) ⟨Nat.le_of_ble_eq_true rfl, Nat.le_of_ble_eq_true rfl⟩) (hv_preV (ci := 3) hK hT.1 (cs_kX hS) (by decide) rfl rfl) rfl rfl hl.1 rfl (lv_room (Nat.le_of_ble_eq_true rfl)) dX3_lead_102 ⟨by show 0 + 0 + 8 + 0 ≤ 16; omega, by show 0 + 0 + 64 + 0 ≤ 128; omega⟩) hT (fun v26 H locs hp27 hT => ?_)
            have hI := hp27
            have hS := hI.1.1
            refine lv_aload_n hx hb dX3_lead_105 rfl (lv_at hl 2 rfl) ?_
            refine lv_aload_n hx hb dX3_lead_106 rfl (lv_at hl 1 rfl) ?_
            refine hv_calli (va_runV (As := [.ref (fa (16 + i))]) (rest := []) ⟨hx, hb, hml, hown, hts⟩ (c_hasQuorum l D tc hI hi) (cwV 1 hts (tw_V tw_177 tw_178 tw_491 tw_1 tw_179) rfl rfl rfl (by decide +kernel) ⟨Nat.le_of_ble_eq_true rfl, Nat.le_of_ble_eq_true rfl⟩) (hv_preV (ci := 3) hK hT.1 (cs_kX hS) (by decide) rfl rfl) rfl rfl hl.1 rfl (lv_room (Nat.le_of_ble_eq_true rfl)) dX3_lead_107 ⟨by show 0 + 0 + 8 + 0 + 0 ≤ 16; omega, by show 0 + 0 + 64 + 0 + 0 ≤ 128; omega⟩) hT (fun r30 v28 H locs hp29 hT => ?_)
            obtain ⟨evhp29, qhp29⟩ := hp29
            rw [evhp29] at hT
            refine lv_if_eq (tgt := 128) hx hb dX3_lead_110 (by decide) (fun c110 => ?_) (fun c110 => ?_)
            · skip
              exact hret _ v26 _ _ _ _ _ dX3_lead_128 hT ⟨_, _, _, hI, hP1⟩ (by show 0 + 0 + 8 + 0 + 0 ≤ 16; omega) (by show 0 + 0 + 64 + 0 + 0 ≤ 128; omega)
            · skip
              have hq9 := (qhp29.resolve_right c110).2
              rw [if_neg (show ¬ (pc_T (pc_D C i 4) i (fun j9 => ¬ hb_ (1 <<< ((nI i) &&& 31)) (nI j9) = 0)).D i = 2 from (by show ¬ va_up _ i 4 i = 2; rw [va_up_self]; decide))] at hq9
              have hev := pr_AB hP1 hi (va_up_self ..) hq9 (fun j hj z => ⟨(qt_T z).1, (cj_ty hI hi (cs_lt8 hS hj)).mpr (qt_T z).2⟩)
              refine lv_aload_n hx hb dX3_lead_113 rfl (lv_at hl 2 rfl) ?_
              refine lv_iload_n hx hb dX3_lead_114 rfl (lv_at hl 3 rfl) ?_
              refine lv_iload hx hb dX3_lead_115 (lv_at hl 0 rfl) ?_
              refine lv_if_eq (tgt := 124) hx hb dX3_lead_117 (by decide) (fun c117 => ?_) (fun c117 => ?_)
              · skip
                refine lv_iconst (v := 5) hx hb dX3_lead_124 (by decide) ?_
                refine hv_callv (va_runV (As := [.int (nI i), .int 5]) (rest := []) ⟨hx, hb, hml, hown, hts⟩ (c_decide l D tc hI hi hh 5 (s1 := 5) rfl (Or.inr ⟨rfl, hev⟩)) (cwV 2 hts (tw_V tw_180 tw_181 tw_492 tw_1 tw_182) rfl rfl rfl (by decide +kernel) ⟨Nat.le_of_ble_eq_true rfl, Nat.le_of_ble_eq_true rfl⟩) (hv_preV (ci := 3) hK hT.1 (cs_kX hS) (by decide) rfl rfl) rfl rfl hl.1 rfl (lv_room (Nat.le_of_ble_eq_true rfl)) dX3_lead_125 ⟨by show 0 + 0 + 8 + 0 + 0 + 8 ≤ 16; omega, by show 0 + 0 + 64 + 0 + 0 + 64 ≤ 128; omega⟩) hT (fun v31 H locs hp32 hT => ?_)
                obtain ⟨_, hI⟩ := hp32
                have hS := hI.1.1
                exact hret _ v31 _ _ _ _ _ dX3_lead_128 hT ⟨_, _, _, hI, pr_dec hP1 hi (pc_S_off.tr pc_D_off) (Or.inr ⟨va_up_self .., hev⟩) ⟨Or.inr (va_up_self ..), rfl, fun _ h => h, fun _ => rfl⟩ (by show ¬ va_up _ i 0 i = 1; rw [va_up_self]; decide)⟩ (by show 0 + 0 + 8 + 0 + 0 + 8 ≤ 16; omega) (by show 0 + 0 + 64 + 0 + 0 + 64 ≤ 128; omega)
              · skip
                exact absurd rfl c117
          · skip
            exact absurd rfl c78
      · skip
        exact absurd rfl c36
    · skip
      have hS1 : C.S i = 1 := nI_lit (k := 1) (by first | exact c24 | exact Classical.not_not.mp c24)
      refine lv_aload_n hx hb dX3_lead_27 rfl (lv_at hl 2 rfl) ?_
      refine lv_aload_n hx hb dX3_lead_28 rfl (lv_at hl 1 rfl) ?_
      refine lv_iload_n hx hb dX3_lead_29 rfl (lv_at hl 4 rfl) ?_
      refine hv_callv (va_runV (As := [.ref (fa (16 + i)), .int 3]) (rest := []) ⟨hx, hb, hml, hown, hts⟩ (c_become l D tc hI hi 3 (s1 := 3) rfl (by decide)) (cwV 2 hts (tw_V tw_124 tw_125 tw_486 tw_1 tw_126) rfl rfl rfl (by decide +kernel) ⟨Nat.le_of_ble_eq_true rfl, Nat.le_of_ble_eq_true rfl⟩) (hv_preV (ci := 3) hK hT.1 (cs_kX hS) (by decide) rfl rfl) rfl rfl hl.1 rfl (lv_room (Nat.le_of_ble_eq_true rfl)) dX3_lead_30 ⟨by show 0 + 0 ≤ 16; omega, by show 0 + 0 ≤ 128; omega⟩) hT (fun v33 H locs hp34 hT => ?_)
      have hI := hp34
      have hS := hI.1.1
      refine lv_aload_n hx hb dX3_lead_33 rfl (lv_at hl 1 rfl) ?_
      refine lv_iload hx hb dX3_lead_34 (lv_at hl 0 rfl) ?_
      refine lv_if_eq (tgt := 43) hx hb dX3_lead_36 (by decide) (fun c36 => ?_) (fun c36 => ?_)
      · skip
        refine lv_iconst (v := 4) hx hb dX3_lead_43 (by decide) ?_
        refine hv_puti (ci := 2) (C := RX2) (T := TX2) (N := 10) hx hb hts (tw_cs in_X2) tyX2 tyX2_ok nmX2 hown hK hT (cs_ks hS hi) (by decide) rfl 6 (by decide) (hts _ (tw_c tw_85)) rfl rfl (x := 4) rfl rfl dX3_lead_44 (fun H locs hT => ?_)
        have hI := cj_206 (i := i) (x := 4) (s := 4) rfl (by decide) hi hI
        have hS := hI.1.1
        refine lv_aload_n hx hb dX3_lead_47 rfl (lv_at hl 1 rfl) ?_
        refine lv_aload_n hx hb dX3_lead_48 rfl (lv_at hl 1 rfl) ?_
        refine hv_geti (ci := 2) (C := RX2) (T := TX2) (N := 10) hx hb hts (tw_cs in_X2) hown hK hT (cs_ks hS hi) (by decide) rfl 4 (by decide) (hts _ (tw_c tw_81)) rfl dX3_lead_49 ?_
        refine lv_topi (fun g35 eg35 => ?_)
        have eg35 : g35 = (nI 3) := eg35.trans (by have h := cj_s hI hi; exact h.trans (congrArg nI (va_up_self ..)))
        subst eg35
        refine lv_iload_n hx hb dX3_lead_52 rfl (lv_at hl 4 rfl) ?_
        refine lv_icmp_ne (tgt := 62) hx hb dX3_lead_53 (by decide) (fun c53 => ?_) (fun c53 => ?_)
        · skip
          exact absurd rfl c53
        · skip
          refine lv_iconst (v := 1) hx hb dX3_lead_56 (by decide) ?_
          refine lv_iload_n hx hb dX3_lead_57 rfl (lv_at hl 3 rfl) ?_
          refine lv_ishl hx hb dX3_lead_58 ?_
          refine lv_goto (tgt := 63) hx hb dX3_lead_59 (by decide) ?_
          refine hv_puti (ci := 2) (C := RX2) (T := TX2) (N := 10) hx hb hts (tw_cs in_X2) tyX2 tyX2_ok nmX2 hown hK hT (cs_ks hS hi) (by decide) rfl 2 (by decide) (hts _ (tw_c tw_77)) rfl rfl (x := (1 <<< ((nI i) &&& 31))) rfl rfl dX3_lead_63 (fun H locs hT => ?_)
          have hI := cj_202 (i := i) (x := (1 <<< ((nI i) &&& 31))) hi hI
          have hS := hI.1.1
          refine lv_aload_n hx hb dX3_lead_66 rfl (lv_at hl 2 rfl) ?_
          refine hv_gets (ci := 3) (C := RX3) (T := TX3) (N := 12) hx hb hts (tw_cs in_X3) hown hK hT (cs_kX hS) (by decide) rfl 1 (by decide) (hts _ (tw_c tw_48)) rfl (x := (fa 2)) (cs_pN hS) dX3_lead_67 ?_
          refine lv_iload_n hx hb dX3_lead_70 rfl (lv_at hl 3 rfl) ?_
          refine lv_aload_n hx hb dX3_lead_71 rfl (lv_at hl 2 rfl) ?_
          refine lv_iload_n hx hb dX3_lead_72 rfl (lv_at hl 3 rfl) ?_
          refine hv_calli (va_runV (As := [.int (nI i)]) (rest := [.int (nI i), .ref (fa 2)]) ⟨hx, hb, hml, hown, hts⟩ (c_allBut l D tc hS hI.1.2.1.1 (nI i)) (cwV 1 hts (tw_V tw_131 tw_132 tw_487 tw_1 tw_133) rfl rfl rfl (by decide +kernel) ⟨Nat.le_of_ble_eq_true rfl, Nat.le_of_ble_eq_true rfl⟩) (hv_preV (ci := 3) hK hT.1 (cs_kX hS) (by decide) rfl rfl) rfl rfl hl.1 rfl (lv_room (Nat.le_of_ble_eq_true rfl)) dX3_lead_73 ⟨by show 0 + 0 + 0 ≤ 16; omega, by show 0 + 0 + 0 ≤ 128; omega⟩) hT (fun r38 v36 H locs hp37 hT => ?_)
          obtain ⟨evhp37, qhp37⟩ := hp37
          rw [evhp37] at hT
          refine lv_iload hx hb dX3_lead_76 (lv_at hl 0 rfl) ?_
          refine lv_if_eq (tgt := 86) hx hb dX3_lead_78 (by decide) (fun c78 => ?_) (fun c78 => ?_)
          · skip
            refine lv_bipush (v := 7) hx hb dX3_lead_86 (by decide) ?_
            refine lv_aload_n hx hb dX3_lead_88 rfl (lv_at hl 1 rfl) ?_
            refine hv_geti (ci := 2) (C := RX2) (T := TX2) (N := 10) hx hb hts (tw_cs in_X2) hown hK hT (cs_ks hS hi) (by decide) rfl 7 (by decide) (hts _ (tw_c tw_87)) rfl dX3_lead_89 ?_
            refine lv_topi (fun g39 eg39 => ?_)
            have eg39 : g39 = (nI (C.A i)) := eg39.trans (by have h := cj_a hI hi; exact h)
            subst eg39
            refine lv_iconst (v := 0) hx hb dX3_lead_92 (by decide) ?_
            obtain ⟨H, hP1, hle, hK1, hc1⟩ := pr_lead (E := (pc_T (pc_D (pc_S C i 3) i 4) i (fun j9 => ¬ hb_ (1 <<< ((nI i) &&& 31)) (nI j9) = 0))) (r := 3) (d := 4) hP hi (ho.tr ((pc_S_off.tr pc_D_off).tr pc_T_off)) (by rw [hAA]; exact hK0) (Or.inr ⟨rfl, rfl⟩) (by rw [if_pos (hSS.trans hS1)]; exact va_up_self ..) (va_up_self ..) hAA.symm (fun j hj z => ⟨cs_bit1 (cs_lt8 hS hi) (cs_lt8 hS hj) (pc_Ti z), va_up_self ..⟩)
            rw [hAA] at hK1
            have hI := cj_le hle (Nat.le_refl _) (cj_am9 hI) hI
            refine hv_callv (va_runV (As := [.int (nI i), .int r38, .int 7, .int (nI (C.A i)), .int 0]) (rest := []) ⟨hx, hb, hml, hown, hts⟩ (c_send l D tc hI hi r38 7 (nI (C.A i)) 0 (cs_all qhp37 (cs_n8 hS) (cs_lt8 hS hi)) hh (fun t ht hb => qm_7 hi ((cs_all qhp37 (cs_n8 hS) (cs_lt8 hS hi)) t ht hb) (cj_am hI0 hi) hK1)) (cwV 5 hts (tw_V tw_137 tw_138 tw_139 tw_2 tw_140) rfl rfl rfl (by decide +kernel) ⟨Nat.le_of_ble_eq_true rfl, Nat.le_of_ble_eq_true rfl⟩) (hv_preV (ci := 1) hK hT.1 (cs_kN hS) (by decide) rfl rfl) rfl rfl hl.1 rfl (lv_room (Nat.le_of_ble_eq_true rfl)) dX3_lead_93 ⟨by show 0 + 0 + 0 + 8 ≤ 16; omega, by show 0 + 0 + 0 + 64 ≤ 128; omega⟩) hT (fun v40 H locs hp41 hT => ?_)
            obtain ⟨_, hI⟩ := hp41
            have hS := hI.1.1
            refine lv_aload_n hx hb dX3_lead_96 rfl (lv_at hl 2 rfl) ?_
            refine lv_aload_n hx hb dX3_lead_97 rfl (lv_at hl 1 rfl) ?_
            refine lv_aload_n hx hb dX3_lead_98 rfl (lv_at hl 2 rfl) ?_
            refine hv_geti (ci := 3) (C := RX3) (T := TX3) (N := 12) hx hb hts (tw_cs in_X3) hown hK hT (cs_kX hS) (by decide) rfl 7 (by decide) (hts _ (tw_c tw_54)) rfl dX3_lead_99 ?_
            refine lv_topi (fun g42 eg42 => ?_)
            obtain ⟨q43, h5q43, h100q43, hq43⟩ := hI.1.2.1.2.2.2.1
            have eg42 : g42 = (nI q43) := by rw [eg42]; exact hq43
            subst eg42
            refine hv_callv (va_runV (As := [.ref (fa (16 + i)), .int (nI q43)]) (rest := []) ⟨hx, hb, hml, hown, hts⟩ (c_setTimer l D tc hI hi (q := q43) (by have h8 := cs_lt8 hS hi; omega)) (cwV 2 hts (tw_V tw_167 tw_168 tw_489 tw_1 tw_169) rfl rfl rfl (by decide +kernel) ⟨Nat.le_of_ble_eq_true rfl, Nat.le_of_ble_eq_true rfl⟩) (hv_preV (ci := 3) hK hT.1 (cs_kX hS) (by decide) rfl rfl) rfl rfl hl.1 rfl (lv_room (Nat.le_of_ble_eq_true rfl)) dX3_lead_102 ⟨by show 0 + 0 + 0 + 8 + 0 ≤ 16; omega, by show 0 + 0 + 0 + 64 + 0 ≤ 128; omega⟩) hT (fun v44 H locs hp45 hT => ?_)
            have hI := hp45
            have hS := hI.1.1
            refine lv_aload_n hx hb dX3_lead_105 rfl (lv_at hl 2 rfl) ?_
            refine lv_aload_n hx hb dX3_lead_106 rfl (lv_at hl 1 rfl) ?_
            refine hv_calli (va_runV (As := [.ref (fa (16 + i))]) (rest := []) ⟨hx, hb, hml, hown, hts⟩ (c_hasQuorum l D tc hI hi) (cwV 1 hts (tw_V tw_177 tw_178 tw_491 tw_1 tw_179) rfl rfl rfl (by decide +kernel) ⟨Nat.le_of_ble_eq_true rfl, Nat.le_of_ble_eq_true rfl⟩) (hv_preV (ci := 3) hK hT.1 (cs_kX hS) (by decide) rfl rfl) rfl rfl hl.1 rfl (lv_room (Nat.le_of_ble_eq_true rfl)) dX3_lead_107 ⟨by show 0 + 0 + 0 + 8 + 0 + 0 ≤ 16; omega, by show 0 + 0 + 0 + 64 + 0 + 0 ≤ 128; omega⟩) hT (fun r48 v46 H locs hp47 hT => ?_)
            obtain ⟨evhp47, qhp47⟩ := hp47
            rw [evhp47] at hT
            refine lv_if_eq (tgt := 128) hx hb dX3_lead_110 (by decide) (fun c110 => ?_) (fun c110 => ?_)
            · skip
              exact hret _ v44 _ _ _ _ _ dX3_lead_128 hT ⟨_, _, _, hI, hP1⟩ (by show 0 + 0 + 0 + 8 + 0 + 0 ≤ 16; omega) (by show 0 + 0 + 0 + 64 + 0 + 0 ≤ 128; omega)
            · skip
              have hq9 := (qhp47.resolve_right c110).2
              rw [if_neg (show ¬ (pc_T (pc_D (pc_S C i 3) i 4) i (fun j9 => ¬ hb_ (1 <<< ((nI i) &&& 31)) (nI j9) = 0)).D i = 2 from (by show ¬ va_up _ i 4 i = 2; rw [va_up_self]; decide))] at hq9
              have hev := pr_AB hP1 hi (va_up_self ..) hq9 (fun j hj z => ⟨(qt_T z).1, (cj_ty hI hi (cs_lt8 hS hj)).mpr (qt_T z).2⟩)
              refine lv_aload_n hx hb dX3_lead_113 rfl (lv_at hl 2 rfl) ?_
              refine lv_iload_n hx hb dX3_lead_114 rfl (lv_at hl 3 rfl) ?_
              refine lv_iload hx hb dX3_lead_115 (lv_at hl 0 rfl) ?_
              refine lv_if_eq (tgt := 124) hx hb dX3_lead_117 (by decide) (fun c117 => ?_) (fun c117 => ?_)
              · skip
                refine lv_iconst (v := 5) hx hb dX3_lead_124 (by decide) ?_
                refine hv_callv (va_runV (As := [.int (nI i), .int 5]) (rest := []) ⟨hx, hb, hml, hown, hts⟩ (c_decide l D tc hI hi hh 5 (s1 := 5) rfl (Or.inr ⟨rfl, hev⟩)) (cwV 2 hts (tw_V tw_180 tw_181 tw_492 tw_1 tw_182) rfl rfl rfl (by decide +kernel) ⟨Nat.le_of_ble_eq_true rfl, Nat.le_of_ble_eq_true rfl⟩) (hv_preV (ci := 3) hK hT.1 (cs_kX hS) (by decide) rfl rfl) rfl rfl hl.1 rfl (lv_room (Nat.le_of_ble_eq_true rfl)) dX3_lead_125 ⟨by show 0 + 0 + 0 + 8 + 0 + 0 + 8 ≤ 16; omega, by show 0 + 0 + 0 + 64 + 0 + 0 + 64 ≤ 128; omega⟩) hT (fun v49 H locs hp50 hT => ?_)
                obtain ⟨_, hI⟩ := hp50
                have hS := hI.1.1
                exact hret _ v49 _ _ _ _ _ dX3_lead_128 hT ⟨_, _, _, hI, pr_dec hP1 hi (pc_S_off.tr pc_D_off) (Or.inr ⟨va_up_self .., hev⟩) ⟨Or.inr (va_up_self ..), rfl, fun _ h => h, fun _ => rfl⟩ (by show ¬ va_up _ i 0 i = 1; rw [va_up_self]; decide)⟩ (by show 0 + 0 + 0 + 8 + 0 + 0 + 8 ≤ 16; omega) (by show 0 + 0 + 0 + 64 + 0 + 0 + 64 ≤ 128; omega)
              · skip
                exact absurd rfl c117
          · skip
            exact absurd rfl c78
      · skip
        exact absurd rfl c36
  · skip
    exact absurd (by first | exact c9 | exact Classical.not_not.mp c9) (by decide)

set_option maxHeartbeats 800000 in
set_option maxRecDepth 100000 in
theorem c_askVotes (l : Launch) (D : va_G) (tc : Nat → ClassId) {ys : Nat → Prop} {qc qa am : Nat} {C : PC} {fa : Nat → Nat} {n : Nat} {w u : Nat → Nat} {d : Nat → Nat → Nat} {g : Nat × Nat} {k : Nat} {hd : List Nat} {v : hv_V} (hI : cj_I ys qc qa am pg_0 C fa n w u 1 d g k hd v) {i : Nat} (hi : i < n) (hh : hd.length ≤ 1) (hq : ci_sum w n < qc + qa) (h0 : ∀ k, k < n → C.S k = 0 ∧ C.D k = 0) (hy : ys i) (h9 : am < 1000000000) : Met l yX3_askVotes (Cond.code yX3_askVotes cX3_askVotes 3 none :: lw_B) ({ frames := 5, cells := 24, slots := 192, locals := 114 }) (va_Pc [.ref (fa 0), .int (nI i)] (hv_Pre D tc v)) (va_Qv (fun (v1 : hv_V) => ∃ k1 G1 C1, cj_I ys qc qa (am + 1) G1 C1 fa n w u 1 d g k1 hd v1 ∧ pr_ok ⟨n, w, ys, qc, qa⟩ G1 C1) (hv_Post D tc (hv_A v)) (hv_A v)) (24) (192) (hv_A v) := by
  refine hv_metv l (by decide) (Nat.le_of_ble_eq_true rfl) ?_
  intro p e s m args below meth c Q X hret hK hz H locs ls hT hl
  obtain ⟨hx, hb, hml, hts, hown, hin0⟩ := X
  have hown : s.vm.findClass "CommitSites" = some m.cls := hown
  have hl : lv_has ls 3 [(0, .ref (fa 0)), (1, .int (nI i))] := hl
  have hS := hI.1.1
  have ham := cj_am hI hi
  have hI := cj_le pg_le.rf (Nat.le_succ am) h9 hI
  refine lv_aload_n hx hb dX3_askVotes_0 rfl (lv_at hl 0 rfl) ?_
  refine hv_gets (ci := 3) (C := RX3) (T := TX3) (N := 12) hx hb hts (tw_cs in_X3) hown hK hT (cs_kX hS) (by decide) rfl 0 (by decide) (hts _ (tw_c tw_47)) rfl (x := (fa 1)) (cs_pS hS) dX3_askVotes_1 ?_
  refine lv_iload_n hx hb dX3_askVotes_4 rfl (lv_at hl 1 rfl) ?_
  refine hv_alds (t := 0) hx hb hK hT (cs_kS hS) rfl rfl (cs_in8 (cs_lt8 hS hi)) (x := (fa (16 + i))) (cs_qS hS hi) dX3_askVotes_5 ?_
  refine lv_astore_n (lv' := [(2, _), (0, _), (1, _)]) hx hb dX3_askVotes_6 rfl hl (by decide) rfl (fun ls hl => ?_)
  refine lv_aload_n hx hb dX3_askVotes_7 rfl (lv_at hl 1 rfl) ?_
  refine lv_aload_n hx hb dX3_askVotes_8 rfl (lv_at hl 0 rfl) ?_
  refine lv_iconst (v := 1) hx hb dX3_askVotes_9 (by decide) ?_
  refine hv_callv (va_runV (As := [.ref (fa (16 + i)), .int 1]) (rest := []) ⟨hx, hb, hml, hown, hts⟩ (c_become l D tc hI hi 1 (s1 := 1) rfl (by decide)) (cwV 2 hts (tw_V tw_124 tw_125 tw_486 tw_1 tw_126) rfl rfl rfl (by decide +kernel) ⟨Nat.le_of_ble_eq_true rfl, Nat.le_of_ble_eq_true rfl⟩) (hv_preV (ci := 3) hK hT.1 (cs_kX hS) (by decide) rfl rfl) rfl rfl hl.1 rfl (lv_room (Nat.le_of_ble_eq_true rfl)) dX3_askVotes_10 ⟨by show 0 + 0 ≤ 24; omega, by show 0 + 0 ≤ 192; omega⟩) hT (fun v1 H locs hp2 hT => ?_)
  have hI := hp2
  have hS := hI.1.1
  refine lv_aload_n hx hb dX3_askVotes_13 rfl (lv_at hl 0 rfl) ?_
  refine lv_iconst (v := 1) hx hb dX3_askVotes_14 (by decide) ?_
  refine hv_puti (ci := 2) (C := RX2) (T := TX2) (N := 10) hx hb hts (tw_cs in_X2) tyX2 tyX2_ok nmX2 hown hK hT (cs_ks hS hi) (by decide) rfl 6 (by decide) (hts _ (tw_c tw_85)) rfl rfl (x := 1) rfl rfl dX3_askVotes_15 (fun H locs hT => ?_)
  have hI := cj_206 (i := i) (x := 1) (s := 1) rfl (by decide) hi hI
  have hS := hI.1.1
  refine lv_aload_n hx hb dX3_askVotes_18 rfl (lv_at hl 0 rfl) ?_
  refine lv_iconst (v := 1) hx hb dX3_askVotes_19 (by decide) ?_
  refine lv_iload_n hx hb dX3_askVotes_20 rfl (lv_at hl 2 rfl) ?_
  refine lv_ishl hx hb dX3_askVotes_21 ?_
  refine hv_puti (ci := 2) (C := RX2) (T := TX2) (N := 10) hx hb hts (tw_cs in_X2) tyX2 tyX2_ok nmX2 hown hK hT (cs_ks hS hi) (by decide) rfl 2 (by decide) (hts _ (tw_c tw_77)) rfl rfl (x := (1 <<< ((nI i) &&& 31))) rfl rfl dX3_askVotes_22 (fun H locs hT => ?_)
  have hI := cj_202 (i := i) (x := (1 <<< ((nI i) &&& 31))) hi hI
  have hS := hI.1.1
  refine lv_aload_n hx hb dX3_askVotes_25 rfl (lv_at hl 1 rfl) ?_
  refine hv_gets (ci := 3) (C := RX3) (T := TX3) (N := 12) hx hb hts (tw_cs in_X3) hown hK hT (cs_kX hS) (by decide) rfl 1 (by decide) (hts _ (tw_c tw_48)) rfl (x := (fa 2)) (cs_pN hS) dX3_askVotes_26 ?_
  refine lv_iload_n hx hb dX3_askVotes_29 rfl (lv_at hl 2 rfl) ?_
  refine lv_aload_n hx hb dX3_askVotes_30 rfl (lv_at hl 1 rfl) ?_
  refine lv_iload_n hx hb dX3_askVotes_31 rfl (lv_at hl 2 rfl) ?_
  refine hv_calli (va_runV (As := [.int (nI i)]) (rest := [.int (nI i), .ref (fa 2)]) ⟨hx, hb, hml, hown, hts⟩ (c_allBut l D tc hS hI.1.2.1.1 (nI i)) (cwV 1 hts (tw_V tw_131 tw_132 tw_487 tw_1 tw_133) rfl rfl rfl (by decide +kernel) ⟨Nat.le_of_ble_eq_true rfl, Nat.le_of_ble_eq_true rfl⟩) (hv_preV (ci := 3) hK hT.1 (cs_kX hS) (by decide) rfl rfl) rfl rfl hl.1 rfl (lv_room (Nat.le_of_ble_eq_true rfl)) dX3_askVotes_32 ⟨by show 0 + 0 + 0 ≤ 24; omega, by show 0 + 0 + 0 ≤ 192; omega⟩) hT (fun r5 v3 H locs hp4 hT => ?_)
  obtain ⟨evhp4, qhp4⟩ := hp4
  rw [evhp4] at hT
  refine lv_iconst (v := 1) hx hb dX3_askVotes_35 (by decide) ?_
  refine lv_iconst (v := 0) hx hb dX3_askVotes_36 (by decide) ?_
  refine lv_iconst (v := 0) hx hb dX3_askVotes_37 (by decide) ?_
  have hP1 : pr_ok ⟨n, w, ys, qc, qa⟩ pg_0 (pc_T (pc_D (pc_S C i 1) i 1) i (fun j9 => ¬ hb_ (1 <<< ((nI i) &&& 31)) (nI j9) = 0)) := pr_begin hq hi h0 ((pc_S_off.tr pc_D_off).tr pc_T_off) hy (va_up_self ..) (va_up_self ..) (fun j hj z => cs_bit1 (cs_lt8 hS hi) (cs_lt8 hS hj) (pc_Ti z))
  refine hv_callv (va_runV (As := [.int (nI i), .int r5, .int 1, .int 0, .int 0]) (rest := []) ⟨hx, hb, hml, hown, hts⟩ (c_send l D tc hI hi r5 1 0 0 (cs_all qhp4 (cs_n8 hS) (cs_lt8 hS hi)) hh (fun t ht hb => qm_1 hi ((cs_all qhp4 (cs_n8 hS) (cs_lt8 hS hi)) t ht hb))) (cwV 5 hts (tw_V tw_137 tw_138 tw_139 tw_2 tw_140) rfl rfl rfl (by decide +kernel) ⟨Nat.le_of_ble_eq_true rfl, Nat.le_of_ble_eq_true rfl⟩) (hv_preV (ci := 1) hK hT.1 (cs_kN hS) (by decide) rfl rfl) rfl rfl hl.1 rfl (lv_room (Nat.le_of_ble_eq_true rfl)) dX3_askVotes_38 ⟨by show 0 + 0 + 0 + 8 ≤ 24; omega, by show 0 + 0 + 0 + 64 ≤ 192; omega⟩) hT (fun v6 H locs hp7 hT => ?_)
  obtain ⟨_, hI⟩ := hp7
  have hS := hI.1.1
  refine lv_aload_n hx hb dX3_askVotes_41 rfl (lv_at hl 1 rfl) ?_
  refine lv_aload_n hx hb dX3_askVotes_42 rfl (lv_at hl 0 rfl) ?_
  refine lv_aload_n hx hb dX3_askVotes_43 rfl (lv_at hl 1 rfl) ?_
  refine hv_geti (ci := 3) (C := RX3) (T := TX3) (N := 12) hx hb hts (tw_cs in_X3) hown hK hT (cs_kX hS) (by decide) rfl 7 (by decide) (hts _ (tw_c tw_54)) rfl dX3_askVotes_44 ?_
  refine lv_topi (fun g8 eg8 => ?_)
  obtain ⟨q9, h5q9, h100q9, hq9⟩ := hI.1.2.1.2.2.2.1
  have eg8 : g8 = (nI q9) := by rw [eg8]; exact hq9
  subst eg8
  refine hv_callv (va_runV (As := [.ref (fa (16 + i)), .int (nI q9)]) (rest := []) ⟨hx, hb, hml, hown, hts⟩ (c_setTimer l D tc hI hi (q := q9) (by have h8 := cs_lt8 hS hi; omega)) (cwV 2 hts (tw_V tw_167 tw_168 tw_489 tw_1 tw_169) rfl rfl rfl (by decide +kernel) ⟨Nat.le_of_ble_eq_true rfl, Nat.le_of_ble_eq_true rfl⟩) (hv_preV (ci := 3) hK hT.1 (cs_kX hS) (by decide) rfl rfl) rfl rfl hl.1 rfl (lv_room (Nat.le_of_ble_eq_true rfl)) dX3_askVotes_47 ⟨by show 0 + 0 + 0 + 8 + 0 ≤ 24; omega, by show 0 + 0 + 0 + 64 + 0 ≤ 192; omega⟩) hT (fun v10 H locs hp11 hT => ?_)
  have hI := hp11
  have hS := hI.1.1
  refine lv_aload_n hx hb dX3_askVotes_50 rfl (lv_at hl 0 rfl) ?_
  refine hv_geti (ci := 2) (C := RX2) (T := TX2) (N := 10) hx hb hts (tw_cs in_X2) hown hK hT (cs_ks hS hi) (by decide) rfl 2 (by decide) (hts _ (tw_c tw_77)) rfl dX3_askVotes_51 ?_
  refine lv_topi (fun g12 eg12 => ?_)
  refine lv_aload_n hx hb dX3_askVotes_54 rfl (lv_at hl 1 rfl) ?_
  refine hv_calli (va_runV (As := []) (rest := [.int g12]) ⟨hx, hb, hml, hown, hts⟩ (c_everyone l D tc hS hI.1.2.1.1) (cwV 0 hts (tw_V tw_134 tw_135 tw_488 tw_1 tw_136) rfl rfl rfl (by decide +kernel) ⟨Nat.le_of_ble_eq_true rfl, Nat.le_of_ble_eq_true rfl⟩) (hv_preV (ci := 3) hK hT.1 (cs_kX hS) (by decide) rfl rfl) rfl rfl hl.1 rfl (lv_room (Nat.le_of_ble_eq_true rfl)) dX3_askVotes_55 ⟨by show 0 + 0 + 0 + 8 + 0 + 0 ≤ 24; omega, by show 0 + 0 + 0 + 64 + 0 + 0 ≤ 192; omega⟩) hT (fun r15 v13 H locs hp14 hT => ?_)
  obtain ⟨evhp14, qhp14⟩ := hp14
  rw [evhp14] at hT
  refine lv_icmp_ne (tgt := 77) hx hb dX3_askVotes_58 (by decide) (fun c58 => ?_) (fun c58 => ?_)
  · skip
    exact hret _ v10 _ _ _ _ _ dX3_askVotes_77 hT ⟨_, _, _, hI, hP1⟩ (by show 0 + 0 + 0 + 8 + 0 + 0 ≤ 24; omega) (by show 0 + 0 + 0 + 64 + 0 + 0 ≤ 192; omega)
  · skip
    have hthe : g12 = r15 := (by first | exact c58 | exact Classical.not_not.mp c58)
    have hall : ∀ j8, j8 < n → (pc_T (pc_D (pc_S C i 1) i 1) i (fun j9 => ¬ hb_ (1 <<< ((nI i) &&& 31)) (nI j9) = 0)).T i j8 := fun j8 hj8 => (cj_ty hI hi (cs_lt8 hS hj8)).mpr (by rw [← eg12, hthe, qhp14]; exact cs_every (cs_n8 hS) hj8)
    refine lv_aload_n hx hb dX3_askVotes_61 rfl (lv_at hl 0 rfl) ?_
    refine lv_dup hx hb dX3_askVotes_62 rfl ?_
    refine hv_geti (ci := 2) (C := RX2) (T := TX2) (N := 10) hx hb hts (tw_cs in_X2) hown hK hT (cs_ks hS hi) (by decide) rfl 7 (by decide) (hts _ (tw_c tw_87)) rfl dX3_askVotes_63 ?_
    refine lv_topi (fun g16 eg16 => ?_)
    have eg16 : g16 = (nI (C.A i)) := eg16.trans (by have h := cj_a hI hi; exact h)
    subst eg16
    refine lv_iconst (v := 1) hx hb dX3_askVotes_66 (by decide) ?_
    refine lv_iadd hx hb dX3_askVotes_67 ?_
    refine hv_as (x := ((nI (C.A i)) + 1)) (y := (nI (C.A i + 1))) (nI_1 _) ?_
    refine hv_puti (ci := 2) (C := RX2) (T := TX2) (N := 10) hx hb hts (tw_cs in_X2) tyX2 tyX2_ok nmX2 hown hK hT (cs_ks hS hi) (by decide) rfl 7 (by decide) (hts _ (tw_c tw_87)) rfl rfl (x := (nI (C.A i + 1))) rfl rfl dX3_askVotes_68 (fun H locs hT => ?_)
    have hI := cj_207 (i := i) (x := (nI (C.A i + 1))) (s := (C.A i + 1)) rfl (by omega) hi hI
    have hS := hI.1.1
    refine lv_aload_n hx hb dX3_askVotes_71 rfl (lv_at hl 1 rfl) ?_
    refine lv_iload_n hx hb dX3_askVotes_72 rfl (lv_at hl 2 rfl) ?_
    refine lv_iconst (v := 2) hx hb dX3_askVotes_73 (by decide) ?_
    obtain ⟨hP2, hK2, hle2⟩ := pr_all (E := (pc_A (pc_D (pc_T (pc_D (pc_S C i 1) i 1) i (fun j9 => ¬ hb_ (1 <<< ((nI i) &&& 31)) (nI j9) = 0)) i 0) i (C.A i + 1))) hP1 hi (pc_D_off.tr pc_A_off) (va_up_self ..) hall rfl (va_up_self ..) (va_up_self ..)
    have hI := cj_le hle2 (Nat.le_refl _) (cj_am9 hI) hI
    refine hv_callv (va_runV (As := [.int (nI i), .int 2]) (rest := []) ⟨hx, hb, hml, hown, hts⟩ (c_lead2 l D tc hI hi hh (C' := (pc_A (pc_D (pc_T (pc_D (pc_S C i 1) i 1) i (fun j9 => ¬ hb_ (1 <<< ((nI i) &&& 31)) (nI j9) = 0)) i 0) i (C.A i + 1))) hP2 (fun k hk => ⟨rfl, (va_up_ne _ _ hk).symm, rfl, fun _ h => h, fun _ => rfl⟩) rfl rfl hK2 rfl) (cwV 2 hts (tw_V tw_174 tw_175 tw_490 tw_1 tw_176) rfl rfl rfl (by decide +kernel) ⟨Nat.le_of_ble_eq_true rfl, Nat.le_of_ble_eq_true rfl⟩) (hv_preV (ci := 3) hK hT.1 (cs_kX hS) (by decide) rfl rfl) rfl rfl hl.1 rfl (lv_room (Nat.le_of_ble_eq_true rfl)) dX3_askVotes_74 ⟨by show 0 + 0 + 0 + 8 + 0 + 0 + 16 ≤ 24; omega, by show 0 + 0 + 0 + 64 + 0 + 0 + 128 ≤ 192; omega⟩) hT (fun v17 H locs hp18 hT => ?_)
    obtain ⟨_, _, _, hI, hP3⟩ := hp18
    have hS := hI.1.1
    exact hret _ v17 _ _ _ _ _ dX3_askVotes_77 hT ⟨_, _, _, hI, hP3⟩ (by show 0 + 0 + 0 + 8 + 0 + 0 + 16 ≤ 24; omega) (by show 0 + 0 + 0 + 64 + 0 + 0 + 128 ≤ 192; omega)

set_option maxHeartbeats 800000 in
set_option maxRecDepth 100000 in
theorem c_yieldTo (l : Launch) (D : va_G) (tc : Nat → ClassId) {ys : Nat → Prop} {qc qa am : Nat} {G : PG} {C : PC} {fa : Nat → Nat} {n : Nat} {w u : Nat → Nat} {d : Nat → Nat → Nat} {g : Nat × Nat} {k : Nat} {hd : List Nat} {v : hv_V} (hI : cj_I ys qc qa am G C fa n w u 1 d g k hd v) {i : Nat} (hi : i < n) {j : Nat} (hj : j < n) : Met l yX3_yieldTo (Cond.code yX3_yieldTo cX3_yieldTo 5 none :: lw_B) ({ frames := 2, cells := 0, slots := 0, locals := 42 }) (va_Pc [.ref (fa 0), .int (nI i), .int (nI j)] (hv_Pre D tc v)) (va_Qv (fun (v1 : hv_V) => ∃ z, (z = C.D i ∨ z = 0) ∧ cj_I ys qc qa am G (pc_D C i z) fa n w u 1 d g k hd v1) (hv_Post D tc (hv_A v)) (hv_A v)) (0) (0) (hv_A v) := by
  refine hv_metv l (by decide) (Nat.le_of_ble_eq_true rfl) ?_
  intro p e s m args below meth c Q X hret hK hz H locs ls hT hl
  obtain ⟨hx, hb, hml, hts, hown, hin0⟩ := X
  have hown : s.vm.findClass "CommitSites" = some m.cls := hown
  have hl : lv_has ls 5 [(0, .ref (fa 0)), (1, .int (nI i)), (2, .int (nI j))] := hl
  have hS := hI.1.1
  refine lv_aload_n hx hb dX3_yieldTo_0 rfl (lv_at hl 0 rfl) ?_
  refine hv_gets (ci := 3) (C := RX3) (T := TX3) (N := 12) hx hb hts (tw_cs in_X3) hown hK hT (cs_kX hS) (by decide) rfl 0 (by decide) (hts _ (tw_c tw_47)) rfl (x := (fa 1)) (cs_pS hS) dX3_yieldTo_1 ?_
  refine lv_iload_n hx hb dX3_yieldTo_4 rfl (lv_at hl 1 rfl) ?_
  refine hv_alds (t := 0) hx hb hK hT (cs_kS hS) rfl rfl (cs_in8 (cs_lt8 hS hi)) (x := (fa (16 + i))) (cs_qS hS hi) dX3_yieldTo_5 ?_
  refine lv_astore_n (lv' := [(3, _), (0, _), (1, _), (2, _)]) hx hb dX3_yieldTo_6 rfl hl (by decide) rfl (fun ls hl => ?_)
  refine lv_aload_n hx hb dX3_yieldTo_7 rfl (lv_at hl 0 rfl) ?_
  refine hv_geti (ci := 2) (C := RX2) (T := TX2) (N := 10) hx hb hts (tw_cs in_X2) hown hK hT (cs_ks hS hi) (by decide) rfl 6 (by decide) (hts _ (tw_c tw_85)) rfl dX3_yieldTo_8 ?_
  refine lv_topi (fun g1 eg1 => ?_)
  have eg1 : g1 = (nI (C.D i)) := eg1.trans (by have h := cj_d hI hi; exact h)
  subst eg1
  refine lv_iconst (v := 2) hx hb dX3_yieldTo_11 (by decide) ?_
  refine lv_icmp_lt (tgt := 24) hx hb dX3_yieldTo_12 (by decide) (fun c12 => ?_) (fun c12 => ?_)
  · skip
    refine lv_iconst (v := 0) hx hb dX3_yieldTo_24 (by decide) ?_
    refine lv_istore (lv' := [(4, _), (3, _), (0, _), (1, _), (2, _)]) hx hb dX3_yieldTo_25 hl (by decide) rfl (fun ls hl => ?_)
    refine lv_aload_n hx hb dX3_yieldTo_27 rfl (lv_at hl 1 rfl) ?_
    refine hv_calli (va_runV (As := []) (rest := []) ⟨hx, hb, hml, hown, hts⟩ (c_isDecided l D tc hI hi) (cwV 0 hts (tw_V tw_127 tw_128 tw_129 tw_4 tw_130) rfl rfl rfl (by decide +kernel) ⟨Nat.le_of_ble_eq_true rfl, Nat.le_of_ble_eq_true rfl⟩) (hv_preV (ci := 2) hK hT.1 (cs_ks hS hi) (by decide) rfl rfl) rfl rfl hl.1 rfl (lv_room (Nat.le_of_ble_eq_true rfl)) dX3_yieldTo_28 ⟨Nat.le_of_ble_eq_true rfl, Nat.le_of_ble_eq_true rfl⟩) hT (fun r4 v2 H locs hp3 hT => ?_)
    obtain ⟨evhp3, qhp3⟩ := hp3
    rw [evhp3] at hT
    refine lv_if_ne (tgt := 47) hx hb dX3_yieldTo_31 (by decide) (fun c31 => ?_) (fun c31 => ?_)
    · skip
      exact hret _ v _ _ _ _ _ dX3_yieldTo_47 hT ⟨_, Or.inl rfl, by rw [pc_D_id]; exact hI⟩ (by decide) (by decide)
    · skip
      refine lv_aload_n hx hb dX3_yieldTo_34 rfl (lv_at hl 1 rfl) ?_
      refine hv_geti (ci := 2) (C := RX2) (T := TX2) (N := 10) hx hb hts (tw_cs in_X2) hown hK hT (cs_ks hS hi) (by decide) rfl 6 (by decide) (hts _ (tw_c tw_85)) rfl dX3_yieldTo_35 ?_
      refine lv_topi (fun g5 eg5 => ?_)
      have eg5 : g5 = (nI (C.D i)) := eg5.trans (by have h := cj_d hI hi; exact h)
      subst eg5
      refine lv_iconst (v := 1) hx hb dX3_yieldTo_38 (by decide) ?_
      refine lv_icmp_eq (tgt := 47) hx hb dX3_yieldTo_39 (by decide) (fun c39 => ?_) (fun c39 => ?_)
      · skip
        exact hret _ v _ _ _ _ _ dX3_yieldTo_47 hT ⟨_, Or.inl rfl, by rw [pc_D_id]; exact hI⟩ (by decide) (by decide)
      · skip
        refine lv_iload hx hb dX3_yieldTo_42 (lv_at hl 0 rfl) ?_
        refine lv_if_eq (tgt := 48) hx hb dX3_yieldTo_44 (by decide) (fun c44 => ?_) (fun c44 => ?_)
        · skip
          refine lv_aload_n hx hb dX3_yieldTo_48 rfl (lv_at hl 1 rfl) ?_
          refine lv_iconst (v := 0) hx hb dX3_yieldTo_49 (by decide) ?_
          refine hv_puti (ci := 2) (C := RX2) (T := TX2) (N := 10) hx hb hts (tw_cs in_X2) tyX2 tyX2_ok nmX2 hown hK hT (cs_ks hS hi) (by decide) rfl 6 (by decide) (hts _ (tw_c tw_85)) rfl rfl (x := 0) rfl rfl dX3_yieldTo_50 (fun H locs hT => ?_)
          have hI := cj_206 (i := i) (x := 0) (s := 0) rfl (by decide) hi hI
          have hS := hI.1.1
          refine lv_aload_n hx hb dX3_yieldTo_53 rfl (lv_at hl 2 rfl) ?_
          refine lv_aload_n hx hb dX3_yieldTo_54 rfl (lv_at hl 1 rfl) ?_
          refine lv_aload_n hx hb dX3_yieldTo_55 rfl (lv_at hl 2 rfl) ?_
          refine hv_geti (ci := 3) (C := RX3) (T := TX3) (N := 12) hx hb hts (tw_cs in_X3) hown hK hT (cs_kX hS) (by decide) rfl 7 (by decide) (hts _ (tw_c tw_54)) rfl dX3_yieldTo_56 ?_
          refine lv_topi (fun g6 eg6 => ?_)
          obtain ⟨q7, h5q7, h100q7, hq7⟩ := hI.1.2.1.2.2.2.1
          have eg6 : g6 = (nI q7) := by rw [eg6]; exact hq7
          subst eg6
          refine lv_iload_n hx hb dX3_yieldTo_59 rfl (lv_at hl 3 rfl) ?_
          refine lv_iadd hx hb dX3_yieldTo_60 ?_
          refine hv_as (x := ((nI q7) + (nI i))) (y := (nI (q7 + i))) (nI_add _ _) ?_
          refine hv_callv (va_runV (As := [.ref (fa (16 + i)), .int (nI (q7 + i))]) (rest := []) ⟨hx, hb, hml, hown, hts⟩ (c_setTimer l D tc hI hi (q := (q7 + i)) (by have h8 := cs_lt8 hS hi; omega)) (cwV 2 hts (tw_V tw_167 tw_168 tw_489 tw_1 tw_169) rfl rfl rfl (by decide +kernel) ⟨Nat.le_of_ble_eq_true rfl, Nat.le_of_ble_eq_true rfl⟩) (hv_preV (ci := 3) hK hT.1 (cs_kX hS) (by decide) rfl rfl) rfl rfl hl.1 rfl (lv_room (Nat.le_of_ble_eq_true rfl)) dX3_yieldTo_61 ⟨Nat.le_of_ble_eq_true rfl, Nat.le_of_ble_eq_true rfl⟩) hT (fun v8 H locs hp9 hT => ?_)
          have hI := hp9
          have hS := hI.1.1
          exact hret _ v8 _ _ _ _ _ dX3_yieldTo_64 hT ⟨_, Or.inr rfl, hI⟩ (by decide) (by decide)
        · skip
          exact hret _ v _ _ _ _ _ dX3_yieldTo_47 hT ⟨_, Or.inl rfl, by rw [pc_D_id]; exact hI⟩ (by decide) (by decide)
  · skip
    refine lv_iload_n hx hb dX3_yieldTo_15 rfl (lv_at hl 3 rfl) ?_
    refine lv_iload_n hx hb dX3_yieldTo_16 rfl (lv_at hl 2 rfl) ?_
    refine lv_icmp_le (tgt := 24) hx hb dX3_yieldTo_17 (by decide) (fun c17 => ?_) (fun c17 => ?_)
    · skip
      refine lv_iconst (v := 0) hx hb dX3_yieldTo_24 (by decide) ?_
      refine lv_istore (lv' := [(4, _), (3, _), (0, _), (1, _), (2, _)]) hx hb dX3_yieldTo_25 hl (by decide) rfl (fun ls hl => ?_)
      refine lv_aload_n hx hb dX3_yieldTo_27 rfl (lv_at hl 1 rfl) ?_
      refine hv_calli (va_runV (As := []) (rest := []) ⟨hx, hb, hml, hown, hts⟩ (c_isDecided l D tc hI hi) (cwV 0 hts (tw_V tw_127 tw_128 tw_129 tw_4 tw_130) rfl rfl rfl (by decide +kernel) ⟨Nat.le_of_ble_eq_true rfl, Nat.le_of_ble_eq_true rfl⟩) (hv_preV (ci := 2) hK hT.1 (cs_ks hS hi) (by decide) rfl rfl) rfl rfl hl.1 rfl (lv_room (Nat.le_of_ble_eq_true rfl)) dX3_yieldTo_28 ⟨Nat.le_of_ble_eq_true rfl, Nat.le_of_ble_eq_true rfl⟩) hT (fun r12 v10 H locs hp11 hT => ?_)
      obtain ⟨evhp11, qhp11⟩ := hp11
      rw [evhp11] at hT
      refine lv_if_ne (tgt := 47) hx hb dX3_yieldTo_31 (by decide) (fun c31 => ?_) (fun c31 => ?_)
      · skip
        exact hret _ v _ _ _ _ _ dX3_yieldTo_47 hT ⟨_, Or.inl rfl, by rw [pc_D_id]; exact hI⟩ (by decide) (by decide)
      · skip
        refine lv_aload_n hx hb dX3_yieldTo_34 rfl (lv_at hl 1 rfl) ?_
        refine hv_geti (ci := 2) (C := RX2) (T := TX2) (N := 10) hx hb hts (tw_cs in_X2) hown hK hT (cs_ks hS hi) (by decide) rfl 6 (by decide) (hts _ (tw_c tw_85)) rfl dX3_yieldTo_35 ?_
        refine lv_topi (fun g13 eg13 => ?_)
        have eg13 : g13 = (nI (C.D i)) := eg13.trans (by have h := cj_d hI hi; exact h)
        subst eg13
        refine lv_iconst (v := 1) hx hb dX3_yieldTo_38 (by decide) ?_
        refine lv_icmp_eq (tgt := 47) hx hb dX3_yieldTo_39 (by decide) (fun c39 => ?_) (fun c39 => ?_)
        · skip
          exact hret _ v _ _ _ _ _ dX3_yieldTo_47 hT ⟨_, Or.inl rfl, by rw [pc_D_id]; exact hI⟩ (by decide) (by decide)
        · skip
          refine lv_iload hx hb dX3_yieldTo_42 (lv_at hl 0 rfl) ?_
          refine lv_if_eq (tgt := 48) hx hb dX3_yieldTo_44 (by decide) (fun c44 => ?_) (fun c44 => ?_)
          · skip
            refine lv_aload_n hx hb dX3_yieldTo_48 rfl (lv_at hl 1 rfl) ?_
            refine lv_iconst (v := 0) hx hb dX3_yieldTo_49 (by decide) ?_
            refine hv_puti (ci := 2) (C := RX2) (T := TX2) (N := 10) hx hb hts (tw_cs in_X2) tyX2 tyX2_ok nmX2 hown hK hT (cs_ks hS hi) (by decide) rfl 6 (by decide) (hts _ (tw_c tw_85)) rfl rfl (x := 0) rfl rfl dX3_yieldTo_50 (fun H locs hT => ?_)
            have hI := cj_206 (i := i) (x := 0) (s := 0) rfl (by decide) hi hI
            have hS := hI.1.1
            refine lv_aload_n hx hb dX3_yieldTo_53 rfl (lv_at hl 2 rfl) ?_
            refine lv_aload_n hx hb dX3_yieldTo_54 rfl (lv_at hl 1 rfl) ?_
            refine lv_aload_n hx hb dX3_yieldTo_55 rfl (lv_at hl 2 rfl) ?_
            refine hv_geti (ci := 3) (C := RX3) (T := TX3) (N := 12) hx hb hts (tw_cs in_X3) hown hK hT (cs_kX hS) (by decide) rfl 7 (by decide) (hts _ (tw_c tw_54)) rfl dX3_yieldTo_56 ?_
            refine lv_topi (fun g14 eg14 => ?_)
            obtain ⟨q15, h5q15, h100q15, hq15⟩ := hI.1.2.1.2.2.2.1
            have eg14 : g14 = (nI q15) := by rw [eg14]; exact hq15
            subst eg14
            refine lv_iload_n hx hb dX3_yieldTo_59 rfl (lv_at hl 3 rfl) ?_
            refine lv_iadd hx hb dX3_yieldTo_60 ?_
            refine hv_as (x := ((nI q15) + (nI i))) (y := (nI (q15 + i))) (nI_add _ _) ?_
            refine hv_callv (va_runV (As := [.ref (fa (16 + i)), .int (nI (q15 + i))]) (rest := []) ⟨hx, hb, hml, hown, hts⟩ (c_setTimer l D tc hI hi (q := (q15 + i)) (by have h8 := cs_lt8 hS hi; omega)) (cwV 2 hts (tw_V tw_167 tw_168 tw_489 tw_1 tw_169) rfl rfl rfl (by decide +kernel) ⟨Nat.le_of_ble_eq_true rfl, Nat.le_of_ble_eq_true rfl⟩) (hv_preV (ci := 3) hK hT.1 (cs_kX hS) (by decide) rfl rfl) rfl rfl hl.1 rfl (lv_room (Nat.le_of_ble_eq_true rfl)) dX3_yieldTo_61 ⟨Nat.le_of_ble_eq_true rfl, Nat.le_of_ble_eq_true rfl⟩) hT (fun v16 H locs hp17 hT => ?_)
            have hI := hp17
            have hS := hI.1.1
            exact hret _ v16 _ _ _ _ _ dX3_yieldTo_64 hT ⟨_, Or.inr rfl, hI⟩ (by decide) (by decide)
          · skip
            exact hret _ v _ _ _ _ _ dX3_yieldTo_47 hT ⟨_, Or.inl rfl, by rw [pc_D_id]; exact hI⟩ (by decide) (by decide)
    · skip
      refine lv_iconst (v := 1) hx hb dX3_yieldTo_20 (by decide) ?_
      refine lv_goto (tgt := 25) hx hb dX3_yieldTo_21 (by decide) ?_
      refine lv_istore (lv' := [(4, _), (3, _), (0, _), (1, _), (2, _)]) hx hb dX3_yieldTo_25 hl (by decide) rfl (fun ls hl => ?_)
      refine lv_aload_n hx hb dX3_yieldTo_27 rfl (lv_at hl 1 rfl) ?_
      refine hv_calli (va_runV (As := []) (rest := []) ⟨hx, hb, hml, hown, hts⟩ (c_isDecided l D tc hI hi) (cwV 0 hts (tw_V tw_127 tw_128 tw_129 tw_4 tw_130) rfl rfl rfl (by decide +kernel) ⟨Nat.le_of_ble_eq_true rfl, Nat.le_of_ble_eq_true rfl⟩) (hv_preV (ci := 2) hK hT.1 (cs_ks hS hi) (by decide) rfl rfl) rfl rfl hl.1 rfl (lv_room (Nat.le_of_ble_eq_true rfl)) dX3_yieldTo_28 ⟨Nat.le_of_ble_eq_true rfl, Nat.le_of_ble_eq_true rfl⟩) hT (fun r20 v18 H locs hp19 hT => ?_)
      obtain ⟨evhp19, qhp19⟩ := hp19
      rw [evhp19] at hT
      refine lv_if_ne (tgt := 47) hx hb dX3_yieldTo_31 (by decide) (fun c31 => ?_) (fun c31 => ?_)
      · skip
        exact hret _ v _ _ _ _ _ dX3_yieldTo_47 hT ⟨_, Or.inl rfl, by rw [pc_D_id]; exact hI⟩ (by decide) (by decide)
      · skip
        refine lv_aload_n hx hb dX3_yieldTo_34 rfl (lv_at hl 1 rfl) ?_
        refine hv_geti (ci := 2) (C := RX2) (T := TX2) (N := 10) hx hb hts (tw_cs in_X2) hown hK hT (cs_ks hS hi) (by decide) rfl 6 (by decide) (hts _ (tw_c tw_85)) rfl dX3_yieldTo_35 ?_
        refine lv_topi (fun g21 eg21 => ?_)
        have eg21 : g21 = (nI (C.D i)) := eg21.trans (by have h := cj_d hI hi; exact h)
        subst eg21
        refine lv_iconst (v := 1) hx hb dX3_yieldTo_38 (by decide) ?_
        refine lv_icmp_eq (tgt := 47) hx hb dX3_yieldTo_39 (by decide) (fun c39 => ?_) (fun c39 => ?_)
        · skip
          exact hret _ v _ _ _ _ _ dX3_yieldTo_47 hT ⟨_, Or.inl rfl, by rw [pc_D_id]; exact hI⟩ (by decide) (by decide)
        · skip
          refine lv_iload hx hb dX3_yieldTo_42 (lv_at hl 0 rfl) ?_
          refine lv_if_eq (tgt := 48) hx hb dX3_yieldTo_44 (by decide) (fun c44 => ?_) (fun c44 => ?_)
          · skip
            refine lv_aload_n hx hb dX3_yieldTo_48 rfl (lv_at hl 1 rfl) ?_
            refine lv_iconst (v := 0) hx hb dX3_yieldTo_49 (by decide) ?_
            refine hv_puti (ci := 2) (C := RX2) (T := TX2) (N := 10) hx hb hts (tw_cs in_X2) tyX2 tyX2_ok nmX2 hown hK hT (cs_ks hS hi) (by decide) rfl 6 (by decide) (hts _ (tw_c tw_85)) rfl rfl (x := 0) rfl rfl dX3_yieldTo_50 (fun H locs hT => ?_)
            have hI := cj_206 (i := i) (x := 0) (s := 0) rfl (by decide) hi hI
            have hS := hI.1.1
            refine lv_aload_n hx hb dX3_yieldTo_53 rfl (lv_at hl 2 rfl) ?_
            refine lv_aload_n hx hb dX3_yieldTo_54 rfl (lv_at hl 1 rfl) ?_
            refine lv_aload_n hx hb dX3_yieldTo_55 rfl (lv_at hl 2 rfl) ?_
            refine hv_geti (ci := 3) (C := RX3) (T := TX3) (N := 12) hx hb hts (tw_cs in_X3) hown hK hT (cs_kX hS) (by decide) rfl 7 (by decide) (hts _ (tw_c tw_54)) rfl dX3_yieldTo_56 ?_
            refine lv_topi (fun g22 eg22 => ?_)
            obtain ⟨q23, h5q23, h100q23, hq23⟩ := hI.1.2.1.2.2.2.1
            have eg22 : g22 = (nI q23) := by rw [eg22]; exact hq23
            subst eg22
            refine lv_iload_n hx hb dX3_yieldTo_59 rfl (lv_at hl 3 rfl) ?_
            refine lv_iadd hx hb dX3_yieldTo_60 ?_
            refine hv_as (x := ((nI q23) + (nI i))) (y := (nI (q23 + i))) (nI_add _ _) ?_
            refine hv_callv (va_runV (As := [.ref (fa (16 + i)), .int (nI (q23 + i))]) (rest := []) ⟨hx, hb, hml, hown, hts⟩ (c_setTimer l D tc hI hi (q := (q23 + i)) (by have h8 := cs_lt8 hS hi; omega)) (cwV 2 hts (tw_V tw_167 tw_168 tw_489 tw_1 tw_169) rfl rfl rfl (by decide +kernel) ⟨Nat.le_of_ble_eq_true rfl, Nat.le_of_ble_eq_true rfl⟩) (hv_preV (ci := 3) hK hT.1 (cs_kX hS) (by decide) rfl rfl) rfl rfl hl.1 rfl (lv_room (Nat.le_of_ble_eq_true rfl)) dX3_yieldTo_61 ⟨Nat.le_of_ble_eq_true rfl, Nat.le_of_ble_eq_true rfl⟩) hT (fun v24 H locs hp25 hT => ?_)
            have hI := hp25
            have hS := hI.1.1
            exact hret _ v24 _ _ _ _ _ dX3_yieldTo_64 hT ⟨_, Or.inr rfl, hI⟩ (by decide) (by decide)
          · skip
            exact hret _ v _ _ _ _ _ dX3_yieldTo_47 hT ⟨_, Or.inl rfl, by rw [pc_D_id]; exact hI⟩ (by decide) (by decide)

set_option maxHeartbeats 800000 in
set_option maxRecDepth 100000 in
theorem c_onAskVote (l : Launch) (D : va_G) (tc : Nat → ClassId) {ys : Nat → Prop} {qc qa am : Nat} {G : PG} {C : PC} {fa : Nat → Nat} {n : Nat} {w u : Nat → Nat} {d : Nat → Nat → Nat} {g : Nat × Nat} {k : Nat} {hd : List Nat} {v : hv_V} (hI : cj_I ys qc qa am G C fa n w u 1 d g k hd v) {i : Nat} (hi : i < n) {j : Nat} (hj : j < n) (hh : hd.length ≤ 1) (hP : pr_ok ⟨n, w, ys, qc, qa⟩ G C) (h9 : am < 1000000000) : Met l yX3_onAskVote (Cond.code yX3_onAskVote cX3_onAskVote 4 none :: lw_B) ({ frames := 3, cells := 8, slots := 64, locals := 67 }) (va_Pc [.ref (fa 0), .int (nI i), .int (nI j)] (hv_Pre D tc v)) (va_Qv (fun (v1 : hv_V) => ∃ k1 G1 C1, cj_I ys qc qa (am + 1) G1 C1 fa n w u 1 d g k1 hd v1 ∧ pr_ok ⟨n, w, ys, qc, qa⟩ G1 C1) (hv_Post D tc (hv_A v)) (hv_A v)) (8) (64) (hv_A v) := by
  refine hv_metv l (by decide) (Nat.le_of_ble_eq_true rfl) ?_
  intro p e s m args below meth c Q X hret hK hz H locs ls hT hl
  obtain ⟨hx, hb, hml, hts, hown, hin0⟩ := X
  have hown : s.vm.findClass "CommitSites" = some m.cls := hown
  have hl : lv_has ls 4 [(0, .ref (fa 0)), (1, .int (nI i)), (2, .int (nI j))] := hl
  have hS := hI.1.1
  have hs5 := cj_s5 hI hi
  have hd4 := cj_d4 hI hi
  have ham := cj_am hI hi
  have hI := cj_le pg_le.rf (Nat.le_succ am) h9 hI
  refine lv_aload_n hx hb dX3_onAskVote_0 rfl (lv_at hl 0 rfl) ?_
  refine hv_gets (ci := 3) (C := RX3) (T := TX3) (N := 12) hx hb hts (tw_cs in_X3) hown hK hT (cs_kX hS) (by decide) rfl 0 (by decide) (hts _ (tw_c tw_47)) rfl (x := (fa 1)) (cs_pS hS) dX3_onAskVote_1 ?_
  refine lv_iload_n hx hb dX3_onAskVote_4 rfl (lv_at hl 1 rfl) ?_
  refine hv_alds (t := 0) hx hb hK hT (cs_kS hS) rfl rfl (cs_in8 (cs_lt8 hS hi)) (x := (fa (16 + i))) (cs_qS hS hi) dX3_onAskVote_5 ?_
  refine lv_astore_n (lv' := [(3, _), (0, _), (1, _), (2, _)]) hx hb dX3_onAskVote_6 rfl hl (by decide) rfl (fun ls hl => ?_)
  refine lv_aload_n hx hb dX3_onAskVote_7 rfl (lv_at hl 0 rfl) ?_
  refine hv_geti (ci := 2) (C := RX2) (T := TX2) (N := 10) hx hb hts (tw_cs in_X2) hown hK hT (cs_ks hS hi) (by decide) rfl 4 (by decide) (hts _ (tw_c tw_81)) rfl dX3_onAskVote_8 ?_
  refine lv_topi (fun g1 eg1 => ?_)
  have eg1 : g1 = (nI (C.S i)) := eg1.trans (by have h := cj_s hI hi; exact h)
  subst eg1
  refine lv_if_eq (tgt := 15) hx hb dX3_onAskVote_11 (by decide) (fun c11 => ?_) (fun c11 => ?_)
  · skip
    have hS0 : C.S i = 0 := nI_lit (k := 0) c11
    refine lv_aload_n hx hb dX3_onAskVote_15 rfl (lv_at hl 1 rfl) ?_
    refine hv_geti (ci := 3) (C := RX3) (T := TX3) (N := 12) hx hb hts (tw_cs in_X3) hown hK hT (cs_kX hS) (by decide) rfl 9 (by decide) (hts _ (tw_c tw_56)) rfl dX3_onAskVote_16 ?_
    refine lv_topi (fun g2 eg2 => ?_)
    refine lv_iload_n hx hb dX3_onAskVote_19 rfl (lv_at hl 2 rfl) ?_
    refine hv_calli (va_runS (As := [.int g2, .int (nI i)]) (rest := []) ⟨hx, hb, hml, hown, hts⟩ (c_hasBit l D tc g2 (nI i)) (va_cwS 2 hts (tw_S tw_110 tw_111 tw_1 tw_112) rfl rfl rfl (by decide +kernel) ⟨Nat.le_of_ble_eq_true rfl, Nat.le_of_ble_eq_true rfl⟩) (hv_preS hK hT.1) rfl rfl hl.1 rfl (lv_room (Nat.le_of_ble_eq_true rfl)) dX3_onAskVote_20 ⟨by show 0 + 0 ≤ 8; omega, by show 0 + 0 ≤ 64; omega⟩) hT (fun r5 v3 H locs hp4 hT => ?_)
    obtain ⟨evhp4, qhp4⟩ := hp4
    rw [evhp4] at hT
    refine lv_if_eq (tgt := 60) hx hb dX3_onAskVote_23 (by decide) (fun c23 => ?_) (fun c23 => ?_)
    · skip
      refine lv_aload_n hx hb dX3_onAskVote_60 rfl (lv_at hl 1 rfl) ?_
      refine lv_aload_n hx hb dX3_onAskVote_61 rfl (lv_at hl 0 rfl) ?_
      refine lv_iconst (v := 5) hx hb dX3_onAskVote_62 (by decide) ?_
      refine hv_callv (va_runV (As := [.ref (fa (16 + i)), .int 5]) (rest := []) ⟨hx, hb, hml, hown, hts⟩ (c_become l D tc hI hi 5 (s1 := 5) rfl (by decide)) (cwV 2 hts (tw_V tw_124 tw_125 tw_486 tw_1 tw_126) rfl rfl rfl (by decide +kernel) ⟨Nat.le_of_ble_eq_true rfl, Nat.le_of_ble_eq_true rfl⟩) (hv_preV (ci := 3) hK hT.1 (cs_kX hS) (by decide) rfl rfl) rfl rfl hl.1 rfl (lv_room (Nat.le_of_ble_eq_true rfl)) dX3_onAskVote_63 ⟨by show 0 + 0 + 0 ≤ 8; omega, by show 0 + 0 + 0 ≤ 64; omega⟩) hT (fun v6 H locs hp7 hT => ?_)
      have hI := hp7
      have hS := hI.1.1
      refine lv_aload_n hx hb dX3_onAskVote_66 rfl (lv_at hl 1 rfl) ?_
      refine hv_gets (ci := 3) (C := RX3) (T := TX3) (N := 12) hx hb hts (tw_cs in_X3) hown hK hT (cs_kX hS) (by decide) rfl 1 (by decide) (hts _ (tw_c tw_48)) rfl (x := (fa 2)) (cs_pN hS) dX3_onAskVote_67 ?_
      refine lv_iload_n hx hb dX3_onAskVote_70 rfl (lv_at hl 2 rfl) ?_
      refine lv_iconst (v := 1) hx hb dX3_onAskVote_71 (by decide) ?_
      refine lv_iload_n hx hb dX3_onAskVote_72 rfl (lv_at hl 3 rfl) ?_
      refine lv_ishl hx hb dX3_onAskVote_73 ?_
      refine lv_iconst (v := 3) hx hb dX3_onAskVote_74 (by decide) ?_
      refine lv_iconst (v := 0) hx hb dX3_onAskVote_75 (by decide) ?_
      refine lv_iconst (v := 0) hx hb dX3_onAskVote_76 (by decide) ?_
      have hI := cj_le (pg_f_off (i := i)).1 (Nat.le_refl _) (cj_am9 hI) hI
      refine hv_callv (va_runV (As := [.int (nI i), .int (1 <<< ((nI j) &&& 31)), .int 3, .int 0, .int 0]) (rest := []) ⟨hx, hb, hml, hown, hts⟩ (c_send l D tc hI hi (1 <<< ((nI j) &&& 31)) 3 0 0 (cs_bit (cs_lt8 hS hj) hj) hh (fun t ht hb => qm_3 hi ((cs_bit (cs_lt8 hS hj) hj) t ht hb))) (cwV 5 hts (tw_V tw_137 tw_138 tw_139 tw_2 tw_140) rfl rfl rfl (by decide +kernel) ⟨Nat.le_of_ble_eq_true rfl, Nat.le_of_ble_eq_true rfl⟩) (hv_preV (ci := 1) hK hT.1 (cs_kN hS) (by decide) rfl rfl) rfl rfl hl.1 rfl (lv_room (Nat.le_of_ble_eq_true rfl)) dX3_onAskVote_77 ⟨by show 0 + 0 + 0 + 8 ≤ 8; omega, by show 0 + 0 + 0 + 64 ≤ 64; omega⟩) hT (fun v8 H locs hp9 hT => ?_)
      obtain ⟨_, hI⟩ := hp9
      have hS := hI.1.1
      exact hret _ v8 _ _ _ _ _ dX3_onAskVote_80 hT ⟨_, _, _, hI, pr_init5 hP hi pc_S_off hS0 (va_up_self ..) ⟨Or.inl rfl, rfl, fun _ h => h, fun _ => rfl⟩⟩ (by show 0 + 0 + 0 + 8 ≤ 8; omega) (by show 0 + 0 + 0 + 64 ≤ 64; omega)
    · skip
      have hy : ys i := (cj_yb hI (cs_lt8 hS hi)).mpr (by rw [← eg2, ← qhp4]; exact c23)
      refine lv_aload_n hx hb dX3_onAskVote_26 rfl (lv_at hl 1 rfl) ?_
      refine lv_aload_n hx hb dX3_onAskVote_27 rfl (lv_at hl 0 rfl) ?_
      refine lv_iconst (v := 1) hx hb dX3_onAskVote_28 (by decide) ?_
      refine hv_callv (va_runV (As := [.ref (fa (16 + i)), .int 1]) (rest := []) ⟨hx, hb, hml, hown, hts⟩ (c_become l D tc hI hi 1 (s1 := 1) rfl (by decide)) (cwV 2 hts (tw_V tw_124 tw_125 tw_486 tw_1 tw_126) rfl rfl rfl (by decide +kernel) ⟨Nat.le_of_ble_eq_true rfl, Nat.le_of_ble_eq_true rfl⟩) (hv_preV (ci := 3) hK hT.1 (cs_kX hS) (by decide) rfl rfl) rfl rfl hl.1 rfl (lv_room (Nat.le_of_ble_eq_true rfl)) dX3_onAskVote_29 ⟨by show 0 + 0 + 0 ≤ 8; omega, by show 0 + 0 + 0 ≤ 64; omega⟩) hT (fun v10 H locs hp11 hT => ?_)
      have hI := hp11
      have hS := hI.1.1
      refine lv_aload_n hx hb dX3_onAskVote_32 rfl (lv_at hl 1 rfl) ?_
      refine hv_gets (ci := 3) (C := RX3) (T := TX3) (N := 12) hx hb hts (tw_cs in_X3) hown hK hT (cs_kX hS) (by decide) rfl 1 (by decide) (hts _ (tw_c tw_48)) rfl (x := (fa 2)) (cs_pN hS) dX3_onAskVote_33 ?_
      refine lv_iload_n hx hb dX3_onAskVote_36 rfl (lv_at hl 2 rfl) ?_
      refine lv_iconst (v := 1) hx hb dX3_onAskVote_37 (by decide) ?_
      refine lv_iload_n hx hb dX3_onAskVote_38 rfl (lv_at hl 3 rfl) ?_
      refine lv_ishl hx hb dX3_onAskVote_39 ?_
      refine lv_iconst (v := 2) hx hb dX3_onAskVote_40 (by decide) ?_
      refine lv_iconst (v := 0) hx hb dX3_onAskVote_41 (by decide) ?_
      refine lv_iconst (v := 0) hx hb dX3_onAskVote_42 (by decide) ?_
      have hI := cj_le (pg_y_off (i := i)).1 (Nat.le_refl _) (cj_am9 hI) hI
      refine hv_callv (va_runV (As := [.int (nI i), .int (1 <<< ((nI j) &&& 31)), .int 2, .int 0, .int 0]) (rest := []) ⟨hx, hb, hml, hown, hts⟩ (c_send l D tc hI hi (1 <<< ((nI j) &&& 31)) 2 0 0 (cs_bit (cs_lt8 hS hj) hj) hh (fun t ht hb => qm_2 hi ((cs_bit (cs_lt8 hS hj) hj) t ht hb) (va_up_self ..))) (cwV 5 hts (tw_V tw_137 tw_138 tw_139 tw_2 tw_140) rfl rfl rfl (by decide +kernel) ⟨Nat.le_of_ble_eq_true rfl, Nat.le_of_ble_eq_true rfl⟩) (hv_preV (ci := 1) hK hT.1 (cs_kN hS) (by decide) rfl rfl) rfl rfl hl.1 rfl (lv_room (Nat.le_of_ble_eq_true rfl)) dX3_onAskVote_43 ⟨by show 0 + 0 + 0 + 8 ≤ 8; omega, by show 0 + 0 + 0 + 64 ≤ 64; omega⟩) hT (fun v12 H locs hp13 hT => ?_)
      obtain ⟨_, hI⟩ := hp13
      have hS := hI.1.1
      refine lv_aload_n hx hb dX3_onAskVote_46 rfl (lv_at hl 1 rfl) ?_
      refine lv_aload_n hx hb dX3_onAskVote_47 rfl (lv_at hl 0 rfl) ?_
      refine lv_aload_n hx hb dX3_onAskVote_48 rfl (lv_at hl 1 rfl) ?_
      refine hv_geti (ci := 3) (C := RX3) (T := TX3) (N := 12) hx hb hts (tw_cs in_X3) hown hK hT (cs_kX hS) (by decide) rfl 7 (by decide) (hts _ (tw_c tw_54)) rfl dX3_onAskVote_49 ?_
      refine lv_topi (fun g14 eg14 => ?_)
      obtain ⟨q15, h5q15, h100q15, hq15⟩ := hI.1.2.1.2.2.2.1
      have eg14 : g14 = (nI q15) := by rw [eg14]; exact hq15
      subst eg14
      refine lv_iload_n hx hb dX3_onAskVote_52 rfl (lv_at hl 2 rfl) ?_
      refine lv_iadd hx hb dX3_onAskVote_53 ?_
      refine hv_as (x := ((nI q15) + (nI i))) (y := (nI (q15 + i))) (nI_add _ _) ?_
      refine hv_callv (va_runV (As := [.ref (fa (16 + i)), .int (nI (q15 + i))]) (rest := []) ⟨hx, hb, hml, hown, hts⟩ (c_setTimer l D tc hI hi (q := (q15 + i)) (by have h8 := cs_lt8 hS hi; omega)) (cwV 2 hts (tw_V tw_167 tw_168 tw_489 tw_1 tw_169) rfl rfl rfl (by decide +kernel) ⟨Nat.le_of_ble_eq_true rfl, Nat.le_of_ble_eq_true rfl⟩) (hv_preV (ci := 3) hK hT.1 (cs_kX hS) (by decide) rfl rfl) rfl rfl hl.1 rfl (lv_room (Nat.le_of_ble_eq_true rfl)) dX3_onAskVote_54 ⟨by show 0 + 0 + 0 + 8 + 0 ≤ 8; omega, by show 0 + 0 + 0 + 64 + 0 ≤ 64; omega⟩) hT (fun v16 H locs hp17 hT => ?_)
      have hI := hp17
      have hS := hI.1.1
      refine lv_goto (tgt := 80) hx hb dX3_onAskVote_57 (by decide) ?_
      exact hret _ v16 _ _ _ _ _ dX3_onAskVote_80 hT ⟨_, _, _, hI, pr_yes hP hi pc_S_off hS0 hy (va_up_self ..) ⟨Or.inl rfl, rfl, fun _ h => h, fun _ => rfl⟩⟩ (by show 0 + 0 + 0 + 8 + 0 ≤ 8; omega) (by show 0 + 0 + 0 + 64 + 0 ≤ 64; omega)
  · skip
    exact hret _ v _ _ _ _ _ dX3_onAskVote_14 hT ⟨_, _, _, hI, hP⟩ (by show 0 ≤ 8; omega) (by show 0 ≤ 64; omega)

set_option maxHeartbeats 800000 in
set_option maxRecDepth 100000 in
theorem c_onYes (l : Launch) (D : va_G) (tc : Nat → ClassId) {ys : Nat → Prop} {qc qa am : Nat} {G : PG} {C : PC} {fa : Nat → Nat} {n : Nat} {w u : Nat → Nat} {d : Nat → Nat → Nat} {g : Nat × Nat} {k : Nat} {hd : List Nat} {v : hv_V} (hI : cj_I ys qc qa am G C fa n w u 1 d g k hd v) {i : Nat} (hi : i < n) {j : Nat} (hj : j < n) (hh : hd.length ≤ 1) (hP : pr_ok ⟨n, w, ys, qc, qa⟩ G C) (h9 : am < 1000000000) (hyj : G.y j = 1) : Met l yX3_onYes (Cond.code yX3_onYes cX3_onYes 4 none :: lw_B) ({ frames := 5, cells := 16, slots := 128, locals := 114 }) (va_Pc [.ref (fa 0), .int (nI i), .int (nI j)] (hv_Pre D tc v)) (va_Qv (fun (v1 : hv_V) => ∃ k1 G1 C1, cj_I ys qc qa (am + 1) G1 C1 fa n w u 1 d g k1 hd v1 ∧ pr_ok ⟨n, w, ys, qc, qa⟩ G1 C1) (hv_Post D tc (hv_A v)) (hv_A v)) (16) (128) (hv_A v) := by
  refine hv_metv l (by decide) (Nat.le_of_ble_eq_true rfl) ?_
  intro p e s m args below meth c Q X hret hK hz H locs ls hT hl
  obtain ⟨hx, hb, hml, hts, hown, hin0⟩ := X
  have hown : s.vm.findClass "CommitSites" = some m.cls := hown
  have hl : lv_has ls 4 [(0, .ref (fa 0)), (1, .int (nI i)), (2, .int (nI j))] := hl
  have hS := hI.1.1
  have hs5 := cj_s5 hI hi
  have hd4 := cj_d4 hI hi
  have ham := cj_am hI hi
  have hI := cj_le pg_le.rf (Nat.le_succ am) h9 hI
  have hI0 := hI
  refine lv_aload_n hx hb dX3_onYes_0 rfl (lv_at hl 0 rfl) ?_
  refine hv_gets (ci := 3) (C := RX3) (T := TX3) (N := 12) hx hb hts (tw_cs in_X3) hown hK hT (cs_kX hS) (by decide) rfl 0 (by decide) (hts _ (tw_c tw_47)) rfl (x := (fa 1)) (cs_pS hS) dX3_onYes_1 ?_
  refine lv_iload_n hx hb dX3_onYes_4 rfl (lv_at hl 1 rfl) ?_
  refine hv_alds (t := 0) hx hb hK hT (cs_kS hS) rfl rfl (cs_in8 (cs_lt8 hS hi)) (x := (fa (16 + i))) (cs_qS hS hi) dX3_onYes_5 ?_
  refine lv_astore_n (lv' := [(3, _), (0, _), (1, _), (2, _)]) hx hb dX3_onYes_6 rfl hl (by decide) rfl (fun ls hl => ?_)
  refine lv_aload_n hx hb dX3_onYes_7 rfl (lv_at hl 0 rfl) ?_
  refine hv_geti (ci := 2) (C := RX2) (T := TX2) (N := 10) hx hb hts (tw_cs in_X2) hown hK hT (cs_ks hS hi) (by decide) rfl 6 (by decide) (hts _ (tw_c tw_85)) rfl dX3_onYes_8 ?_
  refine lv_topi (fun g1 eg1 => ?_)
  have eg1 : g1 = (nI (C.D i)) := eg1.trans (by have h := cj_d hI hi; exact h)
  subst eg1
  refine lv_iconst (v := 1) hx hb dX3_onYes_11 (by decide) ?_
  refine lv_icmp_eq (tgt := 16) hx hb dX3_onYes_12 (by decide) (fun c12 => ?_) (fun c12 => ?_)
  · skip
    have hD1 : C.D i = 1 := nI_lit (k := 1) c12
    refine lv_aload_n hx hb dX3_onYes_16 rfl (lv_at hl 0 rfl) ?_
    refine lv_dup hx hb dX3_onYes_17 rfl ?_
    refine hv_geti (ci := 2) (C := RX2) (T := TX2) (N := 10) hx hb hts (tw_cs in_X2) hown hK hT (cs_ks hS hi) (by decide) rfl 2 (by decide) (hts _ (tw_c tw_77)) rfl dX3_onYes_18 ?_
    refine lv_topi (fun g2 eg2 => ?_)
    refine lv_iconst (v := 1) hx hb dX3_onYes_21 (by decide) ?_
    refine lv_iload_n hx hb dX3_onYes_22 rfl (lv_at hl 3 rfl) ?_
    refine lv_ishl hx hb dX3_onYes_23 ?_
    refine lv_ior hx hb dX3_onYes_24 ?_
    refine hv_puti (ci := 2) (C := RX2) (T := TX2) (N := 10) hx hb hts (tw_cs in_X2) tyX2 tyX2_ok nmX2 hown hK hT (cs_ks hS hi) (by decide) rfl 2 (by decide) (hts _ (tw_c tw_77)) rfl rfl (x := (g2 ||| (1 <<< ((nI j) &&& 31)))) rfl rfl dX3_onYes_25 (fun H locs hT => ?_)
    have hI := cj_202 (i := i) (x := (g2 ||| (1 <<< ((nI j) &&& 31)))) hi hI
    have hS := hI.1.1
    have hP1 : pr_ok ⟨n, w, ys, qc, qa⟩ G (pc_T C i (fun j9 => ¬ hb_ (g2 ||| (1 <<< ((nI j) &&& 31))) (nI j9) = 0)) := pr_vote (j := j) hP hi pc_T_off hD1 rfl rfl rfl (fun k hk z => by have hk : k < n := hk; have z1 := pc_Ti z; have z2 := hb_or (x := g2) (j := j) (k := k) (cs_lt8 hS hj) (cs_lt8 hS hk) z1; rcases z2 with z2 | z2; exact Or.inl ((cj_ty hI0 hi (cs_lt8 hS hk)).mpr (by rw [← eg2]; exact z2)); exact Or.inr z2) hyj
    refine lv_aload_n hx hb dX3_onYes_28 rfl (lv_at hl 0 rfl) ?_
    refine hv_geti (ci := 2) (C := RX2) (T := TX2) (N := 10) hx hb hts (tw_cs in_X2) hown hK hT (cs_ks hS hi) (by decide) rfl 2 (by decide) (hts _ (tw_c tw_77)) rfl dX3_onYes_29 ?_
    refine lv_topi (fun g3 eg3 => ?_)
    refine lv_aload_n hx hb dX3_onYes_32 rfl (lv_at hl 1 rfl) ?_
    refine hv_calli (va_runV (As := []) (rest := [.int g3]) ⟨hx, hb, hml, hown, hts⟩ (c_everyone l D tc hS hI.1.2.1.1) (cwV 0 hts (tw_V tw_134 tw_135 tw_488 tw_1 tw_136) rfl rfl rfl (by decide +kernel) ⟨Nat.le_of_ble_eq_true rfl, Nat.le_of_ble_eq_true rfl⟩) (hv_preV (ci := 3) hK hT.1 (cs_kX hS) (by decide) rfl rfl) rfl rfl hl.1 rfl (lv_room (Nat.le_of_ble_eq_true rfl)) dX3_onYes_33 ⟨by show 0 + 0 ≤ 16; omega, by show 0 + 0 ≤ 128; omega⟩) hT (fun r6 v4 H locs hp5 hT => ?_)
    obtain ⟨evhp5, qhp5⟩ := hp5
    rw [evhp5] at hT
    refine lv_icmp_ne (tgt := 55) hx hb dX3_onYes_36 (by decide) (fun c36 => ?_) (fun c36 => ?_)
    · skip
      exact hret _ (hv_si v 202 (fa (16 + i)) (g2 ||| (1 <<< ((nI j) &&& 31)))) _ _ _ _ _ dX3_onYes_55 hT ⟨_, _, _, hI, hP1⟩ (by show 0 + 0 ≤ 16; omega) (by show 0 + 0 ≤ 128; omega)
    · skip
      have hthe : g3 = r6 := (by first | exact c36 | exact Classical.not_not.mp c36)
      have hall : ∀ j8, j8 < n → (pc_T C i (fun j9 => ¬ hb_ (g2 ||| (1 <<< ((nI j) &&& 31))) (nI j9) = 0)).T i j8 := fun j8 hj8 => (cj_ty hI hi (cs_lt8 hS hj8)).mpr (by rw [← eg3, hthe, qhp5]; exact cs_every (cs_n8 hS) hj8)
      refine lv_aload_n hx hb dX3_onYes_39 rfl (lv_at hl 0 rfl) ?_
      refine lv_dup hx hb dX3_onYes_40 rfl ?_
      refine hv_geti (ci := 2) (C := RX2) (T := TX2) (N := 10) hx hb hts (tw_cs in_X2) hown hK hT (cs_ks hS hi) (by decide) rfl 7 (by decide) (hts _ (tw_c tw_87)) rfl dX3_onYes_41 ?_
      refine lv_topi (fun g7 eg7 => ?_)
      have eg7 : g7 = (nI (C.A i)) := eg7.trans (by have h := cj_a hI hi; exact h)
      subst eg7
      refine lv_iconst (v := 1) hx hb dX3_onYes_44 (by decide) ?_
      refine lv_iadd hx hb dX3_onYes_45 ?_
      refine hv_as (x := ((nI (C.A i)) + 1)) (y := (nI (C.A i + 1))) (nI_1 _) ?_
      refine hv_puti (ci := 2) (C := RX2) (T := TX2) (N := 10) hx hb hts (tw_cs in_X2) tyX2 tyX2_ok nmX2 hown hK hT (cs_ks hS hi) (by decide) rfl 7 (by decide) (hts _ (tw_c tw_87)) rfl rfl (x := (nI (C.A i + 1))) rfl rfl dX3_onYes_46 (fun H locs hT => ?_)
      have hI := cj_207 (i := i) (x := (nI (C.A i + 1))) (s := (C.A i + 1)) rfl (by omega) hi hI
      have hS := hI.1.1
      refine lv_aload_n hx hb dX3_onYes_49 rfl (lv_at hl 1 rfl) ?_
      refine lv_iload_n hx hb dX3_onYes_50 rfl (lv_at hl 2 rfl) ?_
      refine lv_iconst (v := 2) hx hb dX3_onYes_51 (by decide) ?_
      obtain ⟨hP2, hK2, hle2⟩ := pr_all (E := (pc_A (pc_D (pc_T C i (fun j9 => ¬ hb_ (g2 ||| (1 <<< ((nI j) &&& 31))) (nI j9) = 0)) i 0) i (C.A i + 1))) hP1 hi (pc_D_off.tr pc_A_off) hD1 hall rfl (va_up_self ..) (va_up_self ..)
      have hI := cj_le hle2 (Nat.le_refl _) (cj_am9 hI) hI
      refine hv_callv (va_runV (As := [.int (nI i), .int 2]) (rest := []) ⟨hx, hb, hml, hown, hts⟩ (c_lead2 l D tc hI hi hh (C' := (pc_A (pc_D (pc_T C i (fun j9 => ¬ hb_ (g2 ||| (1 <<< ((nI j) &&& 31))) (nI j9) = 0)) i 0) i (C.A i + 1))) hP2 (fun k hk => ⟨rfl, (va_up_ne _ _ hk).symm, rfl, fun _ h => h, fun _ => rfl⟩) rfl rfl hK2 rfl) (cwV 2 hts (tw_V tw_174 tw_175 tw_490 tw_1 tw_176) rfl rfl rfl (by decide +kernel) ⟨Nat.le_of_ble_eq_true rfl, Nat.le_of_ble_eq_true rfl⟩) (hv_preV (ci := 3) hK hT.1 (cs_kX hS) (by decide) rfl rfl) rfl rfl hl.1 rfl (lv_room (Nat.le_of_ble_eq_true rfl)) dX3_onYes_52 ⟨by show 0 + 0 + 16 ≤ 16; omega, by show 0 + 0 + 128 ≤ 128; omega⟩) hT (fun v8 H locs hp9 hT => ?_)
      obtain ⟨_, _, _, hI, hP3⟩ := hp9
      have hS := hI.1.1
      exact hret _ v8 _ _ _ _ _ dX3_onYes_55 hT ⟨_, _, _, hI, hP3⟩ (by show 0 + 0 + 16 ≤ 16; omega) (by show 0 + 0 + 128 ≤ 128; omega)
  · skip
    exact hret _ v _ _ _ _ _ dX3_onYes_15 hT ⟨_, _, _, hI, hP⟩ (by show 0 ≤ 16; omega) (by show 0 ≤ 128; omega)

set_option maxHeartbeats 800000 in
set_option maxRecDepth 100000 in
theorem c_onNo (l : Launch) (D : va_G) (tc : Nat → ClassId) {ys : Nat → Prop} {qc qa am : Nat} {G : PG} {C : PC} {fa : Nat → Nat} {n : Nat} {w u : Nat → Nat} {d : Nat → Nat → Nat} {g : Nat × Nat} {k : Nat} {hd : List Nat} {v : hv_V} (hI : cj_I ys qc qa am G C fa n w u 1 d g k hd v) {i : Nat} (hi : i < n) (hh : hd.length ≤ 1) (hP : pr_ok ⟨n, w, ys, qc, qa⟩ G C) (h9 : am < 1000000000) : Met l yX3_onNo (Cond.code yX3_onNo cX3_onNo 2 none :: lw_B) ({ frames := 4, cells := 8, slots := 64, locals := 90 }) (va_Pc [.ref (fa 0), .int (nI i)] (hv_Pre D tc v)) (va_Qv (fun (v1 : hv_V) => ∃ k1 G1 C1, cj_I ys qc qa (am + 1) G1 C1 fa n w u 1 d g k1 hd v1 ∧ pr_ok ⟨n, w, ys, qc, qa⟩ G1 C1) (hv_Post D tc (hv_A v)) (hv_A v)) (8) (64) (hv_A v) := by
  refine hv_metv l (by decide) (Nat.le_of_ble_eq_true rfl) ?_
  intro p e s m args below meth c Q X hret hK hz H locs ls hT hl
  obtain ⟨hx, hb, hml, hts, hown, hin0⟩ := X
  have hown : s.vm.findClass "CommitSites" = some m.cls := hown
  have hl : lv_has ls 2 [(0, .ref (fa 0)), (1, .int (nI i))] := hl
  have hS := hI.1.1
  have hs5 := cj_s5 hI hi
  have hd4 := cj_d4 hI hi
  have ham := cj_am hI hi
  have hI := cj_le pg_le.rf (Nat.le_succ am) h9 hI
  refine lv_aload_n hx hb dX3_onNo_0 rfl (lv_at hl 0 rfl) ?_
  refine hv_gets (ci := 3) (C := RX3) (T := TX3) (N := 12) hx hb hts (tw_cs in_X3) hown hK hT (cs_kX hS) (by decide) rfl 0 (by decide) (hts _ (tw_c tw_47)) rfl (x := (fa 1)) (cs_pS hS) dX3_onNo_1 ?_
  refine lv_iload_n hx hb dX3_onNo_4 rfl (lv_at hl 1 rfl) ?_
  refine hv_alds (t := 0) hx hb hK hT (cs_kS hS) rfl rfl (cs_in8 (cs_lt8 hS hi)) (x := (fa (16 + i))) (cs_qS hS hi) dX3_onNo_5 ?_
  refine hv_geti (ci := 2) (C := RX2) (T := TX2) (N := 10) hx hb hts (tw_cs in_X2) hown hK hT (cs_ks hS hi) (by decide) rfl 6 (by decide) (hts _ (tw_c tw_85)) rfl dX3_onNo_6 ?_
  refine lv_topi (fun g1 eg1 => ?_)
  have eg1 : g1 = (nI (C.D i)) := eg1.trans (by have h := cj_d hI hi; exact h)
  subst eg1
  refine lv_iconst (v := 1) hx hb dX3_onNo_9 (by decide) ?_
  refine lv_icmp_ne (tgt := 19) hx hb dX3_onNo_10 (by decide) (fun c10 => ?_) (fun c10 => ?_)
  · skip
    exact hret _ v _ _ _ _ _ dX3_onNo_19 hT ⟨_, _, _, hI, hP⟩ (by show 0 ≤ 8; omega) (by show 0 ≤ 64; omega)
  · skip
    have hD1 : C.D i = 1 := nI_lit (k := 1) (by first | exact c10 | exact Classical.not_not.mp c10)
    refine lv_aload_n hx hb dX3_onNo_13 rfl (lv_at hl 0 rfl) ?_
    refine lv_iload_n hx hb dX3_onNo_14 rfl (lv_at hl 1 rfl) ?_
    refine lv_iconst (v := 5) hx hb dX3_onNo_15 (by decide) ?_
    have hI := cj_le (pg_f_off (i := i)).1 (Nat.le_refl _) (cj_am9 hI) hI
    refine hv_callv (va_runV (As := [.int (nI i), .int 5]) (rest := []) ⟨hx, hb, hml, hown, hts⟩ (c_decide l D tc hI hi hh 5 (s1 := 5) rfl (Or.inr ⟨rfl, (Or.inl ⟨i, hi, va_up_self ..⟩)⟩)) (cwV 2 hts (tw_V tw_180 tw_181 tw_492 tw_1 tw_182) rfl rfl rfl (by decide +kernel) ⟨Nat.le_of_ble_eq_true rfl, Nat.le_of_ble_eq_true rfl⟩) (hv_preV (ci := 3) hK hT.1 (cs_kX hS) (by decide) rfl rfl) rfl rfl hl.1 rfl (lv_room (Nat.le_of_ble_eq_true rfl)) dX3_onNo_16 ⟨by show 0 + 8 ≤ 8; omega, by show 0 + 64 ≤ 64; omega⟩) hT (fun v2 H locs hp3 hT => ?_)
    obtain ⟨_, hI⟩ := hp3
    have hS := hI.1.1
    exact hret _ v2 _ _ _ _ _ dX3_onNo_19 hT ⟨_, _, _, hI, pr_vote5 hP hi (pc_S_off.tr pc_D_off) hD1 (va_up_self ..) (va_up_self ..) rfl⟩ (by show 0 + 8 ≤ 8; omega) (by show 0 + 64 ≤ 64; omega)

set_option maxHeartbeats 800000 in
set_option maxRecDepth 100000 in
theorem c_onAskState (l : Launch) (D : va_G) (tc : Nat → ClassId) {ys : Nat → Prop} {qc qa am : Nat} {G : PG} {C : PC} {fa : Nat → Nat} {n : Nat} {w u : Nat → Nat} {d : Nat → Nat → Nat} {g : Nat × Nat} {k : Nat} {hd : List Nat} {v : hv_V} (hI : cj_I ys qc qa am G C fa n w u 1 d g k hd v) {i : Nat} (hi : i < n) {j : Nat} (hj : j < n) (hh : hd.length ≤ 1) (hP : pr_ok ⟨n, w, ys, qc, qa⟩ G C) (h9 : am < 1000000000) {a : Nat} (ha : a ≤ am) : Met l yX3_onAskState (Cond.code yX3_onAskState cX3_onAskState 5 none :: lw_B) ({ frames := 3, cells := 8, slots := 64, locals := 67 }) (va_Pc [.ref (fa 0), .int (nI i), .int (nI j), .int (nI a)] (hv_Pre D tc v)) (va_Qv (fun (v1 : hv_V) => ∃ k1 G1 C1, cj_I ys qc qa (am + 1) G1 C1 fa n w u 1 d g k1 hd v1 ∧ pr_ok ⟨n, w, ys, qc, qa⟩ G1 C1) (hv_Post D tc (hv_A v)) (hv_A v)) (8) (64) (hv_A v) := by
  refine hv_metv l (by decide) (Nat.le_of_ble_eq_true rfl) ?_
  intro p e s m args below meth c Q X hret hK hz H locs ls hT hl
  obtain ⟨hx, hb, hml, hts, hown, hin0⟩ := X
  have hown : s.vm.findClass "CommitSites" = some m.cls := hown
  have hl : lv_has ls 5 [(0, .ref (fa 0)), (1, .int (nI i)), (2, .int (nI j)), (3, .int (nI a))] := hl
  have hS := hI.1.1
  have hs5 := cj_s5 hI hi
  have hd4 := cj_d4 hI hi
  have ham := cj_am hI hi
  have hI := cj_le pg_le.rf (Nat.le_succ am) h9 hI
  refine lv_aload_n hx hb dX3_onAskState_0 rfl (lv_at hl 0 rfl) ?_
  refine hv_gets (ci := 3) (C := RX3) (T := TX3) (N := 12) hx hb hts (tw_cs in_X3) hown hK hT (cs_kX hS) (by decide) rfl 0 (by decide) (hts _ (tw_c tw_47)) rfl (x := (fa 1)) (cs_pS hS) dX3_onAskState_1 ?_
  refine lv_iload_n hx hb dX3_onAskState_4 rfl (lv_at hl 1 rfl) ?_
  refine hv_alds (t := 0) hx hb hK hT (cs_kS hS) rfl rfl (cs_in8 (cs_lt8 hS hi)) (x := (fa (16 + i))) (cs_qS hS hi) dX3_onAskState_5 ?_
  refine lv_astore (lv' := [(4, _), (0, _), (1, _), (2, _), (3, _)]) hx hb dX3_onAskState_6 hl (by decide) rfl (fun ls hl => ?_)
  refine lv_aload hx hb dX3_onAskState_8 (lv_at hl 0 rfl) ?_
  refine hv_geti (ci := 2) (C := RX2) (T := TX2) (N := 10) hx hb hts (tw_cs in_X2) hown hK hT (cs_ks hS hi) (by decide) rfl 4 (by decide) (hts _ (tw_c tw_81)) rfl dX3_onAskState_10 ?_
  refine lv_topi (fun g1 eg1 => ?_)
  have eg1 : g1 = (nI (C.S i)) := eg1.trans (by have h := cj_s hI hi; exact h)
  subst eg1
  refine lv_if_ne (tgt := 23) hx hb dX3_onAskState_13 (by decide) (fun c13 => ?_) (fun c13 => ?_)
  · skip
    refine lv_aload_n hx hb dX3_onAskState_23 rfl (lv_at hl 1 rfl) ?_
    refine lv_iload_n hx hb dX3_onAskState_24 rfl (lv_at hl 2 rfl) ?_
    refine lv_iload_n hx hb dX3_onAskState_25 rfl (lv_at hl 3 rfl) ?_
    refine hv_callv (va_runV (As := [.int (nI i), .int (nI j)]) (rest := []) ⟨hx, hb, hml, hown, hts⟩ (c_yieldTo l D tc hI hi hj) (cwV 2 hts (tw_V tw_245 tw_246 tw_503 tw_1 tw_247) rfl rfl rfl (by decide +kernel) ⟨Nat.le_of_ble_eq_true rfl, Nat.le_of_ble_eq_true rfl⟩) (hv_preV (ci := 3) hK hT.1 (cs_kX hS) (by decide) rfl rfl) rfl rfl hl.1 rfl (lv_room (Nat.le_of_ble_eq_true rfl)) dX3_onAskState_26 ⟨by show 0 + 0 ≤ 8; omega, by show 0 + 0 ≤ 64; omega⟩) hT (fun v2 H locs hp3 hT => ?_)
    obtain ⟨z, hz, hI⟩ := hp3
    have hS := hI.1.1
    have hP2 := pr_yield hP hi hz
    refine lv_aload_n hx hb dX3_onAskState_29 rfl (lv_at hl 1 rfl) ?_
    refine hv_gets (ci := 3) (C := RX3) (T := TX3) (N := 12) hx hb hts (tw_cs in_X3) hown hK hT (cs_kX hS) (by decide) rfl 1 (by decide) (hts _ (tw_c tw_48)) rfl (x := (fa 2)) (cs_pN hS) dX3_onAskState_30 ?_
    refine lv_iload_n hx hb dX3_onAskState_33 rfl (lv_at hl 2 rfl) ?_
    refine lv_iconst (v := 1) hx hb dX3_onAskState_34 (by decide) ?_
    refine lv_iload_n hx hb dX3_onAskState_35 rfl (lv_at hl 3 rfl) ?_
    refine lv_ishl hx hb dX3_onAskState_36 ?_
    refine lv_iconst (v := 5) hx hb dX3_onAskState_37 (by decide) ?_
    refine lv_iload_n hx hb dX3_onAskState_38 rfl (lv_at hl 4 rfl) ?_
    refine lv_aload hx hb dX3_onAskState_39 (lv_at hl 0 rfl) ?_
    refine hv_geti (ci := 2) (C := RX2) (T := TX2) (N := 10) hx hb hts (tw_cs in_X2) hown hK hT (cs_ks hS hi) (by decide) rfl 4 (by decide) (hts _ (tw_c tw_81)) rfl dX3_onAskState_41 ?_
    refine lv_topi (fun g4 eg4 => ?_)
    have eg4 : g4 = (nI (C.S i)) := eg4.trans (by have h := cj_s hI hi; exact h)
    subst eg4
    refine hv_callv (va_runV (As := [.int (nI i), .int (1 <<< ((nI j) &&& 31)), .int 5, .int (nI a), .int (nI (C.S i))]) (rest := []) ⟨hx, hb, hml, hown, hts⟩ (c_send l D tc hI hi (1 <<< ((nI j) &&& 31)) 5 (nI a) (nI (C.S i)) (cs_bit (cs_lt8 hS hj) hj) hh (fun t ht hb => qm_5 hi ((cs_bit (cs_lt8 hS hj) hj) t ht hb) (by omega) hs5 ⟨fun z => ((hP.2.1 i hi).2.2.2.1 z).1, (hP.2.1 i hi).2.2.2.2.2.1, (hP.2.1 i hi).2.2.2.2.2.2.1⟩)) (cwV 5 hts (tw_V tw_137 tw_138 tw_139 tw_2 tw_140) rfl rfl rfl (by decide +kernel) ⟨Nat.le_of_ble_eq_true rfl, Nat.le_of_ble_eq_true rfl⟩) (hv_preV (ci := 1) hK hT.1 (cs_kN hS) (by decide) rfl rfl) rfl rfl hl.1 rfl (lv_room (Nat.le_of_ble_eq_true rfl)) dX3_onAskState_44 ⟨by show 0 + 0 + 8 ≤ 8; omega, by show 0 + 0 + 64 ≤ 64; omega⟩) hT (fun v5 H locs hp6 hT => ?_)
    obtain ⟨_, hI⟩ := hp6
    have hS := hI.1.1
    exact hret _ v5 _ _ _ _ _ dX3_onAskState_47 hT ⟨_, _, _, hI, hP2⟩ (by show 0 + 0 + 8 ≤ 8; omega) (by show 0 + 0 + 64 ≤ 64; omega)
  · skip
    have hS0 : C.S i = 0 := nI_lit (k := 0) (by first | exact c13 | exact Classical.not_not.mp c13)
    refine lv_aload_n hx hb dX3_onAskState_16 rfl (lv_at hl 1 rfl) ?_
    refine lv_aload hx hb dX3_onAskState_17 (lv_at hl 0 rfl) ?_
    refine lv_iconst (v := 5) hx hb dX3_onAskState_19 (by decide) ?_
    refine hv_callv (va_runV (As := [.ref (fa (16 + i)), .int 5]) (rest := []) ⟨hx, hb, hml, hown, hts⟩ (c_become l D tc hI hi 5 (s1 := 5) rfl (by decide)) (cwV 2 hts (tw_V tw_124 tw_125 tw_486 tw_1 tw_126) rfl rfl rfl (by decide +kernel) ⟨Nat.le_of_ble_eq_true rfl, Nat.le_of_ble_eq_true rfl⟩) (hv_preV (ci := 3) hK hT.1 (cs_kX hS) (by decide) rfl rfl) rfl rfl hl.1 rfl (lv_room (Nat.le_of_ble_eq_true rfl)) dX3_onAskState_20 ⟨by show 0 + 0 ≤ 8; omega, by show 0 + 0 ≤ 64; omega⟩) hT (fun v7 H locs hp8 hT => ?_)
    have hI := hp8
    have hS := hI.1.1
    refine lv_aload_n hx hb dX3_onAskState_23 rfl (lv_at hl 1 rfl) ?_
    refine lv_iload_n hx hb dX3_onAskState_24 rfl (lv_at hl 2 rfl) ?_
    refine lv_iload_n hx hb dX3_onAskState_25 rfl (lv_at hl 3 rfl) ?_
    have hP1 : pr_ok ⟨n, w, ys, qc, qa⟩ (pg_f G i) (pc_S C i 5) := pr_init5 hP hi pc_S_off hS0 (va_up_self ..) ⟨Or.inl rfl, rfl, fun _ h => h, fun _ => rfl⟩
    have hI := cj_le (pg_f_off (i := i)).1 (Nat.le_refl _) (cj_am9 hI) hI
    refine hv_callv (va_runV (As := [.int (nI i), .int (nI j)]) (rest := []) ⟨hx, hb, hml, hown, hts⟩ (c_yieldTo l D tc hI hi hj) (cwV 2 hts (tw_V tw_245 tw_246 tw_503 tw_1 tw_247) rfl rfl rfl (by decide +kernel) ⟨Nat.le_of_ble_eq_true rfl, Nat.le_of_ble_eq_true rfl⟩) (hv_preV (ci := 3) hK hT.1 (cs_kX hS) (by decide) rfl rfl) rfl rfl hl.1 rfl (lv_room (Nat.le_of_ble_eq_true rfl)) dX3_onAskState_26 ⟨by show 0 + 0 + 0 ≤ 8; omega, by show 0 + 0 + 0 ≤ 64; omega⟩) hT (fun v9 H locs hp10 hT => ?_)
    obtain ⟨z, hz, hI⟩ := hp10
    have hS := hI.1.1
    have hP2 := pr_yield hP1 hi hz
    refine lv_aload_n hx hb dX3_onAskState_29 rfl (lv_at hl 1 rfl) ?_
    refine hv_gets (ci := 3) (C := RX3) (T := TX3) (N := 12) hx hb hts (tw_cs in_X3) hown hK hT (cs_kX hS) (by decide) rfl 1 (by decide) (hts _ (tw_c tw_48)) rfl (x := (fa 2)) (cs_pN hS) dX3_onAskState_30 ?_
    refine lv_iload_n hx hb dX3_onAskState_33 rfl (lv_at hl 2 rfl) ?_
    refine lv_iconst (v := 1) hx hb dX3_onAskState_34 (by decide) ?_
    refine lv_iload_n hx hb dX3_onAskState_35 rfl (lv_at hl 3 rfl) ?_
    refine lv_ishl hx hb dX3_onAskState_36 ?_
    refine lv_iconst (v := 5) hx hb dX3_onAskState_37 (by decide) ?_
    refine lv_iload_n hx hb dX3_onAskState_38 rfl (lv_at hl 4 rfl) ?_
    refine lv_aload hx hb dX3_onAskState_39 (lv_at hl 0 rfl) ?_
    refine hv_geti (ci := 2) (C := RX2) (T := TX2) (N := 10) hx hb hts (tw_cs in_X2) hown hK hT (cs_ks hS hi) (by decide) rfl 4 (by decide) (hts _ (tw_c tw_81)) rfl dX3_onAskState_41 ?_
    refine lv_topi (fun g11 eg11 => ?_)
    have eg11 : g11 = (nI 5) := eg11.trans (by have h := cj_s hI hi; exact h.trans (congrArg nI (va_up_self ..)))
    subst eg11
    refine hv_callv (va_runV (As := [.int (nI i), .int (1 <<< ((nI j) &&& 31)), .int 5, .int (nI a), .int (nI 5)]) (rest := []) ⟨hx, hb, hml, hown, hts⟩ (c_send l D tc hI hi (1 <<< ((nI j) &&& 31)) 5 (nI a) (nI 5) (cs_bit (cs_lt8 hS hj) hj) hh (fun t ht hb => qm_5 hi ((cs_bit (cs_lt8 hS hj) hj) t ht hb) (by omega) (by decide) ⟨fun z => absurd z (by decide), fun z => absurd z (by decide), fun _ => Or.inl ⟨i, hi, va_up_self ..⟩⟩)) (cwV 5 hts (tw_V tw_137 tw_138 tw_139 tw_2 tw_140) rfl rfl rfl (by decide +kernel) ⟨Nat.le_of_ble_eq_true rfl, Nat.le_of_ble_eq_true rfl⟩) (hv_preV (ci := 1) hK hT.1 (cs_kN hS) (by decide) rfl rfl) rfl rfl hl.1 rfl (lv_room (Nat.le_of_ble_eq_true rfl)) dX3_onAskState_44 ⟨by show 0 + 0 + 0 + 8 ≤ 8; omega, by show 0 + 0 + 0 + 64 ≤ 64; omega⟩) hT (fun v12 H locs hp13 hT => ?_)
    obtain ⟨_, hI⟩ := hp13
    have hS := hI.1.1
    exact hret _ v12 _ _ _ _ _ dX3_onAskState_47 hT ⟨_, _, _, hI, hP2⟩ (by show 0 + 0 + 0 + 8 ≤ 8; omega) (by show 0 + 0 + 0 + 64 ≤ 64; omega)

set_option maxHeartbeats 800000 in
set_option maxRecDepth 100000 in
theorem c_onState (l : Launch) (D : va_G) (tc : Nat → ClassId) {ys : Nat → Prop} {qc qa am : Nat} {G : PG} {C : PC} {fa : Nat → Nat} {n : Nat} {w u : Nat → Nat} {d : Nat → Nat → Nat} {g : Nat × Nat} {k : Nat} {hd : List Nat} {v : hv_V} (hI : cj_I ys qc qa am G C fa n w u 1 d g k hd v) {i : Nat} (hi : i < n) {j : Nat} (hj : j < n) (hh : hd.length ≤ 1) (hP : pr_ok ⟨n, w, ys, qc, qa⟩ G C) (h9 : am < 1000000000) {a : Nat} (ha : a ≤ am) {s1 : Nat} (hs : s1 ≤ 5) (hq2 : s1 = 2 → G.c = 1) (hq4 : s1 = 4 → pg_CO ⟨n, w, ys, qc, qa⟩ G) (hq5 : s1 = 5 → pg_AB ⟨n, w, ys, qc, qa⟩ G) : Met l yX3_onState (Cond.code yX3_onState cX3_onState 6 none :: lw_B) ({ frames := 4, cells := 8, slots := 64, locals := 90 }) (va_Pc [.ref (fa 0), .int (nI i), .int (nI j), .int (nI a), .int (nI s1)] (hv_Pre D tc v)) (va_Qv (fun (v1 : hv_V) => ∃ k1 G1 C1, cj_I ys qc qa (am + 1) G1 C1 fa n w u 1 d g k1 hd v1 ∧ pr_ok ⟨n, w, ys, qc, qa⟩ G1 C1) (hv_Post D tc (hv_A v)) (hv_A v)) (8) (64) (hv_A v) := by
  refine hv_metv l (by decide) (Nat.le_of_ble_eq_true rfl) ?_
  intro p e s m args below meth c Q X hret hK hz H locs ls hT hl
  obtain ⟨hx, hb, hml, hts, hown, hin0⟩ := X
  have hown : s.vm.findClass "CommitSites" = some m.cls := hown
  have hl : lv_has ls 6 [(0, .ref (fa 0)), (1, .int (nI i)), (2, .int (nI j)), (3, .int (nI a)), (4, .int (nI s1))] := hl
  have hS := hI.1.1
  have hs5 := cj_s5 hI hi
  have hd4 := cj_d4 hI hi
  have ham := cj_am hI hi
  have hI := cj_le pg_le.rf (Nat.le_succ am) h9 hI
  have hI0 := hI
  refine lv_aload_n hx hb dX3_onState_0 rfl (lv_at hl 0 rfl) ?_
  refine hv_gets (ci := 3) (C := RX3) (T := TX3) (N := 12) hx hb hts (tw_cs in_X3) hown hK hT (cs_kX hS) (by decide) rfl 0 (by decide) (hts _ (tw_c tw_47)) rfl (x := (fa 1)) (cs_pS hS) dX3_onState_1 ?_
  refine lv_iload_n hx hb dX3_onState_4 rfl (lv_at hl 1 rfl) ?_
  refine hv_alds (t := 0) hx hb hK hT (cs_kS hS) rfl rfl (cs_in8 (cs_lt8 hS hi)) (x := (fa (16 + i))) (cs_qS hS hi) dX3_onState_5 ?_
  refine lv_astore (lv' := [(5, _), (0, _), (1, _), (2, _), (3, _), (4, _)]) hx hb dX3_onState_6 hl (by decide) rfl (fun ls hl => ?_)
  refine lv_aload hx hb dX3_onState_8 (lv_at hl 0 rfl) ?_
  refine hv_geti (ci := 2) (C := RX2) (T := TX2) (N := 10) hx hb hts (tw_cs in_X2) hown hK hT (cs_ks hS hi) (by decide) rfl 6 (by decide) (hts _ (tw_c tw_85)) rfl dX3_onState_10 ?_
  refine lv_topi (fun g1 eg1 => ?_)
  have eg1 : g1 = (nI (C.D i)) := eg1.trans (by have h := cj_d hI hi; exact h)
  subst eg1
  refine lv_iconst (v := 3) hx hb dX3_onState_13 (by decide) ?_
  refine lv_icmp_ne (tgt := 26) hx hb dX3_onState_14 (by decide) (fun c14 => ?_) (fun c14 => ?_)
  · skip
    exact hret _ v _ _ _ _ _ dX3_onState_26 hT ⟨_, _, _, hI, hP⟩ (by show 0 ≤ 8; omega) (by show 0 ≤ 64; omega)
  · skip
    have hD3 : C.D i = 3 := nI_lit (k := 3) (by first | exact c14 | exact Classical.not_not.mp c14)
    refine lv_aload hx hb dX3_onState_17 (lv_at hl 0 rfl) ?_
    refine hv_geti (ci := 2) (C := RX2) (T := TX2) (N := 10) hx hb hts (tw_cs in_X2) hown hK hT (cs_ks hS hi) (by decide) rfl 7 (by decide) (hts _ (tw_c tw_87)) rfl dX3_onState_19 ?_
    refine lv_topi (fun g2 eg2 => ?_)
    have eg2 : g2 = (nI (C.A i)) := eg2.trans (by have h := cj_a hI hi; exact h)
    subst eg2
    refine lv_iload_n hx hb dX3_onState_22 rfl (lv_at hl 4 rfl) ?_
    refine lv_icmp_eq (tgt := 27) hx hb dX3_onState_23 (by decide) (fun c23 => ?_) (fun c23 => ?_)
    · skip
      refine lv_iload hx hb dX3_onState_27 (lv_at hl 5 rfl) ?_
      refine lv_iconst (v := 4) hx hb dX3_onState_29 (by decide) ?_
      refine lv_icmp_eq (tgt := 39) hx hb dX3_onState_30 (by decide) (fun c30 => ?_) (fun c30 => ?_)
      · skip
        have hs1 : s1 = 4 := nI_lit (k := 4) c30
        refine lv_aload_n hx hb dX3_onState_39 rfl (lv_at hl 1 rfl) ?_
        refine lv_iload_n hx hb dX3_onState_40 rfl (lv_at hl 2 rfl) ?_
        refine lv_iload hx hb dX3_onState_41 (lv_at hl 5 rfl) ?_
        have hev : s1 = 4 ∧ pg_CO ⟨n, w, ys, qc, qa⟩ G ∨ s1 = 5 ∧ pg_AB ⟨n, w, ys, qc, qa⟩ G := by rcases (show s1 = 4 ∨ s1 = 5 by omega) with q | q; exact Or.inl ⟨q, hq4 q⟩; exact Or.inr ⟨q, hq5 q⟩
        refine hv_callv (va_runV (As := [.int (nI i), .int (nI s1)]) (rest := []) ⟨hx, hb, hml, hown, hts⟩ (c_decide l D tc hI hi hh (nI s1) (s1 := s1) rfl hev) (cwV 2 hts (tw_V tw_180 tw_181 tw_492 tw_1 tw_182) rfl rfl rfl (by decide +kernel) ⟨Nat.le_of_ble_eq_true rfl, Nat.le_of_ble_eq_true rfl⟩) (hv_preV (ci := 3) hK hT.1 (cs_kX hS) (by decide) rfl rfl) rfl rfl hl.1 rfl (lv_room (Nat.le_of_ble_eq_true rfl)) dX3_onState_43 ⟨by show 0 + 8 ≤ 8; omega, by show 0 + 64 ≤ 64; omega⟩) hT (fun v3 H locs hp4 hT => ?_)
        obtain ⟨_, hI⟩ := hp4
        have hS := hI.1.1
        refine lv_goto (tgt := 71) hx hb dX3_onState_46 (by decide) ?_
        exact hret _ v3 _ _ _ _ _ dX3_onState_71 hT ⟨_, _, _, hI, pr_dec hP hi (pc_S_off.tr pc_D_off) (by rcases hev with ⟨q, q2⟩ | ⟨q, q2⟩; exact Or.inl ⟨(va_up_self ..).trans q, q2⟩; exact Or.inr ⟨(va_up_self ..).trans q, q2⟩) ⟨Or.inr (va_up_self ..), rfl, fun _ h => h, fun _ => rfl⟩ (by show ¬ va_up _ i 0 i = 1; rw [va_up_self]; decide)⟩ (by show 0 + 8 ≤ 8; omega) (by show 0 + 64 ≤ 64; omega)
      · skip
        refine lv_iload hx hb dX3_onState_33 (lv_at hl 5 rfl) ?_
        refine lv_iconst (v := 5) hx hb dX3_onState_35 (by decide) ?_
        refine lv_icmp_ne (tgt := 49) hx hb dX3_onState_36 (by decide) (fun c36 => ?_) (fun c36 => ?_)
        · skip
          refine lv_aload hx hb dX3_onState_49 (lv_at hl 0 rfl) ?_
          refine lv_dup hx hb dX3_onState_51 rfl ?_
          refine hv_geti (ci := 2) (C := RX2) (T := TX2) (N := 10) hx hb hts (tw_cs in_X2) hown hK hT (cs_ks hS hi) (by decide) rfl 2 (by decide) (hts _ (tw_c tw_77)) rfl dX3_onState_52 ?_
          refine lv_topi (fun g5 eg5 => ?_)
          refine lv_iconst (v := 1) hx hb dX3_onState_55 (by decide) ?_
          refine lv_iload_n hx hb dX3_onState_56 rfl (lv_at hl 3 rfl) ?_
          refine lv_ishl hx hb dX3_onState_57 ?_
          refine lv_ior hx hb dX3_onState_58 ?_
          refine hv_puti (ci := 2) (C := RX2) (T := TX2) (N := 10) hx hb hts (tw_cs in_X2) tyX2 tyX2_ok nmX2 hown hK hT (cs_ks hS hi) (by decide) rfl 2 (by decide) (hts _ (tw_c tw_77)) rfl rfl (x := (g5 ||| (1 <<< ((nI j) &&& 31)))) rfl rfl dX3_onState_59 (fun H locs hT => ?_)
          have hI := cj_202 (i := i) (x := (g5 ||| (1 <<< ((nI j) &&& 31)))) hi hI
          have hS := hI.1.1
          refine lv_aload hx hb dX3_onState_62 (lv_at hl 0 rfl) ?_
          refine hv_gets (ci := 2) (C := RX2) (T := TX2) (N := 10) hx hb hts (tw_cs in_X2) hown hK hT (cs_ks hS hi) (by decide) rfl 1 (by decide) (hts _ (tw_c tw_75)) rfl (x := (fa (24 + i))) (cs_po hS hi) dX3_onState_64 ?_
          refine lv_iload_n hx hb dX3_onState_67 rfl (lv_at hl 3 rfl) ?_
          refine lv_iload hx hb dX3_onState_68 (lv_at hl 5 rfl) ?_
          refine hv_iast (x := (nI s1)) hx hb hK hT (cs_ko hS hi) (cs_in8 (cs_lt8 hS hj)) dX3_onState_70 (fun H locs hT => ?_)
          have hI := cj_o (i := i) (j := j) (x := (nI s1)) (s := s1) rfl hs (cs_lt8 hS hj) hi hI
          have hS := hI.1.1
          exact hret _ (hv_sa (hv_si v 202 (fa (16 + i)) (g5 ||| (1 <<< ((nI j) &&& 31)))) (fa (24 + i)) ((nI j) : Int32).toNatClampNeg (nI s1)) _ _ _ _ _ dX3_onState_71 hT ⟨_, _, _, hI, pr_told (j := j) (s := s1) hP hi (pc_T_off.tr pc_O_off) hD3 rfl rfl rfl (fun k hk z => by have hk : k < n := hk; have z1 := pc_Ti z; have z2 := hb_or (x := g5) (j := j) (k := k) (cs_lt8 hS hj) (cs_lt8 hS hk) z1; rcases z2 with z2 | z2; exact Or.inl ((cj_ty hI0 hi (cs_lt8 hS hk)).mpr (by rw [← eg5]; exact z2)); exact Or.inr z2) (fun k hk => pc_On hk) pc_Oi hq2⟩ (by show 0 ≤ 8; omega) (by show 0 ≤ 64; omega)
        · skip
          have hs1 : s1 = 5 := nI_lit (k := 5) (by first | exact c36 | exact Classical.not_not.mp c36)
          refine lv_aload_n hx hb dX3_onState_39 rfl (lv_at hl 1 rfl) ?_
          refine lv_iload_n hx hb dX3_onState_40 rfl (lv_at hl 2 rfl) ?_
          refine lv_iload hx hb dX3_onState_41 (lv_at hl 5 rfl) ?_
          have hev : s1 = 4 ∧ pg_CO ⟨n, w, ys, qc, qa⟩ G ∨ s1 = 5 ∧ pg_AB ⟨n, w, ys, qc, qa⟩ G := by rcases (show s1 = 4 ∨ s1 = 5 by omega) with q | q; exact Or.inl ⟨q, hq4 q⟩; exact Or.inr ⟨q, hq5 q⟩
          refine hv_callv (va_runV (As := [.int (nI i), .int (nI s1)]) (rest := []) ⟨hx, hb, hml, hown, hts⟩ (c_decide l D tc hI hi hh (nI s1) (s1 := s1) rfl hev) (cwV 2 hts (tw_V tw_180 tw_181 tw_492 tw_1 tw_182) rfl rfl rfl (by decide +kernel) ⟨Nat.le_of_ble_eq_true rfl, Nat.le_of_ble_eq_true rfl⟩) (hv_preV (ci := 3) hK hT.1 (cs_kX hS) (by decide) rfl rfl) rfl rfl hl.1 rfl (lv_room (Nat.le_of_ble_eq_true rfl)) dX3_onState_43 ⟨by show 0 + 8 ≤ 8; omega, by show 0 + 64 ≤ 64; omega⟩) hT (fun v6 H locs hp7 hT => ?_)
          obtain ⟨_, hI⟩ := hp7
          have hS := hI.1.1
          refine lv_goto (tgt := 71) hx hb dX3_onState_46 (by decide) ?_
          exact hret _ v6 _ _ _ _ _ dX3_onState_71 hT ⟨_, _, _, hI, pr_dec hP hi (pc_S_off.tr pc_D_off) (by rcases hev with ⟨q, q2⟩ | ⟨q, q2⟩; exact Or.inl ⟨(va_up_self ..).trans q, q2⟩; exact Or.inr ⟨(va_up_self ..).trans q, q2⟩) ⟨Or.inr (va_up_self ..), rfl, fun _ h => h, fun _ => rfl⟩ (by show ¬ va_up _ i 0 i = 1; rw [va_up_self]; decide)⟩ (by show 0 + 8 ≤ 8; omega) (by show 0 + 64 ≤ 64; omega)
    · skip
      exact hret _ v _ _ _ _ _ dX3_onState_26 hT ⟨_, _, _, hI, hP⟩ (by show 0 ≤ 8; omega) (by show 0 ≤ 64; omega)

set_option maxHeartbeats 800000 in
set_option maxRecDepth 100000 in
theorem c_onAskReady2 (l : Launch) (D : va_G) (tc : Nat → ClassId) {ys : Nat → Prop} {qc qa am : Nat} {G : PG} {C : PC} {fa : Nat → Nat} {n : Nat} {w u : Nat → Nat} {d : Nat → Nat → Nat} {g : Nat × Nat} {k : Nat} {hd : List Nat} {v : hv_V} (hI : cj_I ys qc qa am G C fa n w u 1 d g k hd v) {i : Nat} (hi : i < n) {j : Nat} (hj : j < n) (hh : hd.length ≤ 1) (hP : pr_ok ⟨n, w, ys, qc, qa⟩ G C) (h9 : am < 1000000000) {a : Nat} (ha : a ≤ am) (hKj : G.K j a = 2) (hc : G.c = 1) : Met l yX3_onAskReady (Cond.code yX3_onAskReady cX3_onAskReady 6 none :: lw_B) ({ frames := 3, cells := 8, slots := 64, locals := 67 }) (va_Pc [.ref (fa 0), .int (nI i), .int (nI j), .int (nI a), .int 2] (hv_Pre D tc v)) (va_Qv (fun (v1 : hv_V) => ∃ k1 G1 C1, cj_I ys qc qa (am + 1) G1 C1 fa n w u 1 d g k1 hd v1 ∧ pr_ok ⟨n, w, ys, qc, qa⟩ G1 C1) (hv_Post D tc (hv_A v)) (hv_A v)) (8) (64) (hv_A v) := by
  refine hv_metv l (by decide) (Nat.le_of_ble_eq_true rfl) ?_
  intro p e s m args below meth c Q X hret hK hz H locs ls hT hl
  obtain ⟨hx, hb, hml, hts, hown, hin0⟩ := X
  have hown : s.vm.findClass "CommitSites" = some m.cls := hown
  have hl : lv_has ls 6 [(0, .ref (fa 0)), (1, .int (nI i)), (2, .int (nI j)), (3, .int (nI a)), (4, .int 2)] := hl
  have hS := hI.1.1
  have hs5 := cj_s5 hI hi
  have hd4 := cj_d4 hI hi
  have ham := cj_am hI hi
  have hI := cj_le pg_le.rf (Nat.le_succ am) h9 hI
  refine lv_aload_n hx hb dX3_onAskReady_0 rfl (lv_at hl 0 rfl) ?_
  refine hv_gets (ci := 3) (C := RX3) (T := TX3) (N := 12) hx hb hts (tw_cs in_X3) hown hK hT (cs_kX hS) (by decide) rfl 0 (by decide) (hts _ (tw_c tw_47)) rfl (x := (fa 1)) (cs_pS hS) dX3_onAskReady_1 ?_
  refine lv_iload_n hx hb dX3_onAskReady_4 rfl (lv_at hl 1 rfl) ?_
  refine hv_alds (t := 0) hx hb hK hT (cs_kS hS) rfl rfl (cs_in8 (cs_lt8 hS hi)) (x := (fa (16 + i))) (cs_qS hS hi) dX3_onAskReady_5 ?_
  refine lv_astore (lv' := [(5, _), (0, _), (1, _), (2, _), (3, _), (4, _)]) hx hb dX3_onAskReady_6 hl (by decide) rfl (fun ls hl => ?_)
  refine lv_aload hx hb dX3_onAskReady_8 (lv_at hl 0 rfl) ?_
  refine hv_calli (va_runV (As := []) (rest := []) ⟨hx, hb, hml, hown, hts⟩ (c_isDecided l D tc hI hi) (cwV 0 hts (tw_V tw_127 tw_128 tw_129 tw_4 tw_130) rfl rfl rfl (by decide +kernel) ⟨Nat.le_of_ble_eq_true rfl, Nat.le_of_ble_eq_true rfl⟩) (hv_preV (ci := 2) hK hT.1 (cs_ks hS hi) (by decide) rfl rfl) rfl rfl hl.1 rfl (lv_room (Nat.le_of_ble_eq_true rfl)) dX3_onAskReady_10 ⟨by show 0 + 0 ≤ 8; omega, by show 0 + 0 ≤ 64; omega⟩) hT (fun r3 v1 H locs hp2 hT => ?_)
  obtain ⟨evhp2, qhp2⟩ := hp2
  rw [evhp2] at hT
  refine lv_if_eq (tgt := 38) hx hb dX3_onAskReady_13 (by decide) (fun c13 => ?_) (fun c13 => ?_)
  · skip
    refine lv_aload_n hx hb dX3_onAskReady_38 rfl (lv_at hl 1 rfl) ?_
    refine lv_iload_n hx hb dX3_onAskReady_39 rfl (lv_at hl 2 rfl) ?_
    refine lv_iload_n hx hb dX3_onAskReady_40 rfl (lv_at hl 3 rfl) ?_
    refine hv_callv (va_runV (As := [.int (nI i), .int (nI j)]) (rest := []) ⟨hx, hb, hml, hown, hts⟩ (c_yieldTo l D tc hI hi hj) (cwV 2 hts (tw_V tw_245 tw_246 tw_503 tw_1 tw_247) rfl rfl rfl (by decide +kernel) ⟨Nat.le_of_ble_eq_true rfl, Nat.le_of_ble_eq_true rfl⟩) (hv_preV (ci := 3) hK hT.1 (cs_kX hS) (by decide) rfl rfl) rfl rfl hl.1 rfl (lv_room (Nat.le_of_ble_eq_true rfl)) dX3_onAskReady_41 ⟨by show 0 + 0 + 0 ≤ 8; omega, by show 0 + 0 + 0 ≤ 64; omega⟩) hT (fun v4 H locs hp5 hT => ?_)
    obtain ⟨z, hz, hI⟩ := hp5
    have hS := hI.1.1
    have hP2 := pr_yield hP hi hz
    refine lv_aload hx hb dX3_onAskReady_44 (lv_at hl 0 rfl) ?_
    refine hv_geti (ci := 2) (C := RX2) (T := TX2) (N := 10) hx hb hts (tw_cs in_X2) hown hK hT (cs_ks hS hi) (by decide) rfl 4 (by decide) (hts _ (tw_c tw_81)) rfl dX3_onAskReady_46 ?_
    refine lv_topi (fun g6 eg6 => ?_)
    have eg6 : g6 = (nI (C.S i)) := eg6.trans (by have h := cj_s hI hi; exact h)
    subst eg6
    refine lv_iconst (v := 1) hx hb dX3_onAskReady_49 (by decide) ?_
    refine lv_icmp_ne (tgt := 61) hx hb dX3_onAskReady_50 (by decide) (fun c50 => ?_) (fun c50 => ?_)
    · skip
      refine lv_aload hx hb dX3_onAskReady_61 (lv_at hl 0 rfl) ?_
      refine hv_geti (ci := 2) (C := RX2) (T := TX2) (N := 10) hx hb hts (tw_cs in_X2) hown hK hT (cs_ks hS hi) (by decide) rfl 4 (by decide) (hts _ (tw_c tw_81)) rfl dX3_onAskReady_63 ?_
      refine lv_topi (fun g7 eg7 => ?_)
      have eg7 : g7 = (nI (C.S i)) := eg7.trans (by have h := cj_s hI hi; exact h)
      subst eg7
      refine lv_iload hx hb dX3_onAskReady_66 (lv_at hl 5 rfl) ?_
      refine lv_icmp_ne (tgt := 86) hx hb dX3_onAskReady_68 (by decide) (fun c68 => ?_) (fun c68 => ?_)
      · skip
        exact hret _ v4 _ _ _ _ _ dX3_onAskReady_86 hT ⟨_, _, _, hI, hP2⟩ (by show 0 + 0 + 0 ≤ 8; omega) (by show 0 + 0 + 0 ≤ 64; omega)
      · skip
        have hSr : C.S i = 2 := nI_lit (k := 2) (by first | exact c68 | exact Classical.not_not.mp c68)
        refine lv_aload_n hx hb dX3_onAskReady_71 rfl (lv_at hl 1 rfl) ?_
        refine hv_gets (ci := 3) (C := RX3) (T := TX3) (N := 12) hx hb hts (tw_cs in_X3) hown hK hT (cs_kX hS) (by decide) rfl 1 (by decide) (hts _ (tw_c tw_48)) rfl (x := (fa 2)) (cs_pN hS) dX3_onAskReady_72 ?_
        refine lv_iload_n hx hb dX3_onAskReady_75 rfl (lv_at hl 2 rfl) ?_
        refine lv_iconst (v := 1) hx hb dX3_onAskReady_76 (by decide) ?_
        refine lv_iload_n hx hb dX3_onAskReady_77 rfl (lv_at hl 3 rfl) ?_
        refine lv_ishl hx hb dX3_onAskReady_78 ?_
        refine lv_bipush (v := 8) hx hb dX3_onAskReady_79 (by decide) ?_
        refine lv_iload_n hx hb dX3_onAskReady_81 rfl (lv_at hl 4 rfl) ?_
        refine lv_iconst (v := 0) hx hb dX3_onAskReady_82 (by decide) ?_
        refine hv_callv (va_runV (As := [.int (nI i), .int (1 <<< ((nI j) &&& 31)), .int 8, .int (nI a), .int 0]) (rest := []) ⟨hx, hb, hml, hown, hts⟩ (c_send l D tc hI hi (1 <<< ((nI j) &&& 31)) 8 (nI a) 0 (cs_bit (cs_lt8 hS hj) hj) hh (fun t ht hb => qm_8 hi ((cs_bit (cs_lt8 hS hj) hj) t ht hb) (by omega) (by rw [cs_bit1 (cs_lt8 hS hj) ht hb, show G.e i = 2 from ((hP.2.1 i hi).2.2.2.1 hSr |>.2)]; exact ⟨hKj, by decide⟩))) (cwV 5 hts (tw_V tw_137 tw_138 tw_139 tw_2 tw_140) rfl rfl rfl (by decide +kernel) ⟨Nat.le_of_ble_eq_true rfl, Nat.le_of_ble_eq_true rfl⟩) (hv_preV (ci := 1) hK hT.1 (cs_kN hS) (by decide) rfl rfl) rfl rfl hl.1 rfl (lv_room (Nat.le_of_ble_eq_true rfl)) dX3_onAskReady_83 ⟨by show 0 + 0 + 0 + 8 ≤ 8; omega, by show 0 + 0 + 0 + 64 ≤ 64; omega⟩) hT (fun v8 H locs hp9 hT => ?_)
        obtain ⟨_, hI⟩ := hp9
        have hS := hI.1.1
        exact hret _ v8 _ _ _ _ _ dX3_onAskReady_86 hT ⟨_, _, _, hI, hP2⟩ (by show 0 + 0 + 0 + 8 ≤ 8; omega) (by show 0 + 0 + 0 + 64 ≤ 64; omega)
    · skip
      have hS1 : C.S i = 1 := nI_lit (k := 1) (by first | exact c50 | exact Classical.not_not.mp c50)
      refine lv_aload_n hx hb dX3_onAskReady_53 rfl (lv_at hl 1 rfl) ?_
      refine lv_aload hx hb dX3_onAskReady_54 (lv_at hl 0 rfl) ?_
      refine lv_iload hx hb dX3_onAskReady_56 (lv_at hl 5 rfl) ?_
      refine hv_callv (va_runV (As := [.ref (fa (16 + i)), .int 2]) (rest := []) ⟨hx, hb, hml, hown, hts⟩ (c_become l D tc hI hi 2 (s1 := 2) rfl (by decide)) (cwV 2 hts (tw_V tw_124 tw_125 tw_486 tw_1 tw_126) rfl rfl rfl (by decide +kernel) ⟨Nat.le_of_ble_eq_true rfl, Nat.le_of_ble_eq_true rfl⟩) (hv_preV (ci := 3) hK hT.1 (cs_kX hS) (by decide) rfl rfl) rfl rfl hl.1 rfl (lv_room (Nat.le_of_ble_eq_true rfl)) dX3_onAskReady_58 ⟨by show 0 + 0 + 0 + 0 ≤ 8; omega, by show 0 + 0 + 0 + 0 ≤ 64; omega⟩) hT (fun v10 H locs hp11 hT => ?_)
      have hI := hp11
      have hS := hI.1.1
      have he0 := (hP2.2.1 i hi).2.2.1 (show C.S i < 2 by omega)
      have hP3 : pr_ok ⟨n, w, ys, qc, qa⟩ (pg_e G i 2) (pc_S (pc_D C i z) i 2) := pr_ready hP2 hi pc_S_off hS1 (Or.inl ⟨rfl, hc⟩) (va_up_self ..) ⟨Or.inl rfl, rfl, fun _ h => h, fun _ => rfl⟩
      have hI := cj_le (pg_e_off (i := i) (r := 2) he0).1 (Nat.le_refl _) (cj_am9 hI) hI
      refine lv_aload hx hb dX3_onAskReady_61 (lv_at hl 0 rfl) ?_
      refine hv_geti (ci := 2) (C := RX2) (T := TX2) (N := 10) hx hb hts (tw_cs in_X2) hown hK hT (cs_ks hS hi) (by decide) rfl 4 (by decide) (hts _ (tw_c tw_81)) rfl dX3_onAskReady_63 ?_
      refine lv_topi (fun g12 eg12 => ?_)
      have eg12 : g12 = (nI 2) := eg12.trans (by have h := cj_s hI hi; exact h.trans (congrArg nI (va_up_self ..)))
      subst eg12
      refine lv_iload hx hb dX3_onAskReady_66 (lv_at hl 5 rfl) ?_
      refine lv_icmp_ne (tgt := 86) hx hb dX3_onAskReady_68 (by decide) (fun c68 => ?_) (fun c68 => ?_)
      · skip
        exact absurd rfl c68
      · skip
        refine lv_aload_n hx hb dX3_onAskReady_71 rfl (lv_at hl 1 rfl) ?_
        refine hv_gets (ci := 3) (C := RX3) (T := TX3) (N := 12) hx hb hts (tw_cs in_X3) hown hK hT (cs_kX hS) (by decide) rfl 1 (by decide) (hts _ (tw_c tw_48)) rfl (x := (fa 2)) (cs_pN hS) dX3_onAskReady_72 ?_
        refine lv_iload_n hx hb dX3_onAskReady_75 rfl (lv_at hl 2 rfl) ?_
        refine lv_iconst (v := 1) hx hb dX3_onAskReady_76 (by decide) ?_
        refine lv_iload_n hx hb dX3_onAskReady_77 rfl (lv_at hl 3 rfl) ?_
        refine lv_ishl hx hb dX3_onAskReady_78 ?_
        refine lv_bipush (v := 8) hx hb dX3_onAskReady_79 (by decide) ?_
        refine lv_iload_n hx hb dX3_onAskReady_81 rfl (lv_at hl 4 rfl) ?_
        refine lv_iconst (v := 0) hx hb dX3_onAskReady_82 (by decide) ?_
        refine hv_callv (va_runV (As := [.int (nI i), .int (1 <<< ((nI j) &&& 31)), .int 8, .int (nI a), .int 0]) (rest := []) ⟨hx, hb, hml, hown, hts⟩ (c_send l D tc hI hi (1 <<< ((nI j) &&& 31)) 8 (nI a) 0 (cs_bit (cs_lt8 hS hj) hj) hh (fun t ht hb => qm_8 hi ((cs_bit (cs_lt8 hS hj) hj) t ht hb) (by omega) (by rw [cs_bit1 (cs_lt8 hS hj) ht hb, show (pg_e G i 2).e i = 2 from va_up_self ..]; exact ⟨hKj, by decide⟩))) (cwV 5 hts (tw_V tw_137 tw_138 tw_139 tw_2 tw_140) rfl rfl rfl (by decide +kernel) ⟨Nat.le_of_ble_eq_true rfl, Nat.le_of_ble_eq_true rfl⟩) (hv_preV (ci := 1) hK hT.1 (cs_kN hS) (by decide) rfl rfl) rfl rfl hl.1 rfl (lv_room (Nat.le_of_ble_eq_true rfl)) dX3_onAskReady_83 ⟨by show 0 + 0 + 0 + 0 + 8 ≤ 8; omega, by show 0 + 0 + 0 + 0 + 64 ≤ 64; omega⟩) hT (fun v13 H locs hp14 hT => ?_)
        obtain ⟨_, hI⟩ := hp14
        have hS := hI.1.1
        exact hret _ v13 _ _ _ _ _ dX3_onAskReady_86 hT ⟨_, _, _, hI, hP3⟩ (by show 0 + 0 + 0 + 0 + 8 ≤ 8; omega) (by show 0 + 0 + 0 + 0 + 64 ≤ 64; omega)
  · skip
    have hdc : C.S i = 4 ∨ C.S i = 5 := (qhp2.resolve_right (fun q => c13 q.1)).2
    have hev : C.S i = 4 ∧ pg_CO ⟨n, w, ys, qc, qa⟩ G ∨ C.S i = 5 ∧ pg_AB ⟨n, w, ys, qc, qa⟩ G := by
      rcases hdc with q | q
      · exact Or.inl ⟨q, (hP.2.1 i hi).2.2.2.2.2.1 q⟩
      · exact Or.inr ⟨q, (hP.2.1 i hi).2.2.2.2.2.2.1 q⟩
    refine lv_aload_n hx hb dX3_onAskReady_16 rfl (lv_at hl 1 rfl) ?_
    refine hv_gets (ci := 3) (C := RX3) (T := TX3) (N := 12) hx hb hts (tw_cs in_X3) hown hK hT (cs_kX hS) (by decide) rfl 1 (by decide) (hts _ (tw_c tw_48)) rfl (x := (fa 2)) (cs_pN hS) dX3_onAskReady_17 ?_
    refine lv_iload_n hx hb dX3_onAskReady_20 rfl (lv_at hl 2 rfl) ?_
    refine lv_iconst (v := 1) hx hb dX3_onAskReady_21 (by decide) ?_
    refine lv_iload_n hx hb dX3_onAskReady_22 rfl (lv_at hl 3 rfl) ?_
    refine lv_ishl hx hb dX3_onAskReady_23 ?_
    refine lv_aload hx hb dX3_onAskReady_24 (lv_at hl 0 rfl) ?_
    refine hv_geti (ci := 2) (C := RX2) (T := TX2) (N := 10) hx hb hts (tw_cs in_X2) hown hK hT (cs_ks hS hi) (by decide) rfl 4 (by decide) (hts _ (tw_c tw_81)) rfl dX3_onAskReady_26 ?_
    refine lv_topi (fun g15 eg15 => ?_)
    have eg15 : g15 = (nI (C.S i)) := eg15.trans (by have h := cj_s hI hi; exact h)
    subst eg15
    refine hv_calli (va_runS (As := [.int (nI (C.S i))]) (rest := [.int (1 <<< ((nI j) &&& 31)), .int (nI i), .ref (fa 2)]) ⟨hx, hb, hml, hown, hts⟩ (c_tidingsOf l D tc (nI (C.S i))) (va_cwS 1 hts (tw_S tw_183 tw_184 tw_1 tw_185) rfl rfl rfl (by decide +kernel) ⟨Nat.le_of_ble_eq_true rfl, Nat.le_of_ble_eq_true rfl⟩) (hv_preS hK hT.1) rfl rfl hl.1 rfl (lv_room (Nat.le_of_ble_eq_true rfl)) dX3_onAskReady_29 ⟨by show 0 + 0 + 0 ≤ 8; omega, by show 0 + 0 + 0 ≤ 64; omega⟩) hT (fun r18 v16 H locs hp17 hT => ?_)
    obtain ⟨evhp17, qhp17⟩ := hp17
    rw [evhp17] at hT
    refine lv_iconst (v := 0) hx hb dX3_onAskReady_32 (by decide) ?_
    refine lv_iconst (v := 0) hx hb dX3_onAskReady_33 (by decide) ?_
    refine hv_callv (va_runV (As := [.int (nI i), .int (1 <<< ((nI j) &&& 31)), .int r18, .int 0, .int 0]) (rest := []) ⟨hx, hb, hml, hown, hts⟩ (c_send l D tc hI hi (1 <<< ((nI j) &&& 31)) r18 0 0 (cs_bit (cs_lt8 hS hj) hj) hh (fun t ht hb => qm_dec rfl hev qhp17 hi ((cs_bit (cs_lt8 hS hj) hj) t ht hb))) (cwV 5 hts (tw_V tw_137 tw_138 tw_139 tw_2 tw_140) rfl rfl rfl (by decide +kernel) ⟨Nat.le_of_ble_eq_true rfl, Nat.le_of_ble_eq_true rfl⟩) (hv_preV (ci := 1) hK hT.1 (cs_kN hS) (by decide) rfl rfl) rfl rfl hl.1 rfl (lv_room (Nat.le_of_ble_eq_true rfl)) dX3_onAskReady_34 ⟨by show 0 + 0 + 0 + 8 ≤ 8; omega, by show 0 + 0 + 0 + 64 ≤ 64; omega⟩) hT (fun v19 H locs hp20 hT => ?_)
    obtain ⟨_, hI⟩ := hp20
    have hS := hI.1.1
    exact hret _ v19 _ _ _ _ _ dX3_onAskReady_37 hT ⟨_, _, _, hI, hP⟩ (by show 0 + 0 + 0 + 8 ≤ 8; omega) (by show 0 + 0 + 0 + 64 ≤ 64; omega)

set_option maxHeartbeats 800000 in
set_option maxRecDepth 100000 in
theorem c_onAskReady3 (l : Launch) (D : va_G) (tc : Nat → ClassId) {ys : Nat → Prop} {qc qa am : Nat} {G : PG} {C : PC} {fa : Nat → Nat} {n : Nat} {w u : Nat → Nat} {d : Nat → Nat → Nat} {g : Nat × Nat} {k : Nat} {hd : List Nat} {v : hv_V} (hI : cj_I ys qc qa am G C fa n w u 1 d g k hd v) {i : Nat} (hi : i < n) {j : Nat} (hj : j < n) (hh : hd.length ≤ 1) (hP : pr_ok ⟨n, w, ys, qc, qa⟩ G C) (h9 : am < 1000000000) {a : Nat} (ha : a ≤ am) (hKj : G.K j a = 3) : Met l yX3_onAskReady (Cond.code yX3_onAskReady cX3_onAskReady 6 none :: lw_B) ({ frames := 3, cells := 8, slots := 64, locals := 67 }) (va_Pc [.ref (fa 0), .int (nI i), .int (nI j), .int (nI a), .int 3] (hv_Pre D tc v)) (va_Qv (fun (v1 : hv_V) => ∃ k1 G1 C1, cj_I ys qc qa (am + 1) G1 C1 fa n w u 1 d g k1 hd v1 ∧ pr_ok ⟨n, w, ys, qc, qa⟩ G1 C1) (hv_Post D tc (hv_A v)) (hv_A v)) (8) (64) (hv_A v) := by
  refine hv_metv l (by decide) (Nat.le_of_ble_eq_true rfl) ?_
  intro p e s m args below meth c Q X hret hK hz H locs ls hT hl
  obtain ⟨hx, hb, hml, hts, hown, hin0⟩ := X
  have hown : s.vm.findClass "CommitSites" = some m.cls := hown
  have hl : lv_has ls 6 [(0, .ref (fa 0)), (1, .int (nI i)), (2, .int (nI j)), (3, .int (nI a)), (4, .int 3)] := hl
  have hS := hI.1.1
  have hs5 := cj_s5 hI hi
  have hd4 := cj_d4 hI hi
  have ham := cj_am hI hi
  have hI := cj_le pg_le.rf (Nat.le_succ am) h9 hI
  refine lv_aload_n hx hb dX3_onAskReady_0 rfl (lv_at hl 0 rfl) ?_
  refine hv_gets (ci := 3) (C := RX3) (T := TX3) (N := 12) hx hb hts (tw_cs in_X3) hown hK hT (cs_kX hS) (by decide) rfl 0 (by decide) (hts _ (tw_c tw_47)) rfl (x := (fa 1)) (cs_pS hS) dX3_onAskReady_1 ?_
  refine lv_iload_n hx hb dX3_onAskReady_4 rfl (lv_at hl 1 rfl) ?_
  refine hv_alds (t := 0) hx hb hK hT (cs_kS hS) rfl rfl (cs_in8 (cs_lt8 hS hi)) (x := (fa (16 + i))) (cs_qS hS hi) dX3_onAskReady_5 ?_
  refine lv_astore (lv' := [(5, _), (0, _), (1, _), (2, _), (3, _), (4, _)]) hx hb dX3_onAskReady_6 hl (by decide) rfl (fun ls hl => ?_)
  refine lv_aload hx hb dX3_onAskReady_8 (lv_at hl 0 rfl) ?_
  refine hv_calli (va_runV (As := []) (rest := []) ⟨hx, hb, hml, hown, hts⟩ (c_isDecided l D tc hI hi) (cwV 0 hts (tw_V tw_127 tw_128 tw_129 tw_4 tw_130) rfl rfl rfl (by decide +kernel) ⟨Nat.le_of_ble_eq_true rfl, Nat.le_of_ble_eq_true rfl⟩) (hv_preV (ci := 2) hK hT.1 (cs_ks hS hi) (by decide) rfl rfl) rfl rfl hl.1 rfl (lv_room (Nat.le_of_ble_eq_true rfl)) dX3_onAskReady_10 ⟨by show 0 + 0 ≤ 8; omega, by show 0 + 0 ≤ 64; omega⟩) hT (fun r3 v1 H locs hp2 hT => ?_)
  obtain ⟨evhp2, qhp2⟩ := hp2
  rw [evhp2] at hT
  refine lv_if_eq (tgt := 38) hx hb dX3_onAskReady_13 (by decide) (fun c13 => ?_) (fun c13 => ?_)
  · skip
    refine lv_aload_n hx hb dX3_onAskReady_38 rfl (lv_at hl 1 rfl) ?_
    refine lv_iload_n hx hb dX3_onAskReady_39 rfl (lv_at hl 2 rfl) ?_
    refine lv_iload_n hx hb dX3_onAskReady_40 rfl (lv_at hl 3 rfl) ?_
    refine hv_callv (va_runV (As := [.int (nI i), .int (nI j)]) (rest := []) ⟨hx, hb, hml, hown, hts⟩ (c_yieldTo l D tc hI hi hj) (cwV 2 hts (tw_V tw_245 tw_246 tw_503 tw_1 tw_247) rfl rfl rfl (by decide +kernel) ⟨Nat.le_of_ble_eq_true rfl, Nat.le_of_ble_eq_true rfl⟩) (hv_preV (ci := 3) hK hT.1 (cs_kX hS) (by decide) rfl rfl) rfl rfl hl.1 rfl (lv_room (Nat.le_of_ble_eq_true rfl)) dX3_onAskReady_41 ⟨by show 0 + 0 + 0 ≤ 8; omega, by show 0 + 0 + 0 ≤ 64; omega⟩) hT (fun v4 H locs hp5 hT => ?_)
    obtain ⟨z, hz, hI⟩ := hp5
    have hS := hI.1.1
    have hP2 := pr_yield hP hi hz
    refine lv_aload hx hb dX3_onAskReady_44 (lv_at hl 0 rfl) ?_
    refine hv_geti (ci := 2) (C := RX2) (T := TX2) (N := 10) hx hb hts (tw_cs in_X2) hown hK hT (cs_ks hS hi) (by decide) rfl 4 (by decide) (hts _ (tw_c tw_81)) rfl dX3_onAskReady_46 ?_
    refine lv_topi (fun g6 eg6 => ?_)
    have eg6 : g6 = (nI (C.S i)) := eg6.trans (by have h := cj_s hI hi; exact h)
    subst eg6
    refine lv_iconst (v := 1) hx hb dX3_onAskReady_49 (by decide) ?_
    refine lv_icmp_ne (tgt := 61) hx hb dX3_onAskReady_50 (by decide) (fun c50 => ?_) (fun c50 => ?_)
    · skip
      refine lv_aload hx hb dX3_onAskReady_61 (lv_at hl 0 rfl) ?_
      refine hv_geti (ci := 2) (C := RX2) (T := TX2) (N := 10) hx hb hts (tw_cs in_X2) hown hK hT (cs_ks hS hi) (by decide) rfl 4 (by decide) (hts _ (tw_c tw_81)) rfl dX3_onAskReady_63 ?_
      refine lv_topi (fun g7 eg7 => ?_)
      have eg7 : g7 = (nI (C.S i)) := eg7.trans (by have h := cj_s hI hi; exact h)
      subst eg7
      refine lv_iload hx hb dX3_onAskReady_66 (lv_at hl 5 rfl) ?_
      refine lv_icmp_ne (tgt := 86) hx hb dX3_onAskReady_68 (by decide) (fun c68 => ?_) (fun c68 => ?_)
      · skip
        exact hret _ v4 _ _ _ _ _ dX3_onAskReady_86 hT ⟨_, _, _, hI, hP2⟩ (by show 0 + 0 + 0 ≤ 8; omega) (by show 0 + 0 + 0 ≤ 64; omega)
      · skip
        have hSr : C.S i = 3 := nI_lit (k := 3) (by first | exact c68 | exact Classical.not_not.mp c68)
        refine lv_aload_n hx hb dX3_onAskReady_71 rfl (lv_at hl 1 rfl) ?_
        refine hv_gets (ci := 3) (C := RX3) (T := TX3) (N := 12) hx hb hts (tw_cs in_X3) hown hK hT (cs_kX hS) (by decide) rfl 1 (by decide) (hts _ (tw_c tw_48)) rfl (x := (fa 2)) (cs_pN hS) dX3_onAskReady_72 ?_
        refine lv_iload_n hx hb dX3_onAskReady_75 rfl (lv_at hl 2 rfl) ?_
        refine lv_iconst (v := 1) hx hb dX3_onAskReady_76 (by decide) ?_
        refine lv_iload_n hx hb dX3_onAskReady_77 rfl (lv_at hl 3 rfl) ?_
        refine lv_ishl hx hb dX3_onAskReady_78 ?_
        refine lv_bipush (v := 8) hx hb dX3_onAskReady_79 (by decide) ?_
        refine lv_iload_n hx hb dX3_onAskReady_81 rfl (lv_at hl 4 rfl) ?_
        refine lv_iconst (v := 0) hx hb dX3_onAskReady_82 (by decide) ?_
        refine hv_callv (va_runV (As := [.int (nI i), .int (1 <<< ((nI j) &&& 31)), .int 8, .int (nI a), .int 0]) (rest := []) ⟨hx, hb, hml, hown, hts⟩ (c_send l D tc hI hi (1 <<< ((nI j) &&& 31)) 8 (nI a) 0 (cs_bit (cs_lt8 hS hj) hj) hh (fun t ht hb => qm_8 hi ((cs_bit (cs_lt8 hS hj) hj) t ht hb) (by omega) (by rw [cs_bit1 (cs_lt8 hS hj) ht hb, show G.e i = 3 from ((hP.2.1 i hi).2.2.2.2.1 hSr)]; exact ⟨hKj, by decide⟩))) (cwV 5 hts (tw_V tw_137 tw_138 tw_139 tw_2 tw_140) rfl rfl rfl (by decide +kernel) ⟨Nat.le_of_ble_eq_true rfl, Nat.le_of_ble_eq_true rfl⟩) (hv_preV (ci := 1) hK hT.1 (cs_kN hS) (by decide) rfl rfl) rfl rfl hl.1 rfl (lv_room (Nat.le_of_ble_eq_true rfl)) dX3_onAskReady_83 ⟨by show 0 + 0 + 0 + 8 ≤ 8; omega, by show 0 + 0 + 0 + 64 ≤ 64; omega⟩) hT (fun v8 H locs hp9 hT => ?_)
        obtain ⟨_, hI⟩ := hp9
        have hS := hI.1.1
        exact hret _ v8 _ _ _ _ _ dX3_onAskReady_86 hT ⟨_, _, _, hI, hP2⟩ (by show 0 + 0 + 0 + 8 ≤ 8; omega) (by show 0 + 0 + 0 + 64 ≤ 64; omega)
    · skip
      have hS1 : C.S i = 1 := nI_lit (k := 1) (by first | exact c50 | exact Classical.not_not.mp c50)
      refine lv_aload_n hx hb dX3_onAskReady_53 rfl (lv_at hl 1 rfl) ?_
      refine lv_aload hx hb dX3_onAskReady_54 (lv_at hl 0 rfl) ?_
      refine lv_iload hx hb dX3_onAskReady_56 (lv_at hl 5 rfl) ?_
      refine hv_callv (va_runV (As := [.ref (fa (16 + i)), .int 3]) (rest := []) ⟨hx, hb, hml, hown, hts⟩ (c_become l D tc hI hi 3 (s1 := 3) rfl (by decide)) (cwV 2 hts (tw_V tw_124 tw_125 tw_486 tw_1 tw_126) rfl rfl rfl (by decide +kernel) ⟨Nat.le_of_ble_eq_true rfl, Nat.le_of_ble_eq_true rfl⟩) (hv_preV (ci := 3) hK hT.1 (cs_kX hS) (by decide) rfl rfl) rfl rfl hl.1 rfl (lv_room (Nat.le_of_ble_eq_true rfl)) dX3_onAskReady_58 ⟨by show 0 + 0 + 0 + 0 ≤ 8; omega, by show 0 + 0 + 0 + 0 ≤ 64; omega⟩) hT (fun v10 H locs hp11 hT => ?_)
      have hI := hp11
      have hS := hI.1.1
      have he0 := (hP2.2.1 i hi).2.2.1 (show C.S i < 2 by omega)
      have hP3 : pr_ok ⟨n, w, ys, qc, qa⟩ (pg_e G i 3) (pc_S (pc_D C i z) i 3) := pr_ready hP2 hi pc_S_off hS1 (Or.inr rfl) (va_up_self ..) ⟨Or.inl rfl, rfl, fun _ h => h, fun _ => rfl⟩
      have hI := cj_le (pg_e_off (i := i) (r := 3) he0).1 (Nat.le_refl _) (cj_am9 hI) hI
      refine lv_aload hx hb dX3_onAskReady_61 (lv_at hl 0 rfl) ?_
      refine hv_geti (ci := 2) (C := RX2) (T := TX2) (N := 10) hx hb hts (tw_cs in_X2) hown hK hT (cs_ks hS hi) (by decide) rfl 4 (by decide) (hts _ (tw_c tw_81)) rfl dX3_onAskReady_63 ?_
      refine lv_topi (fun g12 eg12 => ?_)
      have eg12 : g12 = (nI 3) := eg12.trans (by have h := cj_s hI hi; exact h.trans (congrArg nI (va_up_self ..)))
      subst eg12
      refine lv_iload hx hb dX3_onAskReady_66 (lv_at hl 5 rfl) ?_
      refine lv_icmp_ne (tgt := 86) hx hb dX3_onAskReady_68 (by decide) (fun c68 => ?_) (fun c68 => ?_)
      · skip
        exact absurd rfl c68
      · skip
        refine lv_aload_n hx hb dX3_onAskReady_71 rfl (lv_at hl 1 rfl) ?_
        refine hv_gets (ci := 3) (C := RX3) (T := TX3) (N := 12) hx hb hts (tw_cs in_X3) hown hK hT (cs_kX hS) (by decide) rfl 1 (by decide) (hts _ (tw_c tw_48)) rfl (x := (fa 2)) (cs_pN hS) dX3_onAskReady_72 ?_
        refine lv_iload_n hx hb dX3_onAskReady_75 rfl (lv_at hl 2 rfl) ?_
        refine lv_iconst (v := 1) hx hb dX3_onAskReady_76 (by decide) ?_
        refine lv_iload_n hx hb dX3_onAskReady_77 rfl (lv_at hl 3 rfl) ?_
        refine lv_ishl hx hb dX3_onAskReady_78 ?_
        refine lv_bipush (v := 8) hx hb dX3_onAskReady_79 (by decide) ?_
        refine lv_iload_n hx hb dX3_onAskReady_81 rfl (lv_at hl 4 rfl) ?_
        refine lv_iconst (v := 0) hx hb dX3_onAskReady_82 (by decide) ?_
        refine hv_callv (va_runV (As := [.int (nI i), .int (1 <<< ((nI j) &&& 31)), .int 8, .int (nI a), .int 0]) (rest := []) ⟨hx, hb, hml, hown, hts⟩ (c_send l D tc hI hi (1 <<< ((nI j) &&& 31)) 8 (nI a) 0 (cs_bit (cs_lt8 hS hj) hj) hh (fun t ht hb => qm_8 hi ((cs_bit (cs_lt8 hS hj) hj) t ht hb) (by omega) (by rw [cs_bit1 (cs_lt8 hS hj) ht hb, show (pg_e G i 3).e i = 3 from va_up_self ..]; exact ⟨hKj, by decide⟩))) (cwV 5 hts (tw_V tw_137 tw_138 tw_139 tw_2 tw_140) rfl rfl rfl (by decide +kernel) ⟨Nat.le_of_ble_eq_true rfl, Nat.le_of_ble_eq_true rfl⟩) (hv_preV (ci := 1) hK hT.1 (cs_kN hS) (by decide) rfl rfl) rfl rfl hl.1 rfl (lv_room (Nat.le_of_ble_eq_true rfl)) dX3_onAskReady_83 ⟨by show 0 + 0 + 0 + 0 + 8 ≤ 8; omega, by show 0 + 0 + 0 + 0 + 64 ≤ 64; omega⟩) hT (fun v13 H locs hp14 hT => ?_)
        obtain ⟨_, hI⟩ := hp14
        have hS := hI.1.1
        exact hret _ v13 _ _ _ _ _ dX3_onAskReady_86 hT ⟨_, _, _, hI, hP3⟩ (by show 0 + 0 + 0 + 0 + 8 ≤ 8; omega) (by show 0 + 0 + 0 + 0 + 64 ≤ 64; omega)
  · skip
    have hdc : C.S i = 4 ∨ C.S i = 5 := (qhp2.resolve_right (fun q => c13 q.1)).2
    have hev : C.S i = 4 ∧ pg_CO ⟨n, w, ys, qc, qa⟩ G ∨ C.S i = 5 ∧ pg_AB ⟨n, w, ys, qc, qa⟩ G := by
      rcases hdc with q | q
      · exact Or.inl ⟨q, (hP.2.1 i hi).2.2.2.2.2.1 q⟩
      · exact Or.inr ⟨q, (hP.2.1 i hi).2.2.2.2.2.2.1 q⟩
    refine lv_aload_n hx hb dX3_onAskReady_16 rfl (lv_at hl 1 rfl) ?_
    refine hv_gets (ci := 3) (C := RX3) (T := TX3) (N := 12) hx hb hts (tw_cs in_X3) hown hK hT (cs_kX hS) (by decide) rfl 1 (by decide) (hts _ (tw_c tw_48)) rfl (x := (fa 2)) (cs_pN hS) dX3_onAskReady_17 ?_
    refine lv_iload_n hx hb dX3_onAskReady_20 rfl (lv_at hl 2 rfl) ?_
    refine lv_iconst (v := 1) hx hb dX3_onAskReady_21 (by decide) ?_
    refine lv_iload_n hx hb dX3_onAskReady_22 rfl (lv_at hl 3 rfl) ?_
    refine lv_ishl hx hb dX3_onAskReady_23 ?_
    refine lv_aload hx hb dX3_onAskReady_24 (lv_at hl 0 rfl) ?_
    refine hv_geti (ci := 2) (C := RX2) (T := TX2) (N := 10) hx hb hts (tw_cs in_X2) hown hK hT (cs_ks hS hi) (by decide) rfl 4 (by decide) (hts _ (tw_c tw_81)) rfl dX3_onAskReady_26 ?_
    refine lv_topi (fun g15 eg15 => ?_)
    have eg15 : g15 = (nI (C.S i)) := eg15.trans (by have h := cj_s hI hi; exact h)
    subst eg15
    refine hv_calli (va_runS (As := [.int (nI (C.S i))]) (rest := [.int (1 <<< ((nI j) &&& 31)), .int (nI i), .ref (fa 2)]) ⟨hx, hb, hml, hown, hts⟩ (c_tidingsOf l D tc (nI (C.S i))) (va_cwS 1 hts (tw_S tw_183 tw_184 tw_1 tw_185) rfl rfl rfl (by decide +kernel) ⟨Nat.le_of_ble_eq_true rfl, Nat.le_of_ble_eq_true rfl⟩) (hv_preS hK hT.1) rfl rfl hl.1 rfl (lv_room (Nat.le_of_ble_eq_true rfl)) dX3_onAskReady_29 ⟨by show 0 + 0 + 0 ≤ 8; omega, by show 0 + 0 + 0 ≤ 64; omega⟩) hT (fun r18 v16 H locs hp17 hT => ?_)
    obtain ⟨evhp17, qhp17⟩ := hp17
    rw [evhp17] at hT
    refine lv_iconst (v := 0) hx hb dX3_onAskReady_32 (by decide) ?_
    refine lv_iconst (v := 0) hx hb dX3_onAskReady_33 (by decide) ?_
    refine hv_callv (va_runV (As := [.int (nI i), .int (1 <<< ((nI j) &&& 31)), .int r18, .int 0, .int 0]) (rest := []) ⟨hx, hb, hml, hown, hts⟩ (c_send l D tc hI hi (1 <<< ((nI j) &&& 31)) r18 0 0 (cs_bit (cs_lt8 hS hj) hj) hh (fun t ht hb => qm_dec rfl hev qhp17 hi ((cs_bit (cs_lt8 hS hj) hj) t ht hb))) (cwV 5 hts (tw_V tw_137 tw_138 tw_139 tw_2 tw_140) rfl rfl rfl (by decide +kernel) ⟨Nat.le_of_ble_eq_true rfl, Nat.le_of_ble_eq_true rfl⟩) (hv_preV (ci := 1) hK hT.1 (cs_kN hS) (by decide) rfl rfl) rfl rfl hl.1 rfl (lv_room (Nat.le_of_ble_eq_true rfl)) dX3_onAskReady_34 ⟨by show 0 + 0 + 0 + 8 ≤ 8; omega, by show 0 + 0 + 0 + 64 ≤ 64; omega⟩) hT (fun v19 H locs hp20 hT => ?_)
    obtain ⟨_, hI⟩ := hp20
    have hS := hI.1.1
    exact hret _ v19 _ _ _ _ _ dX3_onAskReady_37 hT ⟨_, _, _, hI, hP⟩ (by show 0 + 0 + 0 + 8 ≤ 8; omega) (by show 0 + 0 + 0 + 64 ≤ 64; omega)

set_option maxHeartbeats 800000 in
set_option maxRecDepth 100000 in
theorem c_onAcknowledge (l : Launch) (D : va_G) (tc : Nat → ClassId) {ys : Nat → Prop} {qc qa am : Nat} {G : PG} {C : PC} {fa : Nat → Nat} {n : Nat} {w u : Nat → Nat} {d : Nat → Nat → Nat} {g : Nat × Nat} {k : Nat} {hd : List Nat} {v : hv_V} (hI : cj_I ys qc qa am G C fa n w u 1 d g k hd v) {i : Nat} (hi : i < n) {j : Nat} (hj : j < n) (hh : hd.length ≤ 1) (hP : pr_ok ⟨n, w, ys, qc, qa⟩ G C) (h9 : am < 1000000000) {a : Nat} (ha : a ≤ am) (hKe : G.K i a = G.e j) : Met l yX3_onAcknowledge (Cond.code yX3_onAcknowledge cX3_onAcknowledge 5 none :: lw_B) ({ frames := 4, cells := 8, slots := 64, locals := 90 }) (va_Pc [.ref (fa 0), .int (nI i), .int (nI j), .int (nI a)] (hv_Pre D tc v)) (va_Qv (fun (v1 : hv_V) => ∃ k1 G1 C1, cj_I ys qc qa (am + 1) G1 C1 fa n w u 1 d g k1 hd v1 ∧ pr_ok ⟨n, w, ys, qc, qa⟩ G1 C1) (hv_Post D tc (hv_A v)) (hv_A v)) (8) (64) (hv_A v) := by
  refine hv_metv l (by decide) (Nat.le_of_ble_eq_true rfl) ?_
  intro p e s m args below meth c Q X hret hK hz H locs ls hT hl
  obtain ⟨hx, hb, hml, hts, hown, hin0⟩ := X
  have hown : s.vm.findClass "CommitSites" = some m.cls := hown
  have hl : lv_has ls 5 [(0, .ref (fa 0)), (1, .int (nI i)), (2, .int (nI j)), (3, .int (nI a))] := hl
  have hS := hI.1.1
  have hs5 := cj_s5 hI hi
  have hd4 := cj_d4 hI hi
  have ham := cj_am hI hi
  have hI := cj_le pg_le.rf (Nat.le_succ am) h9 hI
  have hI0 := hI
  refine lv_aload_n hx hb dX3_onAcknowledge_0 rfl (lv_at hl 0 rfl) ?_
  refine hv_gets (ci := 3) (C := RX3) (T := TX3) (N := 12) hx hb hts (tw_cs in_X3) hown hK hT (cs_kX hS) (by decide) rfl 0 (by decide) (hts _ (tw_c tw_47)) rfl (x := (fa 1)) (cs_pS hS) dX3_onAcknowledge_1 ?_
  refine lv_iload_n hx hb dX3_onAcknowledge_4 rfl (lv_at hl 1 rfl) ?_
  refine hv_alds (t := 0) hx hb hK hT (cs_kS hS) rfl rfl (cs_in8 (cs_lt8 hS hi)) (x := (fa (16 + i))) (cs_qS hS hi) dX3_onAcknowledge_5 ?_
  refine lv_astore (lv' := [(4, _), (0, _), (1, _), (2, _), (3, _)]) hx hb dX3_onAcknowledge_6 hl (by decide) rfl (fun ls hl => ?_)
  refine lv_aload hx hb dX3_onAcknowledge_8 (lv_at hl 0 rfl) ?_
  refine hv_calli (va_runV (As := []) (rest := []) ⟨hx, hb, hml, hown, hts⟩ (c_collectsAcks l D tc hI hi) (cwV 0 hts (tw_V tw_257 tw_258 tw_259 tw_4 tw_260) rfl rfl rfl (by decide +kernel) ⟨Nat.le_of_ble_eq_true rfl, Nat.le_of_ble_eq_true rfl⟩) (hv_preV (ci := 2) hK hT.1 (cs_ks hS hi) (by decide) rfl rfl) rfl rfl hl.1 rfl (lv_room (Nat.le_of_ble_eq_true rfl)) dX3_onAcknowledge_10 ⟨by show 0 + 0 ≤ 8; omega, by show 0 + 0 ≤ 64; omega⟩) hT (fun r3 v1 H locs hp2 hT => ?_)
  obtain ⟨evhp2, qhp2⟩ := hp2
  rw [evhp2] at hT
  refine lv_if_eq (tgt := 25) hx hb dX3_onAcknowledge_13 (by decide) (fun c13 => ?_) (fun c13 => ?_)
  · skip
    exact hret _ v _ _ _ _ _ dX3_onAcknowledge_25 hT ⟨_, _, _, hI, hP⟩ (by show 0 + 0 ≤ 8; omega) (by show 0 + 0 ≤ 64; omega)
  · skip
    have hac : C.D i = 2 ∨ C.D i = 4 := (qhp2.resolve_right (fun q => c13 q.1)).2
    refine lv_aload hx hb dX3_onAcknowledge_16 (lv_at hl 0 rfl) ?_
    refine hv_geti (ci := 2) (C := RX2) (T := TX2) (N := 10) hx hb hts (tw_cs in_X2) hown hK hT (cs_ks hS hi) (by decide) rfl 7 (by decide) (hts _ (tw_c tw_87)) rfl dX3_onAcknowledge_18 ?_
    refine lv_topi (fun g4 eg4 => ?_)
    have eg4 : g4 = (nI (C.A i)) := eg4.trans (by have h := cj_a hI hi; exact h)
    subst eg4
    refine lv_iload_n hx hb dX3_onAcknowledge_21 rfl (lv_at hl 4 rfl) ?_
    refine lv_icmp_eq (tgt := 26) hx hb dX3_onAcknowledge_22 (by decide) (fun c22 => ?_) (fun c22 => ?_)
    · skip
      have hAa : C.A i = a := (nI_eq (by have := cj_am9 hI; omega) (by have := cj_am9 hI; omega)).mp c22
      refine lv_aload hx hb dX3_onAcknowledge_26 (lv_at hl 0 rfl) ?_
      refine lv_dup hx hb dX3_onAcknowledge_28 rfl ?_
      refine hv_geti (ci := 2) (C := RX2) (T := TX2) (N := 10) hx hb hts (tw_cs in_X2) hown hK hT (cs_ks hS hi) (by decide) rfl 2 (by decide) (hts _ (tw_c tw_77)) rfl dX3_onAcknowledge_29 ?_
      refine lv_topi (fun g5 eg5 => ?_)
      refine lv_iconst (v := 1) hx hb dX3_onAcknowledge_32 (by decide) ?_
      refine lv_iload_n hx hb dX3_onAcknowledge_33 rfl (lv_at hl 3 rfl) ?_
      refine lv_ishl hx hb dX3_onAcknowledge_34 ?_
      refine lv_ior hx hb dX3_onAcknowledge_35 ?_
      refine hv_puti (ci := 2) (C := RX2) (T := TX2) (N := 10) hx hb hts (tw_cs in_X2) tyX2 tyX2_ok nmX2 hown hK hT (cs_ks hS hi) (by decide) rfl 2 (by decide) (hts _ (tw_c tw_77)) rfl rfl (x := (g5 ||| (1 <<< ((nI j) &&& 31)))) rfl rfl dX3_onAcknowledge_36 (fun H locs hT => ?_)
      have hI := cj_202 (i := i) (x := (g5 ||| (1 <<< ((nI j) &&& 31)))) hi hI
      have hS := hI.1.1
      have hP1 : pr_ok ⟨n, w, ys, qc, qa⟩ G (pc_T C i (fun j9 => ¬ hb_ (g5 ||| (1 <<< ((nI j) &&& 31))) (nI j9) = 0)) := pr_ack (j := j) hP hi pc_T_off hac rfl rfl rfl (fun k hk z => by have hk : k < n := hk; have z1 := pc_Ti z; have z2 := hb_or (x := g5) (j := j) (k := k) (cs_lt8 hS hj) (cs_lt8 hS hk) z1; rcases z2 with z2 | z2; exact Or.inl ((cj_ty hI0 hi (cs_lt8 hS hk)).mpr (by rw [← eg5]; exact z2)); exact Or.inr z2) (by rw [hAa]; exact hKe)
      refine lv_aload_n hx hb dX3_onAcknowledge_39 rfl (lv_at hl 1 rfl) ?_
      refine lv_aload hx hb dX3_onAcknowledge_40 (lv_at hl 0 rfl) ?_
      refine hv_calli (va_runV (As := [.ref (fa (16 + i))]) (rest := []) ⟨hx, hb, hml, hown, hts⟩ (c_hasQuorum l D tc hI hi) (cwV 1 hts (tw_V tw_177 tw_178 tw_491 tw_1 tw_179) rfl rfl rfl (by decide +kernel) ⟨Nat.le_of_ble_eq_true rfl, Nat.le_of_ble_eq_true rfl⟩) (hv_preV (ci := 3) hK hT.1 (cs_kX hS) (by decide) rfl rfl) rfl rfl hl.1 rfl (lv_room (Nat.le_of_ble_eq_true rfl)) dX3_onAcknowledge_42 ⟨by show 0 + 0 + 0 ≤ 8; omega, by show 0 + 0 + 0 ≤ 64; omega⟩) hT (fun r8 v6 H locs hp7 hT => ?_)
      obtain ⟨evhp7, qhp7⟩ := hp7
      rw [evhp7] at hT
      refine lv_if_eq (tgt := 67) hx hb dX3_onAcknowledge_45 (by decide) (fun c45 => ?_) (fun c45 => ?_)
      · skip
        exact hret _ (hv_si v 202 (fa (16 + i)) (g5 ||| (1 <<< ((nI j) &&& 31)))) _ _ _ _ _ dX3_onAcknowledge_67 hT ⟨_, _, _, hI, hP1⟩ (by show 0 + 0 + 0 ≤ 8; omega) (by show 0 + 0 + 0 ≤ 64; omega)
      · skip
        have hq9 := (qhp7.resolve_right c45).2
        refine lv_aload_n hx hb dX3_onAcknowledge_48 rfl (lv_at hl 1 rfl) ?_
        refine lv_iload_n hx hb dX3_onAcknowledge_49 rfl (lv_at hl 2 rfl) ?_
        refine lv_aload hx hb dX3_onAcknowledge_50 (lv_at hl 0 rfl) ?_
        refine hv_geti (ci := 2) (C := RX2) (T := TX2) (N := 10) hx hb hts (tw_cs in_X2) hown hK hT (cs_ks hS hi) (by decide) rfl 6 (by decide) (hts _ (tw_c tw_85)) rfl dX3_onAcknowledge_52 ?_
        refine lv_topi (fun g9 eg9 => ?_)
        have eg9 : g9 = (nI (C.D i)) := eg9.trans (by have h := cj_d hI hi; exact h)
        subst eg9
        refine lv_iconst (v := 2) hx hb dX3_onAcknowledge_55 (by decide) ?_
        refine lv_icmp_ne (tgt := 63) hx hb dX3_onAcknowledge_56 (by decide) (fun c56 => ?_) (fun c56 => ?_)
        · skip
          have hD2 : ¬ C.D i = 2 := nI_nlit (k := 2) c56
          rw [if_neg (show ¬ (pc_T C i (fun j9 => ¬ hb_ (g5 ||| (1 <<< ((nI j) &&& 31))) (nI j9) = 0)).D i = 2 from hD2)] at hq9
          have hev := pr_AB hP1 hi (show C.D i = 4 by omega) hq9 (fun j8 hj8 z => ⟨(qt_T z).1, (cj_ty hI hi (cs_lt8 hS hj8)).mpr (qt_T z).2⟩)
          refine lv_iconst (v := 5) hx hb dX3_onAcknowledge_63 (by decide) ?_
          refine hv_callv (va_runV (As := [.int (nI i), .int 5]) (rest := []) ⟨hx, hb, hml, hown, hts⟩ (c_decide l D tc hI hi hh 5 (s1 := 5) rfl (Or.inr ⟨rfl, hev⟩)) (cwV 2 hts (tw_V tw_180 tw_181 tw_492 tw_1 tw_182) rfl rfl rfl (by decide +kernel) ⟨Nat.le_of_ble_eq_true rfl, Nat.le_of_ble_eq_true rfl⟩) (hv_preV (ci := 3) hK hT.1 (cs_kX hS) (by decide) rfl rfl) rfl rfl hl.1 rfl (lv_room (Nat.le_of_ble_eq_true rfl)) dX3_onAcknowledge_64 ⟨by show 0 + 0 + 0 + 8 ≤ 8; omega, by show 0 + 0 + 0 + 64 ≤ 64; omega⟩) hT (fun v10 H locs hp11 hT => ?_)
          obtain ⟨_, hI⟩ := hp11
          have hS := hI.1.1
          exact hret _ v10 _ _ _ _ _ dX3_onAcknowledge_67 hT ⟨_, _, _, hI, pr_dec hP1 hi (pc_S_off.tr pc_D_off) (Or.inr ⟨va_up_self .., hev⟩) ⟨Or.inr (va_up_self ..), rfl, fun _ h => h, fun _ => rfl⟩ (by show ¬ va_up _ i 0 i = 1; rw [va_up_self]; decide)⟩ (by show 0 + 0 + 0 + 8 ≤ 8; omega) (by show 0 + 0 + 0 + 64 ≤ 64; omega)
        · skip
          have hD2 : C.D i = 2 := nI_lit (k := 2) (by first | exact c56 | exact Classical.not_not.mp c56)
          rw [if_pos (show (pc_T C i (fun j9 => ¬ hb_ (g5 ||| (1 <<< ((nI j) &&& 31))) (nI j9) = 0)).D i = 2 from hD2)] at hq9
          have hev := pr_CO hP1 hi hD2 hq9 (fun j8 hj8 z => ⟨(qt_T z).1, (cj_ty hI hi (cs_lt8 hS hj8)).mpr (qt_T z).2⟩)
          refine lv_iconst (v := 4) hx hb dX3_onAcknowledge_59 (by decide) ?_
          refine lv_goto (tgt := 64) hx hb dX3_onAcknowledge_60 (by decide) ?_
          refine hv_callv (va_runV (As := [.int (nI i), .int 4]) (rest := []) ⟨hx, hb, hml, hown, hts⟩ (c_decide l D tc hI hi hh 4 (s1 := 4) rfl (Or.inl ⟨rfl, hev⟩)) (cwV 2 hts (tw_V tw_180 tw_181 tw_492 tw_1 tw_182) rfl rfl rfl (by decide +kernel) ⟨Nat.le_of_ble_eq_true rfl, Nat.le_of_ble_eq_true rfl⟩) (hv_preV (ci := 3) hK hT.1 (cs_kX hS) (by decide) rfl rfl) rfl rfl hl.1 rfl (lv_room (Nat.le_of_ble_eq_true rfl)) dX3_onAcknowledge_64 ⟨by show 0 + 0 + 0 + 8 ≤ 8; omega, by show 0 + 0 + 0 + 64 ≤ 64; omega⟩) hT (fun v12 H locs hp13 hT => ?_)
          obtain ⟨_, hI⟩ := hp13
          have hS := hI.1.1
          exact hret _ v12 _ _ _ _ _ dX3_onAcknowledge_67 hT ⟨_, _, _, hI, pr_dec hP1 hi (pc_S_off.tr pc_D_off) (Or.inl ⟨va_up_self .., hev⟩) ⟨Or.inr (va_up_self ..), rfl, fun _ h => h, fun _ => rfl⟩ (by show ¬ va_up _ i 0 i = 1; rw [va_up_self]; decide)⟩ (by show 0 + 0 + 0 + 8 ≤ 8; omega) (by show 0 + 0 + 0 + 64 ≤ 64; omega)
    · skip
      exact hret _ v _ _ _ _ _ dX3_onAcknowledge_25 hT ⟨_, _, _, hI, hP⟩ (by show 0 + 0 ≤ 8; omega) (by show 0 + 0 ≤ 64; omega)

set_option maxHeartbeats 800000 in
set_option maxRecDepth 100000 in
theorem c_onDecision (l : Launch) (D : va_G) (tc : Nat → ClassId) {ys : Nat → Prop} {qc qa am : Nat} {G : PG} {C : PC} {fa : Nat → Nat} {n : Nat} {w u : Nat → Nat} {d : Nat → Nat → Nat} {g : Nat × Nat} {k : Nat} {hd : List Nat} {v : hv_V} (hI : cj_I ys qc qa am G C fa n w u 1 d g k hd v) {i : Nat} (hi : i < n) (hP : pr_ok ⟨n, w, ys, qc, qa⟩ G C) (h9 : am < 1000000000) (x : Int32) {s1 : Nat} (hxs : x = nI s1) (hs : s1 = 4 ∧ pg_CO ⟨n, w, ys, qc, qa⟩ G ∨ s1 = 5 ∧ pg_AB ⟨n, w, ys, qc, qa⟩ G) : Met l yX3_onDecision (Cond.code yX3_onDecision cX3_onDecision 4 none :: lw_B) ({ frames := 2, cells := 0, slots := 0, locals := 42 }) (va_Pc [.ref (fa 0), .int (nI i), .int x] (hv_Pre D tc v)) (va_Qv (fun (v1 : hv_V) => ∃ G1 C1, cj_I ys qc qa (am + 1) G1 C1 fa n w u 1 d g k hd v1 ∧ pr_ok ⟨n, w, ys, qc, qa⟩ G1 C1) (hv_Post D tc (hv_A v)) (hv_A v)) (0) (0) (hv_A v) := by
  refine hv_metv l (by decide) (Nat.le_of_ble_eq_true rfl) ?_
  intro p e s m args below meth c Q X hret hK hz H locs ls hT hl
  obtain ⟨hx, hb, hml, hts, hown, hin0⟩ := X
  have hown : s.vm.findClass "CommitSites" = some m.cls := hown
  have hl : lv_has ls 4 [(0, .ref (fa 0)), (1, .int (nI i)), (2, .int x)] := hl
  have hS := hI.1.1
  have hs5 := cj_s5 hI hi
  have hd4 := cj_d4 hI hi
  have ham := cj_am hI hi
  have hI := cj_le pg_le.rf (Nat.le_succ am) h9 hI
  refine lv_aload_n hx hb dX3_onDecision_0 rfl (lv_at hl 0 rfl) ?_
  refine hv_gets (ci := 3) (C := RX3) (T := TX3) (N := 12) hx hb hts (tw_cs in_X3) hown hK hT (cs_kX hS) (by decide) rfl 0 (by decide) (hts _ (tw_c tw_47)) rfl (x := (fa 1)) (cs_pS hS) dX3_onDecision_1 ?_
  refine lv_iload_n hx hb dX3_onDecision_4 rfl (lv_at hl 1 rfl) ?_
  refine hv_alds (t := 0) hx hb hK hT (cs_kS hS) rfl rfl (cs_in8 (cs_lt8 hS hi)) (x := (fa (16 + i))) (cs_qS hS hi) dX3_onDecision_5 ?_
  refine lv_astore_n (lv' := [(3, _), (0, _), (1, _), (2, _)]) hx hb dX3_onDecision_6 rfl hl (by decide) rfl (fun ls hl => ?_)
  refine lv_aload_n hx hb dX3_onDecision_7 rfl (lv_at hl 0 rfl) ?_
  refine hv_calli (va_runV (As := []) (rest := []) ⟨hx, hb, hml, hown, hts⟩ (c_isDecided l D tc hI hi) (cwV 0 hts (tw_V tw_127 tw_128 tw_129 tw_4 tw_130) rfl rfl rfl (by decide +kernel) ⟨Nat.le_of_ble_eq_true rfl, Nat.le_of_ble_eq_true rfl⟩) (hv_preV (ci := 2) hK hT.1 (cs_ks hS hi) (by decide) rfl rfl) rfl rfl hl.1 rfl (lv_room (Nat.le_of_ble_eq_true rfl)) dX3_onDecision_8 ⟨Nat.le_of_ble_eq_true rfl, Nat.le_of_ble_eq_true rfl⟩) hT (fun r3 v1 H locs hp2 hT => ?_)
  obtain ⟨evhp2, qhp2⟩ := hp2
  rw [evhp2] at hT
  refine lv_if_ne (tgt := 25) hx hb dX3_onDecision_11 (by decide) (fun c11 => ?_) (fun c11 => ?_)
  · skip
    exact hret _ v _ _ _ _ _ dX3_onDecision_25 hT ⟨_, _, hI, hP⟩ (by decide) (by decide)
  · skip
    refine lv_aload_n hx hb dX3_onDecision_14 rfl (lv_at hl 1 rfl) ?_
    refine lv_aload_n hx hb dX3_onDecision_15 rfl (lv_at hl 0 rfl) ?_
    refine lv_iload_n hx hb dX3_onDecision_16 rfl (lv_at hl 3 rfl) ?_
    refine hv_callv (va_runV (As := [.ref (fa (16 + i)), .int x]) (rest := []) ⟨hx, hb, hml, hown, hts⟩ (c_become l D tc hI hi x (s1 := s1) hxs (by omega)) (cwV 2 hts (tw_V tw_124 tw_125 tw_486 tw_1 tw_126) rfl rfl rfl (by decide +kernel) ⟨Nat.le_of_ble_eq_true rfl, Nat.le_of_ble_eq_true rfl⟩) (hv_preV (ci := 3) hK hT.1 (cs_kX hS) (by decide) rfl rfl) rfl rfl hl.1 rfl (lv_room (Nat.le_of_ble_eq_true rfl)) dX3_onDecision_17 ⟨Nat.le_of_ble_eq_true rfl, Nat.le_of_ble_eq_true rfl⟩) hT (fun v4 H locs hp5 hT => ?_)
    have hI := hp5
    have hS := hI.1.1
    refine lv_aload_n hx hb dX3_onDecision_20 rfl (lv_at hl 0 rfl) ?_
    refine lv_iconst (v := 0) hx hb dX3_onDecision_21 (by decide) ?_
    refine hv_puti (ci := 2) (C := RX2) (T := TX2) (N := 10) hx hb hts (tw_cs in_X2) tyX2 tyX2_ok nmX2 hown hK hT (cs_ks hS hi) (by decide) rfl 6 (by decide) (hts _ (tw_c tw_85)) rfl rfl (x := 0) rfl rfl dX3_onDecision_22 (fun H locs hT => ?_)
    have hI := cj_206 (i := i) (x := 0) (s := 0) rfl (by decide) hi hI
    have hS := hI.1.1
    exact hret _ (hv_si v4 206 (fa (16 + i)) 0) _ _ _ _ _ dX3_onDecision_25 hT ⟨_, _, hI, pr_dec hP hi (pc_S_off.tr pc_D_off) (by rcases hs with ⟨q, q2⟩ | ⟨q, q2⟩; exact Or.inl ⟨(va_up_self ..).trans q, q2⟩; exact Or.inr ⟨(va_up_self ..).trans q, q2⟩) ⟨Or.inr (va_up_self ..), rfl, fun _ h => h, fun _ => rfl⟩ (by show ¬ va_up _ i 0 i = 1; rw [va_up_self]; decide)⟩ (by decide) (by decide)

set_option maxHeartbeats 800000 in
set_option maxRecDepth 100000 in
theorem c_runOut (l : Launch) (D : va_G) (tc : Nat → ClassId) {ys : Nat → Prop} {qc qa am : Nat} {G : PG} {C : PC} {fa : Nat → Nat} {n : Nat} {w u : Nat → Nat} {d : Nat → Nat → Nat} {g : Nat × Nat} {k : Nat} {hd : List Nat} {v : hv_V} (hI : cj_I ys qc qa am G C fa n w u 1 d g k hd v) {i : Nat} (hi : i < n) (hh : hd.length ≤ 1) (hP : pr_ok ⟨n, w, ys, qc, qa⟩ G C) (h9 : am < 1000000000) : Met l yX3_runOut (Cond.code yX3_runOut cX3_runOut 3 none :: lw_B) ({ frames := 5, cells := 16, slots := 128, locals := 114 }) (va_Pc [.ref (fa 0), .int (nI i)] (hv_Pre D tc v)) (va_Qv (fun (v1 : hv_V) => ∃ k1 G1 C1, cj_I ys qc qa (am + 1) G1 C1 fa n w u 1 d g k1 hd v1 ∧ pr_ok ⟨n, w, ys, qc, qa⟩ G1 C1) (hv_Post D tc (hv_A v)) (hv_A v)) (16) (128) (hv_A v) := by
  refine hv_metv l (by decide) (Nat.le_of_ble_eq_true rfl) ?_
  intro p e s m args below meth c Q X hret hK hz H locs ls hT hl
  obtain ⟨hx, hb, hml, hts, hown, hin0⟩ := X
  have hown : s.vm.findClass "CommitSites" = some m.cls := hown
  have hl : lv_has ls 3 [(0, .ref (fa 0)), (1, .int (nI i))] := hl
  have hI0 := hI
  have hS := hI.1.1
  have hs5 := cj_s5 hI hi
  have hd4 := cj_d4 hI hi
  have ham := cj_am hI hi
  have hI := cj_le pg_le.rf (Nat.le_succ am) h9 hI
  refine lv_aload_n hx hb dX3_runOut_0 rfl (lv_at hl 0 rfl) ?_
  refine hv_gets (ci := 3) (C := RX3) (T := TX3) (N := 12) hx hb hts (tw_cs in_X3) hown hK hT (cs_kX hS) (by decide) rfl 0 (by decide) (hts _ (tw_c tw_47)) rfl (x := (fa 1)) (cs_pS hS) dX3_runOut_1 ?_
  refine lv_iload_n hx hb dX3_runOut_4 rfl (lv_at hl 1 rfl) ?_
  refine hv_alds (t := 0) hx hb hK hT (cs_kS hS) rfl rfl (cs_in8 (cs_lt8 hS hi)) (x := (fa (16 + i))) (cs_qS hS hi) dX3_runOut_5 ?_
  refine lv_astore_n (lv' := [(2, _), (0, _), (1, _)]) hx hb dX3_runOut_6 rfl hl (by decide) rfl (fun ls hl => ?_)
  refine lv_aload_n hx hb dX3_runOut_7 rfl (lv_at hl 0 rfl) ?_
  refine hv_geti (ci := 2) (C := RX2) (T := TX2) (N := 10) hx hb hts (tw_cs in_X2) hown hK hT (cs_ks hS hi) (by decide) rfl 6 (by decide) (hts _ (tw_c tw_85)) rfl dX3_runOut_8 ?_
  refine lv_topi (fun g1 eg1 => ?_)
  have eg1 : g1 = (nI (C.D i)) := eg1.trans (by have h := cj_d hI hi; exact h)
  subst eg1
  refine lv_iconst (v := 1) hx hb dX3_runOut_11 (by decide) ?_
  refine lv_icmp_ne (tgt := 24) hx hb dX3_runOut_12 (by decide) (fun c12 => ?_) (fun c12 => ?_)
  · skip
    refine lv_aload_n hx hb dX3_runOut_24 rfl (lv_at hl 0 rfl) ?_
    refine hv_geti (ci := 2) (C := RX2) (T := TX2) (N := 10) hx hb hts (tw_cs in_X2) hown hK hT (cs_ks hS hi) (by decide) rfl 6 (by decide) (hts _ (tw_c tw_85)) rfl dX3_runOut_25 ?_
    refine lv_topi (fun g2 eg2 => ?_)
    have eg2 : g2 = (nI (C.D i)) := eg2.trans (by have h := cj_d hI hi; exact h)
    subst eg2
    refine lv_iconst (v := 3) hx hb dX3_runOut_28 (by decide) ?_
    refine lv_icmp_eq (tgt := 40) hx hb dX3_runOut_29 (by decide) (fun c29 => ?_) (fun c29 => ?_)
    · skip
      have hD3 : C.D i = 3 := nI_lit (k := 3) c29
      refine lv_aload_n hx hb dX3_runOut_40 rfl (lv_at hl 1 rfl) ?_
      refine lv_aload_n hx hb dX3_runOut_41 rfl (lv_at hl 0 rfl) ?_
      refine lv_iconst (v := 2) hx hb dX3_runOut_42 (by decide) ?_
      refine hv_calli (va_runV (As := [.ref (fa (16 + i)), .int 2]) (rest := []) ⟨hx, hb, hml, hown, hts⟩ (c_toldWeight l D tc hI hi 2) (cwV 2 hts (tw_V tw_223 tw_224 tw_497 tw_1 tw_225) rfl rfl rfl (by decide +kernel) ⟨Nat.le_of_ble_eq_true rfl, Nat.le_of_ble_eq_true rfl⟩) (hv_preV (ci := 3) hK hT.1 (cs_kX hS) (by decide) rfl rfl) rfl rfl hl.1 rfl (lv_room (Nat.le_of_ble_eq_true rfl)) dX3_runOut_43 ⟨by show 0 + 0 ≤ 16; omega, by show 0 + 0 ≤ 128; omega⟩) hT (fun r5 v3 H locs hp4 hT => ?_)
      obtain ⟨evhp4, qhp4⟩ := hp4
      rw [evhp4] at hT
      refine lv_if_le (tgt := 78) hx hb dX3_runOut_46 (by decide) (fun c46 => ?_) (fun c46 => ?_)
      · skip
        refine lv_aload_n hx hb dX3_runOut_78 rfl (lv_at hl 1 rfl) ?_
        refine lv_aload_n hx hb dX3_runOut_79 rfl (lv_at hl 0 rfl) ?_
        refine lv_iconst (v := 1) hx hb dX3_runOut_80 (by decide) ?_
        refine hv_calli (va_runV (As := [.ref (fa (16 + i)), .int 1]) (rest := []) ⟨hx, hb, hml, hown, hts⟩ (c_toldWeight l D tc hI hi 1) (cwV 2 hts (tw_V tw_223 tw_224 tw_497 tw_1 tw_225) rfl rfl rfl (by decide +kernel) ⟨Nat.le_of_ble_eq_true rfl, Nat.le_of_ble_eq_true rfl⟩) (hv_preV (ci := 3) hK hT.1 (cs_kX hS) (by decide) rfl rfl) rfl rfl hl.1 rfl (lv_room (Nat.le_of_ble_eq_true rfl)) dX3_runOut_81 ⟨by show 0 + 0 + 0 ≤ 16; omega, by show 0 + 0 + 0 ≤ 128; omega⟩) hT (fun r8 v6 H locs hp7 hT => ?_)
        obtain ⟨evhp7, qhp7⟩ := hp7
        rw [evhp7] at hT
        refine lv_aload_n hx hb dX3_runOut_84 rfl (lv_at hl 1 rfl) ?_
        refine lv_aload_n hx hb dX3_runOut_85 rfl (lv_at hl 0 rfl) ?_
        refine lv_iconst (v := 3) hx hb dX3_runOut_86 (by decide) ?_
        refine hv_calli (va_runV (As := [.ref (fa (16 + i)), .int 3]) (rest := [.int r8]) ⟨hx, hb, hml, hown, hts⟩ (c_toldWeight l D tc hI hi 3) (cwV 2 hts (tw_V tw_223 tw_224 tw_497 tw_1 tw_225) rfl rfl rfl (by decide +kernel) ⟨Nat.le_of_ble_eq_true rfl, Nat.le_of_ble_eq_true rfl⟩) (hv_preV (ci := 3) hK hT.1 (cs_kX hS) (by decide) rfl rfl) rfl rfl hl.1 rfl (lv_room (Nat.le_of_ble_eq_true rfl)) dX3_runOut_87 ⟨by show 0 + 0 + 0 + 0 ≤ 16; omega, by show 0 + 0 + 0 + 0 ≤ 128; omega⟩) hT (fun r11 v9 H locs hp10 hT => ?_)
        obtain ⟨evhp10, qhp10⟩ := hp10
        rw [evhp10] at hT
        refine lv_iadd hx hb dX3_runOut_90 ?_
        refine lv_aload_n hx hb dX3_runOut_91 rfl (lv_at hl 1 rfl) ?_
        refine hv_geti (ci := 3) (C := RX3) (T := TX3) (N := 12) hx hb hts (tw_cs in_X3) hown hK hT (cs_kX hS) (by decide) rfl 6 (by decide) (hts _ (tw_c tw_53)) rfl dX3_runOut_92 ?_
        refine lv_topi (fun g12 eg12 => ?_)
        refine lv_icmp_lt (tgt := 107) hx hb dX3_runOut_95 (by decide) (fun c95 => ?_) (fun c95 => ?_)
        · skip
          refine lv_aload_n hx hb dX3_runOut_107 rfl (lv_at hl 0 rfl) ?_
          refine lv_iconst (v := 0) hx hb dX3_runOut_108 (by decide) ?_
          refine hv_puti (ci := 2) (C := RX2) (T := TX2) (N := 10) hx hb hts (tw_cs in_X2) tyX2 tyX2_ok nmX2 hown hK hT (cs_ks hS hi) (by decide) rfl 6 (by decide) (hts _ (tw_c tw_85)) rfl rfl (x := 0) rfl rfl dX3_runOut_109 (fun H locs hT => ?_)
          have hI := cj_206 (i := i) (x := 0) (s := 0) rfl (by decide) hi hI
          have hS := hI.1.1
          refine lv_aload_n hx hb dX3_runOut_112 rfl (lv_at hl 1 rfl) ?_
          refine lv_aload_n hx hb dX3_runOut_113 rfl (lv_at hl 0 rfl) ?_
          refine lv_aload_n hx hb dX3_runOut_114 rfl (lv_at hl 1 rfl) ?_
          refine hv_geti (ci := 3) (C := RX3) (T := TX3) (N := 12) hx hb hts (tw_cs in_X3) hown hK hT (cs_kX hS) (by decide) rfl 7 (by decide) (hts _ (tw_c tw_54)) rfl dX3_runOut_115 ?_
          refine lv_topi (fun g13 eg13 => ?_)
          obtain ⟨q14, h5q14, h100q14, hq14⟩ := hI.1.2.1.2.2.2.1
          have eg13 : g13 = (nI q14) := by rw [eg13]; exact hq14
          subst eg13
          refine lv_iload_n hx hb dX3_runOut_118 rfl (lv_at hl 2 rfl) ?_
          refine lv_iadd hx hb dX3_runOut_119 ?_
          refine hv_as (x := ((nI q14) + (nI i))) (y := (nI (q14 + i))) (nI_add _ _) ?_
          refine hv_callv (va_runV (As := [.ref (fa (16 + i)), .int (nI (q14 + i))]) (rest := []) ⟨hx, hb, hml, hown, hts⟩ (c_setTimer l D tc hI hi (q := (q14 + i)) (by have h8 := cs_lt8 hS hi; omega)) (cwV 2 hts (tw_V tw_167 tw_168 tw_489 tw_1 tw_169) rfl rfl rfl (by decide +kernel) ⟨Nat.le_of_ble_eq_true rfl, Nat.le_of_ble_eq_true rfl⟩) (hv_preV (ci := 3) hK hT.1 (cs_kX hS) (by decide) rfl rfl) rfl rfl hl.1 rfl (lv_room (Nat.le_of_ble_eq_true rfl)) dX3_runOut_120 ⟨by show 0 + 0 + 0 + 0 + 0 ≤ 16; omega, by show 0 + 0 + 0 + 0 + 0 ≤ 128; omega⟩) hT (fun v15 H locs hp16 hT => ?_)
          have hI := hp16
          have hS := hI.1.1
          exact hret _ v15 _ _ _ _ _ dX3_runOut_123 hT ⟨_, _, _, hI, pr_rest hP hi pc_D_off rfl (va_up_self ..) rfl⟩ (by show 0 + 0 + 0 + 0 + 0 ≤ 16; omega) (by show 0 + 0 + 0 + 0 + 0 ≤ 128; omega)
        · skip
          refine lv_aload_n hx hb dX3_runOut_98 rfl (lv_at hl 1 rfl) ?_
          refine lv_iload_n hx hb dX3_runOut_99 rfl (lv_at hl 2 rfl) ?_
          refine lv_iconst (v := 3) hx hb dX3_runOut_100 (by decide) ?_
          refine hv_callv (va_runV (As := [.int (nI i), .int 3]) (rest := []) ⟨hx, hb, hml, hown, hts⟩ (c_lead3 l D tc hI hi hh hP pc_off.rf rfl rfl ((hP.2.1 i hi).2.2.2.2.2.2.2.2.2.2.2.2.2.1 hD3).1) (cwV 2 hts (tw_V tw_174 tw_175 tw_490 tw_1 tw_176) rfl rfl rfl (by decide +kernel) ⟨Nat.le_of_ble_eq_true rfl, Nat.le_of_ble_eq_true rfl⟩) (hv_preV (ci := 3) hK hT.1 (cs_kX hS) (by decide) rfl rfl) rfl rfl hl.1 rfl (lv_room (Nat.le_of_ble_eq_true rfl)) dX3_runOut_101 ⟨by show 0 + 0 + 0 + 0 + 16 ≤ 16; omega, by show 0 + 0 + 0 + 0 + 128 ≤ 128; omega⟩) hT (fun v17 H locs hp18 hT => ?_)
          obtain ⟨_, _, _, hI, hP3⟩ := hp18
          have hS := hI.1.1
          refine lv_goto (tgt := 123) hx hb dX3_runOut_104 (by decide) ?_
          exact hret _ v17 _ _ _ _ _ dX3_runOut_123 hT ⟨_, _, _, hI, hP3⟩ (by show 0 + 0 + 0 + 0 + 16 ≤ 16; omega) (by show 0 + 0 + 0 + 0 + 128 ≤ 128; omega)
      · skip
        obtain ⟨j8, hj8, hT8, hO8⟩ := qhp4.resolve_left (fun z => by rw [z] at c46; exact c46 (by decide))
        have hc : G.c = 1 := ((hP.2.1 i hi).2.2.2.2.2.2.2.2.2.2.2.2.2.1 hD3).2 j8 hj8 hT8 (nI_lit (k := 2) hO8 (by have := cj_o5 hI hi (cs_lt8 hS hj8); omega))
        refine lv_aload_n hx hb dX3_runOut_49 rfl (lv_at hl 1 rfl) ?_
        refine lv_aload_n hx hb dX3_runOut_50 rfl (lv_at hl 0 rfl) ?_
        refine lv_iconst (v := 1) hx hb dX3_runOut_51 (by decide) ?_
        refine hv_calli (va_runV (As := [.ref (fa (16 + i)), .int 1]) (rest := []) ⟨hx, hb, hml, hown, hts⟩ (c_toldWeight l D tc hI hi 1) (cwV 2 hts (tw_V tw_223 tw_224 tw_497 tw_1 tw_225) rfl rfl rfl (by decide +kernel) ⟨Nat.le_of_ble_eq_true rfl, Nat.le_of_ble_eq_true rfl⟩) (hv_preV (ci := 3) hK hT.1 (cs_kX hS) (by decide) rfl rfl) rfl rfl hl.1 rfl (lv_room (Nat.le_of_ble_eq_true rfl)) dX3_runOut_52 ⟨by show 0 + 0 + 0 ≤ 16; omega, by show 0 + 0 + 0 ≤ 128; omega⟩) hT (fun r21 v19 H locs hp20 hT => ?_)
        obtain ⟨evhp20, qhp20⟩ := hp20
        rw [evhp20] at hT
        refine lv_aload_n hx hb dX3_runOut_55 rfl (lv_at hl 1 rfl) ?_
        refine lv_aload_n hx hb dX3_runOut_56 rfl (lv_at hl 0 rfl) ?_
        refine lv_iconst (v := 2) hx hb dX3_runOut_57 (by decide) ?_
        refine hv_calli (va_runV (As := [.ref (fa (16 + i)), .int 2]) (rest := [.int r21]) ⟨hx, hb, hml, hown, hts⟩ (c_toldWeight l D tc hI hi 2) (cwV 2 hts (tw_V tw_223 tw_224 tw_497 tw_1 tw_225) rfl rfl rfl (by decide +kernel) ⟨Nat.le_of_ble_eq_true rfl, Nat.le_of_ble_eq_true rfl⟩) (hv_preV (ci := 3) hK hT.1 (cs_kX hS) (by decide) rfl rfl) rfl rfl hl.1 rfl (lv_room (Nat.le_of_ble_eq_true rfl)) dX3_runOut_58 ⟨by show 0 + 0 + 0 + 0 ≤ 16; omega, by show 0 + 0 + 0 + 0 ≤ 128; omega⟩) hT (fun r24 v22 H locs hp23 hT => ?_)
        obtain ⟨evhp23, qhp23⟩ := hp23
        rw [evhp23] at hT
        refine lv_iadd hx hb dX3_runOut_61 ?_
        refine lv_aload_n hx hb dX3_runOut_62 rfl (lv_at hl 1 rfl) ?_
        refine hv_geti (ci := 3) (C := RX3) (T := TX3) (N := 12) hx hb hts (tw_cs in_X3) hown hK hT (cs_kX hS) (by decide) rfl 5 (by decide) (hts _ (tw_c tw_52)) rfl dX3_runOut_63 ?_
        refine lv_topi (fun g25 eg25 => ?_)
        refine lv_icmp_lt (tgt := 78) hx hb dX3_runOut_66 (by decide) (fun c66 => ?_) (fun c66 => ?_)
        · skip
          refine lv_aload_n hx hb dX3_runOut_78 rfl (lv_at hl 1 rfl) ?_
          refine lv_aload_n hx hb dX3_runOut_79 rfl (lv_at hl 0 rfl) ?_
          refine lv_iconst (v := 1) hx hb dX3_runOut_80 (by decide) ?_
          refine hv_calli (va_runV (As := [.ref (fa (16 + i)), .int 1]) (rest := []) ⟨hx, hb, hml, hown, hts⟩ (c_toldWeight l D tc hI hi 1) (cwV 2 hts (tw_V tw_223 tw_224 tw_497 tw_1 tw_225) rfl rfl rfl (by decide +kernel) ⟨Nat.le_of_ble_eq_true rfl, Nat.le_of_ble_eq_true rfl⟩) (hv_preV (ci := 3) hK hT.1 (cs_kX hS) (by decide) rfl rfl) rfl rfl hl.1 rfl (lv_room (Nat.le_of_ble_eq_true rfl)) dX3_runOut_81 ⟨by show 0 + 0 + 0 + 0 + 0 ≤ 16; omega, by show 0 + 0 + 0 + 0 + 0 ≤ 128; omega⟩) hT (fun r28 v26 H locs hp27 hT => ?_)
          obtain ⟨evhp27, qhp27⟩ := hp27
          rw [evhp27] at hT
          refine lv_aload_n hx hb dX3_runOut_84 rfl (lv_at hl 1 rfl) ?_
          refine lv_aload_n hx hb dX3_runOut_85 rfl (lv_at hl 0 rfl) ?_
          refine lv_iconst (v := 3) hx hb dX3_runOut_86 (by decide) ?_
          refine hv_calli (va_runV (As := [.ref (fa (16 + i)), .int 3]) (rest := [.int r28]) ⟨hx, hb, hml, hown, hts⟩ (c_toldWeight l D tc hI hi 3) (cwV 2 hts (tw_V tw_223 tw_224 tw_497 tw_1 tw_225) rfl rfl rfl (by decide +kernel) ⟨Nat.le_of_ble_eq_true rfl, Nat.le_of_ble_eq_true rfl⟩) (hv_preV (ci := 3) hK hT.1 (cs_kX hS) (by decide) rfl rfl) rfl rfl hl.1 rfl (lv_room (Nat.le_of_ble_eq_true rfl)) dX3_runOut_87 ⟨by show 0 + 0 + 0 + 0 + 0 + 0 ≤ 16; omega, by show 0 + 0 + 0 + 0 + 0 + 0 ≤ 128; omega⟩) hT (fun r31 v29 H locs hp30 hT => ?_)
          obtain ⟨evhp30, qhp30⟩ := hp30
          rw [evhp30] at hT
          refine lv_iadd hx hb dX3_runOut_90 ?_
          refine lv_aload_n hx hb dX3_runOut_91 rfl (lv_at hl 1 rfl) ?_
          refine hv_geti (ci := 3) (C := RX3) (T := TX3) (N := 12) hx hb hts (tw_cs in_X3) hown hK hT (cs_kX hS) (by decide) rfl 6 (by decide) (hts _ (tw_c tw_53)) rfl dX3_runOut_92 ?_
          refine lv_topi (fun g32 eg32 => ?_)
          refine lv_icmp_lt (tgt := 107) hx hb dX3_runOut_95 (by decide) (fun c95 => ?_) (fun c95 => ?_)
          · skip
            refine lv_aload_n hx hb dX3_runOut_107 rfl (lv_at hl 0 rfl) ?_
            refine lv_iconst (v := 0) hx hb dX3_runOut_108 (by decide) ?_
            refine hv_puti (ci := 2) (C := RX2) (T := TX2) (N := 10) hx hb hts (tw_cs in_X2) tyX2 tyX2_ok nmX2 hown hK hT (cs_ks hS hi) (by decide) rfl 6 (by decide) (hts _ (tw_c tw_85)) rfl rfl (x := 0) rfl rfl dX3_runOut_109 (fun H locs hT => ?_)
            have hI := cj_206 (i := i) (x := 0) (s := 0) rfl (by decide) hi hI
            have hS := hI.1.1
            refine lv_aload_n hx hb dX3_runOut_112 rfl (lv_at hl 1 rfl) ?_
            refine lv_aload_n hx hb dX3_runOut_113 rfl (lv_at hl 0 rfl) ?_
            refine lv_aload_n hx hb dX3_runOut_114 rfl (lv_at hl 1 rfl) ?_
            refine hv_geti (ci := 3) (C := RX3) (T := TX3) (N := 12) hx hb hts (tw_cs in_X3) hown hK hT (cs_kX hS) (by decide) rfl 7 (by decide) (hts _ (tw_c tw_54)) rfl dX3_runOut_115 ?_
            refine lv_topi (fun g33 eg33 => ?_)
            obtain ⟨q34, h5q34, h100q34, hq34⟩ := hI.1.2.1.2.2.2.1
            have eg33 : g33 = (nI q34) := by rw [eg33]; exact hq34
            subst eg33
            refine lv_iload_n hx hb dX3_runOut_118 rfl (lv_at hl 2 rfl) ?_
            refine lv_iadd hx hb dX3_runOut_119 ?_
            refine hv_as (x := ((nI q34) + (nI i))) (y := (nI (q34 + i))) (nI_add _ _) ?_
            refine hv_callv (va_runV (As := [.ref (fa (16 + i)), .int (nI (q34 + i))]) (rest := []) ⟨hx, hb, hml, hown, hts⟩ (c_setTimer l D tc hI hi (q := (q34 + i)) (by have h8 := cs_lt8 hS hi; omega)) (cwV 2 hts (tw_V tw_167 tw_168 tw_489 tw_1 tw_169) rfl rfl rfl (by decide +kernel) ⟨Nat.le_of_ble_eq_true rfl, Nat.le_of_ble_eq_true rfl⟩) (hv_preV (ci := 3) hK hT.1 (cs_kX hS) (by decide) rfl rfl) rfl rfl hl.1 rfl (lv_room (Nat.le_of_ble_eq_true rfl)) dX3_runOut_120 ⟨by show 0 + 0 + 0 + 0 + 0 + 0 + 0 ≤ 16; omega, by show 0 + 0 + 0 + 0 + 0 + 0 + 0 ≤ 128; omega⟩) hT (fun v35 H locs hp36 hT => ?_)
            have hI := hp36
            have hS := hI.1.1
            exact hret _ v35 _ _ _ _ _ dX3_runOut_123 hT ⟨_, _, _, hI, pr_rest hP hi pc_D_off rfl (va_up_self ..) rfl⟩ (by show 0 + 0 + 0 + 0 + 0 + 0 + 0 ≤ 16; omega) (by show 0 + 0 + 0 + 0 + 0 + 0 + 0 ≤ 128; omega)
          · skip
            refine lv_aload_n hx hb dX3_runOut_98 rfl (lv_at hl 1 rfl) ?_
            refine lv_iload_n hx hb dX3_runOut_99 rfl (lv_at hl 2 rfl) ?_
            refine lv_iconst (v := 3) hx hb dX3_runOut_100 (by decide) ?_
            refine hv_callv (va_runV (As := [.int (nI i), .int 3]) (rest := []) ⟨hx, hb, hml, hown, hts⟩ (c_lead3 l D tc hI hi hh hP pc_off.rf rfl rfl ((hP.2.1 i hi).2.2.2.2.2.2.2.2.2.2.2.2.2.1 hD3).1) (cwV 2 hts (tw_V tw_174 tw_175 tw_490 tw_1 tw_176) rfl rfl rfl (by decide +kernel) ⟨Nat.le_of_ble_eq_true rfl, Nat.le_of_ble_eq_true rfl⟩) (hv_preV (ci := 3) hK hT.1 (cs_kX hS) (by decide) rfl rfl) rfl rfl hl.1 rfl (lv_room (Nat.le_of_ble_eq_true rfl)) dX3_runOut_101 ⟨by show 0 + 0 + 0 + 0 + 0 + 0 + 16 ≤ 16; omega, by show 0 + 0 + 0 + 0 + 0 + 0 + 128 ≤ 128; omega⟩) hT (fun v37 H locs hp38 hT => ?_)
            obtain ⟨_, _, _, hI, hP3⟩ := hp38
            have hS := hI.1.1
            refine lv_goto (tgt := 123) hx hb dX3_runOut_104 (by decide) ?_
            exact hret _ v37 _ _ _ _ _ dX3_runOut_123 hT ⟨_, _, _, hI, hP3⟩ (by show 0 + 0 + 0 + 0 + 0 + 0 + 16 ≤ 16; omega) (by show 0 + 0 + 0 + 0 + 0 + 0 + 128 ≤ 128; omega)
        · skip
          refine lv_aload_n hx hb dX3_runOut_69 rfl (lv_at hl 1 rfl) ?_
          refine lv_iload_n hx hb dX3_runOut_70 rfl (lv_at hl 2 rfl) ?_
          refine lv_iconst (v := 2) hx hb dX3_runOut_71 (by decide) ?_
          refine hv_callv (va_runV (As := [.int (nI i), .int 2]) (rest := []) ⟨hx, hb, hml, hown, hts⟩ (c_lead2 l D tc hI hi hh hP pc_off.rf rfl rfl ((hP.2.1 i hi).2.2.2.2.2.2.2.2.2.2.2.2.2.1 hD3).1 hc) (cwV 2 hts (tw_V tw_174 tw_175 tw_490 tw_1 tw_176) rfl rfl rfl (by decide +kernel) ⟨Nat.le_of_ble_eq_true rfl, Nat.le_of_ble_eq_true rfl⟩) (hv_preV (ci := 3) hK hT.1 (cs_kX hS) (by decide) rfl rfl) rfl rfl hl.1 rfl (lv_room (Nat.le_of_ble_eq_true rfl)) dX3_runOut_72 ⟨by show 0 + 0 + 0 + 0 + 16 ≤ 16; omega, by show 0 + 0 + 0 + 0 + 128 ≤ 128; omega⟩) hT (fun v39 H locs hp40 hT => ?_)
          obtain ⟨_, _, _, hI, hP3⟩ := hp40
          have hS := hI.1.1
          refine lv_goto (tgt := 123) hx hb dX3_runOut_75 (by decide) ?_
          exact hret _ v39 _ _ _ _ _ dX3_runOut_123 hT ⟨_, _, _, hI, hP3⟩ (by show 0 + 0 + 0 + 0 + 16 ≤ 16; omega) (by show 0 + 0 + 0 + 0 + 128 ≤ 128; omega)
    · skip
      refine lv_aload_n hx hb dX3_runOut_32 rfl (lv_at hl 1 rfl) ?_
      refine lv_iload_n hx hb dX3_runOut_33 rfl (lv_at hl 2 rfl) ?_
      refine hv_callv (va_runV (As := [.int (nI i)]) (rest := []) ⟨hx, hb, hml, hown, hts⟩ (c_attempt l D tc hI0 hi hh hP h9) (cwV 1 hts (tw_V tw_194 tw_195 tw_493 tw_1 tw_196) rfl rfl rfl (by decide +kernel) ⟨Nat.le_of_ble_eq_true rfl, Nat.le_of_ble_eq_true rfl⟩) (hv_preV (ci := 3) hK hT.1 (cs_kX hS) (by decide) rfl rfl) rfl rfl hl.1 rfl (lv_room (Nat.le_of_ble_eq_true rfl)) dX3_runOut_34 ⟨by show 0 + 8 ≤ 16; omega, by show 0 + 64 ≤ 128; omega⟩) hT (fun v41 H locs hp42 hT => ?_)
      obtain ⟨_, _, hI, hP3⟩ := hp42
      have hS := hI.1.1
      refine lv_goto (tgt := 123) hx hb dX3_runOut_37 (by decide) ?_
      exact hret _ v41 _ _ _ _ _ dX3_runOut_123 hT ⟨_, _, _, hI, hP3⟩ (by show 0 + 8 ≤ 16; omega) (by show 0 + 64 ≤ 128; omega)
  · skip
    have hD1 : C.D i = 1 := nI_lit (k := 1) (by first | exact c12 | exact Classical.not_not.mp c12)
    refine lv_aload_n hx hb dX3_runOut_15 rfl (lv_at hl 1 rfl) ?_
    refine lv_iload_n hx hb dX3_runOut_16 rfl (lv_at hl 2 rfl) ?_
    refine lv_iconst (v := 5) hx hb dX3_runOut_17 (by decide) ?_
    have hI := cj_le (pg_f_off (i := i)).1 (Nat.le_refl _) (cj_am9 hI) hI
    refine hv_callv (va_runV (As := [.int (nI i), .int 5]) (rest := []) ⟨hx, hb, hml, hown, hts⟩ (c_decide l D tc hI hi hh 5 (s1 := 5) rfl (Or.inr ⟨rfl, (Or.inl ⟨i, hi, va_up_self ..⟩)⟩)) (cwV 2 hts (tw_V tw_180 tw_181 tw_492 tw_1 tw_182) rfl rfl rfl (by decide +kernel) ⟨Nat.le_of_ble_eq_true rfl, Nat.le_of_ble_eq_true rfl⟩) (hv_preV (ci := 3) hK hT.1 (cs_kX hS) (by decide) rfl rfl) rfl rfl hl.1 rfl (lv_room (Nat.le_of_ble_eq_true rfl)) dX3_runOut_18 ⟨by show 0 + 8 ≤ 16; omega, by show 0 + 64 ≤ 128; omega⟩) hT (fun v43 H locs hp44 hT => ?_)
    obtain ⟨_, hI⟩ := hp44
    have hS := hI.1.1
    refine lv_goto (tgt := 123) hx hb dX3_runOut_21 (by decide) ?_
    exact hret _ v43 _ _ _ _ _ dX3_runOut_123 hT ⟨_, _, _, hI, pr_vote5 hP hi (pc_S_off.tr pc_D_off) hD1 (va_up_self ..) (va_up_self ..) rfl⟩ (by show 0 + 8 ≤ 16; omega) (by show 0 + 64 ≤ 128; omega)
