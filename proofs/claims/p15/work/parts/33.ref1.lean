theorem rf_c4 {s s1 g f : Nat} (h : s1 < 4) : rf_c s g f ≤ rf_c s1 g f := by unfold rf_c; rw [if_pos h]; split <;> omega
theorem cs_ex {i n : Nat} (hi : i ≤ n) (hn : n < 60000) (h : nI n ≤ nI i) : i = n := by
  have := (nI_leI (a := n) (b := i) (by omega) (by omega)).mp h
  omega
def rf_cnt (i j : Nat) : Nat := if i < j then j - 1 else j
theorem rf_w89 (k : Nat) : rf_wt k = 8 ∨ rf_wt k = 9 := by unfold rf_wt; split <;> simp
theorem rf_cnt0 {B w i j : Nat} (h : nI j = nI i) (hi : i < 8) (hj : j < 8) : B + w * rf_cnt i j ≤ B + w * rf_cnt i (j + 1) := by
  have e := nI_lit h
  subst e
  have : rf_cnt j (j + 1) = rf_cnt j j := by unfold rf_cnt; rw [if_pos (by omega), if_neg (by omega)]; omega
  rw [this]; exact Nat.le_refl _
theorem rf_cnt1 {B w i j : Nat} (h : ¬ nI j = nI i) : B + w * rf_cnt i j + w ≤ B + w * rf_cnt i (j + 1) := by
  have e := nI_nlit h
  have : rf_cnt i (j + 1) = rf_cnt i j + 1 := by unfold rf_cnt; split <;> split <;> omega
  rw [this, Nat.mul_succ]; omega
theorem rf_cnt7 {i n : Nat} (hi : i < n) (hn : n ≤ 8) (w : Nat) : w * rf_cnt i n ≤ 7 * w := by
  have : rf_cnt i n ≤ 7 := by unfold rf_cnt; rw [if_pos hi]; omega
  rw [Nat.mul_comm]; exact Nat.mul_le_mul_right _ this
theorem rf_cntE {B i j n w : Nat} (hi : i < n) (hn : n ≤ 8) (hj : j ≤ n) (h : nI n ≤ nI j) : B + w * rf_cnt i j ≤ B + 7 * w := by
  have h1 := (nI_leI (a := n) (b := j) (by omega) (by omega)).mp h
  have e : j = n := by omega
  have := rf_cnt7 hi hn w
  rw [e]; omega
theorem rf_cntL {i j : Nat} (hi : i ≤ 8) (w : Nat) (hj : j ≤ 8) : w * rf_cnt i j ≤ 8 * w := by
  have : rf_cnt i j ≤ 8 := by unfold rf_cnt; split <;> omega
  rw [Nat.mul_comm]; exact Nat.mul_le_mul_right _ this

set_option maxHeartbeats 4000000 in
set_option maxRecDepth 100000 in
theorem m_isSite (l : Launch) (D : va_G) (tc : Nat → ClassId) {ra gh : Nat → Nat} {n b B t nm : Nat} {st dg F kd : Nat → Nat} {v : hv_V} (hI : rf_J ra gh n b B t nm st dg F kd v) (x : Int32) : Met l yX4_isSite (Cond.code yX4_isSite cX4_isSite 2 (some .boolean) :: lw_B) ({ frames := 0, cells := 0, slots := 0, locals := 0 }) (va_Pc [.ref (ra 0), .int x] (hv_Pre D tc v)) (va_Qi (fun (r : Int32) (v1 : hv_V) => v1 = v ∧ ((r = 1 ∧ ∃ i, i < n ∧ x = nI i) ∨ (r = 0 ∧ ¬ ∃ i, i < n ∧ x = nI i))) (hv_Post D tc (hv_A v)) (hv_A v)) (0) (0) (hv_A v) := by
  refine hv_meti l (by decide) (Nat.le_of_ble_eq_true rfl) ?_
  intro p e s m args below meth c Q X hret hK hz H locs ls hT hl
  obtain ⟨hx, hb, hml, hts, hown, hin0⟩ := X
  have hown : s.vm.findClass "CommitSitesModel" = some m.cls := hown
  have hl : lv_has ls 2 [(0, .ref (ra 0)), (1, .int x)] := hl
  have hS := hI.1
  have hI0 := hI
  have hn8 := rf_n8 hI
  refine lv_iload_n hx hb dX4_isSite_0 rfl (lv_at hl 1 rfl) ?_
  refine lv_if_lt (tgt := 16) hx hb dX4_isSite_1 (by decide) (fun c1 => ?_) (fun c1 => ?_)
  · skip
    refine lv_iconst (v := 0) hx hb dX4_isSite_16 (by decide) ?_
    exact hret _ 0 v _ _ _ _ _ dX4_isSite_17 rfl hT ⟨rfl, Or.inr ⟨rfl, cs_is0 (Or.inl c1)⟩⟩ (by decide) (by decide)
  · skip
    refine lv_iload_n hx hb dX4_isSite_4 rfl (lv_at hl 1 rfl) ?_
    refine lv_aload_n hx hb dX4_isSite_5 rfl (lv_at hl 0 rfl) ?_
    refine hv_geti (ci := 4) (C := RX4) (T := TX4) (N := 34) hx hb hts (tw_cs in_X4) hown hK hT (rs_k0 hS) (by decide) rfl 1 (by decide) (hts _ (tw_c tw_313)) rfl dX4_isSite_6 ?_
    refine lv_topi (fun g1 eg1 => ?_)
    have eg1 : g1 = (nI n) := by rw [eg1]; exact rf_hn hI
    subst eg1
    refine lv_icmp_ge (tgt := 16) hx hb dX4_isSite_9 (by decide) (fun c9 => ?_) (fun c9 => ?_)
    · skip
      refine lv_iconst (v := 0) hx hb dX4_isSite_16 (by decide) ?_
      exact hret _ 0 v _ _ _ _ _ dX4_isSite_17 rfl hT ⟨rfl, Or.inr ⟨rfl, cs_is0 (Or.inr c9)⟩⟩ (by decide) (by decide)
    · skip
      refine lv_iconst (v := 1) hx hb dX4_isSite_12 (by decide) ?_
      refine lv_goto (tgt := 17) hx hb dX4_isSite_13 (by decide) ?_
      exact hret _ 1 v _ _ _ _ _ dX4_isSite_17 rfl hT ⟨rfl, Or.inl ⟨rfl, cs_is1 c1 c9⟩⟩ (by decide) (by decide)

def gh_V (gh : Nat → Nat) (n : Nat) : Nat := ci_sum (fun k => gh (1000 + k)) n
set_option maxHeartbeats 4000000 in
set_option maxRecDepth 100000 in
theorem m_all (l : Launch) (D : va_G) (tc : Nat → ClassId) {ra gh : Nat → Nat} {n b B t nm : Nat} {st dg F kd : Nat → Nat} {v : hv_V} (hI : rf_J ra gh n b B t nm st dg F kd v) : Met l yX4_all (Cond.code yX4_all cX4_all 3 (some .int) :: lw_B) ({ frames := 0, cells := 0, slots := 0, locals := 0 }) (va_Pc [.ref (ra 0)] (hv_Pre D tc v)) (va_Qi (fun (r : Int32) (v1 : hv_V) => v1 = v ∧ r = nI (gh_V gh n)) (hv_Post D tc (hv_A v)) (hv_A v)) (0) (0) (hv_A v) := by
  refine hv_meti l (by decide) (Nat.le_of_ble_eq_true rfl) ?_
  intro p e s m args below meth c Q X hret hK hz H locs ls hT hl
  obtain ⟨hx, hb, hml, hts, hown, hin0⟩ := X
  have hown : s.vm.findClass "CommitSitesModel" = some m.cls := hown
  have hl : lv_has ls 3 [(0, .ref (ra 0))] := hl
  have hS := hI.1
  have hI0 := hI
  refine lv_iconst (v := 0) hx hb dX4_all_0 (by decide) ?_
  refine hv_as (x := 0) (y := (nI 0)) nI_0.symm ?_
  refine lv_istore_n (lv' := [(1, _), (0, _)]) hx hb dX4_all_1 rfl hl (by decide) rfl (fun ls hl => ?_)
  refine lv_iconst (v := 0) hx hb dX4_all_2 (by decide) ?_
  refine hv_as (x := 0) (y := (nI 0)) nI_0.symm ?_
  refine lv_istore_n (lv' := [(2, _), (1, _), (0, _)]) hx hb dX4_all_3 rfl hl (by decide) rfl (fun ls hl => ?_)
  have hL4 : ∀ (N9 : Nat) (i : Nat) (H : Heap) (locs : List Loc) (ls : Array Slot), i ≤ n → n < i + N9 → hv_St (hv_A v) s D tc v H locs → lv_has ls 3 [(0, .ref (ra 0)), (1, .int (nI (gh_V gh i))), (2, .int (nI i))] → W p l e ({ frames := 0, cells := 0, slots := 0, locals := 0 } : Room) s m args below meth c H locs (0) (0) Q (F0 m 4 ls []) := by
    intro N9
    induction N9 with
    | zero =>
      intro i H locs ls hlei hNi hT hl
      exfalso
      omega
    | succ N9 ih4 =>
      intro i H locs ls hlei hNi hT hl
      refine lv_iload_n hx hb dX4_all_4 rfl (lv_at hl 2 rfl) ?_
      refine lv_aload_n hx hb dX4_all_5 rfl (lv_at hl 0 rfl) ?_
      refine hv_geti (ci := 4) (C := RX4) (T := TX4) (N := 34) hx hb hts (tw_cs in_X4) hown hK hT (rs_k0 hS) (by decide) rfl 1 (by decide) (hts _ (tw_c tw_313)) rfl dX4_all_6 ?_
      refine lv_topi (fun g1 eg1 => ?_)
      have eg1 : g1 = (nI n) := by rw [eg1]; exact rf_hn hI
      subst eg1
      refine lv_icmp_ge (tgt := 27) hx hb dX4_all_9 (by decide) (fun c9 => ?_) (fun c9 => ?_)
      · skip
        refine lv_iload_n hx hb dX4_all_27 rfl (lv_at hl 1 rfl) ?_
        exact hret _ (nI (gh_V gh i)) v _ _ _ _ _ dX4_all_28 rfl hT ⟨rfl, by rw [← cs_ex hlei (by have := rf_n8 hI0; omega) c9]⟩ (by decide) (by decide)
      · skip
        have hlti : i < n := cs_lp hlei (rf_n8 hI0) c9
        refine lv_iload_n hx hb dX4_all_12 rfl (lv_at hl 1 rfl) ?_
        refine lv_aload_n hx hb dX4_all_13 rfl (lv_at hl 0 rfl) ?_
        refine hv_gets (ci := 4) (C := RX4) (T := TX4) (N := 34) hx hb hts (tw_cs in_X4) hown hK hT (rs_k0 hS) (by decide) rfl 2 (by decide) (hts _ (tw_c tw_314)) rfl (x := (ra 2)) (rs_p2 hS) dX4_all_14 ?_
        refine lv_iload_n hx hb dX4_all_17 rfl (lv_at hl 2 rfl) ?_
        refine hv_iald hx hb hK hT (rs_k2 hS) (cs_in8 (rf_lt8 hI0 hlti)) dX4_all_18 ?_
        refine lv_topi (fun g2 eg2 => ?_)
        have eg2 : g2 = (nI (gh (1000 + i))) := by rw [eg2, cs_cl (rf_lt8 hI0 hlti)]; exact (hI0.2.2.2.1.1 i (rf_lt8 hI0 hlti)).2
        subst eg2
        refine lv_iadd hx hb dX4_all_19 ?_
        refine hv_as (x := ((nI (gh_V gh i)) + (nI (gh (1000 + i))))) (y := (nI ((gh_V gh i) + (gh (1000 + i))))) (nI_add _ _) ?_
        refine lv_istore_n (lv' := [(1, _), (0, _), (2, _)]) hx hb dX4_all_20 rfl hl (by decide) rfl (fun ls hl => ?_)
        refine lv_iinc (v := (nI (i + 1))) (lv' := [(2, _), (1, _), (0, _)]) hx hb dX4_all_21 hl (k := 2) rfl (nI_1 _) (by decide) rfl (fun ls hl => ?_)
        refine lv_goto (tgt := 4) hx hb dX4_all_24 (by decide) ?_
        exact ih4 (i + 1) H locs ls (by omega) (by omega) hT (lv_sub hl [2, 1, 0] rfl)
  exact hL4 (n + 1) 0 H locs ls (Nat.zero_le _) (by omega) hT (lv_sub hl [2, 1, 0] rfl)

set_option maxHeartbeats 4000000 in
set_option maxRecDepth 100000 in
theorem m_tell (l : Launch) (D : va_G) (tc : Nat → ClassId) {ra gh : Nat → Nat} {n b B t nm : Nat} {st dg F kd : Nat → Nat} {v : hv_V} (hI : rf_J ra gh n b B t nm st dg F kd v) (x1 x2 x3 x4 x5 : Int32) : Met l yX4_tell (Cond.code yX4_tell cX4_tell 6 none :: lw_B) ({ frames := 0, cells := 0, slots := 0, locals := 0 }) (va_Pc [.ref (ra 0), .int x1, .int x2, .int x3, .int x4, .int x5] (hv_Pre D tc v)) (va_Qv (fun (v1 : hv_V) => (∀ e, hv_a v1 (ra 21) e = hv_a v (ra 21) e) ∧ rf_J ra gh n b B t nm st dg F kd v1) (hv_Post D tc (hv_A v)) (hv_A v)) (0) (0) (hv_A v) := by
  refine hv_metv l (by decide) (Nat.le_of_ble_eq_true rfl) ?_
  intro p e s m args below meth c Q X hret hK hz H locs ls hT hl
  obtain ⟨hx, hb, hml, hts, hown, hin0⟩ := X
  have hown : s.vm.findClass "CommitSitesModel" = some m.cls := hown
  have hl : lv_has ls 6 [(0, .ref (ra 0)), (1, .int x1), (2, .int x2), (3, .int x3), (4, .int x4), (5, .int x5)] := hl
  have hS := hI.1
  have hI0 := hI
  refine lv_aload_n hx hb dX4_tell_0 rfl (lv_at hl 0 rfl) ?_
  refine hv_gets (ci := 4) (C := RX4) (T := TX4) (N := 34) hx hb hts (tw_cs in_X4) hown hK hT (rs_k0 hS) (by decide) rfl 31 (by decide) (hts _ (tw_c tw_343)) rfl (x := (ra 31)) (rs_p31 hS) dX4_tell_1 ?_
  refine lv_iconst (v := 0) hx hb dX4_tell_4 (by decide) ?_
  refine lv_iload_n hx hb dX4_tell_5 rfl (lv_at hl 1 rfl) ?_
  refine hv_iast (x := x1) hx hb hK hT (rs_k31 hS) (by unfold vp_in; decide) dX4_tell_6 (fun H locs hT => ?_)
  have hI := rf_puta (k := 31) (j := (0 : Int32).toNatClampNeg) (x := x1) rfl hI
  have hS := hI.1
  refine lv_aload_n hx hb dX4_tell_7 rfl (lv_at hl 0 rfl) ?_
  refine hv_gets (ci := 4) (C := RX4) (T := TX4) (N := 34) hx hb hts (tw_cs in_X4) hown hK hT (rs_k0 hS) (by decide) rfl 31 (by decide) (hts _ (tw_c tw_343)) rfl (x := (ra 31)) (rs_p31 hS) dX4_tell_8 ?_
  refine lv_iconst (v := 1) hx hb dX4_tell_11 (by decide) ?_
  refine lv_iload_n hx hb dX4_tell_12 rfl (lv_at hl 2 rfl) ?_
  refine hv_iast (x := x2) hx hb hK hT (rs_k31 hS) (by unfold vp_in; decide) dX4_tell_13 (fun H locs hT => ?_)
  have hI := rf_puta (k := 31) (j := (1 : Int32).toNatClampNeg) (x := x2) rfl hI
  have hS := hI.1
  refine lv_aload_n hx hb dX4_tell_14 rfl (lv_at hl 0 rfl) ?_
  refine hv_gets (ci := 4) (C := RX4) (T := TX4) (N := 34) hx hb hts (tw_cs in_X4) hown hK hT (rs_k0 hS) (by decide) rfl 31 (by decide) (hts _ (tw_c tw_343)) rfl (x := (ra 31)) (rs_p31 hS) dX4_tell_15 ?_
  refine lv_iconst (v := 2) hx hb dX4_tell_18 (by decide) ?_
  refine lv_iload_n hx hb dX4_tell_19 rfl (lv_at hl 3 rfl) ?_
  refine hv_iast (x := x3) hx hb hK hT (rs_k31 hS) (by unfold vp_in; decide) dX4_tell_20 (fun H locs hT => ?_)
  have hI := rf_puta (k := 31) (j := (2 : Int32).toNatClampNeg) (x := x3) rfl hI
  have hS := hI.1
  refine lv_aload_n hx hb dX4_tell_21 rfl (lv_at hl 0 rfl) ?_
  refine hv_gets (ci := 4) (C := RX4) (T := TX4) (N := 34) hx hb hts (tw_cs in_X4) hown hK hT (rs_k0 hS) (by decide) rfl 31 (by decide) (hts _ (tw_c tw_343)) rfl (x := (ra 31)) (rs_p31 hS) dX4_tell_22 ?_
  refine lv_iconst (v := 3) hx hb dX4_tell_25 (by decide) ?_
  refine lv_iload hx hb dX4_tell_26 (lv_at hl 4 rfl) ?_
  refine hv_iast (x := x4) hx hb hK hT (rs_k31 hS) (by unfold vp_in; decide) dX4_tell_28 (fun H locs hT => ?_)
  have hI := rf_puta (k := 31) (j := (3 : Int32).toNatClampNeg) (x := x4) rfl hI
  have hS := hI.1
  refine lv_aload_n hx hb dX4_tell_29 rfl (lv_at hl 0 rfl) ?_
  refine hv_gets (ci := 4) (C := RX4) (T := TX4) (N := 34) hx hb hts (tw_cs in_X4) hown hK hT (rs_k0 hS) (by decide) rfl 31 (by decide) (hts _ (tw_c tw_343)) rfl (x := (ra 31)) (rs_p31 hS) dX4_tell_30 ?_
  refine lv_iconst (v := 4) hx hb dX4_tell_33 (by decide) ?_
  refine lv_iload hx hb dX4_tell_34 (lv_at hl 5 rfl) ?_
  refine hv_iast (x := x5) hx hb hK hT (rs_k31 hS) (by unfold vp_in; decide) dX4_tell_36 (fun H locs hT => ?_)
  have hI := rf_puta (k := 31) (j := (4 : Int32).toNatClampNeg) (x := x5) rfl hI
  have hS := hI.1
  exact hret _ (hv_sa (hv_sa (hv_sa (hv_sa (hv_sa v (ra 31) (0 : Int32).toNatClampNeg x1) (ra 31) (1 : Int32).toNatClampNeg x2) (ra 31) (2 : Int32).toNatClampNeg x3) (ra 31) (3 : Int32).toNatClampNeg x4) (ra 31) (4 : Int32).toNatClampNeg x5) _ _ _ _ _ dX4_tell_37 hT ⟨fun e => by simp [hv_sa_a, rs_nn hI0.1 21 31 rfl], hI⟩ (by decide) (by decide)

set_option maxHeartbeats 4000000 in
set_option maxRecDepth 100000 in
theorem m_setTimer (l : Launch) (D : va_G) (tc : Nat → ClassId) {ra gh : Nat → Nat} {n B t nm : Nat} {st dg F kd : Nat → Nat} {v : hv_V} (hI : rf_J ra gh n 1 B t nm st dg F kd v) {i : Nat} (hi : i < n) {q : Nat} (hq5 : 5 ≤ q) (hq : q ≤ 1000) (hst : st i < 4) : Met l yX4_setTimer (Cond.code yX4_setTimer cX4_setTimer 3 none :: lw_B) ({ frames := 0, cells := 0, slots := 0, locals := 0 }) (va_Pc [.ref (ra 0), .int (nI i), .int (nI q)] (hv_Pre D tc v)) (va_Qv (fun (v1 : hv_V) => rf_J ra gh n 1 B t nm st dg F kd v1) (hv_Post D tc (hv_A v)) (hv_A v)) (0) (0) (hv_A v) := by
  refine hv_metv l (by decide) (Nat.le_of_ble_eq_true rfl) ?_
  intro p e s m args below meth c Q X hret hK hz H locs ls hT hl
  obtain ⟨hx, hb, hml, hts, hown, hin0⟩ := X
  have hown : s.vm.findClass "CommitSitesModel" = some m.cls := hown
  have hl : lv_has ls 3 [(0, .ref (ra 0)), (1, .int (nI i)), (2, .int (nI q))] := hl
  have hS := hI.1
  have hI0 := hI
  have ht4 := rf_t4 hI
  refine lv_aload_n hx hb dX4_setTimer_0 rfl (lv_at hl 0 rfl) ?_
  refine hv_gets (ci := 4) (C := RX4) (T := TX4) (N := 34) hx hb hts (tw_cs in_X4) hown hK hT (rs_k0 hS) (by decide) rfl 21 (by decide) (hts _ (tw_c tw_333)) rfl (x := (ra 21)) (rs_p21 hS) dX4_setTimer_1 ?_
  refine lv_iload_n hx hb dX4_setTimer_4 rfl (lv_at hl 1 rfl) ?_
  refine lv_aload_n hx hb dX4_setTimer_5 rfl (lv_at hl 0 rfl) ?_
  refine hv_geti (ci := 4) (C := RX4) (T := TX4) (N := 34) hx hb hts (tw_cs in_X4) hown hK hT (rs_k0 hS) (by decide) rfl 8 (by decide) (hts _ (tw_c tw_320)) rfl dX4_setTimer_6 ?_
  refine lv_topi (fun g1 eg1 => ?_)
  have eg1 : g1 = (nI t) := by rw [eg1]; exact rf_ht hI
  subst eg1
  refine lv_iload_n hx hb dX4_setTimer_9 rfl (lv_at hl 2 rfl) ?_
  refine lv_iadd hx hb dX4_setTimer_10 ?_
  refine hv_as (x := ((nI t) + (nI q))) (y := (nI (t + q))) (nI_add _ _) ?_
  refine hv_iast (x := (nI (t + q))) hx hb hK hT (rs_k21 hS) (cs_in8 (rf_lt8 hI0 hi)) dX4_setTimer_11 (fun H locs hT => ?_)
  have hI := rf_timer (x := t + q) hI (rf_lt8 hI0 hi) hst (by omega) (by omega) rfl
  have hS := hI.1
  refine lv_aload_n hx hb dX4_setTimer_12 rfl (lv_at hl 0 rfl) ?_
  refine hv_gets (ci := 4) (C := RX4) (T := TX4) (N := 34) hx hb hts (tw_cs in_X4) hown hK hT (rs_k0 hS) (by decide) rfl 22 (by decide) (hts _ (tw_c tw_334)) rfl (x := (ra 22)) (rs_p22 hS) dX4_setTimer_13 ?_
  refine lv_iload_n hx hb dX4_setTimer_16 rfl (lv_at hl 1 rfl) ?_
  refine lv_aload_n hx hb dX4_setTimer_17 rfl (lv_at hl 0 rfl) ?_
  refine hv_geti (ci := 4) (C := RX4) (T := TX4) (N := 34) hx hb hts (tw_cs in_X4) hown hK hT (rs_k0 hS) (by decide) rfl 9 (by decide) (hts _ (tw_c tw_321)) rfl dX4_setTimer_18 ?_
  refine lv_topi (fun g2 eg2 => ?_)
  refine hv_iast (x := g2) hx hb hK hT (rs_k22 hS) (cs_in8 (rf_lt8 hI0 hi)) dX4_setTimer_21 (fun H locs hT => ?_)
  have hI := rf_puta (k := 22) (j := ((nI i) : Int32).toNatClampNeg) (x := g2) rfl hI
  have hS := hI.1
  refine lv_aload_n hx hb dX4_setTimer_22 rfl (lv_at hl 0 rfl) ?_
  refine lv_dup hx hb dX4_setTimer_23 rfl ?_
  refine hv_geti (ci := 4) (C := RX4) (T := TX4) (N := 34) hx hb hts (tw_cs in_X4) hown hK hT (rs_k0 hS) (by decide) rfl 9 (by decide) (hts _ (tw_c tw_321)) rfl dX4_setTimer_24 ?_
  refine lv_topi (fun g3 eg3 => ?_)
  refine lv_iconst (v := 1) hx hb dX4_setTimer_27 (by decide) ?_
  refine lv_iadd hx hb dX4_setTimer_28 ?_
  refine hv_puti (ci := 4) (C := RX4) (T := TX4) (N := 34) hx hb hts (tw_cs in_X4) tyX4 tyX4_ok nmX4 hown hK hT (rs_k0 hS) (by decide) rfl 9 (by decide) (hts _ (tw_c tw_321)) rfl rfl (x := (g3 + 1)) rfl rfl dX4_setTimer_29 (fun H locs hT => ?_)
  have hI := rf_puti (f := 409) (x := (g3 + 1)) rfl hI
  have hS := hI.1
  exact hret _ (hv_si (hv_sa (hv_sa v (ra 21) ((nI i) : Int32).toNatClampNeg (nI (t + q))) (ra 22) ((nI i) : Int32).toNatClampNeg g2) 409 (ra 0) (g3 + 1)) _ _ _ _ _ dX4_setTimer_32 hT hI (by decide) (by decide)

set_option maxHeartbeats 4000000 in
set_option maxRecDepth 100000 in
theorem m_isDecided (l : Launch) (D : va_G) (tc : Nat → ClassId) {ra gh : Nat → Nat} {n b B t nm : Nat} {st dg F kd : Nat → Nat} {v : hv_V} (hI : rf_J ra gh n b B t nm st dg F kd v) {i : Nat} (hi : i < n) : Met l yX4_isDecided (Cond.code yX4_isDecided cX4_isDecided 2 (some .boolean) :: lw_B) ({ frames := 0, cells := 0, slots := 0, locals := 0 }) (va_Pc [.ref (ra 0), .int (nI i)] (hv_Pre D tc v)) (va_Qi (fun (r : Int32) (v1 : hv_V) => v1 = v ∧ ((r = 1 ∧ 4 ≤ st i) ∨ (r = 0 ∧ st i < 4))) (hv_Post D tc (hv_A v)) (hv_A v)) (0) (0) (hv_A v) := by
  refine hv_meti l (by decide) (Nat.le_of_ble_eq_true rfl) ?_
  intro p e s m args below meth c Q X hret hK hz H locs ls hT hl
  obtain ⟨hx, hb, hml, hts, hown, hin0⟩ := X
  have hown : s.vm.findClass "CommitSitesModel" = some m.cls := hown
  have hl : lv_has ls 2 [(0, .ref (ra 0)), (1, .int (nI i))] := hl
  have hS := hI.1
  have hI0 := hI
  have hst5 := rf_st5 hI (rf_lt8 hI hi)
  refine lv_aload_n hx hb dX4_isDecided_0 rfl (lv_at hl 0 rfl) ?_
  refine hv_gets (ci := 4) (C := RX4) (T := TX4) (N := 34) hx hb hts (tw_cs in_X4) hown hK hT (rs_k0 hS) (by decide) rfl 14 (by decide) (hts _ (tw_c tw_326)) rfl (x := (ra 14)) (rs_p14 hS) dX4_isDecided_1 ?_
  refine lv_iload_n hx hb dX4_isDecided_4 rfl (lv_at hl 1 rfl) ?_
  refine hv_iald hx hb hK hT (rs_k14 hS) (cs_in8 (rf_lt8 hI0 hi)) dX4_isDecided_5 ?_
  refine lv_topi (fun g1 eg1 => ?_)
  have eg1 : g1 = nI (st i) := by rw [eg1]; exact rf_gst hI (rf_lt8 hI0 hi)
  subst eg1
  refine lv_iconst (v := 4) hx hb dX4_isDecided_6 (by decide) ?_
  refine lv_icmp_eq (tgt := 20) hx hb dX4_isDecided_7 (by decide) (fun c7 => ?_) (fun c7 => ?_)
  · skip
    refine lv_iconst (v := 1) hx hb dX4_isDecided_20 (by decide) ?_
    refine lv_goto (tgt := 25) hx hb dX4_isDecided_21 (by decide) ?_
    exact hret _ 1 v _ _ _ _ _ dX4_isDecided_25 rfl hT ⟨rfl, Or.inl ⟨rfl, by have := nI_lit (k := 4) c7; omega⟩⟩ (by decide) (by decide)
  · skip
    refine lv_aload_n hx hb dX4_isDecided_10 rfl (lv_at hl 0 rfl) ?_
    refine hv_gets (ci := 4) (C := RX4) (T := TX4) (N := 34) hx hb hts (tw_cs in_X4) hown hK hT (rs_k0 hS) (by decide) rfl 14 (by decide) (hts _ (tw_c tw_326)) rfl (x := (ra 14)) (rs_p14 hS) dX4_isDecided_11 ?_
    refine lv_iload_n hx hb dX4_isDecided_14 rfl (lv_at hl 1 rfl) ?_
    refine hv_iald hx hb hK hT (rs_k14 hS) (cs_in8 (rf_lt8 hI0 hi)) dX4_isDecided_15 ?_
    refine lv_topi (fun g2 eg2 => ?_)
    have eg2 : g2 = nI (st i) := by rw [eg2]; exact rf_gst hI (rf_lt8 hI0 hi)
    subst eg2
    refine lv_iconst (v := 5) hx hb dX4_isDecided_16 (by decide) ?_
    refine lv_icmp_ne (tgt := 24) hx hb dX4_isDecided_17 (by decide) (fun c17 => ?_) (fun c17 => ?_)
    · skip
      refine lv_iconst (v := 0) hx hb dX4_isDecided_24 (by decide) ?_
      exact hret _ 0 v _ _ _ _ _ dX4_isDecided_25 rfl hT ⟨rfl, Or.inr ⟨rfl, by have := nI_nlit (k := 4) c7; have := nI_nlit (k := 5) c17; omega⟩⟩ (by decide) (by decide)
    · skip
      refine lv_iconst (v := 1) hx hb dX4_isDecided_20 (by decide) ?_
      refine lv_goto (tgt := 25) hx hb dX4_isDecided_21 (by decide) ?_
      exact hret _ 1 v _ _ _ _ _ dX4_isDecided_25 rfl hT ⟨rfl, Or.inl ⟨rfl, by have := nI_lit (k := 5) c17; omega⟩⟩ (by decide) (by decide)

set_option maxHeartbeats 4000000 in
set_option maxRecDepth 100000 in
theorem m_send (l : Launch) (D : va_G) (tc : Nat → ClassId) {ra gh : Nat → Nat} {n B t nm : Nat} {st dg F kd : Nat → Nat} {v : hv_V} (hI : rf_J ra gh n 1 B t nm st dg F kd v) {i : Nat} (hi : i < n) {j : Nat} (hj : j < n) (h479 : B < 479800) {κ sv : Nat} (hκ : κ ≤ 10) (x : Int32) (hs : sv ≤ 5) : Met l yX4_send (Cond.code yX4_send cX4_send 7 none :: lw_B) ({ frames := 0, cells := 0, slots := 0, locals := 0 }) (va_Pc [.ref (ra 0), .int (nI κ), .int (nI i), .int (nI j), .int x, .int (nI sv)] (hv_Pre D tc v)) (va_Qv (fun (v1 : hv_V) => ∃ nm1 kd1, (∀ e, hv_a v1 (ra 17) e = hv_a v (ra 17) e) ∧ rf_J ra gh n 1 (B + rf_wt κ) t nm1 st dg F kd1 v1) (hv_Post D tc (hv_A v)) (hv_A v)) (0) (0) (hv_A v) := by
  refine hv_metv l (by decide) (Nat.le_of_ble_eq_true rfl) ?_
  intro p e s m args below meth c Q X hret hK hz H locs ls hT hl
  obtain ⟨hx, hb, hml, hts, hown, hin0⟩ := X
  have hown : s.vm.findClass "CommitSitesModel" = some m.cls := hown
  have hl : lv_has ls 7 [(0, .ref (ra 0)), (1, .int (nI κ)), (2, .int (nI i)), (3, .int (nI j)), (4, .int x), (5, .int (nI sv))] := hl
  have hS := hI.1
  have hI0 := hI
  have ht4 := rf_t4 hI
  have hnm := rf_nm hI
  have hm6 : nm < 60000 := by omega
  have hcl : (nI nm).toNatClampNeg = nm := nI_clamp (by omega)
  refine lv_aload_n hx hb dX4_send_0 rfl (lv_at hl 0 rfl) ?_
  refine lv_dup hx hb dX4_send_1 rfl ?_
  refine hv_geti (ci := 4) (C := RX4) (T := TX4) (N := 34) hx hb hts (tw_cs in_X4) hown hK hT (rs_k0 hS) (by decide) rfl 10 (by decide) (hts _ (tw_c tw_322)) rfl dX4_send_2 ?_
  refine lv_topi (fun g1 eg1 => ?_)
  refine lv_iconst (v := 1) hx hb dX4_send_5 (by decide) ?_
  refine lv_iadd hx hb dX4_send_6 ?_
  refine hv_puti (ci := 4) (C := RX4) (T := TX4) (N := 34) hx hb hts (tw_cs in_X4) tyX4 tyX4_ok nmX4 hown hK hT (rs_k0 hS) (by decide) rfl 10 (by decide) (hts _ (tw_c tw_322)) rfl rfl (x := (g1 + 1)) rfl rfl dX4_send_7 (fun H locs hT => ?_)
  have hI := rf_puti (f := 410) (x := (g1 + 1)) rfl hI
  have hS := hI.1
  refine lv_aload_n hx hb dX4_send_10 rfl (lv_at hl 0 rfl) ?_
  refine hv_gets (ci := 4) (C := RX4) (T := TX4) (N := 34) hx hb hts (tw_cs in_X4) hown hK hT (rs_k0 hS) (by decide) rfl 6 (by decide) (hts _ (tw_c tw_318)) rfl (x := (ra 6)) (rs_p6 hS) dX4_send_11 ?_
  refine lv_bipush (v := 8) hx hb dX4_send_14 (by decide) ?_
  refine lv_iload_n hx hb dX4_send_16 rfl (lv_at hl 2 rfl) ?_
  refine lv_imul hx hb dX4_send_17 ?_
  refine hv_as (x := (8 * (nI i))) (y := (nI (8 * i))) (nI_8 _) ?_
  refine lv_iload_n hx hb dX4_send_18 rfl (lv_at hl 3 rfl) ?_
  refine lv_iadd hx hb dX4_send_19 ?_
  refine hv_as (x := ((nI (8 * i)) + (nI j))) (y := (nI ((8 * i) + j))) (nI_add _ _) ?_
  refine hv_iald hx hb hK hT (rs_k6 hS) (rf_in64 (rf_lt8 hI0 hi) (rf_lt8 hI0 hj)) dX4_send_20 ?_
  refine lv_topi (fun g2 eg2 => ?_)
  obtain ⟨q, hq20, hq⟩ := rf_dl hI (rf_lt8 hI0 hi) (rf_lt8 hI0 hj)
  have eg2 : g2 = (nI q) := by rw [eg2]; exact hq
  subst eg2
  refine lv_istore (lv' := [(6, _), (0, _), (1, _), (2, _), (3, _), (4, _), (5, _)]) hx hb dX4_send_21 hl (by decide) rfl (fun ls hl => ?_)
  refine lv_iload hx hb dX4_send_23 (lv_at hl 0 rfl) ?_
  refine lv_if_ne (tgt := 39) hx hb dX4_send_25 (by decide) (fun c25 => ?_) (fun c25 => ?_)
  · skip
    refine lv_aload_n hx hb dX4_send_39 rfl (lv_at hl 1 rfl) ?_
    refine hv_gets (ci := 4) (C := RX4) (T := TX4) (N := 34) hx hb hts (tw_cs in_X4) hown hK hT (rs_k0 hS) (by decide) rfl 23 (by decide) (hts _ (tw_c tw_335)) rfl (x := (ra 23)) (rs_p23 hS) dX4_send_40 ?_
    refine lv_aload_n hx hb dX4_send_43 rfl (lv_at hl 1 rfl) ?_
    refine hv_geti (ci := 4) (C := RX4) (T := TX4) (N := 34) hx hb hts (tw_cs in_X4) hown hK hT (rs_k0 hS) (by decide) rfl 30 (by decide) (hts _ (tw_c tw_342)) rfl dX4_send_44 ?_
    refine lv_topi (fun g3 eg3 => ?_)
    have eg3 : g3 = (nI nm) := by rw [eg3]; exact rf_hm hI
    subst eg3
    refine lv_iload_n hx hb dX4_send_47 rfl (lv_at hl 2 rfl) ?_
    refine hv_iast (x := (nI κ)) hx hb hK hT (rs_k23 hS) (rf_in6 hm6) dX4_send_48 (fun H locs hT => ?_)
    have hI := rf_putm (k := 23) (j := ((nI nm) : Int32).toNatClampNeg) (x := (nI κ)) (by omega) (by rw [hcl]; exact Nat.le_refl _) hI
    have hS := hI.1
    refine lv_aload_n hx hb dX4_send_49 rfl (lv_at hl 1 rfl) ?_
    refine hv_gets (ci := 4) (C := RX4) (T := TX4) (N := 34) hx hb hts (tw_cs in_X4) hown hK hT (rs_k0 hS) (by decide) rfl 24 (by decide) (hts _ (tw_c tw_336)) rfl (x := (ra 24)) (rs_p24 hS) dX4_send_50 ?_
    refine lv_aload_n hx hb dX4_send_53 rfl (lv_at hl 1 rfl) ?_
    refine hv_geti (ci := 4) (C := RX4) (T := TX4) (N := 34) hx hb hts (tw_cs in_X4) hown hK hT (rs_k0 hS) (by decide) rfl 30 (by decide) (hts _ (tw_c tw_342)) rfl dX4_send_54 ?_
    refine lv_topi (fun g4 eg4 => ?_)
    have eg4 : g4 = (nI nm) := by rw [eg4]; exact rf_hm hI
    subst eg4
    refine lv_iload_n hx hb dX4_send_57 rfl (lv_at hl 3 rfl) ?_
    refine hv_iast (x := (nI i)) hx hb hK hT (rs_k24 hS) (rf_in6 hm6) dX4_send_58 (fun H locs hT => ?_)
    have hI := rf_putm (k := 24) (j := ((nI nm) : Int32).toNatClampNeg) (x := (nI i)) (by omega) (by rw [hcl]; exact Nat.le_refl _) hI
    have hS := hI.1
    refine lv_aload_n hx hb dX4_send_59 rfl (lv_at hl 1 rfl) ?_
    refine hv_gets (ci := 4) (C := RX4) (T := TX4) (N := 34) hx hb hts (tw_cs in_X4) hown hK hT (rs_k0 hS) (by decide) rfl 25 (by decide) (hts _ (tw_c tw_337)) rfl (x := (ra 25)) (rs_p25 hS) dX4_send_60 ?_
    refine lv_aload_n hx hb dX4_send_63 rfl (lv_at hl 1 rfl) ?_
    refine hv_geti (ci := 4) (C := RX4) (T := TX4) (N := 34) hx hb hts (tw_cs in_X4) hown hK hT (rs_k0 hS) (by decide) rfl 30 (by decide) (hts _ (tw_c tw_342)) rfl dX4_send_64 ?_
    refine lv_topi (fun g5 eg5 => ?_)
    have eg5 : g5 = (nI nm) := by rw [eg5]; exact rf_hm hI
    subst eg5
    refine lv_iload_n hx hb dX4_send_67 rfl (lv_at hl 4 rfl) ?_
    refine hv_iast (x := (nI j)) hx hb hK hT (rs_k25 hS) (rf_in6 hm6) dX4_send_68 (fun H locs hT => ?_)
    have hI := rf_putm (k := 25) (j := ((nI nm) : Int32).toNatClampNeg) (x := (nI j)) (by omega) (by rw [hcl]; exact Nat.le_refl _) hI
    have hS := hI.1
    refine lv_aload_n hx hb dX4_send_69 rfl (lv_at hl 1 rfl) ?_
    refine hv_gets (ci := 4) (C := RX4) (T := TX4) (N := 34) hx hb hts (tw_cs in_X4) hown hK hT (rs_k0 hS) (by decide) rfl 26 (by decide) (hts _ (tw_c tw_338)) rfl (x := (ra 26)) (rs_p26 hS) dX4_send_70 ?_
    refine lv_aload_n hx hb dX4_send_73 rfl (lv_at hl 1 rfl) ?_
    refine hv_geti (ci := 4) (C := RX4) (T := TX4) (N := 34) hx hb hts (tw_cs in_X4) hown hK hT (rs_k0 hS) (by decide) rfl 30 (by decide) (hts _ (tw_c tw_342)) rfl dX4_send_74 ?_
    refine lv_topi (fun g6 eg6 => ?_)
    have eg6 : g6 = (nI nm) := by rw [eg6]; exact rf_hm hI
    subst eg6
    refine lv_iload hx hb dX4_send_77 (lv_at hl 5 rfl) ?_
    refine hv_iast (x := x) hx hb hK hT (rs_k26 hS) (rf_in6 hm6) dX4_send_79 (fun H locs hT => ?_)
    have hI := rf_puta (k := 26) (j := ((nI nm) : Int32).toNatClampNeg) (x := x) rfl hI
    have hS := hI.1
    refine lv_aload_n hx hb dX4_send_80 rfl (lv_at hl 1 rfl) ?_
    refine hv_gets (ci := 4) (C := RX4) (T := TX4) (N := 34) hx hb hts (tw_cs in_X4) hown hK hT (rs_k0 hS) (by decide) rfl 27 (by decide) (hts _ (tw_c tw_339)) rfl (x := (ra 27)) (rs_p27 hS) dX4_send_81 ?_
    refine lv_aload_n hx hb dX4_send_84 rfl (lv_at hl 1 rfl) ?_
    refine hv_geti (ci := 4) (C := RX4) (T := TX4) (N := 34) hx hb hts (tw_cs in_X4) hown hK hT (rs_k0 hS) (by decide) rfl 30 (by decide) (hts _ (tw_c tw_342)) rfl dX4_send_85 ?_
    refine lv_topi (fun g7 eg7 => ?_)
    have eg7 : g7 = (nI nm) := by rw [eg7]; exact rf_hm hI
    subst eg7
    refine lv_iload hx hb dX4_send_88 (lv_at hl 6 rfl) ?_
    refine hv_iast (x := (nI sv)) hx hb hK hT (rs_k27 hS) (rf_in6 hm6) dX4_send_90 (fun H locs hT => ?_)
    have hI := rf_putm (k := 27) (j := ((nI nm) : Int32).toNatClampNeg) (x := (nI sv)) (by omega) (by rw [hcl]; exact Nat.le_refl _) hI
    have hS := hI.1
    refine lv_aload_n hx hb dX4_send_91 rfl (lv_at hl 1 rfl) ?_
    refine hv_gets (ci := 4) (C := RX4) (T := TX4) (N := 34) hx hb hts (tw_cs in_X4) hown hK hT (rs_k0 hS) (by decide) rfl 28 (by decide) (hts _ (tw_c tw_340)) rfl (x := (ra 28)) (rs_p28 hS) dX4_send_92 ?_
    refine lv_aload_n hx hb dX4_send_95 rfl (lv_at hl 1 rfl) ?_
    refine hv_geti (ci := 4) (C := RX4) (T := TX4) (N := 34) hx hb hts (tw_cs in_X4) hown hK hT (rs_k0 hS) (by decide) rfl 30 (by decide) (hts _ (tw_c tw_342)) rfl dX4_send_96 ?_
    refine lv_topi (fun g8 eg8 => ?_)
    have eg8 : g8 = (nI nm) := by rw [eg8]; exact rf_hm hI
    subst eg8
    refine lv_aload_n hx hb dX4_send_99 rfl (lv_at hl 1 rfl) ?_
    refine hv_geti (ci := 4) (C := RX4) (T := TX4) (N := 34) hx hb hts (tw_cs in_X4) hown hK hT (rs_k0 hS) (by decide) rfl 8 (by decide) (hts _ (tw_c tw_320)) rfl dX4_send_100 ?_
    refine lv_topi (fun g9 eg9 => ?_)
    have eg9 : g9 = (nI t) := by rw [eg9]; exact rf_ht hI
    subst eg9
    refine lv_iload hx hb dX4_send_103 (lv_at hl 0 rfl) ?_
    refine lv_iadd hx hb dX4_send_105 ?_
    refine hv_as (x := ((nI t) + (nI q))) (y := (nI (t + q))) (nI_add _ _) ?_
    refine hv_iast (x := (nI (t + q))) hx hb hK hT (rs_k28 hS) (rf_in6 hm6) dX4_send_106 (fun H locs hT => ?_)
    have hI := rf_putm (k := 28) (j := ((nI nm) : Int32).toNatClampNeg) (x := (nI (t + q))) (by omega) (by rw [hcl]; exact Nat.le_refl _) hI
    have hS := hI.1
    refine lv_aload_n hx hb dX4_send_107 rfl (lv_at hl 1 rfl) ?_
    refine hv_gets (ci := 4) (C := RX4) (T := TX4) (N := 34) hx hb hts (tw_cs in_X4) hown hK hT (rs_k0 hS) (by decide) rfl 29 (by decide) (hts _ (tw_c tw_341)) rfl (x := (ra 29)) (rs_p29 hS) dX4_send_108 ?_
    refine lv_aload_n hx hb dX4_send_111 rfl (lv_at hl 1 rfl) ?_
    refine hv_geti (ci := 4) (C := RX4) (T := TX4) (N := 34) hx hb hts (tw_cs in_X4) hown hK hT (rs_k0 hS) (by decide) rfl 30 (by decide) (hts _ (tw_c tw_342)) rfl dX4_send_112 ?_
    refine lv_topi (fun g10 eg10 => ?_)
    have eg10 : g10 = (nI nm) := by rw [eg10]; exact rf_hm hI
    subst eg10
    refine lv_aload_n hx hb dX4_send_115 rfl (lv_at hl 1 rfl) ?_
    refine hv_geti (ci := 4) (C := RX4) (T := TX4) (N := 34) hx hb hts (tw_cs in_X4) hown hK hT (rs_k0 hS) (by decide) rfl 9 (by decide) (hts _ (tw_c tw_321)) rfl dX4_send_116 ?_
    refine lv_topi (fun g11 eg11 => ?_)
    refine hv_iast (x := g11) hx hb hK hT (rs_k29 hS) (rf_in6 hm6) dX4_send_119 (fun H locs hT => ?_)
    have hI := rf_puta (k := 29) (j := ((nI nm) : Int32).toNatClampNeg) (x := g11) rfl hI
    have hS := hI.1
    refine lv_aload_n hx hb dX4_send_120 rfl (lv_at hl 1 rfl) ?_
    refine lv_dup hx hb dX4_send_121 rfl ?_
    refine hv_geti (ci := 4) (C := RX4) (T := TX4) (N := 34) hx hb hts (tw_cs in_X4) hown hK hT (rs_k0 hS) (by decide) rfl 9 (by decide) (hts _ (tw_c tw_321)) rfl dX4_send_122 ?_
    refine lv_topi (fun g12 eg12 => ?_)
    refine lv_iconst (v := 1) hx hb dX4_send_125 (by decide) ?_
    refine lv_iadd hx hb dX4_send_126 ?_
    refine hv_puti (ci := 4) (C := RX4) (T := TX4) (N := 34) hx hb hts (tw_cs in_X4) tyX4 tyX4_ok nmX4 hown hK hT (rs_k0 hS) (by decide) rfl 9 (by decide) (hts _ (tw_c tw_321)) rfl rfl (x := (g12 + 1)) rfl rfl dX4_send_127 (fun H locs hT => ?_)
    have hI := rf_puti (f := 409) (x := (g12 + 1)) rfl hI
    have hS := hI.1
    refine lv_aload_n hx hb dX4_send_130 rfl (lv_at hl 1 rfl) ?_
    refine lv_dup hx hb dX4_send_131 rfl ?_
    refine hv_geti (ci := 4) (C := RX4) (T := TX4) (N := 34) hx hb hts (tw_cs in_X4) hown hK hT (rs_k0 hS) (by decide) rfl 30 (by decide) (hts _ (tw_c tw_342)) rfl dX4_send_132 ?_
    refine lv_topi (fun g13 eg13 => ?_)
    have eg13 : g13 = (nI nm) := by rw [eg13]; exact rf_hm hI
    subst eg13
    refine lv_iconst (v := 1) hx hb dX4_send_135 (by decide) ?_
    refine lv_iadd hx hb dX4_send_136 ?_
    refine hv_as (x := ((nI nm) + 1)) (y := (nI (nm + 1))) (nI_1 _) ?_
    refine hv_puti (ci := 4) (C := RX4) (T := TX4) (N := 34) hx hb hts (tw_cs in_X4) tyX4 tyX4_ok nmX4 hown hK hT (rs_k0 hS) (by decide) rfl 30 (by decide) (hts _ (tw_c tw_342)) rfl rfl (x := (nI (nm + 1))) rfl rfl dX4_send_137 (fun H locs hT => ?_)
    have a25 : hv_a (hv_si (hv_sa (hv_sa (hv_sa (hv_sa (hv_sa (hv_sa (hv_sa (hv_si v 410 (ra 0) (g1 + 1)) (ra 23) ((nI nm) : Int32).toNatClampNeg (nI κ)) (ra 24) ((nI nm) : Int32).toNatClampNeg (nI i)) (ra 25) ((nI nm) : Int32).toNatClampNeg (nI j)) (ra 26) ((nI nm) : Int32).toNatClampNeg x) (ra 27) ((nI nm) : Int32).toNatClampNeg (nI sv)) (ra 28) ((nI nm) : Int32).toNatClampNeg (nI (t + q))) (ra 29) ((nI nm) : Int32).toNatClampNeg g11) 409 (ra 0) (g12 + 1)) (ra 25) nm = nI j := by simp [hv_sa_a, hv_si_a, hcl, rs_nn hI0.1 25 23 rfl, rs_nn hI0.1 25 24 rfl, rs_nn hI0.1 25 26 rfl, rs_nn hI0.1 25 27 rfl, rs_nn hI0.1 25 28 rfl, rs_nn hI0.1 25 29 rfl]
    have a24 : hv_a (hv_si (hv_sa (hv_sa (hv_sa (hv_sa (hv_sa (hv_sa (hv_sa (hv_si v 410 (ra 0) (g1 + 1)) (ra 23) ((nI nm) : Int32).toNatClampNeg (nI κ)) (ra 24) ((nI nm) : Int32).toNatClampNeg (nI i)) (ra 25) ((nI nm) : Int32).toNatClampNeg (nI j)) (ra 26) ((nI nm) : Int32).toNatClampNeg x) (ra 27) ((nI nm) : Int32).toNatClampNeg (nI sv)) (ra 28) ((nI nm) : Int32).toNatClampNeg (nI (t + q))) (ra 29) ((nI nm) : Int32).toNatClampNeg g11) 409 (ra 0) (g12 + 1)) (ra 24) nm = nI i := by simp [hv_sa_a, hv_si_a, hcl, rs_nn hI0.1 24 23 rfl, rs_nn hI0.1 24 25 rfl, rs_nn hI0.1 24 26 rfl, rs_nn hI0.1 24 27 rfl, rs_nn hI0.1 24 28 rfl, rs_nn hI0.1 24 29 rfl]
    have a28 : hv_a (hv_si (hv_sa (hv_sa (hv_sa (hv_sa (hv_sa (hv_sa (hv_sa (hv_si v 410 (ra 0) (g1 + 1)) (ra 23) ((nI nm) : Int32).toNatClampNeg (nI κ)) (ra 24) ((nI nm) : Int32).toNatClampNeg (nI i)) (ra 25) ((nI nm) : Int32).toNatClampNeg (nI j)) (ra 26) ((nI nm) : Int32).toNatClampNeg x) (ra 27) ((nI nm) : Int32).toNatClampNeg (nI sv)) (ra 28) ((nI nm) : Int32).toNatClampNeg (nI (t + q))) (ra 29) ((nI nm) : Int32).toNatClampNeg g11) 409 (ra 0) (g12 + 1)) (ra 28) nm = nI (t + q) := by simp [hv_sa_a, hv_si_a, hcl, rs_nn hI0.1 28 23 rfl, rs_nn hI0.1 28 24 rfl, rs_nn hI0.1 28 25 rfl, rs_nn hI0.1 28 26 rfl, rs_nn hI0.1 28 27 rfl, rs_nn hI0.1 28 29 rfl]
    have a27 : hv_a (hv_si (hv_sa (hv_sa (hv_sa (hv_sa (hv_sa (hv_sa (hv_sa (hv_si v 410 (ra 0) (g1 + 1)) (ra 23) ((nI nm) : Int32).toNatClampNeg (nI κ)) (ra 24) ((nI nm) : Int32).toNatClampNeg (nI i)) (ra 25) ((nI nm) : Int32).toNatClampNeg (nI j)) (ra 26) ((nI nm) : Int32).toNatClampNeg x) (ra 27) ((nI nm) : Int32).toNatClampNeg (nI sv)) (ra 28) ((nI nm) : Int32).toNatClampNeg (nI (t + q))) (ra 29) ((nI nm) : Int32).toNatClampNeg g11) 409 (ra 0) (g12 + 1)) (ra 27) nm = nI sv := by simp [hv_sa_a, hv_si_a, hcl, rs_nn hI0.1 27 23 rfl, rs_nn hI0.1 27 24 rfl, rs_nn hI0.1 27 25 rfl, rs_nn hI0.1 27 26 rfl, rs_nn hI0.1 27 28 rfl, rs_nn hI0.1 27 29 rfl]
    have a23 : hv_a (hv_si (hv_sa (hv_sa (hv_sa (hv_sa (hv_sa (hv_sa (hv_sa (hv_si v 410 (ra 0) (g1 + 1)) (ra 23) ((nI nm) : Int32).toNatClampNeg (nI κ)) (ra 24) ((nI nm) : Int32).toNatClampNeg (nI i)) (ra 25) ((nI nm) : Int32).toNatClampNeg (nI j)) (ra 26) ((nI nm) : Int32).toNatClampNeg x) (ra 27) ((nI nm) : Int32).toNatClampNeg (nI sv)) (ra 28) ((nI nm) : Int32).toNatClampNeg (nI (t + q))) (ra 29) ((nI nm) : Int32).toNatClampNeg g11) 409 (ra 0) (g12 + 1)) (ra 23) nm = nI κ := by simp [hv_sa_a, hv_si_a, hcl, rs_nn hI0.1 23 24 rfl, rs_nn hI0.1 23 25 rfl, rs_nn hI0.1 23 26 rfl, rs_nn hI0.1 23 27 rfl, rs_nn hI0.1 23 28 rfl, rs_nn hI0.1 23 29 rfl]
    have hI := rf_push hI a25 hj a24 hi a28 (by omega) (by omega) a27 hs a23 hκ rfl
    have hS := hI.1
    exact hret _ (hv_si (hv_si (hv_sa (hv_sa (hv_sa (hv_sa (hv_sa (hv_sa (hv_sa (hv_si v 410 (ra 0) (g1 + 1)) (ra 23) ((nI nm) : Int32).toNatClampNeg (nI κ)) (ra 24) ((nI nm) : Int32).toNatClampNeg (nI i)) (ra 25) ((nI nm) : Int32).toNatClampNeg (nI j)) (ra 26) ((nI nm) : Int32).toNatClampNeg x) (ra 27) ((nI nm) : Int32).toNatClampNeg (nI sv)) (ra 28) ((nI nm) : Int32).toNatClampNeg (nI (t + q))) (ra 29) ((nI nm) : Int32).toNatClampNeg g11) 409 (ra 0) (g12 + 1)) 430 (ra 0) (nI (nm + 1))) _ _ _ _ _ dX4_send_140 hT ⟨_, _, (fun e => by simp [hv_sa_a, hv_si_a, rs_nn hI0.1 17 23 rfl, rs_nn hI0.1 17 24 rfl, rs_nn hI0.1 17 25 rfl, rs_nn hI0.1 17 26 rfl, rs_nn hI0.1 17 27 rfl, rs_nn hI0.1 17 28 rfl, rs_nn hI0.1 17 29 rfl]), hI⟩ (by decide) (by decide)
  · skip
    refine lv_aload_n hx hb dX4_send_28 rfl (lv_at hl 1 rfl) ?_
    refine lv_dup hx hb dX4_send_29 rfl ?_
    refine hv_geti (ci := 4) (C := RX4) (T := TX4) (N := 34) hx hb hts (tw_cs in_X4) hown hK hT (rs_k0 hS) (by decide) rfl 12 (by decide) (hts _ (tw_c tw_324)) rfl dX4_send_30 ?_
    refine lv_topi (fun g14 eg14 => ?_)
    refine lv_iconst (v := 1) hx hb dX4_send_33 (by decide) ?_
    refine lv_iadd hx hb dX4_send_34 ?_
    refine hv_puti (ci := 4) (C := RX4) (T := TX4) (N := 34) hx hb hts (tw_cs in_X4) tyX4 tyX4_ok nmX4 hown hK hT (rs_k0 hS) (by decide) rfl 12 (by decide) (hts _ (tw_c tw_324)) rfl rfl (x := (g14 + 1)) rfl rfl dX4_send_35 (fun H locs hT => ?_)
    have hI := rf_puti (f := 412) (x := (g14 + 1)) rfl hI
    have hS := hI.1
    exact hret _ (hv_si (hv_si v 410 (ra 0) (g1 + 1)) 412 (ra 0) (g14 + 1)) _ _ _ _ _ dX4_send_38 hT ⟨_, _, (fun e => by simp [hv_sa_a, hv_si_a, rs_nn hI0.1 17 23 rfl, rs_nn hI0.1 17 24 rfl, rs_nn hI0.1 17 25 rfl, rs_nn hI0.1 17 26 rfl, rs_nn hI0.1 17 27 rfl, rs_nn hI0.1 17 28 rfl, rs_nn hI0.1 17 29 rfl]), rf_up (by omega) hI⟩ (by decide) (by decide)

set_option maxHeartbeats 4000000 in
set_option maxRecDepth 100000 in
theorem m_sendAll (l : Launch) (D : va_G) (tc : Nat → ClassId) {ra gh : Nat → Nat} {n B t nm : Nat} {st dg F kd : Nat → Nat} {v : hv_V} (hI : rf_J ra gh n 1 B t nm st dg F kd v) {i : Nat} (hi : i < n) (h479 : B < 479700) {κ : Nat} (hκ : κ ≤ 10) (x : Int32) : Met l yX4_sendAll (Cond.code yX4_sendAll cX4_sendAll 5 none :: lw_B) ({ frames := 1, cells := 0, slots := 0, locals := 26 }) (va_Pc [.ref (ra 0), .int (nI κ), .int (nI i), .int x] (hv_Pre D tc v)) (va_Qv (fun (v1 : hv_V) => ∃ nm1 kd1, rf_J ra gh n 1 (B + 7 * rf_wt κ) t nm1 st dg F kd1 v1) (hv_Post D tc (hv_A v)) (hv_A v)) (0) (0) (hv_A v) := by
  refine hv_metv l (by decide) (Nat.le_of_ble_eq_true rfl) ?_
  intro p e s m args below meth c Q X hret hK hz H locs ls hT hl
  obtain ⟨hx, hb, hml, hts, hown, hin0⟩ := X
  have hown : s.vm.findClass "CommitSitesModel" = some m.cls := hown
  have hl : lv_has ls 5 [(0, .ref (ra 0)), (1, .int (nI κ)), (2, .int (nI i)), (3, .int x)] := hl
  have hS := hI.1
  have hI0 := hI
  refine lv_iconst (v := 0) hx hb dX4_sendAll_0 (by decide) ?_
  refine hv_as (x := 0) (y := (nI 0)) nI_0.symm ?_
  refine lv_istore (lv' := [(4, _), (0, _), (1, _), (2, _), (3, _)]) hx hb dX4_sendAll_1 hl (by decide) rfl (fun ls hl => ?_)
  have hL3 : ∀ (N9 : Nat) (j : Nat) (nmL : Nat) (kdL : Nat → Nat) (vL : hv_V) (H : Heap) (locs : List Loc) (ls : Array Slot), j ≤ n → n < j + N9 → rf_J ra gh n 1 (B + rf_wt κ * rf_cnt i j) t nmL st dg F kdL vL → hv_St (hv_A v) s D tc vL H locs → lv_has ls 5 [(0, .ref (ra 0)), (1, .int (nI κ)), (2, .int (nI i)), (3, .int x), (4, .int (nI j))] → W p l e ({ frames := 1, cells := 0, slots := 0, locals := 26 } : Room) s m args below meth c H locs (0) (0) Q (F0 m 3 ls []) := by
    intro N9
    induction N9 with
    | zero =>
      intro j nmL kdL vL H locs ls hlej hNj hI hT hl
      exfalso
      omega
    | succ N9 ih3 =>
      intro j nmL kdL vL H locs ls hlej hNj hI hT hl
      have hS := hI.1
      refine lv_iload hx hb dX4_sendAll_3 (lv_at hl 4 rfl) ?_
      refine lv_aload_n hx hb dX4_sendAll_5 rfl (lv_at hl 0 rfl) ?_
      refine hv_geti (ci := 4) (C := RX4) (T := TX4) (N := 34) hx hb hts (tw_cs in_X4) hown hK hT (rs_k0 hS) (by decide) rfl 1 (by decide) (hts _ (tw_c tw_313)) rfl dX4_sendAll_6 ?_
      refine lv_topi (fun g1 eg1 => ?_)
      have eg1 : g1 = (nI n) := by rw [eg1]; exact rf_hn hI
      subst eg1
      refine lv_icmp_ge (tgt := 34) hx hb dX4_sendAll_9 (by decide) (fun c9 => ?_) (fun c9 => ?_)
      · skip
        exact hret _ vL _ _ _ _ _ dX4_sendAll_34 hT ⟨_, _, rf_up (rf_cntE hi (rf_n8 hI0) hlej c9) hI⟩ (by decide) (by decide)
      · skip
        have hltj : j < n := cs_lp hlej (rf_n8 hI0) c9
        refine lv_iload hx hb dX4_sendAll_12 (lv_at hl 4 rfl) ?_
        refine lv_iload_n hx hb dX4_sendAll_14 rfl (lv_at hl 2 rfl) ?_
        refine lv_icmp_eq (tgt := 28) hx hb dX4_sendAll_15 (by decide) (fun c15 => ?_) (fun c15 => ?_)
        · skip
          refine lv_iinc (v := (nI (j + 1))) (lv' := [(4, _), (0, _), (1, _), (2, _), (3, _)]) hx hb dX4_sendAll_28 hl (k := 4) rfl (nI_1 _) (by decide) rfl (fun ls hl => ?_)
          refine lv_goto (tgt := 3) hx hb dX4_sendAll_31 (by decide) ?_
          exact ih3 (j + 1) nmL kdL vL H locs ls (by omega) (by omega) (rf_up (rf_cnt0 c15 (rf_lt8 hI0 hi) (rf_lt8 hI0 hltj)) hI) hT (lv_sub hl [1, 2, 3, 4, 0] rfl)
        · skip
          refine lv_aload_n hx hb dX4_sendAll_18 rfl (lv_at hl 0 rfl) ?_
          refine lv_iload_n hx hb dX4_sendAll_19 rfl (lv_at hl 1 rfl) ?_
          refine lv_iload_n hx hb dX4_sendAll_20 rfl (lv_at hl 2 rfl) ?_
          refine lv_iload hx hb dX4_sendAll_21 (lv_at hl 4 rfl) ?_
          refine lv_iload_n hx hb dX4_sendAll_23 rfl (lv_at hl 3 rfl) ?_
          refine lv_iconst (v := 0) hx hb dX4_sendAll_24 (by decide) ?_
          refine hv_callv (va_runV (As := [.int (nI κ), .int (nI i), .int (nI j), .int x, .int 0]) (rest := []) ⟨hx, hb, hml, hown, hts⟩ (m_send l D tc hI hi hltj (by have := rf_cntL (Nat.le_of_lt (rf_lt8 hI0 hi)) (rf_wt κ) (j := j) (by have := rf_lt8 hI0 hltj; omega); have := rf_wt9 κ; omega) hκ x (sv := 0) (by omega)) (cwV 5 hts (tw_V tw_386 tw_387 tw_513 tw_3 tw_388) rfl rfl rfl (by decide +kernel) ⟨Nat.le_of_ble_eq_true rfl, Nat.le_of_ble_eq_true rfl⟩) (hv_preV (ci := 4) hK hT.1 (rs_k0 hS) (by decide) rfl rfl) rfl rfl hl.1 rfl (lv_room (Nat.le_of_ble_eq_true rfl)) dX4_sendAll_25 ⟨Nat.le_of_ble_eq_true rfl, Nat.le_of_ble_eq_true rfl⟩) hT (fun v2 H locs hp3 hT => ?_)
          obtain ⟨nm4, kd5, hx6, hI⟩ := hp3
          have hS := hI.1
          refine lv_iinc (v := (nI (j + 1))) (lv' := [(4, _), (0, _), (1, _), (2, _), (3, _)]) hx hb dX4_sendAll_28 hl (k := 4) rfl (nI_1 _) (by decide) rfl (fun ls hl => ?_)
          refine lv_goto (tgt := 3) hx hb dX4_sendAll_31 (by decide) ?_
          exact ih3 (j + 1) nm4 kd5 v2 H locs ls (by omega) (by omega) (rf_up (rf_cnt1 c15) hI) hT (lv_sub hl [1, 2, 3, 4, 0] rfl)
  exact hL3 (n + 1) 0 nm kd v H locs ls (Nat.zero_le _) (by omega) (rf_up (by omega) hI) hT (lv_sub hl [1, 2, 3, 4, 0] rfl)

set_option maxHeartbeats 4000000 in
set_option maxRecDepth 100000 in
theorem m_become (l : Launch) (D : va_G) (tc : Nat → ClassId) {ra gh : Nat → Nat} {n B t nm : Nat} {st dg F kd : Nat → Nat} {v : hv_V} (hI : rf_J ra gh n 1 B t nm st dg F kd v) {i : Nat} (hi : i < n) {sv : Nat} (hs : sv < 4) (h4 : st i < 4) : Met l yX4_become (Cond.code yX4_become cX4_become 3 none :: lw_B) ({ frames := 0, cells := 0, slots := 0, locals := 0 }) (va_Pc [.ref (ra 0), .int (nI i), .int (nI sv)] (hv_Pre D tc v)) (va_Qv (fun (v1 : hv_V) => ∃ st1, (st1 i = sv ∧ ∀ e, hv_a v1 (ra 17) e = hv_a v (ra 17) e) ∧ rf_J ra gh n 1 B t nm st1 dg F kd v1) (hv_Post D tc (hv_A v)) (hv_A v)) (0) (0) (hv_A v) := by
  refine hv_metv l (by decide) (Nat.le_of_ble_eq_true rfl) ?_
  intro p e s m args below meth c Q X hret hK hz H locs ls hT hl
  obtain ⟨hx, hb, hml, hts, hown, hin0⟩ := X
  have hown : s.vm.findClass "CommitSitesModel" = some m.cls := hown
  have hl : lv_has ls 3 [(0, .ref (ra 0)), (1, .int (nI i)), (2, .int (nI sv))] := hl
  have hS := hI.1
  have hI0 := hI
  refine lv_aload_n hx hb dX4_become_0 rfl (lv_at hl 0 rfl) ?_
  refine hv_gets (ci := 4) (C := RX4) (T := TX4) (N := 34) hx hb hts (tw_cs in_X4) hown hK hT (rs_k0 hS) (by decide) rfl 14 (by decide) (hts _ (tw_c tw_326)) rfl (x := (ra 14)) (rs_p14 hS) dX4_become_1 ?_
  refine lv_iload_n hx hb dX4_become_4 rfl (lv_at hl 1 rfl) ?_
  refine lv_iload_n hx hb dX4_become_5 rfl (lv_at hl 2 rfl) ?_
  refine hv_iast (x := (nI sv)) hx hb hK hT (rs_k14 hS) (cs_in8 (rf_lt8 hI0 hi)) dX4_become_6 (fun H locs hT => ?_)
  obtain ⟨st2, hst2, hI⟩ : ∃ st2 : Nat → Nat, st2 i = sv ∧ rf_J ra gh n 1 B t nm st2 dg F kd (hv_sa v (ra 14) ((nI i) : Int32).toNatClampNeg (nI sv)) := ⟨va_up st i sv, va_up_self .., rf_state hI (rf_lt8 hI0 hi) hs rfl (fun P hP => Nat.le_trans (Nat.add_le_add_left (rf_c4 h4) _) hP)⟩
  have hS := hI.1
  refine lv_aload_n hx hb dX4_become_7 rfl (lv_at hl 0 rfl) ?_
  refine hv_gets (ci := 4) (C := RX4) (T := TX4) (N := 34) hx hb hts (tw_cs in_X4) hown hK hT (rs_k0 hS) (by decide) rfl 15 (by decide) (hts _ (tw_c tw_327)) rfl (x := (ra 15)) (rs_p15 hS) dX4_become_8 ?_
  refine lv_iload_n hx hb dX4_become_11 rfl (lv_at hl 1 rfl) ?_
  refine lv_aload_n hx hb dX4_become_12 rfl (lv_at hl 0 rfl) ?_
  refine hv_geti (ci := 4) (C := RX4) (T := TX4) (N := 34) hx hb hts (tw_cs in_X4) hown hK hT (rs_k0 hS) (by decide) rfl 8 (by decide) (hts _ (tw_c tw_320)) rfl dX4_become_13 ?_
  refine lv_topi (fun g1 eg1 => ?_)
  have eg1 : g1 = (nI t) := by rw [eg1]; exact rf_ht hI
  subst eg1
  refine hv_iast (x := (nI t)) hx hb hK hT (rs_k15 hS) (cs_in8 (rf_lt8 hI0 hi)) dX4_become_16 (fun H locs hT => ?_)
  have hI := rf_puta (k := 15) (j := ((nI i) : Int32).toNatClampNeg) (x := (nI t)) rfl hI
  have hS := hI.1
  refine lv_iload_n hx hb dX4_become_17 rfl (lv_at hl 2 rfl) ?_
  refine lv_iconst (v := 4) hx hb dX4_become_18 (by decide) ?_
  refine lv_icmp_lt (tgt := 36) hx hb dX4_become_19 (by decide) (fun c19 => ?_) (fun c19 => ?_)
  · skip
    exact hret _ (hv_sa (hv_sa v (ra 14) ((nI i) : Int32).toNatClampNeg (nI sv)) (ra 15) ((nI i) : Int32).toNatClampNeg (nI t)) _ _ _ _ _ dX4_become_36 hT ⟨_, ⟨hst2, (fun e => by simp [hv_sa_a, rs_nn hI0.1 17 14 rfl, rs_nn hI0.1 17 15 rfl, rs_nn hI0.1 17 18 rfl, rs_nn hI0.1 17 21 rfl])⟩, hI⟩ (by decide) (by decide)
  · skip
    exact absurd ((nI_ltI (b := 4) (by omega) (by omega)).mpr hs) c19

set_option maxHeartbeats 4000000 in
set_option maxRecDepth 100000 in
theorem m_become4 (l : Launch) (D : va_G) (tc : Nat → ClassId) {ra gh : Nat → Nat} {n B t nm : Nat} {st dg F kd : Nat → Nat} {v : hv_V} (hI : rf_J ra gh n 1 B t nm st dg F kd v) {i : Nat} (hi : i < n) {sv : Nat} (hs4 : 4 ≤ sv) (hs : sv ≤ 5) (h4 : st i < 4) : Met l yX4_become (Cond.code yX4_become cX4_become 3 none :: lw_B) ({ frames := 0, cells := 0, slots := 0, locals := 0 }) (va_Pc [.ref (ra 0), .int (nI i), .int (nI sv)] (hv_Pre D tc v)) (va_Qv (fun (v1 : hv_V) => ∃ st1 dg1, ((st1 i = sv ∧ dg1 i = 0) ∧ ∀ e, hv_a v1 (ra 17) e = hv_a v (ra 17) e) ∧ rf_J ra gh n 1 (B - 56) t nm st1 dg1 F kd v1) (hv_Post D tc (hv_A v)) (hv_A v)) (0) (0) (hv_A v) := by
  refine hv_metv l (by decide) (Nat.le_of_ble_eq_true rfl) ?_
  intro p e s m args below meth c Q X hret hK hz H locs ls hT hl
  obtain ⟨hx, hb, hml, hts, hown, hin0⟩ := X
  have hown : s.vm.findClass "CommitSitesModel" = some m.cls := hown
  have hl : lv_has ls 3 [(0, .ref (ra 0)), (1, .int (nI i)), (2, .int (nI sv))] := hl
  have hS := hI.1
  have hI0 := hI
  refine lv_aload_n hx hb dX4_become_0 rfl (lv_at hl 0 rfl) ?_
  refine hv_gets (ci := 4) (C := RX4) (T := TX4) (N := 34) hx hb hts (tw_cs in_X4) hown hK hT (rs_k0 hS) (by decide) rfl 14 (by decide) (hts _ (tw_c tw_326)) rfl (x := (ra 14)) (rs_p14 hS) dX4_become_1 ?_
  refine lv_iload_n hx hb dX4_become_4 rfl (lv_at hl 1 rfl) ?_
  refine lv_iload_n hx hb dX4_become_5 rfl (lv_at hl 2 rfl) ?_
  refine hv_iast (x := (nI sv)) hx hb hK hT (rs_k14 hS) (cs_in8 (rf_lt8 hI0 hi)) dX4_become_6 (fun H locs hT => ?_)
  refine lv_aload_n hx hb dX4_become_7 rfl (lv_at hl 0 rfl) ?_
  refine hv_gets (ci := 4) (C := RX4) (T := TX4) (N := 34) hx hb hts (tw_cs in_X4) hown hK hT (rs_k0 hS) (by decide) rfl 15 (by decide) (hts _ (tw_c tw_327)) rfl (x := (ra 15)) (rs_p15 hS) dX4_become_8 ?_
  refine lv_iload_n hx hb dX4_become_11 rfl (lv_at hl 1 rfl) ?_
  refine lv_aload_n hx hb dX4_become_12 rfl (lv_at hl 0 rfl) ?_
  refine hv_geti (ci := 4) (C := RX4) (T := TX4) (N := 34) hx hb hts (tw_cs in_X4) hown hK hT (rs_k0 hS) (by decide) rfl 8 (by decide) (hts _ (tw_c tw_320)) rfl dX4_become_13 ?_
  refine lv_topi (fun g1 eg1 => ?_)
  have eg1 : g1 = (nI t) := by rw [eg1]; exact (rf_ht hI0 : hv_i v 408 (ra 0) = nI t)
  subst eg1
  refine hv_iast (x := (nI t)) hx hb hK hT (rs_k15 hS) (cs_in8 (rf_lt8 hI0 hi)) dX4_become_16 (fun H locs hT => ?_)
  refine lv_iload_n hx hb dX4_become_17 rfl (lv_at hl 2 rfl) ?_
  refine lv_iconst (v := 4) hx hb dX4_become_18 (by decide) ?_
  refine lv_icmp_lt (tgt := 36) hx hb dX4_become_19 (by decide) (fun c19 => ?_) (fun c19 => ?_)
  · skip
    exact absurd ((nI_ltI (b := 4) (by omega) (by omega)).mp c19) (by omega)
  · skip
    refine lv_aload_n hx hb dX4_become_22 rfl (lv_at hl 0 rfl) ?_
    refine hv_gets (ci := 4) (C := RX4) (T := TX4) (N := 34) hx hb hts (tw_cs in_X4) hown hK hT (rs_k0 hS) (by decide) rfl 18 (by decide) (hts _ (tw_c tw_330)) rfl (x := (ra 18)) (rs_p18 hS) dX4_become_23 ?_
    refine lv_iload_n hx hb dX4_become_26 rfl (lv_at hl 1 rfl) ?_
    refine lv_iconst (v := 0) hx hb dX4_become_27 (by decide) ?_
    refine hv_iast (x := 0) hx hb hK hT (rs_k18 hS) (cs_in8 (rf_lt8 hI0 hi)) dX4_become_28 (fun H locs hT => ?_)
    refine lv_aload_n hx hb dX4_become_29 rfl (lv_at hl 0 rfl) ?_
    refine hv_gets (ci := 4) (C := RX4) (T := TX4) (N := 34) hx hb hts (tw_cs in_X4) hown hK hT (rs_k0 hS) (by decide) rfl 21 (by decide) (hts _ (tw_c tw_333)) rfl (x := (ra 21)) (rs_p21 hS) dX4_become_30 ?_
    refine lv_iload_n hx hb dX4_become_33 rfl (lv_at hl 1 rfl) ?_
    refine lv_iconst (v := (-1)) hx hb dX4_become_34 (by decide) ?_
    refine hv_iast (x := (-1)) hx hb hK hT (rs_k21 hS) (cs_in8 (rf_lt8 hI0 hi)) dX4_become_35 (fun H locs hT => ?_)
    have hI := rf_ends (x := nI t) hI (rf_lt8 hI0 hi) hs4 hs h4 rfl
    exact hret _ (hv_sa (hv_sa (hv_sa (hv_sa v (ra 14) ((nI i) : Int32).toNatClampNeg (nI sv)) (ra 15) ((nI i) : Int32).toNatClampNeg (nI t)) (ra 18) ((nI i) : Int32).toNatClampNeg 0) (ra 21) ((nI i) : Int32).toNatClampNeg (-1)) _ _ _ _ _ dX4_become_36 hT ⟨_, _, ⟨⟨va_up_self .., va_up_self ..⟩, (fun e => by simp [hv_sa_a, rs_nn hI0.1 17 14 rfl, rs_nn hI0.1 17 15 rfl, rs_nn hI0.1 17 18 rfl, rs_nn hI0.1 17 21 rfl])⟩, hI⟩ (by decide) (by decide)

set_option maxHeartbeats 4000000 in
set_option maxRecDepth 100000 in
theorem m_decide (l : Launch) (D : va_G) (tc : Nat → ClassId) {ra gh : Nat → Nat} {n B t nm : Nat} {st dg F kd : Nat → Nat} {v : hv_V} (hI : rf_J ra gh n 1 B t nm st dg F kd v) {i : Nat} (hi : i < n) (h479 : B < 479700) {sv : Nat} (hs4 : 4 ≤ sv) (hs : sv ≤ 5) (h4 : st i < 4) : Met l yX4_decide (Cond.code yX4_decide cX4_decide 3 none :: lw_B) ({ frames := 2, cells := 0, slots := 0, locals := 50 }) (va_Pc [.ref (ra 0), .int (nI i), .int (nI sv)] (hv_Pre D tc v)) (va_Qv (fun (v1 : hv_V) => ∃ nm1 st1 dg1 kd1, rf_J ra gh n 1 B t nm1 st1 dg1 F kd1 v1) (hv_Post D tc (hv_A v)) (hv_A v)) (0) (0) (hv_A v) := by
  refine hv_metv l (by decide) (Nat.le_of_ble_eq_true rfl) ?_
  intro p e s m args below meth c Q X hret hK hz H locs ls hT hl
  obtain ⟨hx, hb, hml, hts, hown, hin0⟩ := X
  have hown : s.vm.findClass "CommitSitesModel" = some m.cls := hown
  have hl : lv_has ls 3 [(0, .ref (ra 0)), (1, .int (nI i)), (2, .int (nI sv))] := hl
  have hS := hI.1
  have hI0 := hI
  have h56 := rf_56 hI (rf_lt8 hI hi) h4
  refine lv_aload_n hx hb dX4_decide_0 rfl (lv_at hl 0 rfl) ?_
  refine lv_iload_n hx hb dX4_decide_1 rfl (lv_at hl 1 rfl) ?_
  refine lv_iload_n hx hb dX4_decide_2 rfl (lv_at hl 2 rfl) ?_
  refine hv_callv (va_runV (As := [.int (nI i), .int (nI sv)]) (rest := []) ⟨hx, hb, hml, hown, hts⟩ (m_become4 l D tc hI hi hs4 hs h4) (cwV 2 hts (tw_V tw_380 tw_381 tw_511 tw_3 tw_382) rfl rfl rfl (by decide +kernel) ⟨Nat.le_of_ble_eq_true rfl, Nat.le_of_ble_eq_true rfl⟩) (hv_preV (ci := 4) hK hT.1 (rs_k0 hS) (by decide) rfl rfl) rfl rfl hl.1 rfl (lv_room (Nat.le_of_ble_eq_true rfl)) dX4_decide_3 ⟨Nat.le_of_ble_eq_true rfl, Nat.le_of_ble_eq_true rfl⟩) hT (fun v1 H locs hp2 hT => ?_)
  obtain ⟨st3, dg4, hx5, hI⟩ := hp2
  have hS := hI.1
  refine lv_aload_n hx hb dX4_decide_6 rfl (lv_at hl 0 rfl) ?_
  refine lv_iload_n hx hb dX4_decide_7 rfl (lv_at hl 2 rfl) ?_
  refine lv_iconst (v := 4) hx hb dX4_decide_8 (by decide) ?_
  refine lv_icmp_ne (tgt := 17) hx hb dX4_decide_9 (by decide) (fun c9 => ?_) (fun c9 => ?_)
  · skip
    refine lv_bipush (v := 10) hx hb dX4_decide_17 (by decide) ?_
    refine lv_iload_n hx hb dX4_decide_19 rfl (lv_at hl 1 rfl) ?_
    refine lv_iconst (v := 0) hx hb dX4_decide_20 (by decide) ?_
    refine hv_callv (va_runV (As := [.int 10, .int (nI i), .int 0]) (rest := []) ⟨hx, hb, hml, hown, hts⟩ (m_sendAll l D tc hI hi (by omega) (κ := 10) (by omega) 0) (cwV 3 hts (tw_V tw_383 tw_384 tw_512 tw_3 tw_385) rfl rfl rfl (by decide +kernel) ⟨Nat.le_of_ble_eq_true rfl, Nat.le_of_ble_eq_true rfl⟩) (hv_preV (ci := 4) hK hT.1 (rs_k0 hS) (by decide) rfl rfl) rfl rfl hl.1 rfl (lv_room (Nat.le_of_ble_eq_true rfl)) dX4_decide_21 ⟨Nat.le_of_ble_eq_true rfl, Nat.le_of_ble_eq_true rfl⟩) hT (fun v6 H locs hp7 hT => ?_)
    obtain ⟨nm8, kd9, hI⟩ := hp7
    have hS := hI.1
    exact hret _ v6 _ _ _ _ _ dX4_decide_24 hT ⟨_, _, _, _, rf_up (by show B - 56 + 7 * 8 ≤ B; omega) hI⟩ (by decide) (by decide)
  · skip
    refine lv_bipush (v := 9) hx hb dX4_decide_12 (by decide) ?_
    refine lv_goto (tgt := 19) hx hb dX4_decide_14 (by decide) ?_
    refine lv_iload_n hx hb dX4_decide_19 rfl (lv_at hl 1 rfl) ?_
    refine lv_iconst (v := 0) hx hb dX4_decide_20 (by decide) ?_
    refine hv_callv (va_runV (As := [.int 9, .int (nI i), .int 0]) (rest := []) ⟨hx, hb, hml, hown, hts⟩ (m_sendAll l D tc hI hi (by omega) (κ := 9) (by omega) 0) (cwV 3 hts (tw_V tw_383 tw_384 tw_512 tw_3 tw_385) rfl rfl rfl (by decide +kernel) ⟨Nat.le_of_ble_eq_true rfl, Nat.le_of_ble_eq_true rfl⟩) (hv_preV (ci := 4) hK hT.1 (rs_k0 hS) (by decide) rfl rfl) rfl rfl hl.1 rfl (lv_room (Nat.le_of_ble_eq_true rfl)) dX4_decide_21 ⟨Nat.le_of_ble_eq_true rfl, Nat.le_of_ble_eq_true rfl⟩) hT (fun v10 H locs hp11 hT => ?_)
    obtain ⟨nm12, kd13, hI⟩ := hp11
    have hS := hI.1
    exact hret _ v10 _ _ _ _ _ dX4_decide_24 hT ⟨_, _, _, _, rf_up (by show B - 56 + 7 * 8 ≤ B; omega) hI⟩ (by decide) (by decide)

set_option maxHeartbeats 4000000 in
set_option maxRecDepth 100000 in
theorem m_clearThere (l : Launch) (D : va_G) (tc : Nat → ClassId) {ra gh : Nat → Nat} {n B t nm : Nat} {st dg F kd : Nat → Nat} {v : hv_V} (hI : rf_J ra gh n 1 B t nm st dg F kd v) {i : Nat} (hi : i < n) (x : Int32) : Met l yX4_clearThere (Cond.code yX4_clearThere cX4_clearThere 4 none :: lw_B) ({ frames := 0, cells := 0, slots := 0, locals := 0 }) (va_Pc [.ref (ra 0), .int (nI i), .int x] (hv_Pre D tc v)) (va_Qv (fun (v1 : hv_V) => rf_J ra gh n 1 B t nm st dg F kd v1) (hv_Post D tc (hv_A v)) (hv_A v)) (0) (0) (hv_A v) := by
  refine hv_metv l (by decide) (Nat.le_of_ble_eq_true rfl) ?_
  intro p e s m args below meth c Q X hret hK hz H locs ls hT hl
  obtain ⟨hx, hb, hml, hts, hown, hin0⟩ := X
  have hown : s.vm.findClass "CommitSitesModel" = some m.cls := hown
  have hl : lv_has ls 4 [(0, .ref (ra 0)), (1, .int (nI i)), (2, .int x)] := hl
  have hS := hI.1
  have hI0 := hI
  refine lv_iconst (v := 0) hx hb dX4_clearThere_0 (by decide) ?_
  refine hv_as (x := 0) (y := (nI 0)) nI_0.symm ?_
  refine lv_istore_n (lv' := [(3, _), (0, _), (1, _), (2, _)]) hx hb dX4_clearThere_1 rfl hl (by decide) rfl (fun ls hl => ?_)
  have hL2 : ∀ (N9 : Nat) (j : Nat) (vL : hv_V) (H : Heap) (locs : List Loc) (ls : Array Slot), j ≤ 8 → 8 < j + N9 → rf_J ra gh n 1 B t nm st dg F kd vL → hv_St (hv_A v) s D tc vL H locs → lv_has ls 4 [(0, .ref (ra 0)), (1, .int (nI i)), (2, .int x), (3, .int (nI j))] → W p l e ({ frames := 0, cells := 0, slots := 0, locals := 0 } : Room) s m args below meth c H locs (0) (0) Q (F0 m 2 ls []) := by
    intro N9
    induction N9 with
    | zero =>
      intro j vL H locs ls hlej hNj hI hT hl
      exfalso
      omega
    | succ N9 ih2 =>
      intro j vL H locs ls hlej hNj hI hT hl
      have hS := hI.1
      refine lv_iload_n hx hb dX4_clearThere_2 rfl (lv_at hl 3 rfl) ?_
      refine lv_bipush (v := 8) hx hb dX4_clearThere_3 (by decide) ?_
      refine lv_icmp_ge (tgt := 35) hx hb dX4_clearThere_5 (by decide) (fun c5 => ?_) (fun c5 => ?_)
      · skip
        exact hret _ vL _ _ _ _ _ dX4_clearThere_35 hT hI (by decide) (by decide)
      · skip
        have hltj : j < 8 := cs_lp8 hlej c5
        refine lv_aload_n hx hb dX4_clearThere_8 rfl (lv_at hl 0 rfl) ?_
        refine hv_gets (ci := 4) (C := RX4) (T := TX4) (N := 34) hx hb hts (tw_cs in_X4) hown hK hT (rs_k0 hS) (by decide) rfl 20 (by decide) (hts _ (tw_c tw_332)) rfl (x := (ra 20)) (rs_p20 hS) dX4_clearThere_9 ?_
        refine lv_bipush (v := 8) hx hb dX4_clearThere_12 (by decide) ?_
        refine lv_iload_n hx hb dX4_clearThere_14 rfl (lv_at hl 1 rfl) ?_
        refine lv_imul hx hb dX4_clearThere_15 ?_
        refine hv_as (x := (8 * (nI i))) (y := (nI (8 * i))) (nI_8 _) ?_
        refine lv_iload_n hx hb dX4_clearThere_16 rfl (lv_at hl 3 rfl) ?_
        refine lv_iadd hx hb dX4_clearThere_17 ?_
        refine hv_as (x := ((nI (8 * i)) + (nI j))) (y := (nI ((8 * i) + j))) (nI_add _ _) ?_
        refine lv_iload_n hx hb dX4_clearThere_18 rfl (lv_at hl 3 rfl) ?_
        refine lv_iload_n hx hb dX4_clearThere_19 rfl (lv_at hl 1 rfl) ?_
        refine lv_icmp_ne (tgt := 27) hx hb dX4_clearThere_20 (by decide) (fun c20 => ?_) (fun c20 => ?_)
        · skip
          refine lv_iconst (v := 0) hx hb dX4_clearThere_27 (by decide) ?_
          refine hv_iast (x := 0) hx hb hK hT (rs_k20 hS) (rf_in64 (rf_lt8 hI0 hi) (by omega)) dX4_clearThere_28 (fun H locs hT => ?_)
          have hI := rf_puta (k := 20) (j := ((nI ((8 * i) + j)) : Int32).toNatClampNeg) (x := 0) rfl hI
          have hS := hI.1
          refine lv_iinc (v := (nI (j + 1))) (lv' := [(3, _), (0, _), (1, _), (2, _)]) hx hb dX4_clearThere_29 hl (k := 3) rfl (nI_1 _) (by decide) rfl (fun ls hl => ?_)
          refine lv_goto (tgt := 2) hx hb dX4_clearThere_32 (by decide) ?_
          exact ih2 (j + 1) (hv_sa vL (ra 20) ((nI ((8 * i) + j)) : Int32).toNatClampNeg 0) H locs ls (by omega) (by omega) hI hT (lv_sub hl [1, 2, 3, 0] rfl)
        · skip
          refine lv_iload_n hx hb dX4_clearThere_23 rfl (lv_at hl 2 rfl) ?_
          refine lv_goto (tgt := 28) hx hb dX4_clearThere_24 (by decide) ?_
          refine hv_iast (x := x) hx hb hK hT (rs_k20 hS) (rf_in64 (rf_lt8 hI0 hi) (by omega)) dX4_clearThere_28 (fun H locs hT => ?_)
          have hI := rf_puta (k := 20) (j := ((nI ((8 * i) + j)) : Int32).toNatClampNeg) (x := x) rfl hI
          have hS := hI.1
          refine lv_iinc (v := (nI (j + 1))) (lv' := [(3, _), (0, _), (1, _), (2, _)]) hx hb dX4_clearThere_29 hl (k := 3) rfl (nI_1 _) (by decide) rfl (fun ls hl => ?_)
          refine lv_goto (tgt := 2) hx hb dX4_clearThere_32 (by decide) ?_
          exact ih2 (j + 1) (hv_sa vL (ra 20) ((nI ((8 * i) + j)) : Int32).toNatClampNeg x) H locs ls (by omega) (by omega) hI hT (lv_sub hl [1, 2, 3, 0] rfl)
  exact hL2 (8 + 1) 0 v H locs ls (Nat.zero_le _) (by omega) hI hT (lv_sub hl [1, 2, 3, 0] rfl)

set_option maxHeartbeats 4000000 in
set_option maxRecDepth 100000 in
theorem m_weightThere (l : Launch) (D : va_G) (tc : Nat → ClassId) {ra gh : Nat → Nat} {n B t nm : Nat} {st dg F kd : Nat → Nat} {v : hv_V} (hI : rf_J ra gh n 1 B t nm st dg F kd v) {i : Nat} (hi : i < n) : Met l yX4_weightThere (Cond.code yX4_weightThere cX4_weightThere 4 (some .int) :: lw_B) ({ frames := 0, cells := 0, slots := 0, locals := 0 }) (va_Pc [.ref (ra 0), .int (nI i)] (hv_Pre D tc v)) (va_Qi (fun (r : Int32) (v1 : hv_V) => v1 = v) (hv_Post D tc (hv_A v)) (hv_A v)) (0) (0) (hv_A v) := by
  refine hv_meti l (by decide) (Nat.le_of_ble_eq_true rfl) ?_
  intro p e s m args below meth c Q X hret hK hz H locs ls hT hl
  obtain ⟨hx, hb, hml, hts, hown, hin0⟩ := X
  have hown : s.vm.findClass "CommitSitesModel" = some m.cls := hown
  have hl : lv_has ls 4 [(0, .ref (ra 0)), (1, .int (nI i))] := hl
  have hS := hI.1
  have hI0 := hI
  refine lv_iconst (v := 0) hx hb dX4_weightThere_0 (by decide) ?_
  refine lv_istore_n (lv' := [(2, _), (0, _), (1, _)]) hx hb dX4_weightThere_1 rfl hl (by decide) rfl (fun ls hl => ?_)
  refine lv_iconst (v := 0) hx hb dX4_weightThere_2 (by decide) ?_
  refine hv_as (x := 0) (y := (nI 0)) nI_0.symm ?_
  refine lv_istore_n (lv' := [(3, _), (2, _), (0, _), (1, _)]) hx hb dX4_weightThere_3 rfl hl (by decide) rfl (fun ls hl => ?_)
  have hL4 : ∀ (N9 : Nat) (j : Nat) (x1 : Int32) (H : Heap) (locs : List Loc) (ls : Array Slot), j ≤ n → n < j + N9 → hv_St (hv_A v) s D tc v H locs → lv_has ls 4 [(0, .ref (ra 0)), (1, .int (nI i)), (2, .int x1), (3, .int (nI j))] → W p l e ({ frames := 0, cells := 0, slots := 0, locals := 0 } : Room) s m args below meth c H locs (0) (0) Q (F0 m 4 ls []) := by
    intro N9
    induction N9 with
    | zero =>
      intro j x1 H locs ls hlej hNj hT hl
      exfalso
      omega
    | succ N9 ih4 =>
      intro j x1 H locs ls hlej hNj hT hl
      refine lv_iload_n hx hb dX4_weightThere_4 rfl (lv_at hl 3 rfl) ?_
      refine lv_aload_n hx hb dX4_weightThere_5 rfl (lv_at hl 0 rfl) ?_
      refine hv_geti (ci := 4) (C := RX4) (T := TX4) (N := 34) hx hb hts (tw_cs in_X4) hown hK hT (rs_k0 hS) (by decide) rfl 1 (by decide) (hts _ (tw_c tw_313)) rfl dX4_weightThere_6 ?_
      refine lv_topi (fun g1 eg1 => ?_)
      have eg1 : g1 = (nI n) := by rw [eg1]; exact rf_hn hI
      subst eg1
      refine lv_icmp_ge (tgt := 45) hx hb dX4_weightThere_9 (by decide) (fun c9 => ?_) (fun c9 => ?_)
      · skip
        refine lv_iload_n hx hb dX4_weightThere_45 rfl (lv_at hl 2 rfl) ?_
        exact hret _ x1 v _ _ _ _ _ dX4_weightThere_46 rfl hT rfl (by decide) (by decide)
      · skip
        have hltj : j < n := cs_lp hlej (rf_n8 hI0) c9
        refine lv_aload_n hx hb dX4_weightThere_12 rfl (lv_at hl 0 rfl) ?_
        refine hv_gets (ci := 4) (C := RX4) (T := TX4) (N := 34) hx hb hts (tw_cs in_X4) hown hK hT (rs_k0 hS) (by decide) rfl 20 (by decide) (hts _ (tw_c tw_332)) rfl (x := (ra 20)) (rs_p20 hS) dX4_weightThere_13 ?_
        refine lv_bipush (v := 8) hx hb dX4_weightThere_16 (by decide) ?_
        refine lv_iload_n hx hb dX4_weightThere_18 rfl (lv_at hl 1 rfl) ?_
        refine lv_imul hx hb dX4_weightThere_19 ?_
        refine hv_as (x := (8 * (nI i))) (y := (nI (8 * i))) (nI_8 _) ?_
        refine lv_iload_n hx hb dX4_weightThere_20 rfl (lv_at hl 3 rfl) ?_
        refine lv_iadd hx hb dX4_weightThere_21 ?_
        refine hv_as (x := ((nI (8 * i)) + (nI j))) (y := (nI ((8 * i) + j))) (nI_add _ _) ?_
        refine hv_iald hx hb hK hT (rs_k20 hS) (rf_in64 (rf_lt8 hI0 hi) (rf_lt8 hI0 hltj)) dX4_weightThere_22 ?_
        refine lv_topi (fun g2 eg2 => ?_)
        refine lv_if_le (tgt := 37) hx hb dX4_weightThere_23 (by decide) (fun c23 => ?_) (fun c23 => ?_)
        · skip
          refine lv_iload_n hx hb dX4_weightThere_37 rfl (lv_at hl 2 rfl) ?_
          refine lv_istore_n (lv' := [(2, _), (0, _), (1, _), (3, _)]) hx hb dX4_weightThere_38 rfl hl (by decide) rfl (fun ls hl => ?_)
          refine lv_iinc (v := (nI (j + 1))) (lv' := [(3, _), (2, _), (0, _), (1, _)]) hx hb dX4_weightThere_39 hl (k := 3) rfl (nI_1 _) (by decide) rfl (fun ls hl => ?_)
          refine lv_goto (tgt := 4) hx hb dX4_weightThere_42 (by decide) ?_
          exact ih4 (j + 1) x1 H locs ls (by omega) (by omega) hT (lv_sub hl [2, 3, 1, 0] rfl)
        · skip
          refine lv_iload_n hx hb dX4_weightThere_26 rfl (lv_at hl 2 rfl) ?_
          refine lv_aload_n hx hb dX4_weightThere_27 rfl (lv_at hl 0 rfl) ?_
          refine hv_gets (ci := 4) (C := RX4) (T := TX4) (N := 34) hx hb hts (tw_cs in_X4) hown hK hT (rs_k0 hS) (by decide) rfl 2 (by decide) (hts _ (tw_c tw_314)) rfl (x := (ra 2)) (rs_p2 hS) dX4_weightThere_28 ?_
          refine lv_iload_n hx hb dX4_weightThere_31 rfl (lv_at hl 3 rfl) ?_
          refine hv_iald hx hb hK hT (rs_k2 hS) (cs_in8 (rf_lt8 hI0 hltj)) dX4_weightThere_32 ?_
          refine lv_topi (fun g3 eg3 => ?_)
          refine lv_iadd hx hb dX4_weightThere_33 ?_
          refine lv_goto (tgt := 38) hx hb dX4_weightThere_34 (by decide) ?_
          refine lv_istore_n (lv' := [(2, _), (0, _), (1, _), (3, _)]) hx hb dX4_weightThere_38 rfl hl (by decide) rfl (fun ls hl => ?_)
          refine lv_iinc (v := (nI (j + 1))) (lv' := [(3, _), (2, _), (0, _), (1, _)]) hx hb dX4_weightThere_39 hl (k := 3) rfl (nI_1 _) (by decide) rfl (fun ls hl => ?_)
          refine lv_goto (tgt := 4) hx hb dX4_weightThere_42 (by decide) ?_
          exact ih4 (j + 1) (x1 + g3) H locs ls (by omega) (by omega) hT (lv_sub hl [2, 3, 1, 0] rfl)
  exact hL4 (n + 1) 0 0 H locs ls (Nat.zero_le _) (by omega) hT (lv_sub hl [2, 3, 1, 0] rfl)

set_option maxHeartbeats 4000000 in
set_option maxRecDepth 100000 in
theorem m_weightOf (l : Launch) (D : va_G) (tc : Nat → ClassId) {ra gh : Nat → Nat} {n B t nm : Nat} {st dg F kd : Nat → Nat} {v : hv_V} (hI : rf_J ra gh n 1 B t nm st dg F kd v) {i : Nat} (hi : i < n) (x : Int32) : Met l yX4_weightOf (Cond.code yX4_weightOf cX4_weightOf 6 (some .int) :: lw_B) ({ frames := 0, cells := 0, slots := 0, locals := 0 }) (va_Pc [.ref (ra 0), .int (nI i), .int x] (hv_Pre D tc v)) (va_Qi (fun (r : Int32) (v1 : hv_V) => v1 = v) (hv_Post D tc (hv_A v)) (hv_A v)) (0) (0) (hv_A v) := by
  refine hv_meti l (by decide) (Nat.le_of_ble_eq_true rfl) ?_
  intro p e s m args below meth c Q X hret hK hz H locs ls hT hl
  obtain ⟨hx, hb, hml, hts, hown, hin0⟩ := X
  have hown : s.vm.findClass "CommitSitesModel" = some m.cls := hown
  have hl : lv_has ls 6 [(0, .ref (ra 0)), (1, .int (nI i)), (2, .int x)] := hl
  have hS := hI.1
  have hI0 := hI
  refine lv_iconst (v := 0) hx hb dX4_weightOf_0 (by decide) ?_
  refine lv_istore_n (lv' := [(3, _), (0, _), (1, _), (2, _)]) hx hb dX4_weightOf_1 rfl hl (by decide) rfl (fun ls hl => ?_)
  refine lv_iconst (v := 0) hx hb dX4_weightOf_2 (by decide) ?_
  refine hv_as (x := 0) (y := (nI 0)) nI_0.symm ?_
  refine lv_istore (lv' := [(4, _), (3, _), (0, _), (1, _), (2, _)]) hx hb dX4_weightOf_3 hl (by decide) rfl (fun ls hl => ?_)
  have hL5 : ∀ (N9 : Nat) (j : Nat) (x1 : Int32) (H : Heap) (locs : List Loc) (ls : Array Slot), j ≤ n → n < j + N9 → hv_St (hv_A v) s D tc v H locs → lv_has ls 6 [(0, .ref (ra 0)), (1, .int (nI i)), (2, .int x), (3, .int x1), (4, .int (nI j))] → W p l e ({ frames := 0, cells := 0, slots := 0, locals := 0 } : Room) s m args below meth c H locs (0) (0) Q (F0 m 5 ls []) := by
    intro N9
    induction N9 with
    | zero =>
      intro j x1 H locs ls hlej hNj hT hl
      exfalso
      omega
    | succ N9 ih5 =>
      intro j x1 H locs ls hlej hNj hT hl
      refine lv_iload hx hb dX4_weightOf_5 (lv_at hl 4 rfl) ?_
      refine lv_aload_n hx hb dX4_weightOf_7 rfl (lv_at hl 0 rfl) ?_
      refine hv_geti (ci := 4) (C := RX4) (T := TX4) (N := 34) hx hb hts (tw_cs in_X4) hown hK hT (rs_k0 hS) (by decide) rfl 1 (by decide) (hts _ (tw_c tw_313)) rfl dX4_weightOf_8 ?_
      refine lv_topi (fun g1 eg1 => ?_)
      have eg1 : g1 = (nI n) := by rw [eg1]; exact rf_hn hI
      subst eg1
      refine lv_icmp_ge (tgt := 62) hx hb dX4_weightOf_11 (by decide) (fun c11 => ?_) (fun c11 => ?_)
      · skip
        refine lv_iload_n hx hb dX4_weightOf_62 rfl (lv_at hl 3 rfl) ?_
        exact hret _ x1 v _ _ _ _ _ dX4_weightOf_63 rfl hT rfl (by decide) (by decide)
      · skip
        have hltj : j < n := cs_lp hlej (rf_n8 hI0) c11
        refine lv_aload_n hx hb dX4_weightOf_14 rfl (lv_at hl 0 rfl) ?_
        refine hv_gets (ci := 4) (C := RX4) (T := TX4) (N := 34) hx hb hts (tw_cs in_X4) hown hK hT (rs_k0 hS) (by decide) rfl 20 (by decide) (hts _ (tw_c tw_332)) rfl (x := (ra 20)) (rs_p20 hS) dX4_weightOf_15 ?_
        refine lv_bipush (v := 8) hx hb dX4_weightOf_18 (by decide) ?_
        refine lv_iload_n hx hb dX4_weightOf_20 rfl (lv_at hl 1 rfl) ?_
        refine lv_imul hx hb dX4_weightOf_21 ?_
        refine hv_as (x := (8 * (nI i))) (y := (nI (8 * i))) (nI_8 _) ?_
        refine lv_iload hx hb dX4_weightOf_22 (lv_at hl 4 rfl) ?_
        refine lv_iadd hx hb dX4_weightOf_24 ?_
        refine hv_as (x := ((nI (8 * i)) + (nI j))) (y := (nI ((8 * i) + j))) (nI_add _ _) ?_
        refine hv_iald hx hb hK hT (rs_k20 hS) (rf_in64 (rf_lt8 hI0 hi) (rf_lt8 hI0 hltj)) dX4_weightOf_25 ?_
        refine lv_topi (fun g2 eg2 => ?_)
        refine lv_iconst (v := 1) hx hb dX4_weightOf_26 (by decide) ?_
        refine lv_isub hx hb dX4_weightOf_27 ?_
        refine lv_istore (lv' := [(5, _), (0, _), (1, _), (2, _), (3, _), (4, _)]) hx hb dX4_weightOf_28 hl (by decide) rfl (fun ls hl => ?_)
        refine lv_iload hx hb dX4_weightOf_30 (lv_at hl 0 rfl) ?_
        refine lv_iconst (v := 1) hx hb dX4_weightOf_32 (by decide) ?_
        refine lv_icmp_eq (tgt := 42) hx hb dX4_weightOf_33 (by decide) (fun c33 => ?_) (fun c33 => ?_)
        · skip
          refine lv_iload_n hx hb dX4_weightOf_42 rfl (lv_at hl 4 rfl) ?_
          refine lv_aload_n hx hb dX4_weightOf_43 rfl (lv_at hl 1 rfl) ?_
          refine hv_gets (ci := 4) (C := RX4) (T := TX4) (N := 34) hx hb hts (tw_cs in_X4) hown hK hT (rs_k0 hS) (by decide) rfl 2 (by decide) (hts _ (tw_c tw_314)) rfl (x := (ra 2)) (rs_p2 hS) dX4_weightOf_44 ?_
          refine lv_iload hx hb dX4_weightOf_47 (lv_at hl 5 rfl) ?_
          refine hv_iald hx hb hK hT (rs_k2 hS) (cs_in8 (rf_lt8 hI0 hltj)) dX4_weightOf_49 ?_
          refine lv_topi (fun g3 eg3 => ?_)
          refine lv_iadd hx hb dX4_weightOf_50 ?_
          refine lv_goto (tgt := 55) hx hb dX4_weightOf_51 (by decide) ?_
          refine lv_istore_n (lv' := [(3, _), (5, _), (0, _), (1, _), (2, _), (4, _)]) hx hb dX4_weightOf_55 rfl hl (by decide) rfl (fun ls hl => ?_)
          refine lv_iinc (v := (nI (j + 1))) (lv' := [(4, _), (3, _), (5, _), (0, _), (1, _), (2, _)]) hx hb dX4_weightOf_56 hl (k := 5) rfl (nI_1 _) (by decide) rfl (fun ls hl => ?_)
          refine lv_goto (tgt := 5) hx hb dX4_weightOf_59 (by decide) ?_
          exact ih5 (j + 1) (x1 + g3) H locs ls (by omega) (by omega) hT (lv_sub hl [3, 4, 5, 1, 0] rfl)
        · skip
          refine lv_iload hx hb dX4_weightOf_36 (lv_at hl 0 rfl) ?_
          refine lv_iload_n hx hb dX4_weightOf_38 rfl (lv_at hl 3 rfl) ?_
          refine lv_icmp_ne (tgt := 54) hx hb dX4_weightOf_39 (by decide) (fun c39 => ?_) (fun c39 => ?_)
          · skip
            refine lv_iload_n hx hb dX4_weightOf_54 rfl (lv_at hl 4 rfl) ?_
            refine lv_istore_n (lv' := [(3, _), (5, _), (0, _), (1, _), (2, _), (4, _)]) hx hb dX4_weightOf_55 rfl hl (by decide) rfl (fun ls hl => ?_)
            refine lv_iinc (v := (nI (j + 1))) (lv' := [(4, _), (3, _), (5, _), (0, _), (1, _), (2, _)]) hx hb dX4_weightOf_56 hl (k := 5) rfl (nI_1 _) (by decide) rfl (fun ls hl => ?_)
            refine lv_goto (tgt := 5) hx hb dX4_weightOf_59 (by decide) ?_
            exact ih5 (j + 1) x1 H locs ls (by omega) (by omega) hT (lv_sub hl [3, 4, 5, 1, 0] rfl)
          · skip
            refine lv_iload_n hx hb dX4_weightOf_42 rfl (lv_at hl 4 rfl) ?_
            refine lv_aload_n hx hb dX4_weightOf_43 rfl (lv_at hl 1 rfl) ?_
            refine hv_gets (ci := 4) (C := RX4) (T := TX4) (N := 34) hx hb hts (tw_cs in_X4) hown hK hT (rs_k0 hS) (by decide) rfl 2 (by decide) (hts _ (tw_c tw_314)) rfl (x := (ra 2)) (rs_p2 hS) dX4_weightOf_44 ?_
            refine lv_iload hx hb dX4_weightOf_47 (lv_at hl 5 rfl) ?_
            refine hv_iald hx hb hK hT (rs_k2 hS) (cs_in8 (rf_lt8 hI0 hltj)) dX4_weightOf_49 ?_
            refine lv_topi (fun g4 eg4 => ?_)
            refine lv_iadd hx hb dX4_weightOf_50 ?_
            refine lv_goto (tgt := 55) hx hb dX4_weightOf_51 (by decide) ?_
            refine lv_istore_n (lv' := [(3, _), (5, _), (0, _), (1, _), (2, _), (4, _)]) hx hb dX4_weightOf_55 rfl hl (by decide) rfl (fun ls hl => ?_)
            refine lv_iinc (v := (nI (j + 1))) (lv' := [(4, _), (3, _), (5, _), (0, _), (1, _), (2, _)]) hx hb dX4_weightOf_56 hl (k := 5) rfl (nI_1 _) (by decide) rfl (fun ls hl => ?_)
            refine lv_goto (tgt := 5) hx hb dX4_weightOf_59 (by decide) ?_
            exact ih5 (j + 1) (x1 + g4) H locs ls (by omega) (by omega) hT (lv_sub hl [3, 4, 5, 1, 0] rfl)
  exact hL5 (n + 1) 0 0 H locs ls (Nat.zero_le _) (by omega) hT (lv_sub hl [2, 3, 4, 1, 0] rfl)
