theorem cs_is1 {x : Int32} {n : Nat} (h0 : ¬ x < 0) (h1 : ¬ nI n ≤ x) (hn : n ≤ 8 := by assumption) : ∃ i, i < n ∧ x = nI i := by
  rcases pk_ix x (n := n) (by omega) with h | h | h
  · exact absurd h h0
  · exact absurd h h1
  · exact h
theorem cs_is0 {x : Int32} {n : Nat} (h : x < 0 ∨ nI n ≤ x) (hn : n ≤ 8 := by assumption) : ¬ ∃ i, i < n ∧ x = nI i := by
  rintro ⟨i, hi, rfl⟩
  rcases h with h | h
  · exact nI_pos (by omega) h
  · exact nI_ge hi (by omega) h

set_option maxHeartbeats 4000000 in
set_option maxRecDepth 100000 in
theorem c_isSite (l : Launch) (D : va_G) (tc : Nat → ClassId) {fa : Nat → Nat} {n : Nat} {v : hv_V} (x : Int32) (hS : cs_S fa n v) (hn : hv_i v 303 (fa 0) = nI n) : Met l yX3_isSite (Cond.code yX3_isSite cX3_isSite 2 (some .boolean) :: lw_B) ({ frames := 0, cells := 0, slots := 0, locals := 0 }) (va_Pc [.ref (fa 0), .int x] (hv_Pre D tc v)) (va_Qi (fun (r : Int32) (v1 : hv_V) => v1 = v ∧ ((r = 1 ∧ ∃ i, i < n ∧ x = nI i) ∨ (r = 0 ∧ ¬ ∃ i, i < n ∧ x = nI i))) (hv_Post D tc (hv_A v)) (hv_A v)) (0) (0) (hv_A v) := by
  refine hv_meti l (by decide) (Nat.le_of_ble_eq_true rfl) ?_
  intro p e s m args below meth c Q X hret hK H locs ls hT hl
  obtain ⟨hx, hb, hml, hts, hown, hin0⟩ := X
  have hown : s.vm.findClass "CommitSites" = some m.cls := hown
  have hl : lv_has ls 2 [(0, .ref (fa 0)), (1, .int x)] := hl
  have hn8 := cs_n8 hS
  refine lv_iload_n hx hb dX3_isSite_0 rfl (lv_at hl 1 rfl) ?_
  refine lv_if_lt (tgt := 16) hx hb dX3_isSite_1 (by decide) (fun c1 => ?_) (fun c1 => ?_)
  · skip
    refine lv_iconst (v := 0) hx hb dX3_isSite_16 (by decide) ?_
    exact hret _ 0 v _ _ _ _ _ dX3_isSite_17 rfl hT ⟨rfl, Or.inr ⟨rfl, cs_is0 (Or.inl c1)⟩⟩ (by decide) (by decide)
  · skip
    refine lv_iload_n hx hb dX3_isSite_4 rfl (lv_at hl 1 rfl) ?_
    refine lv_aload_n hx hb dX3_isSite_5 rfl (lv_at hl 0 rfl) ?_
    refine hv_geti (ci := 3) (C := RX3) (T := TX3) (N := 12) hx hb hts (tw_cs in_X3) hown hK hT (cs_kX hS) (by decide) rfl 3 (by decide) (hts _ (tw_c tw_50)) rfl dX3_isSite_6 ?_
    refine lv_topi (fun g1 eg1 => ?_)
    refine lv_icmp_ge (tgt := 16) hx hb dX3_isSite_9 (by decide) (fun c9 => ?_) (fun c9 => ?_)
    · skip
      refine lv_iconst (v := 0) hx hb dX3_isSite_16 (by decide) ?_
      exact hret _ 0 v _ _ _ _ _ dX3_isSite_17 rfl hT ⟨rfl, Or.inr ⟨rfl, cs_is0 (Or.inr (by rw [← hn, ← eg1]; exact c9))⟩⟩ (by decide) (by decide)
    · skip
      refine lv_iconst (v := 1) hx hb dX3_isSite_12 (by decide) ?_
      refine lv_goto (tgt := 17) hx hb dX3_isSite_13 (by decide) ?_
      exact hret _ 1 v _ _ _ _ _ dX3_isSite_17 rfl hT ⟨rfl, Or.inl ⟨rfl, cs_is1 c1 (by rw [← hn, ← eg1]; exact c9)⟩⟩ (by decide) (by decide)
