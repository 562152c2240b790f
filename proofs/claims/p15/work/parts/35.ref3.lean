theorem cs_lp6 {i n : Nat} (hi : i ≤ n) (hn : n < 60000) (h : ¬ nI n ≤ nI i) : i < n := by
  rcases Nat.lt_or_ge i n with q | q
  · exact q
  · exact absurd (nI_le q (by omega)) h
theorem rf_m2 {j : Nat} (hj : j < 8) : (-2 : Int32) - (-2 - nI j) = nI j := by
  have key : ∀ j, j < 8 → (-2 : Int32) - (-2 - nI j) = nI j := by decide +kernel
  exact key j hj
theorem rf_m3 {j : Nat} (hj : j < 8) : ¬ 0 ≤ (-2 : Int32) - nI j := by
  have key : ∀ j, j < 8 → ¬ 0 ≤ (-2 : Int32) - nI j := by decide +kernel
  exact key j hj
section RFE
variable {ra gh : Nat → Nat} {n b B t nm : Nat} {st dg F kd : Nat → Nat} {v v1 : hv_V}
theorem rf_wB {k : Nat} (h : rf_J ra gh n b B t nm st dg F kd v) (hk : k < nm) : rf_wt (kd k) ≤ B := by
  have h1 := h.2.2.2.2.1.2.2.2.2.2.2.2
  have h2 := ci_sum_ge (f := fun k => rf_wt (kd k)) hk
  omega
theorem rf_hT {m i : Nat} (hf : rf_f ra m i v) (h : ¬ hv_i v 432 (ra 0) = -1) : ∃ T, T ≤ 5000 ∧ hv_i v 433 (ra 0) = nI T := by
  rcases hf with ⟨-, q, -⟩ | ⟨T, T5, hT, -⟩
  · exact absurd q h
  · exact ⟨T, T5, hT⟩
theorem rf_end {m i Lm : Nat} (hf : rf_f ra m i v) (hm : m ≤ 60000) (hi : i ≤ 8) (hL : Lm ≤ 4000) (h : hv_i v 432 (ra 0) = -1 ∨ nI Lm < hv_i v 433 (ra 0)) : (∀ k, k < m → ∃ x, Lm ≤ x ∧ x ≤ 5000 ∧ hv_a v (ra 28) k = nI x) ∧ ∀ j, j < i → hv_a v (ra 21) j = -1 ∨ ∃ x, Lm ≤ x ∧ x ≤ 5000 ∧ hv_a v (ra 21) j = nI x := by
  rcases h with h | h
  · obtain ⟨q, q1⟩ := rf_none hf hm hi h
    exact ⟨fun k hk => by omega, fun j hj => Or.inl (q1 j hj)⟩
  · rcases hf with ⟨q, -, q1⟩ | ⟨T, T5, hT, -, q, q1⟩
    · exact ⟨fun k hk => by omega, fun j hj => Or.inl (q1 j hj)⟩
    · rw [hT] at h
      have h := (nI_ltI (by omega) (by omega)).mp h
      refine ⟨fun k hk => ?_, fun j hj => ?_⟩
      · obtain ⟨x, x1, x2⟩ := q k hk
        exact ⟨x, by omega, x2⟩
      · rcases q1 j hj with z | ⟨x, x1, x2⟩
        · exact Or.inl z
        · exact Or.inr ⟨x, by omega, x2⟩
end RFE

set_option maxHeartbeats 4000000 in
set_option maxRecDepth 100000 in
theorem m_findNext (l : Launch) (D : va_G) (tc : Nat → ClassId) {ra gh : Nat → Nat} {n b B t nm : Nat} {st dg F kd : Nat → Nat} {v : hv_V} (hI : rf_J ra gh n b B t nm st dg F kd v) (h479 : B < 479800) : Met l yX4_findNext (Cond.code yX4_findNext cX4_findNext 4 none :: lw_B) ({ frames := 0, cells := 0, slots := 0, locals := 0 }) (va_Pc [.ref (ra 0)] (hv_Pre D tc v)) (va_Qv (fun (v1 : hv_V) => rf_f ra nm n v1 ∧ rf_J ra gh n b B t nm st dg F kd v1) (hv_Post D tc (hv_A v)) (hv_A v)) (0) (0) (hv_A v) := by
  refine hv_metv l (by decide) (Nat.le_of_ble_eq_true rfl) ?_
  intro p e s m args below meth c Q X hret hK hz H locs ls hT hl
  obtain ⟨hx, hb, hml, hts, hown, hin0⟩ := X
  have hown : s.vm.findClass "CommitSitesModel" = some m.cls := hown
  have hl : lv_has ls 4 [(0, .ref (ra 0))] := hl
  have hS := hI.1
  have hI0 := hI
  have hnm := rf_nm hI
  have hm6 : nm < 60000 := by omega
  refine lv_aload_n hx hb dX4_findNext_0 rfl (lv_at hl 0 rfl) ?_
  refine lv_iconst (v := (-1)) hx hb dX4_findNext_1 (by decide) ?_
  refine hv_puti (ci := 4) (C := RX4) (T := TX4) (N := 34) hx hb hts (tw_cs in_X4) tyX4 tyX4_ok nmX4 hown hK hT (rs_k0 hS) (by decide) rfl 32 (by decide) (hts _ (tw_c tw_344)) rfl rfl (x := (-1)) rfl rfl dX4_findNext_2 (fun H locs hT => ?_)
  have hI := rf_puti (f := 432) (x := (-1)) rfl hI
  have hS := hI.1
  refine lv_aload_n hx hb dX4_findNext_5 rfl (lv_at hl 0 rfl) ?_
  refine lv_iconst (v := 0) hx hb dX4_findNext_6 (by decide) ?_
  refine hv_puti (ci := 4) (C := RX4) (T := TX4) (N := 34) hx hb hts (tw_cs in_X4) tyX4 tyX4_ok nmX4 hown hK hT (rs_k0 hS) (by decide) rfl 33 (by decide) (hts _ (tw_c tw_345)) rfl rfl (x := 0) rfl rfl dX4_findNext_7 (fun H locs hT => ?_)
  have hI := rf_puti (f := 433) (x := 0) rfl hI
  have hS := hI.1
  refine lv_iconst (v := 0) hx hb dX4_findNext_10 (by decide) ?_
  refine lv_istore_n (lv' := [(1, _), (0, _)]) hx hb dX4_findNext_11 rfl hl (by decide) rfl (fun ls hl => ?_)
  refine lv_iconst (v := 0) hx hb dX4_findNext_12 (by decide) ?_
  refine hv_as (x := 0) (y := (nI 0)) nI_0.symm ?_
  refine lv_istore_n (lv' := [(2, _), (1, _), (0, _)]) hx hb dX4_findNext_13 rfl hl (by decide) rfl (fun ls hl => ?_)
  have hL14 : ∀ (N9 : Nat) (m9 : Nat) (x1 : Int32) (vL : hv_V) (H : Heap) (locs : List Loc) (ls : Array Slot), m9 ≤ nm → nm < m9 + N9 → rf_J ra gh n b B t nm st dg F kd vL → rf_f ra m9 0 vL → hv_St (hv_A v) s D tc vL H locs → lv_has ls 4 [(0, .ref (ra 0)), (1, .int x1), (2, .int (nI m9))] → W p l e ({ frames := 0, cells := 0, slots := 0, locals := 0 } : Room) s m args below meth c H locs (0) (0) Q (F0 m 14 ls []) := by
    intro N9
    induction N9 with
    | zero =>
      intro m9 x1 vL H locs ls hlem9 hNm9 hI hf hT hl
      exfalso
      omega
    | succ N9 ih14 =>
      intro m9 x1 vL H locs ls hlem9 hNm9 hI hf hT hl
      have hS := hI.1
      refine lv_iload_n hx hb dX4_findNext_14 rfl (lv_at hl 2 rfl) ?_
      refine lv_aload_n hx hb dX4_findNext_15 rfl (lv_at hl 0 rfl) ?_
      refine hv_geti (ci := 4) (C := RX4) (T := TX4) (N := 34) hx hb hts (tw_cs in_X4) hown hK hT (rs_k0 hS) (by decide) rfl 30 (by decide) (hts _ (tw_c tw_342)) rfl dX4_findNext_16 ?_
      refine lv_topi (fun g1 eg1 => ?_)
      have eg1 : g1 = (nI nm) := by rw [eg1]; exact rf_hm hI
      subst eg1
      refine lv_icmp_ge (tgt := 94) hx hb dX4_findNext_19 (by decide) (fun c19 => ?_) (fun c19 => ?_)
      · skip
        refine lv_iconst (v := 0) hx hb dX4_findNext_94 (by decide) ?_
        refine hv_as (x := 0) (y := (nI 0)) nI_0.symm ?_
        refine lv_istore_n (lv' := [(2, _), (0, _), (1, _)]) hx hb dX4_findNext_95 rfl hl (by decide) rfl (fun ls hl => ?_)
        have hL96 : ∀ (N9 : Nat) (i : Nat) (x1 : Int32) (vM : hv_V) (H : Heap) (locs : List Loc) (ls : Array Slot), i ≤ n → n < i + N9 → rf_J ra gh n b B t nm st dg F kd vM → rf_f ra nm i vM → hv_St (hv_A v) s D tc vM H locs → lv_has ls 4 [(0, .ref (ra 0)), (1, .int x1), (2, .int (nI i))] → W p l e ({ frames := 0, cells := 0, slots := 0, locals := 0 } : Room) s m args below meth c H locs (0) (0) Q (F0 m 96 ls []) := by
          intro N9
          induction N9 with
          | zero =>
            intro i x1 vM H locs ls hlei hNi hI hf hT hl
            exfalso
            omega
          | succ N9 ih96 =>
            intro i x1 vM H locs ls hlei hNi hI hf hT hl
            have hS := hI.1
            refine lv_iload_n hx hb dX4_findNext_96 rfl (lv_at hl 2 rfl) ?_
            refine lv_aload_n hx hb dX4_findNext_97 rfl (lv_at hl 0 rfl) ?_
            refine hv_geti (ci := 4) (C := RX4) (T := TX4) (N := 34) hx hb hts (tw_cs in_X4) hown hK hT (rs_k0 hS) (by decide) rfl 1 (by decide) (hts _ (tw_c tw_313)) rfl dX4_findNext_98 ?_
            refine lv_topi (fun g2 eg2 => ?_)
            have eg2 : g2 = (nI n) := by rw [eg2]; exact rf_hn hI
            subst eg2
            refine lv_icmp_ge (tgt := 198) hx hb dX4_findNext_101 (by decide) (fun c101 => ?_) (fun c101 => ?_)
            · skip
              exact hret _ vM _ _ _ _ _ dX4_findNext_198 hT ⟨(by rw [← cs_ex hlei (by have := rf_n8 hI0; omega) c101]; exact hf), hI⟩ (by decide) (by decide)
            · skip
              have hlti : i < n := cs_lp hlei (rf_n8 hI0) c101
              refine lv_aload_n hx hb dX4_findNext_104 rfl (lv_at hl 0 rfl) ?_
              refine hv_geti (ci := 4) (C := RX4) (T := TX4) (N := 34) hx hb hts (tw_cs in_X4) hown hK hT (rs_k0 hS) (by decide) rfl 32 (by decide) (hts _ (tw_c tw_344)) rfl dX4_findNext_105 ?_
              refine lv_topi (fun g3 eg3 => ?_)
              have eg3 : g3 = (hv_i vM 432 (ra 0)) := eg3.trans (rfl)
              subst eg3
              refine lv_iconst (v := (-1)) hx hb dX4_findNext_108 (by decide) ?_
              refine lv_icmp_eq (tgt := 148) hx hb dX4_findNext_109 (by decide) (fun c109 => ?_) (fun c109 => ?_)
              · skip
                refine lv_iconst (v := 1) hx hb dX4_findNext_148 (by decide) ?_
                refine lv_goto (tgt := 153) hx hb dX4_findNext_149 (by decide) ?_
                refine lv_istore_n (lv' := [(3, _), (0, _), (1, _), (2, _)]) hx hb dX4_findNext_153 rfl hl (by decide) rfl (fun ls hl => ?_)
                refine lv_aload_n hx hb dX4_findNext_154 rfl (lv_at hl 1 rfl) ?_
                refine hv_gets (ci := 4) (C := RX4) (T := TX4) (N := 34) hx hb hts (tw_cs in_X4) hown hK hT (rs_k0 hS) (by decide) rfl 21 (by decide) (hts _ (tw_c tw_333)) rfl (x := (ra 21)) (rs_p21 hS) dX4_findNext_155 ?_
                refine lv_iload_n hx hb dX4_findNext_158 rfl (lv_at hl 3 rfl) ?_
                refine hv_iald hx hb hK hT (rs_k21 hS) (cs_in8 (rf_lt8 hI0 hlti)) dX4_findNext_159 ?_
                refine lv_topi (fun g4 eg4 => ?_)
                have eg4 : g4 = (hv_a vM (ra 21) i) := eg4.trans (by show hv_a vM (ra 21) (nI i).toNatClampNeg = _; rw [nI_clamp (by have := rf_lt8 hI0 hlti; omega)])
                subst eg4
                refine lv_if_lt (tgt := 192) hx hb dX4_findNext_160 (by decide) (fun c160 => ?_) (fun c160 => ?_)
                · skip
                  have hf1 := rf_f2b hI hf hlti (Or.inl c160)
                  refine lv_iinc (v := (nI (i + 1))) (lv' := [(2, _), (3, _), (0, _), (1, _)]) hx hb dX4_findNext_192 hl (k := 3) rfl (nI_1 _) (by decide) rfl (fun ls hl => ?_)
                  refine lv_goto (tgt := 96) hx hb dX4_findNext_195 (by decide) ?_
                  exact ih96 (i + 1) x1 vM H locs ls (by omega) (by omega) hI hf1 hT (lv_sub hl [2, 3, 0] rfl)
                · skip
                  refine lv_iload_n hx hb dX4_findNext_163 rfl (lv_at hl 0 rfl) ?_
                  refine lv_if_eq (tgt := 192) hx hb dX4_findNext_164 (by decide) (fun c164 => ?_) (fun c164 => ?_)
                  · skip
                    exact absurd c164 (by decide)
                  · skip
                    have hf1 := rf_f2a (rf_n8 hI0) (by omega) hI hf hlti c160 (Or.inl c109)
                    refine lv_aload_n hx hb dX4_findNext_167 rfl (lv_at hl 1 rfl) ?_
                    refine lv_bipush (v := (-2)) hx hb dX4_findNext_168 (by decide) ?_
                    refine lv_iload_n hx hb dX4_findNext_170 rfl (lv_at hl 3 rfl) ?_
                    refine lv_isub hx hb dX4_findNext_171 ?_
                    refine hv_puti (ci := 4) (C := RX4) (T := TX4) (N := 34) hx hb hts (tw_cs in_X4) tyX4 tyX4_ok nmX4 hown hK hT (rs_k0 hS) (by decide) rfl 32 (by decide) (hts _ (tw_c tw_344)) rfl rfl (x := ((-2) - (nI i))) rfl rfl dX4_findNext_172 (fun H locs hT => ?_)
                    have hI := rf_puti (f := 432) (x := ((-2) - (nI i))) rfl hI
                    have hS := hI.1
                    refine lv_aload_n hx hb dX4_findNext_175 rfl (lv_at hl 1 rfl) ?_
                    refine lv_aload_n hx hb dX4_findNext_176 rfl (lv_at hl 1 rfl) ?_
                    refine hv_gets (ci := 4) (C := RX4) (T := TX4) (N := 34) hx hb hts (tw_cs in_X4) hown hK hT (rs_k0 hS) (by decide) rfl 21 (by decide) (hts _ (tw_c tw_333)) rfl (x := (ra 21)) (rs_p21 hS) dX4_findNext_177 ?_
                    refine lv_iload_n hx hb dX4_findNext_180 rfl (lv_at hl 3 rfl) ?_
                    refine hv_iald hx hb hK hT (rs_k21 hS) (cs_in8 (rf_lt8 hI0 hlti)) dX4_findNext_181 ?_
                    refine lv_topi (fun g5 eg5 => ?_)
                    have eg5 : g5 = (hv_a vM (ra 21) i) := eg5.trans (by show hv_a vM (ra 21) (nI i).toNatClampNeg = _; rw [nI_clamp (by have := rf_lt8 hI0 hlti; omega)])
                    subst eg5
                    refine hv_puti (ci := 4) (C := RX4) (T := TX4) (N := 34) hx hb hts (tw_cs in_X4) tyX4 tyX4_ok nmX4 hown hK hT (rs_k0 hS) (by decide) rfl 33 (by decide) (hts _ (tw_c tw_345)) rfl rfl (x := (hv_a vM (ra 21) i)) rfl rfl dX4_findNext_182 (fun H locs hT => ?_)
                    have hI := rf_puti (f := 433) (x := (hv_a vM (ra 21) i)) rfl hI
                    have hS := hI.1
                    refine lv_aload_n hx hb dX4_findNext_185 rfl (lv_at hl 1 rfl) ?_
                    refine hv_gets (ci := 4) (C := RX4) (T := TX4) (N := 34) hx hb hts (tw_cs in_X4) hown hK hT (rs_k0 hS) (by decide) rfl 22 (by decide) (hts _ (tw_c tw_334)) rfl (x := (ra 22)) (rs_p22 hS) dX4_findNext_186 ?_
                    refine lv_iload_n hx hb dX4_findNext_189 rfl (lv_at hl 3 rfl) ?_
                    refine hv_iald hx hb hK hT (rs_k22 hS) (cs_in8 (rf_lt8 hI0 hlti)) dX4_findNext_190 ?_
                    refine lv_topi (fun g6 eg6 => ?_)
                    refine lv_istore_n (lv' := [(1, _), (3, _), (0, _), (2, _)]) hx hb dX4_findNext_191 rfl hl (by decide) rfl (fun ls hl => ?_)
                    refine lv_iinc (v := (nI (i + 1))) (lv' := [(2, _), (1, _), (3, _), (0, _)]) hx hb dX4_findNext_192 hl (k := 3) rfl (nI_1 _) (by decide) rfl (fun ls hl => ?_)
                    refine lv_goto (tgt := 96) hx hb dX4_findNext_195 (by decide) ?_
                    exact ih96 (i + 1) g6 (hv_si (hv_si vM 432 (ra 0) ((-2) - (nI i))) 433 (ra 0) (hv_a vM (ra 21) i)) H locs ls (by omega) (by omega) hI hf1 hT (lv_sub hl [3, 1, 0] rfl)
              · skip
                refine lv_aload_n hx hb dX4_findNext_112 rfl (lv_at hl 0 rfl) ?_
                refine hv_gets (ci := 4) (C := RX4) (T := TX4) (N := 34) hx hb hts (tw_cs in_X4) hown hK hT (rs_k0 hS) (by decide) rfl 21 (by decide) (hts _ (tw_c tw_333)) rfl (x := (ra 21)) (rs_p21 hS) dX4_findNext_113 ?_
                refine lv_iload_n hx hb dX4_findNext_116 rfl (lv_at hl 2 rfl) ?_
                refine hv_iald hx hb hK hT (rs_k21 hS) (cs_in8 (rf_lt8 hI0 hlti)) dX4_findNext_117 ?_
                refine lv_topi (fun g7 eg7 => ?_)
                have eg7 : g7 = (hv_a vM (ra 21) i) := eg7.trans (by show hv_a vM (ra 21) (nI i).toNatClampNeg = _; rw [nI_clamp (by have := rf_lt8 hI0 hlti; omega)])
                subst eg7
                refine lv_aload_n hx hb dX4_findNext_118 rfl (lv_at hl 0 rfl) ?_
                refine hv_geti (ci := 4) (C := RX4) (T := TX4) (N := 34) hx hb hts (tw_cs in_X4) hown hK hT (rs_k0 hS) (by decide) rfl 33 (by decide) (hts _ (tw_c tw_345)) rfl dX4_findNext_119 ?_
                refine lv_topi (fun g8 eg8 => ?_)
                have eg8 : g8 = (hv_i vM 433 (ra 0)) := eg8.trans (rfl)
                subst eg8
                refine lv_icmp_lt (tgt := 148) hx hb dX4_findNext_122 (by decide) (fun c122 => ?_) (fun c122 => ?_)
                · skip
                  refine lv_iconst (v := 1) hx hb dX4_findNext_148 (by decide) ?_
                  refine lv_goto (tgt := 153) hx hb dX4_findNext_149 (by decide) ?_
                  refine lv_istore_n (lv' := [(3, _), (0, _), (1, _), (2, _)]) hx hb dX4_findNext_153 rfl hl (by decide) rfl (fun ls hl => ?_)
                  refine lv_aload_n hx hb dX4_findNext_154 rfl (lv_at hl 1 rfl) ?_
                  refine hv_gets (ci := 4) (C := RX4) (T := TX4) (N := 34) hx hb hts (tw_cs in_X4) hown hK hT (rs_k0 hS) (by decide) rfl 21 (by decide) (hts _ (tw_c tw_333)) rfl (x := (ra 21)) (rs_p21 hS) dX4_findNext_155 ?_
                  refine lv_iload_n hx hb dX4_findNext_158 rfl (lv_at hl 3 rfl) ?_
                  refine hv_iald hx hb hK hT (rs_k21 hS) (cs_in8 (rf_lt8 hI0 hlti)) dX4_findNext_159 ?_
                  refine lv_topi (fun g9 eg9 => ?_)
                  have eg9 : g9 = (hv_a vM (ra 21) i) := eg9.trans (by show hv_a vM (ra 21) (nI i).toNatClampNeg = _; rw [nI_clamp (by have := rf_lt8 hI0 hlti; omega)])
                  subst eg9
                  refine lv_if_lt (tgt := 192) hx hb dX4_findNext_160 (by decide) (fun c160 => ?_) (fun c160 => ?_)
                  · skip
                    have hf1 := rf_f2b hI hf hlti (Or.inl c160)
                    refine lv_iinc (v := (nI (i + 1))) (lv' := [(2, _), (3, _), (0, _), (1, _)]) hx hb dX4_findNext_192 hl (k := 3) rfl (nI_1 _) (by decide) rfl (fun ls hl => ?_)
                    refine lv_goto (tgt := 96) hx hb dX4_findNext_195 (by decide) ?_
                    exact ih96 (i + 1) x1 vM H locs ls (by omega) (by omega) hI hf1 hT (lv_sub hl [2, 3, 0] rfl)
                  · skip
                    refine lv_iload_n hx hb dX4_findNext_163 rfl (lv_at hl 0 rfl) ?_
                    refine lv_if_eq (tgt := 192) hx hb dX4_findNext_164 (by decide) (fun c164 => ?_) (fun c164 => ?_)
                    · skip
                      exact absurd c164 (by decide)
                    · skip
                      have hf1 := rf_f2a (rf_n8 hI0) (by omega) hI hf hlti c160 (Or.inr (Int32.le_of_lt c122))
                      refine lv_aload_n hx hb dX4_findNext_167 rfl (lv_at hl 1 rfl) ?_
                      refine lv_bipush (v := (-2)) hx hb dX4_findNext_168 (by decide) ?_
                      refine lv_iload_n hx hb dX4_findNext_170 rfl (lv_at hl 3 rfl) ?_
                      refine lv_isub hx hb dX4_findNext_171 ?_
                      refine hv_puti (ci := 4) (C := RX4) (T := TX4) (N := 34) hx hb hts (tw_cs in_X4) tyX4 tyX4_ok nmX4 hown hK hT (rs_k0 hS) (by decide) rfl 32 (by decide) (hts _ (tw_c tw_344)) rfl rfl (x := ((-2) - (nI i))) rfl rfl dX4_findNext_172 (fun H locs hT => ?_)
                      have hI := rf_puti (f := 432) (x := ((-2) - (nI i))) rfl hI
                      have hS := hI.1
                      refine lv_aload_n hx hb dX4_findNext_175 rfl (lv_at hl 1 rfl) ?_
                      refine lv_aload_n hx hb dX4_findNext_176 rfl (lv_at hl 1 rfl) ?_
                      refine hv_gets (ci := 4) (C := RX4) (T := TX4) (N := 34) hx hb hts (tw_cs in_X4) hown hK hT (rs_k0 hS) (by decide) rfl 21 (by decide) (hts _ (tw_c tw_333)) rfl (x := (ra 21)) (rs_p21 hS) dX4_findNext_177 ?_
                      refine lv_iload_n hx hb dX4_findNext_180 rfl (lv_at hl 3 rfl) ?_
                      refine hv_iald hx hb hK hT (rs_k21 hS) (cs_in8 (rf_lt8 hI0 hlti)) dX4_findNext_181 ?_
                      refine lv_topi (fun g10 eg10 => ?_)
                      have eg10 : g10 = (hv_a vM (ra 21) i) := eg10.trans (by show hv_a vM (ra 21) (nI i).toNatClampNeg = _; rw [nI_clamp (by have := rf_lt8 hI0 hlti; omega)])
                      subst eg10
                      refine hv_puti (ci := 4) (C := RX4) (T := TX4) (N := 34) hx hb hts (tw_cs in_X4) tyX4 tyX4_ok nmX4 hown hK hT (rs_k0 hS) (by decide) rfl 33 (by decide) (hts _ (tw_c tw_345)) rfl rfl (x := (hv_a vM (ra 21) i)) rfl rfl dX4_findNext_182 (fun H locs hT => ?_)
                      have hI := rf_puti (f := 433) (x := (hv_a vM (ra 21) i)) rfl hI
                      have hS := hI.1
                      refine lv_aload_n hx hb dX4_findNext_185 rfl (lv_at hl 1 rfl) ?_
                      refine hv_gets (ci := 4) (C := RX4) (T := TX4) (N := 34) hx hb hts (tw_cs in_X4) hown hK hT (rs_k0 hS) (by decide) rfl 22 (by decide) (hts _ (tw_c tw_334)) rfl (x := (ra 22)) (rs_p22 hS) dX4_findNext_186 ?_
                      refine lv_iload_n hx hb dX4_findNext_189 rfl (lv_at hl 3 rfl) ?_
                      refine hv_iald hx hb hK hT (rs_k22 hS) (cs_in8 (rf_lt8 hI0 hlti)) dX4_findNext_190 ?_
                      refine lv_topi (fun g11 eg11 => ?_)
                      refine lv_istore_n (lv' := [(1, _), (3, _), (0, _), (2, _)]) hx hb dX4_findNext_191 rfl hl (by decide) rfl (fun ls hl => ?_)
                      refine lv_iinc (v := (nI (i + 1))) (lv' := [(2, _), (1, _), (3, _), (0, _)]) hx hb dX4_findNext_192 hl (k := 3) rfl (nI_1 _) (by decide) rfl (fun ls hl => ?_)
                      refine lv_goto (tgt := 96) hx hb dX4_findNext_195 (by decide) ?_
                      exact ih96 (i + 1) g11 (hv_si (hv_si vM 432 (ra 0) ((-2) - (nI i))) 433 (ra 0) (hv_a vM (ra 21) i)) H locs ls (by omega) (by omega) hI hf1 hT (lv_sub hl [3, 1, 0] rfl)
                · skip
                  refine lv_aload_n hx hb dX4_findNext_125 rfl (lv_at hl 0 rfl) ?_
                  refine hv_gets (ci := 4) (C := RX4) (T := TX4) (N := 34) hx hb hts (tw_cs in_X4) hown hK hT (rs_k0 hS) (by decide) rfl 21 (by decide) (hts _ (tw_c tw_333)) rfl (x := (ra 21)) (rs_p21 hS) dX4_findNext_126 ?_
                  refine lv_iload_n hx hb dX4_findNext_129 rfl (lv_at hl 2 rfl) ?_
                  refine hv_iald hx hb hK hT (rs_k21 hS) (cs_in8 (rf_lt8 hI0 hlti)) dX4_findNext_130 ?_
                  refine lv_topi (fun g12 eg12 => ?_)
                  have eg12 : g12 = (hv_a vM (ra 21) i) := eg12.trans (by show hv_a vM (ra 21) (nI i).toNatClampNeg = _; rw [nI_clamp (by have := rf_lt8 hI0 hlti; omega)])
                  subst eg12
                  refine lv_aload_n hx hb dX4_findNext_131 rfl (lv_at hl 0 rfl) ?_
                  refine hv_geti (ci := 4) (C := RX4) (T := TX4) (N := 34) hx hb hts (tw_cs in_X4) hown hK hT (rs_k0 hS) (by decide) rfl 33 (by decide) (hts _ (tw_c tw_345)) rfl dX4_findNext_132 ?_
                  refine lv_topi (fun g13 eg13 => ?_)
                  have eg13 : g13 = (hv_i vM 433 (ra 0)) := eg13.trans (rfl)
                  subst eg13
                  refine lv_icmp_ne (tgt := 152) hx hb dX4_findNext_135 (by decide) (fun c135 => ?_) (fun c135 => ?_)
                  · skip
                    refine lv_iconst (v := 0) hx hb dX4_findNext_152 (by decide) ?_
                    refine lv_istore_n (lv' := [(3, _), (0, _), (1, _), (2, _)]) hx hb dX4_findNext_153 rfl hl (by decide) rfl (fun ls hl => ?_)
                    refine lv_aload_n hx hb dX4_findNext_154 rfl (lv_at hl 1 rfl) ?_
                    refine hv_gets (ci := 4) (C := RX4) (T := TX4) (N := 34) hx hb hts (tw_cs in_X4) hown hK hT (rs_k0 hS) (by decide) rfl 21 (by decide) (hts _ (tw_c tw_333)) rfl (x := (ra 21)) (rs_p21 hS) dX4_findNext_155 ?_
                    refine lv_iload_n hx hb dX4_findNext_158 rfl (lv_at hl 3 rfl) ?_
                    refine hv_iald hx hb hK hT (rs_k21 hS) (cs_in8 (rf_lt8 hI0 hlti)) dX4_findNext_159 ?_
                    refine lv_topi (fun g14 eg14 => ?_)
                    have eg14 : g14 = (hv_a vM (ra 21) i) := eg14.trans (by show hv_a vM (ra 21) (nI i).toNatClampNeg = _; rw [nI_clamp (by have := rf_lt8 hI0 hlti; omega)])
                    subst eg14
                    refine lv_if_lt (tgt := 192) hx hb dX4_findNext_160 (by decide) (fun c160 => ?_) (fun c160 => ?_)
                    · skip
                      have hf1 := rf_f2b hI hf hlti (Or.inl c160)
                      refine lv_iinc (v := (nI (i + 1))) (lv' := [(2, _), (3, _), (0, _), (1, _)]) hx hb dX4_findNext_192 hl (k := 3) rfl (nI_1 _) (by decide) rfl (fun ls hl => ?_)
                      refine lv_goto (tgt := 96) hx hb dX4_findNext_195 (by decide) ?_
                      exact ih96 (i + 1) x1 vM H locs ls (by omega) (by omega) hI hf1 hT (lv_sub hl [2, 3, 0] rfl)
                    · skip
                      refine lv_iload_n hx hb dX4_findNext_163 rfl (lv_at hl 0 rfl) ?_
                      refine lv_if_eq (tgt := 192) hx hb dX4_findNext_164 (by decide) (fun c164 => ?_) (fun c164 => ?_)
                      · skip
                        have hf1 := rf_f2b hI hf hlti (Or.inr ⟨c109, c122⟩)
                        refine lv_iinc (v := (nI (i + 1))) (lv' := [(2, _), (3, _), (0, _), (1, _)]) hx hb dX4_findNext_192 hl (k := 3) rfl (nI_1 _) (by decide) rfl (fun ls hl => ?_)
                        refine lv_goto (tgt := 96) hx hb dX4_findNext_195 (by decide) ?_
                        exact ih96 (i + 1) x1 vM H locs ls (by omega) (by omega) hI hf1 hT (lv_sub hl [2, 3, 0] rfl)
                      · skip
                        exact absurd rfl c164
                  · skip
                    refine lv_aload_n hx hb dX4_findNext_138 rfl (lv_at hl 0 rfl) ?_
                    refine hv_gets (ci := 4) (C := RX4) (T := TX4) (N := 34) hx hb hts (tw_cs in_X4) hown hK hT (rs_k0 hS) (by decide) rfl 22 (by decide) (hts _ (tw_c tw_334)) rfl (x := (ra 22)) (rs_p22 hS) dX4_findNext_139 ?_
                    refine lv_iload_n hx hb dX4_findNext_142 rfl (lv_at hl 2 rfl) ?_
                    refine hv_iald hx hb hK hT (rs_k22 hS) (cs_in8 (rf_lt8 hI0 hlti)) dX4_findNext_143 ?_
                    refine lv_topi (fun g15 eg15 => ?_)
                    refine lv_iload_n hx hb dX4_findNext_144 rfl (lv_at hl 1 rfl) ?_
                    refine lv_icmp_ge (tgt := 152) hx hb dX4_findNext_145 (by decide) (fun c145 => ?_) (fun c145 => ?_)
                    · skip
                      refine lv_iconst (v := 0) hx hb dX4_findNext_152 (by decide) ?_
                      refine lv_istore_n (lv' := [(3, _), (0, _), (1, _), (2, _)]) hx hb dX4_findNext_153 rfl hl (by decide) rfl (fun ls hl => ?_)
                      refine lv_aload_n hx hb dX4_findNext_154 rfl (lv_at hl 1 rfl) ?_
                      refine hv_gets (ci := 4) (C := RX4) (T := TX4) (N := 34) hx hb hts (tw_cs in_X4) hown hK hT (rs_k0 hS) (by decide) rfl 21 (by decide) (hts _ (tw_c tw_333)) rfl (x := (ra 21)) (rs_p21 hS) dX4_findNext_155 ?_
                      refine lv_iload_n hx hb dX4_findNext_158 rfl (lv_at hl 3 rfl) ?_
                      refine hv_iald hx hb hK hT (rs_k21 hS) (cs_in8 (rf_lt8 hI0 hlti)) dX4_findNext_159 ?_
                      refine lv_topi (fun g16 eg16 => ?_)
                      have eg16 : g16 = (hv_a vM (ra 21) i) := eg16.trans (by show hv_a vM (ra 21) (nI i).toNatClampNeg = _; rw [nI_clamp (by have := rf_lt8 hI0 hlti; omega)])
                      subst eg16
                      refine lv_if_lt (tgt := 192) hx hb dX4_findNext_160 (by decide) (fun c160 => ?_) (fun c160 => ?_)
                      · skip
                        have hf1 := rf_f2b hI hf hlti (Or.inl c160)
                        refine lv_iinc (v := (nI (i + 1))) (lv' := [(2, _), (3, _), (0, _), (1, _)]) hx hb dX4_findNext_192 hl (k := 3) rfl (nI_1 _) (by decide) rfl (fun ls hl => ?_)
                        refine lv_goto (tgt := 96) hx hb dX4_findNext_195 (by decide) ?_
                        exact ih96 (i + 1) x1 vM H locs ls (by omega) (by omega) hI hf1 hT (lv_sub hl [2, 3, 0] rfl)
                      · skip
                        refine lv_iload_n hx hb dX4_findNext_163 rfl (lv_at hl 0 rfl) ?_
                        refine lv_if_eq (tgt := 192) hx hb dX4_findNext_164 (by decide) (fun c164 => ?_) (fun c164 => ?_)
                        · skip
                          have hf1 := rf_f2b hI hf hlti (Or.inr ⟨c109, c122⟩)
                          refine lv_iinc (v := (nI (i + 1))) (lv' := [(2, _), (3, _), (0, _), (1, _)]) hx hb dX4_findNext_192 hl (k := 3) rfl (nI_1 _) (by decide) rfl (fun ls hl => ?_)
                          refine lv_goto (tgt := 96) hx hb dX4_findNext_195 (by decide) ?_
                          exact ih96 (i + 1) x1 vM H locs ls (by omega) (by omega) hI hf1 hT (lv_sub hl [2, 3, 0] rfl)
                        · skip
                          exact absurd rfl c164
                    · skip
                      refine lv_iconst (v := 1) hx hb dX4_findNext_148 (by decide) ?_
                      refine lv_goto (tgt := 153) hx hb dX4_findNext_149 (by decide) ?_
                      refine lv_istore_n (lv' := [(3, _), (0, _), (1, _), (2, _)]) hx hb dX4_findNext_153 rfl hl (by decide) rfl (fun ls hl => ?_)
                      refine lv_aload_n hx hb dX4_findNext_154 rfl (lv_at hl 1 rfl) ?_
                      refine hv_gets (ci := 4) (C := RX4) (T := TX4) (N := 34) hx hb hts (tw_cs in_X4) hown hK hT (rs_k0 hS) (by decide) rfl 21 (by decide) (hts _ (tw_c tw_333)) rfl (x := (ra 21)) (rs_p21 hS) dX4_findNext_155 ?_
                      refine lv_iload_n hx hb dX4_findNext_158 rfl (lv_at hl 3 rfl) ?_
                      refine hv_iald hx hb hK hT (rs_k21 hS) (cs_in8 (rf_lt8 hI0 hlti)) dX4_findNext_159 ?_
                      refine lv_topi (fun g17 eg17 => ?_)
                      have eg17 : g17 = (hv_a vM (ra 21) i) := eg17.trans (by show hv_a vM (ra 21) (nI i).toNatClampNeg = _; rw [nI_clamp (by have := rf_lt8 hI0 hlti; omega)])
                      subst eg17
                      refine lv_if_lt (tgt := 192) hx hb dX4_findNext_160 (by decide) (fun c160 => ?_) (fun c160 => ?_)
                      · skip
                        have hf1 := rf_f2b hI hf hlti (Or.inl c160)
                        refine lv_iinc (v := (nI (i + 1))) (lv' := [(2, _), (3, _), (0, _), (1, _)]) hx hb dX4_findNext_192 hl (k := 3) rfl (nI_1 _) (by decide) rfl (fun ls hl => ?_)
                        refine lv_goto (tgt := 96) hx hb dX4_findNext_195 (by decide) ?_
                        exact ih96 (i + 1) x1 vM H locs ls (by omega) (by omega) hI hf1 hT (lv_sub hl [2, 3, 0] rfl)
                      · skip
                        refine lv_iload_n hx hb dX4_findNext_163 rfl (lv_at hl 0 rfl) ?_
                        refine lv_if_eq (tgt := 192) hx hb dX4_findNext_164 (by decide) (fun c164 => ?_) (fun c164 => ?_)
                        · skip
                          exact absurd c164 (by decide)
                        · skip
                          have hf1 := rf_f2a (rf_n8 hI0) (by omega) hI hf hlti c160 (Or.inr (by rw [c135]; exact Int32.le_refl _))
                          refine lv_aload_n hx hb dX4_findNext_167 rfl (lv_at hl 1 rfl) ?_
                          refine lv_bipush (v := (-2)) hx hb dX4_findNext_168 (by decide) ?_
                          refine lv_iload_n hx hb dX4_findNext_170 rfl (lv_at hl 3 rfl) ?_
                          refine lv_isub hx hb dX4_findNext_171 ?_
                          refine hv_puti (ci := 4) (C := RX4) (T := TX4) (N := 34) hx hb hts (tw_cs in_X4) tyX4 tyX4_ok nmX4 hown hK hT (rs_k0 hS) (by decide) rfl 32 (by decide) (hts _ (tw_c tw_344)) rfl rfl (x := ((-2) - (nI i))) rfl rfl dX4_findNext_172 (fun H locs hT => ?_)
                          have hI := rf_puti (f := 432) (x := ((-2) - (nI i))) rfl hI
                          have hS := hI.1
                          refine lv_aload_n hx hb dX4_findNext_175 rfl (lv_at hl 1 rfl) ?_
                          refine lv_aload_n hx hb dX4_findNext_176 rfl (lv_at hl 1 rfl) ?_
                          refine hv_gets (ci := 4) (C := RX4) (T := TX4) (N := 34) hx hb hts (tw_cs in_X4) hown hK hT (rs_k0 hS) (by decide) rfl 21 (by decide) (hts _ (tw_c tw_333)) rfl (x := (ra 21)) (rs_p21 hS) dX4_findNext_177 ?_
                          refine lv_iload_n hx hb dX4_findNext_180 rfl (lv_at hl 3 rfl) ?_
                          refine hv_iald hx hb hK hT (rs_k21 hS) (cs_in8 (rf_lt8 hI0 hlti)) dX4_findNext_181 ?_
                          refine lv_topi (fun g18 eg18 => ?_)
                          have eg18 : g18 = (hv_a vM (ra 21) i) := eg18.trans (by show hv_a vM (ra 21) (nI i).toNatClampNeg = _; rw [nI_clamp (by have := rf_lt8 hI0 hlti; omega)])
                          subst eg18
                          refine hv_puti (ci := 4) (C := RX4) (T := TX4) (N := 34) hx hb hts (tw_cs in_X4) tyX4 tyX4_ok nmX4 hown hK hT (rs_k0 hS) (by decide) rfl 33 (by decide) (hts _ (tw_c tw_345)) rfl rfl (x := (hv_a vM (ra 21) i)) rfl rfl dX4_findNext_182 (fun H locs hT => ?_)
                          have hI := rf_puti (f := 433) (x := (hv_a vM (ra 21) i)) rfl hI
                          have hS := hI.1
                          refine lv_aload_n hx hb dX4_findNext_185 rfl (lv_at hl 1 rfl) ?_
                          refine hv_gets (ci := 4) (C := RX4) (T := TX4) (N := 34) hx hb hts (tw_cs in_X4) hown hK hT (rs_k0 hS) (by decide) rfl 22 (by decide) (hts _ (tw_c tw_334)) rfl (x := (ra 22)) (rs_p22 hS) dX4_findNext_186 ?_
                          refine lv_iload_n hx hb dX4_findNext_189 rfl (lv_at hl 3 rfl) ?_
                          refine hv_iald hx hb hK hT (rs_k22 hS) (cs_in8 (rf_lt8 hI0 hlti)) dX4_findNext_190 ?_
                          refine lv_topi (fun g19 eg19 => ?_)
                          refine lv_istore_n (lv' := [(1, _), (3, _), (0, _), (2, _)]) hx hb dX4_findNext_191 rfl hl (by decide) rfl (fun ls hl => ?_)
                          refine lv_iinc (v := (nI (i + 1))) (lv' := [(2, _), (1, _), (3, _), (0, _)]) hx hb dX4_findNext_192 hl (k := 3) rfl (nI_1 _) (by decide) rfl (fun ls hl => ?_)
                          refine lv_goto (tgt := 96) hx hb dX4_findNext_195 (by decide) ?_
                          exact ih96 (i + 1) g19 (hv_si (hv_si vM 432 (ra 0) ((-2) - (nI i))) 433 (ra 0) (hv_a vM (ra 21) i)) H locs ls (by omega) (by omega) hI hf1 hT (lv_sub hl [3, 1, 0] rfl)
        exact hL96 (n + 1) 0 x1 vL H locs ls (Nat.zero_le _) (by omega) hI (by rw [← cs_ex hlem9 hm6 c19]; exact hf) hT (lv_sub hl [1, 2, 0] rfl)
      · skip
        have hltm9 : m9 < nm := cs_lp6 hlem9 hm6 c19
        refine lv_aload_n hx hb dX4_findNext_22 rfl (lv_at hl 0 rfl) ?_
        refine hv_geti (ci := 4) (C := RX4) (T := TX4) (N := 34) hx hb hts (tw_cs in_X4) hown hK hT (rs_k0 hS) (by decide) rfl 32 (by decide) (hts _ (tw_c tw_344)) rfl dX4_findNext_23 ?_
        refine lv_topi (fun g20 eg20 => ?_)
        have eg20 : g20 = (hv_i vL 432 (ra 0)) := eg20.trans (rfl)
        subst eg20
        refine lv_iconst (v := (-1)) hx hb dX4_findNext_26 (by decide) ?_
        refine lv_icmp_eq (tgt := 66) hx hb dX4_findNext_27 (by decide) (fun c27 => ?_) (fun c27 => ?_)
        · skip
          have hf1 := rf_f1a hI hf hltm9 (Or.inl ⟨c27, rf_f0 hf (by omega) c27⟩)
          refine lv_aload_n hx hb dX4_findNext_66 rfl (lv_at hl 0 rfl) ?_
          refine lv_iload_n hx hb dX4_findNext_67 rfl (lv_at hl 2 rfl) ?_
          refine hv_puti (ci := 4) (C := RX4) (T := TX4) (N := 34) hx hb hts (tw_cs in_X4) tyX4 tyX4_ok nmX4 hown hK hT (rs_k0 hS) (by decide) rfl 32 (by decide) (hts _ (tw_c tw_344)) rfl rfl (x := (nI m9)) rfl rfl dX4_findNext_68 (fun H locs hT => ?_)
          have hI := rf_puti (f := 432) (x := (nI m9)) rfl hI
          have hS := hI.1
          refine lv_aload_n hx hb dX4_findNext_71 rfl (lv_at hl 0 rfl) ?_
          refine lv_aload_n hx hb dX4_findNext_72 rfl (lv_at hl 0 rfl) ?_
          refine hv_gets (ci := 4) (C := RX4) (T := TX4) (N := 34) hx hb hts (tw_cs in_X4) hown hK hT (rs_k0 hS) (by decide) rfl 28 (by decide) (hts _ (tw_c tw_340)) rfl (x := (ra 28)) (rs_p28 hS) dX4_findNext_73 ?_
          refine lv_iload_n hx hb dX4_findNext_76 rfl (lv_at hl 2 rfl) ?_
          refine hv_iald hx hb hK hT (rs_k28 hS) (rf_in6 (Nat.lt_trans hltm9 hm6)) dX4_findNext_77 ?_
          refine lv_topi (fun g21 eg21 => ?_)
          have eg21 : g21 = (hv_a vL (ra 28) m9) := eg21.trans (by show hv_a vL (ra 28) (nI m9).toNatClampNeg = _; rw [nI_clamp (by omega)])
          subst eg21
          refine hv_puti (ci := 4) (C := RX4) (T := TX4) (N := 34) hx hb hts (tw_cs in_X4) tyX4 tyX4_ok nmX4 hown hK hT (rs_k0 hS) (by decide) rfl 33 (by decide) (hts _ (tw_c tw_345)) rfl rfl (x := (hv_a vL (ra 28) m9)) rfl rfl dX4_findNext_78 (fun H locs hT => ?_)
          have hI := rf_puti (f := 433) (x := (hv_a vL (ra 28) m9)) rfl hI
          have hS := hI.1
          refine lv_aload_n hx hb dX4_findNext_81 rfl (lv_at hl 0 rfl) ?_
          refine hv_gets (ci := 4) (C := RX4) (T := TX4) (N := 34) hx hb hts (tw_cs in_X4) hown hK hT (rs_k0 hS) (by decide) rfl 29 (by decide) (hts _ (tw_c tw_341)) rfl (x := (ra 29)) (rs_p29 hS) dX4_findNext_82 ?_
          refine lv_iload_n hx hb dX4_findNext_85 rfl (lv_at hl 2 rfl) ?_
          refine hv_iald hx hb hK hT (rs_k29 hS) (rf_in6 (Nat.lt_trans hltm9 hm6)) dX4_findNext_86 ?_
          refine lv_topi (fun g22 eg22 => ?_)
          refine lv_istore_n (lv' := [(1, _), (0, _), (2, _)]) hx hb dX4_findNext_87 rfl hl (by decide) rfl (fun ls hl => ?_)
          refine lv_iinc (v := (nI (m9 + 1))) (lv' := [(2, _), (1, _), (0, _)]) hx hb dX4_findNext_88 hl (k := 2) rfl (nI_1 _) (by decide) rfl (fun ls hl => ?_)
          refine lv_goto (tgt := 14) hx hb dX4_findNext_91 (by decide) ?_
          exact ih14 (m9 + 1) g22 (hv_si (hv_si vL 432 (ra 0) (nI m9)) 433 (ra 0) (hv_a vL (ra 28) m9)) H locs ls (by omega) (by omega) hI hf1 hT (lv_sub hl [2, 1, 0] rfl)
        · skip
          refine lv_aload_n hx hb dX4_findNext_30 rfl (lv_at hl 0 rfl) ?_
          refine hv_gets (ci := 4) (C := RX4) (T := TX4) (N := 34) hx hb hts (tw_cs in_X4) hown hK hT (rs_k0 hS) (by decide) rfl 28 (by decide) (hts _ (tw_c tw_340)) rfl (x := (ra 28)) (rs_p28 hS) dX4_findNext_31 ?_
          refine lv_iload_n hx hb dX4_findNext_34 rfl (lv_at hl 2 rfl) ?_
          refine hv_iald hx hb hK hT (rs_k28 hS) (rf_in6 (Nat.lt_trans hltm9 hm6)) dX4_findNext_35 ?_
          refine lv_topi (fun g23 eg23 => ?_)
          have eg23 : g23 = (hv_a vL (ra 28) m9) := eg23.trans (by show hv_a vL (ra 28) (nI m9).toNatClampNeg = _; rw [nI_clamp (by omega)])
          subst eg23
          refine lv_aload_n hx hb dX4_findNext_36 rfl (lv_at hl 0 rfl) ?_
          refine hv_geti (ci := 4) (C := RX4) (T := TX4) (N := 34) hx hb hts (tw_cs in_X4) hown hK hT (rs_k0 hS) (by decide) rfl 33 (by decide) (hts _ (tw_c tw_345)) rfl dX4_findNext_37 ?_
          refine lv_topi (fun g24 eg24 => ?_)
          have eg24 : g24 = (hv_i vL 433 (ra 0)) := eg24.trans (rfl)
          subst eg24
          refine lv_icmp_lt (tgt := 66) hx hb dX4_findNext_40 (by decide) (fun c40 => ?_) (fun c40 => ?_)
          · skip
            have hf1 := rf_f1a hI hf hltm9 (Or.inr (Int32.le_of_lt c40))
            refine lv_aload_n hx hb dX4_findNext_66 rfl (lv_at hl 0 rfl) ?_
            refine lv_iload_n hx hb dX4_findNext_67 rfl (lv_at hl 2 rfl) ?_
            refine hv_puti (ci := 4) (C := RX4) (T := TX4) (N := 34) hx hb hts (tw_cs in_X4) tyX4 tyX4_ok nmX4 hown hK hT (rs_k0 hS) (by decide) rfl 32 (by decide) (hts _ (tw_c tw_344)) rfl rfl (x := (nI m9)) rfl rfl dX4_findNext_68 (fun H locs hT => ?_)
            have hI := rf_puti (f := 432) (x := (nI m9)) rfl hI
            have hS := hI.1
            refine lv_aload_n hx hb dX4_findNext_71 rfl (lv_at hl 0 rfl) ?_
            refine lv_aload_n hx hb dX4_findNext_72 rfl (lv_at hl 0 rfl) ?_
            refine hv_gets (ci := 4) (C := RX4) (T := TX4) (N := 34) hx hb hts (tw_cs in_X4) hown hK hT (rs_k0 hS) (by decide) rfl 28 (by decide) (hts _ (tw_c tw_340)) rfl (x := (ra 28)) (rs_p28 hS) dX4_findNext_73 ?_
            refine lv_iload_n hx hb dX4_findNext_76 rfl (lv_at hl 2 rfl) ?_
            refine hv_iald hx hb hK hT (rs_k28 hS) (rf_in6 (Nat.lt_trans hltm9 hm6)) dX4_findNext_77 ?_
            refine lv_topi (fun g25 eg25 => ?_)
            have eg25 : g25 = (hv_a vL (ra 28) m9) := eg25.trans (by show hv_a vL (ra 28) (nI m9).toNatClampNeg = _; rw [nI_clamp (by omega)])
            subst eg25
            refine hv_puti (ci := 4) (C := RX4) (T := TX4) (N := 34) hx hb hts (tw_cs in_X4) tyX4 tyX4_ok nmX4 hown hK hT (rs_k0 hS) (by decide) rfl 33 (by decide) (hts _ (tw_c tw_345)) rfl rfl (x := (hv_a vL (ra 28) m9)) rfl rfl dX4_findNext_78 (fun H locs hT => ?_)
            have hI := rf_puti (f := 433) (x := (hv_a vL (ra 28) m9)) rfl hI
            have hS := hI.1
            refine lv_aload_n hx hb dX4_findNext_81 rfl (lv_at hl 0 rfl) ?_
            refine hv_gets (ci := 4) (C := RX4) (T := TX4) (N := 34) hx hb hts (tw_cs in_X4) hown hK hT (rs_k0 hS) (by decide) rfl 29 (by decide) (hts _ (tw_c tw_341)) rfl (x := (ra 29)) (rs_p29 hS) dX4_findNext_82 ?_
            refine lv_iload_n hx hb dX4_findNext_85 rfl (lv_at hl 2 rfl) ?_
            refine hv_iald hx hb hK hT (rs_k29 hS) (rf_in6 (Nat.lt_trans hltm9 hm6)) dX4_findNext_86 ?_
            refine lv_topi (fun g26 eg26 => ?_)
            refine lv_istore_n (lv' := [(1, _), (0, _), (2, _)]) hx hb dX4_findNext_87 rfl hl (by decide) rfl (fun ls hl => ?_)
            refine lv_iinc (v := (nI (m9 + 1))) (lv' := [(2, _), (1, _), (0, _)]) hx hb dX4_findNext_88 hl (k := 2) rfl (nI_1 _) (by decide) rfl (fun ls hl => ?_)
            refine lv_goto (tgt := 14) hx hb dX4_findNext_91 (by decide) ?_
            exact ih14 (m9 + 1) g26 (hv_si (hv_si vL 432 (ra 0) (nI m9)) 433 (ra 0) (hv_a vL (ra 28) m9)) H locs ls (by omega) (by omega) hI hf1 hT (lv_sub hl [2, 1, 0] rfl)
          · skip
            refine lv_aload_n hx hb dX4_findNext_43 rfl (lv_at hl 0 rfl) ?_
            refine hv_gets (ci := 4) (C := RX4) (T := TX4) (N := 34) hx hb hts (tw_cs in_X4) hown hK hT (rs_k0 hS) (by decide) rfl 28 (by decide) (hts _ (tw_c tw_340)) rfl (x := (ra 28)) (rs_p28 hS) dX4_findNext_44 ?_
            refine lv_iload_n hx hb dX4_findNext_47 rfl (lv_at hl 2 rfl) ?_
            refine hv_iald hx hb hK hT (rs_k28 hS) (rf_in6 (Nat.lt_trans hltm9 hm6)) dX4_findNext_48 ?_
            refine lv_topi (fun g27 eg27 => ?_)
            have eg27 : g27 = (hv_a vL (ra 28) m9) := eg27.trans (by show hv_a vL (ra 28) (nI m9).toNatClampNeg = _; rw [nI_clamp (by omega)])
            subst eg27
            refine lv_aload_n hx hb dX4_findNext_49 rfl (lv_at hl 0 rfl) ?_
            refine hv_geti (ci := 4) (C := RX4) (T := TX4) (N := 34) hx hb hts (tw_cs in_X4) hown hK hT (rs_k0 hS) (by decide) rfl 33 (by decide) (hts _ (tw_c tw_345)) rfl dX4_findNext_50 ?_
            refine lv_topi (fun g28 eg28 => ?_)
            have eg28 : g28 = (hv_i vL 433 (ra 0)) := eg28.trans (rfl)
            subst eg28
            refine lv_icmp_ne (tgt := 88) hx hb dX4_findNext_53 (by decide) (fun c53 => ?_) (fun c53 => ?_)
            · skip
              have hf1 := rf_f1b hI hf hltm9 c27 c40
              refine lv_iinc (v := (nI (m9 + 1))) (lv' := [(2, _), (0, _), (1, _)]) hx hb dX4_findNext_88 hl (k := 2) rfl (nI_1 _) (by decide) rfl (fun ls hl => ?_)
              refine lv_goto (tgt := 14) hx hb dX4_findNext_91 (by decide) ?_
              exact ih14 (m9 + 1) x1 vL H locs ls (by omega) (by omega) hI hf1 hT (lv_sub hl [1, 2, 0] rfl)
            · skip
              refine lv_aload_n hx hb dX4_findNext_56 rfl (lv_at hl 0 rfl) ?_
              refine hv_gets (ci := 4) (C := RX4) (T := TX4) (N := 34) hx hb hts (tw_cs in_X4) hown hK hT (rs_k0 hS) (by decide) rfl 29 (by decide) (hts _ (tw_c tw_341)) rfl (x := (ra 29)) (rs_p29 hS) dX4_findNext_57 ?_
              refine lv_iload_n hx hb dX4_findNext_60 rfl (lv_at hl 2 rfl) ?_
              refine hv_iald hx hb hK hT (rs_k29 hS) (rf_in6 (Nat.lt_trans hltm9 hm6)) dX4_findNext_61 ?_
              refine lv_topi (fun g29 eg29 => ?_)
              refine lv_iload_n hx hb dX4_findNext_62 rfl (lv_at hl 1 rfl) ?_
              refine lv_icmp_ge (tgt := 88) hx hb dX4_findNext_63 (by decide) (fun c63 => ?_) (fun c63 => ?_)
              · skip
                have hf1 := rf_f1b hI hf hltm9 c27 c40
                refine lv_iinc (v := (nI (m9 + 1))) (lv' := [(2, _), (0, _), (1, _)]) hx hb dX4_findNext_88 hl (k := 2) rfl (nI_1 _) (by decide) rfl (fun ls hl => ?_)
                refine lv_goto (tgt := 14) hx hb dX4_findNext_91 (by decide) ?_
                exact ih14 (m9 + 1) x1 vL H locs ls (by omega) (by omega) hI hf1 hT (lv_sub hl [1, 2, 0] rfl)
              · skip
                have hf1 := rf_f1a hI hf hltm9 (Or.inr (by rw [c53]; exact Int32.le_refl _))
                refine lv_aload_n hx hb dX4_findNext_66 rfl (lv_at hl 0 rfl) ?_
                refine lv_iload_n hx hb dX4_findNext_67 rfl (lv_at hl 2 rfl) ?_
                refine hv_puti (ci := 4) (C := RX4) (T := TX4) (N := 34) hx hb hts (tw_cs in_X4) tyX4 tyX4_ok nmX4 hown hK hT (rs_k0 hS) (by decide) rfl 32 (by decide) (hts _ (tw_c tw_344)) rfl rfl (x := (nI m9)) rfl rfl dX4_findNext_68 (fun H locs hT => ?_)
                have hI := rf_puti (f := 432) (x := (nI m9)) rfl hI
                have hS := hI.1
                refine lv_aload_n hx hb dX4_findNext_71 rfl (lv_at hl 0 rfl) ?_
                refine lv_aload_n hx hb dX4_findNext_72 rfl (lv_at hl 0 rfl) ?_
                refine hv_gets (ci := 4) (C := RX4) (T := TX4) (N := 34) hx hb hts (tw_cs in_X4) hown hK hT (rs_k0 hS) (by decide) rfl 28 (by decide) (hts _ (tw_c tw_340)) rfl (x := (ra 28)) (rs_p28 hS) dX4_findNext_73 ?_
                refine lv_iload_n hx hb dX4_findNext_76 rfl (lv_at hl 2 rfl) ?_
                refine hv_iald hx hb hK hT (rs_k28 hS) (rf_in6 (Nat.lt_trans hltm9 hm6)) dX4_findNext_77 ?_
                refine lv_topi (fun g30 eg30 => ?_)
                have eg30 : g30 = (hv_a vL (ra 28) m9) := eg30.trans (by show hv_a vL (ra 28) (nI m9).toNatClampNeg = _; rw [nI_clamp (by omega)])
                subst eg30
                refine hv_puti (ci := 4) (C := RX4) (T := TX4) (N := 34) hx hb hts (tw_cs in_X4) tyX4 tyX4_ok nmX4 hown hK hT (rs_k0 hS) (by decide) rfl 33 (by decide) (hts _ (tw_c tw_345)) rfl rfl (x := (hv_a vL (ra 28) m9)) rfl rfl dX4_findNext_78 (fun H locs hT => ?_)
                have hI := rf_puti (f := 433) (x := (hv_a vL (ra 28) m9)) rfl hI
                have hS := hI.1
                refine lv_aload_n hx hb dX4_findNext_81 rfl (lv_at hl 0 rfl) ?_
                refine hv_gets (ci := 4) (C := RX4) (T := TX4) (N := 34) hx hb hts (tw_cs in_X4) hown hK hT (rs_k0 hS) (by decide) rfl 29 (by decide) (hts _ (tw_c tw_341)) rfl (x := (ra 29)) (rs_p29 hS) dX4_findNext_82 ?_
                refine lv_iload_n hx hb dX4_findNext_85 rfl (lv_at hl 2 rfl) ?_
                refine hv_iald hx hb hK hT (rs_k29 hS) (rf_in6 (Nat.lt_trans hltm9 hm6)) dX4_findNext_86 ?_
                refine lv_topi (fun g31 eg31 => ?_)
                refine lv_istore_n (lv' := [(1, _), (0, _), (2, _)]) hx hb dX4_findNext_87 rfl hl (by decide) rfl (fun ls hl => ?_)
                refine lv_iinc (v := (nI (m9 + 1))) (lv' := [(2, _), (1, _), (0, _)]) hx hb dX4_findNext_88 hl (k := 2) rfl (nI_1 _) (by decide) rfl (fun ls hl => ?_)
                refine lv_goto (tgt := 14) hx hb dX4_findNext_91 (by decide) ?_
                exact ih14 (m9 + 1) g31 (hv_si (hv_si vL 432 (ra 0) (nI m9)) 433 (ra 0) (hv_a vL (ra 28) m9)) H locs ls (by omega) (by omega) hI hf1 hT (lv_sub hl [2, 1, 0] rfl)
  exact hL14 (nm + 1) 0 0 (hv_si (hv_si v 432 (ra 0) (-1)) 433 (ra 0) 0) H locs ls (Nat.zero_le _) (by omega) hI (Or.inl ⟨rfl, by simp [hv_si_i], fun j hj => by omega⟩) hT (lv_sub hl [2, 1, 0] rfl)

set_option maxHeartbeats 4000000 in
set_option maxRecDepth 100000 in
theorem m_takeM (l : Launch) (D : va_G) (tc : Nat → ClassId) {ra gh : Nat → Nat} {n B t m9 : Nat} {st dg F kd : Nat → Nat} {v : hv_V} (hI : rf_J ra gh n 1 B t (m9 + 1) st dg F kd v) {k T : Nat} (hk : k < m9 + 1) (h432 : hv_i v 432 (ra 0) = nI k) (h433 : hv_i v 433 (ra 0) = nI T) (hT4 : T ≤ 4000) (h28 : hv_a v (ra 28) k = nI T) (hm : ∀ k, k < m9 + 1 → ∃ x, T ≤ x ∧ x ≤ 5000 ∧ hv_a v (ra 28) k = nI x) (htm : ∀ j, j < n → hv_a v (ra 21) j = -1 ∨ ∃ x, T ≤ x ∧ x ≤ 5000 ∧ hv_a v (ra 21) j = nI x) (h479 : B < 479000) : Met l yX4_take (Cond.code yX4_take cX4_take 7 (some .boolean) :: lw_B) ({ frames := 7, cells := 0, slots := 0, locals := 164 }) (va_Pc [.ref (ra 0)] (hv_Pre D tc v)) (va_Qi (fun (r : Int32) (v1 : hv_V) => ∃ B1 nm1 st1 dg1 F1 kd1, B1 < B ∧ rf_J ra gh n 1 B1 T nm1 st1 dg1 F1 kd1 v1) (hv_Post D tc (hv_A v)) (hv_A v)) (0) (0) (hv_A v) := by
  refine hv_meti l (by decide) (Nat.le_of_ble_eq_true rfl) ?_
  intro p e s m args below meth c Q X hret hK hz H locs ls hT hl
  obtain ⟨hx, hb, hml, hts, hown, hin0⟩ := X
  have hown : s.vm.findClass "CommitSitesModel" = some m.cls := hown
  have hl : lv_has ls 7 [(0, .ref (ra 0))] := hl
  have hS := hI.1
  have hI0 := hI
  have hnm := rf_nm hI
  have hm6 : m9 < 60000 := by omega
  have hk6 : k < 60000 := by omega
  have hcm : (nI m9).toNatClampNeg = m9 := nI_clamp (by omega)
  have hck : (nI k).toNatClampNeg = k := nI_clamp (by omega)
  have hwB := rf_wB hI hk
  have hw8 := rf_wt8 (kd k)
  obtain ⟨⟨to9, hto, h25⟩, ⟨fr, hfr, h24⟩, ⟨y9, hy9, hy5, hy28⟩, ⟨sv, hsv, h27⟩, h23, hkd⟩ := rf_msg hI hk
  have h1T : t ≤ T := by
    have := (nI_eq (by omega) (by omega)).mp (hy28.symm.trans h28)
    omega
  refine lv_aload_n hx hb dX4_take_0 rfl (lv_at hl 0 rfl) ?_
  refine lv_aload_n hx hb dX4_take_1 rfl (lv_at hl 0 rfl) ?_
  refine hv_geti (ci := 4) (C := RX4) (T := TX4) (N := 34) hx hb hts (tw_cs in_X4) hown hK hT (rs_k0 hS) (by decide) rfl 33 (by decide) (hts _ (tw_c tw_345)) rfl dX4_take_2 ?_
  refine lv_topi (fun g1 eg1 => ?_)
  have eg1 : g1 = (nI T) := eg1.trans (by exact h433)
  subst eg1
  refine hv_puti (ci := 4) (C := RX4) (T := TX4) (N := 34) hx hb hts (tw_cs in_X4) tyX4 tyX4_ok nmX4 hown hK hT (rs_k0 hS) (by decide) rfl 8 (by decide) (hts _ (tw_c tw_320)) rfl rfl (x := (nI T)) rfl rfl dX4_take_5 (fun H locs hT => ?_)
  have hI := rf_now hI h1T hT4 hm htm
  have hS := hI.1
  refine lv_aload_n hx hb dX4_take_8 rfl (lv_at hl 0 rfl) ?_
  refine hv_geti (ci := 4) (C := RX4) (T := TX4) (N := 34) hx hb hts (tw_cs in_X4) hown hK hT (rs_k0 hS) (by decide) rfl 32 (by decide) (hts _ (tw_c tw_344)) rfl dX4_take_9 ?_
  refine lv_topi (fun g2 eg2 => ?_)
  have eg2 : g2 = (nI k) := eg2.trans (by first | exact h432 | simp [hv_si_i, h432])
  subst eg2
  refine lv_if_ge (tgt := 50) hx hb dX4_take_12 (by decide) (fun c12 => ?_) (fun c12 => ?_)
  · skip
    refine lv_aload_n hx hb dX4_take_50 rfl (lv_at hl 0 rfl) ?_
    refine hv_geti (ci := 4) (C := RX4) (T := TX4) (N := 34) hx hb hts (tw_cs in_X4) hown hK hT (rs_k0 hS) (by decide) rfl 32 (by decide) (hts _ (tw_c tw_344)) rfl dX4_take_51 ?_
    refine lv_topi (fun g3 eg3 => ?_)
    have eg3 : g3 = (nI k) := eg3.trans (by first | exact h432 | simp [hv_si_i, h432])
    subst eg3
    refine lv_istore_n (lv' := [(1, _), (0, _)]) hx hb dX4_take_54 rfl hl (by decide) rfl (fun ls hl => ?_)
    refine lv_aload_n hx hb dX4_take_55 rfl (lv_at hl 1 rfl) ?_
    refine hv_gets (ci := 4) (C := RX4) (T := TX4) (N := 34) hx hb hts (tw_cs in_X4) hown hK hT (rs_k0 hS) (by decide) rfl 23 (by decide) (hts _ (tw_c tw_335)) rfl (x := (ra 23)) (rs_p23 hS) dX4_take_56 ?_
    refine lv_iload_n hx hb dX4_take_59 rfl (lv_at hl 0 rfl) ?_
    refine hv_iald hx hb hK hT (rs_k23 hS) (rf_in6 hk6) dX4_take_60 ?_
    refine lv_topi (fun g4 eg4 => ?_)
    have eg4 : g4 = (nI (kd k)) := eg4.trans (by show hv_a v (ra 23) (nI k).toNatClampNeg = _; rw [hck]; exact h23)
    subst eg4
    refine lv_istore_n (lv' := [(2, _), (1, _), (0, _)]) hx hb dX4_take_61 rfl hl (by decide) rfl (fun ls hl => ?_)
    refine lv_aload_n hx hb dX4_take_62 rfl (lv_at hl 2 rfl) ?_
    refine hv_gets (ci := 4) (C := RX4) (T := TX4) (N := 34) hx hb hts (tw_cs in_X4) hown hK hT (rs_k0 hS) (by decide) rfl 24 (by decide) (hts _ (tw_c tw_336)) rfl (x := (ra 24)) (rs_p24 hS) dX4_take_63 ?_
    refine lv_iload_n hx hb dX4_take_66 rfl (lv_at hl 1 rfl) ?_
    refine hv_iald hx hb hK hT (rs_k24 hS) (rf_in6 hk6) dX4_take_67 ?_
    refine lv_topi (fun g5 eg5 => ?_)
    have eg5 : g5 = (nI fr) := eg5.trans (by show hv_a v (ra 24) (nI k).toNatClampNeg = _; rw [hck]; exact h24)
    subst eg5
    refine lv_istore_n (lv' := [(3, _), (2, _), (1, _), (0, _)]) hx hb dX4_take_68 rfl hl (by decide) rfl (fun ls hl => ?_)
    refine lv_aload_n hx hb dX4_take_69 rfl (lv_at hl 3 rfl) ?_
    refine hv_gets (ci := 4) (C := RX4) (T := TX4) (N := 34) hx hb hts (tw_cs in_X4) hown hK hT (rs_k0 hS) (by decide) rfl 25 (by decide) (hts _ (tw_c tw_337)) rfl (x := (ra 25)) (rs_p25 hS) dX4_take_70 ?_
    refine lv_iload_n hx hb dX4_take_73 rfl (lv_at hl 2 rfl) ?_
    refine hv_iald hx hb hK hT (rs_k25 hS) (rf_in6 hk6) dX4_take_74 ?_
    refine lv_topi (fun g6 eg6 => ?_)
    have eg6 : g6 = (nI to9) := eg6.trans (by show hv_a v (ra 25) (nI k).toNatClampNeg = _; rw [hck]; exact h25)
    subst eg6
    refine lv_istore (lv' := [(4, _), (3, _), (2, _), (1, _), (0, _)]) hx hb dX4_take_75 hl (by decide) rfl (fun ls hl => ?_)
    refine lv_aload_n hx hb dX4_take_77 rfl (lv_at hl 4 rfl) ?_
    refine hv_gets (ci := 4) (C := RX4) (T := TX4) (N := 34) hx hb hts (tw_cs in_X4) hown hK hT (rs_k0 hS) (by decide) rfl 26 (by decide) (hts _ (tw_c tw_338)) rfl (x := (ra 26)) (rs_p26 hS) dX4_take_78 ?_
    refine lv_iload_n hx hb dX4_take_81 rfl (lv_at hl 3 rfl) ?_
    refine hv_iald hx hb hK hT (rs_k26 hS) (rf_in6 hk6) dX4_take_82 ?_
    refine lv_topi (fun g7 eg7 => ?_)
    refine lv_istore (lv' := [(5, _), (4, _), (3, _), (2, _), (1, _), (0, _)]) hx hb dX4_take_83 hl (by decide) rfl (fun ls hl => ?_)
    refine lv_aload_n hx hb dX4_take_85 rfl (lv_at hl 5 rfl) ?_
    refine hv_gets (ci := 4) (C := RX4) (T := TX4) (N := 34) hx hb hts (tw_cs in_X4) hown hK hT (rs_k0 hS) (by decide) rfl 27 (by decide) (hts _ (tw_c tw_339)) rfl (x := (ra 27)) (rs_p27 hS) dX4_take_86 ?_
    refine lv_iload_n hx hb dX4_take_89 rfl (lv_at hl 4 rfl) ?_
    refine hv_iald hx hb hK hT (rs_k27 hS) (rf_in6 hk6) dX4_take_90 ?_
    refine lv_topi (fun g8 eg8 => ?_)
    have eg8 : g8 = (nI sv) := eg8.trans (by show hv_a v (ra 27) (nI k).toNatClampNeg = _; rw [hck]; exact h27)
    subst eg8
    refine lv_istore (lv' := [(6, _), (5, _), (4, _), (3, _), (2, _), (1, _), (0, _)]) hx hb dX4_take_91 hl (by decide) rfl (fun ls hl => ?_)
    refine lv_aload_n hx hb dX4_take_93 rfl (lv_at hl 6 rfl) ?_
    refine lv_dup hx hb dX4_take_94 rfl ?_
    refine hv_geti (ci := 4) (C := RX4) (T := TX4) (N := 34) hx hb hts (tw_cs in_X4) hown hK hT (rs_k0 hS) (by decide) rfl 30 (by decide) (hts _ (tw_c tw_342)) rfl dX4_take_95 ?_
    refine lv_topi (fun g9 eg9 => ?_)
    have eg9 : g9 = (nI (m9 + 1)) := by rw [eg9]; exact rf_hm hI
    subst eg9
    refine lv_iconst (v := 1) hx hb dX4_take_98 (by decide) ?_
    refine lv_isub hx hb dX4_take_99 ?_
    refine hv_as (x := ((nI (m9 + 1)) - 1)) (y := (nI m9)) (nI_pred _) ?_
    refine hv_puti (ci := 4) (C := RX4) (T := TX4) (N := 34) hx hb hts (tw_cs in_X4) tyX4 tyX4_ok nmX4 hown hK hT (rs_k0 hS) (by decide) rfl 30 (by decide) (hts _ (tw_c tw_342)) rfl rfl (x := (nI m9)) rfl rfl dX4_take_100 (fun H locs hT => ?_)
    refine lv_aload_n hx hb dX4_take_103 rfl (lv_at hl 6 rfl) ?_
    refine hv_gets (ci := 4) (C := RX4) (T := TX4) (N := 34) hx hb hts (tw_cs in_X4) hown hK hT (rs_k0 hS) (by decide) rfl 23 (by decide) (hts _ (tw_c tw_335)) rfl (x := (ra 23)) (rs_p23 hS) dX4_take_104 ?_
    refine lv_iload_n hx hb dX4_take_107 rfl (lv_at hl 5 rfl) ?_
    refine lv_aload_n hx hb dX4_take_108 rfl (lv_at hl 6 rfl) ?_
    refine hv_gets (ci := 4) (C := RX4) (T := TX4) (N := 34) hx hb hts (tw_cs in_X4) hown hK hT (rs_k0 hS) (by decide) rfl 23 (by decide) (hts _ (tw_c tw_335)) rfl (x := (ra 23)) (rs_p23 hS) dX4_take_109 ?_
    refine lv_aload_n hx hb dX4_take_112 rfl (lv_at hl 6 rfl) ?_
    refine hv_geti (ci := 4) (C := RX4) (T := TX4) (N := 34) hx hb hts (tw_cs in_X4) hown hK hT (rs_k0 hS) (by decide) rfl 30 (by decide) (hts _ (tw_c tw_342)) rfl dX4_take_113 ?_
    refine lv_topi (fun g10 eg10 => ?_)
    have eg10 : g10 = (nI m9) := eg10.trans (by simp [hv_si_i, hv_sa_i])
    subst eg10
    refine hv_iald hx hb hK hT (rs_k23 hS) (rf_in6 hm6) dX4_take_116 ?_
    refine lv_topi (fun g11 eg11 => ?_)
    have eg11 : g11 = (hv_a v (ra 23) m9) := eg11.trans (by simp [hv_sa_a, hv_si_a, hcm, rs_nn hI0.1 23 24 rfl, rs_nn hI0.1 23 25 rfl, rs_nn hI0.1 23 26 rfl, rs_nn hI0.1 23 27 rfl, rs_nn hI0.1 23 28 rfl, rs_nn hI0.1 23 29 rfl])
    subst eg11
    refine hv_iast (x := (hv_a v (ra 23) m9)) hx hb hK hT (rs_k23 hS) (rf_in6 hk6) dX4_take_117 (fun H locs hT => ?_)
    refine lv_aload_n hx hb dX4_take_118 rfl (lv_at hl 6 rfl) ?_
    refine hv_gets (ci := 4) (C := RX4) (T := TX4) (N := 34) hx hb hts (tw_cs in_X4) hown hK hT (rs_k0 hS) (by decide) rfl 24 (by decide) (hts _ (tw_c tw_336)) rfl (x := (ra 24)) (rs_p24 hS) dX4_take_119 ?_
    refine lv_iload_n hx hb dX4_take_122 rfl (lv_at hl 5 rfl) ?_
    refine lv_aload_n hx hb dX4_take_123 rfl (lv_at hl 6 rfl) ?_
    refine hv_gets (ci := 4) (C := RX4) (T := TX4) (N := 34) hx hb hts (tw_cs in_X4) hown hK hT (rs_k0 hS) (by decide) rfl 24 (by decide) (hts _ (tw_c tw_336)) rfl (x := (ra 24)) (rs_p24 hS) dX4_take_124 ?_
    refine lv_aload_n hx hb dX4_take_127 rfl (lv_at hl 6 rfl) ?_
    refine hv_geti (ci := 4) (C := RX4) (T := TX4) (N := 34) hx hb hts (tw_cs in_X4) hown hK hT (rs_k0 hS) (by decide) rfl 30 (by decide) (hts _ (tw_c tw_342)) rfl dX4_take_128 ?_
    refine lv_topi (fun g12 eg12 => ?_)
    have eg12 : g12 = (nI m9) := eg12.trans (by simp [hv_si_i, hv_sa_i])
    subst eg12
    refine hv_iald hx hb hK hT (rs_k24 hS) (rf_in6 hm6) dX4_take_131 ?_
    refine lv_topi (fun g13 eg13 => ?_)
    have eg13 : g13 = (hv_a v (ra 24) m9) := eg13.trans (by simp [hv_sa_a, hv_si_a, hcm, rs_nn hI0.1 24 23 rfl, rs_nn hI0.1 24 25 rfl, rs_nn hI0.1 24 26 rfl, rs_nn hI0.1 24 27 rfl, rs_nn hI0.1 24 28 rfl, rs_nn hI0.1 24 29 rfl])
    subst eg13
    refine hv_iast (x := (hv_a v (ra 24) m9)) hx hb hK hT (rs_k24 hS) (rf_in6 hk6) dX4_take_132 (fun H locs hT => ?_)
    refine lv_aload_n hx hb dX4_take_133 rfl (lv_at hl 6 rfl) ?_
    refine hv_gets (ci := 4) (C := RX4) (T := TX4) (N := 34) hx hb hts (tw_cs in_X4) hown hK hT (rs_k0 hS) (by decide) rfl 25 (by decide) (hts _ (tw_c tw_337)) rfl (x := (ra 25)) (rs_p25 hS) dX4_take_134 ?_
    refine lv_iload_n hx hb dX4_take_137 rfl (lv_at hl 5 rfl) ?_
    refine lv_aload_n hx hb dX4_take_138 rfl (lv_at hl 6 rfl) ?_
    refine hv_gets (ci := 4) (C := RX4) (T := TX4) (N := 34) hx hb hts (tw_cs in_X4) hown hK hT (rs_k0 hS) (by decide) rfl 25 (by decide) (hts _ (tw_c tw_337)) rfl (x := (ra 25)) (rs_p25 hS) dX4_take_139 ?_
    refine lv_aload_n hx hb dX4_take_142 rfl (lv_at hl 6 rfl) ?_
    refine hv_geti (ci := 4) (C := RX4) (T := TX4) (N := 34) hx hb hts (tw_cs in_X4) hown hK hT (rs_k0 hS) (by decide) rfl 30 (by decide) (hts _ (tw_c tw_342)) rfl dX4_take_143 ?_
    refine lv_topi (fun g14 eg14 => ?_)
    have eg14 : g14 = (nI m9) := eg14.trans (by simp [hv_si_i, hv_sa_i])
    subst eg14
    refine hv_iald hx hb hK hT (rs_k25 hS) (rf_in6 hm6) dX4_take_146 ?_
    refine lv_topi (fun g15 eg15 => ?_)
    have eg15 : g15 = (hv_a v (ra 25) m9) := eg15.trans (by simp [hv_sa_a, hv_si_a, hcm, rs_nn hI0.1 25 23 rfl, rs_nn hI0.1 25 24 rfl, rs_nn hI0.1 25 26 rfl, rs_nn hI0.1 25 27 rfl, rs_nn hI0.1 25 28 rfl, rs_nn hI0.1 25 29 rfl])
    subst eg15
    refine hv_iast (x := (hv_a v (ra 25) m9)) hx hb hK hT (rs_k25 hS) (rf_in6 hk6) dX4_take_147 (fun H locs hT => ?_)
    refine lv_aload_n hx hb dX4_take_148 rfl (lv_at hl 6 rfl) ?_
    refine hv_gets (ci := 4) (C := RX4) (T := TX4) (N := 34) hx hb hts (tw_cs in_X4) hown hK hT (rs_k0 hS) (by decide) rfl 26 (by decide) (hts _ (tw_c tw_338)) rfl (x := (ra 26)) (rs_p26 hS) dX4_take_149 ?_
    refine lv_iload_n hx hb dX4_take_152 rfl (lv_at hl 5 rfl) ?_
    refine lv_aload_n hx hb dX4_take_153 rfl (lv_at hl 6 rfl) ?_
    refine hv_gets (ci := 4) (C := RX4) (T := TX4) (N := 34) hx hb hts (tw_cs in_X4) hown hK hT (rs_k0 hS) (by decide) rfl 26 (by decide) (hts _ (tw_c tw_338)) rfl (x := (ra 26)) (rs_p26 hS) dX4_take_154 ?_
    refine lv_aload_n hx hb dX4_take_157 rfl (lv_at hl 6 rfl) ?_
    refine hv_geti (ci := 4) (C := RX4) (T := TX4) (N := 34) hx hb hts (tw_cs in_X4) hown hK hT (rs_k0 hS) (by decide) rfl 30 (by decide) (hts _ (tw_c tw_342)) rfl dX4_take_158 ?_
    refine lv_topi (fun g16 eg16 => ?_)
    have eg16 : g16 = (nI m9) := eg16.trans (by simp [hv_si_i, hv_sa_i])
    subst eg16
    refine hv_iald hx hb hK hT (rs_k26 hS) (rf_in6 hm6) dX4_take_161 ?_
    refine lv_topi (fun g17 eg17 => ?_)
    have eg17 : g17 = (hv_a v (ra 26) m9) := eg17.trans (by simp [hv_sa_a, hv_si_a, hcm, rs_nn hI0.1 26 23 rfl, rs_nn hI0.1 26 24 rfl, rs_nn hI0.1 26 25 rfl, rs_nn hI0.1 26 27 rfl, rs_nn hI0.1 26 28 rfl, rs_nn hI0.1 26 29 rfl])
    subst eg17
    refine hv_iast (x := (hv_a v (ra 26) m9)) hx hb hK hT (rs_k26 hS) (rf_in6 hk6) dX4_take_162 (fun H locs hT => ?_)
    refine lv_aload_n hx hb dX4_take_163 rfl (lv_at hl 6 rfl) ?_
    refine hv_gets (ci := 4) (C := RX4) (T := TX4) (N := 34) hx hb hts (tw_cs in_X4) hown hK hT (rs_k0 hS) (by decide) rfl 27 (by decide) (hts _ (tw_c tw_339)) rfl (x := (ra 27)) (rs_p27 hS) dX4_take_164 ?_
    refine lv_iload_n hx hb dX4_take_167 rfl (lv_at hl 5 rfl) ?_
    refine lv_aload_n hx hb dX4_take_168 rfl (lv_at hl 6 rfl) ?_
    refine hv_gets (ci := 4) (C := RX4) (T := TX4) (N := 34) hx hb hts (tw_cs in_X4) hown hK hT (rs_k0 hS) (by decide) rfl 27 (by decide) (hts _ (tw_c tw_339)) rfl (x := (ra 27)) (rs_p27 hS) dX4_take_169 ?_
    refine lv_aload_n hx hb dX4_take_172 rfl (lv_at hl 6 rfl) ?_
    refine hv_geti (ci := 4) (C := RX4) (T := TX4) (N := 34) hx hb hts (tw_cs in_X4) hown hK hT (rs_k0 hS) (by decide) rfl 30 (by decide) (hts _ (tw_c tw_342)) rfl dX4_take_173 ?_
    refine lv_topi (fun g18 eg18 => ?_)
    have eg18 : g18 = (nI m9) := eg18.trans (by simp [hv_si_i, hv_sa_i])
    subst eg18
    refine hv_iald hx hb hK hT (rs_k27 hS) (rf_in6 hm6) dX4_take_176 ?_
    refine lv_topi (fun g19 eg19 => ?_)
    have eg19 : g19 = (hv_a v (ra 27) m9) := eg19.trans (by simp [hv_sa_a, hv_si_a, hcm, rs_nn hI0.1 27 23 rfl, rs_nn hI0.1 27 24 rfl, rs_nn hI0.1 27 25 rfl, rs_nn hI0.1 27 26 rfl, rs_nn hI0.1 27 28 rfl, rs_nn hI0.1 27 29 rfl])
    subst eg19
    refine hv_iast (x := (hv_a v (ra 27) m9)) hx hb hK hT (rs_k27 hS) (rf_in6 hk6) dX4_take_177 (fun H locs hT => ?_)
    refine lv_aload_n hx hb dX4_take_178 rfl (lv_at hl 6 rfl) ?_
    refine hv_gets (ci := 4) (C := RX4) (T := TX4) (N := 34) hx hb hts (tw_cs in_X4) hown hK hT (rs_k0 hS) (by decide) rfl 28 (by decide) (hts _ (tw_c tw_340)) rfl (x := (ra 28)) (rs_p28 hS) dX4_take_179 ?_
    refine lv_iload_n hx hb dX4_take_182 rfl (lv_at hl 5 rfl) ?_
    refine lv_aload_n hx hb dX4_take_183 rfl (lv_at hl 6 rfl) ?_
    refine hv_gets (ci := 4) (C := RX4) (T := TX4) (N := 34) hx hb hts (tw_cs in_X4) hown hK hT (rs_k0 hS) (by decide) rfl 28 (by decide) (hts _ (tw_c tw_340)) rfl (x := (ra 28)) (rs_p28 hS) dX4_take_184 ?_
    refine lv_aload_n hx hb dX4_take_187 rfl (lv_at hl 6 rfl) ?_
    refine hv_geti (ci := 4) (C := RX4) (T := TX4) (N := 34) hx hb hts (tw_cs in_X4) hown hK hT (rs_k0 hS) (by decide) rfl 30 (by decide) (hts _ (tw_c tw_342)) rfl dX4_take_188 ?_
    refine lv_topi (fun g20 eg20 => ?_)
    have eg20 : g20 = (nI m9) := eg20.trans (by simp [hv_si_i, hv_sa_i])
    subst eg20
    refine hv_iald hx hb hK hT (rs_k28 hS) (rf_in6 hm6) dX4_take_191 ?_
    refine lv_topi (fun g21 eg21 => ?_)
    have eg21 : g21 = (hv_a v (ra 28) m9) := eg21.trans (by simp [hv_sa_a, hv_si_a, hcm, rs_nn hI0.1 28 23 rfl, rs_nn hI0.1 28 24 rfl, rs_nn hI0.1 28 25 rfl, rs_nn hI0.1 28 26 rfl, rs_nn hI0.1 28 27 rfl, rs_nn hI0.1 28 29 rfl])
    subst eg21
    refine hv_iast (x := (hv_a v (ra 28) m9)) hx hb hK hT (rs_k28 hS) (rf_in6 hk6) dX4_take_192 (fun H locs hT => ?_)
    refine lv_aload_n hx hb dX4_take_193 rfl (lv_at hl 6 rfl) ?_
    refine hv_gets (ci := 4) (C := RX4) (T := TX4) (N := 34) hx hb hts (tw_cs in_X4) hown hK hT (rs_k0 hS) (by decide) rfl 29 (by decide) (hts _ (tw_c tw_341)) rfl (x := (ra 29)) (rs_p29 hS) dX4_take_194 ?_
    refine lv_iload_n hx hb dX4_take_197 rfl (lv_at hl 5 rfl) ?_
    refine lv_aload_n hx hb dX4_take_198 rfl (lv_at hl 6 rfl) ?_
    refine hv_gets (ci := 4) (C := RX4) (T := TX4) (N := 34) hx hb hts (tw_cs in_X4) hown hK hT (rs_k0 hS) (by decide) rfl 29 (by decide) (hts _ (tw_c tw_341)) rfl (x := (ra 29)) (rs_p29 hS) dX4_take_199 ?_
    refine lv_aload_n hx hb dX4_take_202 rfl (lv_at hl 6 rfl) ?_
    refine hv_geti (ci := 4) (C := RX4) (T := TX4) (N := 34) hx hb hts (tw_cs in_X4) hown hK hT (rs_k0 hS) (by decide) rfl 30 (by decide) (hts _ (tw_c tw_342)) rfl dX4_take_203 ?_
    refine lv_topi (fun g22 eg22 => ?_)
    have eg22 : g22 = (nI m9) := eg22.trans (by simp [hv_si_i, hv_sa_i])
    subst eg22
    refine hv_iald hx hb hK hT (rs_k29 hS) (rf_in6 hm6) dX4_take_206 ?_
    refine lv_topi (fun g23 eg23 => ?_)
    have eg23 : g23 = (hv_a v (ra 29) m9) := eg23.trans (by simp [hv_sa_a, hv_si_a, hcm, rs_nn hI0.1 29 23 rfl, rs_nn hI0.1 29 24 rfl, rs_nn hI0.1 29 25 rfl, rs_nn hI0.1 29 26 rfl, rs_nn hI0.1 29 27 rfl, rs_nn hI0.1 29 28 rfl])
    subst eg23
    refine hv_iast (x := (hv_a v (ra 29) m9)) hx hb hK hT (rs_k29 hS) (rf_in6 hk6) dX4_take_207 (fun H locs hT => ?_)
    obtain ⟨kd2, hI⟩ : ∃ kd2 : Nat → Nat, rf_J ra gh n 1 (B - rf_wt (kd k)) T m9 st dg F kd2 (hv_sa (hv_sa (hv_sa (hv_sa (hv_sa (hv_sa (hv_sa (hv_si (hv_si v 408 (ra 0) (nI T)) 430 (ra 0) (nI m9)) (ra 23) ((nI k) : Int32).toNatClampNeg (hv_a v (ra 23) m9)) (ra 24) ((nI k) : Int32).toNatClampNeg (hv_a v (ra 24) m9)) (ra 25) ((nI k) : Int32).toNatClampNeg (hv_a v (ra 25) m9)) (ra 26) ((nI k) : Int32).toNatClampNeg (hv_a v (ra 26) m9)) (ra 27) ((nI k) : Int32).toNatClampNeg (hv_a v (ra 27) m9)) (ra 28) ((nI k) : Int32).toNatClampNeg (hv_a v (ra 28) m9)) (ra 29) ((nI k) : Int32).toNatClampNeg (hv_a v (ra 29) m9)) := ⟨_, rf_pop hI hk (fun _ => rfl) (fun _ _ => rfl) rfl rfl (fun f hf => by simp [hv_sa_i, hv_si_i, hf]) (by simp [hv_sa_i, hv_si_i]) (fun κ e h => by rcases h with rfl | rfl | rfl | rfl | rfl | rfl <;> simp [hv_sa_a, hv_si_a, rs_nn hI0.1 2 23 rfl, rs_nn hI0.1 2 24 rfl, rs_nn hI0.1 2 25 rfl, rs_nn hI0.1 2 26 rfl, rs_nn hI0.1 2 27 rfl, rs_nn hI0.1 2 28 rfl, rs_nn hI0.1 2 29 rfl, rs_nn hI0.1 16 23 rfl, rs_nn hI0.1 16 24 rfl, rs_nn hI0.1 16 25 rfl, rs_nn hI0.1 16 26 rfl, rs_nn hI0.1 16 27 rfl, rs_nn hI0.1 16 28 rfl, rs_nn hI0.1 16 29 rfl, rs_nn hI0.1 6 23 rfl, rs_nn hI0.1 6 24 rfl, rs_nn hI0.1 6 25 rfl, rs_nn hI0.1 6 26 rfl, rs_nn hI0.1 6 27 rfl, rs_nn hI0.1 6 28 rfl, rs_nn hI0.1 6 29 rfl, rs_nn hI0.1 14 23 rfl, rs_nn hI0.1 14 24 rfl, rs_nn hI0.1 14 25 rfl, rs_nn hI0.1 14 26 rfl, rs_nn hI0.1 14 27 rfl, rs_nn hI0.1 14 28 rfl, rs_nn hI0.1 14 29 rfl, rs_nn hI0.1 18 23 rfl, rs_nn hI0.1 18 24 rfl, rs_nn hI0.1 18 25 rfl, rs_nn hI0.1 18 26 rfl, rs_nn hI0.1 18 27 rfl, rs_nn hI0.1 18 28 rfl, rs_nn hI0.1 18 29 rfl, rs_nn hI0.1 21 23 rfl, rs_nn hI0.1 21 24 rfl, rs_nn hI0.1 21 25 rfl, rs_nn hI0.1 21 26 rfl, rs_nn hI0.1 21 27 rfl, rs_nn hI0.1 21 28 rfl, rs_nn hI0.1 21 29 rfl]) (fun κ e h => by rcases h with rfl | rfl | rfl | rfl | rfl <;> simp [hv_sa_a, hv_si_a, hck, rs_nn hI0.1 23 24 rfl, rs_nn hI0.1 23 25 rfl, rs_nn hI0.1 23 26 rfl, rs_nn hI0.1 23 27 rfl, rs_nn hI0.1 23 28 rfl, rs_nn hI0.1 23 29 rfl, rs_nn hI0.1 24 23 rfl, rs_nn hI0.1 24 25 rfl, rs_nn hI0.1 24 26 rfl, rs_nn hI0.1 24 27 rfl, rs_nn hI0.1 24 28 rfl, rs_nn hI0.1 24 29 rfl, rs_nn hI0.1 25 23 rfl, rs_nn hI0.1 25 24 rfl, rs_nn hI0.1 25 26 rfl, rs_nn hI0.1 25 27 rfl, rs_nn hI0.1 25 28 rfl, rs_nn hI0.1 25 29 rfl, rs_nn hI0.1 27 23 rfl, rs_nn hI0.1 27 24 rfl, rs_nn hI0.1 27 25 rfl, rs_nn hI0.1 27 26 rfl, rs_nn hI0.1 27 28 rfl, rs_nn hI0.1 27 29 rfl, rs_nn hI0.1 28 23 rfl, rs_nn hI0.1 28 24 rfl, rs_nn hI0.1 28 25 rfl, rs_nn hI0.1 28 26 rfl, rs_nn hI0.1 28 27 rfl, rs_nn hI0.1 28 29 rfl])⟩
    have hS := hI.1
    refine lv_aload_n hx hb dX4_take_208 rfl (lv_at hl 6 rfl) ?_
    refine hv_gets (ci := 4) (C := RX4) (T := TX4) (N := 34) hx hb hts (tw_cs in_X4) hown hK hT (rs_k0 hS) (by decide) rfl 16 (by decide) (hts _ (tw_c tw_328)) rfl (x := (ra 16)) (rs_p16 hS) dX4_take_209 ?_
    refine lv_iload hx hb dX4_take_212 (lv_at hl 2 rfl) ?_
    refine hv_zald hx hb hK hT (rs_k16 hS) (cs_in8 (rf_lt8 hI0 hto)) dX4_take_214 ?_
    refine lv_topi (fun g24 eg24 => ?_)
    refine lv_if_eq (tgt := 230) hx hb dX4_take_215 (by decide) (fun c215 => ?_) (fun c215 => ?_)
    · skip
      refine lv_aload_n hx hb dX4_take_230 rfl (lv_at hl 6 rfl) ?_
      refine lv_dup hx hb dX4_take_231 rfl ?_
      refine hv_geti (ci := 4) (C := RX4) (T := TX4) (N := 34) hx hb hts (tw_cs in_X4) hown hK hT (rs_k0 hS) (by decide) rfl 11 (by decide) (hts _ (tw_c tw_323)) rfl dX4_take_232 ?_
      refine lv_topi (fun g25 eg25 => ?_)
      refine lv_iconst (v := 1) hx hb dX4_take_235 (by decide) ?_
      refine lv_iadd hx hb dX4_take_236 ?_
      refine hv_puti (ci := 4) (C := RX4) (T := TX4) (N := 34) hx hb hts (tw_cs in_X4) tyX4 tyX4_ok nmX4 hown hK hT (rs_k0 hS) (by decide) rfl 11 (by decide) (hts _ (tw_c tw_323)) rfl rfl (x := (g25 + 1)) rfl rfl dX4_take_237 (fun H locs hT => ?_)
      have hI := rf_puti (f := 411) (x := (g25 + 1)) rfl hI
      have hS := hI.1
      refine lv_aload_n hx hb dX4_take_240 rfl (lv_at hl 6 rfl) ?_
      refine lv_iload_n hx hb dX4_take_241 rfl (lv_at hl 4 rfl) ?_
      refine lv_iload hx hb dX4_take_242 (lv_at hl 2 rfl) ?_
      refine lv_iload_n hx hb dX4_take_244 rfl (lv_at hl 3 rfl) ?_
      refine lv_iload hx hb dX4_take_245 (lv_at hl 1 rfl) ?_
      refine lv_iload hx hb dX4_take_247 (lv_at hl 0 rfl) ?_
      refine hv_callv (va_runV (As := [.int (nI (kd k)), .int (nI to9), .int (nI fr), .int g7, .int (nI sv)]) (rest := []) ⟨hx, hb, hml, hown, hts⟩ (m_tell l D tc hI (nI (kd k)) (nI to9) (nI fr) g7 (nI sv)) (cwV 5 hts (tw_V tw_431 tw_432 tw_524 tw_3 tw_433) rfl rfl rfl (by decide +kernel) ⟨Nat.le_of_ble_eq_true rfl, Nat.le_of_ble_eq_true rfl⟩) (hv_preV (ci := 4) hK hT.1 (rs_k0 hS) (by decide) rfl rfl) rfl rfl hl.1 rfl (lv_room (Nat.le_of_ble_eq_true rfl)) dX4_take_249 ⟨Nat.le_of_ble_eq_true rfl, Nat.le_of_ble_eq_true rfl⟩) hT (fun v26 H locs hp27 hT => ?_)
      obtain ⟨hx28, hI⟩ := hp27
      have hS := hI.1
      refine lv_aload_n hx hb dX4_take_252 rfl (lv_at hl 6 rfl) ?_
      refine lv_iload hx hb dX4_take_253 (lv_at hl 2 rfl) ?_
      refine lv_iload_n hx hb dX4_take_255 rfl (lv_at hl 4 rfl) ?_
      refine lv_iload_n hx hb dX4_take_256 rfl (lv_at hl 3 rfl) ?_
      refine lv_iload hx hb dX4_take_257 (lv_at hl 1 rfl) ?_
      refine lv_iload hx hb dX4_take_259 (lv_at hl 0 rfl) ?_
      refine hv_callv (va_runV (As := [.int (nI to9), .int (nI (kd k)), .int (nI fr), .int g7, .int (nI sv)]) (rest := []) ⟨hx, hb, hml, hown, hts⟩ (m_handle l D tc hI hto hkd hfr g7 hsv (by omega)) (cwV 5 hts (tw_V tw_440 tw_441 tw_527 tw_3 tw_442) rfl rfl rfl (by decide +kernel) ⟨Nat.le_of_ble_eq_true rfl, Nat.le_of_ble_eq_true rfl⟩) (hv_preV (ci := 4) hK hT.1 (rs_k0 hS) (by decide) rfl rfl) rfl rfl hl.1 rfl (lv_room (Nat.le_of_ble_eq_true rfl)) dX4_take_261 ⟨Nat.le_of_ble_eq_true rfl, Nat.le_of_ble_eq_true rfl⟩) hT (fun v29 H locs hp30 hT => ?_)
      obtain ⟨nm31, st32, dg33, kd34, hI⟩ := hp30
      have hS := hI.1
      refine lv_iconst (v := 1) hx hb dX4_take_264 (by decide) ?_
      exact hret _ 1 v29 _ _ _ _ _ dX4_take_265 rfl hT ⟨_, _, _, _, _, _, (by omega), hI⟩ (by decide) (by decide)
    · skip
      refine lv_aload_n hx hb dX4_take_218 rfl (lv_at hl 6 rfl) ?_
      refine lv_dup hx hb dX4_take_219 rfl ?_
      refine hv_geti (ci := 4) (C := RX4) (T := TX4) (N := 34) hx hb hts (tw_cs in_X4) hown hK hT (rs_k0 hS) (by decide) rfl 12 (by decide) (hts _ (tw_c tw_324)) rfl dX4_take_220 ?_
      refine lv_topi (fun g35 eg35 => ?_)
      refine lv_iconst (v := 1) hx hb dX4_take_223 (by decide) ?_
      refine lv_iadd hx hb dX4_take_224 ?_
      refine hv_puti (ci := 4) (C := RX4) (T := TX4) (N := 34) hx hb hts (tw_cs in_X4) tyX4 tyX4_ok nmX4 hown hK hT (rs_k0 hS) (by decide) rfl 12 (by decide) (hts _ (tw_c tw_324)) rfl rfl (x := (g35 + 1)) rfl rfl dX4_take_225 (fun H locs hT => ?_)
      have hI := rf_puti (f := 412) (x := (g35 + 1)) rfl hI
      have hS := hI.1
      refine lv_iconst (v := 0) hx hb dX4_take_228 (by decide) ?_
      exact hret _ 0 (hv_si (hv_sa (hv_sa (hv_sa (hv_sa (hv_sa (hv_sa (hv_sa (hv_si (hv_si v 408 (ra 0) (nI T)) 430 (ra 0) (nI m9)) (ra 23) ((nI k) : Int32).toNatClampNeg (hv_a v (ra 23) m9)) (ra 24) ((nI k) : Int32).toNatClampNeg (hv_a v (ra 24) m9)) (ra 25) ((nI k) : Int32).toNatClampNeg (hv_a v (ra 25) m9)) (ra 26) ((nI k) : Int32).toNatClampNeg (hv_a v (ra 26) m9)) (ra 27) ((nI k) : Int32).toNatClampNeg (hv_a v (ra 27) m9)) (ra 28) ((nI k) : Int32).toNatClampNeg (hv_a v (ra 28) m9)) (ra 29) ((nI k) : Int32).toNatClampNeg (hv_a v (ra 29) m9)) 412 (ra 0) (g35 + 1)) _ _ _ _ _ dX4_take_229 rfl hT ⟨_, _, _, _, _, _, (by omega), hI⟩ (by decide) (by decide)
  · skip
    exact absurd (nI_pos' (by omega)) c12

set_option maxHeartbeats 4000000 in
set_option maxRecDepth 100000 in
theorem m_takeT (l : Launch) (D : va_G) (tc : Nat → ClassId) {ra gh : Nat → Nat} {n B t nm : Nat} {st dg F kd : Nat → Nat} {v : hv_V} (hI : rf_J ra gh n 1 B t nm st dg F kd v) {j T : Nat} (hj : j < n) (h432 : hv_i v 432 (ra 0) = -2 - nI j) (h433 : hv_i v 433 (ra 0) = nI T) (hT4 : T ≤ 4000) (h21 : hv_a v (ra 21) j = nI T) (hm : ∀ k, k < nm → ∃ x, T ≤ x ∧ x ≤ 5000 ∧ hv_a v (ra 28) k = nI x) (htm : ∀ j, j < n → hv_a v (ra 21) j = -1 ∨ ∃ x, T ≤ x ∧ x ≤ 5000 ∧ hv_a v (ra 21) j = nI x) (h479 : B < 479000) : Met l yX4_take (Cond.code yX4_take cX4_take 7 (some .boolean) :: lw_B) ({ frames := 7, cells := 0, slots := 0, locals := 164 }) (va_Pc [.ref (ra 0)] (hv_Pre D tc v)) (va_Qi (fun (r : Int32) (v1 : hv_V) => ∃ B1 nm1 st1 dg1 F1 kd1, B1 < B ∧ rf_J ra gh n 1 B1 T nm1 st1 dg1 F1 kd1 v1) (hv_Post D tc (hv_A v)) (hv_A v)) (0) (0) (hv_A v) := by
  refine hv_meti l (by decide) (Nat.le_of_ble_eq_true rfl) ?_
  intro p e s m args below meth c Q X hret hK hz H locs ls hT hl
  obtain ⟨hx, hb, hml, hts, hown, hin0⟩ := X
  have hown : s.vm.findClass "CommitSitesModel" = some m.cls := hown
  have hl : lv_has ls 7 [(0, .ref (ra 0))] := hl
  have hS := hI.1
  have hI0 := hI
  obtain ⟨h1T, h64⟩ : t ≤ T ∧ 64 ≤ B := by
    rcases rf_tm hI hj with q | ⟨q, x, x1, x2, x3, x4⟩
    · rw [cs_cl (rf_lt8 hI hj), h21] at q
      exact absurd (show nI T < 0 from by rw [q]; decide) (nI_pos (by omega))
    · rw [cs_cl (rf_lt8 hI hj), h21] at x4
      have := (nI_eq (by omega) (by omega)).mp x4
      have hI9 := rf_now hI (T := T) (by omega) hT4 hm htm
      have := rf_64 hI9 (rf_lt8 hI hj) (by omega)
      exact ⟨by omega, this⟩
  refine lv_aload_n hx hb dX4_take_0 rfl (lv_at hl 0 rfl) ?_
  refine lv_aload_n hx hb dX4_take_1 rfl (lv_at hl 0 rfl) ?_
  refine hv_geti (ci := 4) (C := RX4) (T := TX4) (N := 34) hx hb hts (tw_cs in_X4) hown hK hT (rs_k0 hS) (by decide) rfl 33 (by decide) (hts _ (tw_c tw_345)) rfl dX4_take_2 ?_
  refine lv_topi (fun g1 eg1 => ?_)
  have eg1 : g1 = (nI T) := eg1.trans (by exact h433)
  subst eg1
  refine hv_puti (ci := 4) (C := RX4) (T := TX4) (N := 34) hx hb hts (tw_cs in_X4) tyX4 tyX4_ok nmX4 hown hK hT (rs_k0 hS) (by decide) rfl 8 (by decide) (hts _ (tw_c tw_320)) rfl rfl (x := (nI T)) rfl rfl dX4_take_5 (fun H locs hT => ?_)
  have hI := rf_now hI h1T hT4 hm htm
  have hS := hI.1
  refine lv_aload_n hx hb dX4_take_8 rfl (lv_at hl 0 rfl) ?_
  refine hv_geti (ci := 4) (C := RX4) (T := TX4) (N := 34) hx hb hts (tw_cs in_X4) hown hK hT (rs_k0 hS) (by decide) rfl 32 (by decide) (hts _ (tw_c tw_344)) rfl dX4_take_9 ?_
  refine lv_topi (fun g2 eg2 => ?_)
  have eg2 : g2 = (-2 - nI j) := eg2.trans (by first | exact h432 | simp [hv_si_i, h432])
  subst eg2
  refine lv_if_ge (tgt := 50) hx hb dX4_take_12 (by decide) (fun c12 => ?_) (fun c12 => ?_)
  · skip
    exact absurd c12 (rf_m3 (rf_lt8 hI0 hj))
  · skip
    refine lv_bipush (v := (-2)) hx hb dX4_take_15 (by decide) ?_
    refine lv_aload_n hx hb dX4_take_17 rfl (lv_at hl 0 rfl) ?_
    refine hv_geti (ci := 4) (C := RX4) (T := TX4) (N := 34) hx hb hts (tw_cs in_X4) hown hK hT (rs_k0 hS) (by decide) rfl 32 (by decide) (hts _ (tw_c tw_344)) rfl dX4_take_18 ?_
    refine lv_topi (fun g3 eg3 => ?_)
    have eg3 : g3 = (-2 - nI j) := eg3.trans (by first | exact h432 | simp [hv_si_i, h432])
    subst eg3
    refine lv_isub hx hb dX4_take_21 ?_
    refine hv_as (x := ((-2) - (-2 - nI j))) (y := (nI j)) (rf_m2 (rf_lt8 hI0 hj)) ?_
    refine lv_istore_n (lv' := [(1, _), (0, _)]) hx hb dX4_take_22 rfl hl (by decide) rfl (fun ls hl => ?_)
    refine lv_aload_n hx hb dX4_take_23 rfl (lv_at hl 1 rfl) ?_
    refine lv_dup hx hb dX4_take_24 rfl ?_
    refine hv_geti (ci := 4) (C := RX4) (T := TX4) (N := 34) hx hb hts (tw_cs in_X4) hown hK hT (rs_k0 hS) (by decide) rfl 13 (by decide) (hts _ (tw_c tw_325)) rfl dX4_take_25 ?_
    refine lv_topi (fun g4 eg4 => ?_)
    refine lv_iconst (v := 1) hx hb dX4_take_28 (by decide) ?_
    refine lv_iadd hx hb dX4_take_29 ?_
    refine hv_puti (ci := 4) (C := RX4) (T := TX4) (N := 34) hx hb hts (tw_cs in_X4) tyX4 tyX4_ok nmX4 hown hK hT (rs_k0 hS) (by decide) rfl 13 (by decide) (hts _ (tw_c tw_325)) rfl rfl (x := (g4 + 1)) rfl rfl dX4_take_30 (fun H locs hT => ?_)
    have hI := rf_puti (f := 413) (x := (g4 + 1)) rfl hI
    have hS := hI.1
    refine lv_aload_n hx hb dX4_take_33 rfl (lv_at hl 1 rfl) ?_
    refine lv_bipush (v := 11) hx hb dX4_take_34 (by decide) ?_
    refine lv_iload_n hx hb dX4_take_36 rfl (lv_at hl 0 rfl) ?_
    refine lv_iload_n hx hb dX4_take_37 rfl (lv_at hl 0 rfl) ?_
    refine lv_iconst (v := 0) hx hb dX4_take_38 (by decide) ?_
    refine lv_iconst (v := 0) hx hb dX4_take_39 (by decide) ?_
    refine hv_callv (va_runV (As := [.int 11, .int (nI j), .int (nI j), .int 0, .int 0]) (rest := []) ⟨hx, hb, hml, hown, hts⟩ (m_tell l D tc hI 11 (nI j) (nI j) 0 0) (cwV 5 hts (tw_V tw_431 tw_432 tw_524 tw_3 tw_433) rfl rfl rfl (by decide +kernel) ⟨Nat.le_of_ble_eq_true rfl, Nat.le_of_ble_eq_true rfl⟩) (hv_preV (ci := 4) hK hT.1 (rs_k0 hS) (by decide) rfl rfl) rfl rfl hl.1 rfl (lv_room (Nat.le_of_ble_eq_true rfl)) dX4_take_40 ⟨Nat.le_of_ble_eq_true rfl, Nat.le_of_ble_eq_true rfl⟩) hT (fun v5 H locs hp6 hT => ?_)
    obtain ⟨hx7, hI⟩ := hp6
    have hS := hI.1
    have h21 : hv_a v5 (ra 21) j = nI T := by rw [hx7]; exact h21
    refine lv_aload_n hx hb dX4_take_43 rfl (lv_at hl 1 rfl) ?_
    refine lv_iload_n hx hb dX4_take_44 rfl (lv_at hl 0 rfl) ?_
    refine hv_callv (va_runV (As := [.int (nI j)]) (rest := []) ⟨hx, hb, hml, hown, hts⟩ (m_ring l D tc hI hj h21 (by omega)) (cwV 1 hts (tw_V tw_434 tw_435 tw_525 tw_3 tw_436) rfl rfl rfl (by decide +kernel) ⟨Nat.le_of_ble_eq_true rfl, Nat.le_of_ble_eq_true rfl⟩) (hv_preV (ci := 4) hK hT.1 (rs_k0 hS) (by decide) rfl rfl) rfl rfl hl.1 rfl (lv_room (Nat.le_of_ble_eq_true rfl)) dX4_take_45 ⟨Nat.le_of_ble_eq_true rfl, Nat.le_of_ble_eq_true rfl⟩) hT (fun v8 H locs hp9 hT => ?_)
    obtain ⟨nm10, st11, dg12, F13, kd14, hI⟩ := hp9
    have hS := hI.1
    refine lv_iconst (v := 1) hx hb dX4_take_48 (by decide) ?_
    exact hret _ 1 v8 _ _ _ _ _ dX4_take_49 rfl hT ⟨_, _, _, _, _, _, (by omega), hI⟩ (by decide) (by decide)

theorem m_take (l : Launch) (D : va_G) (tc : Nat → ClassId) {ra gh : Nat → Nat} {n b B t nm : Nat} {st dg F kd : Nat → Nat} {v : hv_V} (hI : rf_J ra gh n b B t nm st dg F kd v) (hf : rf_f ra nm n v) (hne : ¬ hv_i v 432 (ra 0) = -1) {T : Nat} (h433 : hv_i v 433 (ra 0) = nI T) (hT4 : T ≤ 4000) (h479 : B < 479000) : Met l yX4_take (Cond.code yX4_take cX4_take 7 (some .boolean) :: lw_B) ({ frames := 7, cells := 0, slots := 0, locals := 164 }) (va_Pc [.ref (ra 0)] (hv_Pre D tc v)) (va_Qi (fun (r : Int32) (v1 : hv_V) => ∃ B1 nm1 st1 dg1 F1 kd1, B1 < B ∧ rf_J ra gh n b B1 T nm1 st1 dg1 F1 kd1 v1) (hv_Post D tc (hv_A v)) (hv_A v)) (0) (0) (hv_A v) := by
  rcases hf with ⟨-, q, -⟩ | ⟨T1, T5, hT1, q, r, r1⟩
  · exact absurd q hne
  have e : T1 = T := (nI_eq (by omega) (by omega)).mp (hT1.symm.trans h433)
  subst e
  have hb : b = 1 := by
    have h1 := rf_b1 hI
    rcases Nat.lt_or_ge b 1 with z | z
    · obtain ⟨z1, -, z3⟩ := hI.2.2.2.2.2 (by omega)
      rcases q with ⟨k, k1, -⟩ | ⟨j, j1, j2, j3⟩
      · omega
      · rw [z3 j j1] at j3
        exact absurd (show nI T1 < 0 from by rw [← j3]; decide) (nI_pos (by omega))
    · omega
  subst hb
  rcases q with ⟨k, k1, k2, k3⟩ | ⟨j, j1, j2, j3⟩
  · obtain ⟨m9, rfl⟩ : ∃ m9, nm = m9 + 1 := ⟨nm - 1, by omega⟩
    exact m_takeM l D tc hI k1 k2 h433 hT4 k3 r r1 h479
  · exact m_takeT l D tc hI j1 j2 h433 hT4 j3 r r1 h479

set_option maxHeartbeats 4000000 in
set_option maxRecDepth 100000 in
theorem m_run (l : Launch) (D : va_G) (tc : Nat → ClassId) {ra gh : Nat → Nat} {n b B t nm : Nat} {st dg F kd : Nat → Nat} {v : hv_V} (hI : rf_J ra gh n b B t nm st dg F kd v) (x : Int32) (h479 : B < 479000) : Met l yX4_run (Cond.code yX4_run cX4_run 4 (some .int) :: lw_B) ({ frames := 8, cells := 0, slots := 0, locals := 190 }) (va_Pc [.ref (ra 0), .int x] (hv_Pre D tc v)) (va_Qi (fun (r : Int32) (v1 : hv_V) => ∃ t1 nm1 st1 dg1 F1 kd1, rf_J ra gh n b B t1 nm1 st1 dg1 F1 kd1 v1) (hv_Post D tc (hv_A v)) (hv_A v)) (0) (0) (hv_A v) := by
  refine hv_meti l (by decide) (Nat.le_of_ble_eq_true rfl) ?_
  intro p e s m args below meth c Q X hret hK hz H locs ls hT hl
  obtain ⟨hx, hb, hml, hts, hown, hin0⟩ := X
  have hown : s.vm.findClass "CommitSitesModel" = some m.cls := hown
  have hl : lv_has ls 4 [(0, .ref (ra 0)), (1, .int x)] := hl
  have hS := hI.1
  have hI0 := hI
  have ht4 := rf_t4 hI
  refine lv_aload_n hx hb dX4_run_0 rfl (lv_at hl 0 rfl) ?_
  refine lv_iconst (v := 0) hx hb dX4_run_1 (by decide) ?_
  refine hv_puti (ci := 4) (C := RX4) (T := TX4) (N := 34) hx hb hts (tw_cs in_X4) tyX4 tyX4_ok nmX4 hown hK hT (rs_k0 hS) (by decide) rfl 0 (by decide) (hts _ (tw_c tw_312)) rfl rfl (x := 0) rfl rfl dX4_run_2 (fun H locs hT => ?_)
  have hI := rf_puti (f := 400) (x := 0) rfl hI
  have hS := hI.1
  refine lv_iload_n hx hb dX4_run_5 rfl (lv_at hl 1 rfl) ?_
  refine lv_if_lt (tgt := 28) hx hb dX4_run_6 (by decide) (fun c6 => ?_) (fun c6 => ?_)
  · skip
    refine lv_iconst (v := (-1)) hx hb dX4_run_28 (by decide) ?_
    exact hret _ (-1) (hv_si v 400 (ra 0) 0) _ _ _ _ _ dX4_run_29 rfl hT ⟨_, _, _, _, _, _, hI⟩ (by decide) (by decide)
  · skip
    refine lv_iload_n hx hb dX4_run_9 rfl (lv_at hl 1 rfl) ?_
    refine lv_sipush (v := 500) hx hb dX4_run_10 (by decide) ?_
    refine lv_icmp_gt (tgt := 28) hx hb dX4_run_13 (by decide) (fun c13 => ?_) (fun c13 => ?_)
    · skip
      refine lv_iconst (v := (-1)) hx hb dX4_run_28 (by decide) ?_
      exact hret _ (-1) (hv_si v 400 (ra 0) 0) _ _ _ _ _ dX4_run_29 rfl hT ⟨_, _, _, _, _, _, hI⟩ (by decide) (by decide)
    · skip
      obtain ⟨q, hq5, rfl⟩ := nI_of2 (M := 500) (n := 500) rfl c6 (Int32.not_lt.mp c13)
      refine lv_aload_n hx hb dX4_run_16 rfl (lv_at hl 0 rfl) ?_
      refine hv_geti (ci := 4) (C := RX4) (T := TX4) (N := 34) hx hb hts (tw_cs in_X4) hown hK hT (rs_k0 hS) (by decide) rfl 8 (by decide) (hts _ (tw_c tw_320)) rfl dX4_run_17 ?_
      refine lv_topi (fun g1 eg1 => ?_)
      have eg1 : g1 = (nI t) := by rw [eg1]; exact rf_ht hI
      subst eg1
      refine lv_iload_n hx hb dX4_run_20 rfl (lv_at hl 1 rfl) ?_
      refine lv_iadd hx hb dX4_run_21 ?_
      refine hv_as (x := ((nI t) + (nI q))) (y := (nI (t + q))) (nI_add _ _) ?_
      refine lv_sipush (v := 4000) hx hb dX4_run_22 (by decide) ?_
      refine lv_icmp_le (tgt := 30) hx hb dX4_run_25 (by decide) (fun c25 => ?_) (fun c25 => ?_)
      · skip
        have hsum : t + q ≤ 4000 := (nI_leI (b := 4000) (by omega) (by omega)).mp c25
        refine lv_aload_n hx hb dX4_run_30 rfl (lv_at hl 0 rfl) ?_
        refine hv_geti (ci := 4) (C := RX4) (T := TX4) (N := 34) hx hb hts (tw_cs in_X4) hown hK hT (rs_k0 hS) (by decide) rfl 8 (by decide) (hts _ (tw_c tw_320)) rfl dX4_run_31 ?_
        refine lv_topi (fun g2 eg2 => ?_)
        have eg2 : g2 = (nI t) := by rw [eg2]; exact rf_ht hI
        subst eg2
        refine lv_iload_n hx hb dX4_run_34 rfl (lv_at hl 1 rfl) ?_
        refine lv_iadd hx hb dX4_run_35 ?_
        refine hv_as (x := ((nI t) + (nI q))) (y := (nI (t + q))) (nI_add _ _) ?_
        refine lv_istore_n (lv' := [(2, _), (0, _), (1, _)]) hx hb dX4_run_36 rfl hl (by decide) rfl (fun ls hl => ?_)
        refine lv_iconst (v := 0) hx hb dX4_run_37 (by decide) ?_
        refine lv_istore_n (lv' := [(3, _), (2, _), (0, _), (1, _)]) hx hb dX4_run_38 rfl hl (by decide) rfl (fun ls hl => ?_)
        refine lv_aload_n hx hb dX4_run_39 rfl (lv_at hl 2 rfl) ?_
        refine hv_callv (va_runV (As := []) (rest := []) ⟨hx, hb, hml, hown, hts⟩ (m_findNext l D tc hI (by omega)) (cwV 0 hts (tw_V tw_425 tw_426 tw_522 tw_3 tw_427) rfl rfl rfl (by decide +kernel) ⟨Nat.le_of_ble_eq_true rfl, Nat.le_of_ble_eq_true rfl⟩) (hv_preV (ci := 4) hK hT.1 (rs_k0 hS) (by decide) rfl rfl) rfl rfl hl.1 rfl (lv_room (Nat.le_of_ble_eq_true rfl)) dX4_run_40 ⟨Nat.le_of_ble_eq_true rfl, Nat.le_of_ble_eq_true rfl⟩) hT (fun v3 H locs hp4 hT => ?_)
        obtain ⟨hf, hI⟩ := hp4
        have hS := hI.1
        have hL43 : ∀ (N9 : Nat) (x3 : Int32) (BL : Nat) (tL : Nat) (nmL : Nat) (stL : Nat → Nat) (dgL : Nat → Nat) (FL : Nat → Nat) (kdL : Nat → Nat) (vL : hv_V) (H : Heap) (locs : List Loc) (ls : Array Slot), BL < N9 → BL ≤ B → tL ≤ (t + q) → rf_J ra gh n b BL tL nmL stL dgL FL kdL vL → rf_f ra nmL n vL → hv_St (hv_A v) s D tc vL H locs → lv_has ls 4 [(0, .ref (ra 0)), (2, .int (nI (t + q))), (3, .int x3)] → W p l e ({ frames := 8, cells := 0, slots := 0, locals := 190 } : Room) s m args below meth c H locs (0) (0) Q (F0 m 43 ls []) := by
          intro N9
          induction N9 with
          | zero =>
            intro x3 BL tL nmL stL dgL FL kdL vL H locs ls hN9 hBL htL hI hf hT hl
            exfalso
            omega
          | succ N9 ih43 =>
            intro x3 BL tL nmL stL dgL FL kdL vL H locs ls hN9 hBL htL hI hf hT hl
            have hS := hI.1
            have hnmL := rf_nm hI
            refine lv_aload_n hx hb dX4_run_43 rfl (lv_at hl 0 rfl) ?_
            refine hv_geti (ci := 4) (C := RX4) (T := TX4) (N := 34) hx hb hts (tw_cs in_X4) hown hK hT (rs_k0 hS) (by decide) rfl 32 (by decide) (hts _ (tw_c tw_344)) rfl dX4_run_44 ?_
            refine lv_topi (fun g5 eg5 => ?_)
            have eg5 : g5 = (hv_i vL 432 (ra 0)) := eg5.trans (rfl)
            subst eg5
            refine lv_iconst (v := (-1)) hx hb dX4_run_47 (by decide) ?_
            refine lv_icmp_eq (tgt := 81) hx hb dX4_run_48 (by decide) (fun c48 => ?_) (fun c48 => ?_)
            · skip
              have hend := rf_end hf (by omega) (rf_n8 hI0) hsum (Or.inl c48)
              refine lv_aload_n hx hb dX4_run_81 rfl (lv_at hl 0 rfl) ?_
              refine lv_iload_n hx hb dX4_run_82 rfl (lv_at hl 1 rfl) ?_
              refine hv_puti (ci := 4) (C := RX4) (T := TX4) (N := 34) hx hb hts (tw_cs in_X4) tyX4 tyX4_ok nmX4 hown hK hT (rs_k0 hS) (by decide) rfl 8 (by decide) (hts _ (tw_c tw_320)) rfl rfl (x := (nI (t + q))) rfl rfl dX4_run_83 (fun H locs hT => ?_)
              have hI := rf_now hI htL hsum hend.1 hend.2
              have hS := hI.1
              refine lv_iload_n hx hb dX4_run_86 rfl (lv_at hl 2 rfl) ?_
              exact hret _ x3 (hv_si vL 408 (ra 0) (nI (t + q))) _ _ _ _ _ dX4_run_87 rfl hT ⟨_, _, _, _, _, _, rf_up hBL hI⟩ (by decide) (by decide)
            · skip
              refine lv_aload_n hx hb dX4_run_51 rfl (lv_at hl 0 rfl) ?_
              refine hv_geti (ci := 4) (C := RX4) (T := TX4) (N := 34) hx hb hts (tw_cs in_X4) hown hK hT (rs_k0 hS) (by decide) rfl 33 (by decide) (hts _ (tw_c tw_345)) rfl dX4_run_52 ?_
              refine lv_topi (fun g6 eg6 => ?_)
              have eg6 : g6 = (hv_i vL 433 (ra 0)) := eg6.trans (rfl)
              subst eg6
              refine lv_iload_n hx hb dX4_run_55 rfl (lv_at hl 1 rfl) ?_
              refine lv_icmp_gt (tgt := 81) hx hb dX4_run_56 (by decide) (fun c56 => ?_) (fun c56 => ?_)
              · skip
                have hend := rf_end hf (by omega) (rf_n8 hI0) hsum (Or.inr c56)
                refine lv_aload_n hx hb dX4_run_81 rfl (lv_at hl 0 rfl) ?_
                refine lv_iload_n hx hb dX4_run_82 rfl (lv_at hl 1 rfl) ?_
                refine hv_puti (ci := 4) (C := RX4) (T := TX4) (N := 34) hx hb hts (tw_cs in_X4) tyX4 tyX4_ok nmX4 hown hK hT (rs_k0 hS) (by decide) rfl 8 (by decide) (hts _ (tw_c tw_320)) rfl rfl (x := (nI (t + q))) rfl rfl dX4_run_83 (fun H locs hT => ?_)
                have hI := rf_now hI htL hsum hend.1 hend.2
                have hS := hI.1
                refine lv_iload_n hx hb dX4_run_86 rfl (lv_at hl 2 rfl) ?_
                exact hret _ x3 (hv_si vL 408 (ra 0) (nI (t + q))) _ _ _ _ _ dX4_run_87 rfl hT ⟨_, _, _, _, _, _, rf_up hBL hI⟩ (by decide) (by decide)
              · skip
                obtain ⟨T, hT5, h433⟩ := rf_hT hf c48
                have hTl : T ≤ (t + q) := by rw [h433] at c56; exact Nat.le_of_not_lt (fun z => c56 ((nI_ltI (a := (t + q)) (by omega) (by omega)).mpr z))
                refine lv_aload_n hx hb dX4_run_59 rfl (lv_at hl 0 rfl) ?_
                refine hv_calli (va_runV (As := []) (rest := []) ⟨hx, hb, hml, hown, hts⟩ (m_take l D tc hI hf c48 h433 (by omega) (by omega)) (cwV 0 hts (tw_V tw_428 tw_429 tw_523 tw_3 tw_430) rfl rfl rfl (by decide +kernel) ⟨Nat.le_of_ble_eq_true rfl, Nat.le_of_ble_eq_true rfl⟩) (hv_preV (ci := 4) hK hT.1 (rs_k0 hS) (by decide) rfl rfl) rfl rfl hl.1 rfl (lv_room (Nat.le_of_ble_eq_true rfl)) dX4_run_60 ⟨Nat.le_of_ble_eq_true rfl, Nat.le_of_ble_eq_true rfl⟩) hT (fun r9 v7 H locs hp8 hT => ?_)
                obtain ⟨B10, nm11, st12, dg13, F14, kd15, hx16, hI⟩ := hp8
                have hS := hI.1
                refine lv_if_eq (tgt := 72) hx hb dX4_run_63 (by decide) (fun c63 => ?_) (fun c63 => ?_)
                · skip
                  refine lv_iload_n hx hb dX4_run_72 rfl (lv_at hl 2 rfl) ?_
                  refine lv_istore_n (lv' := [(3, _), (0, _), (2, _)]) hx hb dX4_run_73 rfl hl (by decide) rfl (fun ls hl => ?_)
                  refine lv_aload_n hx hb dX4_run_74 rfl (lv_at hl 1 rfl) ?_
                  refine hv_callv (va_runV (As := []) (rest := []) ⟨hx, hb, hml, hown, hts⟩ (m_findNext l D tc hI (by omega)) (cwV 0 hts (tw_V tw_425 tw_426 tw_522 tw_3 tw_427) rfl rfl rfl (by decide +kernel) ⟨Nat.le_of_ble_eq_true rfl, Nat.le_of_ble_eq_true rfl⟩) (hv_preV (ci := 4) hK hT.1 (rs_k0 hS) (by decide) rfl rfl) rfl rfl hl.1 rfl (lv_room (Nat.le_of_ble_eq_true rfl)) dX4_run_75 ⟨Nat.le_of_ble_eq_true rfl, Nat.le_of_ble_eq_true rfl⟩) hT (fun v17 H locs hp18 hT => ?_)
                  obtain ⟨hf, hI⟩ := hp18
                  have hS := hI.1
                  refine lv_goto (tgt := 43) hx hb dX4_run_78 (by decide) ?_
                  exact ih43 x3 B10 T nm11 st12 dg13 F14 kd15 v17 H locs ls (by omega) (by omega) (by omega) hI hf hT (lv_sub hl [1, 2, 0] rfl)
                · skip
                  refine lv_iload_n hx hb dX4_run_66 rfl (lv_at hl 2 rfl) ?_
                  refine lv_iconst (v := 1) hx hb dX4_run_67 (by decide) ?_
                  refine lv_iadd hx hb dX4_run_68 ?_
                  refine lv_goto (tgt := 73) hx hb dX4_run_69 (by decide) ?_
                  refine lv_istore_n (lv' := [(3, _), (0, _), (2, _)]) hx hb dX4_run_73 rfl hl (by decide) rfl (fun ls hl => ?_)
                  refine lv_aload_n hx hb dX4_run_74 rfl (lv_at hl 1 rfl) ?_
                  refine hv_callv (va_runV (As := []) (rest := []) ⟨hx, hb, hml, hown, hts⟩ (m_findNext l D tc hI (by omega)) (cwV 0 hts (tw_V tw_425 tw_426 tw_522 tw_3 tw_427) rfl rfl rfl (by decide +kernel) ⟨Nat.le_of_ble_eq_true rfl, Nat.le_of_ble_eq_true rfl⟩) (hv_preV (ci := 4) hK hT.1 (rs_k0 hS) (by decide) rfl rfl) rfl rfl hl.1 rfl (lv_room (Nat.le_of_ble_eq_true rfl)) dX4_run_75 ⟨Nat.le_of_ble_eq_true rfl, Nat.le_of_ble_eq_true rfl⟩) hT (fun v19 H locs hp20 hT => ?_)
                  obtain ⟨hf, hI⟩ := hp20
                  have hS := hI.1
                  refine lv_goto (tgt := 43) hx hb dX4_run_78 (by decide) ?_
                  exact ih43 (x3 + 1) B10 T nm11 st12 dg13 F14 kd15 v19 H locs ls (by omega) (by omega) (by omega) hI hf hT (lv_sub hl [1, 2, 0] rfl)
        exact hL43 (B + 1) 0 B t nm st dg F kd v3 H locs ls (by omega) (by omega) (by omega) hI hf hT (lv_sub hl [2, 1, 0] rfl)
      · skip
        refine lv_iconst (v := (-1)) hx hb dX4_run_28 (by decide) ?_
        exact hret _ (-1) (hv_si v 400 (ra 0) 0) _ _ _ _ _ dX4_run_29 rfl hT ⟨_, _, _, _, _, _, hI⟩ (by decide) (by decide)

set_option maxHeartbeats 4000000 in
set_option maxRecDepth 100000 in
theorem m_step (l : Launch) (D : va_G) (tc : Nat → ClassId) {ra gh : Nat → Nat} {n b B t nm : Nat} {st dg F kd : Nat → Nat} {v : hv_V} (hI : rf_J ra gh n b B t nm st dg F kd v) (h479 : B < 479000) : Met l yX4_step (Cond.code yX4_step cX4_step 1 (some .int) :: lw_B) ({ frames := 8, cells := 0, slots := 0, locals := 190 }) (va_Pc [.ref (ra 0)] (hv_Pre D tc v)) (va_Qi (fun (r : Int32) (v1 : hv_V) => ∃ t1 nm1 st1 dg1 F1 kd1, rf_J ra gh n b B t1 nm1 st1 dg1 F1 kd1 v1) (hv_Post D tc (hv_A v)) (hv_A v)) (0) (0) (hv_A v) := by
  refine hv_meti l (by decide) (Nat.le_of_ble_eq_true rfl) ?_
  intro p e s m args below meth c Q X hret hK hz H locs ls hT hl
  obtain ⟨hx, hb, hml, hts, hown, hin0⟩ := X
  have hown : s.vm.findClass "CommitSitesModel" = some m.cls := hown
  have hl : lv_has ls 1 [(0, .ref (ra 0))] := hl
  have hS := hI.1
  have hI0 := hI
  have ht4 := rf_t4 hI
  refine lv_aload_n hx hb dX4_step_0 rfl (lv_at hl 0 rfl) ?_
  refine lv_iconst (v := 0) hx hb dX4_step_1 (by decide) ?_
  refine hv_puti (ci := 4) (C := RX4) (T := TX4) (N := 34) hx hb hts (tw_cs in_X4) tyX4 tyX4_ok nmX4 hown hK hT (rs_k0 hS) (by decide) rfl 0 (by decide) (hts _ (tw_c tw_312)) rfl rfl (x := 0) rfl rfl dX4_step_2 (fun H locs hT => ?_)
  have hI := rf_puti (f := 400) (x := 0) rfl hI
  have hS := hI.1
  refine lv_aload_n hx hb dX4_step_5 rfl (lv_at hl 0 rfl) ?_
  refine hv_callv (va_runV (As := []) (rest := []) ⟨hx, hb, hml, hown, hts⟩ (m_findNext l D tc hI (by omega)) (cwV 0 hts (tw_V tw_425 tw_426 tw_522 tw_3 tw_427) rfl rfl rfl (by decide +kernel) ⟨Nat.le_of_ble_eq_true rfl, Nat.le_of_ble_eq_true rfl⟩) (hv_preV (ci := 4) hK hT.1 (rs_k0 hS) (by decide) rfl rfl) rfl rfl hl.1 rfl (lv_room (Nat.le_of_ble_eq_true rfl)) dX4_step_6 ⟨Nat.le_of_ble_eq_true rfl, Nat.le_of_ble_eq_true rfl⟩) hT (fun v1 H locs hp2 hT => ?_)
  obtain ⟨hf, hI⟩ := hp2
  have hS := hI.1
  have hL9 : ∀ (N9 : Nat) (BL : Nat) (tL : Nat) (nmL : Nat) (stL : Nat → Nat) (dgL : Nat → Nat) (FL : Nat → Nat) (kdL : Nat → Nat) (vL : hv_V) (H : Heap) (locs : List Loc) (ls : Array Slot), BL < N9 → BL ≤ B → tL ≤ 4000 → rf_J ra gh n b BL tL nmL stL dgL FL kdL vL → rf_f ra nmL n vL → hv_St (hv_A v) s D tc vL H locs → lv_has ls 1 [(0, .ref (ra 0))] → W p l e ({ frames := 8, cells := 0, slots := 0, locals := 190 } : Room) s m args below meth c H locs (0) (0) Q (F0 m 9 ls []) := by
    intro N9
    induction N9 with
    | zero =>
      intro BL tL nmL stL dgL FL kdL vL H locs ls hN9 hBL htL hI hf hT hl
      exfalso
      omega
    | succ N9 ih9 =>
      intro BL tL nmL stL dgL FL kdL vL H locs ls hN9 hBL htL hI hf hT hl
      have hS := hI.1
      have hnmL := rf_nm hI
      refine lv_aload_n hx hb dX4_step_9 rfl (lv_at hl 0 rfl) ?_
      refine hv_geti (ci := 4) (C := RX4) (T := TX4) (N := 34) hx hb hts (tw_cs in_X4) hown hK hT (rs_k0 hS) (by decide) rfl 32 (by decide) (hts _ (tw_c tw_344)) rfl dX4_step_10 ?_
      refine lv_topi (fun g3 eg3 => ?_)
      have eg3 : g3 = (hv_i vL 432 (ra 0)) := eg3.trans (rfl)
      subst eg3
      refine lv_iconst (v := (-1)) hx hb dX4_step_13 (by decide) ?_
      refine lv_icmp_eq (tgt := 46) hx hb dX4_step_14 (by decide) (fun c14 => ?_) (fun c14 => ?_)
      · skip
        refine lv_iconst (v := (-1)) hx hb dX4_step_46 (by decide) ?_
        exact hret _ (-1) vL _ _ _ _ _ dX4_step_47 rfl hT ⟨_, _, _, _, _, _, rf_up (by omega) hI⟩ (by decide) (by decide)
      · skip
        refine lv_aload_n hx hb dX4_step_17 rfl (lv_at hl 0 rfl) ?_
        refine hv_geti (ci := 4) (C := RX4) (T := TX4) (N := 34) hx hb hts (tw_cs in_X4) hown hK hT (rs_k0 hS) (by decide) rfl 33 (by decide) (hts _ (tw_c tw_345)) rfl dX4_step_18 ?_
        refine lv_topi (fun g4 eg4 => ?_)
        have eg4 : g4 = (hv_i vL 433 (ra 0)) := eg4.trans (rfl)
        subst eg4
        refine lv_sipush (v := 4000) hx hb dX4_step_21 (by decide) ?_
        refine hv_as (x := 4000) (y := (nI 4000)) rfl ?_
        refine lv_icmp_gt (tgt := 46) hx hb dX4_step_24 (by decide) (fun c24 => ?_) (fun c24 => ?_)
        · skip
          refine lv_iconst (v := (-1)) hx hb dX4_step_46 (by decide) ?_
          exact hret _ (-1) vL _ _ _ _ _ dX4_step_47 rfl hT ⟨_, _, _, _, _, _, rf_up (by omega) hI⟩ (by decide) (by decide)
        · skip
          obtain ⟨T, hT5, h433⟩ := rf_hT hf c14
          have hTl : T ≤ 4000 := by rw [h433] at c24; exact Nat.le_of_not_lt (fun z => c24 ((nI_ltI (a := 4000) (by omega) (by omega)).mpr z))
          refine lv_aload_n hx hb dX4_step_27 rfl (lv_at hl 0 rfl) ?_
          refine hv_calli (va_runV (As := []) (rest := []) ⟨hx, hb, hml, hown, hts⟩ (m_take l D tc hI hf c14 h433 (by omega) (by omega)) (cwV 0 hts (tw_V tw_428 tw_429 tw_523 tw_3 tw_430) rfl rfl rfl (by decide +kernel) ⟨Nat.le_of_ble_eq_true rfl, Nat.le_of_ble_eq_true rfl⟩) (hv_preV (ci := 4) hK hT.1 (rs_k0 hS) (by decide) rfl rfl) rfl rfl hl.1 rfl (lv_room (Nat.le_of_ble_eq_true rfl)) dX4_step_28 ⟨Nat.le_of_ble_eq_true rfl, Nat.le_of_ble_eq_true rfl⟩) hT (fun r7 v5 H locs hp6 hT => ?_)
          obtain ⟨B8, nm9, st10, dg11, F12, kd13, hx14, hI⟩ := hp6
          have hS := hI.1
          refine lv_if_eq (tgt := 39) hx hb dX4_step_31 (by decide) (fun c31 => ?_) (fun c31 => ?_)
          · skip
            refine lv_aload_n hx hb dX4_step_39 rfl (lv_at hl 0 rfl) ?_
            refine hv_callv (va_runV (As := []) (rest := []) ⟨hx, hb, hml, hown, hts⟩ (m_findNext l D tc hI (by omega)) (cwV 0 hts (tw_V tw_425 tw_426 tw_522 tw_3 tw_427) rfl rfl rfl (by decide +kernel) ⟨Nat.le_of_ble_eq_true rfl, Nat.le_of_ble_eq_true rfl⟩) (hv_preV (ci := 4) hK hT.1 (rs_k0 hS) (by decide) rfl rfl) rfl rfl hl.1 rfl (lv_room (Nat.le_of_ble_eq_true rfl)) dX4_step_40 ⟨Nat.le_of_ble_eq_true rfl, Nat.le_of_ble_eq_true rfl⟩) hT (fun v15 H locs hp16 hT => ?_)
            obtain ⟨hf, hI⟩ := hp16
            have hS := hI.1
            refine lv_goto (tgt := 9) hx hb dX4_step_43 (by decide) ?_
            exact ih9 B8 T nm9 st10 dg11 F12 kd13 v15 H locs ls (by omega) (by omega) (by omega) hI hf hT (lv_sub hl [0] rfl)
          · skip
            refine lv_aload_n hx hb dX4_step_34 rfl (lv_at hl 0 rfl) ?_
            refine hv_geti (ci := 4) (C := RX4) (T := TX4) (N := 34) hx hb hts (tw_cs in_X4) hown hK hT (rs_k0 hS) (by decide) rfl 8 (by decide) (hts _ (tw_c tw_320)) rfl dX4_step_35 ?_
            refine lv_topi (fun g17 eg17 => ?_)
            have eg17 : g17 = (nI T) := by rw [eg17]; exact rf_ht hI
            subst eg17
            exact hret _ (nI T) v5 _ _ _ _ _ dX4_step_38 rfl hT ⟨_, _, _, _, _, _, rf_up (by omega) hI⟩ (by decide) (by decide)
  exact hL9 (B + 1) B t nm st dg F kd v1 H locs ls (by omega) (by omega) (by omega) hI hf hT (lv_sub hl [0] rfl)
