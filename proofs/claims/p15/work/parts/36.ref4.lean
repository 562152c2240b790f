/-! ===== what a call asks, said once for class and reference ===== -/
def ok_S (n b : Nat) (x : Int32) : Prop := ¬ x < 1 ∧ ¬ 9 < x ∧ b = 0 ∧ n < 8
def ok_Q (b V : Nat) (x y : Int32) : Prop := b = 0 ∧ ¬ x < 1 ∧ ¬ nI V < x ∧ ¬ y < 1 ∧ ¬ nI V < y ∧ nI V < x + y
def ok_L (n : Nat) (x y z : Int32) (i j q : Nat) : Prop := i < n ∧ j < n ∧ i ≠ j ∧ q ≤ 20 ∧ x = nI i ∧ y = nI j ∧ z = nI q
def ok_D (n : Nat) (x y : Int32) (i j : Nat) : Prop := i < n ∧ j < n ∧ i ≠ j ∧ x = nI i ∧ y = nI j
def ok_P (y : Int32) (q : Nat) : Prop := 1 ≤ q ∧ q ≤ 20 ∧ y = nI q
def ok_T (b : Nat) (x : Int32) : Prop := ¬ x < 5 ∧ ¬ 100 < x ∧ b = 0
/-- site i is told by x, and u i is k -/
def ok_U (n : Nat) (u : Nat → Nat) (k : Nat) (x : Int32) (i : Nat) : Prop := i < n ∧ x = nI i ∧ u i = k
def bt_ (x : Int32) (i : Nat) : Int32 := (x >>> (nI i &&& 31)) &&& 1
def pt_ (x : Int32) (q i j : Nat) : Nat := if bt_ x i = bt_ x j then q else 0

section RFP
variable {ra gh : Nat → Nat} {n b B t nm : Nat} {st dg F kd : Nat → Nat} {v v1 : hv_V}
theorem rf_lu {B P s0 g0 f : Nat} (hP : P + rf_c s0 g0 f ≤ B) : P + rf_c s0 1 f ≤ B + 63 := by
  unfold rf_c at *
  rw [if_pos rfl]
  omega
theorem rf_gh {k j : Nat} {x : Int32} {gh1 : Nat → Nat} (h : rf_J ra gh n b B t nm st dg F kd v) (hk : k = 2 ∨ k = 16 ∨ k = 6) (hG : rs_G ra gh1 (hv_sa v (ra k) j x)) : rf_J ra gh1 n b B t nm st dg F kd (hv_sa v (ra k) j x) := by
  obtain ⟨h1, h2, h3, h4, ⟨g1, g2, g3, g4, g5, g6, g7, g8⟩, h5⟩ := h
  have o : ∀ i e, (rs_len i != 0 && i != 2 && i != 16 && i != 6) = true → hv_a (hv_sa v (ra k) j x) (ra i) e = hv_a v (ra i) e := fun i e hc => by
    simp only [Bool.and_eq_true, bne_iff_ne, ne_eq] at hc
    obtain ⟨⟨⟨c0, c1⟩, c2⟩, c3⟩ := hc
    refine rs_san h1 i k ?_
    rcases hk with rfl | rfl | rfl <;> simp [c0, c1, c2, c3] <;> decide
  exact ⟨h1, h2, h3, hG, ⟨g1, g2, g3, g4, fun i hi => by rw [o 14 i rfl, o 18 i rfl]; exact g5 i hi, fun i hi => by rw [o 21 i rfl]; exact g6 i hi, fun k hk => by rw [o 25 k rfl, o 24 k rfl, o 28 k rfl, o 27 k rfl, o 23 k rfl]; exact g7 k hk, g8⟩, fun hb => ⟨(h5 hb).1, (h5 hb).2.1, fun i hi => by rw [o 21 i rfl]; exact (h5 hb).2.2 i hi⟩⟩
theorem rf_putd {i j q : Nat} {x : Int32} (hx : x = nI q) (hi : i < 8) (hj : j < 8) (hq : q ≤ 20) (h : rf_J ra gh n b B t nm st dg F kd v) : rf_J ra (va_up gh (3000 + (8 * i + j)) q) n b B t nm st dg F kd (hv_sa v (ra 6) (nI (8 * i + j)).toNatClampNeg x) := by
  have h1 := h.1
  obtain ⟨G1, G2, G3⟩ := h.2.2.2.1
  refine rf_gh h (by simp) ⟨fun e he => ?_, fun e he => ?_, fun e he => ?_⟩
  · rw [va_up_ne _ _ (by omega), rs_san h1 2 6 rfl]; exact G1 e he
  · rw [va_up_ne _ _ (by omega), rs_san h1 16 6 rfl]; exact G2 e he
  · rw [nI_clamp (by omega), hv_sa_a]
    by_cases q1 : e = 8 * i + j
    · subst q1
      rw [va_up_self, if_pos ⟨rfl, rfl⟩]; exact ⟨hq, hx⟩
    · rw [va_up_ne _ _ (by omega), if_neg (fun z => q1 z.2)]; exact G3 e he
theorem rf_putw {i q : Nat} {x : Int32} (hx : x = nI q) (hi : i < 8) (hq : q ≤ 9) (h : rf_J ra gh n b B t nm st dg F kd v) : rf_J ra (va_up gh (1000 + i) q) n b B t nm st dg F kd (hv_sa v (ra 2) (nI i).toNatClampNeg x) := by
  have h1 := h.1
  obtain ⟨G1, G2, G3⟩ := h.2.2.2.1
  refine rf_gh h (by simp) ⟨fun e he => ?_, fun e he => ?_, fun e he => ?_⟩
  · rw [cs_cl hi, hv_sa_a]
    by_cases q1 : e = i
    · subst q1
      rw [va_up_self, if_pos ⟨rfl, rfl⟩]; exact ⟨hq, hx⟩
    · rw [va_up_ne _ _ (by omega), if_neg (fun z => q1 z.2)]; exact G1 e he
  · rw [va_up_ne _ _ (by omega), rs_san h1 16 2 rfl]; exact G2 e he
  · rw [va_up_ne _ _ (by omega), rs_san h1 6 2 rfl]; exact G3 e he
theorem rf_putu {i q : Nat} {x : Int32} (hx : x = nI q) (hi : i < 8) (hq : q ≤ 1) (h : rf_J ra gh n b B t nm st dg F kd v) : rf_J ra (va_up gh (2000 + i) q) n b B t nm st dg F kd (hv_sa v (ra 16) (nI i).toNatClampNeg x) := by
  have h1 := h.1
  obtain ⟨G1, G2, G3⟩ := h.2.2.2.1
  refine rf_gh h (by simp) ⟨fun e he => ?_, fun e he => ?_, fun e he => ?_⟩
  · rw [va_up_ne _ _ (by omega), rs_san h1 2 16 rfl]; exact G1 e he
  · rw [cs_cl hi, hv_sa_a]
    by_cases q1 : e = i
    · subst q1
      rw [va_up_self, if_pos ⟨rfl, rfl⟩]; exact ⟨hq, hx⟩
    · rw [va_up_ne _ _ (by omega), if_neg (fun z => q1 z.2)]; exact G2 e he
  · rw [va_up_ne _ _ (by omega), rs_san h1 6 16 rfl]; exact G3 e he
theorem rf_dn (h : rf_J ra gh n b B t nm st dg F kd v) {i : Nat} (hi : i < 8) : hv_a v (ra 16) (nI i).toNatClampNeg = nI (gh (2000 + i)) := by rw [cs_cl hi]; exact (h.2.2.2.1.2.1 i hi).2
theorem rf_dn1 (h : rf_J ra gh n b B t nm st dg F kd v) {i : Nat} (hi : i < 8) : gh (2000 + i) ≤ 1 := (h.2.2.2.1.2.1 i hi).1
theorem rf_de (h : rf_J ra gh n b B t nm st dg F kd v) {i j : Nat} (hi : i < 8) (hj : j < 8) : hv_a v (ra 6) (nI (8 * i + j)).toNatClampNeg = nI (gh (3000 + (8 * i + j))) := by rw [nI_clamp (by omega)]; exact (h.2.2.2.1.2.2 _ (by omega)).2
theorem rf_pat {q : Nat} (h5 : 5 ≤ q) (h100 : q ≤ 100) (h : rf_J ra gh n b B t nm st dg F kd v) : rf_J ra gh n b B t nm st dg F kd (hv_si v 405 (ra 0) (nI q)) := by
  obtain ⟨h1, h2, h3, h4, ⟨g1, g2, g3, g4, g5, g6, g7, g8⟩, h6⟩ := h
  exact ⟨h1, h2, h3, h4, ⟨g1, g2, g3, ⟨q, h5, h100, by rw [hv_si_i, if_pos ⟨rfl, rfl⟩]⟩, g5, g6, g7, g8⟩, h6⟩
theorem rf_site (h : rf_J ra gh n 0 B t nm st dg F kd v) (hn : n < 8) (h21 : hv_a v (ra 21) n = -1) : rf_J ra gh (n + 1) 0 B t nm st dg F kd (hv_si v 401 (ra 0) (nI (n + 1))) := by
  obtain ⟨h1, h2, h3, h4, ⟨g1, g2, g3, g4, g5, g6, g7, g8⟩, h6⟩ := h
  obtain ⟨z1, z2, z3⟩ := h6 rfl
  have hall : ∀ i, i < n + 1 → hv_a v (ra 21) i = -1 := fun i hi => by
    by_cases e : i = n
    · rw [e]; exact h21
    · exact z3 i (by omega)
  exact ⟨h1, ⟨by rw [hv_si_i, if_pos ⟨rfl, rfl⟩], by omega⟩, h3, h4, ⟨g1, g2, g3, g4, g5, fun i hi => Or.inl (hall i hi), fun k hk => by omega, g8⟩, fun _ => ⟨z1, z2, hall⟩⟩
/-- all up again -/
def gh_r (gh : Nat → Nat) (k : Nat) : Nat := if 2000 ≤ k ∧ k < 2008 then 0 else gh k
def rf_R (ra gh : Nat → Nat) (n i : Nat) (v : hv_V) : Prop := rs_S ra v ∧ (hv_i v 401 (ra 0) = nI n ∧ n ≤ 8) ∧ hv_i v 407 (ra 0) = 0 ∧ hv_i v 408 (ra 0) = 0 ∧ hv_i v 430 (ra 0) = 0 ∧ (∃ q, 5 ≤ q ∧ q ≤ 100 ∧ hv_i v 405 (ra 0) = nI q) ∧ ((∀ i, i < 8 → gh (1000 + i) ≤ 9 ∧ hv_a v (ra 2) i = nI (gh (1000 + i))) ∧ ∀ e, e < 64 → gh (3000 + e) ≤ 20 ∧ hv_a v (ra 6) e = nI (gh (3000 + e))) ∧ ∀ j, j < i → hv_a v (ra 14) j = 0 ∧ hv_a v (ra 18) j = 0 ∧ hv_a v (ra 21) j = -1 ∧ hv_a v (ra 16) j = 0
theorem rf_R8 (h : rf_R ra gh n 8 v) : rf_J ra (gh_r gh) n 0 410048 0 0 (fun _ => 0) (fun _ => 0) (fun _ => 0) (fun _ => 0) v := by
  obtain ⟨h1, h2, h3, h4, h5, h6, ⟨h7, h9⟩, h8⟩ := h
  refine ⟨h1, h2, ⟨h3, by omega⟩, ⟨fun i hi => ?_, fun i hi => ?_, fun e he => ?_⟩, ⟨by omega, h4, h5, h6, fun i hi => ⟨(h8 i hi).1, Nat.zero_le _, (h8 i hi).2.1, Nat.zero_le _, fun q => absurd rfl q, Nat.le_refl _⟩, fun i hi => Or.inl (h8 i (by have := h2.2; omega)).2.2.1, fun k hk => by omega, by decide⟩, fun _ => ⟨rfl, fun _ _ => rfl, fun i hi => (h8 i (by have := h2.2; omega)).2.2.1⟩⟩
  · unfold gh_r; rw [if_neg (by omega)]; exact h7 i hi
  · unfold gh_r; rw [if_pos (by omega)]; exact ⟨Nat.zero_le _, (h8 i hi).2.2.2⟩
  · unfold gh_r; rw [if_neg (by omega)]; exact h9 e he
theorem rf_Rs {i : Nat} (hi : i < 8) {x1 x3 x4 : Int32} (h : rf_R ra gh n i v) : rf_R ra gh n (i + 1) (hv_sa (hv_sa (hv_sa (hv_sa (hv_sa (hv_sa (hv_sa v (ra 14) (nI i).toNatClampNeg 0) (ra 15) (nI i).toNatClampNeg x1) (ra 16) (nI i).toNatClampNeg 0) (ra 17) (nI i).toNatClampNeg x3) (ra 18) (nI i).toNatClampNeg 0) (ra 19) (nI i).toNatClampNeg x4) (ra 21) (nI i).toNatClampNeg (-1)) := by
  obtain ⟨h1, h2, h3, h4, h5, h6, ⟨h7, h9⟩, h8⟩ := h
  rw [cs_cl hi]
  refine ⟨h1, h2, h3, h4, h5, h6, ⟨fun e he => ?_, fun e he => ?_⟩, fun j hj => ?_⟩
  · rw [rs_san h1 2 21 rfl, rs_san h1 2 19 rfl, rs_san h1 2 18 rfl, rs_san h1 2 17 rfl, rs_san h1 2 16 rfl, rs_san h1 2 15 rfl, rs_san h1 2 14 rfl]; exact h7 e he
  · rw [rs_san h1 6 21 rfl, rs_san h1 6 19 rfl, rs_san h1 6 18 rfl, rs_san h1 6 17 rfl, rs_san h1 6 16 rfl, rs_san h1 6 15 rfl, rs_san h1 6 14 rfl]; exact h9 e he
  · rw [rs_san h1 14 21 rfl, rs_san h1 14 19 rfl, rs_san h1 14 18 rfl, rs_san h1 14 17 rfl, rs_san h1 14 16 rfl, rs_san h1 14 15 rfl, hv_sa_a, rs_san h1 18 21 rfl, rs_san h1 18 19 rfl, hv_sa_a, rs_san h1 18 17 rfl, rs_san h1 18 16 rfl, rs_san h1 18 15 rfl, rs_san h1 18 14 rfl, hv_sa_a, rs_san h1 21 19 rfl, rs_san h1 21 18 rfl, rs_san h1 21 17 rfl, rs_san h1 21 16 rfl, rs_san h1 21 15 rfl, rs_san h1 21 14 rfl, rs_san h1 16 21 rfl, rs_san h1 16 19 rfl, rs_san h1 16 18 rfl, rs_san h1 16 17 rfl, hv_sa_a, rs_san h1 16 15 rfl, rs_san h1 16 14 rfl]
    by_cases e : j = i
    · subst e; simp
    · simp only [e, and_false, if_false]; exact h8 j (by omega)
theorem rf_Rt {i : Nat} {j0 j1 j2 j3 j4 : Nat} {x1 x2 x3 x4 x5 : Int32} (h : rf_R ra gh n i v) : rf_R ra gh n i (hv_sa (hv_sa (hv_sa (hv_sa (hv_sa v (ra 31) j0 x1) (ra 31) j1 x2) (ra 31) j2 x3) (ra 31) j3 x4) (ra 31) j4 x5) := by
  obtain ⟨h1, h2, h3, h4, h5, h6, ⟨h7, h9⟩, h8⟩ := h
  have o : ∀ k e, (rs_len k != 0 && rs_len 31 != 0 && k != 31) = true → hv_a (hv_sa (hv_sa (hv_sa (hv_sa (hv_sa v (ra 31) j0 x1) (ra 31) j1 x2) (ra 31) j2 x3) (ra 31) j3 x4) (ra 31) j4 x5) (ra k) e = hv_a v (ra k) e := fun k e hc => by rw [rs_san h1 k 31 hc, rs_san h1 k 31 hc, rs_san h1 k 31 hc, rs_san h1 k 31 hc, rs_san h1 k 31 hc]
  exact ⟨h1, h2, h3, h4, h5, h6, ⟨fun e he => by rw [o 2 e rfl]; exact h7 e he, fun e he => by rw [o 6 e rfl]; exact h9 e he⟩, fun j hj => by rw [o 14 j rfl, o 18 j rfl, o 21 j rfl, o 16 j rfl]; exact h8 j hj⟩
end RFP

theorem ok_Dne {n i j i1 j1 : Nat} {x y : Int32} (hn : n ≤ 8) (h : ok_D n x y i1 j1) (hx : x = nI i) (hy : y = nI j) (hi : i < n) (hj : j < n) (e : nI i = nI j) : False := by
  obtain ⟨h1, h2, h3, h4, h5⟩ := h
  exact h3 (nI_lit (h4.symm.trans (hx.trans (e.trans (hy.symm.trans h5)))))

set_option maxHeartbeats 4000000 in
set_option maxRecDepth 100000 in
theorem m_check (l : Launch) (D : va_G) (tc : Nat → ClassId) {ra gh : Nat → Nat} {n b B t nm : Nat} {st dg F kd : Nat → Nat} {v : hv_V} (hI : rf_J ra gh n b B t nm st dg F kd v) : Met l yX4_check (Cond.code yX4_check cX4_check 1 (some .int) :: lw_B) ({ frames := 0, cells := 0, slots := 0, locals := 0 }) (va_Pc [.ref (ra 0)] (hv_Pre D tc v)) (va_Qi (fun (r : Int32) (v1 : hv_V) => ∃ t1 nm1 st1 dg1 F1 kd1, rf_J ra gh n b B t1 nm1 st1 dg1 F1 kd1 v1) (hv_Post D tc (hv_A v)) (hv_A v)) (0) (0) (hv_A v) := by
  refine hv_meti l (by decide) (Nat.le_of_ble_eq_true rfl) ?_
  intro p e s m args below meth c Q X hret hK hz H locs ls hT hl
  obtain ⟨hx, hb, hml, hts, hown, hin0⟩ := X
  have hown : s.vm.findClass "CommitSitesModel" = some m.cls := hown
  have hl : lv_has ls 1 [(0, .ref (ra 0))] := hl
  have hS := hI.1
  have hI0 := hI
  refine lv_aload_n hx hb dX4_check_0 rfl (lv_at hl 0 rfl) ?_
  refine lv_iconst (v := 0) hx hb dX4_check_1 (by decide) ?_
  refine hv_puti (ci := 4) (C := RX4) (T := TX4) (N := 34) hx hb hts (tw_cs in_X4) tyX4 tyX4_ok nmX4 hown hK hT (rs_k0 hS) (by decide) rfl 0 (by decide) (hts _ (tw_c tw_312)) rfl rfl (x := 0) rfl rfl dX4_check_2 (fun H locs hT => ?_)
  have hI := rf_puti (f := 400) (x := 0) rfl hI
  have hS := hI.1
  refine lv_iconst (v := 1) hx hb dX4_check_5 (by decide) ?_
  exact hret _ 1 (hv_si v 400 (ra 0) 0) _ _ _ _ _ dX4_check_6 rfl hT ⟨_, _, _, _, _, _, hI⟩ (by decide) (by decide)

set_option maxHeartbeats 4000000 in
set_option maxRecDepth 100000 in
theorem m_count (l : Launch) (D : va_G) (tc : Nat → ClassId) {ra gh : Nat → Nat} {n b B t nm : Nat} {st dg F kd : Nat → Nat} {v : hv_V} (hI : rf_J ra gh n b B t nm st dg F kd v) (x : Int32) : Met l yX4_count (Cond.code yX4_count cX4_count 2 (some .int) :: lw_B) ({ frames := 0, cells := 0, slots := 0, locals := 0 }) (va_Pc [.ref (ra 0), .int x] (hv_Pre D tc v)) (va_Qi (fun (r : Int32) (v1 : hv_V) => ∃ t1 nm1 st1 dg1 F1 kd1, rf_J ra gh n b B t1 nm1 st1 dg1 F1 kd1 v1) (hv_Post D tc (hv_A v)) (hv_A v)) (0) (0) (hv_A v) := by
  refine hv_meti l (by decide) (Nat.le_of_ble_eq_true rfl) ?_
  intro p e s m args below meth c Q X hret hK hz H locs ls hT hl
  obtain ⟨hx, hb, hml, hts, hown, hin0⟩ := X
  have hown : s.vm.findClass "CommitSitesModel" = some m.cls := hown
  have hl : lv_has ls 2 [(0, .ref (ra 0)), (1, .int x)] := hl
  have hS := hI.1
  have hI0 := hI
  refine lv_aload_n hx hb dX4_count_0 rfl (lv_at hl 0 rfl) ?_
  refine lv_iconst (v := 0) hx hb dX4_count_1 (by decide) ?_
  refine hv_puti (ci := 4) (C := RX4) (T := TX4) (N := 34) hx hb hts (tw_cs in_X4) tyX4 tyX4_ok nmX4 hown hK hT (rs_k0 hS) (by decide) rfl 0 (by decide) (hts _ (tw_c tw_312)) rfl rfl (x := 0) rfl rfl dX4_count_2 (fun H locs hT => ?_)
  have hI := rf_puti (f := 400) (x := 0) rfl hI
  have hS := hI.1
  refine lv_iload_n hx hb dX4_count_5 rfl (lv_at hl 1 rfl) ?_
  by_cases t6_0 : x = 0
  · skip
    refine lv_tableIn (off := 54) (tgt := 60) hx hb dX4_count_6 (by rw [t6_0]; decide) (by rw [t6_0]; decide) (by rw [t6_0]; rfl) (by decide) ?_
    refine lv_aload_n hx hb dX4_count_60 rfl (lv_at hl 0 rfl) ?_
    refine hv_geti (ci := 4) (C := RX4) (T := TX4) (N := 34) hx hb hts (tw_cs in_X4) hown hK hT (rs_k0 hS) (by decide) rfl 8 (by decide) (hts _ (tw_c tw_320)) rfl dX4_count_61 ?_
    refine lv_topi (fun g1 eg1 => ?_)
    have eg1 : g1 = (nI t) := by rw [eg1]; exact rf_ht hI
    subst eg1
    exact hret _ (nI t) (hv_si v 400 (ra 0) 0) _ _ _ _ _ dX4_count_64 rfl hT ⟨_, _, _, _, _, _, hI⟩ (by decide) (by decide)
  by_cases t6_1 : x = 1
  · skip
    refine lv_tableIn (off := 59) (tgt := 65) hx hb dX4_count_6 (by rw [t6_1]; decide) (by rw [t6_1]; decide) (by rw [t6_1]; rfl) (by decide) ?_
    refine lv_aload_n hx hb dX4_count_65 rfl (lv_at hl 0 rfl) ?_
    refine hv_geti (ci := 4) (C := RX4) (T := TX4) (N := 34) hx hb hts (tw_cs in_X4) hown hK hT (rs_k0 hS) (by decide) rfl 10 (by decide) (hts _ (tw_c tw_322)) rfl dX4_count_66 ?_
    refine lv_topi (fun g2 eg2 => ?_)
    exact hret _ g2 (hv_si v 400 (ra 0) 0) _ _ _ _ _ dX4_count_69 rfl hT ⟨_, _, _, _, _, _, hI⟩ (by decide) (by decide)
  by_cases t6_2 : x = 2
  · skip
    refine lv_tableIn (off := 64) (tgt := 70) hx hb dX4_count_6 (by rw [t6_2]; decide) (by rw [t6_2]; decide) (by rw [t6_2]; rfl) (by decide) ?_
    refine lv_aload_n hx hb dX4_count_70 rfl (lv_at hl 0 rfl) ?_
    refine hv_geti (ci := 4) (C := RX4) (T := TX4) (N := 34) hx hb hts (tw_cs in_X4) hown hK hT (rs_k0 hS) (by decide) rfl 11 (by decide) (hts _ (tw_c tw_323)) rfl dX4_count_71 ?_
    refine lv_topi (fun g3 eg3 => ?_)
    exact hret _ g3 (hv_si v 400 (ra 0) 0) _ _ _ _ _ dX4_count_74 rfl hT ⟨_, _, _, _, _, _, hI⟩ (by decide) (by decide)
  by_cases t6_3 : x = 3
  · skip
    refine lv_tableIn (off := 69) (tgt := 75) hx hb dX4_count_6 (by rw [t6_3]; decide) (by rw [t6_3]; decide) (by rw [t6_3]; rfl) (by decide) ?_
    refine lv_aload_n hx hb dX4_count_75 rfl (lv_at hl 0 rfl) ?_
    refine hv_geti (ci := 4) (C := RX4) (T := TX4) (N := 34) hx hb hts (tw_cs in_X4) hown hK hT (rs_k0 hS) (by decide) rfl 12 (by decide) (hts _ (tw_c tw_324)) rfl dX4_count_76 ?_
    refine lv_topi (fun g4 eg4 => ?_)
    exact hret _ g4 (hv_si v 400 (ra 0) 0) _ _ _ _ _ dX4_count_79 rfl hT ⟨_, _, _, _, _, _, hI⟩ (by decide) (by decide)
  by_cases t6_4 : x = 4
  · skip
    refine lv_tableIn (off := 74) (tgt := 80) hx hb dX4_count_6 (by rw [t6_4]; decide) (by rw [t6_4]; decide) (by rw [t6_4]; rfl) (by decide) ?_
    refine lv_aload_n hx hb dX4_count_80 rfl (lv_at hl 0 rfl) ?_
    refine hv_geti (ci := 4) (C := RX4) (T := TX4) (N := 34) hx hb hts (tw_cs in_X4) hown hK hT (rs_k0 hS) (by decide) rfl 13 (by decide) (hts _ (tw_c tw_325)) rfl dX4_count_81 ?_
    refine lv_topi (fun g5 eg5 => ?_)
    exact hret _ g5 (hv_si v 400 (ra 0) 0) _ _ _ _ _ dX4_count_84 rfl hT ⟨_, _, _, _, _, _, hI⟩ (by decide) (by decide)
  by_cases t6_5 : x = 5
  · skip
    refine lv_tableIn (off := 79) (tgt := 85) hx hb dX4_count_6 (by rw [t6_5]; decide) (by rw [t6_5]; decide) (by rw [t6_5]; rfl) (by decide) ?_
    refine lv_aload_n hx hb dX4_count_85 rfl (lv_at hl 0 rfl) ?_
    refine hv_geti (ci := 4) (C := RX4) (T := TX4) (N := 34) hx hb hts (tw_cs in_X4) hown hK hT (rs_k0 hS) (by decide) rfl 1 (by decide) (hts _ (tw_c tw_313)) rfl dX4_count_86 ?_
    refine lv_topi (fun g6 eg6 => ?_)
    have eg6 : g6 = (nI n) := by rw [eg6]; exact rf_hn hI
    subst eg6
    exact hret _ (nI n) (hv_si v 400 (ra 0) 0) _ _ _ _ _ dX4_count_89 rfl hT ⟨_, _, _, _, _, _, hI⟩ (by decide) (by decide)
  by_cases t6_6 : x = 6
  · skip
    refine lv_tableIn (off := 84) (tgt := 90) hx hb dX4_count_6 (by rw [t6_6]; decide) (by rw [t6_6]; decide) (by rw [t6_6]; rfl) (by decide) ?_
    refine lv_aload_n hx hb dX4_count_90 rfl (lv_at hl 0 rfl) ?_
    refine hv_geti (ci := 4) (C := RX4) (T := TX4) (N := 34) hx hb hts (tw_cs in_X4) hown hK hT (rs_k0 hS) (by decide) rfl 3 (by decide) (hts _ (tw_c tw_315)) rfl dX4_count_91 ?_
    refine lv_topi (fun g7 eg7 => ?_)
    exact hret _ g7 (hv_si v 400 (ra 0) 0) _ _ _ _ _ dX4_count_94 rfl hT ⟨_, _, _, _, _, _, hI⟩ (by decide) (by decide)
  by_cases t6_7 : x = 7
  · skip
    refine lv_tableIn (off := 89) (tgt := 95) hx hb dX4_count_6 (by rw [t6_7]; decide) (by rw [t6_7]; decide) (by rw [t6_7]; rfl) (by decide) ?_
    refine lv_aload_n hx hb dX4_count_95 rfl (lv_at hl 0 rfl) ?_
    refine hv_geti (ci := 4) (C := RX4) (T := TX4) (N := 34) hx hb hts (tw_cs in_X4) hown hK hT (rs_k0 hS) (by decide) rfl 4 (by decide) (hts _ (tw_c tw_316)) rfl dX4_count_96 ?_
    refine lv_topi (fun g8 eg8 => ?_)
    exact hret _ g8 (hv_si v 400 (ra 0) 0) _ _ _ _ _ dX4_count_99 rfl hT ⟨_, _, _, _, _, _, hI⟩ (by decide) (by decide)
  by_cases t6_8 : x = 8
  · skip
    refine lv_tableIn (off := 94) (tgt := 100) hx hb dX4_count_6 (by rw [t6_8]; decide) (by rw [t6_8]; decide) (by rw [t6_8]; rfl) (by decide) ?_
    refine lv_aload_n hx hb dX4_count_100 rfl (lv_at hl 0 rfl) ?_
    refine hv_geti (ci := 4) (C := RX4) (T := TX4) (N := 34) hx hb hts (tw_cs in_X4) hown hK hT (rs_k0 hS) (by decide) rfl 5 (by decide) (hts _ (tw_c tw_317)) rfl dX4_count_101 ?_
    refine lv_topi (fun g9 eg9 => ?_)
    obtain ⟨q10, h5q10, h100q10, hq10⟩ := rf_q hI
    have eg9 : g9 = (nI q10) := by rw [eg9]; exact hq10
    subst eg9
    exact hret _ (nI q10) (hv_si v 400 (ra 0) 0) _ _ _ _ _ dX4_count_104 rfl hT ⟨_, _, _, _, _, _, hI⟩ (by decide) (by decide)
  by_cases t6_9 : x = 9
  · skip
    refine lv_tableIn (off := 99) (tgt := 105) hx hb dX4_count_6 (by rw [t6_9]; decide) (by rw [t6_9]; decide) (by rw [t6_9]; rfl) (by decide) ?_
    refine lv_aload_n hx hb dX4_count_105 rfl (lv_at hl 0 rfl) ?_
    refine hv_geti (ci := 4) (C := RX4) (T := TX4) (N := 34) hx hb hts (tw_cs in_X4) hown hK hT (rs_k0 hS) (by decide) rfl 30 (by decide) (hts _ (tw_c tw_342)) rfl dX4_count_106 ?_
    refine lv_topi (fun g11 eg11 => ?_)
    have eg11 : g11 = (nI nm) := by rw [eg11]; exact rf_hm hI
    subst eg11
    exact hret _ (nI nm) (hv_si v 400 (ra 0) 0) _ _ _ _ _ dX4_count_109 rfl hT ⟨_, _, _, _, _, _, hI⟩ (by decide) (by decide)
  refine lv_tableOut (tgt := 110) hx hb dX4_count_6 (by have h0 := lv_neT t6_0 (a := 0) rfl; have h1 := lv_neT t6_1 (a := 1) rfl; have h2 := lv_neT t6_2 (a := 2) rfl; have h3 := lv_neT t6_3 (a := 3) rfl; have h4 := lv_neT t6_4 (a := 4) rfl; have h5 := lv_neT t6_5 (a := 5) rfl; have h6 := lv_neT t6_6 (a := 6) rfl; have h7 := lv_neT t6_7 (a := 7) rfl; have h8 := lv_neT t6_8 (a := 8) rfl; have h9 := lv_neT t6_9 (a := 9) rfl; omega) (by decide) ?_
  refine lv_iconst (v := (-1)) hx hb dX4_count_110 (by decide) ?_
  exact hret _ (-1) (hv_si v 400 (ra 0) 0) _ _ _ _ _ dX4_count_111 rfl hT ⟨_, _, _, _, _, _, hI⟩ (by decide) (by decide)

set_option maxHeartbeats 4000000 in
set_option maxRecDepth 100000 in
theorem m_latest (l : Launch) (D : va_G) (tc : Nat → ClassId) {ra gh : Nat → Nat} {n b B t nm : Nat} {st dg F kd : Nat → Nat} {v : hv_V} (hI : rf_J ra gh n b B t nm st dg F kd v) (x : Int32) : Met l yX4_latest (Cond.code yX4_latest cX4_latest 2 (some .int) :: lw_B) ({ frames := 0, cells := 0, slots := 0, locals := 0 }) (va_Pc [.ref (ra 0), .int x] (hv_Pre D tc v)) (va_Qi (fun (r : Int32) (v1 : hv_V) => ∃ t1 nm1 st1 dg1 F1 kd1, rf_J ra gh n b B t1 nm1 st1 dg1 F1 kd1 v1) (hv_Post D tc (hv_A v)) (hv_A v)) (0) (0) (hv_A v) := by
  refine hv_meti l (by decide) (Nat.le_of_ble_eq_true rfl) ?_
  intro p e s m args below meth c Q X hret hK hz H locs ls hT hl
  obtain ⟨hx, hb, hml, hts, hown, hin0⟩ := X
  have hown : s.vm.findClass "CommitSitesModel" = some m.cls := hown
  have hl : lv_has ls 2 [(0, .ref (ra 0)), (1, .int x)] := hl
  have hS := hI.1
  have hI0 := hI
  refine lv_aload_n hx hb dX4_latest_0 rfl (lv_at hl 0 rfl) ?_
  refine lv_iconst (v := 0) hx hb dX4_latest_1 (by decide) ?_
  refine hv_puti (ci := 4) (C := RX4) (T := TX4) (N := 34) hx hb hts (tw_cs in_X4) tyX4 tyX4_ok nmX4 hown hK hT (rs_k0 hS) (by decide) rfl 0 (by decide) (hts _ (tw_c tw_312)) rfl rfl (x := 0) rfl rfl dX4_latest_2 (fun H locs hT => ?_)
  have hI := rf_puti (f := 400) (x := 0) rfl hI
  have hS := hI.1
  refine lv_iload_n hx hb dX4_latest_5 rfl (lv_at hl 1 rfl) ?_
  refine lv_if_lt (tgt := 23) hx hb dX4_latest_6 (by decide) (fun c6 => ?_) (fun c6 => ?_)
  · skip
    refine lv_iconst (v := (-1)) hx hb dX4_latest_23 (by decide) ?_
    exact hret _ (-1) (hv_si v 400 (ra 0) 0) _ _ _ _ _ dX4_latest_24 rfl hT ⟨_, _, _, _, _, _, hI⟩ (by decide) (by decide)
  · skip
    refine lv_iload_n hx hb dX4_latest_9 rfl (lv_at hl 1 rfl) ?_
    refine lv_iconst (v := 4) hx hb dX4_latest_10 (by decide) ?_
    refine lv_icmp_gt (tgt := 23) hx hb dX4_latest_11 (by decide) (fun c11 => ?_) (fun c11 => ?_)
    · skip
      refine lv_iconst (v := (-1)) hx hb dX4_latest_23 (by decide) ?_
      exact hret _ (-1) (hv_si v 400 (ra 0) 0) _ _ _ _ _ dX4_latest_24 rfl hT ⟨_, _, _, _, _, _, hI⟩ (by decide) (by decide)
    · skip
      obtain ⟨q, hq5, rfl⟩ := nI_of2 (M := 4) (n := 4) rfl c6 (Int32.not_lt.mp c11)
      refine lv_aload_n hx hb dX4_latest_14 rfl (lv_at hl 0 rfl) ?_
      refine hv_gets (ci := 4) (C := RX4) (T := TX4) (N := 34) hx hb hts (tw_cs in_X4) hown hK hT (rs_k0 hS) (by decide) rfl 31 (by decide) (hts _ (tw_c tw_343)) rfl (x := (ra 31)) (rs_p31 hS) dX4_latest_15 ?_
      refine lv_iload_n hx hb dX4_latest_18 rfl (lv_at hl 1 rfl) ?_
      refine hv_iald hx hb hK hT (rs_k31 hS) (vp_in_nI (by omega) (by omega)) dX4_latest_19 ?_
      refine lv_topi (fun g1 eg1 => ?_)
      refine lv_goto (tgt := 24) hx hb dX4_latest_20 (by decide) ?_
      exact hret _ g1 (hv_si v 400 (ra 0) 0) _ _ _ _ _ dX4_latest_24 rfl hT ⟨_, _, _, _, _, _, hI⟩ (by decide) (by decide)

set_option maxHeartbeats 4000000 in
set_option maxRecDepth 100000 in
theorem m_of (l : Launch) (D : va_G) (tc : Nat → ClassId) {ra gh : Nat → Nat} {n b B t nm : Nat} {st dg F kd : Nat → Nat} {v : hv_V} (hI : rf_J ra gh n b B t nm st dg F kd v) (x y : Int32) : Met l yX4_of (Cond.code yX4_of cX4_of 3 (some .int) :: lw_B) ({ frames := 1, cells := 0, slots := 0, locals := 21 }) (va_Pc [.ref (ra 0), .int x, .int y] (hv_Pre D tc v)) (va_Qi (fun (r : Int32) (v1 : hv_V) => ∃ t1 nm1 st1 dg1 F1 kd1, rf_J ra gh n b B t1 nm1 st1 dg1 F1 kd1 v1) (hv_Post D tc (hv_A v)) (hv_A v)) (0) (0) (hv_A v) := by
  refine hv_meti l (by decide) (Nat.le_of_ble_eq_true rfl) ?_
  intro p e s m args below meth c Q X hret hK hz H locs ls hT hl
  obtain ⟨hx, hb, hml, hts, hown, hin0⟩ := X
  have hown : s.vm.findClass "CommitSitesModel" = some m.cls := hown
  have hl : lv_has ls 3 [(0, .ref (ra 0)), (1, .int x), (2, .int y)] := hl
  have hS := hI.1
  have hI0 := hI
  refine lv_aload_n hx hb dX4_of_0 rfl (lv_at hl 0 rfl) ?_
  refine lv_iconst (v := 0) hx hb dX4_of_1 (by decide) ?_
  refine hv_puti (ci := 4) (C := RX4) (T := TX4) (N := 34) hx hb hts (tw_cs in_X4) tyX4 tyX4_ok nmX4 hown hK hT (rs_k0 hS) (by decide) rfl 0 (by decide) (hts _ (tw_c tw_312)) rfl rfl (x := 0) rfl rfl dX4_of_2 (fun H locs hT => ?_)
  have hI := rf_puti (f := 400) (x := 0) rfl hI
  have hS := hI.1
  refine lv_aload_n hx hb dX4_of_5 rfl (lv_at hl 0 rfl) ?_
  refine lv_iload_n hx hb dX4_of_6 rfl (lv_at hl 1 rfl) ?_
  refine hv_calli (va_runV (As := [.int x]) (rest := []) ⟨hx, hb, hml, hown, hts⟩ (m_isSite l D tc hI x) (cwV 1 hts (tw_V tw_362 tw_363 tw_509 tw_3 tw_364) rfl rfl rfl (by decide +kernel) ⟨Nat.le_of_ble_eq_true rfl, Nat.le_of_ble_eq_true rfl⟩) (hv_preV (ci := 4) hK hT.1 (rs_k0 hS) (by decide) rfl rfl) rfl rfl hl.1 rfl (lv_room (Nat.le_of_ble_eq_true rfl)) dX4_of_7 ⟨Nat.le_of_ble_eq_true rfl, Nat.le_of_ble_eq_true rfl⟩) hT (fun r3 v1 H locs hp2 hT => ?_)
  obtain ⟨evhp2, qhp2⟩ := hp2
  rw [evhp2] at hT
  refine lv_if_ne (tgt := 15) hx hb dX4_of_10 (by decide) (fun c10 => ?_) (fun c10 => ?_)
  · skip
    obtain ⟨i, hi, ei9⟩ := (qhp2.resolve_right (fun z => c10 z.1)).2
    subst ei9
    refine lv_iload_n hx hb dX4_of_15 rfl (lv_at hl 2 rfl) ?_
    refine lv_if_ne (tgt := 28) hx hb dX4_of_16 (by decide) (fun c16 => ?_) (fun c16 => ?_)
    · skip
      refine lv_iload_n hx hb dX4_of_28 rfl (lv_at hl 2 rfl) ?_
      refine lv_iconst (v := 1) hx hb dX4_of_29 (by decide) ?_
      refine lv_icmp_ne (tgt := 50) hx hb dX4_of_30 (by decide) (fun c30 => ?_) (fun c30 => ?_)
      · skip
        refine lv_iload_n hx hb dX4_of_50 rfl (lv_at hl 2 rfl) ?_
        refine lv_iconst (v := 2) hx hb dX4_of_51 (by decide) ?_
        refine lv_icmp_ne (tgt := 64) hx hb dX4_of_52 (by decide) (fun c52 => ?_) (fun c52 => ?_)
        · skip
          refine lv_iload_n hx hb dX4_of_64 rfl (lv_at hl 2 rfl) ?_
          refine lv_iconst (v := 3) hx hb dX4_of_65 (by decide) ?_
          refine lv_icmp_ne (tgt := 78) hx hb dX4_of_66 (by decide) (fun c66 => ?_) (fun c66 => ?_)
          · skip
            refine lv_iload_n hx hb dX4_of_78 rfl (lv_at hl 2 rfl) ?_
            refine lv_iconst (v := 4) hx hb dX4_of_79 (by decide) ?_
            refine lv_icmp_ne (tgt := 92) hx hb dX4_of_80 (by decide) (fun c80 => ?_) (fun c80 => ?_)
            · skip
              refine lv_iload_n hx hb dX4_of_92 rfl (lv_at hl 2 rfl) ?_
              refine lv_iconst (v := 5) hx hb dX4_of_93 (by decide) ?_
              refine lv_icmp_ne (tgt := 106) hx hb dX4_of_94 (by decide) (fun c94 => ?_) (fun c94 => ?_)
              · skip
                refine lv_iload_n hx hb dX4_of_106 rfl (lv_at hl 2 rfl) ?_
                refine lv_bipush (v := 6) hx hb dX4_of_107 (by decide) ?_
                refine lv_icmp_ne (tgt := 121) hx hb dX4_of_109 (by decide) (fun c109 => ?_) (fun c109 => ?_)
                · skip
                  refine lv_iconst (v := (-1)) hx hb dX4_of_121 (by decide) ?_
                  exact hret _ (-1) (hv_si v 400 (ra 0) 0) _ _ _ _ _ dX4_of_122 rfl hT ⟨_, _, _, _, _, _, hI⟩ (by decide) (by decide)
                · skip
                  refine lv_aload_n hx hb dX4_of_112 rfl (lv_at hl 0 rfl) ?_
                  refine hv_gets (ci := 4) (C := RX4) (T := TX4) (N := 34) hx hb hts (tw_cs in_X4) hown hK hT (rs_k0 hS) (by decide) rfl 15 (by decide) (hts _ (tw_c tw_327)) rfl (x := (ra 15)) (rs_p15 hS) dX4_of_113 ?_
                  refine lv_iload_n hx hb dX4_of_116 rfl (lv_at hl 1 rfl) ?_
                  refine hv_iald hx hb hK hT (rs_k15 hS) (cs_in8 (rf_lt8 hI0 hi)) dX4_of_117 ?_
                  refine lv_topi (fun g4 eg4 => ?_)
                  refine lv_goto (tgt := 122) hx hb dX4_of_118 (by decide) ?_
                  exact hret _ g4 (hv_si v 400 (ra 0) 0) _ _ _ _ _ dX4_of_122 rfl hT ⟨_, _, _, _, _, _, hI⟩ (by decide) (by decide)
              · skip
                refine lv_aload_n hx hb dX4_of_97 rfl (lv_at hl 0 rfl) ?_
                refine hv_gets (ci := 4) (C := RX4) (T := TX4) (N := 34) hx hb hts (tw_cs in_X4) hown hK hT (rs_k0 hS) (by decide) rfl 21 (by decide) (hts _ (tw_c tw_333)) rfl (x := (ra 21)) (rs_p21 hS) dX4_of_98 ?_
                refine lv_iload_n hx hb dX4_of_101 rfl (lv_at hl 1 rfl) ?_
                refine hv_iald hx hb hK hT (rs_k21 hS) (cs_in8 (rf_lt8 hI0 hi)) dX4_of_102 ?_
                refine lv_topi (fun g5 eg5 => ?_)
                refine lv_goto (tgt := 122) hx hb dX4_of_103 (by decide) ?_
                exact hret _ g5 (hv_si v 400 (ra 0) 0) _ _ _ _ _ dX4_of_122 rfl hT ⟨_, _, _, _, _, _, hI⟩ (by decide) (by decide)
            · skip
              refine lv_aload_n hx hb dX4_of_83 rfl (lv_at hl 0 rfl) ?_
              refine hv_gets (ci := 4) (C := RX4) (T := TX4) (N := 34) hx hb hts (tw_cs in_X4) hown hK hT (rs_k0 hS) (by decide) rfl 2 (by decide) (hts _ (tw_c tw_314)) rfl (x := (ra 2)) (rs_p2 hS) dX4_of_84 ?_
              refine lv_iload_n hx hb dX4_of_87 rfl (lv_at hl 1 rfl) ?_
              refine hv_iald hx hb hK hT (rs_k2 hS) (cs_in8 (rf_lt8 hI0 hi)) dX4_of_88 ?_
              refine lv_topi (fun g6 eg6 => ?_)
              refine lv_goto (tgt := 122) hx hb dX4_of_89 (by decide) ?_
              exact hret _ g6 (hv_si v 400 (ra 0) 0) _ _ _ _ _ dX4_of_122 rfl hT ⟨_, _, _, _, _, _, hI⟩ (by decide) (by decide)
          · skip
            refine lv_aload_n hx hb dX4_of_69 rfl (lv_at hl 0 rfl) ?_
            refine hv_gets (ci := 4) (C := RX4) (T := TX4) (N := 34) hx hb hts (tw_cs in_X4) hown hK hT (rs_k0 hS) (by decide) rfl 19 (by decide) (hts _ (tw_c tw_331)) rfl (x := (ra 19)) (rs_p19 hS) dX4_of_70 ?_
            refine lv_iload_n hx hb dX4_of_73 rfl (lv_at hl 1 rfl) ?_
            refine hv_iald hx hb hK hT (rs_k19 hS) (cs_in8 (rf_lt8 hI0 hi)) dX4_of_74 ?_
            refine lv_topi (fun g7 eg7 => ?_)
            refine lv_goto (tgt := 122) hx hb dX4_of_75 (by decide) ?_
            exact hret _ g7 (hv_si v 400 (ra 0) 0) _ _ _ _ _ dX4_of_122 rfl hT ⟨_, _, _, _, _, _, hI⟩ (by decide) (by decide)
        · skip
          refine lv_aload_n hx hb dX4_of_55 rfl (lv_at hl 0 rfl) ?_
          refine hv_gets (ci := 4) (C := RX4) (T := TX4) (N := 34) hx hb hts (tw_cs in_X4) hown hK hT (rs_k0 hS) (by decide) rfl 18 (by decide) (hts _ (tw_c tw_330)) rfl (x := (ra 18)) (rs_p18 hS) dX4_of_56 ?_
          refine lv_iload_n hx hb dX4_of_59 rfl (lv_at hl 1 rfl) ?_
          refine hv_iald hx hb hK hT (rs_k18 hS) (cs_in8 (rf_lt8 hI0 hi)) dX4_of_60 ?_
          refine lv_topi (fun g8 eg8 => ?_)
          have eg8 : g8 = nI (dg i) := by rw [eg8]; exact rf_gdg hI (rf_lt8 hI0 hi)
          subst eg8
          refine lv_goto (tgt := 122) hx hb dX4_of_61 (by decide) ?_
          exact hret _ (nI (dg i)) (hv_si v 400 (ra 0) 0) _ _ _ _ _ dX4_of_122 rfl hT ⟨_, _, _, _, _, _, hI⟩ (by decide) (by decide)
      · skip
        refine lv_aload_n hx hb dX4_of_33 rfl (lv_at hl 0 rfl) ?_
        refine hv_gets (ci := 4) (C := RX4) (T := TX4) (N := 34) hx hb hts (tw_cs in_X4) hown hK hT (rs_k0 hS) (by decide) rfl 16 (by decide) (hts _ (tw_c tw_328)) rfl (x := (ra 16)) (rs_p16 hS) dX4_of_34 ?_
        refine lv_iload_n hx hb dX4_of_37 rfl (lv_at hl 1 rfl) ?_
        refine hv_zald hx hb hK hT (rs_k16 hS) (cs_in8 (rf_lt8 hI0 hi)) dX4_of_38 ?_
        refine lv_topi (fun g9 eg9 => ?_)
        refine lv_if_eq (tgt := 46) hx hb dX4_of_39 (by decide) (fun c39 => ?_) (fun c39 => ?_)
        · skip
          refine lv_iconst (v := 1) hx hb dX4_of_46 (by decide) ?_
          refine lv_goto (tgt := 122) hx hb dX4_of_47 (by decide) ?_
          exact hret _ 1 (hv_si v 400 (ra 0) 0) _ _ _ _ _ dX4_of_122 rfl hT ⟨_, _, _, _, _, _, hI⟩ (by decide) (by decide)
        · skip
          refine lv_iconst (v := 0) hx hb dX4_of_42 (by decide) ?_
          refine lv_goto (tgt := 122) hx hb dX4_of_43 (by decide) ?_
          exact hret _ 0 (hv_si v 400 (ra 0) 0) _ _ _ _ _ dX4_of_122 rfl hT ⟨_, _, _, _, _, _, hI⟩ (by decide) (by decide)
    · skip
      refine lv_aload_n hx hb dX4_of_19 rfl (lv_at hl 0 rfl) ?_
      refine hv_gets (ci := 4) (C := RX4) (T := TX4) (N := 34) hx hb hts (tw_cs in_X4) hown hK hT (rs_k0 hS) (by decide) rfl 14 (by decide) (hts _ (tw_c tw_326)) rfl (x := (ra 14)) (rs_p14 hS) dX4_of_20 ?_
      refine lv_iload_n hx hb dX4_of_23 rfl (lv_at hl 1 rfl) ?_
      refine hv_iald hx hb hK hT (rs_k14 hS) (cs_in8 (rf_lt8 hI0 hi)) dX4_of_24 ?_
      refine lv_topi (fun g10 eg10 => ?_)
      have eg10 : g10 = nI (st i) := by rw [eg10]; exact rf_gst hI (rf_lt8 hI0 hi)
      subst eg10
      refine lv_goto (tgt := 122) hx hb dX4_of_25 (by decide) ?_
      exact hret _ (nI (st i)) (hv_si v 400 (ra 0) 0) _ _ _ _ _ dX4_of_122 rfl hT ⟨_, _, _, _, _, _, hI⟩ (by decide) (by decide)
  · skip
    refine lv_iconst (v := (-1)) hx hb dX4_of_13 (by decide) ?_
    exact hret _ (-1) (hv_si v 400 (ra 0) 0) _ _ _ _ _ dX4_of_14 rfl hT ⟨_, _, _, _, _, _, hI⟩ (by decide) (by decide)

set_option maxHeartbeats 4000000 in
set_option maxRecDepth 100000 in
theorem m_weight (l : Launch) (D : va_G) (tc : Nat → ClassId) {ra gh : Nat → Nat} {n b B t nm : Nat} {st dg F kd : Nat → Nat} {v : hv_V} (hI : rf_J ra gh n b B t nm st dg F kd v) (x : Int32) : Met l yX4_weight (Cond.code yX4_weight cX4_weight 4 (some .int) :: lw_B) ({ frames := 0, cells := 0, slots := 0, locals := 0 }) (va_Pc [.ref (ra 0), .int x] (hv_Pre D tc v)) (va_Qi (fun (r : Int32) (v1 : hv_V) => ∃ t1 nm1 st1 dg1 F1 kd1, rf_J ra gh n b B t1 nm1 st1 dg1 F1 kd1 v1) (hv_Post D tc (hv_A v)) (hv_A v)) (0) (0) (hv_A v) := by
  refine hv_meti l (by decide) (Nat.le_of_ble_eq_true rfl) ?_
  intro p e s m args below meth c Q X hret hK hz H locs ls hT hl
  obtain ⟨hx, hb, hml, hts, hown, hin0⟩ := X
  have hown : s.vm.findClass "CommitSitesModel" = some m.cls := hown
  have hl : lv_has ls 4 [(0, .ref (ra 0)), (1, .int x)] := hl
  have hS := hI.1
  have hI0 := hI
  refine lv_aload_n hx hb dX4_weight_0 rfl (lv_at hl 0 rfl) ?_
  refine lv_iconst (v := 0) hx hb dX4_weight_1 (by decide) ?_
  refine hv_puti (ci := 4) (C := RX4) (T := TX4) (N := 34) hx hb hts (tw_cs in_X4) tyX4 tyX4_ok nmX4 hown hK hT (rs_k0 hS) (by decide) rfl 0 (by decide) (hts _ (tw_c tw_312)) rfl rfl (x := 0) rfl rfl dX4_weight_2 (fun H locs hT => ?_)
  have hI := rf_puti (f := 400) (x := 0) rfl hI
  have hS := hI.1
  refine lv_iconst (v := 0) hx hb dX4_weight_5 (by decide) ?_
  refine lv_istore_n (lv' := [(2, _), (0, _), (1, _)]) hx hb dX4_weight_6 rfl hl (by decide) rfl (fun ls hl => ?_)
  refine lv_iconst (v := 0) hx hb dX4_weight_7 (by decide) ?_
  refine hv_as (x := 0) (y := (nI 0)) nI_0.symm ?_
  refine lv_istore_n (lv' := [(3, _), (2, _), (0, _), (1, _)]) hx hb dX4_weight_8 rfl hl (by decide) rfl (fun ls hl => ?_)
  have hL9 : ∀ (N9 : Nat) (i : Nat) (x1 : Int32) (H : Heap) (locs : List Loc) (ls : Array Slot), i ≤ n → n < i + N9 → hv_St (hv_A v) s D tc (hv_si v 400 (ra 0) 0) H locs → lv_has ls 4 [(0, .ref (ra 0)), (1, .int x), (2, .int x1), (3, .int (nI i))] → W p l e ({ frames := 0, cells := 0, slots := 0, locals := 0 } : Room) s m args below meth c H locs (0) (0) Q (F0 m 9 ls []) := by
    intro N9
    induction N9 with
    | zero =>
      intro i x1 H locs ls hlei hNi hT hl
      exfalso
      omega
    | succ N9 ih9 =>
      intro i x1 H locs ls hlei hNi hT hl
      refine lv_iload_n hx hb dX4_weight_9 rfl (lv_at hl 3 rfl) ?_
      refine lv_aload_n hx hb dX4_weight_10 rfl (lv_at hl 0 rfl) ?_
      refine hv_geti (ci := 4) (C := RX4) (T := TX4) (N := 34) hx hb hts (tw_cs in_X4) hown hK hT (rs_k0 hS) (by decide) rfl 1 (by decide) (hts _ (tw_c tw_313)) rfl dX4_weight_11 ?_
      refine lv_topi (fun g1 eg1 => ?_)
      have eg1 : g1 = (nI n) := by rw [eg1]; exact rf_hn hI
      subst eg1
      refine lv_icmp_ge (tgt := 46) hx hb dX4_weight_14 (by decide) (fun c14 => ?_) (fun c14 => ?_)
      · skip
        refine lv_iload_n hx hb dX4_weight_46 rfl (lv_at hl 2 rfl) ?_
        exact hret _ x1 (hv_si v 400 (ra 0) 0) _ _ _ _ _ dX4_weight_47 rfl hT ⟨_, _, _, _, _, _, hI⟩ (by decide) (by decide)
      · skip
        have hlti : i < n := cs_lp hlei (rf_n8 hI0) c14
        refine lv_aload_n hx hb dX4_weight_17 rfl (lv_at hl 0 rfl) ?_
        refine hv_gets (ci := 4) (C := RX4) (T := TX4) (N := 34) hx hb hts (tw_cs in_X4) hown hK hT (rs_k0 hS) (by decide) rfl 14 (by decide) (hts _ (tw_c tw_326)) rfl (x := (ra 14)) (rs_p14 hS) dX4_weight_18 ?_
        refine lv_iload_n hx hb dX4_weight_21 rfl (lv_at hl 3 rfl) ?_
        refine hv_iald hx hb hK hT (rs_k14 hS) (cs_in8 (rf_lt8 hI0 hlti)) dX4_weight_22 ?_
        refine lv_topi (fun g2 eg2 => ?_)
        have eg2 : g2 = nI (st i) := by rw [eg2]; exact rf_gst hI (rf_lt8 hI0 hlti)
        subst eg2
        refine lv_iload_n hx hb dX4_weight_23 rfl (lv_at hl 1 rfl) ?_
        refine lv_icmp_ne (tgt := 38) hx hb dX4_weight_24 (by decide) (fun c24 => ?_) (fun c24 => ?_)
        · skip
          refine lv_iload_n hx hb dX4_weight_38 rfl (lv_at hl 2 rfl) ?_
          refine lv_istore_n (lv' := [(2, _), (0, _), (1, _), (3, _)]) hx hb dX4_weight_39 rfl hl (by decide) rfl (fun ls hl => ?_)
          refine lv_iinc (v := (nI (i + 1))) (lv' := [(3, _), (2, _), (0, _), (1, _)]) hx hb dX4_weight_40 hl (k := 3) rfl (nI_1 _) (by decide) rfl (fun ls hl => ?_)
          refine lv_goto (tgt := 9) hx hb dX4_weight_43 (by decide) ?_
          exact ih9 (i + 1) x1 H locs ls (by omega) (by omega) hT (lv_sub hl [2, 3, 1, 0] rfl)
        · skip
          refine lv_iload_n hx hb dX4_weight_27 rfl (lv_at hl 2 rfl) ?_
          refine lv_aload_n hx hb dX4_weight_28 rfl (lv_at hl 0 rfl) ?_
          refine hv_gets (ci := 4) (C := RX4) (T := TX4) (N := 34) hx hb hts (tw_cs in_X4) hown hK hT (rs_k0 hS) (by decide) rfl 2 (by decide) (hts _ (tw_c tw_314)) rfl (x := (ra 2)) (rs_p2 hS) dX4_weight_29 ?_
          refine lv_iload_n hx hb dX4_weight_32 rfl (lv_at hl 3 rfl) ?_
          refine hv_iald hx hb hK hT (rs_k2 hS) (cs_in8 (rf_lt8 hI0 hlti)) dX4_weight_33 ?_
          refine lv_topi (fun g3 eg3 => ?_)
          refine lv_iadd hx hb dX4_weight_34 ?_
          refine lv_goto (tgt := 39) hx hb dX4_weight_35 (by decide) ?_
          refine lv_istore_n (lv' := [(2, _), (0, _), (1, _), (3, _)]) hx hb dX4_weight_39 rfl hl (by decide) rfl (fun ls hl => ?_)
          refine lv_iinc (v := (nI (i + 1))) (lv' := [(3, _), (2, _), (0, _), (1, _)]) hx hb dX4_weight_40 hl (k := 3) rfl (nI_1 _) (by decide) rfl (fun ls hl => ?_)
          refine lv_goto (tgt := 9) hx hb dX4_weight_43 (by decide) ?_
          exact ih9 (i + 1) (x1 + g3) H locs ls (by omega) (by omega) hT (lv_sub hl [2, 3, 1, 0] rfl)
  exact hL9 (n + 1) 0 0 H locs ls (Nat.zero_le _) (by omega) hT (lv_sub hl [2, 3, 1, 0] rfl)

set_option maxHeartbeats 4000000 in
set_option maxRecDepth 100000 in
theorem m_quorums (l : Launch) (D : va_G) (tc : Nat → ClassId) {ra gh : Nat → Nat} {n b B t nm : Nat} {st dg F kd : Nat → Nat} {v : hv_V} (hI : rf_J ra gh n b B t nm st dg F kd v) (x y : Int32) : Met l yX4_quorums (Cond.code yX4_quorums cX4_quorums 4 (some .int) :: lw_B) ({ frames := 1, cells := 0, slots := 0, locals := 22 }) (va_Pc [.ref (ra 0), .int x, .int y] (hv_Pre D tc v)) (va_Qi (fun (r : Int32) (v1 : hv_V) => (ok_Q b (gh_V gh n) x y ∧ r = 1 ∨ ¬ ok_Q b (gh_V gh n) x y ∧ r = 0) ∧ ∃ t1 nm1 st1 dg1 F1 kd1, rf_J ra gh n b B t1 nm1 st1 dg1 F1 kd1 v1) (hv_Post D tc (hv_A v)) (hv_A v)) (0) (0) (hv_A v) := by
  refine hv_meti l (by decide) (Nat.le_of_ble_eq_true rfl) ?_
  intro p e s m args below meth c Q X hret hK hz H locs ls hT hl
  obtain ⟨hx, hb, hml, hts, hown, hin0⟩ := X
  have hown : s.vm.findClass "CommitSitesModel" = some m.cls := hown
  have hl : lv_has ls 4 [(0, .ref (ra 0)), (1, .int x), (2, .int y)] := hl
  have hS := hI.1
  have hI0 := hI
  refine lv_aload_n hx hb dX4_quorums_0 rfl (lv_at hl 0 rfl) ?_
  refine lv_iconst (v := 0) hx hb dX4_quorums_1 (by decide) ?_
  refine hv_puti (ci := 4) (C := RX4) (T := TX4) (N := 34) hx hb hts (tw_cs in_X4) tyX4 tyX4_ok nmX4 hown hK hT (rs_k0 hS) (by decide) rfl 0 (by decide) (hts _ (tw_c tw_312)) rfl rfl (x := 0) rfl rfl dX4_quorums_2 (fun H locs hT => ?_)
  have hI := rf_puti (f := 400) (x := 0) rfl hI
  have hS := hI.1
  refine lv_aload_n hx hb dX4_quorums_5 rfl (lv_at hl 0 rfl) ?_
  refine hv_calli (va_runV (As := []) (rest := []) ⟨hx, hb, hml, hown, hts⟩ (m_all l D tc hI) (cwV 0 hts (tw_V tw_351 tw_352 tw_508 tw_3 tw_353) rfl rfl rfl (by decide +kernel) ⟨Nat.le_of_ble_eq_true rfl, Nat.le_of_ble_eq_true rfl⟩) (hv_preV (ci := 4) hK hT.1 (rs_k0 hS) (by decide) rfl rfl) rfl rfl hl.1 rfl (lv_room (Nat.le_of_ble_eq_true rfl)) dX4_quorums_6 ⟨Nat.le_of_ble_eq_true rfl, Nat.le_of_ble_eq_true rfl⟩) hT (fun r3 v1 H locs hp2 hT => ?_)
  obtain ⟨evhp2, qhp2⟩ := hp2
  rw [evhp2] at hT
  subst qhp2
  refine lv_istore_n (lv' := [(3, _), (0, _), (1, _), (2, _)]) hx hb dX4_quorums_9 rfl hl (by decide) rfl (fun ls hl => ?_)
  refine lv_aload_n hx hb dX4_quorums_10 rfl (lv_at hl 1 rfl) ?_
  refine hv_geti (ci := 4) (C := RX4) (T := TX4) (N := 34) hx hb hts (tw_cs in_X4) hown hK hT (rs_k0 hS) (by decide) rfl 7 (by decide) (hts _ (tw_c tw_319)) rfl dX4_quorums_11 ?_
  refine lv_topi (fun g4 eg4 => ?_)
  have eg4 : g4 = (nI b) := eg4.trans (rf_hb hI)
  subst eg4
  refine lv_if_ne (tgt := 44) hx hb dX4_quorums_14 (by decide) (fun c14 => ?_) (fun c14 => ?_)
  · skip
    refine lv_iconst (v := 0) hx hb dX4_quorums_44 (by decide) ?_
    exact hret _ 0 (hv_si v 400 (ra 0) 0) _ _ _ _ _ dX4_quorums_45 rfl hT ⟨Or.inr ⟨fun h => c14 (by rw [h.1]; exact nI_0), rfl⟩, _, _, _, _, _, _, hI⟩ (by decide) (by decide)
  · skip
    refine lv_iload_n hx hb dX4_quorums_17 rfl (lv_at hl 2 rfl) ?_
    refine lv_iconst (v := 1) hx hb dX4_quorums_18 (by decide) ?_
    refine lv_icmp_lt (tgt := 44) hx hb dX4_quorums_19 (by decide) (fun c19 => ?_) (fun c19 => ?_)
    · skip
      refine lv_iconst (v := 0) hx hb dX4_quorums_44 (by decide) ?_
      exact hret _ 0 (hv_si v 400 (ra 0) 0) _ _ _ _ _ dX4_quorums_45 rfl hT ⟨Or.inr ⟨fun h => h.2.1 c19, rfl⟩, _, _, _, _, _, _, hI⟩ (by decide) (by decide)
    · skip
      refine lv_iload_n hx hb dX4_quorums_22 rfl (lv_at hl 2 rfl) ?_
      refine lv_iload_n hx hb dX4_quorums_23 rfl (lv_at hl 0 rfl) ?_
      refine lv_icmp_gt (tgt := 44) hx hb dX4_quorums_24 (by decide) (fun c24 => ?_) (fun c24 => ?_)
      · skip
        refine lv_iconst (v := 0) hx hb dX4_quorums_44 (by decide) ?_
        exact hret _ 0 (hv_si v 400 (ra 0) 0) _ _ _ _ _ dX4_quorums_45 rfl hT ⟨Or.inr ⟨fun h => h.2.2.1 c24, rfl⟩, _, _, _, _, _, _, hI⟩ (by decide) (by decide)
      · skip
        refine lv_iload_n hx hb dX4_quorums_27 rfl (lv_at hl 3 rfl) ?_
        refine lv_iconst (v := 1) hx hb dX4_quorums_28 (by decide) ?_
        refine lv_icmp_lt (tgt := 44) hx hb dX4_quorums_29 (by decide) (fun c29 => ?_) (fun c29 => ?_)
        · skip
          refine lv_iconst (v := 0) hx hb dX4_quorums_44 (by decide) ?_
          exact hret _ 0 (hv_si v 400 (ra 0) 0) _ _ _ _ _ dX4_quorums_45 rfl hT ⟨Or.inr ⟨fun h => h.2.2.2.1 c29, rfl⟩, _, _, _, _, _, _, hI⟩ (by decide) (by decide)
        · skip
          refine lv_iload_n hx hb dX4_quorums_32 rfl (lv_at hl 3 rfl) ?_
          refine lv_iload_n hx hb dX4_quorums_33 rfl (lv_at hl 0 rfl) ?_
          refine lv_icmp_gt (tgt := 44) hx hb dX4_quorums_34 (by decide) (fun c34 => ?_) (fun c34 => ?_)
          · skip
            refine lv_iconst (v := 0) hx hb dX4_quorums_44 (by decide) ?_
            exact hret _ 0 (hv_si v 400 (ra 0) 0) _ _ _ _ _ dX4_quorums_45 rfl hT ⟨Or.inr ⟨fun h => h.2.2.2.2.1 c34, rfl⟩, _, _, _, _, _, _, hI⟩ (by decide) (by decide)
          · skip
            refine lv_iload_n hx hb dX4_quorums_37 rfl (lv_at hl 2 rfl) ?_
            refine lv_iload_n hx hb dX4_quorums_38 rfl (lv_at hl 3 rfl) ?_
            refine lv_iadd hx hb dX4_quorums_39 ?_
            refine lv_iload_n hx hb dX4_quorums_40 rfl (lv_at hl 0 rfl) ?_
            refine lv_icmp_gt (tgt := 46) hx hb dX4_quorums_41 (by decide) (fun c41 => ?_) (fun c41 => ?_)
            · skip
              refine lv_aload_n hx hb dX4_quorums_46 rfl (lv_at hl 1 rfl) ?_
              refine lv_iload_n hx hb dX4_quorums_47 rfl (lv_at hl 2 rfl) ?_
              refine hv_puti (ci := 4) (C := RX4) (T := TX4) (N := 34) hx hb hts (tw_cs in_X4) tyX4 tyX4_ok nmX4 hown hK hT (rs_k0 hS) (by decide) rfl 3 (by decide) (hts _ (tw_c tw_315)) rfl rfl (x := x) rfl rfl dX4_quorums_48 (fun H locs hT => ?_)
              have hI := rf_puti (f := 403) (x := x) rfl hI
              have hS := hI.1
              refine lv_aload_n hx hb dX4_quorums_51 rfl (lv_at hl 1 rfl) ?_
              refine lv_iload_n hx hb dX4_quorums_52 rfl (lv_at hl 3 rfl) ?_
              refine hv_puti (ci := 4) (C := RX4) (T := TX4) (N := 34) hx hb hts (tw_cs in_X4) tyX4 tyX4_ok nmX4 hown hK hT (rs_k0 hS) (by decide) rfl 4 (by decide) (hts _ (tw_c tw_316)) rfl rfl (x := y) rfl rfl dX4_quorums_53 (fun H locs hT => ?_)
              have hI := rf_puti (f := 404) (x := y) rfl hI
              have hS := hI.1
              refine lv_iconst (v := 1) hx hb dX4_quorums_56 (by decide) ?_
              exact hret _ 1 (hv_si (hv_si (hv_si v 400 (ra 0) 0) 403 (ra 0) x) 404 (ra 0) y) _ _ _ _ _ dX4_quorums_57 rfl hT ⟨Or.inl ⟨⟨(by have := rf_b1 hI0; exact nI_lit (k := 0) c14), c19, c24, c29, c34, c41⟩, rfl⟩, _, _, _, _, _, _, hI⟩ (by decide) (by decide)
            · skip
              refine lv_iconst (v := 0) hx hb dX4_quorums_44 (by decide) ?_
              exact hret _ 0 (hv_si v 400 (ra 0) 0) _ _ _ _ _ dX4_quorums_45 rfl hT ⟨Or.inr ⟨fun h => c41 h.2.2.2.2.2, rfl⟩, _, _, _, _, _, _, hI⟩ (by decide) (by decide)

set_option maxHeartbeats 4000000 in
set_option maxRecDepth 100000 in
theorem m_patience (l : Launch) (D : va_G) (tc : Nat → ClassId) {ra gh : Nat → Nat} {n b B t nm : Nat} {st dg F kd : Nat → Nat} {v : hv_V} (hI : rf_J ra gh n b B t nm st dg F kd v) (x : Int32) : Met l yX4_patience (Cond.code yX4_patience cX4_patience 2 (some .int) :: lw_B) ({ frames := 0, cells := 0, slots := 0, locals := 0 }) (va_Pc [.ref (ra 0), .int x] (hv_Pre D tc v)) (va_Qi (fun (r : Int32) (v1 : hv_V) => (ok_T b x ∧ r = 1 ∨ ¬ ok_T b x ∧ r = 0) ∧ ∃ t1 nm1 st1 dg1 F1 kd1, rf_J ra gh n b B t1 nm1 st1 dg1 F1 kd1 v1) (hv_Post D tc (hv_A v)) (hv_A v)) (0) (0) (hv_A v) := by
  refine hv_meti l (by decide) (Nat.le_of_ble_eq_true rfl) ?_
  intro p e s m args below meth c Q X hret hK hz H locs ls hT hl
  obtain ⟨hx, hb, hml, hts, hown, hin0⟩ := X
  have hown : s.vm.findClass "CommitSitesModel" = some m.cls := hown
  have hl : lv_has ls 2 [(0, .ref (ra 0)), (1, .int x)] := hl
  have hS := hI.1
  have hI0 := hI
  refine lv_aload_n hx hb dX4_patience_0 rfl (lv_at hl 0 rfl) ?_
  refine lv_iconst (v := 0) hx hb dX4_patience_1 (by decide) ?_
  refine hv_puti (ci := 4) (C := RX4) (T := TX4) (N := 34) hx hb hts (tw_cs in_X4) tyX4 tyX4_ok nmX4 hown hK hT (rs_k0 hS) (by decide) rfl 0 (by decide) (hts _ (tw_c tw_312)) rfl rfl (x := 0) rfl rfl dX4_patience_2 (fun H locs hT => ?_)
  have hI := rf_puti (f := 400) (x := 0) rfl hI
  have hS := hI.1
  refine lv_iload_n hx hb dX4_patience_5 rfl (lv_at hl 1 rfl) ?_
  refine lv_iconst (v := 5) hx hb dX4_patience_6 (by decide) ?_
  refine lv_icmp_lt (tgt := 23) hx hb dX4_patience_7 (by decide) (fun c7 => ?_) (fun c7 => ?_)
  · skip
    refine lv_iconst (v := 0) hx hb dX4_patience_23 (by decide) ?_
    exact hret _ 0 (hv_si v 400 (ra 0) 0) _ _ _ _ _ dX4_patience_24 rfl hT ⟨Or.inr ⟨fun h => h.1 c7, rfl⟩, _, _, _, _, _, _, hI⟩ (by decide) (by decide)
  · skip
    have hx0 : ¬ x < 0 := fun z => c7 (Int32.lt_trans z (by decide))
    refine lv_iload_n hx hb dX4_patience_10 rfl (lv_at hl 1 rfl) ?_
    refine lv_bipush (v := 100) hx hb dX4_patience_11 (by decide) ?_
    refine lv_icmp_gt (tgt := 23) hx hb dX4_patience_13 (by decide) (fun c13 => ?_) (fun c13 => ?_)
    · skip
      refine lv_iconst (v := 0) hx hb dX4_patience_23 (by decide) ?_
      exact hret _ 0 (hv_si v 400 (ra 0) 0) _ _ _ _ _ dX4_patience_24 rfl hT ⟨Or.inr ⟨fun h => h.2.1 c13, rfl⟩, _, _, _, _, _, _, hI⟩ (by decide) (by decide)
    · skip
      obtain ⟨q, hq5, hxq⟩ := nI_of2 (M := 100) (n := 100) rfl hx0 (Int32.not_lt.mp c13)
      have c13 := c13
      refine lv_aload_n hx hb dX4_patience_16 rfl (lv_at hl 0 rfl) ?_
      refine hv_geti (ci := 4) (C := RX4) (T := TX4) (N := 34) hx hb hts (tw_cs in_X4) hown hK hT (rs_k0 hS) (by decide) rfl 7 (by decide) (hts _ (tw_c tw_319)) rfl dX4_patience_17 ?_
      refine lv_topi (fun g1 eg1 => ?_)
      have eg1 : g1 = (nI b) := eg1.trans (rf_hb hI)
      subst eg1
      refine lv_if_eq (tgt := 25) hx hb dX4_patience_20 (by decide) (fun c20 => ?_) (fun c20 => ?_)
      · skip
        refine lv_aload_n hx hb dX4_patience_25 rfl (lv_at hl 0 rfl) ?_
        refine lv_iload_n hx hb dX4_patience_26 rfl (lv_at hl 1 rfl) ?_
        refine hv_puti (ci := 4) (C := RX4) (T := TX4) (N := 34) hx hb hts (tw_cs in_X4) tyX4 tyX4_ok nmX4 hown hK hT (rs_k0 hS) (by decide) rfl 5 (by decide) (hts _ (tw_c tw_317)) rfl rfl (x := x) rfl rfl dX4_patience_27 (fun H locs hT => ?_)
        have hI := rf_pat (q := q) (Nat.le_of_not_lt (fun z => c7 (by rw [hxq]; exact (nI_ltI (b := 5) (by omega) (by omega)).mpr z))) hq5 hI
        rw [← hxq] at hI
        have hS := hI.1
        refine lv_iconst (v := 1) hx hb dX4_patience_30 (by decide) ?_
        exact hret _ 1 (hv_si (hv_si v 400 (ra 0) 0) 405 (ra 0) x) _ _ _ _ _ dX4_patience_31 rfl hT ⟨Or.inl ⟨⟨c7, c13, (by have := rf_b1 hI0; exact nI_lit (k := 0) c20)⟩, rfl⟩, _, _, _, _, _, _, hI⟩ (by decide) (by decide)
      · skip
        refine lv_iconst (v := 0) hx hb dX4_patience_23 (by decide) ?_
        exact hret _ 0 (hv_si v 400 (ra 0) 0) _ _ _ _ _ dX4_patience_24 rfl hT ⟨Or.inr ⟨fun h => c20 (by rw [h.2.2]; exact nI_0), rfl⟩, _, _, _, _, _, _, hI⟩ (by decide) (by decide)

set_option maxHeartbeats 4000000 in
set_option maxRecDepth 100000 in
theorem m_delay (l : Launch) (D : va_G) (tc : Nat → ClassId) {ra gh : Nat → Nat} {n b B t nm : Nat} {st dg F kd : Nat → Nat} {v : hv_V} (hI : rf_J ra gh n b B t nm st dg F kd v) (x y : Int32) : Met l yX4_delay (Cond.code yX4_delay cX4_delay 3 (some .int) :: lw_B) ({ frames := 1, cells := 0, slots := 0, locals := 21 }) (va_Pc [.ref (ra 0), .int x, .int y] (hv_Pre D tc v)) (va_Qi (fun (r : Int32) (v1 : hv_V) => ((∃ i j, ok_D n x y i j ∧ r = nI (gh (3000 + (8 * i + j)))) ∨ (¬ ∃ i j, ok_D n x y i j) ∧ r = -1) ∧ ∃ t1 nm1 st1 dg1 F1 kd1, rf_J ra gh n b B t1 nm1 st1 dg1 F1 kd1 v1) (hv_Post D tc (hv_A v)) (hv_A v)) (0) (0) (hv_A v) := by
  refine hv_meti l (by decide) (Nat.le_of_ble_eq_true rfl) ?_
  intro p e s m args below meth c Q X hret hK hz H locs ls hT hl
  obtain ⟨hx, hb, hml, hts, hown, hin0⟩ := X
  have hown : s.vm.findClass "CommitSitesModel" = some m.cls := hown
  have hl : lv_has ls 3 [(0, .ref (ra 0)), (1, .int x), (2, .int y)] := hl
  have hS := hI.1
  have hI0 := hI
  refine lv_aload_n hx hb dX4_delay_0 rfl (lv_at hl 0 rfl) ?_
  refine lv_iconst (v := 0) hx hb dX4_delay_1 (by decide) ?_
  refine hv_puti (ci := 4) (C := RX4) (T := TX4) (N := 34) hx hb hts (tw_cs in_X4) tyX4 tyX4_ok nmX4 hown hK hT (rs_k0 hS) (by decide) rfl 0 (by decide) (hts _ (tw_c tw_312)) rfl rfl (x := 0) rfl rfl dX4_delay_2 (fun H locs hT => ?_)
  have hI := rf_puti (f := 400) (x := 0) rfl hI
  have hS := hI.1
  refine lv_aload_n hx hb dX4_delay_5 rfl (lv_at hl 0 rfl) ?_
  refine lv_iload_n hx hb dX4_delay_6 rfl (lv_at hl 1 rfl) ?_
  refine hv_calli (va_runV (As := [.int x]) (rest := []) ⟨hx, hb, hml, hown, hts⟩ (m_isSite l D tc hI x) (cwV 1 hts (tw_V tw_362 tw_363 tw_509 tw_3 tw_364) rfl rfl rfl (by decide +kernel) ⟨Nat.le_of_ble_eq_true rfl, Nat.le_of_ble_eq_true rfl⟩) (hv_preV (ci := 4) hK hT.1 (rs_k0 hS) (by decide) rfl rfl) rfl rfl hl.1 rfl (lv_room (Nat.le_of_ble_eq_true rfl)) dX4_delay_7 ⟨Nat.le_of_ble_eq_true rfl, Nat.le_of_ble_eq_true rfl⟩) hT (fun r3 v1 H locs hp2 hT => ?_)
  obtain ⟨evhp2, qhp2⟩ := hp2
  rw [evhp2] at hT
  refine lv_if_eq (tgt := 40) hx hb dX4_delay_10 (by decide) (fun c10 => ?_) (fun c10 => ?_)
  · skip
    refine lv_iconst (v := (-1)) hx hb dX4_delay_40 (by decide) ?_
    exact hret _ (-1) (hv_si v 400 (ra 0) 0) _ _ _ _ _ dX4_delay_41 rfl hT ⟨Or.inr ⟨fun ⟨i, j, h⟩ => (qhp2.resolve_left (fun z => absurd (z.1.symm.trans c10) (by decide))).2 ⟨i, h.1, h.2.2.2.1⟩, rfl⟩, _, _, _, _, _, _, hI⟩ (by decide) (by decide)
  · skip
    obtain ⟨i, hi, ei9⟩ := (qhp2.resolve_right (fun z => c10 z.1)).2
    subst ei9
    refine lv_aload_n hx hb dX4_delay_13 rfl (lv_at hl 0 rfl) ?_
    refine lv_iload_n hx hb dX4_delay_14 rfl (lv_at hl 2 rfl) ?_
    refine hv_calli (va_runV (As := [.int y]) (rest := []) ⟨hx, hb, hml, hown, hts⟩ (m_isSite l D tc hI y) (cwV 1 hts (tw_V tw_362 tw_363 tw_509 tw_3 tw_364) rfl rfl rfl (by decide +kernel) ⟨Nat.le_of_ble_eq_true rfl, Nat.le_of_ble_eq_true rfl⟩) (hv_preV (ci := 4) hK hT.1 (rs_k0 hS) (by decide) rfl rfl) rfl rfl hl.1 rfl (lv_room (Nat.le_of_ble_eq_true rfl)) dX4_delay_15 ⟨Nat.le_of_ble_eq_true rfl, Nat.le_of_ble_eq_true rfl⟩) hT (fun r6 v4 H locs hp5 hT => ?_)
    obtain ⟨evhp5, qhp5⟩ := hp5
    rw [evhp5] at hT
    refine lv_if_eq (tgt := 40) hx hb dX4_delay_18 (by decide) (fun c18 => ?_) (fun c18 => ?_)
    · skip
      refine lv_iconst (v := (-1)) hx hb dX4_delay_40 (by decide) ?_
      exact hret _ (-1) (hv_si v 400 (ra 0) 0) _ _ _ _ _ dX4_delay_41 rfl hT ⟨Or.inr ⟨fun ⟨i, j, h⟩ => (qhp5.resolve_left (fun z => absurd (z.1.symm.trans c18) (by decide))).2 ⟨j, h.2.1, h.2.2.2.2⟩, rfl⟩, _, _, _, _, _, _, hI⟩ (by decide) (by decide)
    · skip
      obtain ⟨j, hj, ej9⟩ := (qhp5.resolve_right (fun z => c18 z.1)).2
      subst ej9
      refine lv_iload_n hx hb dX4_delay_21 rfl (lv_at hl 1 rfl) ?_
      refine lv_iload_n hx hb dX4_delay_22 rfl (lv_at hl 2 rfl) ?_
      refine lv_icmp_eq (tgt := 40) hx hb dX4_delay_23 (by decide) (fun c23 => ?_) (fun c23 => ?_)
      · skip
        refine lv_iconst (v := (-1)) hx hb dX4_delay_40 (by decide) ?_
        exact hret _ (-1) (hv_si v 400 (ra 0) 0) _ _ _ _ _ dX4_delay_41 rfl hT ⟨Or.inr ⟨fun ⟨i1, j1, h⟩ => ok_Dne (rf_n8 hI0) h rfl rfl hi hj c23, rfl⟩, _, _, _, _, _, _, hI⟩ (by decide) (by decide)
      · skip
        refine lv_aload_n hx hb dX4_delay_26 rfl (lv_at hl 0 rfl) ?_
        refine hv_gets (ci := 4) (C := RX4) (T := TX4) (N := 34) hx hb hts (tw_cs in_X4) hown hK hT (rs_k0 hS) (by decide) rfl 6 (by decide) (hts _ (tw_c tw_318)) rfl (x := (ra 6)) (rs_p6 hS) dX4_delay_27 ?_
        refine lv_bipush (v := 8) hx hb dX4_delay_30 (by decide) ?_
        refine lv_iload_n hx hb dX4_delay_32 rfl (lv_at hl 1 rfl) ?_
        refine lv_imul hx hb dX4_delay_33 ?_
        refine hv_as (x := (8 * (nI i))) (y := (nI (8 * i))) (nI_8 _) ?_
        refine lv_iload_n hx hb dX4_delay_34 rfl (lv_at hl 2 rfl) ?_
        refine lv_iadd hx hb dX4_delay_35 ?_
        refine hv_as (x := ((nI (8 * i)) + (nI j))) (y := (nI ((8 * i) + j))) (nI_add _ _) ?_
        refine hv_iald hx hb hK hT (rs_k6 hS) (rf_in64 (rf_lt8 hI0 hi) (rf_lt8 hI0 hj)) dX4_delay_36 ?_
        refine lv_topi (fun g7 eg7 => ?_)
        have eg7 : g7 = (nI (gh (3000 + (8 * i + j)))) := eg7.trans (rf_de hI (rf_lt8 hI0 hi) (rf_lt8 hI0 hj))
        subst eg7
        refine lv_goto (tgt := 41) hx hb dX4_delay_37 (by decide) ?_
        exact hret _ (nI (gh (3000 + (8 * i + j)))) (hv_si v 400 (ra 0) 0) _ _ _ _ _ dX4_delay_41 rfl hT ⟨Or.inl ⟨i, j, ⟨hi, hj, fun e => c23 (by rw [e]), rfl, rfl⟩, rfl⟩, _, _, _, _, _, _, hI⟩ (by decide) (by decide)

set_option maxHeartbeats 4000000 in
set_option maxRecDepth 100000 in
theorem m_link (l : Launch) (D : va_G) (tc : Nat → ClassId) {ra gh : Nat → Nat} {n b B t nm : Nat} {st dg F kd : Nat → Nat} {v : hv_V} (hI : rf_J ra gh n b B t nm st dg F kd v) (x y z : Int32) : Met l yX4_link (Cond.code yX4_link cX4_link 4 (some .int) :: lw_B) ({ frames := 1, cells := 0, slots := 0, locals := 21 }) (va_Pc [.ref (ra 0), .int x, .int y, .int z] (hv_Pre D tc v)) (va_Qi (fun (r : Int32) (v1 : hv_V) => (∃ i j q, ok_L n x y z i j q ∧ r = 1 ∧ ∃ t1 nm1 st1 dg1 F1 kd1, rf_J ra (va_up gh (3000 + (8 * i + j)) q) n b B t1 nm1 st1 dg1 F1 kd1 v1) ∨ (¬ ∃ i j q, ok_L n x y z i j q) ∧ r = 0 ∧ ∃ t1 nm1 st1 dg1 F1 kd1, rf_J ra gh n b B t1 nm1 st1 dg1 F1 kd1 v1) (hv_Post D tc (hv_A v)) (hv_A v)) (0) (0) (hv_A v) := by
  refine hv_meti l (by decide) (Nat.le_of_ble_eq_true rfl) ?_
  intro p e s m args below meth c Q X hret hK hz H locs ls hT hl
  obtain ⟨hx, hb, hml, hts, hown, hin0⟩ := X
  have hown : s.vm.findClass "CommitSitesModel" = some m.cls := hown
  have hl : lv_has ls 4 [(0, .ref (ra 0)), (1, .int x), (2, .int y), (3, .int z)] := hl
  have hS := hI.1
  have hI0 := hI
  refine lv_aload_n hx hb dX4_link_0 rfl (lv_at hl 0 rfl) ?_
  refine lv_iconst (v := 0) hx hb dX4_link_1 (by decide) ?_
  refine hv_puti (ci := 4) (C := RX4) (T := TX4) (N := 34) hx hb hts (tw_cs in_X4) tyX4 tyX4_ok nmX4 hown hK hT (rs_k0 hS) (by decide) rfl 0 (by decide) (hts _ (tw_c tw_312)) rfl rfl (x := 0) rfl rfl dX4_link_2 (fun H locs hT => ?_)
  have hI := rf_puti (f := 400) (x := 0) rfl hI
  have hS := hI.1
  refine lv_aload_n hx hb dX4_link_5 rfl (lv_at hl 0 rfl) ?_
  refine lv_iload_n hx hb dX4_link_6 rfl (lv_at hl 1 rfl) ?_
  refine hv_calli (va_runV (As := [.int x]) (rest := []) ⟨hx, hb, hml, hown, hts⟩ (m_isSite l D tc hI x) (cwV 1 hts (tw_V tw_362 tw_363 tw_509 tw_3 tw_364) rfl rfl rfl (by decide +kernel) ⟨Nat.le_of_ble_eq_true rfl, Nat.le_of_ble_eq_true rfl⟩) (hv_preV (ci := 4) hK hT.1 (rs_k0 hS) (by decide) rfl rfl) rfl rfl hl.1 rfl (lv_room (Nat.le_of_ble_eq_true rfl)) dX4_link_7 ⟨Nat.le_of_ble_eq_true rfl, Nat.le_of_ble_eq_true rfl⟩) hT (fun r3 v1 H locs hp2 hT => ?_)
  obtain ⟨evhp2, qhp2⟩ := hp2
  rw [evhp2] at hT
  refine lv_if_eq (tgt := 36) hx hb dX4_link_10 (by decide) (fun c10 => ?_) (fun c10 => ?_)
  · skip
    refine lv_iconst (v := 0) hx hb dX4_link_36 (by decide) ?_
    exact hret _ 0 (hv_si v 400 (ra 0) 0) _ _ _ _ _ dX4_link_37 rfl hT (Or.inr ⟨fun ⟨i, j, q, h⟩ => (qhp2.resolve_left (fun z => absurd (z.1.symm.trans c10) (by decide))).2 ⟨i, h.1, h.2.2.2.2.1⟩, rfl, _, _, _, _, _, _, hI⟩) (by decide) (by decide)
  · skip
    obtain ⟨i, hi, ei9⟩ := (qhp2.resolve_right (fun z => c10 z.1)).2
    subst ei9
    refine lv_aload_n hx hb dX4_link_13 rfl (lv_at hl 0 rfl) ?_
    refine lv_iload_n hx hb dX4_link_14 rfl (lv_at hl 2 rfl) ?_
    refine hv_calli (va_runV (As := [.int y]) (rest := []) ⟨hx, hb, hml, hown, hts⟩ (m_isSite l D tc hI y) (cwV 1 hts (tw_V tw_362 tw_363 tw_509 tw_3 tw_364) rfl rfl rfl (by decide +kernel) ⟨Nat.le_of_ble_eq_true rfl, Nat.le_of_ble_eq_true rfl⟩) (hv_preV (ci := 4) hK hT.1 (rs_k0 hS) (by decide) rfl rfl) rfl rfl hl.1 rfl (lv_room (Nat.le_of_ble_eq_true rfl)) dX4_link_15 ⟨Nat.le_of_ble_eq_true rfl, Nat.le_of_ble_eq_true rfl⟩) hT (fun r6 v4 H locs hp5 hT => ?_)
    obtain ⟨evhp5, qhp5⟩ := hp5
    rw [evhp5] at hT
    refine lv_if_eq (tgt := 36) hx hb dX4_link_18 (by decide) (fun c18 => ?_) (fun c18 => ?_)
    · skip
      refine lv_iconst (v := 0) hx hb dX4_link_36 (by decide) ?_
      exact hret _ 0 (hv_si v 400 (ra 0) 0) _ _ _ _ _ dX4_link_37 rfl hT (Or.inr ⟨fun ⟨i, j, q, h⟩ => (qhp5.resolve_left (fun z => absurd (z.1.symm.trans c18) (by decide))).2 ⟨j, h.2.1, h.2.2.2.2.2.1⟩, rfl, _, _, _, _, _, _, hI⟩) (by decide) (by decide)
    · skip
      obtain ⟨j, hj, ej9⟩ := (qhp5.resolve_right (fun z => c18 z.1)).2
      subst ej9
      refine lv_iload_n hx hb dX4_link_21 rfl (lv_at hl 1 rfl) ?_
      refine lv_iload_n hx hb dX4_link_22 rfl (lv_at hl 2 rfl) ?_
      refine lv_icmp_eq (tgt := 36) hx hb dX4_link_23 (by decide) (fun c23 => ?_) (fun c23 => ?_)
      · skip
        refine lv_iconst (v := 0) hx hb dX4_link_36 (by decide) ?_
        exact hret _ 0 (hv_si v 400 (ra 0) 0) _ _ _ _ _ dX4_link_37 rfl hT (Or.inr ⟨fun ⟨i1, j1, q1, h⟩ => ok_Dne (rf_n8 hI0) (⟨h.1, h.2.1, h.2.2.1, h.2.2.2.2.1, h.2.2.2.2.2.1⟩ : ok_D _ _ _ i1 j1) rfl rfl hi hj c23, rfl, _, _, _, _, _, _, hI⟩) (by decide) (by decide)
      · skip
        refine lv_iload_n hx hb dX4_link_26 rfl (lv_at hl 3 rfl) ?_
        refine lv_if_lt (tgt := 36) hx hb dX4_link_27 (by decide) (fun c27 => ?_) (fun c27 => ?_)
        · skip
          refine lv_iconst (v := 0) hx hb dX4_link_36 (by decide) ?_
          exact hret _ 0 (hv_si v 400 (ra 0) 0) _ _ _ _ _ dX4_link_37 rfl hT (Or.inr ⟨fun ⟨i1, j1, q1, h⟩ => absurd c27 (by rw [h.2.2.2.2.2.2]; exact nI_pos (by have := h.2.2.2.1; omega)), rfl, _, _, _, _, _, _, hI⟩) (by decide) (by decide)
        · skip
          refine lv_iload_n hx hb dX4_link_30 rfl (lv_at hl 3 rfl) ?_
          refine lv_bipush (v := 20) hx hb dX4_link_31 (by decide) ?_
          refine lv_icmp_le (tgt := 38) hx hb dX4_link_33 (by decide) (fun c33 => ?_) (fun c33 => ?_)
          · skip
            obtain ⟨q, hq5, rfl⟩ := nI_of2 (M := 20) (n := 20) rfl c27 c33
            refine lv_aload_n hx hb dX4_link_38 rfl (lv_at hl 0 rfl) ?_
            refine hv_gets (ci := 4) (C := RX4) (T := TX4) (N := 34) hx hb hts (tw_cs in_X4) hown hK hT (rs_k0 hS) (by decide) rfl 6 (by decide) (hts _ (tw_c tw_318)) rfl (x := (ra 6)) (rs_p6 hS) dX4_link_39 ?_
            refine lv_bipush (v := 8) hx hb dX4_link_42 (by decide) ?_
            refine lv_iload_n hx hb dX4_link_44 rfl (lv_at hl 1 rfl) ?_
            refine lv_imul hx hb dX4_link_45 ?_
            refine hv_as (x := (8 * (nI i))) (y := (nI (8 * i))) (nI_8 _) ?_
            refine lv_iload_n hx hb dX4_link_46 rfl (lv_at hl 2 rfl) ?_
            refine lv_iadd hx hb dX4_link_47 ?_
            refine hv_as (x := ((nI (8 * i)) + (nI j))) (y := (nI ((8 * i) + j))) (nI_add _ _) ?_
            refine lv_iload_n hx hb dX4_link_48 rfl (lv_at hl 3 rfl) ?_
            refine hv_iast (x := (nI q)) hx hb hK hT (rs_k6 hS) (rf_in64 (rf_lt8 hI0 hi) (rf_lt8 hI0 hj)) dX4_link_49 (fun H locs hT => ?_)
            have hI := rf_putd (q := q) (i := i) (j := j) rfl (rf_lt8 hI0 hi) (rf_lt8 hI0 hj) hq5 hI
            have hS := hI.1
            refine lv_iconst (v := 1) hx hb dX4_link_50 (by decide) ?_
            exact hret _ 1 (hv_sa (hv_si v 400 (ra 0) 0) (ra 6) ((nI ((8 * i) + j)) : Int32).toNatClampNeg (nI q)) _ _ _ _ _ dX4_link_51 rfl hT (Or.inl ⟨i, j, q, ⟨hi, hj, fun e => c23 (by rw [e]), hq5, rfl, rfl, rfl⟩, rfl, _, _, _, _, _, _, hI⟩) (by decide) (by decide)
          · skip
            refine lv_iconst (v := 0) hx hb dX4_link_36 (by decide) ?_
            exact hret _ 0 (hv_si v 400 (ra 0) 0) _ _ _ _ _ dX4_link_37 rfl hT (Or.inr ⟨fun ⟨i1, j1, q1, h⟩ => c33 (by rw [h.2.2.2.2.2.2]; exact nI_le (b := 20) h.2.2.2.1 (by omega)), rfl, _, _, _, _, _, _, hI⟩) (by decide) (by decide)

/-- rows before i, and of row i what stands before j, are as part asks -/
def pt_I (gh g1 : Nat → Nat) (n : Nat) (x : Int32) (q i j : Nat) : Prop := (∀ k, k < 3000 → g1 k = gh k) ∧ ∀ i1 j1, i1 < n → j1 < n → i1 ≠ j1 → (i1 < i ∨ i1 = i ∧ j1 < j) → g1 (3000 + (8 * i1 + j1)) = pt_ x q i1 j1
theorem pt_put {gh g1 : Nat → Nat} {n : Nat} {x : Int32} {q i j q1 : Nat} (hq : i ≠ j → q1 = pt_ x q i j) (h : pt_I gh g1 n x q i j) (hi : i < n) (hj : j < n) (hn : n ≤ 8) : pt_I gh (va_up g1 (3000 + (8 * i + j)) q1) n x q i (j + 1) := by
  refine ⟨fun k hk => by rw [va_up_ne _ _ (by omega)]; exact h.1 k hk, fun i1 j1 h1 h2 h3 h4 => ?_⟩
  by_cases e : i1 = i ∧ j1 = j
  · obtain ⟨rfl, rfl⟩ := e
    rw [va_up_self]; exact hq h3
  · rw [va_up_ne _ _ (by omega)]; exact h.2 i1 j1 h1 h2 h3 (by omega)
theorem pt_row {gh g1 : Nat → Nat} {n : Nat} {x : Int32} {q i : Nat} (h : pt_I gh g1 n x q i n) : pt_I gh g1 n x q (i + 1) 0 := ⟨h.1, fun i1 j1 h1 h2 h3 h4 => h.2 i1 j1 h1 h2 h3 (by omega)⟩

set_option maxHeartbeats 4000000 in
set_option maxRecDepth 100000 in
theorem m_part (l : Launch) (D : va_G) (tc : Nat → ClassId) {ra gh : Nat → Nat} {n b B t nm : Nat} {st dg F kd : Nat → Nat} {v : hv_V} (hI : rf_J ra gh n b B t nm st dg F kd v) (x y : Int32) : Met l yX4_part (Cond.code yX4_part cX4_part 6 (some .int) :: lw_B) ({ frames := 0, cells := 0, slots := 0, locals := 0 }) (va_Pc [.ref (ra 0), .int x, .int y] (hv_Pre D tc v)) (va_Qi (fun (r : Int32) (v1 : hv_V) => (∃ q, ok_P y q ∧ r = nI n * (nI n - 1) ∧ ∃ g1 : Nat → Nat, ((∀ k, k < 3000 → g1 k = gh k) ∧ ∀ i j, i < n → j < n → i ≠ j → g1 (3000 + (8 * i + j)) = pt_ x q i j) ∧ ∃ t1 nm1 st1 dg1 F1 kd1, rf_J ra g1 n b B t1 nm1 st1 dg1 F1 kd1 v1) ∨ (¬ ∃ q, ok_P y q) ∧ r = -1 ∧ ∃ t1 nm1 st1 dg1 F1 kd1, rf_J ra gh n b B t1 nm1 st1 dg1 F1 kd1 v1) (hv_Post D tc (hv_A v)) (hv_A v)) (0) (0) (hv_A v) := by
  refine hv_meti l (by decide) (Nat.le_of_ble_eq_true rfl) ?_
  intro p e s m args below meth c Q X hret hK hz H locs ls hT hl
  obtain ⟨hx, hb, hml, hts, hown, hin0⟩ := X
  have hown : s.vm.findClass "CommitSitesModel" = some m.cls := hown
  have hl : lv_has ls 6 [(0, .ref (ra 0)), (1, .int x), (2, .int y)] := hl
  have hS := hI.1
  have hI0 := hI
  refine lv_aload_n hx hb dX4_part_0 rfl (lv_at hl 0 rfl) ?_
  refine lv_iconst (v := 0) hx hb dX4_part_1 (by decide) ?_
  refine hv_puti (ci := 4) (C := RX4) (T := TX4) (N := 34) hx hb hts (tw_cs in_X4) tyX4 tyX4_ok nmX4 hown hK hT (rs_k0 hS) (by decide) rfl 0 (by decide) (hts _ (tw_c tw_312)) rfl rfl (x := 0) rfl rfl dX4_part_2 (fun H locs hT => ?_)
  have hI := rf_puti (f := 400) (x := 0) rfl hI
  have hS := hI.1
  refine lv_iload_n hx hb dX4_part_5 rfl (lv_at hl 2 rfl) ?_
  refine lv_iconst (v := 1) hx hb dX4_part_6 (by decide) ?_
  refine lv_icmp_lt (tgt := 16) hx hb dX4_part_7 (by decide) (fun c7 => ?_) (fun c7 => ?_)
  · skip
    refine lv_iconst (v := (-1)) hx hb dX4_part_16 (by decide) ?_
    exact hret _ (-1) (hv_si v 400 (ra 0) 0) _ _ _ _ _ dX4_part_17 rfl hT (Or.inr ⟨fun ⟨q1, h1, h2, h3⟩ => absurd c7 (by rw [h3]; exact nI_nlt (b := 1) h1 (by omega)), rfl, _, _, _, _, _, _, hI⟩) (by decide) (by decide)
  · skip
    have hx0 : ¬ y < 0 := fun z => c7 (Int32.lt_trans z (by decide))
    refine lv_iload_n hx hb dX4_part_10 rfl (lv_at hl 2 rfl) ?_
    refine lv_bipush (v := 20) hx hb dX4_part_11 (by decide) ?_
    refine lv_icmp_le (tgt := 18) hx hb dX4_part_13 (by decide) (fun c13 => ?_) (fun c13 => ?_)
    · skip
      obtain ⟨q, hq5, rfl⟩ := nI_of2 (M := 20) (n := 20) rfl hx0 c13
      have hq1 : 1 ≤ q := Nat.le_of_not_lt (fun z => c7 ((nI_ltI (b := 1) (by omega) (by omega)).mpr z))
      refine lv_iconst (v := 0) hx hb dX4_part_18 (by decide) ?_
      refine hv_as (x := 0) (y := (nI 0)) nI_0.symm ?_
      refine lv_istore_n (lv' := [(3, _), (0, _), (1, _), (2, _)]) hx hb dX4_part_19 rfl hl (by decide) rfl (fun ls hl => ?_)
      have hL20 : ∀ (N9 : Nat) (i : Nat) (g1 : Nat → Nat) (vL : hv_V) (H : Heap) (locs : List Loc) (ls : Array Slot), i ≤ n → n < i + N9 → rf_J ra g1 n b B t nm st dg F kd vL → pt_I gh g1 n x q i 0 → hv_St (hv_A v) s D tc vL H locs → lv_has ls 6 [(0, .ref (ra 0)), (1, .int x), (2, .int (nI q)), (3, .int (nI i))] → W p l e ({ frames := 0, cells := 0, slots := 0, locals := 0 } : Room) s m args below meth c H locs (0) (0) Q (F0 m 20 ls []) := by
        intro N9
        induction N9 with
        | zero =>
          intro i g1 vL H locs ls hlei hNi hI hP hT hl
          exfalso
          omega
        | succ N9 ih20 =>
          intro i g1 vL H locs ls hlei hNi hI hP hT hl
          have hS := hI.1
          refine lv_iload_n hx hb dX4_part_20 rfl (lv_at hl 3 rfl) ?_
          refine lv_aload_n hx hb dX4_part_21 rfl (lv_at hl 0 rfl) ?_
          refine hv_geti (ci := 4) (C := RX4) (T := TX4) (N := 34) hx hb hts (tw_cs in_X4) hown hK hT (rs_k0 hS) (by decide) rfl 1 (by decide) (hts _ (tw_c tw_313)) rfl dX4_part_22 ?_
          refine lv_topi (fun g1 eg1 => ?_)
          have eg1 : g1 = (nI n) := by rw [eg1]; exact rf_hn hI
          subst eg1
          refine lv_icmp_ge (tgt := 101) hx hb dX4_part_25 (by decide) (fun c25 => ?_) (fun c25 => ?_)
          · skip
            refine lv_aload_n hx hb dX4_part_101 rfl (lv_at hl 0 rfl) ?_
            refine hv_geti (ci := 4) (C := RX4) (T := TX4) (N := 34) hx hb hts (tw_cs in_X4) hown hK hT (rs_k0 hS) (by decide) rfl 1 (by decide) (hts _ (tw_c tw_313)) rfl dX4_part_102 ?_
            refine lv_topi (fun g2 eg2 => ?_)
            have eg2 : g2 = (nI n) := by rw [eg2]; exact rf_hn hI
            subst eg2
            refine lv_aload_n hx hb dX4_part_105 rfl (lv_at hl 0 rfl) ?_
            refine hv_geti (ci := 4) (C := RX4) (T := TX4) (N := 34) hx hb hts (tw_cs in_X4) hown hK hT (rs_k0 hS) (by decide) rfl 1 (by decide) (hts _ (tw_c tw_313)) rfl dX4_part_106 ?_
            refine lv_topi (fun g3 eg3 => ?_)
            have eg3 : g3 = (nI n) := by rw [eg3]; exact rf_hn hI
            subst eg3
            refine lv_iconst (v := 1) hx hb dX4_part_109 (by decide) ?_
            refine lv_isub hx hb dX4_part_110 ?_
            refine lv_imul hx hb dX4_part_111 ?_
            exact hret _ ((nI n) * ((nI n) - 1)) vL _ _ _ _ _ dX4_part_112 rfl hT (Or.inl ⟨q, ⟨hq1, hq5, rfl⟩, rfl, g1, ⟨hP.1, fun i1 j1 h1 h2 h3 => hP.2 i1 j1 h1 h2 h3 (Or.inl (by rw [cs_ex hlei (by have := rf_n8 hI0; omega) c25]; exact h1))⟩, _, _, _, _, _, _, hI⟩) (by decide) (by decide)
          · skip
            have hlti : i < n := cs_lp hlei (rf_n8 hI0) c25
            refine lv_iconst (v := 0) hx hb dX4_part_28 (by decide) ?_
            refine hv_as (x := 0) (y := (nI 0)) nI_0.symm ?_
            refine lv_istore (lv' := [(4, _), (0, _), (1, _), (2, _), (3, _)]) hx hb dX4_part_29 hl (by decide) rfl (fun ls hl => ?_)
            have hL31 : ∀ (N9 : Nat) (j : Nat) (g1 : Nat → Nat) (vM : hv_V) (H : Heap) (locs : List Loc) (ls : Array Slot), j ≤ n → n < j + N9 → rf_J ra g1 n b B t nm st dg F kd vM → pt_I gh g1 n x q i j → hv_St (hv_A v) s D tc vM H locs → lv_has ls 6 [(0, .ref (ra 0)), (1, .int x), (2, .int (nI q)), (3, .int (nI i)), (4, .int (nI j))] → W p l e ({ frames := 0, cells := 0, slots := 0, locals := 0 } : Room) s m args below meth c H locs (0) (0) Q (F0 m 31 ls []) := by
              intro N9
              induction N9 with
              | zero =>
                intro j g1 vM H locs ls hlej hNj hI hP hT hl
                exfalso
                omega
              | succ N9 ih31 =>
                intro j g1 vM H locs ls hlej hNj hI hP hT hl
                have hS := hI.1
                refine lv_iload hx hb dX4_part_31 (lv_at hl 4 rfl) ?_
                refine lv_aload_n hx hb dX4_part_33 rfl (lv_at hl 0 rfl) ?_
                refine hv_geti (ci := 4) (C := RX4) (T := TX4) (N := 34) hx hb hts (tw_cs in_X4) hown hK hT (rs_k0 hS) (by decide) rfl 1 (by decide) (hts _ (tw_c tw_313)) rfl dX4_part_34 ?_
                refine lv_topi (fun g4 eg4 => ?_)
                have eg4 : g4 = (nI n) := by rw [eg4]; exact rf_hn hI
                subst eg4
                refine lv_icmp_ge (tgt := 95) hx hb dX4_part_37 (by decide) (fun c37 => ?_) (fun c37 => ?_)
                · skip
                  refine lv_iinc (v := (nI (i + 1))) (lv' := [(3, _), (0, _), (1, _), (2, _), (4, _)]) hx hb dX4_part_95 hl (k := 3) rfl (nI_1 _) (by decide) rfl (fun ls hl => ?_)
                  refine lv_goto (tgt := 20) hx hb dX4_part_98 (by decide) ?_
                  exact ih20 (i + 1) _ vM H locs ls (by omega) (by omega) hI (pt_row (by rw [cs_ex hlej (by have := rf_n8 hI0; omega) c37] at hP; exact hP)) hT (lv_sub hl [1, 2, 3, 0] rfl)
                · skip
                  have hltj : j < n := cs_lp hlej (rf_n8 hI0) c37
                  refine lv_iload_n hx hb dX4_part_40 rfl (lv_at hl 1 rfl) ?_
                  refine lv_iload_n hx hb dX4_part_41 rfl (lv_at hl 3 rfl) ?_
                  refine lv_ishr hx hb dX4_part_42 ?_
                  refine lv_iconst (v := 1) hx hb dX4_part_43 (by decide) ?_
                  refine lv_iand hx hb dX4_part_44 ?_
                  refine lv_iload_n hx hb dX4_part_45 rfl (lv_at hl 1 rfl) ?_
                  refine lv_iload hx hb dX4_part_46 (lv_at hl 4 rfl) ?_
                  refine lv_ishr hx hb dX4_part_48 ?_
                  refine lv_iconst (v := 1) hx hb dX4_part_49 (by decide) ?_
                  refine lv_iand hx hb dX4_part_50 ?_
                  refine lv_icmp_eq (tgt := 58) hx hb dX4_part_51 (by decide) (fun c51 => ?_) (fun c51 => ?_)
                  · skip
                    refine lv_iconst (v := 0) hx hb dX4_part_58 (by decide) ?_
                    refine lv_istore (lv' := [(5, _), (0, _), (1, _), (2, _), (3, _), (4, _)]) hx hb dX4_part_59 hl (by decide) rfl (fun ls hl => ?_)
                    refine lv_aload_n hx hb dX4_part_61 rfl (lv_at hl 1 rfl) ?_
                    refine hv_gets (ci := 4) (C := RX4) (T := TX4) (N := 34) hx hb hts (tw_cs in_X4) hown hK hT (rs_k0 hS) (by decide) rfl 6 (by decide) (hts _ (tw_c tw_318)) rfl (x := (ra 6)) (rs_p6 hS) dX4_part_62 ?_
                    refine lv_bipush (v := 8) hx hb dX4_part_65 (by decide) ?_
                    refine lv_iload_n hx hb dX4_part_67 rfl (lv_at hl 4 rfl) ?_
                    refine lv_imul hx hb dX4_part_68 ?_
                    refine hv_as (x := (8 * (nI i))) (y := (nI (8 * i))) (nI_8 _) ?_
                    refine lv_iload hx hb dX4_part_69 (lv_at hl 5 rfl) ?_
                    refine lv_iadd hx hb dX4_part_71 ?_
                    refine hv_as (x := ((nI (8 * i)) + (nI j))) (y := (nI ((8 * i) + j))) (nI_add _ _) ?_
                    refine lv_iload_n hx hb dX4_part_72 rfl (lv_at hl 4 rfl) ?_
                    refine lv_iload hx hb dX4_part_73 (lv_at hl 5 rfl) ?_
                    refine lv_icmp_eq (tgt := 83) hx hb dX4_part_75 (by decide) (fun c75 => ?_) (fun c75 => ?_)
                    · skip
                      refine lv_iconst (v := 0) hx hb dX4_part_83 (by decide) ?_
                      refine lv_goto (tgt := 88) hx hb dX4_part_84 (by decide) ?_
                      refine hv_iast (x := 0) hx hb hK hT (rs_k6 hS) (rf_in64 (rf_lt8 hI0 hlti) (rf_lt8 hI0 hltj)) dX4_part_88 (fun H locs hT => ?_)
                      have hP := pt_put (q1 := 0) (fun hne => absurd (nI_lit c75 (by have := rf_n8 hI0; omega) (by have := rf_n8 hI0; omega)) hne) hP hlti hltj (rf_n8 hI0)
                      have hI := rf_putd (q := 0) (i := i) (j := j) (x := 0) rfl (rf_lt8 hI0 hlti) (rf_lt8 hI0 hltj) (by omega) hI
                      have hS := hI.1
                      refine lv_iinc (v := (nI (j + 1))) (lv' := [(4, _), (5, _), (0, _), (1, _), (2, _), (3, _)]) hx hb dX4_part_89 hl (k := 5) rfl (nI_1 _) (by decide) rfl (fun ls hl => ?_)
                      refine lv_goto (tgt := 31) hx hb dX4_part_92 (by decide) ?_
                      exact ih31 (j + 1) _ (hv_sa vM (ra 6) ((nI ((8 * i) + j)) : Int32).toNatClampNeg 0) H locs ls (by omega) (by omega) hI hP hT (lv_sub hl [2, 3, 4, 5, 0] rfl)
                    · skip
                      refine lv_iload hx hb dX4_part_78 (lv_at hl 0 rfl) ?_
                      refine lv_if_eq (tgt := 87) hx hb dX4_part_80 (by decide) (fun c80 => ?_) (fun c80 => ?_)
                      · skip
                        refine lv_iload_n hx hb dX4_part_87 rfl (lv_at hl 3 rfl) ?_
                        refine hv_iast (x := (nI q)) hx hb hK hT (rs_k6 hS) (rf_in64 (rf_lt8 hI0 hlti) (rf_lt8 hI0 hltj)) dX4_part_88 (fun H locs hT => ?_)
                        have hP := pt_put (q1 := q) (fun hne => by unfold pt_ bt_; rw [if_pos c51]) hP hlti hltj (rf_n8 hI0)
                        have hI := rf_putd (q := q) (i := i) (j := j) (x := (nI q)) rfl (rf_lt8 hI0 hlti) (rf_lt8 hI0 hltj) (by omega) hI
                        have hS := hI.1
                        refine lv_iinc (v := (nI (j + 1))) (lv' := [(4, _), (5, _), (0, _), (1, _), (2, _), (3, _)]) hx hb dX4_part_89 hl (k := 5) rfl (nI_1 _) (by decide) rfl (fun ls hl => ?_)
                        refine lv_goto (tgt := 31) hx hb dX4_part_92 (by decide) ?_
                        exact ih31 (j + 1) _ (hv_sa vM (ra 6) ((nI ((8 * i) + j)) : Int32).toNatClampNeg (nI q)) H locs ls (by omega) (by omega) hI hP hT (lv_sub hl [2, 3, 4, 5, 0] rfl)
                      · skip
                        exact absurd rfl c80
                  · skip
                    refine lv_iconst (v := 1) hx hb dX4_part_54 (by decide) ?_
                    refine lv_goto (tgt := 59) hx hb dX4_part_55 (by decide) ?_
                    refine lv_istore (lv' := [(5, _), (0, _), (1, _), (2, _), (3, _), (4, _)]) hx hb dX4_part_59 hl (by decide) rfl (fun ls hl => ?_)
                    refine lv_aload_n hx hb dX4_part_61 rfl (lv_at hl 1 rfl) ?_
                    refine hv_gets (ci := 4) (C := RX4) (T := TX4) (N := 34) hx hb hts (tw_cs in_X4) hown hK hT (rs_k0 hS) (by decide) rfl 6 (by decide) (hts _ (tw_c tw_318)) rfl (x := (ra 6)) (rs_p6 hS) dX4_part_62 ?_
                    refine lv_bipush (v := 8) hx hb dX4_part_65 (by decide) ?_
                    refine lv_iload_n hx hb dX4_part_67 rfl (lv_at hl 4 rfl) ?_
                    refine lv_imul hx hb dX4_part_68 ?_
                    refine hv_as (x := (8 * (nI i))) (y := (nI (8 * i))) (nI_8 _) ?_
                    refine lv_iload hx hb dX4_part_69 (lv_at hl 5 rfl) ?_
                    refine lv_iadd hx hb dX4_part_71 ?_
                    refine hv_as (x := ((nI (8 * i)) + (nI j))) (y := (nI ((8 * i) + j))) (nI_add _ _) ?_
                    refine lv_iload_n hx hb dX4_part_72 rfl (lv_at hl 4 rfl) ?_
                    refine lv_iload hx hb dX4_part_73 (lv_at hl 5 rfl) ?_
                    refine lv_icmp_eq (tgt := 83) hx hb dX4_part_75 (by decide) (fun c75 => ?_) (fun c75 => ?_)
                    · skip
                      refine lv_iconst (v := 0) hx hb dX4_part_83 (by decide) ?_
                      refine lv_goto (tgt := 88) hx hb dX4_part_84 (by decide) ?_
                      refine hv_iast (x := 0) hx hb hK hT (rs_k6 hS) (rf_in64 (rf_lt8 hI0 hlti) (rf_lt8 hI0 hltj)) dX4_part_88 (fun H locs hT => ?_)
                      have hP := pt_put (q1 := 0) (fun hne => absurd (nI_lit c75 (by have := rf_n8 hI0; omega) (by have := rf_n8 hI0; omega)) hne) hP hlti hltj (rf_n8 hI0)
                      have hI := rf_putd (q := 0) (i := i) (j := j) (x := 0) rfl (rf_lt8 hI0 hlti) (rf_lt8 hI0 hltj) (by omega) hI
                      have hS := hI.1
                      refine lv_iinc (v := (nI (j + 1))) (lv' := [(4, _), (5, _), (0, _), (1, _), (2, _), (3, _)]) hx hb dX4_part_89 hl (k := 5) rfl (nI_1 _) (by decide) rfl (fun ls hl => ?_)
                      refine lv_goto (tgt := 31) hx hb dX4_part_92 (by decide) ?_
                      exact ih31 (j + 1) _ (hv_sa vM (ra 6) ((nI ((8 * i) + j)) : Int32).toNatClampNeg 0) H locs ls (by omega) (by omega) hI hP hT (lv_sub hl [2, 3, 4, 5, 0] rfl)
                    · skip
                      refine lv_iload hx hb dX4_part_78 (lv_at hl 0 rfl) ?_
                      refine lv_if_eq (tgt := 87) hx hb dX4_part_80 (by decide) (fun c80 => ?_) (fun c80 => ?_)
                      · skip
                        exact absurd c80 (by decide)
                      · skip
                        refine lv_iconst (v := 0) hx hb dX4_part_83 (by decide) ?_
                        refine lv_goto (tgt := 88) hx hb dX4_part_84 (by decide) ?_
                        refine hv_iast (x := 0) hx hb hK hT (rs_k6 hS) (rf_in64 (rf_lt8 hI0 hlti) (rf_lt8 hI0 hltj)) dX4_part_88 (fun H locs hT => ?_)
                        have hP := pt_put (q1 := 0) (fun hne => by unfold pt_ bt_; rw [if_neg c51]) hP hlti hltj (rf_n8 hI0)
                        have hI := rf_putd (q := 0) (i := i) (j := j) (x := 0) rfl (rf_lt8 hI0 hlti) (rf_lt8 hI0 hltj) (by omega) hI
                        have hS := hI.1
                        refine lv_iinc (v := (nI (j + 1))) (lv' := [(4, _), (5, _), (0, _), (1, _), (2, _), (3, _)]) hx hb dX4_part_89 hl (k := 5) rfl (nI_1 _) (by decide) rfl (fun ls hl => ?_)
                        refine lv_goto (tgt := 31) hx hb dX4_part_92 (by decide) ?_
                        exact ih31 (j + 1) _ (hv_sa vM (ra 6) ((nI ((8 * i) + j)) : Int32).toNatClampNeg 0) H locs ls (by omega) (by omega) hI hP hT (lv_sub hl [2, 3, 4, 5, 0] rfl)
            exact hL31 (n + 1) 0 _ vL H locs ls (Nat.zero_le _) (by omega) hI hP hT (lv_sub hl [1, 2, 3, 4, 0] rfl)
      exact hL20 (n + 1) 0 gh (hv_si v 400 (ra 0) 0) H locs ls (Nat.zero_le _) (by omega) hI (⟨fun _ _ => rfl, fun i1 j1 h1 h2 h3 h4 => by omega⟩) hT (lv_sub hl [1, 2, 3, 0] rfl)
    · skip
      refine lv_iconst (v := (-1)) hx hb dX4_part_16 (by decide) ?_
      exact hret _ (-1) (hv_si v 400 (ra 0) 0) _ _ _ _ _ dX4_part_17 rfl hT (Or.inr ⟨fun ⟨q1, h1, h2, h3⟩ => c13 (by rw [h3]; exact nI_le (b := 20) h2 (by omega)), rfl, _, _, _, _, _, _, hI⟩) (by decide) (by decide)

set_option maxHeartbeats 4000000 in
set_option maxRecDepth 100000 in
theorem m_crash (l : Launch) (D : va_G) (tc : Nat → ClassId) {ra gh : Nat → Nat} {n b B t nm : Nat} {st dg F kd : Nat → Nat} {v : hv_V} (hI : rf_J ra gh n b B t nm st dg F kd v) (x : Int32) : Met l yX4_crash (Cond.code yX4_crash cX4_crash 2 (some .int) :: lw_B) ({ frames := 1, cells := 0, slots := 0, locals := 21 }) (va_Pc [.ref (ra 0), .int x] (hv_Pre D tc v)) (va_Qi (fun (r : Int32) (v1 : hv_V) => (∃ i, ok_U n (fun k => gh (2000 + k)) 0 x i ∧ r = 1 ∧ ∃ t1 nm1 st1 dg1 F1 kd1, rf_J ra (va_up gh (2000 + i) 1) n b B t1 nm1 st1 dg1 F1 kd1 v1) ∨ (¬ ∃ i, ok_U n (fun k => gh (2000 + k)) 0 x i) ∧ r = 0 ∧ ∃ t1 nm1 st1 dg1 F1 kd1, rf_J ra gh n b B t1 nm1 st1 dg1 F1 kd1 v1) (hv_Post D tc (hv_A v)) (hv_A v)) (0) (0) (hv_A v) := by
  refine hv_meti l (by decide) (Nat.le_of_ble_eq_true rfl) ?_
  intro p e s m args below meth c Q X hret hK hz H locs ls hT hl
  obtain ⟨hx, hb, hml, hts, hown, hin0⟩ := X
  have hown : s.vm.findClass "CommitSitesModel" = some m.cls := hown
  have hl : lv_has ls 2 [(0, .ref (ra 0)), (1, .int x)] := hl
  have hS := hI.1
  have hI0 := hI
  refine lv_aload_n hx hb dX4_crash_0 rfl (lv_at hl 0 rfl) ?_
  refine lv_iconst (v := 0) hx hb dX4_crash_1 (by decide) ?_
  refine hv_puti (ci := 4) (C := RX4) (T := TX4) (N := 34) hx hb hts (tw_cs in_X4) tyX4 tyX4_ok nmX4 hown hK hT (rs_k0 hS) (by decide) rfl 0 (by decide) (hts _ (tw_c tw_312)) rfl rfl (x := 0) rfl rfl dX4_crash_2 (fun H locs hT => ?_)
  have hI := rf_puti (f := 400) (x := 0) rfl hI
  have hS := hI.1
  refine lv_aload_n hx hb dX4_crash_5 rfl (lv_at hl 0 rfl) ?_
  refine lv_iload_n hx hb dX4_crash_6 rfl (lv_at hl 1 rfl) ?_
  refine hv_calli (va_runV (As := [.int x]) (rest := []) ⟨hx, hb, hml, hown, hts⟩ (m_isSite l D tc hI x) (cwV 1 hts (tw_V tw_362 tw_363 tw_509 tw_3 tw_364) rfl rfl rfl (by decide +kernel) ⟨Nat.le_of_ble_eq_true rfl, Nat.le_of_ble_eq_true rfl⟩) (hv_preV (ci := 4) hK hT.1 (rs_k0 hS) (by decide) rfl rfl) rfl rfl hl.1 rfl (lv_room (Nat.le_of_ble_eq_true rfl)) dX4_crash_7 ⟨Nat.le_of_ble_eq_true rfl, Nat.le_of_ble_eq_true rfl⟩) hT (fun r3 v1 H locs hp2 hT => ?_)
  obtain ⟨evhp2, qhp2⟩ := hp2
  rw [evhp2] at hT
  refine lv_if_eq (tgt := 22) hx hb dX4_crash_10 (by decide) (fun c10 => ?_) (fun c10 => ?_)
  · skip
    refine lv_iconst (v := 0) hx hb dX4_crash_22 (by decide) ?_
    exact hret _ 0 (hv_si v 400 (ra 0) 0) _ _ _ _ _ dX4_crash_23 rfl hT (Or.inr ⟨fun ⟨i, h1, h2, h3⟩ => (qhp2.resolve_left (fun z => absurd (z.1.symm.trans c10) (by decide))).2 ⟨i, h1, h2⟩, rfl, _, _, _, _, _, _, hI⟩) (by decide) (by decide)
  · skip
    obtain ⟨i, hi, ei9⟩ := (qhp2.resolve_right (fun z => c10 z.1)).2
    subst ei9
    refine lv_aload_n hx hb dX4_crash_13 rfl (lv_at hl 0 rfl) ?_
    refine hv_gets (ci := 4) (C := RX4) (T := TX4) (N := 34) hx hb hts (tw_cs in_X4) hown hK hT (rs_k0 hS) (by decide) rfl 16 (by decide) (hts _ (tw_c tw_328)) rfl (x := (ra 16)) (rs_p16 hS) dX4_crash_14 ?_
    refine lv_iload_n hx hb dX4_crash_17 rfl (lv_at hl 1 rfl) ?_
    refine hv_zald hx hb hK hT (rs_k16 hS) (cs_in8 (rf_lt8 hI0 hi)) dX4_crash_18 ?_
    refine lv_topi (fun g4 eg4 => ?_)
    have eg4 : g4 = (nI (gh (2000 + i))) := eg4.trans (rf_dn hI (rf_lt8 hI0 hi))
    subst eg4
    refine lv_if_eq (tgt := 24) hx hb dX4_crash_19 (by decide) (fun c19 => ?_) (fun c19 => ?_)
    · skip
      refine lv_aload_n hx hb dX4_crash_24 rfl (lv_at hl 0 rfl) ?_
      refine hv_gets (ci := 4) (C := RX4) (T := TX4) (N := 34) hx hb hts (tw_cs in_X4) hown hK hT (rs_k0 hS) (by decide) rfl 16 (by decide) (hts _ (tw_c tw_328)) rfl (x := (ra 16)) (rs_p16 hS) dX4_crash_25 ?_
      refine lv_iload_n hx hb dX4_crash_28 rfl (lv_at hl 1 rfl) ?_
      refine lv_iconst (v := 1) hx hb dX4_crash_29 (by decide) ?_
      refine hv_zast (x := 1) hx hb hK hT (rs_k16 hS) (cs_in8 (rf_lt8 hI0 hi)) rfl dX4_crash_30 (fun H locs hT => ?_)
      have hI := rf_putu (q := 1) (i := i) (x := 1) rfl (rf_lt8 hI0 hi) (by omega) hI
      have hS := hI.1
      refine lv_aload_n hx hb dX4_crash_31 rfl (lv_at hl 0 rfl) ?_
      refine hv_gets (ci := 4) (C := RX4) (T := TX4) (N := 34) hx hb hts (tw_cs in_X4) hown hK hT (rs_k0 hS) (by decide) rfl 18 (by decide) (hts _ (tw_c tw_330)) rfl (x := (ra 18)) (rs_p18 hS) dX4_crash_32 ?_
      refine lv_iload_n hx hb dX4_crash_35 rfl (lv_at hl 1 rfl) ?_
      refine lv_iconst (v := 0) hx hb dX4_crash_36 (by decide) ?_
      refine hv_iast (x := 0) hx hb hK hT (rs_k18 hS) (cs_in8 (rf_lt8 hI0 hi)) dX4_crash_37 (fun H locs hT => ?_)
      obtain ⟨dg2, hI⟩ : ∃ dg2 : Nat → Nat, rf_J ra (va_up gh (2000 + i) 1) n b B t nm st dg2 F kd (hv_sa (hv_sa (hv_si v 400 (ra 0) 0) (ra 16) ((nI i) : Int32).toNatClampNeg 1) (ra 18) ((nI i) : Int32).toNatClampNeg 0) := ⟨va_up dg i 0, rf_does (g := 0) hI (rf_lt8 hI0 hi) (by omega) (fun q => absurd rfl q) (fun P hP => rf_lc (by omega) hP)⟩
      have hS := hI.1
      refine lv_aload_n hx hb dX4_crash_38 rfl (lv_at hl 0 rfl) ?_
      refine hv_gets (ci := 4) (C := RX4) (T := TX4) (N := 34) hx hb hts (tw_cs in_X4) hown hK hT (rs_k0 hS) (by decide) rfl 21 (by decide) (hts _ (tw_c tw_333)) rfl (x := (ra 21)) (rs_p21 hS) dX4_crash_39 ?_
      refine lv_iload_n hx hb dX4_crash_42 rfl (lv_at hl 1 rfl) ?_
      refine lv_iconst (v := (-1)) hx hb dX4_crash_43 (by decide) ?_
      refine hv_iast (x := (-1)) hx hb hK hT (rs_k21 hS) (cs_in8 (rf_lt8 hI0 hi)) dX4_crash_44 (fun H locs hT => ?_)
      have hI := rf_off hI (rf_lt8 hI0 hi)
      have hS := hI.1
      refine lv_iconst (v := 1) hx hb dX4_crash_45 (by decide) ?_
      exact hret _ 1 (hv_sa (hv_sa (hv_sa (hv_si v 400 (ra 0) 0) (ra 16) ((nI i) : Int32).toNatClampNeg 1) (ra 18) ((nI i) : Int32).toNatClampNeg 0) (ra 21) ((nI i) : Int32).toNatClampNeg (-1)) _ _ _ _ _ dX4_crash_46 rfl hT (Or.inl ⟨i, ⟨hi, rfl, by have := rf_dn1 hI0 (rf_lt8 hI0 hi); show gh (2000 + i) = 0; exact nI_lit (k := 0) c19⟩, rfl, _, _, _, _, _, _, hI⟩) (by decide) (by decide)
    · skip
      refine lv_iconst (v := 0) hx hb dX4_crash_22 (by decide) ?_
      exact hret _ 0 (hv_si v 400 (ra 0) 0) _ _ _ _ _ dX4_crash_23 rfl hT (Or.inr ⟨fun ⟨i1, h1, h2, h3⟩ => c19 (by rw [(nI_lit h2 (by have := rf_n8 hI0; omega) (by have := rf_n8 hI0; omega))]; exact (congrArg nI h3).trans nI_0), rfl, _, _, _, _, _, _, hI⟩) (by decide) (by decide)

set_option maxHeartbeats 4000000 in
set_option maxRecDepth 100000 in
theorem m_recover (l : Launch) (D : va_G) (tc : Nat → ClassId) {ra gh : Nat → Nat} {n b B t nm : Nat} {st dg F kd : Nat → Nat} {v : hv_V} (hI : rf_J ra gh n b B t nm st dg F kd v) (h479 : B < 479000) (x : Int32) : Met l yX4_recover (Cond.code yX4_recover cX4_recover 2 (some .int) :: lw_B) ({ frames := 3, cells := 0, slots := 0, locals := 71 }) (va_Pc [.ref (ra 0), .int x] (hv_Pre D tc v)) (va_Qi (fun (r : Int32) (v1 : hv_V) => (∃ i, ok_U n (fun k => gh (2000 + k)) 1 x i ∧ r = 1 ∧ ∃ t1 nm1 st1 dg1 F1 kd1, rf_J ra (va_up gh (2000 + i) 0) n b (B + 63) t1 nm1 st1 dg1 F1 kd1 v1) ∨ (¬ ∃ i, ok_U n (fun k => gh (2000 + k)) 1 x i) ∧ r = 0 ∧ ∃ t1 nm1 st1 dg1 F1 kd1, rf_J ra gh n b (B + 63) t1 nm1 st1 dg1 F1 kd1 v1) (hv_Post D tc (hv_A v)) (hv_A v)) (0) (0) (hv_A v) := by
  refine hv_meti l (by decide) (Nat.le_of_ble_eq_true rfl) ?_
  intro p e s m args below meth c Q X hret hK hz H locs ls hT hl
  obtain ⟨hx, hb, hml, hts, hown, hin0⟩ := X
  have hown : s.vm.findClass "CommitSitesModel" = some m.cls := hown
  have hl : lv_has ls 2 [(0, .ref (ra 0)), (1, .int x)] := hl
  have hS := hI.1
  have hI0 := hI
  refine lv_aload_n hx hb dX4_recover_0 rfl (lv_at hl 0 rfl) ?_
  refine lv_iconst (v := 0) hx hb dX4_recover_1 (by decide) ?_
  refine hv_puti (ci := 4) (C := RX4) (T := TX4) (N := 34) hx hb hts (tw_cs in_X4) tyX4 tyX4_ok nmX4 hown hK hT (rs_k0 hS) (by decide) rfl 0 (by decide) (hts _ (tw_c tw_312)) rfl rfl (x := 0) rfl rfl dX4_recover_2 (fun H locs hT => ?_)
  have hI := rf_puti (f := 400) (x := 0) rfl hI
  have hS := hI.1
  refine lv_aload_n hx hb dX4_recover_5 rfl (lv_at hl 0 rfl) ?_
  refine lv_iload_n hx hb dX4_recover_6 rfl (lv_at hl 1 rfl) ?_
  refine hv_calli (va_runV (As := [.int x]) (rest := []) ⟨hx, hb, hml, hown, hts⟩ (m_isSite l D tc hI x) (cwV 1 hts (tw_V tw_362 tw_363 tw_509 tw_3 tw_364) rfl rfl rfl (by decide +kernel) ⟨Nat.le_of_ble_eq_true rfl, Nat.le_of_ble_eq_true rfl⟩) (hv_preV (ci := 4) hK hT.1 (rs_k0 hS) (by decide) rfl rfl) rfl rfl hl.1 rfl (lv_room (Nat.le_of_ble_eq_true rfl)) dX4_recover_7 ⟨Nat.le_of_ble_eq_true rfl, Nat.le_of_ble_eq_true rfl⟩) hT (fun r3 v1 H locs hp2 hT => ?_)
  obtain ⟨evhp2, qhp2⟩ := hp2
  rw [evhp2] at hT
  refine lv_if_eq (tgt := 22) hx hb dX4_recover_10 (by decide) (fun c10 => ?_) (fun c10 => ?_)
  · skip
    refine lv_iconst (v := 0) hx hb dX4_recover_22 (by decide) ?_
    exact hret _ 0 (hv_si v 400 (ra 0) 0) _ _ _ _ _ dX4_recover_23 rfl hT (Or.inr ⟨fun ⟨i, h1, h2, h3⟩ => (qhp2.resolve_left (fun z => absurd (z.1.symm.trans c10) (by decide))).2 ⟨i, h1, h2⟩, rfl, _, _, _, _, _, _, rf_up (by omega) hI⟩) (by decide) (by decide)
  · skip
    obtain ⟨i, hi, ei9⟩ := (qhp2.resolve_right (fun z => c10 z.1)).2
    subst ei9
    refine lv_aload_n hx hb dX4_recover_13 rfl (lv_at hl 0 rfl) ?_
    refine hv_gets (ci := 4) (C := RX4) (T := TX4) (N := 34) hx hb hts (tw_cs in_X4) hown hK hT (rs_k0 hS) (by decide) rfl 16 (by decide) (hts _ (tw_c tw_328)) rfl (x := (ra 16)) (rs_p16 hS) dX4_recover_14 ?_
    refine lv_iload_n hx hb dX4_recover_17 rfl (lv_at hl 1 rfl) ?_
    refine hv_zald hx hb hK hT (rs_k16 hS) (cs_in8 (rf_lt8 hI0 hi)) dX4_recover_18 ?_
    refine lv_topi (fun g4 eg4 => ?_)
    have eg4 : g4 = (nI (gh (2000 + i))) := eg4.trans (rf_dn hI (rf_lt8 hI0 hi))
    subst eg4
    refine lv_if_ne (tgt := 24) hx hb dX4_recover_19 (by decide) (fun c19 => ?_) (fun c19 => ?_)
    · skip
      refine lv_aload_n hx hb dX4_recover_24 rfl (lv_at hl 0 rfl) ?_
      refine hv_gets (ci := 4) (C := RX4) (T := TX4) (N := 34) hx hb hts (tw_cs in_X4) hown hK hT (rs_k0 hS) (by decide) rfl 16 (by decide) (hts _ (tw_c tw_328)) rfl (x := (ra 16)) (rs_p16 hS) dX4_recover_25 ?_
      refine lv_iload_n hx hb dX4_recover_28 rfl (lv_at hl 1 rfl) ?_
      refine lv_iconst (v := 0) hx hb dX4_recover_29 (by decide) ?_
      refine hv_zast (x := 0) hx hb hK hT (rs_k16 hS) (cs_in8 (rf_lt8 hI0 hi)) rfl dX4_recover_30 (fun H locs hT => ?_)
      have hI := rf_putu (q := 0) (i := i) (x := 0) rfl (rf_lt8 hI0 hi) (by omega) hI
      have hS := hI.1
      refine lv_aload_n hx hb dX4_recover_31 rfl (lv_at hl 0 rfl) ?_
      refine hv_geti (ci := 4) (C := RX4) (T := TX4) (N := 34) hx hb hts (tw_cs in_X4) hown hK hT (rs_k0 hS) (by decide) rfl 7 (by decide) (hts _ (tw_c tw_319)) rfl dX4_recover_32 ?_
      refine lv_topi (fun g5 eg5 => ?_)
      have eg5 : g5 = (nI b) := eg5.trans (rf_hb hI)
      subst eg5
      refine lv_if_eq (tgt := 56) hx hb dX4_recover_35 (by decide) (fun c35 => ?_) (fun c35 => ?_)
      · skip
        refine lv_aload_n hx hb dX4_recover_56 rfl (lv_at hl 0 rfl) ?_
        refine hv_geti (ci := 4) (C := RX4) (T := TX4) (N := 34) hx hb hts (tw_cs in_X4) hown hK hT (rs_k0 hS) (by decide) rfl 7 (by decide) (hts _ (tw_c tw_319)) rfl dX4_recover_57 ?_
        refine lv_topi (fun g6 eg6 => ?_)
        have eg6 : g6 = (nI b) := eg6.trans (rf_hb hI)
        subst eg6
        refine lv_if_eq (tgt := 76) hx hb dX4_recover_60 (by decide) (fun c60 => ?_) (fun c60 => ?_)
        · skip
          refine lv_iconst (v := 1) hx hb dX4_recover_76 (by decide) ?_
          exact hret _ 1 (hv_sa (hv_si v 400 (ra 0) 0) (ra 16) ((nI i) : Int32).toNatClampNeg 0) _ _ _ _ _ dX4_recover_77 rfl hT (Or.inl ⟨i, ⟨hi, rfl, by have h1 := rf_dn1 hI0 (rf_lt8 hI0 hi); have h2 := nI_nlit (k := 0) c19; show gh (2000 + i) = 1; omega⟩, rfl, _, _, _, _, _, _, rf_up (by omega) hI⟩) (by decide) (by decide)
        · skip
          have hb0 : b = 1 := by have := rf_b1 hI; have := nI_nlit (k := 0) c60; omega
          subst hb0
          refine lv_aload_n hx hb dX4_recover_63 rfl (lv_at hl 0 rfl) ?_
          refine lv_iload_n hx hb dX4_recover_64 rfl (lv_at hl 1 rfl) ?_
          refine hv_calli (va_runV (As := [.int (nI i)]) (rest := []) ⟨hx, hb, hml, hown, hts⟩ (m_isDecided l D tc hI hi) (cwV 1 hts (tw_V tw_415 tw_416 tw_520 tw_3 tw_417) rfl rfl rfl (by decide +kernel) ⟨Nat.le_of_ble_eq_true rfl, Nat.le_of_ble_eq_true rfl⟩) (hv_preV (ci := 4) hK hT.1 (rs_k0 hS) (by decide) rfl rfl) rfl rfl hl.1 rfl (lv_room (Nat.le_of_ble_eq_true rfl)) dX4_recover_65 ⟨Nat.le_of_ble_eq_true rfl, Nat.le_of_ble_eq_true rfl⟩) hT (fun r9 v7 H locs hp8 hT => ?_)
          obtain ⟨evhp8, qhp8⟩ := hp8
          rw [evhp8] at hT
          refine lv_if_ne (tgt := 76) hx hb dX4_recover_68 (by decide) (fun c68 => ?_) (fun c68 => ?_)
          · skip
            refine lv_iconst (v := 1) hx hb dX4_recover_76 (by decide) ?_
            exact hret _ 1 (hv_sa (hv_si v 400 (ra 0) 0) (ra 16) ((nI i) : Int32).toNatClampNeg 0) _ _ _ _ _ dX4_recover_77 rfl hT (Or.inl ⟨i, ⟨hi, rfl, by have h1 := rf_dn1 hI0 (rf_lt8 hI0 hi); have h2 := nI_nlit (k := 0) c19; show gh (2000 + i) = 1; omega⟩, rfl, _, _, _, _, _, _, rf_up (by omega) hI⟩) (by decide) (by decide)
          · skip
            have h4 : st i < 4 := (qhp8.resolve_left (fun z => absurd (z.1.symm.trans c68) (by decide))).2
            refine lv_aload_n hx hb dX4_recover_71 rfl (lv_at hl 0 rfl) ?_
            refine lv_iload_n hx hb dX4_recover_72 rfl (lv_at hl 1 rfl) ?_
            refine hv_callv (va_runV (As := [.int (nI i)]) (rest := []) ⟨hx, hb, hml, hown, hts⟩ (m_attempt l D tc hI hi h4 (by omega)) (cwV 1 hts (tw_V tw_418 tw_419 tw_521 tw_3 tw_420) rfl rfl rfl (by decide +kernel) ⟨Nat.le_of_ble_eq_true rfl, Nat.le_of_ble_eq_true rfl⟩) (hv_preV (ci := 4) hK hT.1 (rs_k0 hS) (by decide) rfl rfl) rfl rfl hl.1 rfl (lv_room (Nat.le_of_ble_eq_true rfl)) dX4_recover_73 ⟨Nat.le_of_ble_eq_true rfl, Nat.le_of_ble_eq_true rfl⟩) hT (fun v10 H locs hp11 hT => ?_)
            obtain ⟨nm12, dg13, kd14, hI⟩ := hp11
            have hS := hI.1
            refine lv_iconst (v := 1) hx hb dX4_recover_76 (by decide) ?_
            exact hret _ 1 v10 _ _ _ _ _ dX4_recover_77 rfl hT (Or.inl ⟨i, ⟨hi, rfl, by have h1 := rf_dn1 hI0 (rf_lt8 hI0 hi); have h2 := nI_nlit (k := 0) c19; show gh (2000 + i) = 1; omega⟩, rfl, _, _, _, _, _, _, rf_up (by omega) hI⟩) (by decide) (by decide)
      · skip
        have hb0 : b = 1 := by have := rf_b1 hI; have := nI_nlit (k := 0) c35; omega
        subst hb0
        refine lv_aload_n hx hb dX4_recover_38 rfl (lv_at hl 0 rfl) ?_
        refine hv_gets (ci := 4) (C := RX4) (T := TX4) (N := 34) hx hb hts (tw_cs in_X4) hown hK hT (rs_k0 hS) (by decide) rfl 14 (by decide) (hts _ (tw_c tw_326)) rfl (x := (ra 14)) (rs_p14 hS) dX4_recover_39 ?_
        refine lv_iload_n hx hb dX4_recover_42 rfl (lv_at hl 1 rfl) ?_
        refine hv_iald hx hb hK hT (rs_k14 hS) (cs_in8 (rf_lt8 hI0 hi)) dX4_recover_43 ?_
        refine lv_topi (fun g15 eg15 => ?_)
        have eg15 : g15 = nI (st i) := by rw [eg15]; exact rf_gst hI (rf_lt8 hI0 hi)
        subst eg15
        refine lv_if_ne (tgt := 56) hx hb dX4_recover_44 (by decide) (fun c44 => ?_) (fun c44 => ?_)
        · skip
          refine lv_aload_n hx hb dX4_recover_56 rfl (lv_at hl 0 rfl) ?_
          refine hv_geti (ci := 4) (C := RX4) (T := TX4) (N := 34) hx hb hts (tw_cs in_X4) hown hK hT (rs_k0 hS) (by decide) rfl 7 (by decide) (hts _ (tw_c tw_319)) rfl dX4_recover_57 ?_
          refine lv_topi (fun g16 eg16 => ?_)
          have eg16 : g16 = (nI 1) := eg16.trans (rf_hb hI)
          subst eg16
          refine lv_if_eq (tgt := 76) hx hb dX4_recover_60 (by decide) (fun c60 => ?_) (fun c60 => ?_)
          · skip
            refine lv_iconst (v := 1) hx hb dX4_recover_76 (by decide) ?_
            exact hret _ 1 (hv_sa (hv_si v 400 (ra 0) 0) (ra 16) ((nI i) : Int32).toNatClampNeg 0) _ _ _ _ _ dX4_recover_77 rfl hT (Or.inl ⟨i, ⟨hi, rfl, by have h1 := rf_dn1 hI0 (rf_lt8 hI0 hi); have h2 := nI_nlit (k := 0) c19; show gh (2000 + i) = 1; omega⟩, rfl, _, _, _, _, _, _, rf_up (by omega) hI⟩) (by decide) (by decide)
          · skip
            refine lv_aload_n hx hb dX4_recover_63 rfl (lv_at hl 0 rfl) ?_
            refine lv_iload_n hx hb dX4_recover_64 rfl (lv_at hl 1 rfl) ?_
            refine hv_calli (va_runV (As := [.int (nI i)]) (rest := []) ⟨hx, hb, hml, hown, hts⟩ (m_isDecided l D tc hI hi) (cwV 1 hts (tw_V tw_415 tw_416 tw_520 tw_3 tw_417) rfl rfl rfl (by decide +kernel) ⟨Nat.le_of_ble_eq_true rfl, Nat.le_of_ble_eq_true rfl⟩) (hv_preV (ci := 4) hK hT.1 (rs_k0 hS) (by decide) rfl rfl) rfl rfl hl.1 rfl (lv_room (Nat.le_of_ble_eq_true rfl)) dX4_recover_65 ⟨Nat.le_of_ble_eq_true rfl, Nat.le_of_ble_eq_true rfl⟩) hT (fun r19 v17 H locs hp18 hT => ?_)
            obtain ⟨evhp18, qhp18⟩ := hp18
            rw [evhp18] at hT
            refine lv_if_ne (tgt := 76) hx hb dX4_recover_68 (by decide) (fun c68 => ?_) (fun c68 => ?_)
            · skip
              refine lv_iconst (v := 1) hx hb dX4_recover_76 (by decide) ?_
              exact hret _ 1 (hv_sa (hv_si v 400 (ra 0) 0) (ra 16) ((nI i) : Int32).toNatClampNeg 0) _ _ _ _ _ dX4_recover_77 rfl hT (Or.inl ⟨i, ⟨hi, rfl, by have h1 := rf_dn1 hI0 (rf_lt8 hI0 hi); have h2 := nI_nlit (k := 0) c19; show gh (2000 + i) = 1; omega⟩, rfl, _, _, _, _, _, _, rf_up (by omega) hI⟩) (by decide) (by decide)
            · skip
              have h4 : st i < 4 := (qhp18.resolve_left (fun z => absurd (z.1.symm.trans c68) (by decide))).2
              refine lv_aload_n hx hb dX4_recover_71 rfl (lv_at hl 0 rfl) ?_
              refine lv_iload_n hx hb dX4_recover_72 rfl (lv_at hl 1 rfl) ?_
              refine hv_callv (va_runV (As := [.int (nI i)]) (rest := []) ⟨hx, hb, hml, hown, hts⟩ (m_attempt l D tc hI hi h4 (by omega)) (cwV 1 hts (tw_V tw_418 tw_419 tw_521 tw_3 tw_420) rfl rfl rfl (by decide +kernel) ⟨Nat.le_of_ble_eq_true rfl, Nat.le_of_ble_eq_true rfl⟩) (hv_preV (ci := 4) hK hT.1 (rs_k0 hS) (by decide) rfl rfl) rfl rfl hl.1 rfl (lv_room (Nat.le_of_ble_eq_true rfl)) dX4_recover_73 ⟨Nat.le_of_ble_eq_true rfl, Nat.le_of_ble_eq_true rfl⟩) hT (fun v20 H locs hp21 hT => ?_)
              obtain ⟨nm22, dg23, kd24, hI⟩ := hp21
              have hS := hI.1
              refine lv_iconst (v := 1) hx hb dX4_recover_76 (by decide) ?_
              exact hret _ 1 v20 _ _ _ _ _ dX4_recover_77 rfl hT (Or.inl ⟨i, ⟨hi, rfl, by have h1 := rf_dn1 hI0 (rf_lt8 hI0 hi); have h2 := nI_nlit (k := 0) c19; show gh (2000 + i) = 1; omega⟩, rfl, _, _, _, _, _, _, rf_up (by omega) hI⟩) (by decide) (by decide)
        · skip
          have h4 : st i < 4 := by have := rf_st5 hI (rf_lt8 hI0 hi); have := nI_lit (k := 0) c44; omega
          refine lv_aload_n hx hb dX4_recover_47 rfl (lv_at hl 0 rfl) ?_
          refine lv_iload_n hx hb dX4_recover_48 rfl (lv_at hl 1 rfl) ?_
          refine lv_iconst (v := 5) hx hb dX4_recover_49 (by decide) ?_
          refine hv_callv (va_runV (As := [.int (nI i), .int 5]) (rest := []) ⟨hx, hb, hml, hown, hts⟩ (m_become4 l D tc hI hi (sv := 5) (by omega) (by omega) h4) (cwV 2 hts (tw_V tw_380 tw_381 tw_511 tw_3 tw_382) rfl rfl rfl (by decide +kernel) ⟨Nat.le_of_ble_eq_true rfl, Nat.le_of_ble_eq_true rfl⟩) (hv_preV (ci := 4) hK hT.1 (rs_k0 hS) (by decide) rfl rfl) rfl rfl hl.1 rfl (lv_room (Nat.le_of_ble_eq_true rfl)) dX4_recover_50 ⟨Nat.le_of_ble_eq_true rfl, Nat.le_of_ble_eq_true rfl⟩) hT (fun v25 H locs hp26 hT => ?_)
          obtain ⟨st27, dg28, hx29, hI⟩ := hp26
          have hS := hI.1
          have hbhx29 : st27 i = 5 := hx29.1.1
          refine lv_goto (tgt := 76) hx hb dX4_recover_53 (by decide) ?_
          refine lv_iconst (v := 1) hx hb dX4_recover_76 (by decide) ?_
          exact hret _ 1 v25 _ _ _ _ _ dX4_recover_77 rfl hT (Or.inl ⟨i, ⟨hi, rfl, by have h1 := rf_dn1 hI0 (rf_lt8 hI0 hi); have h2 := nI_nlit (k := 0) c19; show gh (2000 + i) = 1; omega⟩, rfl, _, _, _, _, _, _, rf_up (by omega) hI⟩) (by decide) (by decide)
    · skip
      refine lv_iconst (v := 0) hx hb dX4_recover_22 (by decide) ?_
      exact hret _ 0 (hv_si v 400 (ra 0) 0) _ _ _ _ _ dX4_recover_23 rfl hT (Or.inr ⟨fun ⟨i1, h1, h2, h3⟩ => absurd (nI_lit (k := 0) c19 (by have := rf_dn1 hI0 (rf_lt8 hI0 hi); omega)) (by rw [(nI_lit h2 (by have := rf_n8 hI0; omega) (by have := rf_n8 hI0; omega))]; have h3 : gh (2000 + i1) = 1 := h3; omega), rfl, _, _, _, _, _, _, rf_up (by omega) hI⟩) (by decide) (by decide)

set_option maxHeartbeats 4000000 in
set_option maxRecDepth 100000 in
theorem m_begin (l : Launch) (D : va_G) (tc : Nat → ClassId) {ra gh : Nat → Nat} {n b B t nm : Nat} {st dg F kd : Nat → Nat} {v : hv_V} (hI : rf_J ra gh n b B t nm st dg F kd v) (h479 : B < 479000) (x y : Int32) : Met l yX4_begin (Cond.code yX4_begin cX4_begin 4 (some .int) :: lw_B) ({ frames := 6, cells := 0, slots := 0, locals := 139 }) (va_Pc [.ref (ra 0), .int x, .int y] (hv_Pre D tc v)) (va_Qi (fun (r : Int32) (v1 : hv_V) => (((∃ i, ok_U n (fun k => gh (2000 + k)) 0 x i) ∧ b = 0) ∧ r = 1 ∧ ∃ t1 nm1 st1 dg1 F1 kd1, rf_J ra gh n 1 (B + 126) t1 nm1 st1 dg1 F1 kd1 v1) ∨ (¬ ((∃ i, ok_U n (fun k => gh (2000 + k)) 0 x i) ∧ b = 0)) ∧ r = 0 ∧ ∃ t1 nm1 st1 dg1 F1 kd1, rf_J ra gh n b (B + 126) t1 nm1 st1 dg1 F1 kd1 v1) (hv_Post D tc (hv_A v)) (hv_A v)) (0) (0) (hv_A v) := by
  refine hv_meti l (by decide) (Nat.le_of_ble_eq_true rfl) ?_
  intro p e s m args below meth c Q X hret hK hz H locs ls hT hl
  obtain ⟨hx, hb, hml, hts, hown, hin0⟩ := X
  have hown : s.vm.findClass "CommitSitesModel" = some m.cls := hown
  have hl : lv_has ls 4 [(0, .ref (ra 0)), (1, .int x), (2, .int y)] := hl
  have hS := hI.1
  have hI0 := hI
  refine lv_aload_n hx hb dX4_begin_0 rfl (lv_at hl 0 rfl) ?_
  refine lv_iconst (v := 0) hx hb dX4_begin_1 (by decide) ?_
  refine hv_puti (ci := 4) (C := RX4) (T := TX4) (N := 34) hx hb hts (tw_cs in_X4) tyX4 tyX4_ok nmX4 hown hK hT (rs_k0 hS) (by decide) rfl 0 (by decide) (hts _ (tw_c tw_312)) rfl rfl (x := 0) rfl rfl dX4_begin_2 (fun H locs hT => ?_)
  have hI := rf_puti (f := 400) (x := 0) rfl hI
  have hS := hI.1
  refine lv_aload_n hx hb dX4_begin_5 rfl (lv_at hl 0 rfl) ?_
  refine lv_iload_n hx hb dX4_begin_6 rfl (lv_at hl 1 rfl) ?_
  refine hv_calli (va_runV (As := [.int x]) (rest := []) ⟨hx, hb, hml, hown, hts⟩ (m_isSite l D tc hI x) (cwV 1 hts (tw_V tw_362 tw_363 tw_509 tw_3 tw_364) rfl rfl rfl (by decide +kernel) ⟨Nat.le_of_ble_eq_true rfl, Nat.le_of_ble_eq_true rfl⟩) (hv_preV (ci := 4) hK hT.1 (rs_k0 hS) (by decide) rfl rfl) rfl rfl hl.1 rfl (lv_room (Nat.le_of_ble_eq_true rfl)) dX4_begin_7 ⟨Nat.le_of_ble_eq_true rfl, Nat.le_of_ble_eq_true rfl⟩) hT (fun r3 v1 H locs hp2 hT => ?_)
  obtain ⟨evhp2, qhp2⟩ := hp2
  rw [evhp2] at hT
  refine lv_if_eq (tgt := 29) hx hb dX4_begin_10 (by decide) (fun c10 => ?_) (fun c10 => ?_)
  · skip
    refine lv_iconst (v := 0) hx hb dX4_begin_29 (by decide) ?_
    exact hret _ 0 (hv_si v 400 (ra 0) 0) _ _ _ _ _ dX4_begin_30 rfl hT (Or.inr ⟨fun ⟨⟨i, h1, h2, h3⟩, _⟩ => (qhp2.resolve_left (fun z => absurd (z.1.symm.trans c10) (by decide))).2 ⟨i, h1, h2⟩, rfl, _, _, _, _, _, _, rf_up (by omega) hI⟩) (by decide) (by decide)
  · skip
    obtain ⟨i, hi, ei9⟩ := (qhp2.resolve_right (fun z => c10 z.1)).2
    subst ei9
    refine lv_aload_n hx hb dX4_begin_13 rfl (lv_at hl 0 rfl) ?_
    refine hv_gets (ci := 4) (C := RX4) (T := TX4) (N := 34) hx hb hts (tw_cs in_X4) hown hK hT (rs_k0 hS) (by decide) rfl 16 (by decide) (hts _ (tw_c tw_328)) rfl (x := (ra 16)) (rs_p16 hS) dX4_begin_14 ?_
    refine lv_iload_n hx hb dX4_begin_17 rfl (lv_at hl 1 rfl) ?_
    refine hv_zald hx hb hK hT (rs_k16 hS) (cs_in8 (rf_lt8 hI0 hi)) dX4_begin_18 ?_
    refine lv_topi (fun g4 eg4 => ?_)
    have eg4 : g4 = (nI (gh (2000 + i))) := eg4.trans (rf_dn hI (rf_lt8 hI0 hi))
    subst eg4
    refine lv_if_ne (tgt := 29) hx hb dX4_begin_19 (by decide) (fun c19 => ?_) (fun c19 => ?_)
    · skip
      refine lv_iconst (v := 0) hx hb dX4_begin_29 (by decide) ?_
      exact hret _ 0 (hv_si v 400 (ra 0) 0) _ _ _ _ _ dX4_begin_30 rfl hT (Or.inr ⟨fun ⟨⟨i1, h1, h2, h3⟩, _⟩ => c19 (by rw [(nI_lit h2 (by have := rf_n8 hI0; omega) (by have := rf_n8 hI0; omega))]; exact (congrArg nI h3).trans nI_0), rfl, _, _, _, _, _, _, rf_up (by omega) hI⟩) (by decide) (by decide)
    · skip
      refine lv_aload_n hx hb dX4_begin_22 rfl (lv_at hl 0 rfl) ?_
      refine hv_geti (ci := 4) (C := RX4) (T := TX4) (N := 34) hx hb hts (tw_cs in_X4) hown hK hT (rs_k0 hS) (by decide) rfl 7 (by decide) (hts _ (tw_c tw_319)) rfl dX4_begin_23 ?_
      refine lv_topi (fun g5 eg5 => ?_)
      have eg5 : g5 = (nI b) := eg5.trans (rf_hb hI)
      subst eg5
      refine lv_if_eq (tgt := 31) hx hb dX4_begin_26 (by decide) (fun c26 => ?_) (fun c26 => ?_)
      · skip
        have hup : gh (2000 + i) = 0 := by have := rf_dn1 hI0 (rf_lt8 hI0 hi); exact nI_lit (k := 0) c19
        have hb0 : b = 0 := by have := rf_b1 hI; exact nI_lit (k := 0) c26
        subst hb0
        have hst0 := (hI.2.2.2.2.2 rfl).2.1 i (rf_lt8 hI0 hi)
        have h4 : st i < 4 := by omega
        refine lv_aload_n hx hb dX4_begin_31 rfl (lv_at hl 0 rfl) ?_
        refine lv_iconst (v := 1) hx hb dX4_begin_32 (by decide) ?_
        refine hv_puti (ci := 4) (C := RX4) (T := TX4) (N := 34) hx hb hts (tw_cs in_X4) tyX4 tyX4_ok nmX4 hown hK hT (rs_k0 hS) (by decide) rfl 7 (by decide) (hts _ (tw_c tw_319)) rfl rfl (x := 1) rfl rfl dX4_begin_33 (fun H locs hT => ?_)
        have hI := rf_start hI
        have hS := hI.1
        refine lv_iconst (v := 0) hx hb dX4_begin_36 (by decide) ?_
        refine hv_as (x := 0) (y := (nI 0)) nI_0.symm ?_
        refine lv_istore_n (lv' := [(3, _), (0, _), (1, _), (2, _)]) hx hb dX4_begin_37 rfl hl (by decide) rfl (fun ls hl => ?_)
        have hL38 : ∀ (N9 : Nat) (j : Nat) (vL : hv_V) (H : Heap) (locs : List Loc) (ls : Array Slot), j ≤ n → n < j + N9 → rf_J ra gh n 1 B t nm st dg F kd vL → hv_St (hv_A v) s D tc vL H locs → lv_has ls 4 [(0, .ref (ra 0)), (1, .int (nI i)), (2, .int y), (3, .int (nI j))] → W p l e ({ frames := 6, cells := 0, slots := 0, locals := 139 } : Room) s m args below meth c H locs (0) (0) Q (F0 m 38 ls []) := by
          intro N9
          induction N9 with
          | zero =>
            intro j vL H locs ls hlej hNj hI hT hl
            exfalso
            omega
          | succ N9 ih38 =>
            intro j vL H locs ls hlej hNj hI hT hl
            have hS := hI.1
            refine lv_iload_n hx hb dX4_begin_38 rfl (lv_at hl 3 rfl) ?_
            refine lv_aload_n hx hb dX4_begin_39 rfl (lv_at hl 0 rfl) ?_
            refine hv_geti (ci := 4) (C := RX4) (T := TX4) (N := 34) hx hb hts (tw_cs in_X4) hown hK hT (rs_k0 hS) (by decide) rfl 1 (by decide) (hts _ (tw_c tw_313)) rfl dX4_begin_40 ?_
            refine lv_topi (fun g6 eg6 => ?_)
            have eg6 : g6 = (nI n) := by rw [eg6]; exact rf_hn hI
            subst eg6
            refine lv_icmp_ge (tgt := 72) hx hb dX4_begin_43 (by decide) (fun c43 => ?_) (fun c43 => ?_)
            · skip
              refine lv_aload_n hx hb dX4_begin_72 rfl (lv_at hl 0 rfl) ?_
              refine hv_gets (ci := 4) (C := RX4) (T := TX4) (N := 34) hx hb hts (tw_cs in_X4) hown hK hT (rs_k0 hS) (by decide) rfl 17 (by decide) (hts _ (tw_c tw_329)) rfl (x := (ra 17)) (rs_p17 hS) dX4_begin_73 ?_
              refine lv_iload_n hx hb dX4_begin_76 rfl (lv_at hl 1 rfl) ?_
              refine hv_zald hx hb hK hT (rs_k17 hS) (cs_in8 (rf_lt8 hI0 hi)) dX4_begin_77 ?_
              refine lv_topi (fun g7 eg7 => ?_)
              refine lv_if_ne (tgt := 89) hx hb dX4_begin_78 (by decide) (fun c78 => ?_) (fun c78 => ?_)
              · skip
                refine lv_aload_n hx hb dX4_begin_89 rfl (lv_at hl 0 rfl) ?_
                refine lv_iload_n hx hb dX4_begin_90 rfl (lv_at hl 1 rfl) ?_
                refine lv_iconst (v := 1) hx hb dX4_begin_91 (by decide) ?_
                refine hv_callv (va_runV (As := [.int (nI i), .int 1]) (rest := []) ⟨hx, hb, hml, hown, hts⟩ (m_become l D tc hI hi (sv := 1) (by omega) h4) (cwV 2 hts (tw_V tw_380 tw_381 tw_511 tw_3 tw_382) rfl rfl rfl (by decide +kernel) ⟨Nat.le_of_ble_eq_true rfl, Nat.le_of_ble_eq_true rfl⟩) (hv_preV (ci := 4) hK hT.1 (rs_k0 hS) (by decide) rfl rfl) rfl rfl hl.1 rfl (lv_room (Nat.le_of_ble_eq_true rfl)) dX4_begin_92 ⟨Nat.le_of_ble_eq_true rfl, Nat.le_of_ble_eq_true rfl⟩) hT (fun v8 H locs hp9 hT => ?_)
                obtain ⟨st10, hx11, hI⟩ := hp9
                have hS := hI.1
                have hbhx11 : st10 i = 1 := hx11.1
                have h4 : st10 i < 4 := by omega
                refine lv_aload_n hx hb dX4_begin_95 rfl (lv_at hl 0 rfl) ?_
                refine hv_gets (ci := 4) (C := RX4) (T := TX4) (N := 34) hx hb hts (tw_cs in_X4) hown hK hT (rs_k0 hS) (by decide) rfl 18 (by decide) (hts _ (tw_c tw_330)) rfl (x := (ra 18)) (rs_p18 hS) dX4_begin_96 ?_
                refine lv_iload_n hx hb dX4_begin_99 rfl (lv_at hl 1 rfl) ?_
                refine lv_iconst (v := 1) hx hb dX4_begin_100 (by decide) ?_
                refine hv_iast (x := 1) hx hb hK hT (rs_k18 hS) (cs_in8 (rf_lt8 hI0 hi)) dX4_begin_101 (fun H locs hT => ?_)
                obtain ⟨dg12, hdg12, hI⟩ : ∃ dg2 : Nat → Nat, dg2 i = 1 ∧ rf_J ra gh n 1 (B + 63) t nm st10 dg2 F kd (hv_sa v8 (ra 18) ((nI i) : Int32).toNatClampNeg 1) := ⟨va_up dg i 1, va_up_self .., rf_does (g := 1) hI (rf_lt8 hI0 hi) (by omega) (fun _ => h4) (fun P hP => rf_lu hP)⟩
                have hS := hI.1
                refine lv_aload_n hx hb dX4_begin_102 rfl (lv_at hl 0 rfl) ?_
                refine lv_iload_n hx hb dX4_begin_103 rfl (lv_at hl 1 rfl) ?_
                refine lv_iconst (v := 1) hx hb dX4_begin_104 (by decide) ?_
                refine hv_callv (va_runV (As := [.int (nI i), .int 1]) (rest := []) ⟨hx, hb, hml, hown, hts⟩ (m_clearThere l D tc hI hi 1) (cwV 2 hts (tw_V tw_389 tw_390 tw_514 tw_3 tw_391) rfl rfl rfl (by decide +kernel) ⟨Nat.le_of_ble_eq_true rfl, Nat.le_of_ble_eq_true rfl⟩) (hv_preV (ci := 4) hK hT.1 (rs_k0 hS) (by decide) rfl rfl) rfl rfl hl.1 rfl (lv_room (Nat.le_of_ble_eq_true rfl)) dX4_begin_105 ⟨Nat.le_of_ble_eq_true rfl, Nat.le_of_ble_eq_true rfl⟩) hT (fun v13 H locs hp14 hT => ?_)
                have hI := hp14
                have hS := hI.1
                refine lv_aload_n hx hb dX4_begin_108 rfl (lv_at hl 0 rfl) ?_
                refine lv_iconst (v := 1) hx hb dX4_begin_109 (by decide) ?_
                refine lv_iload_n hx hb dX4_begin_110 rfl (lv_at hl 1 rfl) ?_
                refine lv_iconst (v := 0) hx hb dX4_begin_111 (by decide) ?_
                refine hv_callv (va_runV (As := [.int 1, .int (nI i), .int 0]) (rest := []) ⟨hx, hb, hml, hown, hts⟩ (m_sendAll l D tc hI hi (by omega) (κ := 1) (by omega) 0) (cwV 3 hts (tw_V tw_383 tw_384 tw_512 tw_3 tw_385) rfl rfl rfl (by decide +kernel) ⟨Nat.le_of_ble_eq_true rfl, Nat.le_of_ble_eq_true rfl⟩) (hv_preV (ci := 4) hK hT.1 (rs_k0 hS) (by decide) rfl rfl) rfl rfl hl.1 rfl (lv_room (Nat.le_of_ble_eq_true rfl)) dX4_begin_112 ⟨Nat.le_of_ble_eq_true rfl, Nat.le_of_ble_eq_true rfl⟩) hT (fun v15 H locs hp16 hT => ?_)
                obtain ⟨nm17, kd18, hI⟩ := hp16
                have hS := hI.1
                have hI := rf_up (B' := ((B + 63) + 63)) (by show (B + 63) + 7 * 9 ≤ ((B + 63) + 63); omega) hI
                refine lv_aload_n hx hb dX4_begin_115 rfl (lv_at hl 0 rfl) ?_
                refine lv_iload_n hx hb dX4_begin_116 rfl (lv_at hl 1 rfl) ?_
                refine lv_aload_n hx hb dX4_begin_117 rfl (lv_at hl 0 rfl) ?_
                refine hv_geti (ci := 4) (C := RX4) (T := TX4) (N := 34) hx hb hts (tw_cs in_X4) hown hK hT (rs_k0 hS) (by decide) rfl 5 (by decide) (hts _ (tw_c tw_317)) rfl dX4_begin_118 ?_
                refine lv_topi (fun g19 eg19 => ?_)
                obtain ⟨q20, h5q20, h100q20, hq20⟩ := rf_q hI
                have eg19 : g19 = (nI q20) := by rw [eg19]; exact hq20
                subst eg19
                refine hv_callv (va_runV (As := [.int (nI i), .int (nI q20)]) (rest := []) ⟨hx, hb, hml, hown, hts⟩ (m_setTimer l D tc hI hi (q := q20) (by omega) (by have := rf_lt8 hI0 hi; omega) h4) (cwV 2 hts (tw_V tw_392 tw_393 tw_515 tw_3 tw_394) rfl rfl rfl (by decide +kernel) ⟨Nat.le_of_ble_eq_true rfl, Nat.le_of_ble_eq_true rfl⟩) (hv_preV (ci := 4) hK hT.1 (rs_k0 hS) (by decide) rfl rfl) rfl rfl hl.1 rfl (lv_room (Nat.le_of_ble_eq_true rfl)) dX4_begin_121 ⟨Nat.le_of_ble_eq_true rfl, Nat.le_of_ble_eq_true rfl⟩) hT (fun v21 H locs hp22 hT => ?_)
                have hI := hp22
                have hS := hI.1
                refine lv_aload_n hx hb dX4_begin_124 rfl (lv_at hl 0 rfl) ?_
                refine lv_iload_n hx hb dX4_begin_125 rfl (lv_at hl 1 rfl) ?_
                refine hv_callv (va_runV (As := [.int (nI i)]) (rest := []) ⟨hx, hb, hml, hown, hts⟩ (m_checkVotes l D tc hI hi hdg12 (by omega)) (cwV 1 hts (tw_V tw_395 tw_396 tw_516 tw_3 tw_397) rfl rfl rfl (by decide +kernel) ⟨Nat.le_of_ble_eq_true rfl, Nat.le_of_ble_eq_true rfl⟩) (hv_preV (ci := 4) hK hT.1 (rs_k0 hS) (by decide) rfl rfl) rfl rfl hl.1 rfl (lv_room (Nat.le_of_ble_eq_true rfl)) dX4_begin_126 ⟨Nat.le_of_ble_eq_true rfl, Nat.le_of_ble_eq_true rfl⟩) hT (fun v23 H locs hp24 hT => ?_)
                obtain ⟨nm25, st26, dg27, kd28, hI⟩ := hp24
                have hS := hI.1
                refine lv_iconst (v := 1) hx hb dX4_begin_129 (by decide) ?_
                exact hret _ 1 v23 _ _ _ _ _ dX4_begin_130 rfl hT (Or.inl ⟨⟨⟨i, hi, rfl, hup⟩, rfl⟩, rfl, _, _, _, _, _, _, rf_up (by omega) hI⟩) (by decide) (by decide)
              · skip
                refine lv_aload_n hx hb dX4_begin_81 rfl (lv_at hl 0 rfl) ?_
                refine lv_iload_n hx hb dX4_begin_82 rfl (lv_at hl 1 rfl) ?_
                refine lv_iconst (v := 5) hx hb dX4_begin_83 (by decide) ?_
                refine hv_callv (va_runV (As := [.int (nI i), .int 5]) (rest := []) ⟨hx, hb, hml, hown, hts⟩ (m_decide l D tc hI hi (by omega) (sv := 5) (by omega) (by omega) h4) (cwV 2 hts (tw_V tw_377 tw_378 tw_510 tw_3 tw_379) rfl rfl rfl (by decide +kernel) ⟨Nat.le_of_ble_eq_true rfl, Nat.le_of_ble_eq_true rfl⟩) (hv_preV (ci := 4) hK hT.1 (rs_k0 hS) (by decide) rfl rfl) rfl rfl hl.1 rfl (lv_room (Nat.le_of_ble_eq_true rfl)) dX4_begin_84 ⟨Nat.le_of_ble_eq_true rfl, Nat.le_of_ble_eq_true rfl⟩) hT (fun v29 H locs hp30 hT => ?_)
                obtain ⟨nm31, st32, dg33, kd34, hI⟩ := hp30
                have hS := hI.1
                refine lv_iconst (v := 1) hx hb dX4_begin_87 (by decide) ?_
                exact hret _ 1 v29 _ _ _ _ _ dX4_begin_88 rfl hT (Or.inl ⟨⟨⟨i, hi, rfl, hup⟩, rfl⟩, rfl, _, _, _, _, _, _, rf_up (by omega) hI⟩) (by decide) (by decide)
            · skip
              have hltj : j < n := cs_lp hlej (rf_n8 hI0) c43
              refine lv_aload_n hx hb dX4_begin_46 rfl (lv_at hl 0 rfl) ?_
              refine hv_gets (ci := 4) (C := RX4) (T := TX4) (N := 34) hx hb hts (tw_cs in_X4) hown hK hT (rs_k0 hS) (by decide) rfl 17 (by decide) (hts _ (tw_c tw_329)) rfl (x := (ra 17)) (rs_p17 hS) dX4_begin_47 ?_
              refine lv_iload_n hx hb dX4_begin_50 rfl (lv_at hl 3 rfl) ?_
              refine lv_iload_n hx hb dX4_begin_51 rfl (lv_at hl 2 rfl) ?_
              refine lv_iload_n hx hb dX4_begin_52 rfl (lv_at hl 3 rfl) ?_
              refine lv_ishr hx hb dX4_begin_53 ?_
              refine lv_iconst (v := 1) hx hb dX4_begin_54 (by decide) ?_
              refine lv_iand hx hb dX4_begin_55 ?_
              refine lv_iconst (v := 1) hx hb dX4_begin_56 (by decide) ?_
              refine lv_icmp_ne (tgt := 64) hx hb dX4_begin_57 (by decide) (fun c57 => ?_) (fun c57 => ?_)
              · skip
                refine lv_iconst (v := 0) hx hb dX4_begin_64 (by decide) ?_
                refine hv_zast (x := 0) hx hb hK hT (rs_k17 hS) (cs_in8 (rf_lt8 hI0 hltj)) rfl dX4_begin_65 (fun H locs hT => ?_)
                have hI := rf_puta (k := 17) (j := ((nI j) : Int32).toNatClampNeg) (x := 0) rfl hI
                have hS := hI.1
                refine lv_iinc (v := (nI (j + 1))) (lv' := [(3, _), (0, _), (1, _), (2, _)]) hx hb dX4_begin_66 hl (k := 3) rfl (nI_1 _) (by decide) rfl (fun ls hl => ?_)
                refine lv_goto (tgt := 38) hx hb dX4_begin_69 (by decide) ?_
                exact ih38 (j + 1) (hv_sa vL (ra 17) ((nI j) : Int32).toNatClampNeg 0) H locs ls (by omega) (by omega) hI hT (lv_sub hl [1, 2, 3, 0] rfl)
              · skip
                refine lv_iconst (v := 1) hx hb dX4_begin_60 (by decide) ?_
                refine lv_goto (tgt := 65) hx hb dX4_begin_61 (by decide) ?_
                refine hv_zast (x := 1) hx hb hK hT (rs_k17 hS) (cs_in8 (rf_lt8 hI0 hltj)) rfl dX4_begin_65 (fun H locs hT => ?_)
                have hI := rf_puta (k := 17) (j := ((nI j) : Int32).toNatClampNeg) (x := 1) rfl hI
                have hS := hI.1
                refine lv_iinc (v := (nI (j + 1))) (lv' := [(3, _), (0, _), (1, _), (2, _)]) hx hb dX4_begin_66 hl (k := 3) rfl (nI_1 _) (by decide) rfl (fun ls hl => ?_)
                refine lv_goto (tgt := 38) hx hb dX4_begin_69 (by decide) ?_
                exact ih38 (j + 1) (hv_sa vL (ra 17) ((nI j) : Int32).toNatClampNeg 1) H locs ls (by omega) (by omega) hI hT (lv_sub hl [1, 2, 3, 0] rfl)
        exact hL38 (n + 1) 0 (hv_si (hv_si v 400 (ra 0) 0) 407 (ra 0) 1) H locs ls (Nat.zero_le _) (by omega) hI hT (lv_sub hl [1, 2, 3, 0] rfl)
      · skip
        refine lv_iconst (v := 0) hx hb dX4_begin_29 (by decide) ?_
        exact hret _ 0 (hv_si v 400 (ra 0) 0) _ _ _ _ _ dX4_begin_30 rfl hT (Or.inr ⟨fun ⟨_, h⟩ => c26 (by rw [h]; exact nI_0), rfl, _, _, _, _, _, _, rf_up (by omega) hI⟩) (by decide) (by decide)

/-- j links of the new site are made -/
def st_I (gh g1 : Nat → Nat) (n q j : Nat) : Prop := (∀ i, i < n → g1 (1000 + i) = gh (1000 + i)) ∧ g1 (1000 + n) = q ∧ (∀ i, i < 8 → g1 (2000 + i) = gh (2000 + i)) ∧ (∀ i k, i < n → k < n → g1 (3000 + (8 * i + k)) = gh (3000 + (8 * i + k))) ∧ ∀ i, i < j → g1 (3000 + (8 * i + n)) = 1 ∧ g1 (3000 + (8 * n + i)) = 1
theorem st_put {gh g1 : Nat → Nat} {n q j : Nat} (hn : n < 8) (hj : j < n) (h : st_I gh g1 n q j) : st_I gh (va_up (va_up g1 (3000 + (8 * j + n)) 1) (3000 + (8 * n + j)) 1) n q (j + 1) := by
  obtain ⟨h1, h2, h3, h4, h5⟩ := h
  refine ⟨fun i hi => ?_, ?_, fun i hi => ?_, fun i k hi hk => ?_, fun i hi => ?_⟩
  · rw [va_up_ne _ _ (by omega), va_up_ne _ _ (by omega)]; exact h1 i hi
  · rw [va_up_ne _ _ (by omega), va_up_ne _ _ (by omega)]; exact h2
  · rw [va_up_ne _ _ (by omega), va_up_ne _ _ (by omega)]; exact h3 i hi
  · rw [va_up_ne _ _ (by omega), va_up_ne _ _ (by omega)]; exact h4 i k hi hk
  · by_cases e : i = j
    · subst e
      rw [va_up_self]
      refine ⟨?_, rfl⟩
      rw [va_up_ne _ _ (by omega), va_up_self]
    · rw [va_up_ne _ _ (by omega), va_up_ne _ _ (by omega), va_up_ne _ _ (by omega), va_up_ne _ _ (by omega)]
      exact h5 i (by omega)

set_option maxHeartbeats 4000000 in
set_option maxRecDepth 100000 in
theorem m_site (l : Launch) (D : va_G) (tc : Nat → ClassId) {ra gh : Nat → Nat} {n b B t nm : Nat} {st dg F kd : Nat → Nat} {v : hv_V} (hI : rf_J ra gh n b B t nm st dg F kd v) (x : Int32) : Met l yX4_site (Cond.code yX4_site cX4_site 3 (some .int) :: lw_B) ({ frames := 1, cells := 0, slots := 0, locals := 22 }) (va_Pc [.ref (ra 0), .int x] (hv_Pre D tc v)) (va_Qi (fun (r : Int32) (v1 : hv_V) => (ok_S n b x ∧ r = nI n ∧ ∃ (q : Nat) (g1 : Nat → Nat), x = nI q ∧ st_I gh g1 n q n ∧ ∃ t1 nm1 st1 dg1 F1 kd1, rf_J ra g1 (n + 1) b B t1 nm1 st1 dg1 F1 kd1 v1) ∨ ¬ ok_S n b x ∧ r = -1 ∧ ∃ t1 nm1 st1 dg1 F1 kd1, rf_J ra gh n b B t1 nm1 st1 dg1 F1 kd1 v1) (hv_Post D tc (hv_A v)) (hv_A v)) (0) (0) (hv_A v) := by
  refine hv_meti l (by decide) (Nat.le_of_ble_eq_true rfl) ?_
  intro p e s m args below meth c Q X hret hK hz H locs ls hT hl
  obtain ⟨hx, hb, hml, hts, hown, hin0⟩ := X
  have hown : s.vm.findClass "CommitSitesModel" = some m.cls := hown
  have hl : lv_has ls 3 [(0, .ref (ra 0)), (1, .int x)] := hl
  have hS := hI.1
  have hI0 := hI
  refine lv_aload_n hx hb dX4_site_0 rfl (lv_at hl 0 rfl) ?_
  refine lv_iconst (v := 0) hx hb dX4_site_1 (by decide) ?_
  refine hv_puti (ci := 4) (C := RX4) (T := TX4) (N := 34) hx hb hts (tw_cs in_X4) tyX4 tyX4_ok nmX4 hown hK hT (rs_k0 hS) (by decide) rfl 0 (by decide) (hts _ (tw_c tw_312)) rfl rfl (x := 0) rfl rfl dX4_site_2 (fun H locs hT => ?_)
  have hI := rf_puti (f := 400) (x := 0) rfl hI
  have hS := hI.1
  refine lv_iload_n hx hb dX4_site_5 rfl (lv_at hl 1 rfl) ?_
  refine lv_iconst (v := 1) hx hb dX4_site_6 (by decide) ?_
  refine lv_icmp_lt (tgt := 32) hx hb dX4_site_7 (by decide) (fun c7 => ?_) (fun c7 => ?_)
  · skip
    refine lv_iconst (v := (-1)) hx hb dX4_site_32 (by decide) ?_
    exact hret _ (-1) (hv_si v 400 (ra 0) 0) _ _ _ _ _ dX4_site_33 rfl hT (Or.inr ⟨fun h => h.1 c7, rfl, _, _, _, _, _, _, hI⟩) (by decide) (by decide)
  · skip
    have hx0 : ¬ x < 0 := fun z => c7 (Int32.lt_trans z (by decide))
    refine lv_iload_n hx hb dX4_site_10 rfl (lv_at hl 1 rfl) ?_
    refine lv_bipush (v := 9) hx hb dX4_site_11 (by decide) ?_
    refine lv_icmp_gt (tgt := 32) hx hb dX4_site_13 (by decide) (fun c13 => ?_) (fun c13 => ?_)
    · skip
      refine lv_iconst (v := (-1)) hx hb dX4_site_32 (by decide) ?_
      exact hret _ (-1) (hv_si v 400 (ra 0) 0) _ _ _ _ _ dX4_site_33 rfl hT (Or.inr ⟨fun h => h.2.1 c13, rfl, _, _, _, _, _, _, hI⟩) (by decide) (by decide)
    · skip
      refine lv_aload_n hx hb dX4_site_16 rfl (lv_at hl 0 rfl) ?_
      refine hv_geti (ci := 4) (C := RX4) (T := TX4) (N := 34) hx hb hts (tw_cs in_X4) hown hK hT (rs_k0 hS) (by decide) rfl 7 (by decide) (hts _ (tw_c tw_319)) rfl dX4_site_17 ?_
      refine lv_topi (fun g1 eg1 => ?_)
      have eg1 : g1 = (nI b) := eg1.trans (rf_hb hI)
      subst eg1
      refine lv_if_ne (tgt := 32) hx hb dX4_site_20 (by decide) (fun c20 => ?_) (fun c20 => ?_)
      · skip
        refine lv_iconst (v := (-1)) hx hb dX4_site_32 (by decide) ?_
        exact hret _ (-1) (hv_si v 400 (ra 0) 0) _ _ _ _ _ dX4_site_33 rfl hT (Or.inr ⟨fun h => c20 (by rw [h.2.2.1]; exact nI_0), rfl, _, _, _, _, _, _, hI⟩) (by decide) (by decide)
      · skip
        have hb0 : b = 0 := by have := rf_b1 hI; exact nI_lit (k := 0) c20
        subst hb0
        refine lv_aload_n hx hb dX4_site_23 rfl (lv_at hl 0 rfl) ?_
        refine hv_geti (ci := 4) (C := RX4) (T := TX4) (N := 34) hx hb hts (tw_cs in_X4) hown hK hT (rs_k0 hS) (by decide) rfl 1 (by decide) (hts _ (tw_c tw_313)) rfl dX4_site_24 ?_
        refine lv_topi (fun g2 eg2 => ?_)
        have eg2 : g2 = (nI n) := by rw [eg2]; exact rf_hn hI
        subst eg2
        refine lv_bipush (v := 8) hx hb dX4_site_27 (by decide) ?_
        refine lv_icmp_ne (tgt := 34) hx hb dX4_site_29 (by decide) (fun c29 => ?_) (fun c29 => ?_)
        · skip
          have hn7 : n < 8 := by have := rf_n8 hI; have := nI_nlit (k := 8) c29; omega
          have hokS : ok_S n 0 x := ⟨c7, c13, rfl, hn7⟩
          obtain ⟨q, hq5, hxq⟩ := nI_of2 (M := 9) (n := 9) rfl hx0 (Int32.not_lt.mp c13)
          have hq1 : 1 ≤ q := Nat.le_of_not_lt (fun z => c7 (by rw [hxq]; exact (nI_ltI (b := 1) (by omega) (by omega)).mpr z))
          refine lv_aload_n hx hb dX4_site_34 rfl (lv_at hl 0 rfl) ?_
          refine hv_gets (ci := 4) (C := RX4) (T := TX4) (N := 34) hx hb hts (tw_cs in_X4) hown hK hT (rs_k0 hS) (by decide) rfl 2 (by decide) (hts _ (tw_c tw_314)) rfl (x := (ra 2)) (rs_p2 hS) dX4_site_35 ?_
          refine lv_aload_n hx hb dX4_site_38 rfl (lv_at hl 0 rfl) ?_
          refine hv_geti (ci := 4) (C := RX4) (T := TX4) (N := 34) hx hb hts (tw_cs in_X4) hown hK hT (rs_k0 hS) (by decide) rfl 1 (by decide) (hts _ (tw_c tw_313)) rfl dX4_site_39 ?_
          refine lv_topi (fun g3 eg3 => ?_)
          have eg3 : g3 = (nI n) := by rw [eg3]; exact rf_hn hI
          subst eg3
          refine lv_iload_n hx hb dX4_site_42 rfl (lv_at hl 1 rfl) ?_
          refine hv_iast (x := x) hx hb hK hT (rs_k2 hS) (cs_in8 hn7) dX4_site_43 (fun H locs hT => ?_)
          have hI := rf_putw (q := q) (i := n) (x := x) hxq hn7 hq5 hI
          have hS := hI.1
          refine lv_aload_n hx hb dX4_site_44 rfl (lv_at hl 0 rfl) ?_
          refine hv_gets (ci := 4) (C := RX4) (T := TX4) (N := 34) hx hb hts (tw_cs in_X4) hown hK hT (rs_k0 hS) (by decide) rfl 21 (by decide) (hts _ (tw_c tw_333)) rfl (x := (ra 21)) (rs_p21 hS) dX4_site_45 ?_
          refine lv_aload_n hx hb dX4_site_48 rfl (lv_at hl 0 rfl) ?_
          refine hv_geti (ci := 4) (C := RX4) (T := TX4) (N := 34) hx hb hts (tw_cs in_X4) hown hK hT (rs_k0 hS) (by decide) rfl 1 (by decide) (hts _ (tw_c tw_313)) rfl dX4_site_49 ?_
          refine lv_topi (fun g4 eg4 => ?_)
          have eg4 : g4 = (nI n) := by rw [eg4]; exact rf_hn hI
          subst eg4
          refine lv_iconst (v := (-1)) hx hb dX4_site_52 (by decide) ?_
          refine hv_iast (x := (-1)) hx hb hK hT (rs_k21 hS) (cs_in8 hn7) dX4_site_53 (fun H locs hT => ?_)
          have hI := rf_off hI hn7
          have h21 : hv_a (hv_sa (hv_sa (hv_si v 400 (ra 0) 0) (ra 2) ((nI n) : Int32).toNatClampNeg x) (ra 21) ((nI n) : Int32).toNatClampNeg (-1)) (ra 21) n = -1 := by rw [hv_sa_a, cs_cl hn7, if_pos ⟨rfl, rfl⟩]
          have hS := hI.1
          refine lv_iconst (v := 0) hx hb dX4_site_54 (by decide) ?_
          refine hv_as (x := 0) (y := (nI 0)) nI_0.symm ?_
          refine lv_istore_n (lv' := [(2, _), (0, _), (1, _)]) hx hb dX4_site_55 rfl hl (by decide) rfl (fun ls hl => ?_)
          have hL56 : ∀ (N9 : Nat) (i : Nat) (g1 : Nat → Nat) (vL : hv_V) (H : Heap) (locs : List Loc) (ls : Array Slot), i ≤ n → n < i + N9 → rf_J ra g1 n 0 B t nm st dg F kd vL → hv_a vL (ra 21) n = -1 → st_I gh g1 n q i → hv_St (hv_A v) s D tc vL H locs → lv_has ls 3 [(0, .ref (ra 0)), (2, .int (nI i))] → W p l e ({ frames := 1, cells := 0, slots := 0, locals := 22 } : Room) s m args below meth c H locs (0) (0) Q (F0 m 56 ls []) := by
            intro N9
            induction N9 with
            | zero =>
              intro i g1 vL H locs ls hlei hNi hI h21 hP hT hl
              exfalso
              omega
            | succ N9 ih56 =>
              intro i g1 vL H locs ls hlei hNi hI h21 hP hT hl
              have hS := hI.1
              refine lv_iload_n hx hb dX4_site_56 rfl (lv_at hl 1 rfl) ?_
              refine lv_aload_n hx hb dX4_site_57 rfl (lv_at hl 0 rfl) ?_
              refine hv_geti (ci := 4) (C := RX4) (T := TX4) (N := 34) hx hb hts (tw_cs in_X4) hown hK hT (rs_k0 hS) (by decide) rfl 1 (by decide) (hts _ (tw_c tw_313)) rfl dX4_site_58 ?_
              refine lv_topi (fun g5 eg5 => ?_)
              have eg5 : g5 = (nI n) := by rw [eg5]; exact rf_hn hI
              subst eg5
              refine lv_icmp_ge (tgt := 100) hx hb dX4_site_61 (by decide) (fun c61 => ?_) (fun c61 => ?_)
              · skip
                refine lv_aload_n hx hb dX4_site_100 rfl (lv_at hl 0 rfl) ?_
                refine lv_dup hx hb dX4_site_101 rfl ?_
                refine hv_geti (ci := 4) (C := RX4) (T := TX4) (N := 34) hx hb hts (tw_cs in_X4) hown hK hT (rs_k0 hS) (by decide) rfl 1 (by decide) (hts _ (tw_c tw_313)) rfl dX4_site_102 ?_
                refine lv_topi (fun g6 eg6 => ?_)
                have eg6 : g6 = (nI n) := by rw [eg6]; exact rf_hn hI
                subst eg6
                refine lv_iconst (v := 1) hx hb dX4_site_105 (by decide) ?_
                refine lv_iadd hx hb dX4_site_106 ?_
                refine hv_as (x := ((nI n) + 1)) (y := (nI (n + 1))) (nI_1 _) ?_
                refine hv_puti (ci := 4) (C := RX4) (T := TX4) (N := 34) hx hb hts (tw_cs in_X4) tyX4 tyX4_ok nmX4 hown hK hT (rs_k0 hS) (by decide) rfl 1 (by decide) (hts _ (tw_c tw_313)) rfl rfl (x := (nI (n + 1))) rfl rfl dX4_site_107 (fun H locs hT => ?_)
                have hI := rf_site hI hn7 h21
                have hS := hI.1
                refine lv_aload_n hx hb dX4_site_110 rfl (lv_at hl 0 rfl) ?_
                refine lv_aload_n hx hb dX4_site_111 rfl (lv_at hl 0 rfl) ?_
                refine hv_calli (va_runV (As := []) (rest := [.ref (ra 0)]) ⟨hx, hb, hml, hown, hts⟩ (m_all l D tc hI) (cwV 0 hts (tw_V tw_351 tw_352 tw_508 tw_3 tw_353) rfl rfl rfl (by decide +kernel) ⟨Nat.le_of_ble_eq_true rfl, Nat.le_of_ble_eq_true rfl⟩) (hv_preV (ci := 4) hK hT.1 (rs_k0 hS) (by decide) rfl rfl) rfl rfl hl.1 rfl (lv_room (Nat.le_of_ble_eq_true rfl)) dX4_site_112 ⟨Nat.le_of_ble_eq_true rfl, Nat.le_of_ble_eq_true rfl⟩) hT (fun r9 v7 H locs hp8 hT => ?_)
                obtain ⟨evhp8, qhp8⟩ := hp8
                rw [evhp8] at hT
                subst qhp8
                refine lv_iconst (v := 2) hx hb dX4_site_115 (by decide) ?_
                refine lv_idiv hx hb dX4_site_116 (by decide) ?_
                refine lv_iconst (v := 1) hx hb dX4_site_117 (by decide) ?_
                refine lv_iadd hx hb dX4_site_118 ?_
                refine hv_puti (ci := 4) (C := RX4) (T := TX4) (N := 34) hx hb hts (tw_cs in_X4) tyX4 tyX4_ok nmX4 hown hK hT (rs_k0 hS) (by decide) rfl 3 (by decide) (hts _ (tw_c tw_315)) rfl rfl (x := (((nI (gh_V g1 (n + 1))) / 2) + 1)) rfl rfl dX4_site_119 (fun H locs hT => ?_)
                have hI := rf_puti (f := 403) (x := (((nI (gh_V g1 (n + 1))) / 2) + 1)) rfl hI
                have hS := hI.1
                refine lv_aload_n hx hb dX4_site_122 rfl (lv_at hl 0 rfl) ?_
                refine lv_aload_n hx hb dX4_site_123 rfl (lv_at hl 0 rfl) ?_
                refine hv_geti (ci := 4) (C := RX4) (T := TX4) (N := 34) hx hb hts (tw_cs in_X4) hown hK hT (rs_k0 hS) (by decide) rfl 3 (by decide) (hts _ (tw_c tw_315)) rfl dX4_site_124 ?_
                refine lv_topi (fun g10 eg10 => ?_)
                refine hv_puti (ci := 4) (C := RX4) (T := TX4) (N := 34) hx hb hts (tw_cs in_X4) tyX4 tyX4_ok nmX4 hown hK hT (rs_k0 hS) (by decide) rfl 4 (by decide) (hts _ (tw_c tw_316)) rfl rfl (x := g10) rfl rfl dX4_site_127 (fun H locs hT => ?_)
                have hI := rf_puti (f := 404) (x := g10) rfl hI
                have hS := hI.1
                refine lv_aload_n hx hb dX4_site_130 rfl (lv_at hl 0 rfl) ?_
                refine hv_geti (ci := 4) (C := RX4) (T := TX4) (N := 34) hx hb hts (tw_cs in_X4) hown hK hT (rs_k0 hS) (by decide) rfl 1 (by decide) (hts _ (tw_c tw_313)) rfl dX4_site_131 ?_
                refine lv_topi (fun g11 eg11 => ?_)
                have eg11 : g11 = (nI (n + 1)) := by rw [eg11]; exact rf_hn hI
                subst eg11
                refine lv_iconst (v := 1) hx hb dX4_site_134 (by decide) ?_
                refine lv_isub hx hb dX4_site_135 ?_
                refine hv_as (x := ((nI (n + 1)) - 1)) (y := (nI n)) (nI_pred _) ?_
                exact hret _ (nI n) (hv_si (hv_si (hv_si vL 401 (ra 0) (nI (n + 1))) 403 (ra 0) (((nI (gh_V g1 (n + 1))) / 2) + 1)) 404 (ra 0) g10) _ _ _ _ _ dX4_site_136 rfl hT (Or.inl ⟨hokS, rfl, q, g1, hxq, by rw [cs_ex hlei (by omega) c61] at hP; exact hP, _, _, _, _, _, _, hI⟩) (by decide) (by decide)
              · skip
                have hlti : i < n := cs_lp hlei (rf_n8 hI0) c61
                refine lv_aload_n hx hb dX4_site_64 rfl (lv_at hl 0 rfl) ?_
                refine hv_gets (ci := 4) (C := RX4) (T := TX4) (N := 34) hx hb hts (tw_cs in_X4) hown hK hT (rs_k0 hS) (by decide) rfl 6 (by decide) (hts _ (tw_c tw_318)) rfl (x := (ra 6)) (rs_p6 hS) dX4_site_65 ?_
                refine lv_bipush (v := 8) hx hb dX4_site_68 (by decide) ?_
                refine lv_iload_n hx hb dX4_site_70 rfl (lv_at hl 1 rfl) ?_
                refine lv_imul hx hb dX4_site_71 ?_
                refine hv_as (x := (8 * (nI i))) (y := (nI (8 * i))) (nI_8 _) ?_
                refine lv_aload_n hx hb dX4_site_72 rfl (lv_at hl 0 rfl) ?_
                refine hv_geti (ci := 4) (C := RX4) (T := TX4) (N := 34) hx hb hts (tw_cs in_X4) hown hK hT (rs_k0 hS) (by decide) rfl 1 (by decide) (hts _ (tw_c tw_313)) rfl dX4_site_73 ?_
                refine lv_topi (fun g12 eg12 => ?_)
                have eg12 : g12 = (nI n) := by rw [eg12]; exact rf_hn hI
                subst eg12
                refine lv_iadd hx hb dX4_site_76 ?_
                refine hv_as (x := ((nI (8 * i)) + (nI n))) (y := (nI ((8 * i) + n))) (nI_add _ _) ?_
                refine lv_iconst (v := 1) hx hb dX4_site_77 (by decide) ?_
                refine hv_iast (x := 1) hx hb hK hT (rs_k6 hS) (rf_in64 (rf_lt8 hI0 hlti) hn7) dX4_site_78 (fun H locs hT => ?_)
                have hI := rf_putd (q := 1) (i := i) (j := n) (x := 1) rfl (by omega) (by omega) (by omega) hI
                have hS := hI.1
                have h21 : hv_a (hv_sa vL (ra 6) ((nI ((8 * i) + n)) : Int32).toNatClampNeg 1) (ra 21) n = -1 := (rs_san hI0.1 21 6 rfl).trans h21
                refine lv_aload_n hx hb dX4_site_79 rfl (lv_at hl 0 rfl) ?_
                refine hv_gets (ci := 4) (C := RX4) (T := TX4) (N := 34) hx hb hts (tw_cs in_X4) hown hK hT (rs_k0 hS) (by decide) rfl 6 (by decide) (hts _ (tw_c tw_318)) rfl (x := (ra 6)) (rs_p6 hS) dX4_site_80 ?_
                refine lv_bipush (v := 8) hx hb dX4_site_83 (by decide) ?_
                refine lv_aload_n hx hb dX4_site_85 rfl (lv_at hl 0 rfl) ?_
                refine hv_geti (ci := 4) (C := RX4) (T := TX4) (N := 34) hx hb hts (tw_cs in_X4) hown hK hT (rs_k0 hS) (by decide) rfl 1 (by decide) (hts _ (tw_c tw_313)) rfl dX4_site_86 ?_
                refine lv_topi (fun g13 eg13 => ?_)
                have eg13 : g13 = (nI n) := by rw [eg13]; exact rf_hn hI
                subst eg13
                refine lv_imul hx hb dX4_site_89 ?_
                refine hv_as (x := (8 * (nI n))) (y := (nI (8 * n))) (nI_8 _) ?_
                refine lv_iload_n hx hb dX4_site_90 rfl (lv_at hl 1 rfl) ?_
                refine lv_iadd hx hb dX4_site_91 ?_
                refine hv_as (x := ((nI (8 * n)) + (nI i))) (y := (nI ((8 * n) + i))) (nI_add _ _) ?_
                refine lv_iconst (v := 1) hx hb dX4_site_92 (by decide) ?_
                refine hv_iast (x := 1) hx hb hK hT (rs_k6 hS) (rf_in64 hn7 (rf_lt8 hI0 hlti)) dX4_site_93 (fun H locs hT => ?_)
                have hI := rf_putd (q := 1) (i := n) (j := i) (x := 1) rfl (by omega) (by omega) (by omega) hI
                have hS := hI.1
                have h21 : hv_a (hv_sa (hv_sa vL (ra 6) ((nI ((8 * i) + n)) : Int32).toNatClampNeg 1) (ra 6) ((nI ((8 * n) + i)) : Int32).toNatClampNeg 1) (ra 21) n = -1 := (rs_san hI0.1 21 6 rfl).trans h21
                refine lv_iinc (v := (nI (i + 1))) (lv' := [(2, _), (0, _)]) hx hb dX4_site_94 hl (k := 1) rfl (nI_1 _) (by decide) rfl (fun ls hl => ?_)
                refine lv_goto (tgt := 56) hx hb dX4_site_97 (by decide) ?_
                exact ih56 (i + 1) _ (hv_sa (hv_sa vL (ra 6) ((nI ((8 * i) + n)) : Int32).toNatClampNeg 1) (ra 6) ((nI ((8 * n) + i)) : Int32).toNatClampNeg 1) H locs ls (by omega) (by omega) hI h21 (st_put hn7 hlti hP) hT (lv_sub hl [1, 0] rfl)
          exact hL56 (n + 1) 0 _ (hv_sa (hv_sa (hv_si v 400 (ra 0) 0) (ra 2) ((nI n) : Int32).toNatClampNeg x) (ra 21) ((nI n) : Int32).toNatClampNeg (-1)) H locs ls (Nat.zero_le _) (by omega) hI h21 (⟨fun i hi => va_up_ne _ _ (by omega), va_up_self .., fun i hi => va_up_ne _ _ (by omega), fun i k hi hk => va_up_ne _ _ (by omega), fun i hi => by omega⟩) hT (lv_sub hl [1, 0] rfl)
        · skip
          refine lv_iconst (v := (-1)) hx hb dX4_site_32 (by decide) ?_
          exact hret _ (-1) (hv_si v 400 (ra 0) 0) _ _ _ _ _ dX4_site_33 rfl hT (Or.inr ⟨fun h => by have := rf_n8 hI0; have := nI_lit (k := 8) c29; have := h.2.2.2; omega, rfl, _, _, _, _, _, _, hI⟩) (by decide) (by decide)

set_option maxHeartbeats 4000000 in
set_option maxRecDepth 100000 in
theorem m_tellR (l : Launch) (D : va_G) (tc : Nat → ClassId) {ra gh : Nat → Nat} {n i : Nat} {v : hv_V} (hR : rf_R ra gh n i v) (x1 x2 x3 x4 x5 : Int32) : Met l yX4_tell (Cond.code yX4_tell cX4_tell 6 none :: lw_B) ({ frames := 0, cells := 0, slots := 0, locals := 0 }) (va_Pc [.ref (ra 0), .int x1, .int x2, .int x3, .int x4, .int x5] (hv_Pre D tc v)) (va_Qv (fun (v1 : hv_V) => rf_R ra gh n i v1) (hv_Post D tc (hv_A v)) (hv_A v)) (0) (0) (hv_A v) := by
  refine hv_metv l (by decide) (Nat.le_of_ble_eq_true rfl) ?_
  intro p e s m args below meth c Q X hret hK hz H locs ls hT hl
  obtain ⟨hx, hb, hml, hts, hown, hin0⟩ := X
  have hown : s.vm.findClass "CommitSitesModel" = some m.cls := hown
  have hl : lv_has ls 6 [(0, .ref (ra 0)), (1, .int x1), (2, .int x2), (3, .int x3), (4, .int x4), (5, .int x5)] := hl
  have hS := hR.1
  refine lv_aload_n hx hb dX4_tell_0 rfl (lv_at hl 0 rfl) ?_
  refine hv_gets (ci := 4) (C := RX4) (T := TX4) (N := 34) hx hb hts (tw_cs in_X4) hown hK hT (rs_k0 hS) (by decide) rfl 31 (by decide) (hts _ (tw_c tw_343)) rfl (x := (ra 31)) (rs_p31 hS) dX4_tell_1 ?_
  refine lv_iconst (v := 0) hx hb dX4_tell_4 (by decide) ?_
  refine lv_iload_n hx hb dX4_tell_5 rfl (lv_at hl 1 rfl) ?_
  refine hv_iast (x := x1) hx hb hK hT (rs_k31 hS) (by unfold vp_in; decide) dX4_tell_6 (fun H locs hT => ?_)
  refine lv_aload_n hx hb dX4_tell_7 rfl (lv_at hl 0 rfl) ?_
  refine hv_gets (ci := 4) (C := RX4) (T := TX4) (N := 34) hx hb hts (tw_cs in_X4) hown hK hT (rs_k0 hS) (by decide) rfl 31 (by decide) (hts _ (tw_c tw_343)) rfl (x := (ra 31)) (rs_p31 hS) dX4_tell_8 ?_
  refine lv_iconst (v := 1) hx hb dX4_tell_11 (by decide) ?_
  refine lv_iload_n hx hb dX4_tell_12 rfl (lv_at hl 2 rfl) ?_
  refine hv_iast (x := x2) hx hb hK hT (rs_k31 hS) (by unfold vp_in; decide) dX4_tell_13 (fun H locs hT => ?_)
  refine lv_aload_n hx hb dX4_tell_14 rfl (lv_at hl 0 rfl) ?_
  refine hv_gets (ci := 4) (C := RX4) (T := TX4) (N := 34) hx hb hts (tw_cs in_X4) hown hK hT (rs_k0 hS) (by decide) rfl 31 (by decide) (hts _ (tw_c tw_343)) rfl (x := (ra 31)) (rs_p31 hS) dX4_tell_15 ?_
  refine lv_iconst (v := 2) hx hb dX4_tell_18 (by decide) ?_
  refine lv_iload_n hx hb dX4_tell_19 rfl (lv_at hl 3 rfl) ?_
  refine hv_iast (x := x3) hx hb hK hT (rs_k31 hS) (by unfold vp_in; decide) dX4_tell_20 (fun H locs hT => ?_)
  refine lv_aload_n hx hb dX4_tell_21 rfl (lv_at hl 0 rfl) ?_
  refine hv_gets (ci := 4) (C := RX4) (T := TX4) (N := 34) hx hb hts (tw_cs in_X4) hown hK hT (rs_k0 hS) (by decide) rfl 31 (by decide) (hts _ (tw_c tw_343)) rfl (x := (ra 31)) (rs_p31 hS) dX4_tell_22 ?_
  refine lv_iconst (v := 3) hx hb dX4_tell_25 (by decide) ?_
  refine lv_iload hx hb dX4_tell_26 (lv_at hl 4 rfl) ?_
  refine hv_iast (x := x4) hx hb hK hT (rs_k31 hS) (by unfold vp_in; decide) dX4_tell_28 (fun H locs hT => ?_)
  refine lv_aload_n hx hb dX4_tell_29 rfl (lv_at hl 0 rfl) ?_
  refine hv_gets (ci := 4) (C := RX4) (T := TX4) (N := 34) hx hb hts (tw_cs in_X4) hown hK hT (rs_k0 hS) (by decide) rfl 31 (by decide) (hts _ (tw_c tw_343)) rfl (x := (ra 31)) (rs_p31 hS) dX4_tell_30 ?_
  refine lv_iconst (v := 4) hx hb dX4_tell_33 (by decide) ?_
  refine lv_iload hx hb dX4_tell_34 (lv_at hl 5 rfl) ?_
  refine hv_iast (x := x5) hx hb hK hT (rs_k31 hS) (by unfold vp_in; decide) dX4_tell_36 (fun H locs hT => ?_)
  exact hret _ (hv_sa (hv_sa (hv_sa (hv_sa (hv_sa v (ra 31) (0 : Int32).toNatClampNeg x1) (ra 31) (1 : Int32).toNatClampNeg x2) (ra 31) (2 : Int32).toNatClampNeg x3) (ra 31) (3 : Int32).toNatClampNeg x4) (ra 31) (4 : Int32).toNatClampNeg x5) _ _ _ _ _ dX4_tell_37 hT (rf_Rt hR) (by decide) (by decide)

set_option maxHeartbeats 4000000 in
set_option maxRecDepth 100000 in
theorem m_reset (l : Launch) (D : va_G) (tc : Nat → ClassId) {ra gh : Nat → Nat} {n b B t nm : Nat} {st dg F kd : Nat → Nat} {v : hv_V} (hI : rf_J ra gh n b B t nm st dg F kd v) : Met l yX4_reset (Cond.code yX4_reset cX4_reset 2 (some .int) :: lw_B) ({ frames := 1, cells := 0, slots := 0, locals := 25 }) (va_Pc [.ref (ra 0)] (hv_Pre D tc v)) (va_Qi (fun (r : Int32) (v1 : hv_V) => r = 1 ∧ ∃ t1 nm1 st1 dg1 F1 kd1, rf_J ra (gh_r gh) n 0 410048 t1 nm1 st1 dg1 F1 kd1 v1) (hv_Post D tc (hv_A v)) (hv_A v)) (0) (0) (hv_A v) := by
  refine hv_meti l (by decide) (Nat.le_of_ble_eq_true rfl) ?_
  intro p e s m args below meth c Q X hret hK hz H locs ls hT hl
  obtain ⟨hx, hb, hml, hts, hown, hin0⟩ := X
  have hown : s.vm.findClass "CommitSitesModel" = some m.cls := hown
  have hl : lv_has ls 2 [(0, .ref (ra 0))] := hl
  have hS := hI.1
  have hI0 := hI
  refine lv_aload_n hx hb dX4_reset_0 rfl (lv_at hl 0 rfl) ?_
  refine lv_iconst (v := 0) hx hb dX4_reset_1 (by decide) ?_
  refine hv_puti (ci := 4) (C := RX4) (T := TX4) (N := 34) hx hb hts (tw_cs in_X4) tyX4 tyX4_ok nmX4 hown hK hT (rs_k0 hS) (by decide) rfl 0 (by decide) (hts _ (tw_c tw_312)) rfl rfl (x := 0) rfl rfl dX4_reset_2 (fun H locs hT => ?_)
  have hI := rf_puti (f := 400) (x := 0) rfl hI
  have hS := hI.1
  refine lv_aload_n hx hb dX4_reset_5 rfl (lv_at hl 0 rfl) ?_
  refine lv_iconst (v := 0) hx hb dX4_reset_6 (by decide) ?_
  refine hv_puti (ci := 4) (C := RX4) (T := TX4) (N := 34) hx hb hts (tw_cs in_X4) tyX4 tyX4_ok nmX4 hown hK hT (rs_k0 hS) (by decide) rfl 7 (by decide) (hts _ (tw_c tw_319)) rfl rfl (x := 0) rfl rfl dX4_reset_7 (fun H locs hT => ?_)
  refine lv_aload_n hx hb dX4_reset_10 rfl (lv_at hl 0 rfl) ?_
  refine lv_iconst (v := 0) hx hb dX4_reset_11 (by decide) ?_
  refine hv_puti (ci := 4) (C := RX4) (T := TX4) (N := 34) hx hb hts (tw_cs in_X4) tyX4 tyX4_ok nmX4 hown hK hT (rs_k0 hS) (by decide) rfl 8 (by decide) (hts _ (tw_c tw_320)) rfl rfl (x := 0) rfl rfl dX4_reset_12 (fun H locs hT => ?_)
  refine lv_aload_n hx hb dX4_reset_15 rfl (lv_at hl 0 rfl) ?_
  refine lv_iconst (v := 0) hx hb dX4_reset_16 (by decide) ?_
  refine hv_puti (ci := 4) (C := RX4) (T := TX4) (N := 34) hx hb hts (tw_cs in_X4) tyX4 tyX4_ok nmX4 hown hK hT (rs_k0 hS) (by decide) rfl 9 (by decide) (hts _ (tw_c tw_321)) rfl rfl (x := 0) rfl rfl dX4_reset_17 (fun H locs hT => ?_)
  refine lv_aload_n hx hb dX4_reset_20 rfl (lv_at hl 0 rfl) ?_
  refine lv_iconst (v := 0) hx hb dX4_reset_21 (by decide) ?_
  refine hv_puti (ci := 4) (C := RX4) (T := TX4) (N := 34) hx hb hts (tw_cs in_X4) tyX4 tyX4_ok nmX4 hown hK hT (rs_k0 hS) (by decide) rfl 10 (by decide) (hts _ (tw_c tw_322)) rfl rfl (x := 0) rfl rfl dX4_reset_22 (fun H locs hT => ?_)
  refine lv_aload_n hx hb dX4_reset_25 rfl (lv_at hl 0 rfl) ?_
  refine lv_iconst (v := 0) hx hb dX4_reset_26 (by decide) ?_
  refine hv_puti (ci := 4) (C := RX4) (T := TX4) (N := 34) hx hb hts (tw_cs in_X4) tyX4 tyX4_ok nmX4 hown hK hT (rs_k0 hS) (by decide) rfl 11 (by decide) (hts _ (tw_c tw_323)) rfl rfl (x := 0) rfl rfl dX4_reset_27 (fun H locs hT => ?_)
  refine lv_aload_n hx hb dX4_reset_30 rfl (lv_at hl 0 rfl) ?_
  refine lv_iconst (v := 0) hx hb dX4_reset_31 (by decide) ?_
  refine hv_puti (ci := 4) (C := RX4) (T := TX4) (N := 34) hx hb hts (tw_cs in_X4) tyX4 tyX4_ok nmX4 hown hK hT (rs_k0 hS) (by decide) rfl 12 (by decide) (hts _ (tw_c tw_324)) rfl rfl (x := 0) rfl rfl dX4_reset_32 (fun H locs hT => ?_)
  refine lv_aload_n hx hb dX4_reset_35 rfl (lv_at hl 0 rfl) ?_
  refine lv_iconst (v := 0) hx hb dX4_reset_36 (by decide) ?_
  refine hv_puti (ci := 4) (C := RX4) (T := TX4) (N := 34) hx hb hts (tw_cs in_X4) tyX4 tyX4_ok nmX4 hown hK hT (rs_k0 hS) (by decide) rfl 13 (by decide) (hts _ (tw_c tw_325)) rfl rfl (x := 0) rfl rfl dX4_reset_37 (fun H locs hT => ?_)
  refine lv_aload_n hx hb dX4_reset_40 rfl (lv_at hl 0 rfl) ?_
  refine lv_iconst (v := 0) hx hb dX4_reset_41 (by decide) ?_
  refine hv_puti (ci := 4) (C := RX4) (T := TX4) (N := 34) hx hb hts (tw_cs in_X4) tyX4 tyX4_ok nmX4 hown hK hT (rs_k0 hS) (by decide) rfl 30 (by decide) (hts _ (tw_c tw_342)) rfl rfl (x := 0) rfl rfl dX4_reset_42 (fun H locs hT => ?_)
  have hR : rf_R ra gh n 0 (hv_si (hv_si (hv_si (hv_si (hv_si (hv_si (hv_si (hv_si (hv_si v 400 (ra 0) 0) 407 (ra 0) 0) 408 (ra 0) 0) 409 (ra 0) 0) 410 (ra 0) 0) 411 (ra 0) 0) 412 (ra 0) 0) 413 (ra 0) 0) 430 (ra 0) 0) := ⟨hI.1, hI.2.1, by simp [hv_si_i], by simp [hv_si_i], by simp [hv_si_i], hI.2.2.2.2.1.2.2.2.1, ⟨hI.2.2.2.1.1, hI.2.2.2.1.2.2⟩, fun j hj => by omega⟩
  refine lv_aload_n hx hb dX4_reset_45 rfl (lv_at hl 0 rfl) ?_
  refine lv_iconst (v := 0) hx hb dX4_reset_46 (by decide) ?_
  refine lv_iconst (v := 0) hx hb dX4_reset_47 (by decide) ?_
  refine lv_iconst (v := 0) hx hb dX4_reset_48 (by decide) ?_
  refine lv_iconst (v := 0) hx hb dX4_reset_49 (by decide) ?_
  refine lv_iconst (v := 0) hx hb dX4_reset_50 (by decide) ?_
  refine hv_callv (va_runV (As := [.int 0, .int 0, .int 0, .int 0, .int 0]) (rest := []) ⟨hx, hb, hml, hown, hts⟩ (m_tellR l D tc (v := (hv_si (hv_si (hv_si (hv_si (hv_si (hv_si (hv_si (hv_si (hv_si v 400 (ra 0) 0) 407 (ra 0) 0) 408 (ra 0) 0) 409 (ra 0) 0) 410 (ra 0) 0) 411 (ra 0) 0) 412 (ra 0) 0) 413 (ra 0) 0) 430 (ra 0) 0)) hR 0 0 0 0 0) (cwV 5 hts (tw_V tw_431 tw_432 tw_524 tw_3 tw_433) rfl rfl rfl (by decide +kernel) ⟨Nat.le_of_ble_eq_true rfl, Nat.le_of_ble_eq_true rfl⟩) (hv_preV (ci := 4) hK hT.1 (rs_k0 hS) (by decide) rfl rfl) rfl rfl hl.1 rfl (lv_room (Nat.le_of_ble_eq_true rfl)) dX4_reset_51 ⟨Nat.le_of_ble_eq_true rfl, Nat.le_of_ble_eq_true rfl⟩) hT (fun v1 H locs hp2 hT => ?_)
  have hR := hp2
  have hS := hR.1
  refine lv_iconst (v := 0) hx hb dX4_reset_54 (by decide) ?_
  refine hv_as (x := 0) (y := (nI 0)) nI_0.symm ?_
  refine lv_istore_n (lv' := [(1, _), (0, _)]) hx hb dX4_reset_55 rfl hl (by decide) rfl (fun ls hl => ?_)
  have hL56 : ∀ (N9 : Nat) (i : Nat) (vL : hv_V) (H : Heap) (locs : List Loc) (ls : Array Slot), i ≤ 8 → 8 < i + N9 → rf_R ra gh n i vL → hv_St (hv_A v) s D tc vL H locs → lv_has ls 2 [(0, .ref (ra 0)), (1, .int (nI i))] → W p l e ({ frames := 1, cells := 0, slots := 0, locals := 25 } : Room) s m args below meth c H locs (0) (0) Q (F0 m 56 ls []) := by
    intro N9
    induction N9 with
    | zero =>
      intro i vL H locs ls hlei hNi hR hT hl
      exfalso
      omega
    | succ N9 ih56 =>
      intro i vL H locs ls hlei hNi hR hT hl
      have hS := hR.1
      refine lv_iload_n hx hb dX4_reset_56 rfl (lv_at hl 1 rfl) ?_
      refine lv_bipush (v := 8) hx hb dX4_reset_57 (by decide) ?_
      refine lv_icmp_ge (tgt := 117) hx hb dX4_reset_59 (by decide) (fun c59 => ?_) (fun c59 => ?_)
      · skip
        refine lv_iconst (v := 1) hx hb dX4_reset_117 (by decide) ?_
        exact hret _ 1 vL _ _ _ _ _ dX4_reset_118 rfl hT ⟨rfl, _, _, _, _, _, _, rf_R8 (by rw [← cs_ge8 hlei c59]; exact hR)⟩ (by decide) (by decide)
      · skip
        have hi8 : i < 8 := cs_lp8 hlei c59
        refine lv_aload_n hx hb dX4_reset_62 rfl (lv_at hl 0 rfl) ?_
        refine hv_gets (ci := 4) (C := RX4) (T := TX4) (N := 34) hx hb hts (tw_cs in_X4) hown hK hT (rs_k0 hS) (by decide) rfl 14 (by decide) (hts _ (tw_c tw_326)) rfl (x := (ra 14)) (rs_p14 hS) dX4_reset_63 ?_
        refine lv_iload_n hx hb dX4_reset_66 rfl (lv_at hl 1 rfl) ?_
        refine lv_iconst (v := 0) hx hb dX4_reset_67 (by decide) ?_
        refine hv_iast (x := 0) hx hb hK hT (rs_k14 hS) (cs_in8 hi8) dX4_reset_68 (fun H locs hT => ?_)
        refine lv_aload_n hx hb dX4_reset_69 rfl (lv_at hl 0 rfl) ?_
        refine hv_gets (ci := 4) (C := RX4) (T := TX4) (N := 34) hx hb hts (tw_cs in_X4) hown hK hT (rs_k0 hS) (by decide) rfl 15 (by decide) (hts _ (tw_c tw_327)) rfl (x := (ra 15)) (rs_p15 hS) dX4_reset_70 ?_
        refine lv_iload_n hx hb dX4_reset_73 rfl (lv_at hl 1 rfl) ?_
        refine lv_iconst (v := 0) hx hb dX4_reset_74 (by decide) ?_
        refine hv_iast (x := 0) hx hb hK hT (rs_k15 hS) (cs_in8 hi8) dX4_reset_75 (fun H locs hT => ?_)
        refine lv_aload_n hx hb dX4_reset_76 rfl (lv_at hl 0 rfl) ?_
        refine hv_gets (ci := 4) (C := RX4) (T := TX4) (N := 34) hx hb hts (tw_cs in_X4) hown hK hT (rs_k0 hS) (by decide) rfl 16 (by decide) (hts _ (tw_c tw_328)) rfl (x := (ra 16)) (rs_p16 hS) dX4_reset_77 ?_
        refine lv_iload_n hx hb dX4_reset_80 rfl (lv_at hl 1 rfl) ?_
        refine lv_iconst (v := 0) hx hb dX4_reset_81 (by decide) ?_
        refine hv_zast (x := 0) hx hb hK hT (rs_k16 hS) (cs_in8 hi8) rfl dX4_reset_82 (fun H locs hT => ?_)
        refine lv_aload_n hx hb dX4_reset_83 rfl (lv_at hl 0 rfl) ?_
        refine hv_gets (ci := 4) (C := RX4) (T := TX4) (N := 34) hx hb hts (tw_cs in_X4) hown hK hT (rs_k0 hS) (by decide) rfl 17 (by decide) (hts _ (tw_c tw_329)) rfl (x := (ra 17)) (rs_p17 hS) dX4_reset_84 ?_
        refine lv_iload_n hx hb dX4_reset_87 rfl (lv_at hl 1 rfl) ?_
        refine lv_iconst (v := 0) hx hb dX4_reset_88 (by decide) ?_
        refine hv_zast (x := 0) hx hb hK hT (rs_k17 hS) (cs_in8 hi8) rfl dX4_reset_89 (fun H locs hT => ?_)
        refine lv_aload_n hx hb dX4_reset_90 rfl (lv_at hl 0 rfl) ?_
        refine hv_gets (ci := 4) (C := RX4) (T := TX4) (N := 34) hx hb hts (tw_cs in_X4) hown hK hT (rs_k0 hS) (by decide) rfl 18 (by decide) (hts _ (tw_c tw_330)) rfl (x := (ra 18)) (rs_p18 hS) dX4_reset_91 ?_
        refine lv_iload_n hx hb dX4_reset_94 rfl (lv_at hl 1 rfl) ?_
        refine lv_iconst (v := 0) hx hb dX4_reset_95 (by decide) ?_
        refine hv_iast (x := 0) hx hb hK hT (rs_k18 hS) (cs_in8 hi8) dX4_reset_96 (fun H locs hT => ?_)
        refine lv_aload_n hx hb dX4_reset_97 rfl (lv_at hl 0 rfl) ?_
        refine hv_gets (ci := 4) (C := RX4) (T := TX4) (N := 34) hx hb hts (tw_cs in_X4) hown hK hT (rs_k0 hS) (by decide) rfl 19 (by decide) (hts _ (tw_c tw_331)) rfl (x := (ra 19)) (rs_p19 hS) dX4_reset_98 ?_
        refine lv_iload_n hx hb dX4_reset_101 rfl (lv_at hl 1 rfl) ?_
        refine lv_iconst (v := 0) hx hb dX4_reset_102 (by decide) ?_
        refine hv_iast (x := 0) hx hb hK hT (rs_k19 hS) (cs_in8 hi8) dX4_reset_103 (fun H locs hT => ?_)
        refine lv_aload_n hx hb dX4_reset_104 rfl (lv_at hl 0 rfl) ?_
        refine hv_gets (ci := 4) (C := RX4) (T := TX4) (N := 34) hx hb hts (tw_cs in_X4) hown hK hT (rs_k0 hS) (by decide) rfl 21 (by decide) (hts _ (tw_c tw_333)) rfl (x := (ra 21)) (rs_p21 hS) dX4_reset_105 ?_
        refine lv_iload_n hx hb dX4_reset_108 rfl (lv_at hl 1 rfl) ?_
        refine lv_iconst (v := (-1)) hx hb dX4_reset_109 (by decide) ?_
        refine hv_iast (x := (-1)) hx hb hK hT (rs_k21 hS) (cs_in8 hi8) dX4_reset_110 (fun H locs hT => ?_)
        refine lv_iinc (v := (nI (i + 1))) (lv' := [(1, _), (0, _)]) hx hb dX4_reset_111 hl (k := 1) rfl (nI_1 _) (by decide) rfl (fun ls hl => ?_)
        refine lv_goto (tgt := 56) hx hb dX4_reset_114 (by decide) ?_
        exact ih56 (i + 1) (hv_sa (hv_sa (hv_sa (hv_sa (hv_sa (hv_sa (hv_sa vL (ra 14) ((nI i) : Int32).toNatClampNeg 0) (ra 15) ((nI i) : Int32).toNatClampNeg 0) (ra 16) ((nI i) : Int32).toNatClampNeg 0) (ra 17) ((nI i) : Int32).toNatClampNeg 0) (ra 18) ((nI i) : Int32).toNatClampNeg 0) (ra 19) ((nI i) : Int32).toNatClampNeg 0) (ra 21) ((nI i) : Int32).toNatClampNeg (-1)) H locs ls (by omega) (by omega) (rf_Rs hi8 hR) hT (lv_sub hl [1, 0] rfl)
  exact hL56 9 0 v1 H locs ls (by omega) (by omega) hR hT (lv_sub hl [1, 0] rfl)
