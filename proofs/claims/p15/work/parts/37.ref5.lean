def cr_ix (k : Nat) : Nat := if k = 2 then 0 else if k = 6 then 1 else if k = 31 then 18 else k - 12
theorem rs_dom {k : Nat} (h : rs_len k ≠ 0) : k = 2 ∨ k = 6 ∨ (14 ≤ k ∧ k < 30) ∨ k = 31 := by
  unfold rs_len at h
  by_cases h1 : k = 6 ∨ k = 20
  · omega
  · rw [if_neg h1] at h
    by_cases h2 : 23 ≤ k ∧ k < 30
    · omega
    · rw [if_neg h2] at h
      by_cases h3 : k = 31
      · omega
      · rw [if_neg h3] at h
        by_cases h4 : k = 2 ∨ (14 ≤ k ∧ k < 23)
        · omega
        · rw [if_neg h4] at h; exact absurd rfl h
theorem cr_le {k : Nat} (h : rs_len k ≠ 0) : cr_ix k < 19 := by
  have := rs_dom h
  unfold cr_ix
  split <;> (try split) <;> (try split) <;> omega
theorem cr_inj {i k : Nat} (hi : rs_len i ≠ 0) (hk : rs_len k ≠ 0) (h : cr_ix i = cr_ix k) : i = k := by
  have h1 := rs_dom hi
  have h2 := rs_dom hk
  have key : ∀ i, i < 32 → ∀ k, k < 32 → rs_len i ≠ 0 → rs_len k ≠ 0 → cr_ix i = cr_ix k → i = k := by decide +kernel
  exact key i (by omega) k (by omega) hi hk h
def cr_I (x : Nat) (v0 : hv_V) (c τ : Nat) (p : Int32) (V : hv_V) : Prop := (hv_n V = hv_n v0 + c ∧ hv_t V = hv_t v0 + τ) ∧ x < hv_n v0 ∧ hv_k V x = (5, 0) ∧ (∀ f, f ≠ 405 → hv_i V f x = 0) ∧ hv_i V 405 x = p ∧ ∀ k, rs_len k ≠ 0 → cr_ix k < c → hv_p V (400 + k) x = some (hv_n v0 + cr_ix k) ∧ hv_k V (hv_n v0 + cr_ix k) = (rs_ty k, rs_len k) ∧ ∀ e, hv_a V (hv_n v0 + cr_ix k) e = 0
theorem cr_kx {x c τ : Nat} {p : Int32} {v0 V : hv_V} {kd : Nat × Nat} {w : Nat} (h : cr_I x v0 c τ p V) : hv_k (hv_nw V kd w) x = (5, 0) := by
  obtain ⟨⟨h1, -⟩, h2, h3, -⟩ := h
  rw [hv_nw_k, if_neg (by omega)]; exact h3
theorem cr_step {x c τ : Nat} {p : Int32} {v0 V : hv_V} (k0 : Nat) {ty len : Nat} (h : cr_I x v0 c τ p V) (hk : cr_ix k0 = c) (hl : rs_len k0 ≠ 0) (ht : rs_ty k0 = ty) (hn : rs_len k0 = len) : cr_I x v0 (c + 1) (τ + len) p (hv_sp (hv_nw V (ty, len) len) (400 + k0) x (some (hv_n V))) := by
  obtain ⟨⟨h1, h1t⟩, h2, h3, h4, h5, h6⟩ := h
  have hx : ¬ x = hv_n V := by omega
  refine ⟨⟨by rw [hv_sp_n, hv_nw_n]; omega, by rw [hv_sp_t, hv_nw_t]; omega⟩, h2, by rw [hv_sp_k, hv_nw_k, if_neg hx]; exact h3, fun f hf => by rw [hv_sp_i, hv_nw_i, if_neg hx]; exact h4 f hf, by rw [hv_sp_i, hv_nw_i, if_neg hx]; exact h5, fun k hk1 hk2 => ?_⟩
  rw [hv_sp_p, hv_sp_k, hv_nw_k, hv_nw_p, if_neg hx]
  by_cases e : k = k0
  · subst e
    rw [if_pos ⟨rfl, rfl⟩, hk, ← h1, if_pos rfl, ht, hn]
    exact ⟨rfl, rfl, fun e => by rw [hv_sp_a, hv_nw_a, if_pos rfl]⟩
  · have hne : cr_ix k ≠ c := fun q => e (cr_inj hk1 hl (by omega))
    obtain ⟨a1, a2, a3⟩ := h6 k hk1 (by omega)
    rw [if_neg (fun q => e (by omega)), if_neg (by omega)]
    exact ⟨a1, a2, fun e => by rw [hv_sp_a, hv_nw_a, if_neg (by omega)]; exact a3 e⟩
theorem cr_pat {x c τ : Nat} {p p1 : Int32} {v0 V : hv_V} (h : cr_I x v0 c τ p V) : cr_I x v0 c τ p1 (hv_si V 405 x p1) := by
  obtain ⟨h1, h2, h3, h4, h5, h6⟩ := h
  exact ⟨h1, h2, h3, fun f hf => by rw [hv_si_i, if_neg (fun q => hf q.1)]; exact h4 f hf, by rw [hv_si_i, if_pos ⟨rfl, rfl⟩], h6⟩
def cr_ra (x n0 N T : Nat) (k : Nat) : Nat := if k = 0 then x else if k = 100 then N else if k = 101 then T else n0 + cr_ix k
theorem cr_J {x τ : Nat} {v0 V : hv_V} (h : cr_I x v0 19 τ 10 V) : rf_J (cr_ra x (hv_n v0) (hv_n V) (hv_t V)) (fun _ => 0) 0 0 410048 0 0 (fun _ => 0) (fun _ => 0) (fun _ => 0) (fun _ => 0) V := by
  obtain ⟨⟨h1, -⟩, h2, h3, h4, h5, h6⟩ := h
  have e0 : cr_ra x (hv_n v0) (hv_n V) (hv_t V) 0 = x := rfl
  have ek : ∀ k, rs_len k ≠ 0 → cr_ra x (hv_n v0) (hv_n V) (hv_t V) k = hv_n v0 + cr_ix k := fun k hk => by
    have := rs_dom hk
    unfold cr_ra; rw [if_neg (by omega), if_neg (by omega), if_neg (by omega)]
  have ha : ∀ k e, rs_len k ≠ 0 → hv_a V (cr_ra x (hv_n v0) (hv_n V) (hv_t V) k) e = 0 := fun k e hk => by rw [ek k hk]; exact (h6 k hk (cr_le hk)).2.2 e
  refine ⟨⟨⟨h3, rfl, rfl⟩, fun k hk => ?_, fun i k hi hk he => ?_⟩, ⟨h4 401 (by decide), by omega⟩, ⟨h4 407 (by decide), by omega⟩, ⟨fun i hi => ⟨Nat.zero_le _, ha 2 i (by decide)⟩, fun i hi => ⟨Nat.zero_le _, ha 16 i (by decide)⟩, fun e he => ⟨Nat.zero_le _, ha 6 e (by decide)⟩⟩, ⟨by omega, h4 408 (by decide), h4 430 (by decide), ⟨10, by omega, by omega, h5⟩, fun i hi => ⟨ha 14 i (by decide), Nat.zero_le _, ha 18 i (by decide), Nat.zero_le _, fun q => absurd rfl q, Nat.le_refl _⟩, fun i hi => by omega, fun k hk => by omega, by decide⟩, fun _ => ⟨rfl, fun _ _ => rfl, fun i hi => by omega⟩⟩
  · rw [ek k hk, e0]
    exact ⟨(h6 k hk (cr_le hk)).1, (h6 k hk (cr_le hk)).2.1⟩
  · rw [ek i hi, ek k hk] at he
    exact cr_inj hi hk (by omega)

set_option maxHeartbeats 4000000 in
set_option maxRecDepth 100000 in
theorem m_init (l : Launch) (D : va_G) (tc : Nat → ClassId) {v : hv_V} {x : Nat} (kx0 : hv_k v x = (5, 0)) (h0 : ∀ f, hv_i v f x = 0) : Met l yX4_init (Cond.code yX4_init cX4_init 1 none :: lw_B) ({ frames := 1, cells := 19, slots := 420205, locals := 20 }) (va_Pc [.ref x] (hv_Pre D tc v)) (va_Qv (fun (v1 : hv_V) => ∃ ra : Nat → Nat, ra 0 = x ∧ hv_n v1 = hv_n v + 19 ∧ hv_t v1 = hv_t v + 420205 ∧ rf_J ra (fun _ => 0) 0 0 410048 0 0 (fun _ => 0) (fun _ => 0) (fun _ => 0) (fun _ => 0) v1) (hv_Post D tc (hv_A v)) (hv_A v)) (19) (420205) (hv_A v) := by
  refine hv_metv l (by decide) (Nat.le_of_ble_eq_true rfl) ?_
  intro p e s m args below meth c Q X hret hK hz H locs ls hT hl
  obtain ⟨hx, hb, hml, hts, hown, hin0⟩ := X
  have hown : s.vm.findClass "CommitSitesModel" = some m.cls := hown
  have hl : lv_has ls 1 [(0, .ref x)] := hl
  have hxl : x < hv_n v := hT.1.2.1 x (by rw [kx0]; decide)
  have hC : cr_I x v 0 0 0 v := ⟨⟨rfl, rfl⟩, hxl, kx0, fun f _ => h0 f, h0 _, fun k _ hk => by omega⟩
  refine lv_aload_n hx hb dX4_init_0 rfl (lv_at hl 0 rfl) ?_
  refine W.objInit hx hb hown (hts _ (tw_c tw_310)) (hts _ (tw_c tw_12)) (hts _ (tw_c tw_13)) rfl (by rw [hml]; exact hl.1) rfl dX4_init_1 (Nat.le_of_ble_eq_true rfl) (Nat.le_of_ble_eq_true rfl) ?_
  refine W.eq (g2 := F0 m 4 ls []) rfl ?_
  refine lv_aload_n hx hb dX4_init_4 rfl (lv_at hl 0 rfl) ?_
  refine lv_bipush (v := 8) hx hb dX4_init_5 (by decide) ?_
  refine hv_newa (atype := .int) (t := 0) (N := 8) hx hb (by decide) (ty := .int) rfl rfl (Or.inl rfl) (hts _ (tw_c tw_40)) hK hT (by decide) (by decide) (by decide) (by show 0 + 1 ≤ 19; omega) (by show 0 + 8 ≤ 420205; omega) dX4_init_7 (fun H hT => ?_)
  refine hv_putrF (ci := 4) (C := RX4) (T := TX4) (N := 34) hx hb hts (tw_cs in_X4) tyX4 tyX4_ok nmX4 hown hK hT (cr_kx hC) (by decide) rfl 2 (by decide) (hts _ (tw_c tw_314)) rfl rfl hin0 rfl (some (hv_n v)) rfl rfl rfl dX4_init_9 (fun H locs hT => ?_)
  have hC := cr_step 2 (ty := 100 + 0) (len := 8) hC rfl (by decide) rfl rfl
  obtain ⟨V1, eV1⟩ : ∃ z, z = (hv_sp (hv_nw v (100 + 0, 8) 8) 402 x (some (hv_n v))) := ⟨_, rfl⟩
  rw [← eV1] at hT hC
  refine lv_aload_n hx hb dX4_init_12 rfl (lv_at hl 0 rfl) ?_
  refine lv_bipush (v := 10) hx hb dX4_init_13 (by decide) ?_
  refine hv_puti (ci := 4) (C := RX4) (T := TX4) (N := 34) hx hb hts (tw_cs in_X4) tyX4 tyX4_ok nmX4 hown hK hT (hC.2.2.1) (by decide) rfl 5 (by decide) (hts _ (tw_c tw_317)) rfl rfl (x := 10) rfl rfl dX4_init_15 (fun H locs hT => ?_)
  have hC := cr_pat (p1 := 10) hC
  obtain ⟨V2, eV2⟩ : ∃ z, z = (hv_si V1 405 x 10) := ⟨_, rfl⟩
  rw [← eV2] at hT hC
  refine lv_aload_n hx hb dX4_init_18 rfl (lv_at hl 0 rfl) ?_
  refine lv_bipush (v := 64) hx hb dX4_init_19 (by decide) ?_
  refine hv_newa (atype := .int) (t := 0) (N := 64) hx hb (by decide) (ty := .int) rfl rfl (Or.inl rfl) (hts _ (tw_c tw_40)) hK hT (by decide) (by decide) (by decide) (by show 0 + 1 + 1 ≤ 19; omega) (by show 0 + 8 + 64 ≤ 420205; omega) dX4_init_21 (fun H hT => ?_)
  refine hv_putrF (ci := 4) (C := RX4) (T := TX4) (N := 34) hx hb hts (tw_cs in_X4) tyX4 tyX4_ok nmX4 hown hK hT (cr_kx hC) (by decide) rfl 6 (by decide) (hts _ (tw_c tw_318)) rfl rfl hin0 rfl (some (hv_n V2)) rfl rfl rfl dX4_init_23 (fun H locs hT => ?_)
  have hC := cr_step 6 (ty := 100 + 0) (len := 64) hC rfl (by decide) rfl rfl
  obtain ⟨V3, eV3⟩ : ∃ z, z = (hv_sp (hv_nw V2 (100 + 0, 64) 64) 406 x (some (hv_n V2))) := ⟨_, rfl⟩
  rw [← eV3] at hT hC
  refine lv_aload_n hx hb dX4_init_26 rfl (lv_at hl 0 rfl) ?_
  refine lv_bipush (v := 8) hx hb dX4_init_27 (by decide) ?_
  refine hv_newa (atype := .int) (t := 0) (N := 8) hx hb (by decide) (ty := .int) rfl rfl (Or.inl rfl) (hts _ (tw_c tw_40)) hK hT (by decide) (by decide) (by decide) (by show 0 + 1 + 1 + 1 ≤ 19; omega) (by show 0 + 8 + 64 + 8 ≤ 420205; omega) dX4_init_29 (fun H hT => ?_)
  refine hv_putrF (ci := 4) (C := RX4) (T := TX4) (N := 34) hx hb hts (tw_cs in_X4) tyX4 tyX4_ok nmX4 hown hK hT (cr_kx hC) (by decide) rfl 14 (by decide) (hts _ (tw_c tw_326)) rfl rfl hin0 rfl (some (hv_n V3)) rfl rfl rfl dX4_init_31 (fun H locs hT => ?_)
  have hC := cr_step 14 (ty := 100 + 0) (len := 8) hC rfl (by decide) rfl rfl
  obtain ⟨V4, eV4⟩ : ∃ z, z = (hv_sp (hv_nw V3 (100 + 0, 8) 8) 414 x (some (hv_n V3))) := ⟨_, rfl⟩
  rw [← eV4] at hT hC
  refine lv_aload_n hx hb dX4_init_34 rfl (lv_at hl 0 rfl) ?_
  refine lv_bipush (v := 8) hx hb dX4_init_35 (by decide) ?_
  refine hv_newa (atype := .int) (t := 0) (N := 8) hx hb (by decide) (ty := .int) rfl rfl (Or.inl rfl) (hts _ (tw_c tw_40)) hK hT (by decide) (by decide) (by decide) (by show 0 + 1 + 1 + 1 + 1 ≤ 19; omega) (by show 0 + 8 + 64 + 8 + 8 ≤ 420205; omega) dX4_init_37 (fun H hT => ?_)
  refine hv_putrF (ci := 4) (C := RX4) (T := TX4) (N := 34) hx hb hts (tw_cs in_X4) tyX4 tyX4_ok nmX4 hown hK hT (cr_kx hC) (by decide) rfl 15 (by decide) (hts _ (tw_c tw_327)) rfl rfl hin0 rfl (some (hv_n V4)) rfl rfl rfl dX4_init_39 (fun H locs hT => ?_)
  have hC := cr_step 15 (ty := 100 + 0) (len := 8) hC rfl (by decide) rfl rfl
  obtain ⟨V5, eV5⟩ : ∃ z, z = (hv_sp (hv_nw V4 (100 + 0, 8) 8) 415 x (some (hv_n V4))) := ⟨_, rfl⟩
  rw [← eV5] at hT hC
  refine lv_aload_n hx hb dX4_init_42 rfl (lv_at hl 0 rfl) ?_
  refine lv_bipush (v := 8) hx hb dX4_init_43 (by decide) ?_
  refine hv_newa (atype := .boolean) (t := 1) (N := 8) hx hb (by decide) (ty := .boolean) rfl rfl (Or.inr rfl) (hts _ (tw_c tw_346)) hK hT (by decide) (by decide) (by decide) (by show 0 + 1 + 1 + 1 + 1 + 1 ≤ 19; omega) (by show 0 + 8 + 64 + 8 + 8 + 8 ≤ 420205; omega) dX4_init_45 (fun H hT => ?_)
  refine hv_putrF (ci := 4) (C := RX4) (T := TX4) (N := 34) hx hb hts (tw_cs in_X4) tyX4 tyX4_ok nmX4 hown hK hT (cr_kx hC) (by decide) rfl 16 (by decide) (hts _ (tw_c tw_328)) rfl rfl hin0 rfl (some (hv_n V5)) rfl rfl rfl dX4_init_47 (fun H locs hT => ?_)
  have hC := cr_step 16 (ty := 100 + 1) (len := 8) hC rfl (by decide) rfl rfl
  obtain ⟨V6, eV6⟩ : ∃ z, z = (hv_sp (hv_nw V5 (100 + 1, 8) 8) 416 x (some (hv_n V5))) := ⟨_, rfl⟩
  rw [← eV6] at hT hC
  refine lv_aload_n hx hb dX4_init_50 rfl (lv_at hl 0 rfl) ?_
  refine lv_bipush (v := 8) hx hb dX4_init_51 (by decide) ?_
  refine hv_newa (atype := .boolean) (t := 1) (N := 8) hx hb (by decide) (ty := .boolean) rfl rfl (Or.inr rfl) (hts _ (tw_c tw_346)) hK hT (by decide) (by decide) (by decide) (by show 0 + 1 + 1 + 1 + 1 + 1 + 1 ≤ 19; omega) (by show 0 + 8 + 64 + 8 + 8 + 8 + 8 ≤ 420205; omega) dX4_init_53 (fun H hT => ?_)
  refine hv_putrF (ci := 4) (C := RX4) (T := TX4) (N := 34) hx hb hts (tw_cs in_X4) tyX4 tyX4_ok nmX4 hown hK hT (cr_kx hC) (by decide) rfl 17 (by decide) (hts _ (tw_c tw_329)) rfl rfl hin0 rfl (some (hv_n V6)) rfl rfl rfl dX4_init_55 (fun H locs hT => ?_)
  have hC := cr_step 17 (ty := 100 + 1) (len := 8) hC rfl (by decide) rfl rfl
  obtain ⟨V7, eV7⟩ : ∃ z, z = (hv_sp (hv_nw V6 (100 + 1, 8) 8) 417 x (some (hv_n V6))) := ⟨_, rfl⟩
  rw [← eV7] at hT hC
  refine lv_aload_n hx hb dX4_init_58 rfl (lv_at hl 0 rfl) ?_
  refine lv_bipush (v := 8) hx hb dX4_init_59 (by decide) ?_
  refine hv_newa (atype := .int) (t := 0) (N := 8) hx hb (by decide) (ty := .int) rfl rfl (Or.inl rfl) (hts _ (tw_c tw_40)) hK hT (by decide) (by decide) (by decide) (by show 0 + 1 + 1 + 1 + 1 + 1 + 1 + 1 ≤ 19; omega) (by show 0 + 8 + 64 + 8 + 8 + 8 + 8 + 8 ≤ 420205; omega) dX4_init_61 (fun H hT => ?_)
  refine hv_putrF (ci := 4) (C := RX4) (T := TX4) (N := 34) hx hb hts (tw_cs in_X4) tyX4 tyX4_ok nmX4 hown hK hT (cr_kx hC) (by decide) rfl 18 (by decide) (hts _ (tw_c tw_330)) rfl rfl hin0 rfl (some (hv_n V7)) rfl rfl rfl dX4_init_63 (fun H locs hT => ?_)
  have hC := cr_step 18 (ty := 100 + 0) (len := 8) hC rfl (by decide) rfl rfl
  obtain ⟨V8, eV8⟩ : ∃ z, z = (hv_sp (hv_nw V7 (100 + 0, 8) 8) 418 x (some (hv_n V7))) := ⟨_, rfl⟩
  rw [← eV8] at hT hC
  refine lv_aload_n hx hb dX4_init_66 rfl (lv_at hl 0 rfl) ?_
  refine lv_bipush (v := 8) hx hb dX4_init_67 (by decide) ?_
  refine hv_newa (atype := .int) (t := 0) (N := 8) hx hb (by decide) (ty := .int) rfl rfl (Or.inl rfl) (hts _ (tw_c tw_40)) hK hT (by decide) (by decide) (by decide) (by show 0 + 1 + 1 + 1 + 1 + 1 + 1 + 1 + 1 ≤ 19; omega) (by show 0 + 8 + 64 + 8 + 8 + 8 + 8 + 8 + 8 ≤ 420205; omega) dX4_init_69 (fun H hT => ?_)
  refine hv_putrF (ci := 4) (C := RX4) (T := TX4) (N := 34) hx hb hts (tw_cs in_X4) tyX4 tyX4_ok nmX4 hown hK hT (cr_kx hC) (by decide) rfl 19 (by decide) (hts _ (tw_c tw_331)) rfl rfl hin0 rfl (some (hv_n V8)) rfl rfl rfl dX4_init_71 (fun H locs hT => ?_)
  have hC := cr_step 19 (ty := 100 + 0) (len := 8) hC rfl (by decide) rfl rfl
  obtain ⟨V9, eV9⟩ : ∃ z, z = (hv_sp (hv_nw V8 (100 + 0, 8) 8) 419 x (some (hv_n V8))) := ⟨_, rfl⟩
  rw [← eV9] at hT hC
  refine lv_aload_n hx hb dX4_init_74 rfl (lv_at hl 0 rfl) ?_
  refine lv_bipush (v := 64) hx hb dX4_init_75 (by decide) ?_
  refine hv_newa (atype := .int) (t := 0) (N := 64) hx hb (by decide) (ty := .int) rfl rfl (Or.inl rfl) (hts _ (tw_c tw_40)) hK hT (by decide) (by decide) (by decide) (by show 0 + 1 + 1 + 1 + 1 + 1 + 1 + 1 + 1 + 1 ≤ 19; omega) (by show 0 + 8 + 64 + 8 + 8 + 8 + 8 + 8 + 8 + 64 ≤ 420205; omega) dX4_init_77 (fun H hT => ?_)
  refine hv_putrF (ci := 4) (C := RX4) (T := TX4) (N := 34) hx hb hts (tw_cs in_X4) tyX4 tyX4_ok nmX4 hown hK hT (cr_kx hC) (by decide) rfl 20 (by decide) (hts _ (tw_c tw_332)) rfl rfl hin0 rfl (some (hv_n V9)) rfl rfl rfl dX4_init_79 (fun H locs hT => ?_)
  have hC := cr_step 20 (ty := 100 + 0) (len := 64) hC rfl (by decide) rfl rfl
  obtain ⟨V10, eV10⟩ : ∃ z, z = (hv_sp (hv_nw V9 (100 + 0, 64) 64) 420 x (some (hv_n V9))) := ⟨_, rfl⟩
  rw [← eV10] at hT hC
  refine lv_aload_n hx hb dX4_init_82 rfl (lv_at hl 0 rfl) ?_
  refine lv_bipush (v := 8) hx hb dX4_init_83 (by decide) ?_
  refine hv_newa (atype := .int) (t := 0) (N := 8) hx hb (by decide) (ty := .int) rfl rfl (Or.inl rfl) (hts _ (tw_c tw_40)) hK hT (by decide) (by decide) (by decide) (by show 0 + 1 + 1 + 1 + 1 + 1 + 1 + 1 + 1 + 1 + 1 ≤ 19; omega) (by show 0 + 8 + 64 + 8 + 8 + 8 + 8 + 8 + 8 + 64 + 8 ≤ 420205; omega) dX4_init_85 (fun H hT => ?_)
  refine hv_putrF (ci := 4) (C := RX4) (T := TX4) (N := 34) hx hb hts (tw_cs in_X4) tyX4 tyX4_ok nmX4 hown hK hT (cr_kx hC) (by decide) rfl 21 (by decide) (hts _ (tw_c tw_333)) rfl rfl hin0 rfl (some (hv_n V10)) rfl rfl rfl dX4_init_87 (fun H locs hT => ?_)
  have hC := cr_step 21 (ty := 100 + 0) (len := 8) hC rfl (by decide) rfl rfl
  obtain ⟨V11, eV11⟩ : ∃ z, z = (hv_sp (hv_nw V10 (100 + 0, 8) 8) 421 x (some (hv_n V10))) := ⟨_, rfl⟩
  rw [← eV11] at hT hC
  refine lv_aload_n hx hb dX4_init_90 rfl (lv_at hl 0 rfl) ?_
  refine lv_bipush (v := 8) hx hb dX4_init_91 (by decide) ?_
  refine hv_newa (atype := .int) (t := 0) (N := 8) hx hb (by decide) (ty := .int) rfl rfl (Or.inl rfl) (hts _ (tw_c tw_40)) hK hT (by decide) (by decide) (by decide) (by show 0 + 1 + 1 + 1 + 1 + 1 + 1 + 1 + 1 + 1 + 1 + 1 ≤ 19; omega) (by show 0 + 8 + 64 + 8 + 8 + 8 + 8 + 8 + 8 + 64 + 8 + 8 ≤ 420205; omega) dX4_init_93 (fun H hT => ?_)
  refine hv_putrF (ci := 4) (C := RX4) (T := TX4) (N := 34) hx hb hts (tw_cs in_X4) tyX4 tyX4_ok nmX4 hown hK hT (cr_kx hC) (by decide) rfl 22 (by decide) (hts _ (tw_c tw_334)) rfl rfl hin0 rfl (some (hv_n V11)) rfl rfl rfl dX4_init_95 (fun H locs hT => ?_)
  have hC := cr_step 22 (ty := 100 + 0) (len := 8) hC rfl (by decide) rfl rfl
  obtain ⟨V12, eV12⟩ : ∃ z, z = (hv_sp (hv_nw V11 (100 + 0, 8) 8) 422 x (some (hv_n V11))) := ⟨_, rfl⟩
  rw [← eV12] at hT hC
  refine lv_aload_n hx hb dX4_init_98 rfl (lv_at hl 0 rfl) ?_
  refine lv_ldc (v := 60000) hx hb hown (hts _ (tw_c tw_311)) dX4_init_99 ?_
  refine hv_newa (atype := .int) (t := 0) (N := 60000) hx hb (by decide) (ty := .int) rfl rfl (Or.inl rfl) (hts _ (tw_c tw_40)) hK hT (by decide) (by decide) (by decide) (by show 0 + 1 + 1 + 1 + 1 + 1 + 1 + 1 + 1 + 1 + 1 + 1 + 1 ≤ 19; omega) (by show 0 + 8 + 64 + 8 + 8 + 8 + 8 + 8 + 8 + 64 + 8 + 8 + 60000 ≤ 420205; omega) dX4_init_101 (fun H hT => ?_)
  refine hv_putrF (ci := 4) (C := RX4) (T := TX4) (N := 34) hx hb hts (tw_cs in_X4) tyX4 tyX4_ok nmX4 hown hK hT (cr_kx hC) (by decide) rfl 23 (by decide) (hts _ (tw_c tw_335)) rfl rfl hin0 rfl (some (hv_n V12)) rfl rfl rfl dX4_init_103 (fun H locs hT => ?_)
  have hC := cr_step 23 (ty := 100 + 0) (len := 60000) hC rfl (by decide) rfl rfl
  obtain ⟨V13, eV13⟩ : ∃ z, z = (hv_sp (hv_nw V12 (100 + 0, 60000) 60000) 423 x (some (hv_n V12))) := ⟨_, rfl⟩
  rw [← eV13] at hT hC
  refine lv_aload_n hx hb dX4_init_106 rfl (lv_at hl 0 rfl) ?_
  refine lv_ldc (v := 60000) hx hb hown (hts _ (tw_c tw_311)) dX4_init_107 ?_
  refine hv_newa (atype := .int) (t := 0) (N := 60000) hx hb (by decide) (ty := .int) rfl rfl (Or.inl rfl) (hts _ (tw_c tw_40)) hK hT (by decide) (by decide) (by decide) (by show 0 + 1 + 1 + 1 + 1 + 1 + 1 + 1 + 1 + 1 + 1 + 1 + 1 + 1 ≤ 19; omega) (by show 0 + 8 + 64 + 8 + 8 + 8 + 8 + 8 + 8 + 64 + 8 + 8 + 60000 + 60000 ≤ 420205; omega) dX4_init_109 (fun H hT => ?_)
  refine hv_putrF (ci := 4) (C := RX4) (T := TX4) (N := 34) hx hb hts (tw_cs in_X4) tyX4 tyX4_ok nmX4 hown hK hT (cr_kx hC) (by decide) rfl 24 (by decide) (hts _ (tw_c tw_336)) rfl rfl hin0 rfl (some (hv_n V13)) rfl rfl rfl dX4_init_111 (fun H locs hT => ?_)
  have hC := cr_step 24 (ty := 100 + 0) (len := 60000) hC rfl (by decide) rfl rfl
  obtain ⟨V14, eV14⟩ : ∃ z, z = (hv_sp (hv_nw V13 (100 + 0, 60000) 60000) 424 x (some (hv_n V13))) := ⟨_, rfl⟩
  rw [← eV14] at hT hC
  refine lv_aload_n hx hb dX4_init_114 rfl (lv_at hl 0 rfl) ?_
  refine lv_ldc (v := 60000) hx hb hown (hts _ (tw_c tw_311)) dX4_init_115 ?_
  refine hv_newa (atype := .int) (t := 0) (N := 60000) hx hb (by decide) (ty := .int) rfl rfl (Or.inl rfl) (hts _ (tw_c tw_40)) hK hT (by decide) (by decide) (by decide) (by show 0 + 1 + 1 + 1 + 1 + 1 + 1 + 1 + 1 + 1 + 1 + 1 + 1 + 1 + 1 ≤ 19; omega) (by show 0 + 8 + 64 + 8 + 8 + 8 + 8 + 8 + 8 + 64 + 8 + 8 + 60000 + 60000 + 60000 ≤ 420205; omega) dX4_init_117 (fun H hT => ?_)
  refine hv_putrF (ci := 4) (C := RX4) (T := TX4) (N := 34) hx hb hts (tw_cs in_X4) tyX4 tyX4_ok nmX4 hown hK hT (cr_kx hC) (by decide) rfl 25 (by decide) (hts _ (tw_c tw_337)) rfl rfl hin0 rfl (some (hv_n V14)) rfl rfl rfl dX4_init_119 (fun H locs hT => ?_)
  have hC := cr_step 25 (ty := 100 + 0) (len := 60000) hC rfl (by decide) rfl rfl
  obtain ⟨V15, eV15⟩ : ∃ z, z = (hv_sp (hv_nw V14 (100 + 0, 60000) 60000) 425 x (some (hv_n V14))) := ⟨_, rfl⟩
  rw [← eV15] at hT hC
  refine lv_aload_n hx hb dX4_init_122 rfl (lv_at hl 0 rfl) ?_
  refine lv_ldc (v := 60000) hx hb hown (hts _ (tw_c tw_311)) dX4_init_123 ?_
  refine hv_newa (atype := .int) (t := 0) (N := 60000) hx hb (by decide) (ty := .int) rfl rfl (Or.inl rfl) (hts _ (tw_c tw_40)) hK hT (by decide) (by decide) (by decide) (by show 0 + 1 + 1 + 1 + 1 + 1 + 1 + 1 + 1 + 1 + 1 + 1 + 1 + 1 + 1 + 1 ≤ 19; omega) (by show 0 + 8 + 64 + 8 + 8 + 8 + 8 + 8 + 8 + 64 + 8 + 8 + 60000 + 60000 + 60000 + 60000 ≤ 420205; omega) dX4_init_125 (fun H hT => ?_)
  refine hv_putrF (ci := 4) (C := RX4) (T := TX4) (N := 34) hx hb hts (tw_cs in_X4) tyX4 tyX4_ok nmX4 hown hK hT (cr_kx hC) (by decide) rfl 26 (by decide) (hts _ (tw_c tw_338)) rfl rfl hin0 rfl (some (hv_n V15)) rfl rfl rfl dX4_init_127 (fun H locs hT => ?_)
  have hC := cr_step 26 (ty := 100 + 0) (len := 60000) hC rfl (by decide) rfl rfl
  obtain ⟨V16, eV16⟩ : ∃ z, z = (hv_sp (hv_nw V15 (100 + 0, 60000) 60000) 426 x (some (hv_n V15))) := ⟨_, rfl⟩
  rw [← eV16] at hT hC
  refine lv_aload_n hx hb dX4_init_130 rfl (lv_at hl 0 rfl) ?_
  refine lv_ldc (v := 60000) hx hb hown (hts _ (tw_c tw_311)) dX4_init_131 ?_
  refine hv_newa (atype := .int) (t := 0) (N := 60000) hx hb (by decide) (ty := .int) rfl rfl (Or.inl rfl) (hts _ (tw_c tw_40)) hK hT (by decide) (by decide) (by decide) (by show 0 + 1 + 1 + 1 + 1 + 1 + 1 + 1 + 1 + 1 + 1 + 1 + 1 + 1 + 1 + 1 + 1 ≤ 19; omega) (by show 0 + 8 + 64 + 8 + 8 + 8 + 8 + 8 + 8 + 64 + 8 + 8 + 60000 + 60000 + 60000 + 60000 + 60000 ≤ 420205; omega) dX4_init_133 (fun H hT => ?_)
  refine hv_putrF (ci := 4) (C := RX4) (T := TX4) (N := 34) hx hb hts (tw_cs in_X4) tyX4 tyX4_ok nmX4 hown hK hT (cr_kx hC) (by decide) rfl 27 (by decide) (hts _ (tw_c tw_339)) rfl rfl hin0 rfl (some (hv_n V16)) rfl rfl rfl dX4_init_135 (fun H locs hT => ?_)
  have hC := cr_step 27 (ty := 100 + 0) (len := 60000) hC rfl (by decide) rfl rfl
  obtain ⟨V17, eV17⟩ : ∃ z, z = (hv_sp (hv_nw V16 (100 + 0, 60000) 60000) 427 x (some (hv_n V16))) := ⟨_, rfl⟩
  rw [← eV17] at hT hC
  refine lv_aload_n hx hb dX4_init_138 rfl (lv_at hl 0 rfl) ?_
  refine lv_ldc (v := 60000) hx hb hown (hts _ (tw_c tw_311)) dX4_init_139 ?_
  refine hv_newa (atype := .int) (t := 0) (N := 60000) hx hb (by decide) (ty := .int) rfl rfl (Or.inl rfl) (hts _ (tw_c tw_40)) hK hT (by decide) (by decide) (by decide) (by show 0 + 1 + 1 + 1 + 1 + 1 + 1 + 1 + 1 + 1 + 1 + 1 + 1 + 1 + 1 + 1 + 1 + 1 ≤ 19; omega) (by show 0 + 8 + 64 + 8 + 8 + 8 + 8 + 8 + 8 + 64 + 8 + 8 + 60000 + 60000 + 60000 + 60000 + 60000 + 60000 ≤ 420205; omega) dX4_init_141 (fun H hT => ?_)
  refine hv_putrF (ci := 4) (C := RX4) (T := TX4) (N := 34) hx hb hts (tw_cs in_X4) tyX4 tyX4_ok nmX4 hown hK hT (cr_kx hC) (by decide) rfl 28 (by decide) (hts _ (tw_c tw_340)) rfl rfl hin0 rfl (some (hv_n V17)) rfl rfl rfl dX4_init_143 (fun H locs hT => ?_)
  have hC := cr_step 28 (ty := 100 + 0) (len := 60000) hC rfl (by decide) rfl rfl
  obtain ⟨V18, eV18⟩ : ∃ z, z = (hv_sp (hv_nw V17 (100 + 0, 60000) 60000) 428 x (some (hv_n V17))) := ⟨_, rfl⟩
  rw [← eV18] at hT hC
  refine lv_aload_n hx hb dX4_init_146 rfl (lv_at hl 0 rfl) ?_
  refine lv_ldc (v := 60000) hx hb hown (hts _ (tw_c tw_311)) dX4_init_147 ?_
  refine hv_newa (atype := .int) (t := 0) (N := 60000) hx hb (by decide) (ty := .int) rfl rfl (Or.inl rfl) (hts _ (tw_c tw_40)) hK hT (by decide) (by decide) (by decide) (by show 0 + 1 + 1 + 1 + 1 + 1 + 1 + 1 + 1 + 1 + 1 + 1 + 1 + 1 + 1 + 1 + 1 + 1 + 1 ≤ 19; omega) (by show 0 + 8 + 64 + 8 + 8 + 8 + 8 + 8 + 8 + 64 + 8 + 8 + 60000 + 60000 + 60000 + 60000 + 60000 + 60000 + 60000 ≤ 420205; omega) dX4_init_149 (fun H hT => ?_)
  refine hv_putrF (ci := 4) (C := RX4) (T := TX4) (N := 34) hx hb hts (tw_cs in_X4) tyX4 tyX4_ok nmX4 hown hK hT (cr_kx hC) (by decide) rfl 29 (by decide) (hts _ (tw_c tw_341)) rfl rfl hin0 rfl (some (hv_n V18)) rfl rfl rfl dX4_init_151 (fun H locs hT => ?_)
  have hC := cr_step 29 (ty := 100 + 0) (len := 60000) hC rfl (by decide) rfl rfl
  obtain ⟨V19, eV19⟩ : ∃ z, z = (hv_sp (hv_nw V18 (100 + 0, 60000) 60000) 429 x (some (hv_n V18))) := ⟨_, rfl⟩
  rw [← eV19] at hT hC
  refine lv_aload_n hx hb dX4_init_154 rfl (lv_at hl 0 rfl) ?_
  refine lv_iconst (v := 5) hx hb dX4_init_155 (by decide) ?_
  refine hv_newa (atype := .int) (t := 0) (N := 5) hx hb (by decide) (ty := .int) rfl rfl (Or.inl rfl) (hts _ (tw_c tw_40)) hK hT (by decide) (by decide) (by decide) (by show 0 + 1 + 1 + 1 + 1 + 1 + 1 + 1 + 1 + 1 + 1 + 1 + 1 + 1 + 1 + 1 + 1 + 1 + 1 + 1 ≤ 19; omega) (by show 0 + 8 + 64 + 8 + 8 + 8 + 8 + 8 + 8 + 64 + 8 + 8 + 60000 + 60000 + 60000 + 60000 + 60000 + 60000 + 60000 + 5 ≤ 420205; omega) dX4_init_156 (fun H hT => ?_)
  refine hv_putrF (ci := 4) (C := RX4) (T := TX4) (N := 34) hx hb hts (tw_cs in_X4) tyX4 tyX4_ok nmX4 hown hK hT (cr_kx hC) (by decide) rfl 31 (by decide) (hts _ (tw_c tw_343)) rfl rfl hin0 rfl (some (hv_n V19)) rfl rfl rfl dX4_init_158 (fun H locs hT => ?_)
  have hC := cr_step 31 (ty := 100 + 0) (len := 5) hC rfl (by decide) rfl rfl
  obtain ⟨V20, eV20⟩ : ∃ z, z = (hv_sp (hv_nw V19 (100 + 0, 5) 5) 431 x (some (hv_n V19))) := ⟨_, rfl⟩
  rw [← eV20] at hT hC
  exact hret _ V20 _ _ _ _ _ dX4_init_161 hT ⟨_, rfl, hC.1.1, hC.1.2, cr_J hC⟩ (by show 0 + 1 + 1 + 1 + 1 + 1 + 1 + 1 + 1 + 1 + 1 + 1 + 1 + 1 + 1 + 1 + 1 + 1 + 1 + 1 ≤ 19; omega) (by show 0 + 8 + 64 + 8 + 8 + 8 + 8 + 8 + 8 + 64 + 8 + 8 + 60000 + 60000 + 60000 + 60000 + 60000 + 60000 + 60000 + 5 ≤ 420205; omega)
