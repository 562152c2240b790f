theorem cs_cl32 {i : Nat} (hi : i < 32) : (nI i).toNatClampNeg = i := nI_clamp (by omega)
theorem cs_in32 {i : Nat} (hi : i < 32) : vp_in (nI i) 32 := vp_in_nI hi (by omega)
theorem cs_rem {t s : Nat} (ht : t ≤ 4020) (hs : t % 32 = s) : nI t - nI t / 32 * 32 = nI s := by
  have h := pk_rem (a := t) (d := 32) (by omega) (by decide) (by decide)
  rw [hs] at h
  exact h
section CNT
variable {fa : Nat → Nat} {n : Nat} {w u : Nat → Nat} {b : Nat} {d : Nat → Nat → Nat} {g : Nat × Nat} {k : Nat} {hd : List Nat} {v v1 : hv_V} {a s z : Nat}
theorem ci_keepI (h : ci_I fa n w u b d g k (a :: hd) v) : ci_I fa n w u b d g k hd (hv_sp (hv_sp v 7 a (hv_p v 103 (fa 2))) 103 (fa 2) (some a)) := by
  obtain ⟨hS, hV, ⟨Sl, Sp, hL, ho⟩, hE⟩ := h
  refine ⟨cs_S_of hS (fun _ => rfl) (fun f c h1 h2 => ?_) (fun _ _ _ _ => rfl), ci_V_of hV (fun _ _ _ _ _ _ _ => rfl) (fun _ _ _ => rfl), ⟨Sl, a :: Sp, ci_push hL, ho⟩, hE⟩
  rw [hv_sp_p, if_neg (fun q => h1 q.1), hv_sp_p, if_neg (fun q => h2 q.1)]
theorem ci_hdI (h : ci_I fa n w u b d g k (a :: hd) v) : hv_k v a = (1, 0) ∧ ∃ f t : Nat, f < n ∧ t < n ∧ hv_i v 3 a = nI f ∧ hv_i v 4 a = nI t := by
  obtain ⟨hS, hV, ⟨Sl, Sp, hL, ho⟩, hE⟩ := h
  exact hL.2.2.2.1 a (by simp)
theorem ci_headI (h : ci_I fa n w u b d g k hd v) (hs : s < 32) (ha : hv_q v (fa 5) s = some a) : hv_k v a = (1, 0) ∧ (∃ f t : Nat, f < n ∧ t < n ∧ hv_i v 3 a = nI f ∧ hv_i v 4 a = nI t) ∧ (∃ t : Nat, t ≤ 4020 ∧ t % 32 = s ∧ hv_i v 0 a = nI t) ∧ ∀ z, hv_p v 7 a = some z → hv_k v z = (1, 0) := by
  obtain ⟨hS, hV, ⟨Sl, Sp, hL, ho⟩, hE⟩ := h
  have hc := (hL.2.2.2.2.2 s hs).1
  rw [ha] at hc
  obtain ⟨r, hr, hcn⟩ := ci_ch_some hc
  have ham : a ∈ Sl s := by rw [hr]; exact List.mem_cons_self
  have h1 := hL.2.2.2.1 a (ci_L_mem hL hs ham)
  refine ⟨h1.1, h1.2, (hL.2.2.2.2.2 s hs).2.2 a ham, fun z hz => ?_⟩
  rw [hz] at hcn
  obtain ⟨r', hr', -⟩ := ci_ch_some hcn
  exact (hL.2.2.2.1 z (ci_L_mem hL hs (by rw [hr, hr']; simp))).1
theorem ci_tailI (h : ci_I fa n w u b d g k hd v) (hs : s < 32) (hz : hv_q v (fa 6) s = some z) : hv_k v z = (1, 0) := by
  obtain ⟨hS, hV, ⟨Sl, Sp, hL, ho⟩, hE⟩ := h
  rw [(hL.2.2.2.2.2 s hs).2.1] at hz
  exact (hL.2.2.2.1 z (ci_L_mem hL hs (List.mem_of_getLast? hz))).1
theorem ci_tailne (h : ci_I fa n w u b d g k (a :: hd) v) (hs : s < 32) (hz : hv_q v (fa 6) s = some z) : z ≠ a := by
  obtain ⟨hS, hV, ⟨Sl, Sp, hL, ho⟩, hE⟩ := h
  rw [(hL.2.2.2.2.2 s hs).2.1] at hz
  intro e
  exact (List.nodup_append.mp hL.1).2.2 a (by simp) z (ci_fl_mem hs (List.mem_of_getLast? hz)) e.symm
theorem ci_p7 {z a c : Nat} {o : Option Nat} (hza : z ≠ a) : (if c = z then some a else if c = a then none else o) = (if c = a then none else if z = c then some a else o) := by
  by_cases e1 : c = a
  · subst e1; simp [Ne.symm hza]
  · by_cases e2 : c = z
    · subst e2; simp [e1]
    · simp [e1, e2, Ne.symm e2]
theorem ci_spareI (h : ci_I fa n w u b d g k hd v) (hz : hv_p v 103 (fa 2) = some z) : hv_k v z = (1, 0) ∧ ∀ y, hv_p v 7 z = some y → hv_k v y = (1, 0) := by
  obtain ⟨hS, hV, ⟨Sl, Sp, hL, ho⟩, hE⟩ := h
  have hc := hL.2.2.2.2.1
  rw [hz] at hc
  obtain ⟨r, hr, hcn⟩ := ci_ch_some hc
  refine ⟨(hL.2.2.2.1 z (by rw [hr]; simp)).1, fun y hy => ?_⟩
  rw [hy] at hcn
  obtain ⟨r', hr', -⟩ := ci_ch_some hcn
  exact (hL.2.2.2.1 y (by rw [hr, hr']; simp)).1
theorem ci_kle (h : ci_I fa n w u b d g k hd v) : k ≤ 4097 := by
  obtain ⟨hS, hV, ⟨Sl, Sp, hL, ho⟩, hE⟩ := h
  exact hL.2.2.1
theorem ci_56 (hS : cs_S fa n v) : fa 5 ≠ fa 6 := fun e => absurd (cs_inj hS 5 6 (cs_live_l (by decide)) (cs_live_l (by decide)) e) (by decide)
theorem cs_S_sq5 {j : Nat} {x : Option Nat} (hS : cs_S fa n v) : cs_S fa n (hv_sq v (fa 5) j x) := cs_S_of hS (fun _ => rfl) (fun _ _ _ _ => rfl) (fun c i h5 h6 => by rw [hv_sq_q, if_neg (fun q => h5 q.1)])
theorem cs_S_sq6 {j : Nat} {x : Option Nat} (hS : cs_S fa n v) : cs_S fa n (hv_sq v (fa 6) j x) := cs_S_of hS (fun _ => rfl) (fun _ _ _ _ => rfl) (fun c i h5 h6 => by rw [hv_sq_q, if_neg (fun q => h6 q.1)])
theorem ci_takeI (h : ci_I fa n w u b d g k hd v) (hs : s < 32) (ha : hv_q v (fa 5) s = some a) (hk : ∀ c, hv_k v1 c = hv_k v c) (hi : ∀ f c, f ≠ 108 → hv_i v1 f c = hv_i v f c) (ho1 : hv_i v1 108 (fa 2) = hv_i v 108 (fa 2) - 1) (hp : ∀ f c, hv_p v1 f c = hv_p v f c) (haa : ∀ c j, hv_a v1 c j = hv_a v c j)
    (hq5 : ∀ j, hv_q v1 (fa 5) j = if j = s then hv_p v 7 a else hv_q v (fa 5) j) (hq6 : ∀ j, hv_q v1 (fa 6) j = if j = s ∧ hv_p v 7 a = none then none else hv_q v (fa 6) j) (hqo : ∀ c j, c ≠ fa 5 → c ≠ fa 6 → hv_q v1 c j = hv_q v c j) (hn : hv_n v1 = hv_n v) (ht : hv_t v1 = hv_t v) : ci_I fa n w u b d g k (a :: hd) v1 := by
  obtain ⟨hS, hV, ⟨Sl, Sp, hL, ho⟩, hE⟩ := h
  obtain ⟨Sl', hL', hlen⟩ := ci_take hL hs ha (ci_56 hS) hk (fun f c hf => hi f c (by rcases hf with rfl | rfl | rfl <;> decide)) hp hq5 hq6
  refine ⟨cs_S_of hS hk (fun f c _ _ => hp f c) (fun c j h5 h6 => hqo c j h5 h6), ci_V_of hV (fun f c h1 _ _ _ _ => hi f c h1) (fun i j _ => haa _ _), ⟨Sl', Sp, hL', ?_⟩, by rw [hn, ht]; exact hE⟩
  rw [ho1, ho, ← hlen]
  exact nI_pred _
theorem ci_appI {t : Nat} (h : ci_I fa n w u b d g k (a :: hd) v) (ht : t ≤ 4020) (hts : t % 32 = s) (hs : s < 32) (hk : ∀ c, hv_k v1 c = hv_k v c) (hi : ∀ f c, ci_free f = false → f ≠ 108 → f ≠ 0 → hv_i v1 f c = hv_i v f c) (hi0 : ∀ c, hv_i v1 0 c = if c = a then nI t else hv_i v 0 c) (ho1 : hv_i v1 108 (fa 2) = hv_i v 108 (fa 2) + 1)
    (hpo : ∀ f c, f ≠ 7 → hv_p v1 f c = hv_p v f c) (haa : ∀ c j, hv_a v1 c j = hv_a v c j) (hp7 : ∀ c, hv_p v1 7 c = if c = a then none else if hv_q v (fa 6) s = some c then some a else hv_p v 7 c) (hq5 : ∀ j, hv_q v1 (fa 5) j = if j = s ∧ hv_q v (fa 6) s = none then some a else hv_q v (fa 5) j) (hq6 : ∀ j, hv_q v1 (fa 6) j = if j = s then some a else hv_q v (fa 6) j)
    (hqo : ∀ c j, c ≠ fa 5 → c ≠ fa 6 → hv_q v1 c j = hv_q v c j) (hn : hv_n v1 = hv_n v) (ht1 : hv_t v1 = hv_t v) : ci_I fa n w u b d g k hd v1 := by
  obtain ⟨hS, hV, ⟨Sl, Sp, hL, ho⟩, hE⟩ := h
  obtain ⟨Sl', hL', hlen⟩ := ci_app hL hs ht hts hk (fun f c hf => hi f c (by rcases hf with rfl | rfl <;> rfl) (by rcases hf with rfl | rfl <;> decide) (by rcases hf with rfl | rfl <;> decide)) hi0 (hpo _ _ (by decide)) hp7 hq5 hq6
  refine ⟨cs_S_of hS hk (fun f c _ h7 => hpo f c h7) (fun c j h5 h6 => hqo c j h5 h6), ci_V_of hV (fun f c h1 h2 _ _ hf => hi f c hf h1 h2) (fun i j _ => haa _ _), ⟨Sl', Sp, hL', ?_⟩, by rw [hn, ht1]; exact hE⟩
  rw [ho1, ho, hlen]
  exact nI_1 _
theorem ci_popI (h : ci_I fa n w u b d g k hd v) (hz : hv_p v 103 (fa 2) = some a) : ci_I fa n w u b d g k (a :: hd) (hv_sp v 103 (fa 2) (hv_p v 7 a)) := by
  obtain ⟨hS, hV, ⟨Sl, Sp, hL, ho⟩, hE⟩ := h
  obtain ⟨Sp', hL'⟩ := ci_pop hL hz
  exact ⟨cs_S_of hS (fun _ => rfl) (fun f c h1 _ => by rw [hv_sp_p, if_neg (fun q => h1 q.1)]) (fun _ _ _ _ => rfl), ci_V_of hV (fun _ _ _ _ _ _ _ => rfl) (fun _ _ _ => rfl), ⟨Sl, Sp', hL', ho⟩, hE⟩
/-- what the view says of old cells stays when one is made -/
theorem cs_S_nw {kd : Nat × Nat} {w0 : Nat} (hS : cs_S fa n v) (hd0 : ∀ c, (hv_k v c).1 ≠ 0 → c ≠ hv_n v) : cs_S fa n (hv_nw v kd w0) := by
  obtain ⟨h1, h2, h3, h4, h5, h6, h7, h8, p1, p2, p3, p4, p5, p6, r, t, ij⟩ := hS
  have ne : ∀ {c x y : Nat}, hv_k v c = (x + 1, y) → c ≠ hv_n v := fun {c x y} e => hd0 c (by rw [e]; exact Nat.succ_ne_zero x)
  refine ⟨h1, ?_, ?_, ?_, ?_, ?_, ?_, ?_, ?_, ?_, ?_, ?_, ?_, ?_, fun i hi => ?_, fun i hi => ?_, ij⟩
  · rw [hv_nw_k, if_neg (ne h2)]; exact h2
  · rw [hv_nw_k, if_neg (ne h3)]; exact h3
  · rw [hv_nw_k, if_neg (ne h4)]; exact h4
  · rw [hv_nw_k, if_neg (ne h5)]; exact h5
  · rw [hv_nw_k, if_neg (ne h6)]; exact h6
  · rw [hv_nw_k, if_neg (ne h7)]; exact h7
  · rw [hv_nw_k, if_neg (ne h8)]; exact h8
  · rw [hv_nw_p, if_neg (ne h2)]; exact p1
  · rw [hv_nw_p, if_neg (ne h2)]; exact p2
  · rw [hv_nw_p, if_neg (ne h2)]; exact p3
  · rw [hv_nw_p, if_neg (ne h4)]; exact p4
  · rw [hv_nw_p, if_neg (ne h4)]; exact p5
  · rw [hv_nw_p, if_neg (ne h4)]; exact p6
  · rw [hv_nw_q, if_neg (ne h6), hv_nw_k, if_neg (ne (r i hi).2)]; exact r i hi
  · rw [hv_nw_q, if_neg (ne h3), hv_nw_k, if_neg (ne (t i hi).2.1), hv_nw_p, if_neg (ne (t i hi).2.1), hv_nw_k, if_neg (ne (t i hi).2.2.2)]; exact t i hi
theorem ci_V_nw {kd : Nat × Nat} {w0 : Nat} (hS : cs_S fa n v) (hV : ci_V fa n w u b d v) (hd0 : ∀ c, (hv_k v c).1 ≠ 0 → c ≠ hv_n v) : ci_V fa n w u b d (hv_nw v kd w0) := by
  have ne : ∀ {c x y : Nat}, hv_k v c = (x + 1, y) → c ≠ hv_n v := fun {c x y} e => hd0 c (by rw [e]; exact Nat.succ_ne_zero x)
  obtain ⟨h1, h2, h3, h4, h5, h6, h7⟩ := hV
  refine ⟨?_, ?_, ?_, ?_, ?_, fun i j hi hj => ?_, fun i hi => ?_⟩
  · rw [hv_nw_i, if_neg (ne (cs_kX hS))]; exact h1
  · rw [hv_nw_i, if_neg (ne (cs_kX hS))]; exact h2
  · rw [hv_nw_i, if_neg (ne (cs_kX hS))]; exact h3
  · rw [hv_nw_i, if_neg (ne (cs_kX hS))]; exact h4
  · rw [hv_nw_i, if_neg (ne (cs_kN hS))]; exact h5
  · rw [hv_nw_a, if_neg (ne (cs_kR hS hi))]; exact h6 i j hi hj
  · rw [hv_nw_i, hv_nw_i, hv_nw_i, if_neg (ne (cs_ks hS hi)), if_neg (ne (cs_ks hS hi)), if_neg (ne (cs_ks hS hi))]; exact h7 i hi
theorem ci_ch_nw {kd : Nat × Nat} {w0 : Nat} {v : hv_V} {p : Option Nat} {r : List Nat} (h : ∀ c, c ∈ r → c ≠ hv_n v) (hc : ci_ch v p r) : ci_ch (hv_nw v kd w0) p r := ci_chF _ _ (fun c hm => by rw [hv_nw_p, if_neg (h c hm)]) hc
/-- a message is made -/
theorem ci_newI (h : ci_I fa n w u b d g k hd v) (hd0 : ∀ c, (hv_k v c).1 ≠ 0 → c ≠ hv_n v) (h0 : 0 < n) (hsp : hv_p v 103 (fa 2) = none) (hon : hv_i v 108 (fa 2) < 4096) (hh : hd.length ≤ 1) : ci_I fa n w u b d g (k + 1) (hv_n v :: hd) (hv_nw v (1, 0) 8) := by
  obtain ⟨hS, hV, ⟨Sl, Sp, hL, ho⟩, hE⟩ := h
  have ne : ∀ {c x y : Nat}, hv_k v c = (x + 1, y) → c ≠ hv_n v := fun {c x y} e => hd0 c (by rw [e]; exact Nat.succ_ne_zero x)
  obtain ⟨h1, h2, h2', h3, h4, h5⟩ := hL
  rw [hsp] at h4
  have hSp := ci_ch_none h4
  subst hSp
  simp only [List.nil_append] at h1 h2 h3
  have hfl : (ci_fl 32 Sl).length < 4096 := by
    have hb : (ci_fl 32 Sl).length ≤ 4097 := by
      rw [List.length_append] at h2
      omega
    rw [ho] at hon
    exact (nI_ltI (b := 4096) (by omega) (by decide)).mp hon
  have hm : ∀ c, c ∈ hd ++ ci_fl 32 Sl → c ≠ hv_n v := fun c hc => ne (h3 c hc).1
  refine ⟨cs_S_nw hS hd0, ci_V_nw hS hV hd0, ⟨Sl, [], ⟨?_, ?_, ?_, fun c hc => ?_, ?_, fun s hs => ?_⟩, ?_⟩, ?_, ?_⟩
  · simp only [List.nil_append, List.cons_append]
    exact List.nodup_cons.mpr ⟨fun q => hm _ q rfl, h1⟩
  · simp only [List.nil_append, List.cons_append, List.length_cons, h2]
  · rw [List.length_append] at h2
    omega
  · simp only [List.nil_append, List.cons_append, List.mem_cons] at hc
    rcases hc with rfl | hc
    · refine ⟨by rw [hv_nw_k, if_pos rfl], 0, 0, h0, h0, ?_, ?_⟩
      · rw [hv_nw_i, if_pos rfl]; exact nI_0.symm
      · rw [hv_nw_i, if_pos rfl]; exact nI_0.symm
    · rw [hv_nw_k, hv_nw_i, hv_nw_i, if_neg (hm c hc), if_neg (hm c hc), if_neg (hm c hc)]
      exact h3 c hc
  · rw [hv_nw_p, if_neg (ne (cs_kN hS)), hsp]; exact rfl
  · rw [hv_nw_q, hv_nw_q, if_neg (ne (cs_kH hS)), if_neg (ne (cs_kT hS))]
    refine ⟨ci_ch_nw (fun c hc => hm c (List.mem_append_right _ (ci_fl_mem hs hc))) (h5 s hs).1, (h5 s hs).2.1, fun c hc => ?_⟩
    rw [hv_nw_i, if_neg (hm c (List.mem_append_right _ (ci_fl_mem hs hc)))]
    exact (h5 s hs).2.2 c hc
  · rw [hv_nw_i, if_neg (ne (cs_kN hS))]; exact ho
  · rw [hv_nw_n, hE.1]; omega
  · rw [hv_nw_t, hE.2]; omega
/-- whom a held message is from, and to -/
theorem ci_put34 {f : Nat} {i : Nat} (hf : f = 3 ∨ f = 4) (hi : i < n) (h : ci_I fa n w u b d g k hd v) : ci_I fa n w u b d g k hd (hv_si v f a (nI i)) := by
  obtain ⟨hS, hV, ⟨Sl, Sp, hL, ho⟩, hE⟩ := h
  obtain ⟨h1, h2, h2', h3, h4, h5⟩ := hL
  refine ⟨hS, ci_V_of hV (fun e c _ _ e3 e4 _ => by rw [hv_si_i, if_neg (fun q => by rcases hf with rfl | rfl; exact e3 q.1; exact e4 q.1)]) (fun _ _ _ => rfl), ⟨Sl, Sp, ⟨h1, h2, h2', fun c hc => ?_, ci_chE (v := v) (v1 := hv_si v f a (nI i)) (fun _ => rfl) _ _ h4, fun s hs => ⟨ci_chE (v := v) (v1 := hv_si v f a (nI i)) (fun _ => rfl) _ _ (h5 s hs).1, (h5 s hs).2.1, fun c hc => ?_⟩⟩, ?_⟩, hE⟩
  · obtain ⟨g1, f0, t0, g2, g3, g4, g5⟩ := h3 c hc
    refine ⟨g1, ?_⟩
    rcases hf with rfl | rfl
    · by_cases e : c = a
      · exact ⟨i, t0, hi, g3, by rw [hv_si_i, if_pos ⟨rfl, e⟩], by rw [hv_si_i, if_neg (fun q => absurd q.1 (by decide))]; exact g5⟩
      · exact ⟨f0, t0, g2, g3, by rw [hv_si_i, if_neg (fun q => e q.2)]; exact g4, by rw [hv_si_i, if_neg (fun q => absurd q.1 (by decide))]; exact g5⟩
    · by_cases e : c = a
      · exact ⟨f0, i, g2, hi, by rw [hv_si_i, if_neg (fun q => absurd q.1 (by decide))]; exact g4, by rw [hv_si_i, if_pos ⟨rfl, e⟩]⟩
      · exact ⟨f0, t0, g2, g3, by rw [hv_si_i, if_neg (fun q => absurd q.1 (by decide))]; exact g4, by rw [hv_si_i, if_neg (fun q => e q.2)]; exact g5⟩
  · rw [hv_si_i, if_neg (fun q => by rcases hf with rfl | rfl <;> exact absurd q.1 (by decide))]
    exact (h5 s hs).2.2 c hc
  · rw [hv_si_i, if_neg (fun q => by rcases hf with rfl | rfl <;> exact absurd q.1 (by decide))]
    exact ho
end CNT
