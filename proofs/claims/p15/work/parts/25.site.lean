/-- every place of the picture is a cell -/
theorem cs_dom {fa : Nat → Nat} {n : Nat} {v : hv_V} (hS : cs_S fa n v) : ∀ i, cs_live n i → (hv_k v (fa i)).1 ≠ 0 := by
  intro i h
  have key : ∀ {x y : Nat} {c : Nat}, hv_k v c = (x + 1, y) → (hv_k v c).1 ≠ 0 := fun {x y c} e => by rw [e]; exact Nat.succ_ne_zero x
  have h8 := cs_n8 hS
  rcases h with ⟨h1, h2⟩ | ⟨h1, h2⟩ | ⟨h1, h2⟩
  · rcases (show i = 0 ∨ i = 1 ∨ i = 2 ∨ i = 3 ∨ i = 4 ∨ i = 5 ∨ i = 6 ∨ 8 ≤ i by omega) with rfl | rfl | rfl | rfl | rfl | rfl | rfl | h3
    · exact key (cs_kX hS)
    · exact key (cs_kS hS)
    · exact key (cs_kN hS)
    · exact key (cs_kL hS)
    · exact key (cs_kD hS)
    · exact key (cs_kH hS)
    · exact key (cs_kT hS)
    · obtain ⟨j, rfl⟩ : ∃ j, i = 8 + j := ⟨i - 8, by omega⟩
      exact key (cs_kR hS (i := j) (by omega))
  · obtain ⟨j, rfl⟩ : ∃ j, i = 16 + j := ⟨i - 16, by omega⟩
    exact key (cs_ks hS (i := j) (by omega))
  · obtain ⟨j, rfl⟩ : ∃ j, i = 24 + j := ⟨i - 24, by omega⟩
    exact key (cs_ko hS (i := j) (by omega))
def cs_ad (fa : Nat → Nat) (n a : Nat) : Nat → Nat := fun i => if i = 16 + n then a else if i = 24 + n then a + 1 else fa i
theorem ci_sum_up {w : Nat → Nat} {n q : Nat} : ∀ m, m ≤ n → ci_sum (va_up w n q) m = ci_sum w m
  | 0, _ => rfl
  | m + 1, h => by
    show ci_sum (va_up w n q) m + va_up w n q m = ci_sum w m + w m
    rw [ci_sum_up m (by omega), va_up_ne _ _ (by omega)]
theorem ci_siteI {fa : Nat → Nat} {n : Nat} {w u : Nat → Nat} {b : Nat} {d : Nat → Nat → Nat} {g : Nat × Nat} {k q : Nat} {v v1 : hv_V} (h : ci_I fa n w u b d g k [] v) (hn8 : n < 8) (hq1 : 1 ≤ q) (hq9 : q ≤ 9) (hd1 : ∀ c, (hv_k v c).1 ≠ 0 → c < hv_n v)
    (hk : ∀ c, c ≠ hv_n v → c ≠ hv_n v + 1 → hv_k v1 c = hv_k v c) (hka : hv_k v1 (hv_n v) = (3, 0)) (hka2 : hv_k v1 (hv_n v + 1) = (100, 8))
    (hi : ∀ f c, c ≠ hv_n v → c ≠ hv_n v + 1 → f ≠ 303 → f ≠ 304 → f ≠ 305 → f ≠ 306 → hv_i v1 f c = hv_i v f c) (h303 : hv_i v1 303 (fa 0) = nI (n + 1)) (h304 : hv_i v1 304 (fa 0) = nI (ci_sum w n + q))
    (h200 : hv_i v1 200 (hv_n v) = nI q) (h203 : hv_i v1 203 (hv_n v) = nI 1) (h208 : hv_i v1 208 (hv_n v) = -1) (hp : ∀ f c, c ≠ hv_n v → c ≠ hv_n v + 1 → hv_p v1 f c = hv_p v f c) (h201 : hv_p v1 201 (hv_n v) = some (hv_n v + 1))
    (haa : ∀ c j, c ≠ hv_n v → c ≠ hv_n v + 1 → hv_a v1 c j = hv_a v c j) (hq : ∀ c j, c ≠ hv_n v → c ≠ hv_n v + 1 → ¬ (c = fa 1 ∧ j = n) → hv_q v1 c j = hv_q v c j) (hqn : hv_q v1 (fa 1) n = some (hv_n v)) (hvn : hv_n v1 = hv_n v + 2) (hvt : hv_t v1 = hv_t v + 18) :
    ci_I (cs_ad fa n (hv_n v)) (n + 1) (va_up w n q) (va_up u n 1) b d (g.1 + 2, g.2 + 18) k [] v1 := by
  obtain ⟨hS, hV, hM, hE⟩ := h
  have dom := cs_dom hS
  have f1 : ∀ i, i ≠ 16 + n → i ≠ 24 + n → cs_ad fa n (hv_n v) i = fa i := fun i h1 h2 => by simp [cs_ad, h1, h2]
  have fs : cs_ad fa n (hv_n v) (16 + n) = hv_n v := by simp [cs_ad]
  have fo : cs_ad fa n (hv_n v) (24 + n) = hv_n v + 1 := by simp [cs_ad]
  have old : ∀ i, cs_live n i → fa i ≠ hv_n v ∧ fa i ≠ hv_n v + 1 := fun i hl => by
    have := hd1 _ (dom i hl)
    omega
  have L : ∀ {i : Nat}, i < 7 → cs_live n i := fun {i} hi => cs_live_l hi
  have e0 := f1 0 (by omega) (by omega)
  have e1 := f1 1 (by omega) (by omega)
  have e2 := f1 2 (by omega) (by omega)
  have e3 := f1 3 (by omega) (by omega)
  have e4 := f1 4 (by omega) (by omega)
  have e5 := f1 5 (by omega) (by omega)
  have e6 := f1 6 (by omega) (by omega)
  have er : ∀ i, i < 8 → cs_ad fa n (hv_n v) (8 + i) = fa (8 + i) := fun i hi => f1 _ (by omega) (by omega)
  have et : ∀ i, i < n → cs_ad fa n (hv_n v) (16 + i) = fa (16 + i) := fun i hi => f1 _ (by omega) (by omega)
  have eo : ∀ i, i < n → cs_ad fa n (hv_n v) (24 + i) = fa (24 + i) := fun i hi => f1 _ (by omega) (by omega)
  have k' : ∀ i, cs_live n i → hv_k v1 (fa i) = hv_k v (fa i) := fun i hl => hk _ (old i hl).1 (old i hl).2
  have p' : ∀ f i, cs_live n i → hv_p v1 f (fa i) = hv_p v f (fa i) := fun f i hl => hp f _ (old i hl).1 (old i hl).2
  have i' : ∀ f i, cs_live n i → f ≠ 303 → f ≠ 304 → f ≠ 305 → f ≠ 306 → hv_i v1 f (fa i) = hv_i v f (fa i) := fun f i hl h1 h2 h3 h4 => hi f _ (old i hl).1 (old i hl).2 h1 h2 h3 h4
  have n41 : fa 4 ≠ fa 1 := fun e => absurd (cs_inj hS 4 1 (L (by decide)) (L (by decide)) e) (by decide)
  have n51 : fa 5 ≠ fa 1 := fun e => absurd (cs_inj hS 5 1 (L (by decide)) (L (by decide)) e) (by decide)
  have n61 : fa 6 ≠ fa 1 := fun e => absurd (cs_inj hS 6 1 (L (by decide)) (L (by decide)) e) (by decide)
  refine ⟨⟨by omega, ?_, ?_, ?_, ?_, ?_, ?_, ?_, ?_, ?_, ?_, ?_, ?_, ?_, fun i hi8 => ?_, fun i hin => ?_, fun i j hl1 hl2 he => ?_⟩, ⟨?_, ?_, ?_, ?_, ?_, fun i j hi8 hj8 => ?_, fun i hin => ?_⟩, ?_, ?_, ?_⟩
  · rw [e0, k' 0 (L (by decide))]; exact cs_kX hS
  · rw [e1, k' 1 (L (by decide))]; exact cs_kS hS
  · rw [e2, k' 2 (L (by decide))]; exact cs_kN hS
  · rw [e3, k' 3 (L (by decide))]; exact cs_kL hS
  · rw [e4, k' 4 (L (by decide))]; exact cs_kD hS
  · rw [e5, k' 5 (L (by decide))]; exact cs_kH hS
  · rw [e6, k' 6 (L (by decide))]; exact cs_kT hS
  · rw [e0, e1, p' _ 0 (L (by decide))]; exact cs_pS hS
  · rw [e0, e2, p' _ 0 (L (by decide))]; exact cs_pN hS
  · rw [e0, e3, p' _ 0 (L (by decide))]; exact cs_pL hS
  · rw [e2, e4, p' _ 2 (L (by decide))]; exact cs_pD hS
  · rw [e2, e5, p' _ 2 (L (by decide))]; exact cs_pH hS
  · rw [e2, e6, p' _ 2 (L (by decide))]; exact cs_pT hS
  · rw [e4, er i hi8, k' _ (cs_live_r hi8), hq _ _ (old 4 (L (by decide))).1 (old 4 (L (by decide))).2 (fun z => n41 z.1)]
    exact cs_rows hS i hi8
  · by_cases e : i = n
    · subst e
      rw [e1, fs, fo]
      exact ⟨hqn, hka, h201, hka2⟩
    · have hin : i < n := by omega
      rw [e1, et i hin, eo i hin, k' _ (cs_live_s hin), k' _ (cs_live_o hin), p' _ _ (cs_live_s hin), hq _ _ (old 1 (L (by decide))).1 (old 1 (L (by decide))).2 (fun z => e z.2)]
      exact cs_sites hS i hin
  · have sp : ∀ i, cs_live (n + 1) i → (i = 16 + n ∧ cs_ad fa n (hv_n v) i = hv_n v) ∨ (i = 24 + n ∧ cs_ad fa n (hv_n v) i = hv_n v + 1) ∨ (cs_live n i ∧ cs_ad fa n (hv_n v) i = fa i) := by
      intro i hl
      by_cases c1 : i = 16 + n
      · exact Or.inl ⟨c1, by rw [c1]; exact fs⟩
      · by_cases c2 : i = 24 + n
        · exact Or.inr (Or.inl ⟨c2, by rw [c2]; exact fo⟩)
        · refine Or.inr (Or.inr ⟨?_, f1 i c1 c2⟩)
          rcases hl with hl | ⟨h1, h2⟩ | ⟨h1, h2⟩
          · exact Or.inl hl
          · exact Or.inr (Or.inl ⟨h1, by omega⟩)
          · exact Or.inr (Or.inr ⟨h1, by omega⟩)
    rcases sp i hl1 with ⟨a1, a2⟩ | ⟨a1, a2⟩ | ⟨a1, a2⟩ <;> rcases sp j hl2 with ⟨c1, c2⟩ | ⟨c1, c2⟩ | ⟨c1, c2⟩ <;> rw [a2, c2] at he
    · omega
    · omega
    · exact absurd he.symm (old j c1).1
    · omega
    · omega
    · exact absurd he.symm (old j c1).2
    · exact absurd he (old i a1).1
    · exact absurd he (old i a1).2
    · exact cs_inj hS i j a1 c1 he
  · rw [e0]; exact h303
  · rw [e0, h304]
    show nI (ci_sum w n + q) = nI (ci_sum (va_up w n q) n + va_up w n q n)
    rw [ci_sum_up n (Nat.le_refl _), va_up_self]
  · rw [e0, i' _ 0 (L (by decide)) (by decide) (by decide) (by decide) (by decide)]; exact hV.2.2.1
  · rw [e0, i' _ 0 (L (by decide)) (by decide) (by decide) (by decide) (by decide)]; exact hV.2.2.2.1
  · rw [e2, i' _ 2 (L (by decide)) (by decide) (by decide) (by decide) (by decide)]; exact hV.2.2.2.2.1
  · rw [er i hi8, haa _ _ (old _ (cs_live_r hi8)).1 (old _ (cs_live_r hi8)).2]; exact hV.2.2.2.2.2.1 i j hi8 hj8
  · by_cases e : i = n
    · subst e
      rw [fs, va_up_self, va_up_self, h200, h203, h208]
      exact ⟨hq1, hq9, rfl, by decide, rfl, Or.inl rfl⟩
    · have hin : i < n := by omega
      rw [et i hin, va_up_ne _ _ e, va_up_ne _ _ e, i' _ _ (cs_live_s hin) (by decide) (by decide) (by decide) (by decide), i' _ _ (cs_live_s hin) (by decide) (by decide) (by decide) (by decide), i' _ _ (cs_live_s hin) (by decide) (by decide) (by decide) (by decide)]
      exact hV.2.2.2.2.2.2 i hin
  · obtain ⟨Sl, Sp, ⟨h1, h2, h2', h3, h4, h5⟩, h6⟩ := hM
    have om : ∀ c, c ∈ Sp ++ [] ++ ci_fl 32 Sl → c ≠ hv_n v ∧ c ≠ hv_n v + 1 := fun c hc => by
      have := hd1 c (by rw [(h3 c hc).1]; decide)
      omega
    refine ⟨Sl, Sp, ⟨h1, h2, h2', fun c hc => ?_, ?_, fun s hs => ⟨?_, ?_, fun c hc => ?_⟩⟩, ?_⟩
    · rw [hk c (om c hc).1 (om c hc).2, hi 3 c (om c hc).1 (om c hc).2 (by decide) (by decide) (by decide) (by decide), hi 4 c (om c hc).1 (om c hc).2 (by decide) (by decide) (by decide) (by decide)]
      obtain ⟨g1, f0, t0, g2, g3, g4⟩ := h3 c hc
      exact ⟨g1, f0, t0, by omega, by omega, g4⟩
    · rw [e2, p' _ 2 (L (by decide))]
      exact ci_chF _ _ (fun c hc => hp 7 c (om c (by simp [hc])).1 (om c (by simp [hc])).2) h4
    · rw [e5, hq _ _ (old 5 (L (by decide))).1 (old 5 (L (by decide))).2 (fun z => n51 z.1)]
      exact ci_chF _ _ (fun c hc => hp 7 c (om c (List.mem_append_right _ (ci_fl_mem hs hc))).1 (om c (List.mem_append_right _ (ci_fl_mem hs hc))).2) (h5 s hs).1
    · rw [e6, hq _ _ (old 6 (L (by decide))).1 (old 6 (L (by decide))).2 (fun z => n61 z.1)]
      exact (h5 s hs).2.1
    · have := om c (List.mem_append_right _ (ci_fl_mem hs hc))
      rw [hi 0 c this.1 this.2 (by decide) (by decide) (by decide) (by decide)]
      exact (h5 s hs).2.2 c hc
    · rw [e2, i' _ 2 (L (by decide)) (by decide) (by decide) (by decide) (by decide)]; exact h6
  · rw [hvn, hE.1]; show g.1 + k + 2 = g.1 + 2 + k; omega
  · rw [hvt, hE.2]; show g.2 + 8 * k + 18 = g.2 + 18 + 8 * k; omega
