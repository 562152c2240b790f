theorem nI_half {V : Nat} (h : V < 100) : nI V / 2 + 1 = nI (V / 2 + 1) := by
  have key : ∀ V, V < 100 → nI V / 2 + 1 = nI (V / 2 + 1) := by decide +kernel
  exact key V h
/-- one site more -/
theorem px_site {ys : Nat → Prop} {qc qa am : Nat} {C : PC} {fa : Nat → Nat} {n b q : Nat} {v v1 : hv_V} (hn8 : n < 8) (hS : cs_S fa n v) (h : px_V ys qc qa am C fa n b v) (hd1 : ∀ c, (hv_k v c).1 ≠ 0 → c < hv_n v)
    (hi : ∀ f c, c ≠ hv_n v → c ≠ hv_n v + 1 → f ≠ 303 → f ≠ 304 → f ≠ 305 → f ≠ 306 → hv_i v1 f c = hv_i v f c) (h305 : hv_i v1 305 (fa 0) = nI q) (h306 : hv_i v1 306 (fa 0) = nI q) (hq : q ≤ 100)
    (h202 : hv_i v1 202 (hv_n v) = 0) (h204 : hv_i v1 204 (hv_n v) = 0) (h206 : hv_i v1 206 (hv_n v) = 0) (h207 : hv_i v1 207 (hv_n v) = 0) (h208 : hv_i v1 208 (hv_n v) = -1)
    (haa : ∀ c j, c ≠ hv_n v → c ≠ hv_n v + 1 → hv_a v1 c j = hv_a v c j) (han : ∀ j, hv_a v1 (hv_n v + 1) j = 0) : ∃ C1, px_V ys q q am C1 (cs_ad fa n (hv_n v)) (n + 1) b v1 ∧ ∀ i, i < n + 1 → (∀ k, k < n → C.S k = 0 ∧ C.D k = 0) → C1.S i = 0 ∧ C1.D i = 0 := by
  have dom := cs_dom hS
  have f1 : ∀ i, i ≠ 16 + n → i ≠ 24 + n → cs_ad fa n (hv_n v) i = fa i := fun i h1 h2 => by simp [cs_ad, h1, h2]
  have fs : cs_ad fa n (hv_n v) (16 + n) = hv_n v := by simp [cs_ad]
  have fo : cs_ad fa n (hv_n v) (24 + n) = hv_n v + 1 := by simp [cs_ad]
  have h8 := cs_n8 hS
  have old : ∀ i, cs_live n i → fa i ≠ hv_n v ∧ fa i ≠ hv_n v + 1 := fun i hl => by
    have := hd1 _ (dom i hl)
    omega
  have e0 := f1 0 (by omega) (by omega)
  obtain ⟨p1, p2, p3, p4, p5⟩ := h
  refine ⟨(va_up C.S n 0, va_up C.D n 0, va_up C.A n 0, fun i j => if i = n then False else C.T i j, fun i j => if i = n then 0 else C.O i j), ⟨by rw [e0]; exact ⟨h305, hq⟩, by rw [e0]; exact ⟨h306, hq⟩, p3, fun j hj => ?_, fun i hin => ?_⟩, fun i hin hz => ?_⟩
  · rw [e0, hi 309 _ (old 0 (cs_live_l (by decide))).1 (old 0 (cs_live_l (by decide))).2 (by decide) (by decide) (by decide) (by decide)]; exact p4 j hj
  · by_cases e : i = n
    · subst e
      unfold px_S
      rw [fs, fo, h202, h204, h206, h207, h208]
      refine ⟨⟨by show (0 : Int32) = nI (va_up C.S i 0 i); rw [va_up_self]; exact nI_0.symm, by show va_up C.S i 0 i ≤ 5; rw [va_up_self]; omega⟩, ⟨by show (0 : Int32) = nI (va_up C.D i 0 i); rw [va_up_self]; exact nI_0.symm, by show va_up C.D i 0 i ≤ 4; rw [va_up_self]; omega⟩, ⟨by show (0 : Int32) = nI (va_up C.A i 0 i); rw [va_up_self]; exact nI_0.symm, by show va_up C.A i 0 i ≤ am; rw [va_up_self]; omega⟩, fun j hj z => ?_, fun j hj z => absurd (hb_0 hj) z, fun j hj => ?_, Or.inl rfl⟩
      · have z : (if i = i then False else C.T i j) := z
        rw [if_pos rfl] at z; exact z.elim
      · show hv_a v1 (hv_n v + 1) j = nI (if i = i then 0 else C.O i j) ∧ (if i = i then 0 else C.O i j) ≤ 5
        rw [if_pos rfl, han]; exact ⟨nI_0.symm, by omega⟩
    · have hin : i < n := by omega
      have o : ∀ f, f < 300 → hv_i v1 f (fa (16 + i)) = hv_i v f (fa (16 + i)) := fun f hf => hi f _ (old _ (cs_live_s hin)).1 (old _ (cs_live_s hin)).2 (by omega) (by omega) (by omega) (by omega)
      have e16 : cs_ad fa n (hv_n v) (16 + i) = fa (16 + i) := f1 (16 + i) (by omega) (by omega)
      have e24 : cs_ad fa n (hv_n v) (24 + i) = fa (24 + i) := f1 (24 + i) (by omega) (by omega)
      unfold px_S
      rw [e16, e24, o 202 (by decide), o 204 (by decide), o 206 (by decide), o 207 (by decide), o 208 (by decide)]
      obtain ⟨a1, a2, a3, a4, a5, a6, a7⟩ := p5 i hin
      refine ⟨by show _ = nI (va_up C.S n 0 i) ∧ va_up C.S n 0 i ≤ 5; rw [va_up_ne _ _ e]; exact a1, by show _ = nI (va_up C.D n 0 i) ∧ va_up C.D n 0 i ≤ 4; rw [va_up_ne _ _ e]; exact a2, by show _ = nI (va_up C.A n 0 i) ∧ va_up C.A n 0 i ≤ am; rw [va_up_ne _ _ e]; exact a3, fun j hj z => ?_, fun j hj z => ?_, fun j hj => ?_, a7⟩
      · have z : (if i = n then False else C.T i j) := z
        rw [if_neg e] at z; exact a4 j hj z
      · show (if i = n then False else C.T i j)
        rw [if_neg e]; exact a5 j hj z
      · show hv_a v1 (fa (24 + i)) j = nI (if i = n then 0 else C.O i j) ∧ (if i = n then 0 else C.O i j) ≤ 5
        rw [if_neg e, haa _ _ (old _ (cs_live_o hin)).1 (old _ (cs_live_o hin)).2]; exact a6 j hj
  · show va_up C.S n 0 i = 0 ∧ va_up C.D n 0 i = 0
    by_cases e : i = n
    · rw [e, va_up_self, va_up_self]; exact ⟨rfl, rfl⟩
    · rw [va_up_ne _ _ e, va_up_ne _ _ e]; exact hz i (by omega)
