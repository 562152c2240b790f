section CJP
variable {ys : Nat → Prop} {qc qa am : Nat} {G : PG} {C : PC} {fa : Nat → Nat} {n : Nat} {w u : Nat → Nat} {b : Nat} {d : Nat → Nat → Nat} {g : Nat × Nat} {k : Nat} {hd : List Nat} {v v1 : hv_V} {i : Nat}
theorem cj_putP {x : Int32} {q : Nat} (hx : x = nI q) (h5q : 5 ≤ q) (hq : q ≤ 100) (h : cj_I ys qc qa am G C fa n w u b d g k hd v) : cj_I ys qc qa am G C fa n w u b d g k hd (hv_si v 307 (fa 0) x) := ⟨ci_putP hx h5q hq h.1, px_si rfl h.2⟩
theorem cj_putU {x : Int32} {z : Nat} (hx : x = nI z) (hz : z ≤ 1) (hi : i < n) (h : cj_I ys qc qa am G C fa n w u b d g k hd v) : cj_I ys qc qa am G C fa n w (va_up u i z) b d g k hd (hv_si v 203 (fa (16 + i)) x) := ⟨ci_putU hx hz hi h.1, px_si rfl h.2⟩
theorem cj_putD {x : Int32} {j q : Nat} (hx : x = nI q) (hq : q ≤ 20) (hi : i < 8) (hj : j < 8) (h : cj_I ys qc qa am G C fa n w u b d g k hd v) : cj_I ys qc qa am G C fa n w u b (fun a c => if a = i ∧ c = j then q else d a c) g k hd (hv_sa v (fa (8 + i)) (nI j).toNatClampNeg x) := ⟨ci_putD hx hq hi hj h.1, px_sa (fun e he z => absurd (cs_inj h.1.1 _ _ (cs_live_o he) (cs_live_r hi) z) (by omega)) h.2⟩
/-- nothing is on its way before it begins -/
theorem cj_any {qm' : hq_T} (h : cj_I ys qc qa am G C fa n w u 0 d g k hd v) : ci_I qm' fa n w u 0 d g k hd v := ci_mono (fun _ _ _ _ _ q => absurd (show (0 : Nat) = 1 from q.1) (by decide)) h.1
theorem cj_305 {x : Int32} {q : Nat} (hx : x = nI q) (hq : q ≤ 100) (h : cj_I ys qc qa am G C fa n w u 0 d g k hd v) : cj_I ys q qa am G C fa n w u 0 d g k hd (hv_si v 305 (fa 0) x) := by
  refine ⟨ci_put rfl (cj_any h), ⟨px_self.trans hx, hq⟩, ?_, h.2.2.2.1, fun j hj => ?_, fun k hk => ?_⟩
  · rw [px_oth (by decide)]; exact h.2.2.1
  · rw [px_oth (by decide)]; exact h.2.2.2.2.1 j hj
  · unfold px_S
    rw [px_oth (by decide), px_oth (by decide), px_oth (by decide), px_oth (by decide), px_oth (by decide)]
    exact h.2.2.2.2.2 k hk
theorem cj_306 {x : Int32} {q : Nat} (hx : x = nI q) (hq : q ≤ 100) (h : cj_I ys qc qa am G C fa n w u 0 d g k hd v) : cj_I ys qc q am G C fa n w u 0 d g k hd (hv_si v 306 (fa 0) x) := by
  refine ⟨ci_put rfl (cj_any h), ?_, ⟨px_self.trans hx, hq⟩, h.2.2.2.1, fun j hj => ?_, fun k hk => ?_⟩
  · rw [px_oth (by decide)]; exact h.2.1
  · rw [px_oth (by decide)]; exact h.2.2.2.2.1 j hj
  · unfold px_S
    rw [px_oth (by decide), px_oth (by decide), px_oth (by decide), px_oth (by decide), px_oth (by decide)]
    exact h.2.2.2.2.2 k hk
theorem cj_begin {H : PG} (h : cj_I ys qc qa am G C fa n w u 0 d g k hd v) : cj_I ys qc qa am H C fa n w u 1 d g k hd (hv_si v 308 (fa 0) 1) := by
  refine ⟨ci_putB (x := 1) (b' := 1) rfl (by decide) (cj_any h), ?_⟩
  have h2 := px_si (f := 308) (a := fa 0) (x := 1) rfl h.2
  obtain ⟨h1, h3, h4, h5, h6⟩ := h2
  refine ⟨h1, h3, h4, h5, fun k hk => ?_⟩
  obtain ⟨a1, a2, a3, a4, a5, a6, a7⟩ := h6 k hk
  exact ⟨a1, a2, a3, a4, a5, a6, Or.inr rfl⟩
theorem cj_309 {x : Int32} (h : cj_I ys qc qa am G C fa n w u b d g k hd v) : cj_I (fun j => ¬ hb_ x (nI j) = 0) qc qa am G C fa n w u b d g k hd (hv_si v 309 (fa 0) x) := by
  refine ⟨ci_put rfl (ci_mono (fun _ _ _ _ _ q => q) h.1), ?_, ?_, h.2.2.2.1, fun j hj => ?_, fun k hk => ?_⟩
  · rw [px_oth (by decide)]; exact h.2.1
  · rw [px_oth (by decide)]; exact h.2.2.1
  · rw [px_self]
  · unfold px_S
    rw [px_oth (by decide), px_oth (by decide), px_oth (by decide), px_oth (by decide), px_oth (by decide)]
    exact h.2.2.2.2.2 k hk
theorem cst_rest (hi : i < n) (h : cst ys qc qa n w b G C) : cst ys qc qa n w b G (pc_D C i 0) := by
  refine ⟨fun z => pr_rest (h.1 z) hi pc_D_off rfl (va_up_self ..) rfl, fun z k hk => ⟨(h.2.1 z k hk).1, ?_⟩, h.2.2⟩
  show va_up C.D i 0 k = 0
  by_cases q : k = i
  · rw [q, va_up_self]
  · rw [va_up_ne _ _ q]; exact (h.2.1 z k hk).2
theorem cst_ck (h : cst ys qc qa n w b G C) (hb : b ≤ 1) {x1 x2 : Int32} (h1 : x1 = 0 ∨ ∃ k, k < n ∧ C.S k = 4) (h2 : x2 = 0 ∨ ∃ k, k < n ∧ (C.S k = 5 ∨ b = 1 ∧ ¬ ys k)) (n1 : ¬ x1 = 0) (n2 : ¬ x2 = 0) : False := by
  obtain ⟨k, hk, h4⟩ := h1.resolve_left n1
  obtain ⟨j, hj, h5⟩ := h2.resolve_left n2
  by_cases q : b = 0
  · have := (h.2.1 q k hk).1
    omega
  · have q1 : b = 1 := by omega
    refine pr_check (h.1 q1) hk hj h4 ?_
    rcases h5 with z | z
    · exact Or.inl z
    · exact Or.inr z.2
/-- while all begins anew -/
def px_R (qc qa : Nat) (C : PC) (fa : Nat → Nat) (n i : Nat) (v : hv_V) : Prop := (hv_i v 305 (fa 0) = nI qc ∧ qc ≤ 100) ∧ (hv_i v 306 (fa 0) = nI qa ∧ qa ≤ 100) ∧ (∀ k, k < n → ∀ j, j < 8 → hv_a v (fa (24 + k)) j = nI (C.O k j) ∧ C.O k j ≤ 5) ∧ ∀ k, k < i → hv_i v 204 (fa (16 + k)) = 0 ∧ hv_i v 206 (fa (16 + k)) = 0 ∧ hv_i v 207 (fa (16 + k)) = 0 ∧ hv_i v 208 (fa (16 + k)) = -1
theorem px_R0 (h : px_V ys qc qa am C fa n b v) (hi : ∀ f c, f = 305 ∨ f = 306 → hv_i v1 f c = hv_i v f c) (ha : ∀ i j, i < n → hv_a v1 (fa (24 + i)) j = hv_a v (fa (24 + i)) j) : px_R qc qa C fa n 0 v1 :=
  ⟨by rw [hi _ _ (Or.inl rfl)]; exact h.1, by rw [hi _ _ (Or.inr rfl)]; exact h.2.1, fun k hk j hj => by rw [ha k j hk]; exact (h.2.2.2.2 k hk).2.2.2.2.2.1 j hj, fun k hk => by omega⟩
theorem px_Rs (hS : cs_S fa n v) (hi : i < n) (h : px_R qc qa C fa n i v) : px_R qc qa C fa n (i + 1) (hv_si (hv_si (hv_si (hv_si (hv_si (hv_si (hv_si (hv_si v 202 (fa (16 + i)) 0) 203 (fa (16 + i)) 1) 204 (fa (16 + i)) 0) 205 (fa (16 + i)) 0) 206 (fa (16 + i)) 0) 207 (fa (16 + i)) 0) 208 (fa (16 + i)) (-1)) 209 (fa (16 + i)) 0) := by
  obtain ⟨h1, h2, h3, h4⟩ := h
  refine ⟨by simp [hv_si_i]; exact h1, by simp [hv_si_i]; exact h2, h3, fun k hk => ?_⟩
  by_cases q : k = i
  · subst q; simp [hv_si_i]
  · have ne := px_ne hS (show k < n by omega) hi q
    simp [hv_si_i, ne]
    exact h4 k (by omega)
theorem px_Rend (h : px_R qc qa C fa n n v) (ha : am ≤ 1000000000) : ∃ ys1 C1, px_V ys1 qc qa am C1 fa n 0 v ∧ ∀ i, i < n → C1.S i = 0 ∧ C1.D i = 0 := by
  obtain ⟨h1, h2, h3, h4⟩ := h
  refine ⟨fun j => ¬ hb_ (hv_i v 309 (fa 0)) (nI j) = 0, (fun _ => 0, fun _ => 0, fun _ => 0, fun i j => ¬ hb_ (hv_i v 202 (fa (16 + i))) (nI j) = 0, C.O), ⟨h1, h2, ha, fun j hj => Iff.rfl, fun k hk => ?_⟩, fun i hi => ⟨rfl, rfl⟩⟩
  obtain ⟨a1, a2, a3, a4⟩ := h4 k hk
  exact ⟨⟨by rw [a1]; exact nI_0.symm, Nat.zero_le _⟩, ⟨by rw [a2]; exact nI_0.symm, Nat.zero_le _⟩, ⟨by rw [a3]; exact nI_0.symm, Nat.zero_le _⟩, fun j hj z => z, fun j hj z => z, h3 k hk, Or.inl a4⟩
end CJP
