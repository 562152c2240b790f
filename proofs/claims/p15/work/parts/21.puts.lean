section CPU
variable {fa : Nat → Nat} {n : Nat} {w u : Nat → Nat} {b : Nat} {d : Nat → Nat → Nat} {g : Nat × Nat} {k : Nat} {hd : List Nat} {v : hv_V}
theorem ci_M_si {f a : Nat} {x : Int32} (hf : f ≠ 108 ∧ f ≠ 0 ∧ f ≠ 3 ∧ f ≠ 4) (h : ci_M fa n k hd v) : ci_M fa n k hd (hv_si v f a x) := ci_M_of h (fun _ => rfl) (fun e c he => by rw [hv_si_i, if_neg (fun q => by rcases he with rfl | rfl | rfl | rfl; exact hf.1 q.1.symm; exact hf.2.1 q.1.symm; exact hf.2.2.1 q.1.symm; exact hf.2.2.2 q.1.symm)]) (fun _ => rfl) rfl (fun _ => ⟨rfl, rfl⟩)
/-- begun, or not -/
theorem ci_putB {x : Int32} {b' : Nat} (hx : x = nI b') (hb : b' ≤ 1) (h : ci_I fa n w u b d g k hd v) : ci_I fa n w u b' d g k hd (hv_si v 308 (fa 0) x) := by
  obtain ⟨hS, ⟨h1, h2, h3, h4, h5, h6, h7⟩, hM, hE⟩ := h
  exact ⟨hS, ⟨h1, h2, ⟨by rw [hv_si_i, if_pos ⟨rfl, rfl⟩]; exact hx, hb⟩, h4, h5, h6, h7⟩, ci_M_si (by decide) hM, hE⟩
/-- patience -/
theorem ci_putP {x : Int32} {q : Nat} (hx : x = nI q) (h5q : 5 ≤ q) (hq : q ≤ 100) (h : ci_I fa n w u b d g k hd v) : ci_I fa n w u b d g k hd (hv_si v 307 (fa 0) x) := by
  obtain ⟨hS, ⟨h1, h2, h3, h4, h5, h6, h7⟩, hM, hE⟩ := h
  exact ⟨hS, ⟨h1, h2, h3, ⟨q, h5q, hq, by rw [hv_si_i, if_pos ⟨rfl, rfl⟩]; exact hx⟩, h5, h6, h7⟩, ci_M_si (by decide) hM, hE⟩
/-- a site comes up, or goes down -/
theorem ci_putU {x : Int32} {i z : Nat} (hx : x = nI z) (hz : z ≤ 1) (hi : i < n) (h : ci_I fa n w u b d g k hd v) : ci_I fa n w (va_up u i z) b d g k hd (hv_si v 203 (fa (16 + i)) x) := by
  obtain ⟨hS, ⟨h1, h2, h3, h4, h5, h6, h7⟩, hM, hE⟩ := h
  refine ⟨hS, ⟨h1, h2, h3, h4, h5, h6, fun j hj => ?_⟩, ci_M_si (by decide) hM, hE⟩
  obtain ⟨a1, a2, a3, a4, a5, a6⟩ := h7 j hj
  by_cases e : j = i
  · subst e
    exact ⟨a1, a2, a3, by rw [va_up_self]; exact hz, by rw [va_up_self, hv_si_i, if_pos ⟨rfl, rfl⟩]; exact hx, a6⟩
  · refine ⟨a1, a2, a3, by rw [va_up_ne _ _ e]; exact a4, ?_, a6⟩
    rw [va_up_ne _ _ e, hv_si_i, if_neg (fun q => e (by have := cs_inj hS _ _ (cs_live_s hj) (cs_live_s hi) q.2; omega))]
    exact a5
/-- a link's delay -/
theorem ci_putD {x : Int32} {i j q : Nat} (hx : x = nI q) (hq : q ≤ 20) (hi : i < 8) (hj : j < 8) (h : ci_I fa n w u b d g k hd v) : ci_I fa n w u b (fun a c => if a = i ∧ c = j then q else d a c) g k hd (hv_sa v (fa (8 + i)) (nI j).toNatClampNeg x) := by
  obtain ⟨hS, ⟨h1, h2, h3, h4, h5, h6, h7⟩, hM, hE⟩ := h
  refine ⟨hS, ⟨h1, h2, h3, h4, h5, fun a c ha hc => ?_, h7⟩, ci_M_of hM (fun _ => rfl) (fun _ _ _ => rfl) (fun _ => rfl) rfl (fun _ => ⟨rfl, rfl⟩), hE⟩
  rw [hv_sa_a, cs_cl hj]
  dsimp only
  by_cases e : a = i ∧ c = j
  · obtain ⟨rfl, rfl⟩ := e
    simp only [and_self, if_true]
    exact ⟨hq, hx⟩
  · rw [if_neg e, if_neg (fun q => e ⟨by have := cs_inj hS _ _ (cs_live_r ha) (cs_live_r hi) q.1; omega, q.2⟩)]
    exact h6 a c ha hc
/-- a site begins anew -/
theorem ci_anew {i : Nat} (hi : i < n) (h : ci_I fa n w u b d g k hd v) : ci_I fa n w (va_up u i 1) b d g k hd (hv_si (hv_si (hv_si (hv_si (hv_si (hv_si (hv_si (hv_si v 202 (fa (16 + i)) 0) 203 (fa (16 + i)) 1) 204 (fa (16 + i)) 0) 205 (fa (16 + i)) 0) 206 (fa (16 + i)) 0) 207 (fa (16 + i)) 0) 208 (fa (16 + i)) (-1)) 209 (fa (16 + i)) 0) := by
  have h := ci_put (f := 202) (a := fa (16 + i)) (x := 0) rfl h
  have h := ci_putU (x := 1) (z := 1) rfl (by decide) hi h
  have h := ci_put (f := 204) (a := fa (16 + i)) (x := 0) rfl h
  have h := ci_put (f := 205) (a := fa (16 + i)) (x := 0) rfl h
  have h := ci_put (f := 206) (a := fa (16 + i)) (x := 0) rfl h
  have h := ci_put (f := 207) (a := fa (16 + i)) (x := 0) rfl h
  have h := ci_putT (x := -1) (Or.inl rfl) h hi
  exact ci_put (f := 209) (a := fa (16 + i)) (x := 0) rfl h
end CPU
theorem is_rng {x : Int32} {a m : Nat} (hm : m < 2 ^ 31) (h1 : ¬ x < nI a) (h2 : ¬ nI m < x) (ha : a < 2 ^ 31) : ∃ q, a ≤ q ∧ q ≤ m ∧ x = nI q := by
  have h0 : ¬ x < 0 := fun h => h1 (by
    rw [Int32.lt_iff_toInt_lt] at h ⊢
    rw [nI_toInt ha]
    rw [Int32.toInt_zero] at h
    omega)
  obtain ⟨q, hq, rfl⟩ := nI_of h0
  refine ⟨q, ?_, ?_, rfl⟩
  · rcases Nat.lt_or_ge q a with c | c
    · exact absurd ((nI_ltI hq ha).mpr c) h1
    · exact c
  · rcases Nat.lt_or_ge m q with c | c
    · exact absurd ((nI_ltI hm hq).mpr c) h2
    · exact c
