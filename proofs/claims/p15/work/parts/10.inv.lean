/-- sums of weights -/
def ci_sum (w : Nat → Nat) : Nat → Nat
  | 0 => 0
  | k + 1 => ci_sum w k + w k
/-- a timer: off, or set to a time that is not far -/
def ci_tm (x : Int32) : Prop := x = -1 ∨ ∃ t : Nat, t ≤ 5000 ∧ x = nI t
/-- the numbers of the class's state: sites n, weights w, up u, begun b, delays d -/
def ci_V (fa : Nat → Nat) (n : Nat) (w u : Nat → Nat) (b : Nat) (d : Nat → Nat → Nat) (v : hv_V) : Prop :=
  hv_i v 303 (fa 0) = nI n ∧ hv_i v 304 (fa 0) = nI (ci_sum w n) ∧ (hv_i v 308 (fa 0) = nI b ∧ b ≤ 1) ∧ (∃ q : Nat, 5 ≤ q ∧ q ≤ 100 ∧ hv_i v 307 (fa 0) = nI q) ∧ (∃ t : Nat, t ≤ 4000 ∧ hv_i v 104 (fa 2) = nI t) ∧
  (∀ i j, i < 8 → j < 8 → d i j ≤ 20 ∧ hv_a v (fa (8 + i)) j = nI (d i j)) ∧
  ∀ i, i < n → 1 ≤ w i ∧ w i ≤ 9 ∧ hv_i v 200 (fa (16 + i)) = nI (w i) ∧ u i ≤ 1 ∧ hv_i v 203 (fa (16 + i)) = nI (u i) ∧ ci_tm (hv_i v 208 (fa (16 + i)))
/-- a chain of messages -/
def ci_ch (v : hv_V) : Option Nat → List Nat → Prop
  | p, [] => p = none
  | p, a :: r => p = some a ∧ ci_ch v (hv_p v 7 a) r
/-- the messages of all slots -/
def ci_fl (N : Nat) (Sl : Nat → List Nat) : List Nat := (List.range N).flatMap Sl
/-- the messages: k were made; those in hd are in no chain now -/
def ci_L (fa : Nat → Nat) (n k : Nat) (hd : List Nat) (Sl : Nat → List Nat) (Sp : List Nat) (v : hv_V) : Prop :=
  (Sp ++ hd ++ ci_fl 32 Sl).Nodup ∧ (Sp ++ hd ++ ci_fl 32 Sl).length = k ∧ k ≤ 4097 ∧
    (∀ a, a ∈ Sp ++ hd ++ ci_fl 32 Sl → hv_k v a = (1, 0) ∧ ∃ f t : Nat, f < n ∧ t < n ∧ hv_i v 3 a = nI f ∧ hv_i v 4 a = nI t) ∧
    ci_ch v (hv_p v 103 (fa 2)) Sp ∧ ∀ s, s < 32 → ci_ch v (hv_q v (fa 5) s) (Sl s) ∧ hv_q v (fa 6) s = (Sl s).getLast? ∧ ∀ a, a ∈ Sl s → ∃ t : Nat, t ≤ 4020 ∧ t % 32 = s ∧ hv_i v 0 a = nI t
def ci_M (fa : Nat → Nat) (n k : Nat) (hd : List Nat) (v : hv_V) : Prop := ∃ (Sl : Nat → List Nat) (Sp : List Nat), ci_L fa n k hd Sl Sp v ∧ hv_i v 108 (fa 2) = nI (ci_fl 32 Sl).length
/-- the class's state: g tells the cells and slots that aren't messages' -/
def ci_I (fa : Nat → Nat) (n : Nat) (w u : Nat → Nat) (b : Nat) (d : Nat → Nat → Nat) (g : Nat × Nat) (k : Nat) (hd : List Nat) (v : hv_V) : Prop := cs_S fa n v ∧ ci_V fa n w u b d v ∧ ci_M fa n k hd v ∧ hv_n v = g.1 + k ∧ hv_t v = g.2 + 8 * k
/-- int fields of which the state's picture says nothing -/
def ci_free (f : Nat) : Bool := !([303, 304, 307, 308, 104, 200, 203, 208, 108, 0, 3, 4].contains f)
theorem ci_chE {v v1 : hv_V} (h : ∀ a, hv_p v1 7 a = hv_p v 7 a) : ∀ (r : List Nat) (p : Option Nat), ci_ch v p r → ci_ch v1 p r
  | [], _, q => q
  | a :: r, _, q => ⟨q.1, by rw [h]; exact ci_chE h r _ q.2⟩
section CII
variable {fa : Nat → Nat} {n : Nat} {w u : Nat → Nat} {b : Nat} {d : Nat → Nat → Nat} {g : Nat × Nat} {k : Nat} {hd : List Nat} {v v1 : hv_V}
theorem cs_S_of (h : cs_S fa n v) (hk : ∀ a, hv_k v1 a = hv_k v a) (hp : ∀ f a, f ≠ 103 → f ≠ 7 → hv_p v1 f a = hv_p v f a) (hq : ∀ a j, a ≠ fa 5 → a ≠ fa 6 → hv_q v1 a j = hv_q v a j) : cs_S fa n v1 := by
  obtain ⟨h1, h2, h3, h4, h5, h6, h7, h8, p1, p2, p3, p4, p5, p6, r, t, ij⟩ := h
  have n45 : fa 4 ≠ fa 5 := fun e => absurd (ij 4 5 (Or.inl ⟨by decide, by decide⟩) (Or.inl ⟨by decide, by decide⟩) e) (by decide)
  have n46 : fa 4 ≠ fa 6 := fun e => absurd (ij 4 6 (Or.inl ⟨by decide, by decide⟩) (Or.inl ⟨by decide, by decide⟩) e) (by decide)
  have n15 : fa 1 ≠ fa 5 := fun e => absurd (ij 1 5 (Or.inl ⟨by decide, by decide⟩) (Or.inl ⟨by decide, by decide⟩) e) (by decide)
  have n16 : fa 1 ≠ fa 6 := fun e => absurd (ij 1 6 (Or.inl ⟨by decide, by decide⟩) (Or.inl ⟨by decide, by decide⟩) e) (by decide)
  refine ⟨h1, by rw [hk]; exact h2, by rw [hk]; exact h3, by rw [hk]; exact h4, by rw [hk]; exact h5, by rw [hk]; exact h6, by rw [hk]; exact h7, by rw [hk]; exact h8, ?_, ?_, ?_, ?_, ?_, ?_, fun i hi => ?_, fun i hi => ?_, ij⟩
  · rw [hp _ _ (by decide) (by decide)]; exact p1
  · rw [hp _ _ (by decide) (by decide)]; exact p2
  · rw [hp _ _ (by decide) (by decide)]; exact p3
  · rw [hp _ _ (by decide) (by decide)]; exact p4
  · rw [hp _ _ (by decide) (by decide)]; exact p5
  · rw [hp _ _ (by decide) (by decide)]; exact p6
  · rw [hk, hq _ _ n45 n46]; exact r i hi
  · rw [hk, hk, hq _ _ n15 n16, hp _ _ (by decide) (by decide)]; exact t i hi
theorem ci_V_of (h : ci_V fa n w u b d v) (hi : ∀ f a, f ≠ 108 → f ≠ 0 → f ≠ 3 → f ≠ 4 → ci_free f = false → hv_i v1 f a = hv_i v f a) (ha : ∀ i j, i < 8 → hv_a v1 (fa (8 + i)) j = hv_a v (fa (8 + i)) j) : ci_V fa n w u b d v1 := by
  obtain ⟨h1, h2, h3, h4, h5, h6, h7⟩ := h
  refine ⟨?_, ?_, ?_, ?_, ?_, fun i j hi' hj => ?_, fun i hi' => ?_⟩
  · rw [hi _ _ (by decide) (by decide) (by decide) (by decide) rfl]; exact h1
  · rw [hi _ _ (by decide) (by decide) (by decide) (by decide) rfl]; exact h2
  · rw [hi _ _ (by decide) (by decide) (by decide) (by decide) rfl]; exact h3
  · rw [hi _ _ (by decide) (by decide) (by decide) (by decide) rfl]; exact h4
  · rw [hi _ _ (by decide) (by decide) (by decide) (by decide) rfl]; exact h5
  · rw [ha i j hi']; exact h6 i j hi' hj
  · rw [hi _ _ (by decide) (by decide) (by decide) (by decide) rfl, hi _ _ (by decide) (by decide) (by decide) (by decide) rfl, hi _ _ (by decide) (by decide) (by decide) (by decide) rfl]; exact h7 i hi'
theorem ci_L_of {Sl : Nat → List Nat} {Sp : List Nat} (h : ci_L fa n k hd Sl Sp v) (hk : ∀ a, hv_k v1 a = hv_k v a) (hi : ∀ f a, f = 0 ∨ f = 3 ∨ f = 4 → hv_i v1 f a = hv_i v f a) (hp : ∀ a, hv_p v1 7 a = hv_p v 7 a) (hs : hv_p v1 103 (fa 2) = hv_p v 103 (fa 2)) (hq : ∀ j, hv_q v1 (fa 5) j = hv_q v (fa 5) j ∧ hv_q v1 (fa 6) j = hv_q v (fa 6) j) : ci_L fa n k hd Sl Sp v1 := by
  obtain ⟨h1, h2, h2', h3, h4, h5⟩ := h
  refine ⟨h1, h2, h2', fun a ha => ?_, ?_, fun s hs' => ⟨?_, ?_, fun a ha => ?_⟩⟩
  · rw [hk, hi 3 a (by simp), hi 4 a (by simp)]; exact h3 a ha
  · rw [hs]; exact ci_chE hp _ _ h4
  · rw [(hq s).1]; exact ci_chE hp _ _ (h5 s hs').1
  · rw [(hq s).2]; exact (h5 s hs').2.1
  · rw [hi 0 a (by simp)]; exact (h5 s hs').2.2 a ha
theorem ci_M_of (h : ci_M fa n k hd v) (hk : ∀ a, hv_k v1 a = hv_k v a) (hi : ∀ f a, f = 108 ∨ f = 0 ∨ f = 3 ∨ f = 4 → hv_i v1 f a = hv_i v f a) (hp : ∀ a, hv_p v1 7 a = hv_p v 7 a) (hs : hv_p v1 103 (fa 2) = hv_p v 103 (fa 2)) (hq : ∀ j, hv_q v1 (fa 5) j = hv_q v (fa 5) j ∧ hv_q v1 (fa 6) j = hv_q v (fa 6) j) : ci_M fa n k hd v1 := by
  obtain ⟨Sl, Sp, h1, h2⟩ := h
  exact ⟨Sl, Sp, ci_L_of h1 hk (fun f a hf => hi f a (Or.inr hf)) hp hs hq, by rw [hi 108 _ (by simp)]; exact h2⟩
/-- an int field of which nothing is said -/
theorem ci_put {f a : Nat} {x : Int32} (hf : ci_free f = true) (h : ci_I fa n w u b d g k hd v) : ci_I fa n w u b d g k hd (hv_si v f a x) := by
  have ne : ∀ e, ci_free e = false → e ≠ f := fun e hg e1 => by rw [e1, hf] at hg; cases hg
  refine ⟨h.1, ci_V_of h.2.1 (fun e c _ _ _ _ hg => by rw [hv_si_i, if_neg (fun q => ne e hg q.1)]) (fun _ _ _ => rfl), ci_M_of h.2.2.1 (fun _ => rfl) (fun e c hg => ?_) (fun _ => rfl) rfl (fun _ => ⟨rfl, rfl⟩), h.2.2.2⟩
  rw [hv_si_i, if_neg (fun q => ne e (by rcases hg with rfl | rfl | rfl | rfl <;> rfl) q.1)]
/-- elements of an int array that isn't a row of delays -/
theorem ci_puta {a j : Nat} {x : Int32} (ha : ∀ i, i < 8 → fa (8 + i) ≠ a) (h : ci_I fa n w u b d g k hd v) : ci_I fa n w u b d g k hd (hv_sa v a j x) :=
  ⟨h.1, ci_V_of h.2.1 (fun _ _ _ _ _ _ _ => rfl) (fun i j' hi => by rw [hv_sa_a, if_neg (fun q => ha i hi q.1)]), ci_M_of h.2.2.1 (fun _ => rfl) (fun _ _ _ => rfl) (fun _ => rfl) rfl (fun _ => ⟨rfl, rfl⟩), h.2.2.2⟩
theorem cs_live_r {i : Nat} (hi : i < 8) : cs_live n (8 + i) := Or.inl ⟨by omega, by omega⟩
theorem cs_live_l {i : Nat} (hi : i < 7) : cs_live n i := Or.inl ⟨by omega, by omega⟩
theorem cs_live_s {i : Nat} (hi : i < n) : cs_live n (16 + i) := Or.inr (Or.inl ⟨by omega, by omega⟩)
theorem cs_live_o {i : Nat} (hi : i < n) : cs_live n (24 + i) := Or.inr (Or.inr ⟨by omega, by omega⟩)
theorem ci_putL {j : Nat} {x : Int32} (h : ci_I fa n w u b d g k hd v) : ci_I fa n w u b d g k hd (hv_sa v (fa 3) j x) := ci_puta (fun i hi e => absurd (cs_inj h.1 _ _ (cs_live_r hi) (cs_live_l (by decide)) e) (by omega)) h
theorem ci_puto {i j : Nat} {x : Int32} (hi : i < n) (h : ci_I fa n w u b d g k hd v) : ci_I fa n w u b d g k hd (hv_sa v (fa (24 + i)) j x) := ci_puta (fun i' hi' e => absurd (cs_inj h.1 _ _ (cs_live_r hi') (cs_live_o hi) e) (by have := cs_n8 h.1; omega)) h
/-- a site's timer -/
theorem ci_putT {i : Nat} {x : Int32} (hx : ci_tm x) (h : ci_I fa n w u b d g k hd v) (hi : i < n) : ci_I fa n w u b d g k hd (hv_si v 208 (fa (16 + i)) x) := by
  obtain ⟨hS, ⟨h1, h2, h3, h4, h5, h6, h7⟩, hM, hE⟩ := h
  refine ⟨hS, ⟨h1, h2, h3, h4, h5, h6, fun i' hi' => ?_⟩, ci_M_of hM (fun _ => rfl) (fun g c hg => ?_) (fun _ => rfl) rfl (fun _ => ⟨rfl, rfl⟩), hE⟩
  · obtain ⟨a1, a2, a3, a4, a5, a6⟩ := h7 i' hi'
    refine ⟨a1, a2, a3, a4, a5, ?_⟩
    rw [hv_si_i]
    split
    · exact hx
    · exact a6
  · rw [hv_si_i, if_neg (fun q => by rcases hg with rfl | rfl | rfl | rfl <;> exact absurd q.1 (by decide))]
/-- the time -/
theorem ci_putN {t : Nat} (ht : t ≤ 4000) (h : ci_I fa n w u b d g k hd v) : ci_I fa n w u b d g k hd (hv_si v 104 (fa 2) (nI t)) := by
  obtain ⟨hS, ⟨h1, h2, h3, h4, h5, h6, h7⟩, hM, hE⟩ := h
  refine ⟨hS, ⟨h1, h2, h3, h4, ⟨t, ht, by rw [hv_si_i, if_pos ⟨rfl, rfl⟩]⟩, h6, h7⟩, ci_M_of hM (fun _ => rfl) (fun g c hg => ?_) (fun _ => rfl) rfl (fun _ => ⟨rfl, rfl⟩), hE⟩
  rw [hv_si_i, if_neg (fun q => by rcases hg with rfl | rfl | rfl | rfl <;> exact absurd q.1 (by decide))]
end CII
