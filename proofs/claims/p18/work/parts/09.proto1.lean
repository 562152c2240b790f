/-! ===== the protocol: why nobody commits while another one aborts ===== -/
/-- what has happened: votes are complete (c), who was ever ready for which (e: 0, 2, 3), who aborted of itself (f), who said yes (y), what i led to with an attempt (K) -/
abbrev PG := Nat × (Nat → Nat) × (Nat → Nat) × (Nat → Nat) × (Nat → Nat → Nat)
abbrev PG.c (G : PG) : Nat := G.1
abbrev PG.e (G : PG) : Nat → Nat := G.2.1
abbrev PG.f (G : PG) : Nat → Nat := G.2.2.1
abbrev PG.y (G : PG) : Nat → Nat := G.2.2.2.1
abbrev PG.K (G : PG) : Nat → Nat → Nat := G.2.2.2.2
/-- the sites: state, what it does, attempt, who is there, states told -/
abbrev PC := (Nat → Nat) × (Nat → Nat) × (Nat → Nat) × (Nat → Nat → Prop) × (Nat → Nat → Nat)
abbrev PC.S (C : PC) : Nat → Nat := C.1
abbrev PC.D (C : PC) : Nat → Nat := C.2.1
abbrev PC.A (C : PC) : Nat → Nat := C.2.2.1
abbrev PC.T (C : PC) : Nat → Nat → Prop := C.2.2.2.1
abbrev PC.O (C : PC) : Nat → Nat → Nat := C.2.2.2.2
/-- weight of those that were ever ready for r -/
def pg_W (n : Nat) (w : Nat → Nat) (e : Nat → Nat) (r : Nat) : Nat := ci_sum (fun j => if e j = r then w j else 0) n
/-- what is fixed while a transaction goes on: sites, weights, votes, quorums -/
abbrev PF := Nat × (Nat → Nat) × (Nat → Prop) × Nat × Nat
abbrev PF.n (F : PF) : Nat := F.1
abbrev PF.w (F : PF) : Nat → Nat := F.2.1
abbrev PF.ys (F : PF) : Nat → Prop := F.2.2.1
abbrev PF.qc (F : PF) : Nat := F.2.2.2.1
abbrev PF.qa (F : PF) : Nat := F.2.2.2.2
def pg_CO (F : PF) (G : PG) : Prop := G.c = 1 ∧ F.qc ≤ pg_W F.n F.w G.e 2
def pg_AB (F : PF) (G : PG) : Prop := (∃ j, j < F.n ∧ G.f j = 1) ∨ F.qa ≤ pg_W F.n F.w G.e 3
/-- a message from a to b -/
def pm_ok (F : PF) (G : PG) (κ a b at_ s : Nat) : Prop := κ ≤ 10 ∧ s ≤ 5 ∧ (κ = 2 → G.y a = 1) ∧ (κ = 5 → (s = 2 → G.c = 1) ∧ (s = 4 → pg_CO F G) ∧ (s = 5 → pg_AB F G)) ∧ (κ = 6 → G.c = 1 ∧ G.K a at_ = 2) ∧ (κ = 7 → G.K a at_ = 3) ∧ (κ = 8 → G.K b at_ = G.e a ∧ G.e a ≠ 0) ∧ (κ = 9 → pg_CO F G) ∧ (κ = 10 → pg_AB F G)
/-- a site -/
def ps_ok (F : PF) (G : PG) (C : PC) (i : Nat) : Prop := C.S i ≤ 5 ∧ C.D i ≤ 4 ∧ (C.S i < 2 → G.e i = 0) ∧ (C.S i = 2 → G.c = 1 ∧ G.e i = 2) ∧ (C.S i = 3 → G.e i = 3) ∧ (C.S i = 4 → pg_CO F G) ∧ (C.S i = 5 → pg_AB F G) ∧
  (G.y i = 1 → F.ys i ∧ C.S i ≠ 0 ∧ G.f i ≠ 1 ∧ C.D i ≠ 1) ∧ (G.f i = 1 → C.S i = 5) ∧ (G.c = 1 → F.ys i ∧ G.f i ≠ 1 ∧ C.S i ≠ 0 ∧ C.D i ≠ 1) ∧
  (C.D i = 1 → F.ys i ∧ C.S i ≠ 0 ∧ G.y i ≠ 1 ∧ G.f i ≠ 1 ∧ ∀ j, j < F.n → C.T i j → j = i ∨ G.y j = 1) ∧
  (C.D i = 2 → G.c = 1 ∧ G.K i (C.A i) = 2 ∧ ∀ j, j < F.n → C.T i j → G.e j = 2) ∧
  (C.D i = 4 → G.K i (C.A i) = 3 ∧ ∀ j, j < F.n → C.T i j → G.e j = 3) ∧
  (C.D i = 3 → G.K i (C.A i) = 0 ∧ ∀ j, j < F.n → C.T i j → C.O i j = 2 → G.c = 1) ∧
  ∀ a, C.A i < a → G.K i a = 0
/-- all sites; at most one collects votes; the quorums are more than all -/
def pr_ok (F : PF) (G : PG) (C : PC) : Prop := ci_sum F.w F.n < F.qc + F.qa ∧ (∀ i, i < F.n → ps_ok F G C i) ∧ ∀ i j, i < F.n → j < F.n → C.D i = 1 → C.D j = 1 → i = j
/-- later -/
def pg_le (G H : PG) : Prop := (G.c = 1 → H.c = 1) ∧ (∀ j, G.e j ≠ 0 → H.e j = G.e j) ∧ (∀ j, G.f j = 1 → H.f j = 1) ∧ (∀ j, G.y j = 1 → H.y j = 1) ∧ ∀ i a, G.K i a ≠ 0 → H.K i a = G.K i a
theorem pg_le.rf {G : PG} : pg_le G G := ⟨id, fun _ _ => rfl, fun _ h => h, fun _ h => h, fun _ _ _ => rfl⟩
theorem pg_le.tr {G H I : PG} (h1 : pg_le G H) (h2 : pg_le H I) : pg_le G I :=
  ⟨fun h => h2.1 (h1.1 h), fun j h => by rw [h2.2.1 j (by rw [h1.2.1 j h]; exact h), h1.2.1 j h], fun j h => h2.2.2.1 j (h1.2.2.1 j h), fun j h => h2.2.2.2.1 j (h1.2.2.2.1 j h), fun i a h => by rw [h2.2.2.2.2 i a (by rw [h1.2.2.2.2 i a h]; exact h), h1.2.2.2.2 i a h]⟩
theorem ci_sum_mono {f f1 : Nat → Nat} : ∀ m, (∀ i, i < m → f i ≤ f1 i) → ci_sum f m ≤ ci_sum f1 m
  | 0, _ => Nat.le_refl _
  | m + 1, h => by
    show ci_sum f m + f m ≤ ci_sum f1 m + f1 m
    have := ci_sum_mono m (fun i hi => h i (by omega))
    have := h m (by omega)
    omega
theorem pg_W_mono {n : Nat} {w e e1 : Nat → Nat} {r : Nat} (hr : r ≠ 0) (h : ∀ j, e j ≠ 0 → e1 j = e j) : pg_W n w e r ≤ pg_W n w e1 r := by
  refine ci_sum_mono n (fun j _ => ?_)
  by_cases q : e j = r
  · rw [if_pos q, if_pos ((h j (by omega)).trans q)]; exact Nat.le_refl _
  · rw [if_neg q]; exact Nat.zero_le _
theorem pg_COm {F : PF} {G H : PG} (h : pg_le G H) (q : pg_CO F G) : pg_CO F H := ⟨h.1 q.1, Nat.le_trans q.2 (pg_W_mono (by decide) h.2.1)⟩
theorem pg_ABm {F : PF} {G H : PG} (h : pg_le G H) (q : pg_AB F G) : pg_AB F H := by
  rcases q with ⟨j, hj, hf⟩ | q
  · exact Or.inl ⟨j, hj, h.2.2.1 j hf⟩
  · exact Or.inr (Nat.le_trans q (pg_W_mono (by decide) h.2.1))
theorem pm_m {F : PF} {G H : PG} {κ a b at_ s : Nat} (h : pg_le G H) (q : pm_ok F G κ a b at_ s) : pm_ok F H κ a b at_ s := by
  obtain ⟨q1, q2, q3, q4, q5, q6, q7, q8, q9⟩ := q
  refine ⟨q1, q2, fun e => h.2.2.2.1 a (q3 e), fun e => ⟨fun z => h.1 ((q4 e).1 z), fun z => pg_COm h ((q4 e).2.1 z), fun z => pg_ABm h ((q4 e).2.2 z)⟩, fun e => ⟨h.1 (q5 e).1, ?_⟩, fun e => ?_, fun e => ?_, fun e => pg_COm h (q8 e), fun e => pg_ABm h (q9 e)⟩
  · rw [h.2.2.2.2 a at_ (by rw [(q5 e).2]; decide)]; exact (q5 e).2
  · rw [h.2.2.2.2 a at_ (by rw [q6 e]; decide)]; exact q6 e
  · rw [h.2.1 a (q7 e).2, h.2.2.2.2 b at_ (by rw [(q7 e).1]; exact (q7 e).2)]; exact q7 e
/-- THE POINT: not both -/
theorem pg_not {F : PF} {G : PG} {C : PC} (h : pr_ok F G C) (h1 : pg_CO F G) (h2 : pg_AB F G) : False := by
  rcases h2 with ⟨j, hj, hf⟩ | h2
  · exact ((h.2.1 j hj).2.2.2.2.2.2.2.2.2.1 h1.1).2.1 hf
  · have key : ∀ m, pg_W m F.w G.e 2 + pg_W m F.w G.e 3 ≤ ci_sum F.w m := by
      intro m
      induction m with
      | zero => exact Nat.le_refl _
      | succ m ih =>
        show (pg_W m F.w G.e 2 + if G.e m = 2 then F.w m else 0) + (pg_W m F.w G.e 3 + if G.e m = 3 then F.w m else 0) ≤ ci_sum F.w m + F.w m
        split <;> split <;> omega
    have := key F.n
    have := h.1
    have := h1.2
    omega
theorem pr_check {F : PF} {G : PG} {C : PC} (h : pr_ok F G C) {i j : Nat} (hi : i < F.n) (hj : j < F.n) (h4 : C.S i = 4) (h5 : C.S j = 5 ∨ ¬ F.ys j) : False := by
  have hc := (h.2.1 i hi).2.2.2.2.2.1 h4
  rcases h5 with h5 | h5
  · exact pg_not h hc ((h.2.1 j hj).2.2.2.2.2.2.1 h5)
  · exact h5 ((h.2.1 j hj).2.2.2.2.2.2.2.2.2.1 hc.1).1
/-- other sites' part: ghosts grew; C is as it was for them -/
theorem ps_m {F : PF} {G H : PG} {C E : PC} {k : Nat} (h : ps_ok F G C k) (hle : pg_le G H) (he : H.e k = G.e k) (hf : H.f k = G.f k) (hy : H.y k = G.y k) (hc : H.c = G.c) (hK : ∀ a, H.K k a = G.K k a) (hS : E.S k = C.S k) (hD : E.D k = C.D k) (hA : E.A k = C.A k) (hT : ∀ j, E.T k j → C.T k j) (hO : ∀ j, E.O k j = C.O k j) : ps_ok F H E k := by
  obtain ⟨a1, a2, a3, a4, a5, a6, a7, a8, a9, a10, a11, a12, a13, a14, a15⟩ := h
  unfold ps_ok
  rw [hS, hD, hA, he, hf, hy, hc]
  refine ⟨a1, a2, a3, a4, a5, fun z => pg_COm hle (a6 z), fun z => pg_ABm hle (a7 z), a8, a9, a10, fun z => ?_, fun z => ?_, fun z => ?_, fun z => ?_, fun a ha => by rw [hK]; exact a15 a ha⟩
  · obtain ⟨b1, b2, b3, b4, b5⟩ := a11 z
    refine ⟨b1, b2, b3, b4, fun j hj ht => ?_⟩
    rcases b5 j hj (hT j ht) with q | q
    · exact Or.inl q
    · exact Or.inr (hle.2.2.2.1 j q)
  · obtain ⟨b1, b2, b3⟩ := a12 z
    exact ⟨b1, by rw [hK]; exact b2, fun j hj ht => by rw [hle.2.1 j (by rw [b3 j hj (hT j ht)]; decide)]; exact b3 j hj (hT j ht)⟩
  · obtain ⟨b2, b3⟩ := a13 z
    exact ⟨by rw [hK]; exact b2, fun j hj ht => by rw [hle.2.1 j (by rw [b3 j hj (hT j ht)]; decide)]; exact b3 j hj (hT j ht)⟩
  · obtain ⟨b2, b3⟩ := a14 z
    exact ⟨by rw [hK]; exact b2, fun j hj ht ho => b3 j hj (hT j ht) (by rw [← hO]; exact ho)⟩
