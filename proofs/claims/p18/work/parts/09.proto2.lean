/-- E is C but for site i -/
def pc_off (C E : PC) (i : Nat) : Prop := ∀ k, k ≠ i → E.S k = C.S k ∧ E.D k = C.D k ∧ E.A k = C.A k ∧ (∀ j, E.T k j → C.T k j) ∧ ∀ j, E.O k j = C.O k j
theorem pc_off.rf {C : PC} {i : Nat} : pc_off C C i := fun _ _ => ⟨rfl, rfl, rfl, fun _ h => h, fun _ => rfl⟩
theorem pc_off.tr {C E I : PC} {i : Nat} (h1 : pc_off C E i) (h2 : pc_off E I i) : pc_off C I i := fun k hk => by
  obtain ⟨a1, a2, a3, a4, a5⟩ := h1 k hk
  obtain ⟨b1, b2, b3, b4, b5⟩ := h2 k hk
  exact ⟨b1.trans a1, b2.trans a2, b3.trans a3, fun j h => a4 j (b4 j h), fun j => (b5 j).trans (a5 j)⟩
/-- H is G but for what is told of site i; c is as it was -/
def pg_off (G H : PG) (i : Nat) : Prop := pg_le G H ∧ H.c = G.c ∧ ∀ k, k ≠ i → H.e k = G.e k ∧ H.f k = G.f k ∧ H.y k = G.y k ∧ ∀ a, H.K k a = G.K k a
theorem pg_off.rf {G : PG} {i : Nat} : pg_off G G i := ⟨pg_le.rf, rfl, fun _ _ => ⟨rfl, rfl, rfl, fun _ => rfl⟩⟩
theorem pr_upd {F : PF} {G H : PG} {C E : PC} {i : Nat} (h : pr_ok F G C) (hg : pg_off G H i) (hc : pc_off C E i) (hD : E.D i = 1 → C.D i = 1) (hs : ps_ok F H E i) : pr_ok F H E := by
  refine ⟨h.1, fun k hk => ?_, fun a b ha hb h1 h2 => ?_⟩
  · by_cases q : k = i
    · subst q; exact hs
    · obtain ⟨a1, a2, a3, a4, a5⟩ := hc k q
      obtain ⟨b1, b2, b3, b4⟩ := hg.2.2 k q
      exact ps_m (h.2.1 k hk) hg.1 b1 b2 b3 hg.2.1 b4 a1 a2 a3 a4 a5
  · have key : ∀ k, E.D k = 1 → C.D k = 1 := fun k hk => by
      by_cases q : k = i
      · subst q; exact hD hk
      · rw [← (hc k q).2.1]; exact hk
    exact h.2.2 a b ha hb (key a h1) (key b h2)
def pg_f (G : PG) (i : Nat) : PG := (G.c, G.e, va_up G.f i 1, G.y, G.K)
def pg_y (G : PG) (i : Nat) : PG := (G.c, G.e, G.f, va_up G.y i 1, G.K)
def pg_e (G : PG) (i r : Nat) : PG := (G.c, va_up G.e i r, G.f, G.y, G.K)
def pg_K (G : PG) (i a r : Nat) : PG := (G.c, G.e, G.f, G.y, fun k => if k = i then va_up (G.K i) a r else G.K k)
def pg_c (G : PG) : PG := (1, G.e, G.f, G.y, G.K)
theorem pg_f_off {G : PG} {i : Nat} : pg_off G (pg_f G i) i := ⟨⟨id, fun _ _ => rfl, fun j h => by show va_up G.f i 1 j = 1; by_cases q : j = i <;> simp [va_up, q]; exact h, fun _ h => h, fun _ _ _ => rfl⟩, rfl, fun k hk => ⟨rfl, va_up_ne _ _ hk, rfl, fun _ => rfl⟩⟩
theorem pg_y_off {G : PG} {i : Nat} : pg_off G (pg_y G i) i := ⟨⟨id, fun _ _ => rfl, fun _ h => h, fun j h => by show va_up G.y i 1 j = 1; by_cases q : j = i <;> simp [va_up, q]; exact h, fun _ _ _ => rfl⟩, rfl, fun k hk => ⟨rfl, rfl, va_up_ne _ _ hk, fun _ => rfl⟩⟩
theorem pg_e_off {G : PG} {i r : Nat} (h : G.e i = 0) : pg_off G (pg_e G i r) i := ⟨⟨id, fun j hj => va_up_ne _ _ (fun q => hj (by rw [q]; exact h)), fun _ h => h, fun _ h => h, fun _ _ _ => rfl⟩, rfl, fun k hk => ⟨va_up_ne _ _ hk, rfl, rfl, fun _ => rfl⟩⟩
theorem pg_K_off {G : PG} {i a r : Nat} (h : G.K i a = 0) : pg_off G (pg_K G i a r) i := by
  refine ⟨⟨id, fun _ _ => rfl, fun _ h => h, fun _ h => h, fun k b hb => ?_⟩, rfl, fun k hk => ⟨rfl, rfl, rfl, fun b => ?_⟩⟩
  · show (if k = i then va_up (G.K i) a r else G.K k) b = G.K k b
    by_cases q : k = i
    · subst q
      rw [if_pos rfl]
      exact va_up_ne _ _ (fun z => hb (by rw [z]; exact h))
    · rw [if_neg q]
  · show (if k = i then va_up (G.K i) a r else G.K k) b = G.K k b
    rw [if_neg hk]
theorem pg_off.tr {G H I : PG} {i : Nat} (h1 : pg_off G H i) (h2 : pg_off H I i) : pg_off G I i :=
  ⟨h1.1.tr h2.1, h2.2.1.trans h1.2.1, fun k hk => ⟨(h2.2.2 k hk).1.trans (h1.2.2 k hk).1, (h2.2.2 k hk).2.1.trans (h1.2.2 k hk).2.1, (h2.2.2 k hk).2.2.1.trans (h1.2.2 k hk).2.2.1, fun a => ((h2.2.2 k hk).2.2.2 a).trans ((h1.2.2 k hk).2.2.2 a)⟩⟩
/-- what site i does goes on, or it does nothing else -/
def pc_soft (C E : PC) (i : Nat) : Prop := (E.D i = C.D i ∨ E.D i = 0) ∧ E.A i = C.A i ∧ (∀ j, E.T i j → C.T i j) ∧ ∀ j, E.O i j = C.O i j
section PRA
variable {F : PF} {G H : PG} {C E : PC} {i : Nat}
/-- what a site does stays told rightly -/
theorem ps_soft (h : ps_ok F G C i) (hs : pc_soft C E i) (hle : pg_le G H) (hc : H.c = G.c) (hK : ∀ a, H.K i a = G.K i a) : E.D i ≤ 4 ∧ (E.D i = 2 → H.c = 1 ∧ H.K i (E.A i) = 2 ∧ ∀ j, j < F.n → E.T i j → H.e j = 2) ∧ (E.D i = 4 → H.K i (E.A i) = 3 ∧ ∀ j, j < F.n → E.T i j → H.e j = 3) ∧ (E.D i = 3 → H.K i (E.A i) = 0 ∧ ∀ j, j < F.n → E.T i j → E.O i j = 2 → H.c = 1) ∧ ∀ a, E.A i < a → H.K i a = 0 := by
  obtain ⟨a1, a2, a3, a4, a5, a6, a7, a8, a9, a10, a11, a12, a13, a14, a15⟩ := h
  obtain ⟨sD, sA, sT, sO⟩ := hs
  rw [sA, hc]
  refine ⟨by omega, fun z => ?_, fun z => ?_, fun z => ?_, fun a ha => by rw [hK]; exact a15 a ha⟩
  · obtain ⟨b1, b2, b3⟩ := a12 (by omega)
    exact ⟨b1, by rw [hK]; exact b2, fun j hj ht => by rw [hle.2.1 j (by rw [b3 j hj (sT j ht)]; decide)]; exact b3 j hj (sT j ht)⟩
  · obtain ⟨b2, b3⟩ := a13 (by omega)
    exact ⟨by rw [hK]; exact b2, fun j hj ht => by rw [hle.2.1 j (by rw [b3 j hj (sT j ht)]; decide)]; exact b3 j hj (sT j ht)⟩
  · obtain ⟨b2, b3⟩ := a14 (by omega)
    exact ⟨by rw [hK]; exact b2, fun j hj ht ho => b3 j hj (sT j ht) (by rw [← sO]; exact ho)⟩
/-- an initial site aborts of itself -/
theorem pr_init5 (h : pr_ok F G C) (hi : i < F.n) (hc : pc_off C E i) (h0 : C.S i = 0) (hS : E.S i = 5) (hs : pc_soft C E i) : pr_ok F (pg_f G i) E := by
  have q := h.2.1 i hi
  obtain ⟨s0, s2, s4, s3, sA⟩ := ps_soft (H := pg_f G i) q hs pg_f_off.1 rfl (fun _ => rfl)
  obtain ⟨a1, a2, a3, a4, a5, a6, a7, a8, a9, a10, a11, a12, a13, a14, a15⟩ := q
  have d1 : C.D i ≠ 1 := fun z => (a11 z).2.1 h0
  have e1 : E.D i ≠ 1 := by rcases hs.1 with z | z <;> omega
  refine pr_upd h pg_f_off hc (fun z => absurd z e1) ⟨by omega, s0, fun z => by omega, fun z => by omega, fun z => by omega, fun z => by omega, fun _ => Or.inl ⟨i, hi, va_up_self ..⟩, fun z => absurd h0 (a8 z).2.1, fun _ => hS, fun z => absurd h0 (a10 z).2.2.1, fun z => absurd z e1, s2, s4, s3, sA⟩
/-- an initial site says yes -/
theorem pr_yes (h : pr_ok F G C) (hi : i < F.n) (hc : pc_off C E i) (h0 : C.S i = 0) (hy : F.ys i) (hS : E.S i = 1) (hs : pc_soft C E i) : pr_ok F (pg_y G i) E := by
  have q := h.2.1 i hi
  obtain ⟨s0, s2, s4, s3, sA⟩ := ps_soft (H := pg_y G i) q hs pg_y_off.1 rfl (fun _ => rfl)
  obtain ⟨a1, a2, a3, a4, a5, a6, a7, a8, a9, a10, a11, a12, a13, a14, a15⟩ := q
  have d1 : C.D i ≠ 1 := fun z => (a11 z).2.1 h0
  have e1 : E.D i ≠ 1 := by rcases hs.1 with z | z <;> omega
  have f1 : G.f i ≠ 1 := fun z => by have := a9 z; omega
  refine pr_upd h pg_y_off hc (fun z => absurd z e1) ⟨by omega, s0, fun z => a3 (by omega), fun z => by omega, fun z => by omega, fun z => by omega, fun z => by omega, fun _ => ⟨hy, by omega, f1, e1⟩, fun z => absurd z f1, fun z => absurd h0 (a10 z).2.2.1, fun z => absurd z e1, s2, s4, s3, sA⟩
/-- who collects votes aborts -/
theorem pr_vote5 (h : pr_ok F G C) (hi : i < F.n) (hc : pc_off C E i) (h1 : C.D i = 1) (hS : E.S i = 5) (hD : E.D i = 0) (hA : E.A i = C.A i) : pr_ok F (pg_f G i) E := by
  obtain ⟨a1, a2, a3, a4, a5, a6, a7, a8, a9, a10, a11, a12, a13, a14, a15⟩ := h.2.1 i hi
  refine pr_upd h pg_f_off hc (fun z => by omega) ⟨by omega, by omega, fun z => by omega, fun z => by omega, fun z => by omega, fun z => by omega, fun _ => Or.inl ⟨i, hi, va_up_self ..⟩, fun z => absurd z (a11 h1).2.2.1, fun _ => hS, fun z => absurd h1 (a10 z).2.2.2, fun z => by omega, fun z => by omega, fun z => by omega, fun z => by omega, fun a ha => a15 a (by omega)⟩
/-- a site decides, as it may -/
theorem pr_dec (h : pr_ok F G C) (hi : i < F.n) (hc : pc_off C E i) (hS : E.S i = 4 ∧ pg_CO F G ∨ E.S i = 5 ∧ pg_AB F G) (hs : pc_soft C E i) (h1 : E.D i ≠ 1) : pr_ok F G E := by
  have q := h.2.1 i hi
  obtain ⟨s0, s2, s4, s3, sA⟩ := ps_soft (H := G) q hs pg_le.rf rfl (fun _ => rfl)
  obtain ⟨a1, a2, a3, a4, a5, a6, a7, a8, a9, a10, a11, a12, a13, a14, a15⟩ := q
  refine pr_upd h pg_off.rf hc (fun z => absurd z h1) ?_
  rcases hS with ⟨e, q⟩ | ⟨e, q⟩ <;> unfold ps_ok <;> rw [e]
  · exact ⟨by decide, s0, fun z => absurd z (by decide), fun z => absurd z (by decide), fun z => absurd z (by decide), fun _ => q, fun z => absurd z (by decide), fun z => ⟨(a8 z).1, by decide, (a8 z).2.2.1, h1⟩, fun z => absurd z (a10 q.1).2.1, fun z => ⟨(a10 z).1, (a10 z).2.1, by decide, h1⟩, fun z => absurd z h1, s2, s4, s3, sA⟩
  · exact ⟨by decide, s0, fun z => absurd z (by decide), fun z => absurd z (by decide), fun z => absurd z (by decide), fun z => absurd z (by decide), fun _ => q, fun z => ⟨(a8 z).1, by decide, (a8 z).2.2.1, h1⟩, fun _ => rfl, fun z => ⟨(a10 z).1, (a10 z).2.1, by decide, h1⟩, fun z => absurd z h1, s2, s4, s3, sA⟩
/-- it does nothing else -/
theorem pr_rest (h : pr_ok F G C) (hi : i < F.n) (hc : pc_off C E i) (hS : E.S i = C.S i) (hD : E.D i = 0) (hA : E.A i = C.A i) : pr_ok F G E := by
  obtain ⟨a1, a2, a3, a4, a5, a6, a7, a8, a9, a10, a11, a12, a13, a14, a15⟩ := h.2.1 i hi
  refine pr_upd h pg_off.rf hc (fun z => by omega) ?_
  unfold ps_ok
  rw [hS, hD, hA]
  exact ⟨a1, by omega, a3, a4, a5, a6, a7, fun z => ⟨(a8 z).1, (a8 z).2.1, (a8 z).2.2.1, by omega⟩, a9, fun z => ⟨(a10 z).1, (a10 z).2.1, (a10 z).2.2.1, by omega⟩, fun z => by omega, fun z => by omega, fun z => by omega, fun z => by omega, a15⟩
/-- it attempts -/
theorem pr_try (h : pr_ok F G C) (hi : i < F.n) (hc : pc_off C E i) (hS : E.S i = C.S i) (hD : E.D i = 3) (hA : E.A i = C.A i + 1) (hT : ∀ j, j < F.n → E.T i j → j = i) (hO : E.O i i = C.S i) : pr_ok F G E := by
  obtain ⟨a1, a2, a3, a4, a5, a6, a7, a8, a9, a10, a11, a12, a13, a14, a15⟩ := h.2.1 i hi
  refine pr_upd h pg_off.rf hc (fun z => by omega) ?_
  unfold ps_ok
  rw [hS, hD, hA]
  refine ⟨a1, by omega, a3, a4, a5, a6, a7, fun z => ⟨(a8 z).1, (a8 z).2.1, (a8 z).2.2.1, by omega⟩, a9, fun z => ⟨(a10 z).1, (a10 z).2.1, (a10 z).2.2.1, by omega⟩, fun z => by omega, fun z => by omega, fun z => by omega, fun _ => ⟨a15 _ (by omega), fun j hj ht ho => ?_⟩, fun a ha => a15 a (by omega)⟩
  have := hT j hj ht
  subst this
  exact (a4 (by omega)).1
/-- a state is there -/
theorem pr_told {j s : Nat} (h : pr_ok F G C) (hi : i < F.n) (hc : pc_off C E i) (h3 : C.D i = 3) (hS : E.S i = C.S i) (hD : E.D i = C.D i) (hA : E.A i = C.A i) (hT : ∀ k, k < F.n → E.T i k → C.T i k ∨ k = j) (hO : ∀ k, k ≠ j → E.O i k = C.O i k) (hOj : E.O i j = s) (hs : s = 2 → G.c = 1) : pr_ok F G E := by
  obtain ⟨a1, a2, a3, a4, a5, a6, a7, a8, a9, a10, a11, a12, a13, a14, a15⟩ := h.2.1 i hi
  refine pr_upd h pg_off.rf hc (fun z => by omega) ?_
  unfold ps_ok
  rw [hS, hD, hA]
  refine ⟨a1, a2, a3, a4, a5, a6, a7, a8, a9, a10, fun z => by omega, fun z => by omega, fun z => by omega, fun _ => ⟨(a14 h3).1, fun k hk ht ho => ?_⟩, a15⟩
  by_cases q : k = j
  · subst q; exact hs (by omega)
  · rcases hT k hk ht with z | z
    · exact (a14 h3).2 k hk z (by rw [← hO k q]; exact ho)
    · exact absurd z q
/-- a vote is there -/
theorem pr_vote {j : Nat} (h : pr_ok F G C) (hi : i < F.n) (hc : pc_off C E i) (h1 : C.D i = 1) (hS : E.S i = C.S i) (hD : E.D i = C.D i) (hA : E.A i = C.A i) (hT : ∀ k, k < F.n → E.T i k → C.T i k ∨ k = j) (hy : G.y j = 1) : pr_ok F G E := by
  obtain ⟨a1, a2, a3, a4, a5, a6, a7, a8, a9, a10, a11, a12, a13, a14, a15⟩ := h.2.1 i hi
  refine pr_upd h pg_off.rf hc (fun z => h1) ?_
  unfold ps_ok
  rw [hS, hD, hA]
  refine ⟨a1, a2, a3, a4, a5, a6, a7, a8, a9, a10, fun z => ⟨(a11 z).1, (a11 z).2.1, (a11 z).2.2.1, (a11 z).2.2.2.1, fun k hk ht => ?_⟩, fun z => by omega, fun z => by omega, fun z => by omega, a15⟩
  rcases hT k hk ht with q | q
  · exact (a11 z).2.2.2.2 k hk q
  · rw [q]; exact Or.inr hy
/-- an acknowledgement is there -/
theorem pr_ack {j : Nat} (h : pr_ok F G C) (hi : i < F.n) (hc : pc_off C E i) (h1 : C.D i = 2 ∨ C.D i = 4) (hS : E.S i = C.S i) (hD : E.D i = C.D i) (hA : E.A i = C.A i) (hT : ∀ k, k < F.n → E.T i k → C.T i k ∨ k = j) (hy : G.K i (C.A i) = G.e j) : pr_ok F G E := by
  obtain ⟨a1, a2, a3, a4, a5, a6, a7, a8, a9, a10, a11, a12, a13, a14, a15⟩ := h.2.1 i hi
  refine pr_upd h pg_off.rf hc (fun z => by omega) ?_
  unfold ps_ok
  rw [hS, hD, hA]
  refine ⟨a1, a2, a3, a4, a5, a6, a7, a8, a9, a10, fun z => by omega, fun z => ⟨(a12 z).1, (a12 z).2.1, fun k hk ht => ?_⟩, fun z => ⟨(a13 z).1, fun k hk ht => ?_⟩, fun z => by omega, a15⟩
  · rcases hT k hk ht with q | q
    · exact (a12 z).2.2 k hk q
    · rw [q, ← hy]; exact (a12 z).2.1
  · rcases hT k hk ht with q | q
    · exact (a13 z).2 k hk q
    · rw [q, ← hy]; exact (a13 z).1
/-- a waiting site gets ready for r -/
theorem pr_ready {r : Nat} (h : pr_ok F G C) (hi : i < F.n) (hc : pc_off C E i) (h1 : C.S i = 1) (hr : r = 2 ∧ G.c = 1 ∨ r = 3) (hS : E.S i = r) (hs : pc_soft C E i) : pr_ok F (pg_e G i r) E := by
  have q := h.2.1 i hi
  have e0 := q.2.2.1 (by omega)
  obtain ⟨s0, s2, s4, s3, sA⟩ := ps_soft (H := pg_e G i r) q hs (pg_e_off e0).1 rfl (fun _ => rfl)
  obtain ⟨a1, a2, a3, a4, a5, a6, a7, a8, a9, a10, a11, a12, a13, a14, a15⟩ := q
  have er : (pg_e G i r).e i = r := va_up_self ..
  have d1 : E.D i = 1 → C.D i = 1 := fun z => by rcases hs.1 with q | q <;> omega
  have n1 : C.D i ≠ 1 → E.D i ≠ 1 := fun z q => z (d1 q)
  refine pr_upd h (pg_e_off e0) hc d1 ?_
  have f9 : G.f i ≠ 1 := fun z => by have := a9 z; omega
  rcases hr with ⟨q, qc⟩ | q <;> subst q <;> unfold ps_ok <;> rw [hS, er]
  · exact ⟨by decide, s0, fun z => absurd z (by decide), fun z => ⟨qc, rfl⟩, fun z => absurd z (by decide), fun z => absurd z (by decide), fun z => absurd z (by decide), fun z => ⟨(a8 z).1, by decide, (a8 z).2.2.1, n1 (a8 z).2.2.2⟩, fun z => absurd z f9, fun z => ⟨(a10 z).1, (a10 z).2.1, by decide, n1 (a10 z).2.2.2⟩, fun z => ⟨(a11 (d1 z)).1, by decide, (a11 (d1 z)).2.2.1, (a11 (d1 z)).2.2.2.1, fun k hk ht => (a11 (d1 z)).2.2.2.2 k hk (hs.2.2.1 k ht)⟩, s2, s4, s3, sA⟩
  · exact ⟨by decide, s0, fun z => absurd z (by decide), fun z => absurd z (by decide), fun z => rfl, fun z => absurd z (by decide), fun z => absurd z (by decide), fun z => ⟨(a8 z).1, by decide, (a8 z).2.2.1, n1 (a8 z).2.2.2⟩, fun z => absurd z f9, fun z => ⟨(a10 z).1, (a10 z).2.1, by decide, n1 (a10 z).2.2.2⟩, fun z => ⟨(a11 (d1 z)).1, by decide, (a11 (d1 z)).2.2.1, (a11 (d1 z)).2.2.2.1, fun k hk ht => (a11 (d1 z)).2.2.2.2 k hk (hs.2.2.1 k ht)⟩, s2, s4, s3, sA⟩
/-- all votes are there: now commit is possible -/
theorem pr_all (h : pr_ok F G C) (hi : i < F.n) (hc : pc_off C E i) (h1 : C.D i = 1) (hall : ∀ j, j < F.n → C.T i j) (hS : E.S i = C.S i) (hD : E.D i = 0) (hA : E.A i = C.A i + 1) : pr_ok F (pg_c G) E ∧ (pg_c G).K i (E.A i) = 0 ∧ pg_le G (pg_c G) := by
  have hle : pg_le G (pg_c G) := ⟨fun _ => rfl, fun _ _ => rfl, fun _ h => h, fun _ h => h, fun _ _ _ => rfl⟩
  have hq := h.2.1 i hi
  obtain ⟨b1, b2, b3, b4, b5⟩ := hq.2.2.2.2.2.2.2.2.2.2.1 h1
  refine ⟨⟨h.1, fun k hk => ?_, fun a b ha hb z1 z2 => ?_⟩, ?_, hle⟩
  · by_cases q : k = i
    · subst q
      obtain ⟨a1, a2, a3, a4, a5, a6, a7, a8, a9, a10, a11, a12, a13, a14, a15⟩ := hq
      unfold ps_ok
      rw [hS, hD, hA]
      exact ⟨a1, by omega, a3, fun z => ⟨rfl, (a4 z).2⟩, a5, fun z => pg_COm hle (a6 z), fun z => pg_ABm hle (a7 z), fun z => absurd z b3, a9, fun _ => ⟨b1, b4, b2, by omega⟩, fun z => by omega, fun z => by omega, fun z => by omega, fun z => by omega, fun a ha => a15 a (by omega)⟩
    · obtain ⟨c1, c2, c3, c4, c5⟩ := hc k q
      obtain ⟨a1, a2, a3, a4, a5, a6, a7, a8, a9, a10, a11, a12, a13, a14, a15⟩ := h.2.1 k hk
      have yk : G.y k = 1 := (b5 k hk (hall k hk)).resolve_left q
      obtain ⟨y1, y2, y3, y4⟩ := a8 yk
      unfold ps_ok
      rw [c1, c2, c3]
      exact ⟨a1, a2, a3, fun z => ⟨rfl, (a4 z).2⟩, a5, fun z => pg_COm hle (a6 z), fun z => pg_ABm hle (a7 z), a8, a9, fun _ => ⟨y1, y3, y2, y4⟩, fun z => absurd z y4, fun z => ⟨rfl, (a12 z).2.1, fun j hj ht => (a12 z).2.2 j hj (c4 j ht)⟩, fun z => ⟨(a13 z).1, fun j hj ht => (a13 z).2 j hj (c4 j ht)⟩, fun z => ⟨(a14 z).1, fun j hj ht ho => rfl⟩, a15⟩
  · by_cases q : a = i
    · subst q; omega
    · by_cases q2 : b = i
      · subst q2; omega
      · rw [(hc a q).2.1] at z1
        exact absurd (h.2.2 a i ha hi z1 h1) q
  · rw [hA]; exact hq.2.2.2.2.2.2.2.2.2.2.2.2.2.2 _ (by omega)
/-- it leads to r: whether it waited or not -/
theorem pr_lead0 {r d : Nat} (h : pr_ok F G C) (hi : i < F.n) (hc : pc_off C E i) (hK : G.K i (C.A i) = 0) (hr : r = 2 ∧ d = 2 ∧ G.c = 1 ∨ r = 3 ∧ d = 4) (hg : pg_off G H i) (hHf : H.f i = G.f i) (hHy : H.y i = G.y i) (hHK : ∀ a, H.K i a = if a = C.A i then r else G.K i a) (hS : E.S i = r ∧ H.e i = r ∧ C.S i = 1 ∨ C.S i ≠ 1 ∧ E.S i = C.S i ∧ H.e i = G.e i) (hD : E.D i = d) (hA : E.A i = C.A i) (hT : ∀ j, j < F.n → E.T i j → j = i ∧ E.S i = r) : pr_ok F H E := by
  obtain ⟨a1, a2, a3, a4, a5, a6, a7, a8, a9, a10, a11, a12, a13, a14, a15⟩ := h.2.1 i hi
  have d1 : E.D i ≠ 1 := by rcases hr with ⟨-, q, -⟩ | ⟨-, q⟩ <;> rw [hD, q] <;> decide
  have d3 : E.D i ≠ 3 := by rcases hr with ⟨-, q, -⟩ | ⟨-, q⟩ <;> rw [hD, q] <;> decide
  have d4 : E.D i ≤ 4 := by rcases hr with ⟨-, q, -⟩ | ⟨-, q⟩ <;> rw [hD, q] <;> decide
  have hle := hg.1
  have hHc := hg.2.1
  have kr : H.K i (E.A i) = r := by rw [hA, hHK, if_pos rfl]
  have k0 : ∀ a, E.A i < a → H.K i a = 0 := fun a ha => by rw [hHK, if_neg (by omega)]; exact a15 a (by omega)
  have er : E.S i = r → H.e i = r := fun z => by
    rcases hS with ⟨-, q, -⟩ | ⟨-, q, q2⟩
    · exact q
    · rw [q2]
      rcases hr with ⟨p, -, -⟩ | ⟨p, -⟩
      · rw [p]; exact (a4 (by rw [← q, z, p])).2
      · rw [p]; exact a5 (by rw [← q, z, p])
  have s0 : C.S i ≠ 0 → E.S i ≠ 0 := fun z => by
    rcases hS with ⟨q, -, -⟩ | ⟨-, q, -⟩
    · rcases hr with ⟨p, -, -⟩ | ⟨p, -⟩ <;> rw [q, p] <;> decide
    · rw [q]; exact z
  have D2 : E.D i = 2 → H.c = 1 ∧ H.K i (E.A i) = 2 ∧ ∀ j, j < F.n → E.T i j → H.e j = 2 := fun z => by
    rcases hr with ⟨p, -, pc⟩ | ⟨-, q⟩
    · exact ⟨by rw [hHc]; exact pc, by rw [kr]; exact p, fun j hj ht => by obtain ⟨z1, z2⟩ := hT j hj ht; rw [z1, er z2]; exact p⟩
    · rw [hD, q] at z; exact absurd z (by decide)
  have D4 : E.D i = 4 → H.K i (E.A i) = 3 ∧ ∀ j, j < F.n → E.T i j → H.e j = 3 := fun z => by
    rcases hr with ⟨p, q, pc⟩ | ⟨p, q⟩
    · rw [hD, q] at z; exact absurd z (by decide)
    · exact ⟨by rw [kr]; exact p, fun j hj ht => by obtain ⟨z1, z2⟩ := hT j hj ht; rw [z1, er z2]; exact p⟩
  have Y : H.y i = 1 → F.ys i ∧ E.S i ≠ 0 ∧ H.f i ≠ 1 ∧ E.D i ≠ 1 := fun z => by
    rw [hHy] at z
    exact ⟨(a8 z).1, s0 (a8 z).2.1, by rw [hHf]; exact (a8 z).2.2.1, d1⟩
  have Cc : H.c = 1 → F.ys i ∧ H.f i ≠ 1 ∧ E.S i ≠ 0 ∧ E.D i ≠ 1 := fun z => by
    rw [hHc] at z
    exact ⟨(a10 z).1, by rw [hHf]; exact (a10 z).2.1, s0 (a10 z).2.2.1, d1⟩
  refine pr_upd h hg hc (fun z => absurd z d1) ?_
  rcases hS with ⟨q, q2, q3⟩ | ⟨q3, q, q2⟩
  · have nf : H.f i ≠ 1 := fun z => by rw [hHf] at z; have := a9 z; omega
    rcases hr with ⟨p, -, pc⟩ | ⟨p, -⟩
    · rw [p] at q q2
      exact ⟨by rw [q]; decide, d4, fun z => by rw [q] at z; exact absurd z (by decide), fun _ => ⟨by rw [hHc]; exact pc, q2⟩, fun z => by rw [q] at z; exact absurd z (by decide), fun z => by rw [q] at z; exact absurd z (by decide), fun z => by rw [q] at z; exact absurd z (by decide), Y, fun z => absurd z nf, Cc, fun z => absurd z d1, D2, D4, fun z => absurd z d3, k0⟩
    · rw [p] at q q2
      exact ⟨by rw [q]; decide, d4, fun z => by rw [q] at z; exact absurd z (by decide), fun z => by rw [q] at z; exact absurd z (by decide), fun _ => q2, fun z => by rw [q] at z; exact absurd z (by decide), fun z => by rw [q] at z; exact absurd z (by decide), Y, fun z => absurd z nf, Cc, fun z => absurd z d1, D2, D4, fun z => absurd z d3, k0⟩
  · exact ⟨by rw [q]; exact a1, d4, fun z => by rw [q2]; rw [q] at z; exact a3 z, fun z => by rw [q2, hHc]; rw [q] at z; exact a4 z, fun z => by rw [q2]; rw [q] at z; exact a5 z, fun z => by rw [q] at z; exact pg_COm hle (a6 z), fun z => by rw [q] at z; exact pg_ABm hle (a7 z), Y, fun z => by rw [q]; rw [hHf] at z; exact a9 z, Cc, fun z => absurd z d1, D2, D4, fun z => absurd z d3, k0⟩
theorem pr_lead {r d : Nat} (h : pr_ok F G C) (hi : i < F.n) (hc : pc_off C E i) (hK : G.K i (C.A i) = 0) (hr : r = 2 ∧ d = 2 ∧ G.c = 1 ∨ r = 3 ∧ d = 4) (hS : E.S i = if C.S i = 1 then r else C.S i) (hD : E.D i = d) (hA : E.A i = C.A i) (hT : ∀ j, j < F.n → E.T i j → j = i ∧ E.S i = r) : ∃ H, pr_ok F H E ∧ pg_le G H ∧ H.K i (C.A i) = r ∧ H.c = G.c := by
  have hKK : ∀ (G : PG) a, (pg_K G i (C.A i) r).K i a = if a = C.A i then r else G.K i a := fun G a => by
    show (if i = i then va_up (G.K i) (C.A i) r else G.K i) a = _
    rw [if_pos rfl]; rfl
  by_cases q1 : C.S i = 1
  · rw [if_pos q1] at hS
    have e0 := (h.2.1 i hi).2.2.1 (by omega)
    have hoff : pg_off G (pg_K (pg_e G i r) i (C.A i) r) i := (pg_e_off e0).tr (pg_K_off (G := pg_e G i r) hK)
    exact ⟨_, pr_lead0 h hi hc hK hr hoff rfl rfl (hKK _) (Or.inl ⟨hS, va_up_self .., q1⟩) hD hA hT, hoff.1, by rw [hKK, if_pos rfl], rfl⟩
  · rw [if_neg q1] at hS
    have hoff : pg_off G (pg_K G i (C.A i) r) i := pg_K_off hK
    exact ⟨_, pr_lead0 h hi hc hK hr hoff rfl rfl (hKK _) (Or.inr ⟨q1, hS, rfl⟩) hD hA hT, hoff.1, by rw [hKK, if_pos rfl], rfl⟩
/-- a quorum is there -/
theorem pg_quo {t e : Nat → Nat} {n q r : Nat} {w : Nat → Nat} (h : q ≤ ci_sum t n) (ht : ∀ j, j < n → t j ≠ 0 → t j ≤ w j ∧ e j = r) : q ≤ pg_W n w e r := by
  refine Nat.le_trans h (ci_sum_mono n (fun j hj => ?_))
  by_cases z : t j = 0
  · rw [z]; exact Nat.zero_le _
  · rw [if_pos (ht j hj z).2]; exact (ht j hj z).1
theorem pr_CO {t : Nat → Nat} (h : pr_ok F G C) (hi : i < F.n) (hD : C.D i = 2) (hq : F.qc ≤ ci_sum t F.n) (ht : ∀ j, j < F.n → t j ≠ 0 → t j ≤ F.w j ∧ C.T i j) : pg_CO F G := by
  obtain ⟨b1, b2, b3⟩ := (h.2.1 i hi).2.2.2.2.2.2.2.2.2.2.2.1 hD
  exact ⟨b1, pg_quo hq (fun j hj z => ⟨(ht j hj z).1, b3 j hj (ht j hj z).2⟩)⟩
theorem pr_AB {t : Nat → Nat} (h : pr_ok F G C) (hi : i < F.n) (hD : C.D i = 4) (hq : F.qa ≤ ci_sum t F.n) (ht : ∀ j, j < F.n → t j ≠ 0 → t j ≤ F.w j ∧ C.T i j) : pg_AB F G := by
  obtain ⟨b2, b3⟩ := (h.2.1 i hi).2.2.2.2.2.2.2.2.2.2.2.2.1 hD
  exact Or.inr (pg_quo hq (fun j hj z => ⟨(ht j hj z).1, b3 j hj (ht j hj z).2⟩))
/-- nothing has happened yet -/
def pg_0 : PG := (0, fun _ => 0, fun _ => 0, fun _ => 0, fun _ _ => 0)
theorem pr_0 (hq : ci_sum F.w F.n < F.qc + F.qa) (h : ∀ i, i < F.n → C.S i = 0 ∧ C.D i = 0) : pr_ok F pg_0 C := by
  refine ⟨hq, fun i hi => ?_, fun i j hi hj z => by have := (h i hi).2; omega⟩
  unfold ps_ok
  rw [(h i hi).1, (h i hi).2]
  exact ⟨by omega, by omega, fun _ => rfl, fun z => by omega, fun z => by omega, fun z => by omega, fun z => by omega, fun z => absurd (show (0 : Nat) = 1 from z) (by decide), fun z => absurd (show (0 : Nat) = 1 from z) (by decide), fun z => absurd (show (0 : Nat) = 1 from z) (by decide), fun z => by omega, fun z => by omega, fun z => by omega, fun z => by omega, fun _ _ => rfl⟩
/-- it begins with yes -/
theorem pr_begin (hq : ci_sum F.w F.n < F.qc + F.qa) (hi : i < F.n) (h : ∀ k, k < F.n → C.S k = 0 ∧ C.D k = 0) (hc : pc_off C E i) (hy : F.ys i) (hS : E.S i = 1) (hD : E.D i = 1) (hT : ∀ j, j < F.n → E.T i j → j = i) : pr_ok F pg_0 E := by
  have h0 := pr_0 (F := F) (C := C) hq h
  refine ⟨hq, fun k hk => ?_, fun a b ha hb z1 z2 => ?_⟩
  · by_cases q : k = i
    · subst q
      exact ⟨by omega, by omega, fun _ => rfl, fun z => by omega, fun z => by omega, fun z => by omega, fun z => by omega, fun z => absurd (show (0 : Nat) = 1 from z) (by decide), fun z => absurd (show (0 : Nat) = 1 from z) (by decide), fun z => absurd (show (0 : Nat) = 1 from z) (by decide), fun z => ⟨hy, by omega, (fun z => absurd (show (0 : Nat) = 1 from z) (by decide)), (fun z => absurd (show (0 : Nat) = 1 from z) (by decide)), fun j hj ht => Or.inl (hT j hj ht)⟩, fun z => by omega, fun z => by omega, fun z => by omega, fun _ _ => rfl⟩
    · obtain ⟨c1, c2, c3, c4, c5⟩ := hc k q
      exact ps_m (h0.2.1 k hk) pg_le.rf rfl rfl rfl rfl (fun _ => rfl) c1 c2 c3 c4 c5
  · have key : ∀ k, k < F.n → E.D k = 1 → k = i := fun k hk z => by
      by_cases q : k = i
      · exact q
      · rw [(hc k q).2.1, (h k hk).2] at z; omega
    rw [key a ha z1, key b hb z2]
end PRA
