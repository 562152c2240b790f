theorem nI_lit {a k : Nat} (h : nI a = nI k) (ha : a < 1000 := by omega) (hk : k < 1000 := by omega) : a = k := (nI_eq (by omega) (by omega)).mp h
theorem nI_nlit {a k : Nat} (h : ¬ nI a = nI k) : ¬ a = k := fun e => h (by rw [e])
/-! ===== the class: what its sites know, and what is on its way ===== -/
/-- what is told of messages -/
def qm_ (F : PF) (G : PG) (am b : Nat) : hq_T := fun x1 x2 x3 x4 x5 => b = 1 ∧ ∃ κ f t a s : Nat, x1 = nI κ ∧ x2 = nI f ∧ x3 = nI t ∧ x4 = nI a ∧ x5 = nI s ∧ f < F.n ∧ t < F.n ∧ a ≤ am ∧ pm_ok F G κ f t a s
theorem qm_m {F : PF} {G H : PG} {am am' b : Nat} (h : pg_le G H) (ha : am ≤ am') (x1 x2 x3 x4 x5 : Int32) (q : qm_ F G am b x1 x2 x3 x4 x5) : qm_ F H am' b x1 x2 x3 x4 x5 := by
  obtain ⟨q0, κ, f, t, a, s, q1, q2, q3, q4, q5, q6, q7, q8, q9⟩ := q
  exact ⟨q0, κ, f, t, a, s, q1, q2, q3, q4, q5, q6, q7, Nat.le_trans q8 ha, pm_m h q9⟩
/-- site i's fields are as C says -/
def px_S (am : Nat) (C : PC) (fa : Nat → Nat) (b : Nat) (v : hv_V) (i : Nat) : Prop := (hv_i v 204 (fa (16 + i)) = nI (C.S i) ∧ C.S i ≤ 5) ∧ (hv_i v 206 (fa (16 + i)) = nI (C.D i) ∧ C.D i ≤ 4) ∧ (hv_i v 207 (fa (16 + i)) = nI (C.A i) ∧ C.A i ≤ am) ∧ (∀ j, j < 8 → C.T i j → ¬ hb_ (hv_i v 202 (fa (16 + i))) (nI j) = 0) ∧ (∀ j, j < 8 → ¬ hb_ (hv_i v 202 (fa (16 + i))) (nI j) = 0 → C.T i j) ∧ (∀ j, j < 8 → hv_a v (fa (24 + i)) j = nI (C.O i j) ∧ C.O i j ≤ 5) ∧ (hv_i v 208 (fa (16 + i)) = -1 ∨ b = 1)
def px_V (ys : Nat → Prop) (qc qa am : Nat) (C : PC) (fa : Nat → Nat) (n b : Nat) (v : hv_V) : Prop := (hv_i v 305 (fa 0) = nI qc ∧ qc ≤ 100) ∧ (hv_i v 306 (fa 0) = nI qa ∧ qa ≤ 100) ∧ am ≤ 1000000000 ∧ (∀ j, j < 8 → (ys j ↔ ¬ hb_ (hv_i v 309 (fa 0)) (nI j) = 0)) ∧ ∀ i, i < n → px_S am C fa b v i
def cj_I (ys : Nat → Prop) (qc qa am : Nat) (G : PG) (C : PC) (fa : Nat → Nat) (n : Nat) (w u : Nat → Nat) (b : Nat) (d : Nat → Nat → Nat) (g : Nat × Nat) (k : Nat) (hd : List Nat) (v : hv_V) : Prop := ci_I (qm_ ⟨n, w, ys, qc, qa⟩ G am b) fa n w u b d g k hd v ∧ px_V ys qc qa am C fa n b v
def pc_S (C : PC) (i s : Nat) : PC := (va_up C.S i s, C.D, C.A, C.T, C.O)
def pc_D (C : PC) (i s : Nat) : PC := (C.S, va_up C.D i s, C.A, C.T, C.O)
def pc_A (C : PC) (i s : Nat) : PC := (C.S, C.D, va_up C.A i s, C.T, C.O)
def pc_T (C : PC) (i : Nat) (t : Nat → Prop) : PC := (C.S, C.D, C.A, fun k => if k = i then t else C.T k, C.O)
def pc_O (C : PC) (i j s : Nat) : PC := (C.S, C.D, C.A, C.T, fun k => if k = i then va_up (C.O i) j s else C.O k)
theorem pc_S_off {C : PC} {i s : Nat} : pc_off C (pc_S C i s) i := fun _ hk => ⟨va_up_ne _ _ hk, rfl, rfl, fun _ h => h, fun _ => rfl⟩
theorem pc_D_off {C : PC} {i s : Nat} : pc_off C (pc_D C i s) i := fun _ hk => ⟨rfl, va_up_ne _ _ hk, rfl, fun _ h => h, fun _ => rfl⟩
theorem pc_A_off {C : PC} {i s : Nat} : pc_off C (pc_A C i s) i := fun _ hk => ⟨rfl, rfl, va_up_ne _ _ hk, fun _ h => h, fun _ => rfl⟩
theorem pc_T_off {C : PC} {i : Nat} {t : Nat → Prop} : pc_off C (pc_T C i t) i := fun k hk => ⟨rfl, rfl, rfl, fun j h => by have h : (if k = i then t else C.T k) j := h; rw [if_neg hk] at h; exact h, fun _ => rfl⟩
theorem pc_O_off {C : PC} {i j s : Nat} : pc_off C (pc_O C i j s) i := fun k hk => ⟨rfl, rfl, rfl, fun _ h => h, fun e => by show (if k = i then va_up (C.O i) j s else C.O k) e = _; rw [if_neg hk]⟩
section PXV
variable {ys : Nat → Prop} {qc qa am : Nat} {G : PG} {C : PC} {fa : Nat → Nat} {n : Nat} {w u : Nat → Nat} {b : Nat} {d : Nat → Nat → Nat} {g : Nat × Nat} {k : Nat} {hd : List Nat} {v v1 : hv_V} {i : Nat}
/-- int fields of which px_V says nothing -/
def px_fr (f : Nat) : Bool := !([305, 306, 309, 202, 204, 206, 207, 208].contains f)
theorem px_ne (hS : cs_S fa n v) {i j : Nat} (hi : i < n) (hj : j < n) (h : i ≠ j) : fa (16 + i) ≠ fa (16 + j) := fun e => h (by have := cs_inj hS _ _ (cs_live_s hi) (cs_live_s hj) e; omega)
theorem px_so (hS : cs_S fa n v) {i j : Nat} (hi : i < n) (hj : j < n) (h : i ≠ j) : fa (24 + i) ≠ fa (24 + j) := fun e => h (by have := cs_inj hS _ _ (cs_live_o hi) (cs_live_o hj) e; omega)
theorem px_of (h : px_V ys qc qa am C fa n b v) (hi : ∀ f a, px_fr f = false → hv_i v1 f a = hv_i v f a) (ha : ∀ i j, i < n → hv_a v1 (fa (24 + i)) j = hv_a v (fa (24 + i)) j) : px_V ys qc qa am C fa n b v1 := by
  obtain ⟨h1, h2, h3, h4, h5⟩ := h
  refine ⟨by rw [hi 305 _ rfl]; exact h1, by rw [hi 306 _ rfl]; exact h2, h3, fun j hj => by rw [hi 309 _ rfl]; exact h4 j hj, fun i hin => ?_⟩
  unfold px_S
  rw [hi 204 _ rfl, hi 206 _ rfl, hi 207 _ rfl, hi 202 _ rfl, hi 208 _ rfl]
  obtain ⟨a1, a2, a3, a4, a5, a6, a7⟩ := h5 i hin
  exact ⟨a1, a2, a3, a4, a5, fun j hj => by rw [ha i j hin]; exact a6 j hj, a7⟩
theorem px_si {f a : Nat} {x : Int32} (hf : px_fr f = true) (h : px_V ys qc qa am C fa n b v) : px_V ys qc qa am C fa n b (hv_si v f a x) :=
  px_of h (fun e c he => by rw [hv_si_i, if_neg (fun q => by rw [q.1, hf] at he; cases he)]) (fun _ _ _ => rfl)
theorem px_sa {a j : Nat} {x : Int32} (hne : ∀ i, i < n → fa (24 + i) ≠ a) (h : px_V ys qc qa am C fa n b v) : px_V ys qc qa am C fa n b (hv_sa v a j x) :=
  px_of h (fun _ _ _ => rfl) (fun i e hi => by rw [hv_sa_a, if_neg (fun q => hne i hi q.1)])
/-- one site's int field -/
theorem px_one {f : Nat} {x : Int32} {E : PC} (hS : cs_S fa n v) (hi : i < n) (hf : f < 305) (h : px_V ys qc qa am C fa n b v) (hc : ∀ k, k ≠ i → E.S k = C.S k ∧ E.D k = C.D k ∧ E.A k = C.A k ∧ E.T k = C.T k ∧ E.O k = C.O k) (hs : px_S am E fa b (hv_si v f (fa (16 + i)) x) i) : px_V ys qc qa am E fa n b (hv_si v f (fa (16 + i)) x) := by
  obtain ⟨h1, h2, h3, h4, h5⟩ := h
  have o : ∀ e c, 305 ≤ e → hv_i (hv_si v f (fa (16 + i)) x) e c = hv_i v e c := fun e c he => by rw [hv_si_i, if_neg (fun q => by omega)]
  refine ⟨by rw [o 305 _ (by decide)]; exact h1, by rw [o 306 _ (by decide)]; exact h2, h3, fun j hj => by rw [o 309 _ (by decide)]; exact h4 j hj, fun k hk => ?_⟩
  by_cases q : k = i
  · subst q; exact hs
  · obtain ⟨c1, c2, c3, c4, c5⟩ := hc k q
    have ne := px_ne hS hk hi q
    have o2 : ∀ e, hv_i (hv_si v f (fa (16 + i)) x) e (fa (16 + k)) = hv_i v e (fa (16 + k)) := fun e => by rw [hv_si_i, if_neg (fun z => ne z.2)]
    unfold px_S
    rw [o2, o2, o2, o2, o2, c1, c2, c3, c4, c5]
    exact h5 k hk
theorem px_self {f : Nat} {a : Nat} {x : Int32} : hv_i (hv_si v f a x) f a = x := by rw [hv_si_i, if_pos ⟨rfl, rfl⟩]
theorem px_oth {f e : Nat} {a c : Nat} {x : Int32} (h : e ≠ f) : hv_i (hv_si v f a x) e c = hv_i v e c := by rw [hv_si_i, if_neg (fun q => h q.1)]
theorem px_204 {x : Int32} {s : Nat} (hx : x = nI s) (hs : s ≤ 5) (hS : cs_S fa n v) (hi : i < n) (h : px_V ys qc qa am C fa n b v) : px_V ys qc qa am (pc_S C i s) fa n b (hv_si v 204 (fa (16 + i)) x) := by
  obtain ⟨a1, a2, a3, a4, a5, a6, a7⟩ := h.2.2.2.2 i hi
  refine px_one hS hi (by decide) h (fun k hk => ⟨va_up_ne _ _ hk, rfl, rfl, rfl, rfl⟩) ?_
  unfold px_S
  rw [px_self, px_oth (by decide), px_oth (by decide), px_oth (by decide), px_oth (by decide)]
  exact ⟨⟨by rw [hx]; exact (congrArg nI (va_up_self ..)).symm, by show va_up C.S i s i ≤ 5; rw [va_up_self]; exact hs⟩, a2, a3, a4, a5, a6, a7⟩
theorem px_206 {x : Int32} {s : Nat} (hx : x = nI s) (hs : s ≤ 4) (hS : cs_S fa n v) (hi : i < n) (h : px_V ys qc qa am C fa n b v) : px_V ys qc qa am (pc_D C i s) fa n b (hv_si v 206 (fa (16 + i)) x) := by
  obtain ⟨a1, a2, a3, a4, a5, a6, a7⟩ := h.2.2.2.2 i hi
  refine px_one hS hi (by decide) h (fun k hk => ⟨rfl, va_up_ne _ _ hk, rfl, rfl, rfl⟩) ?_
  unfold px_S
  rw [px_self, px_oth (by decide), px_oth (by decide), px_oth (by decide), px_oth (by decide)]
  exact ⟨a1, ⟨by rw [hx]; exact (congrArg nI (va_up_self ..)).symm, by show va_up C.D i s i ≤ 4; rw [va_up_self]; exact hs⟩, a3, a4, a5, a6, a7⟩
theorem px_207 {x : Int32} {s : Nat} (hx : x = nI s) (hs : s ≤ am) (hS : cs_S fa n v) (hi : i < n) (h : px_V ys qc qa am C fa n b v) : px_V ys qc qa am (pc_A C i s) fa n b (hv_si v 207 (fa (16 + i)) x) := by
  obtain ⟨a1, a2, a3, a4, a5, a6, a7⟩ := h.2.2.2.2 i hi
  refine px_one hS hi (by decide) h (fun k hk => ⟨rfl, rfl, va_up_ne _ _ hk, rfl, rfl⟩) ?_
  unfold px_S
  rw [px_self, px_oth (by decide), px_oth (by decide), px_oth (by decide), px_oth (by decide)]
  exact ⟨a1, a2, ⟨by rw [hx]; exact (congrArg nI (va_up_self ..)).symm, by show va_up C.A i s i ≤ am; rw [va_up_self]; exact hs⟩, a4, a5, a6, a7⟩
theorem px_202 {x : Int32} (hS : cs_S fa n v) (hi : i < n) (h : px_V ys qc qa am C fa n b v) : px_V ys qc qa am (pc_T C i (fun j => ¬ hb_ x (nI j) = 0)) fa n b (hv_si v 202 (fa (16 + i)) x) := by
  obtain ⟨a1, a2, a3, a4, a5, a6, a7⟩ := h.2.2.2.2 i hi
  refine px_one hS hi (by decide) h (fun k hk => ⟨rfl, rfl, rfl, if_neg hk, rfl⟩) ?_
  unfold px_S
  rw [px_self, px_oth (by decide), px_oth (by decide), px_oth (by decide), px_oth (by decide)]
  refine ⟨a1, a2, a3, fun j hj z => ?_, fun j hj z => ?_, a6, a7⟩
  · have z : (if i = i then fun j => ¬ hb_ x (nI j) = 0 else C.T i) j := z
    rw [if_pos rfl] at z; exact z
  · show (if i = i then fun j => ¬ hb_ x (nI j) = 0 else C.T i) j
    rw [if_pos rfl]; exact z
theorem px_208 {x : Int32} (hx : x = -1 ∨ b = 1) (hS : cs_S fa n v) (hi : i < n) (h : px_V ys qc qa am C fa n b v) : px_V ys qc qa am C fa n b (hv_si v 208 (fa (16 + i)) x) := by
  obtain ⟨a1, a2, a3, a4, a5, a6, a7⟩ := h.2.2.2.2 i hi
  refine px_one hS hi (by decide) h (fun k hk => ⟨rfl, rfl, rfl, rfl, rfl⟩) ?_
  unfold px_S
  rw [px_self, px_oth (by decide), px_oth (by decide), px_oth (by decide), px_oth (by decide)]
  exact ⟨a1, a2, a3, a4, a5, a6, hx⟩
theorem px_o {x : Int32} {j s : Nat} (hx : x = nI s) (hs : s ≤ 5) (hj : j < 8) (hS : cs_S fa n v) (hi : i < n) (h : px_V ys qc qa am C fa n b v) : px_V ys qc qa am (pc_O C i j s) fa n b (hv_sa v (fa (24 + i)) (nI j).toNatClampNeg x) := by
  obtain ⟨h1, h2, h3, h4, h5⟩ := h
  refine ⟨h1, h2, h3, h4, fun k hk => ?_⟩
  obtain ⟨a1, a2, a3, a4, a5, a6, a7⟩ := h5 k hk
  refine ⟨a1, a2, a3, a4, a5, fun e he => ?_, a7⟩
  rw [cs_cl hj, hv_sa_a]
  show (if fa (24 + k) = fa (24 + i) ∧ e = j then x else hv_a v (fa (24 + k)) e) = nI ((if k = i then va_up (C.O i) j s else C.O k) e) ∧ (if k = i then va_up (C.O i) j s else C.O k) e ≤ 5
  by_cases q : k = i
  · subst q
    rw [if_pos (rfl : k = k)]
    by_cases z : e = j
    · subst z
      rw [if_pos ⟨rfl, rfl⟩, va_up_self]; exact ⟨hx, hs⟩
    · rw [if_neg (fun t => z t.2), va_up_ne _ _ z]; exact a6 e he
  · rw [if_neg (fun t => px_so hS hk hi q t.1), if_neg q]; exact a6 e he
theorem cj_S (h : cj_I ys qc qa am G C fa n w u b d g k hd v) : cs_S fa n v := h.1.1
theorem cj_le {H : PG} {am' : Nat} (hg : pg_le G H) (ha : am ≤ am') (h9 : am' ≤ 1000000000) (h : cj_I ys qc qa am G C fa n w u b d g k hd v) : cj_I ys qc qa am' H C fa n w u b d g k hd v := by
  obtain ⟨h1, h2, h3, h4, h5, h6⟩ := h
  exact ⟨ci_mono (qm_m hg ha) h1, h2, h3, h9, h5, fun i hi => ⟨(h6 i hi).1, (h6 i hi).2.1, ⟨(h6 i hi).2.2.1.1, Nat.le_trans (h6 i hi).2.2.1.2 ha⟩, (h6 i hi).2.2.2⟩⟩
theorem cj_put {f a : Nat} {x : Int32} (hf : ci_free f = true) (hp : px_fr f = true) (h : cj_I ys qc qa am G C fa n w u b d g k hd v) : cj_I ys qc qa am G C fa n w u b d g k hd (hv_si v f a x) := ⟨ci_put hf h.1, px_si hp h.2⟩
theorem cj_putT {x : Int32} (hx : ci_tm x) (hb : x = -1 ∨ b = 1) (h : cj_I ys qc qa am G C fa n w u b d g k hd v) (hi : i < n) : cj_I ys qc qa am G C fa n w u b d g k hd (hv_si v 208 (fa (16 + i)) x) := ⟨ci_putT hx h.1 hi, px_208 hb h.1.1 hi h.2⟩
theorem cj_putN {t : Nat} (ht : t ≤ 4000) (h : cj_I ys qc qa am G C fa n w u b d g k hd v) : cj_I ys qc qa am G C fa n w u b d g k hd (hv_si v 104 (fa 2) (nI t)) := ⟨ci_putN ht h.1, px_si rfl h.2⟩
theorem cj_putL {j : Nat} {x : Int32} (h : cj_I ys qc qa am G C fa n w u b d g k hd v) : cj_I ys qc qa am G C fa n w u b d g k hd (hv_sa v (fa 3) j x) := ⟨ci_putL h.1, px_sa (fun i hi e => absurd (cs_inj h.1.1 _ _ (cs_live_o hi) (cs_live_l (by decide)) e) (by omega)) h.2⟩
theorem cj_204 {x : Int32} {s : Nat} (hx : x = nI s) (hs : s ≤ 5) (hi : i < n) (h : cj_I ys qc qa am G C fa n w u b d g k hd v) : cj_I ys qc qa am G (pc_S C i s) fa n w u b d g k hd (hv_si v 204 (fa (16 + i)) x) := ⟨ci_put rfl h.1, px_204 hx hs h.1.1 hi h.2⟩
theorem cj_206 {x : Int32} {s : Nat} (hx : x = nI s) (hs : s ≤ 4) (hi : i < n) (h : cj_I ys qc qa am G C fa n w u b d g k hd v) : cj_I ys qc qa am G (pc_D C i s) fa n w u b d g k hd (hv_si v 206 (fa (16 + i)) x) := ⟨ci_put rfl h.1, px_206 hx hs h.1.1 hi h.2⟩
theorem cj_207 {x : Int32} {s : Nat} (hx : x = nI s) (hs : s ≤ am) (hi : i < n) (h : cj_I ys qc qa am G C fa n w u b d g k hd v) : cj_I ys qc qa am G (pc_A C i s) fa n w u b d g k hd (hv_si v 207 (fa (16 + i)) x) := ⟨ci_put rfl h.1, px_207 hx hs h.1.1 hi h.2⟩
theorem cj_202 {x : Int32} (hi : i < n) (h : cj_I ys qc qa am G C fa n w u b d g k hd v) : cj_I ys qc qa am G (pc_T C i (fun j => ¬ hb_ x (nI j) = 0)) fa n w u b d g k hd (hv_si v 202 (fa (16 + i)) x) := ⟨ci_put rfl h.1, px_202 h.1.1 hi h.2⟩
theorem cj_o {x : Int32} {j s : Nat} (hx : x = nI s) (hs : s ≤ 5) (hj : j < 8) (hi : i < n) (h : cj_I ys qc qa am G C fa n w u b d g k hd v) : cj_I ys qc qa am G (pc_O C i j s) fa n w u b d g k hd (hv_sa v (fa (24 + i)) (nI j).toNatClampNeg x) := ⟨ci_puto hi h.1, px_o hx hs hj h.1.1 hi h.2⟩
theorem cj_s (h : cj_I ys qc qa am G C fa n w u b d g k hd v) (hi : i < n) : hv_i v 204 (fa (16 + i)) = nI (C.S i) := (h.2.2.2.2.2 i hi).1.1
theorem cj_s5 (h : cj_I ys qc qa am G C fa n w u b d g k hd v) (hi : i < n) : C.S i ≤ 5 := (h.2.2.2.2.2 i hi).1.2
theorem cj_d (h : cj_I ys qc qa am G C fa n w u b d g k hd v) (hi : i < n) : hv_i v 206 (fa (16 + i)) = nI (C.D i) := (h.2.2.2.2.2 i hi).2.1.1
theorem cj_d4 (h : cj_I ys qc qa am G C fa n w u b d g k hd v) (hi : i < n) : C.D i ≤ 4 := (h.2.2.2.2.2 i hi).2.1.2
theorem cj_a (h : cj_I ys qc qa am G C fa n w u b d g k hd v) (hi : i < n) : hv_i v 207 (fa (16 + i)) = nI (C.A i) := (h.2.2.2.2.2 i hi).2.2.1.1
theorem cj_am (h : cj_I ys qc qa am G C fa n w u b d g k hd v) (hi : i < n) : C.A i ≤ am := (h.2.2.2.2.2 i hi).2.2.1.2
theorem cj_am9 (h : cj_I ys qc qa am G C fa n w u b d g k hd v) : am ≤ 1000000000 := h.2.2.2.1
theorem cj_ty (h : cj_I ys qc qa am G C fa n w u b d g k hd v) {j : Nat} (hi : i < n) (hj : j < 8) : C.T i j ↔ ¬ hb_ (hv_i v 202 (fa (16 + i))) (nI j) = 0 := ⟨(h.2.2.2.2.2 i hi).2.2.2.1 j hj, (h.2.2.2.2.2 i hi).2.2.2.2.1 j hj⟩
theorem cj_os (h : cj_I ys qc qa am G C fa n w u b d g k hd v) {j : Nat} (hi : i < n) (hj : j < 8) : hv_a v (fa (24 + i)) (nI j).toNatClampNeg = nI (C.O i j) := by rw [cs_cl hj]; exact ((h.2.2.2.2.2 i hi).2.2.2.2.2.1 j hj).1
theorem cj_o5 (h : cj_I ys qc qa am G C fa n w u b d g k hd v) {j : Nat} (hi : i < n) (hj : j < 8) : C.O i j ≤ 5 := ((h.2.2.2.2.2 i hi).2.2.2.2.2.1 j hj).2
theorem cj_yb (h : cj_I ys qc qa am G C fa n w u b d g k hd v) {j : Nat} (hj : j < 8) : ys j ↔ ¬ hb_ (hv_i v 309 (fa 0)) (nI j) = 0 := h.2.2.2.2.1 j hj
theorem pc_S_id {s : Nat} (h : C.S i = s) : pc_S C i s = C := by
  have e : va_up C.S i s = C.S := by
    funext k
    by_cases q : k = i
    · rw [q, va_up_self, h]
    · exact va_up_ne _ _ q
  unfold pc_S
  rw [e]
end PXV
