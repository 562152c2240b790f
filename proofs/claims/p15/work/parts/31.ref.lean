/-! ===== the reference: its object at ra 0, its arrays at ra k for field k ===== -/
def rs_len (k : Nat) : Nat := if k = 6 ∨ k = 20 then 64 else if 23 ≤ k ∧ k < 30 then 60000 else if k = 31 then 5 else if k = 2 ∨ (14 ≤ k ∧ k < 23) then 8 else 0
def rs_ty (k : Nat) : Nat := if k = 16 ∨ k = 17 then 101 else 100
def rs_S (ra : Nat → Nat) (v : hv_V) : Prop := (hv_k v (ra 0) = (5, 0) ∧ hv_n v = ra 100 ∧ hv_t v = ra 101) ∧ (∀ k, rs_len k ≠ 0 → hv_p v (400 + k) (ra 0) = some (ra k) ∧ hv_k v (ra k) = (rs_ty k, rs_len k)) ∧ ∀ i k, rs_len i ≠ 0 → rs_len k ≠ 0 → ra i = ra k → i = k
section RSS
variable {ra : Nat → Nat} {v v1 : hv_V}
theorem rs_k0 (h : rs_S ra v) : hv_k v (ra 0) = (5, 0) := h.1.1
theorem rs_p (h : rs_S ra v) (k : Nat) (hk : rs_len k ≠ 0) : hv_p v (400 + k) (ra 0) = some (ra k) := (h.2.1 k hk).1
theorem rs_k (h : rs_S ra v) (k : Nat) (hk : rs_len k ≠ 0) : hv_k v (ra k) = (rs_ty k, rs_len k) := (h.2.1 k hk).2
theorem rs_ne (h : rs_S ra v) (i k : Nat) (hi : rs_len i ≠ 0) (hk : rs_len k ≠ 0) (hne : i ≠ k) : ra i ≠ ra k := fun e => hne (h.2.2 i k hi hk e)
theorem rs_of (h : rs_S ra v) (hk : ∀ a, hv_k v1 a = hv_k v a) (hp : ∀ f a, hv_p v1 f a = hv_p v f a) (hn : hv_n v1 = hv_n v) (ht : hv_t v1 = hv_t v) : rs_S ra v1 := ⟨by rw [hk, hn, ht]; exact h.1, fun k hk' => by rw [hp, hk]; exact h.2.1 k hk', h.2.2⟩
end RSS
/-- the reference's weights, who is down, delays, as ra tells them from 1000, 2000, 3000 on -/
def rs_G (ra gh : Nat → Nat) (v : hv_V) : Prop := (∀ i, i < 8 → gh (1000 + i) ≤ 9 ∧ hv_a v (ra 2) i = nI (gh (1000 + i))) ∧ (∀ i, i < 8 → gh (2000 + i) ≤ 1 ∧ hv_a v (ra 16) i = nI (gh (2000 + i))) ∧ ∀ e, e < 64 → gh (3000 + e) ≤ 20 ∧ hv_a v (ra 6) e = nI (gh (3000 + e))
theorem rs_Gof {ra gh : Nat → Nat} {v v1 : hv_V} (h : rs_G ra gh v) (ha : ∀ k e, k = 2 ∨ k = 16 ∨ k = 6 → hv_a v1 (ra k) e = hv_a v (ra k) e) : rs_G ra gh v1 := ⟨fun i hi => by rw [ha 2 i (by simp)]; exact h.1 i hi, fun i hi => by rw [ha 16 i (by simp)]; exact h.2.1 i hi, fun e he => by rw [ha 6 e (by simp)]; exact h.2.2 e he⟩
theorem rs_Gsa {ra gh : Nat → Nat} {v u : hv_V} {j : Nat} {x : Int32} (h1 : rs_S ra v) (h : rs_G ra gh u) (k : Nat) (hk : (rs_len k != 0 && k != 2 && k != 16 && k != 6) = true) : rs_G ra gh (hv_sa u (ra k) j x) := by
  simp only [Bool.and_eq_true, bne_iff_ne, ne_eq] at hk
  obtain ⟨⟨⟨c0, c1⟩, c2⟩, c3⟩ := hk
  refine rs_Gof h (fun i e hi => ?_)
  rw [hv_sa_a, if_neg (fun q => ?_)]
  have hl : rs_len i ≠ 0 := by rcases hi with rfl | rfl | rfl <;> decide
  have e1 := h1.2.2 i k hl c0 q.1
  subst e1
  rcases hi with hi | hi | hi
  · exact c1 hi
  · exact c2 hi
  · exact c3 hi
/-- a message's weight: a question may bring an answer -/
def rf_wt (k : Nat) : Nat := if k = 1 ∨ k = 4 ∨ k = 6 ∨ k = 7 then 9 else 8
/-- what a site may still send -/
def rf_c (s g f : Nat) : Nat := (if s < 4 then 56 else 0) + (if g = 1 then 63 else 0) + 64 * (800 - f)
def rf_G (ra : Nat → Nat) (n B t nm : Nat) (st dg F kd : Nat → Nat) (v : hv_V) : Prop :=
  t ≤ 4000 ∧ hv_i v 408 (ra 0) = nI t ∧ hv_i v 430 (ra 0) = nI nm ∧ (∃ q, 5 ≤ q ∧ q ≤ 100 ∧ hv_i v 405 (ra 0) = nI q) ∧
  (∀ i, i < 8 → hv_a v (ra 14) i = nI (st i) ∧ st i ≤ 5 ∧ hv_a v (ra 18) i = nI (dg i) ∧ dg i ≤ 4 ∧ (dg i ≠ 0 → st i < 4) ∧ 5 * F i ≤ t) ∧
  (∀ i, i < n → hv_a v (ra 21) i = -1 ∨ st i < 4 ∧ ∃ x, t ≤ x ∧ x ≤ 5000 ∧ 5 * (F i + 1) ≤ x ∧ hv_a v (ra 21) i = nI x) ∧
  (∀ k, k < nm → (∃ a, a < n ∧ hv_a v (ra 25) k = nI a) ∧ (∃ a, a < n ∧ hv_a v (ra 24) k = nI a) ∧ (∃ x, t ≤ x ∧ x ≤ 5000 ∧ hv_a v (ra 28) k = nI x) ∧ (∃ s, s ≤ 5 ∧ hv_a v (ra 27) k = nI s) ∧ hv_a v (ra 23) k = nI (kd k) ∧ kd k ≤ 10) ∧
  ci_sum (fun k => rf_wt (kd k)) nm + ci_sum (fun i => rf_c (st i) (dg i) (F i)) 8 ≤ B
/-- the reference's state, with all that is told of it -/
def rf_J (ra gh : Nat → Nat) (n b B t nm : Nat) (st dg F kd : Nat → Nat) (v : hv_V) : Prop := rs_S ra v ∧ (hv_i v 401 (ra 0) = nI n ∧ n ≤ 8) ∧ (hv_i v 407 (ra 0) = nI b ∧ b ≤ 1) ∧ rs_G ra gh v ∧ rf_G ra n B t nm st dg F kd v ∧ (b = 0 → nm = 0 ∧ (∀ i, i < 8 → st i = 0) ∧ ∀ i, i < n → hv_a v (ra 21) i = -1)
theorem ci_sum_set {f : Nat → Nat} {i y : Nat} : ∀ {m : Nat}, i < m → ci_sum (va_up f i y) m + f i = ci_sum f m + y
  | 0, h => by omega
  | m + 1, h => by
    show ci_sum (va_up f i y) m + va_up f i y m + f i = ci_sum f m + f m + y
    by_cases e : i = m
    · subst e
      rw [va_up_self, ci_sum_up i (Nat.le_refl _)]; omega
    · have := ci_sum_set (f := f) (i := i) (y := y) (m := m) (by omega)
      rw [va_up_ne _ _ (Ne.symm e)]; omega
theorem ci_sum_eq {f f1 : Nat → Nat} : ∀ m, (∀ i, i < m → f1 i = f i) → ci_sum f1 m = ci_sum f m
  | 0, _ => rfl
  | m + 1, h => by
    show ci_sum f1 m + f1 m = ci_sum f m + f m
    rw [ci_sum_eq m (fun i hi => h i (by omega)), h m (by omega)]
theorem ci_sum_ge {f : Nat → Nat} {i : Nat} : ∀ {m : Nat}, i < m → f i ≤ ci_sum f m
  | 0, h => by omega
  | m + 1, h => by
    show f i ≤ ci_sum f m + f m
    by_cases e : i = m
    · subst e; omega
    · have := ci_sum_ge (f := f) (i := i) (m := m) (by omega)
      omega
theorem ci_sum_lb {f : Nat → Nat} {c : Nat} : ∀ m, (∀ i, i < m → c ≤ f i) → c * m ≤ ci_sum f m
  | 0, _ => by omega
  | m + 1, h => by
    have := ci_sum_lb (f := f) (c := c) m (fun i hi => h i (by omega))
    have := h m (by omega)
    show c * (m + 1) ≤ ci_sum f m + f m
    rw [Nat.mul_succ]; omega
theorem rf_wt8 (k : Nat) : 8 ≤ rf_wt k := by unfold rf_wt; split <;> omega
theorem rf_wt9 (k : Nat) : rf_wt k ≤ 9 := by unfold rf_wt; split <;> omega
/-- int fields of which nothing is said -/
def rf_fi (f : Nat) : Bool := !([401, 405, 407, 408, 430].contains f)
/-- arrays of which nothing is said -/
def rf_fa (k : Nat) : Bool := [15, 17, 19, 20, 22, 26, 29, 31].contains k
section RFJ
variable {ra gh : Nat → Nat} {n b B t nm : Nat} {st dg F kd : Nat → Nat} {v v1 : hv_V}
theorem rf_nm (h : rf_J ra gh n b B t nm st dg F kd v) : 8 * nm ≤ B := by
  have h1 := h.2.2.2.2.1.2.2.2.2.2.2.2
  have h2 := ci_sum_lb (f := fun k => rf_wt (kd k)) (c := 8) nm (fun i _ => rf_wt8 _)
  omega
theorem rf_up {B' : Nat} (hB : B ≤ B') (h : rf_J ra gh n b B t nm st dg F kd v) : rf_J ra gh n b B' t nm st dg F kd v := by
  obtain ⟨h1, h2, h3, h4, ⟨g1, g2, g3, g4, g5, g6, g7, g8⟩, h5⟩ := h
  exact ⟨h1, h2, h3, h4, ⟨g1, g2, g3, g4, g5, g6, g7, Nat.le_trans g8 hB⟩, h5⟩
theorem rf_Jof (h : rf_J ra gh n b B t nm st dg F kd v) (hk : ∀ a, hv_k v1 a = hv_k v a) (hp : ∀ f a, hv_p v1 f a = hv_p v f a) (hn : hv_n v1 = hv_n v) (ht : hv_t v1 = hv_t v) (hi : ∀ f, rf_fi f = false → hv_i v1 f (ra 0) = hv_i v f (ra 0)) (ha : ∀ k e, k = 2 ∨ k = 16 ∨ k = 6 ∨ k = 14 ∨ k = 18 ∨ k = 21 ∨ ((k = 23 ∨ k = 24 ∨ k = 25 ∨ k = 27 ∨ k = 28) ∧ e < nm) → hv_a v1 (ra k) e = hv_a v (ra k) e) : rf_J ra gh n b B t nm st dg F kd v1 := by
  obtain ⟨h1, h2, h3, h4, ⟨g1, g2, g3, g4, g5, g6, g7, g8⟩, h5⟩ := h
  refine ⟨rs_of h1 hk hp hn ht, by rw [hi _ rfl]; exact h2, by rw [hi _ rfl]; exact h3, rs_Gof h4 (fun k e hk => ha k e (by omega)), ⟨g1, by rw [hi _ rfl]; exact g2, by rw [hi _ rfl]; exact g3, by rw [hi _ rfl]; exact g4, fun i hi8 => by rw [ha 14 i (by simp), ha 18 i (by simp)]; exact g5 i hi8, fun i hin => by rw [ha 21 i (by simp)]; exact g6 i hin, fun k hk => ?_, g8⟩, fun hb => ⟨(h5 hb).1, (h5 hb).2.1, fun i hi => by rw [ha 21 i (by simp)]; exact (h5 hb).2.2 i hi⟩⟩
  rw [ha 25 k (by simp [hk]), ha 24 k (by simp [hk]), ha 28 k (by simp [hk]), ha 27 k (by simp [hk]), ha 23 k (by simp [hk])]
  exact g7 k hk
theorem rf_puti {f : Nat} {x : Int32} (hf : rf_fi f = true) (h : rf_J ra gh n b B t nm st dg F kd v) : rf_J ra gh n b B t nm st dg F kd (hv_si v f (ra 0) x) :=
  rf_Jof h (fun _ => rfl) (fun _ _ => rfl) rfl rfl (fun e he => by rw [hv_si_i, if_neg (fun q => by rw [q.1, hf] at he; cases he)]) (fun _ _ _ => rfl)
theorem rf_len {k : Nat} (hf : rf_fa k = true) : rs_len k ≠ 0 := by
  simp only [rf_fa, List.contains_eq_mem, List.mem_cons, decide_eq_true_eq, List.not_mem_nil, or_false] at hf
  rcases hf with rfl | rfl | rfl | rfl | rfl | rfl | rfl | rfl <;> decide
theorem rf_puta {k j : Nat} {x : Int32} (hf : rf_fa k = true) (h : rf_J ra gh n b B t nm st dg F kd v) : rf_J ra gh n b B t nm st dg F kd (hv_sa v (ra k) j x) :=
  rf_Jof h (fun _ => rfl) (fun _ _ => rfl) rfl rfl (fun _ _ => rfl) (fun i e hi => by
    have hl := rf_len hf
    rw [hv_sa_a, if_neg (fun q => ?_)]
    have hne : rs_len i ≠ 0 := by rcases hi with rfl | rfl | rfl | rfl | rfl | rfl | ⟨rfl | rfl | rfl | rfl | rfl, -⟩ <;> decide
    have e1 := h.1.2.2 i k hne hl q.1
    subst e1
    rcases hi with rfl | rfl | rfl | rfl | rfl | rfl | ⟨rfl | rfl | rfl | rfl | rfl, -⟩ <;> cases hf)
/-- behind the messages -/
theorem rf_putm {k j : Nat} {x : Int32} (hk : 23 ≤ k ∧ k < 30) (hj : nm ≤ j) (h : rf_J ra gh n b B t nm st dg F kd v) : rf_J ra gh n b B t nm st dg F kd (hv_sa v (ra k) j x) :=
  rf_Jof h (fun _ => rfl) (fun _ _ => rfl) rfl rfl (fun _ _ => rfl) (fun i e hi => by
    have hl : rs_len k ≠ 0 := by unfold rs_len; rw [if_neg (by omega), if_pos hk]; decide
    rw [hv_sa_a, if_neg (fun q => ?_)]
    have hne : rs_len i ≠ 0 := by rcases hi with rfl | rfl | rfl | rfl | rfl | rfl | ⟨rfl | rfl | rfl | rfl | rfl, -⟩ <;> decide
    have e1 := h.1.2.2 i k hne hl q.1
    have e2 := q.2
    omega)
/-- one message more -/
theorem rf_push {κ a c s x : Nat} (h : rf_J ra gh n b B t nm st dg F kd v) (h25 : hv_a v (ra 25) nm = nI c) (hc : c < n) (h24 : hv_a v (ra 24) nm = nI a) (ha : a < n) (h28 : hv_a v (ra 28) nm = nI x) (hx1 : t ≤ x) (hx2 : x ≤ 5000) (h27 : hv_a v (ra 27) nm = nI s) (hs : s ≤ 5) (h23 : hv_a v (ra 23) nm = nI κ) (hκ : κ ≤ 10) (hb : b = 1) : rf_J ra gh n b (B + rf_wt κ) t (nm + 1) st dg F (va_up kd nm κ) (hv_si v 430 (ra 0) (nI (nm + 1))) := by
  obtain ⟨h1, h2, h3, h4, ⟨g1, g2, g3, g4, g5, g6, g7, g8⟩, h5⟩ := h
  refine ⟨h1, h2, h3, h4, ⟨g1, g2, by rw [hv_si_i, if_pos ⟨rfl, rfl⟩], g4, g5, g6, fun k hk => ?_, ?_⟩, fun hb0 => by omega⟩
  · by_cases e : k = nm
    · subst e
      rw [va_up_self]
      exact ⟨⟨c, hc, h25⟩, ⟨a, ha, h24⟩, ⟨x, hx1, hx2, h28⟩, ⟨s, hs, h27⟩, h23, hκ⟩
    · rw [va_up_ne _ _ e]
      exact g7 k (by omega)
  · show ci_sum (fun k => rf_wt (va_up kd nm κ k)) nm + rf_wt (va_up kd nm κ nm) + _ ≤ _
    rw [va_up_self, ci_sum_eq (f := fun k => rf_wt (kd k)) nm (fun i hi => by rw [va_up_ne _ _ (by omega)])]
    omega
/-- a site's timer -/
theorem rf_timer {i x : Nat} (h : rf_J ra gh n b B t nm st dg F kd v) (hi : i < 8) (hst : st i < 4) (h1x : t + 5 ≤ x) (h2x : x ≤ 5000) (hb : b = 1) : rf_J ra gh n b B t nm st dg F kd (hv_sa v (ra 21) (nI i).toNatClampNeg (nI x)) := by
  obtain ⟨h1, h2, h3, h4, ⟨g1, g2, g3, g4, g5, g6, g7, g8⟩, h5⟩ := h
  have ne : ∀ k, rs_len k ≠ 0 → k ≠ 21 → ra k ≠ ra 21 := fun k hk hn => rs_ne h1 k 21 hk (by decide) hn
  refine ⟨h1, h2, h3, rs_Gsa h1 h4 21 rfl, ⟨g1, g2, g3, g4, fun j hj => by rw [hv_sa_a, if_neg (fun q => ne 14 (by decide) (by decide) q.1), hv_sa_a, if_neg (fun q => ne 18 (by decide) (by decide) q.1)]; exact g5 j hj, fun j hj => ?_, fun k hk => by rw [hv_sa_a, if_neg (fun q => ne 25 (by decide) (by decide) q.1), hv_sa_a, if_neg (fun q => ne 24 (by decide) (by decide) q.1), hv_sa_a, if_neg (fun q => ne 28 (by decide) (by decide) q.1), hv_sa_a, if_neg (fun q => ne 27 (by decide) (by decide) q.1), hv_sa_a, if_neg (fun q => ne 23 (by decide) (by decide) q.1)]; exact g7 k hk, g8⟩, fun hb0 => by omega⟩
  rw [hv_sa_a, cs_cl hi]
  by_cases e : j = i
  · subst e
    rw [if_pos ⟨rfl, rfl⟩]
    have := (g5 j hi).2.2.2.2.2
    exact Or.inr ⟨hst, x, by omega, h2x, by omega, rfl⟩
  · rw [if_neg (fun q => e q.2)]; exact g6 j hj
/-- a timer goes off; if it ran out now, that is one time less -/
theorem rf_off {i : Nat} (h : rf_J ra gh n b B t nm st dg F kd v) (hi : i < 8) : rf_J ra gh n b B t nm st dg F kd (hv_sa v (ra 21) (nI i).toNatClampNeg (-1)) := by
  obtain ⟨h1, h2, h3, h4, ⟨g1, g2, g3, g4, g5, g6, g7, g8⟩, h5⟩ := h
  have ne : ∀ k, rs_len k ≠ 0 → k ≠ 21 → ra k ≠ ra 21 := fun k hk hn => rs_ne h1 k 21 hk (by decide) hn
  refine ⟨h1, h2, h3, rs_Gsa h1 h4 21 rfl, ⟨g1, g2, g3, g4, fun j hj => by rw [hv_sa_a, if_neg (fun q => ne 14 (by decide) (by decide) q.1), hv_sa_a, if_neg (fun q => ne 18 (by decide) (by decide) q.1)]; exact g5 j hj, fun j hj => ?_, fun k hk => by rw [hv_sa_a, if_neg (fun q => ne 25 (by decide) (by decide) q.1), hv_sa_a, if_neg (fun q => ne 24 (by decide) (by decide) q.1), hv_sa_a, if_neg (fun q => ne 28 (by decide) (by decide) q.1), hv_sa_a, if_neg (fun q => ne 27 (by decide) (by decide) q.1), hv_sa_a, if_neg (fun q => ne 23 (by decide) (by decide) q.1)]; exact g7 k hk, g8⟩, fun hb => ⟨(h5 hb).1, (h5 hb).2.1, fun j hj => by rw [hv_sa_a]; split; rfl; exact (h5 hb).2.2 j hj⟩⟩
  rw [hv_sa_a, cs_cl hi]
  by_cases e : j = i
  · rw [if_pos ⟨rfl, e⟩]; exact Or.inl rfl
  · rw [if_neg (fun q => e q.2)]; exact g6 j hj
theorem rf_fire {i : Nat} (h : rf_J ra gh n b B t nm st dg F kd v) (hi : i < 8) (hF : 5 * (F i + 1) ≤ t) : rf_J ra gh n b (B - 64) t nm st dg (va_up F i (F i + 1)) kd (hv_sa v (ra 21) (nI i).toNatClampNeg (-1)) := by
  have h0 := rf_off h hi
  obtain ⟨h1, h2, h3, h4, ⟨g1, g2, g3, g4, g5, g6, g7, g8⟩, h5⟩ := h0
  have ne : ∀ k, rs_len k ≠ 0 → k ≠ 21 → ra k ≠ ra 21 := fun k hk hn => rs_ne h1 k 21 hk (by decide) hn
  refine ⟨h1, h2, h3, h4, ⟨g1, g2, g3, g4, fun j hj => ?_, fun j hj => ?_, g7, ?_⟩, h5⟩
  · obtain ⟨a1, a2, a3, a4, a5, a6⟩ := g5 j hj
    refine ⟨a1, a2, a3, a4, a5, ?_⟩
    by_cases e : j = i
    · subst e; rw [va_up_self]; exact hF
    · rw [va_up_ne _ _ e]; exact a6
  · by_cases e : j = i
    · subst e
      rw [hv_sa_a, cs_cl hi, if_pos ⟨rfl, rfl⟩]
      exact Or.inl rfl
    · rw [va_up_ne _ _ e]; exact g6 j hj
  · have e1 := ci_sum_set (f := fun j => rf_c (st j) (dg j) (F j)) (i := i) (y := rf_c (st i) (dg i) (F i + 1)) (m := 8) hi
    rw [ci_sum_eq (f := va_up (fun j => rf_c (st j) (dg j) (F j)) i (rf_c (st i) (dg i) (F i + 1))) (f1 := fun j => rf_c (st j) (dg j) (va_up F i (F i + 1) j)) 8 (fun j hj => by by_cases e : j = i <;> simp [va_up, e])]
    have e2 : rf_c (st i) (dg i) (F i + 1) + 64 = rf_c (st i) (dg i) (F i) := by unfold rf_c; omega
    omega
/-- a site's state and what it does -/
theorem rf_sum {i s g : Nat} (hi : i < 8) : ci_sum (fun j => rf_c (va_up st i s j) (va_up dg i g j) (F j)) 8 + rf_c (st i) (dg i) (F i) = ci_sum (fun j => rf_c (st j) (dg j) (F j)) 8 + rf_c s g (F i) := by
  have e1 := ci_sum_set (f := fun j => rf_c (st j) (dg j) (F j)) (i := i) (y := rf_c s g (F i)) (m := 8) hi
  rw [ci_sum_eq (f := va_up (fun j => rf_c (st j) (dg j) (F j)) i (rf_c s g (F i))) (f1 := fun j => rf_c (va_up st i s j) (va_up dg i g j) (F j)) 8 (fun j hj => by by_cases e : j = i <;> simp [va_up, e])]
  exact e1
theorem va_up_id (f : Nat → Nat) (i : Nat) : va_up f i (f i) = f := by
  funext j
  by_cases e : j = i
  · rw [e, va_up_self]
  · rw [va_up_ne _ _ e]
theorem rf_state {i s B' : Nat} (h : rf_J ra gh n b B t nm st dg F kd v) (hi : i < 8) (hs : s < 4) (hb : b = 1) (hB : ∀ P, P + rf_c (st i) (dg i) (F i) ≤ B → P + rf_c s (dg i) (F i) ≤ B') : rf_J ra gh n b B' t nm (va_up st i s) dg F kd (hv_sa v (ra 14) (nI i).toNatClampNeg (nI s)) := by
  obtain ⟨h1, h2, h3, h4, ⟨g1, g2, g3, g4, g5, g6, g7, g8⟩, h5⟩ := h
  have ne : ∀ k, rs_len k ≠ 0 → k ≠ 14 → ra k ≠ ra 14 := fun k hk hn => rs_ne h1 k 14 hk (by decide) hn
  refine ⟨h1, h2, h3, rs_Gsa h1 h4 14 rfl, ⟨g1, g2, g3, g4, fun j hj => ?_, fun j hj => ?_, fun k hk => by rw [hv_sa_a, if_neg (fun q => ne 25 (by decide) (by decide) q.1), hv_sa_a, if_neg (fun q => ne 24 (by decide) (by decide) q.1), hv_sa_a, if_neg (fun q => ne 28 (by decide) (by decide) q.1), hv_sa_a, if_neg (fun q => ne 27 (by decide) (by decide) q.1), hv_sa_a, if_neg (fun q => ne 23 (by decide) (by decide) q.1)]; exact g7 k hk, ?_⟩, fun hb0 => by omega⟩
  · obtain ⟨a1, a2, a3, a4, a5, a6⟩ := g5 j hj
    have z1 : hv_a (hv_sa v (ra 14) (nI i).toNatClampNeg (nI s)) (ra 18) j = hv_a v (ra 18) j := by rw [hv_sa_a, if_neg (fun q => ne 18 (by decide) (by decide) q.1)]
    rw [z1, hv_sa_a, cs_cl hi]
    by_cases e : j = i
    · subst e
      rw [if_pos ⟨rfl, rfl⟩, va_up_self]
      exact ⟨rfl, by omega, a3, a4, fun _ => hs, a6⟩
    · rw [if_neg (fun q => e q.2), va_up_ne _ _ e]
      exact ⟨a1, a2, a3, a4, a5, a6⟩
  · rw [hv_sa_a, if_neg (fun q => ne 21 (by decide) (by decide) q.1)]
    rcases g6 j hj with q | ⟨q, x⟩
    · exact Or.inl q
    · refine Or.inr ⟨?_, x⟩
      by_cases e : j = i
      · rw [e, va_up_self]; exact hs
      · rw [va_up_ne _ _ e]; exact q
  · have e1 := rf_sum (st := st) (dg := dg) (F := F) (s := s) (g := dg i) hi
    rw [va_up_id] at e1
    have e2 := ci_sum_ge (f := fun j => rf_c (st j) (dg j) (F j)) hi
    have := hB (ci_sum (fun k => rf_wt (kd k)) nm + ci_sum (fun j => rf_c (st j) (dg j) (F j)) 8 - rf_c (st i) (dg i) (F i)) (by omega)
    omega
theorem rf_does {i g B' : Nat} (h : rf_J ra gh n b B t nm st dg F kd v) (hi : i < 8) (hg : g ≤ 4) (hd : g ≠ 0 → st i < 4) (hB : ∀ P, P + rf_c (st i) (dg i) (F i) ≤ B → P + rf_c (st i) g (F i) ≤ B') : rf_J ra gh n b B' t nm st (va_up dg i g) F kd (hv_sa v (ra 18) (nI i).toNatClampNeg (nI g)) := by
  obtain ⟨h1, h2, h3, h4, ⟨g1, g2, g3, g4, g5, g6, g7, g8⟩, h5⟩ := h
  have ne : ∀ k, rs_len k ≠ 0 → k ≠ 18 → ra k ≠ ra 18 := fun k hk hn => rs_ne h1 k 18 hk (by decide) hn
  refine ⟨h1, h2, h3, rs_Gsa h1 h4 18 rfl, ⟨g1, g2, g3, g4, fun j hj => ?_, fun j hj => by rw [hv_sa_a, if_neg (fun q => ne 21 (by decide) (by decide) q.1)]; exact g6 j hj, fun k hk => by rw [hv_sa_a, if_neg (fun q => ne 25 (by decide) (by decide) q.1), hv_sa_a, if_neg (fun q => ne 24 (by decide) (by decide) q.1), hv_sa_a, if_neg (fun q => ne 28 (by decide) (by decide) q.1), hv_sa_a, if_neg (fun q => ne 27 (by decide) (by decide) q.1), hv_sa_a, if_neg (fun q => ne 23 (by decide) (by decide) q.1)]; exact g7 k hk, ?_⟩, fun hb => ⟨(h5 hb).1, (h5 hb).2.1, fun j hj => by rw [hv_sa_a, if_neg (fun q => ne 21 (by decide) (by decide) q.1)]; exact (h5 hb).2.2 j hj⟩⟩
  · obtain ⟨a1, a2, a3, a4, a5, a6⟩ := g5 j hj
    have z1 : hv_a (hv_sa v (ra 18) (nI i).toNatClampNeg (nI g)) (ra 14) j = hv_a v (ra 14) j := by rw [hv_sa_a, if_neg (fun q => ne 14 (by decide) (by decide) q.1)]
    rw [z1, hv_sa_a, cs_cl hi]
    by_cases e : j = i
    · subst e
      rw [if_pos ⟨rfl, rfl⟩, va_up_self]
      exact ⟨a1, a2, rfl, hg, hd, a6⟩
    · rw [if_neg (fun q => e q.2), va_up_ne _ _ e]
      exact ⟨a1, a2, a3, a4, a5, a6⟩
  · have e1 := rf_sum (st := st) (dg := dg) (F := F) (s := st i) (g := g) hi
    rw [va_up_id] at e1
    have e2 := ci_sum_ge (f := fun j => rf_c (st j) (dg j) (F j)) hi
    have := hB (ci_sum (fun k => rf_wt (kd k)) nm + ci_sum (fun j => rf_c (st j) (dg j) (F j)) 8 - rf_c (st i) (dg i) (F i)) (by omega)
    omega
end RFJ
