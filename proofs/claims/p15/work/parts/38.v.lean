/-! ===== the law: its world ===== -/
theorem lw_hB {b : Nat} {s : State} (hts : ∀ w ∈ lw_tbl, w.before #[Value.ref b] s = true) : ∀ w ∈ Cond.arrayClass .int :: lw_B, w.before #[Value.ref b] s = true := fun w h => by
  rcases List.mem_cons.mp h with rfl | h
  · exact hts _ (by decide +kernel)
  · exact hts _ (List.mem_filter.mp h).1
theorem lw_arr {s : State} {a : Array Value} {ty : FieldType} (hn : ∀ C, ty ≠ .object C) (h : (Cond.arrayClass ty).before a s = true) : ∃ c, ArrOfT s c ty ∧ va_RA s c ty := by
  obtain ⟨c, k, comp, h1, h2, h3⟩ := Cond.arrayClass_spec h
  refine ⟨c, fun n z => ⟨fun k h => (by cases h), k, h2, comp, h3⟩, ?_⟩
  cases ty with
  | object C => exact absurd rfl (hn C)
  | _ => exact h1
theorem lw_arrO {s : State} {a : Array Value} {C : String} (h : (Cond.arrayOver (.object C)).before a s = true) : ∃ c, ArrOfT s c (.object C) ∧ va_RA s c (.object C) := by
  obtain ⟨comp, c, k, h1, h2, h3, h4, h5⟩ := Cond.arrayOver_spec h
  exact ⟨c, fun n z => ⟨fun k h => (by cases h), k, h3, comp, h4⟩, k, comp, h3, h4, h1, h5⟩
theorem lw_over {s : State} {a : Array Value} (h : (Cond.arrayOver (.array .int)).before a s = true) : ∃ (comp c : ClassId) (k : Class), s.vm.classes[c]? = some k ∧ k.kind = .array comp (.array .int) ∧ s.vm.findClass ("[" ++ (FieldType.array .int).toString) = some c := by
  simp only [Cond.before, Cond.holds, Cond.value] at h
  cases hf : s.vm.findClass (FieldType.array .int).toString with
  | none => rw [hf] at h; simp at h
  | some comp =>
    rw [hf] at h
    simp only [Option.bind_some] at h
    generalize hF : (s.vm.classes.findIdx? fun (x : Class) => match x.kind with | .array component _ => component == comp | _ => false) = fi at h
    cases fi with
    | none => simp at h
    | some c =>
      simp only [Option.bind_some] at h
      cases hk : s.vm.classes[c]? with
      | none => rw [hk] at h; simp at h
      | some k =>
        rw [hk] at h
        simp only [Option.map_some] at h
        cases hkind : k.kind with
        | array comp1 ty =>
          rw [hkind] at h
          simp at h
          exact ⟨comp1, c, k, hk, by rw [hkind, h.1], h.2⟩
        | _ => simp [hkind] at h
theorem lw_K {b : Nat} {s : State} (hts : ∀ w ∈ lw_tbl, w.before #[Value.ref b] s = true) : ∃ (D : va_G) (tc : Nat → ClassId), hv_K D tc s := by
  have hB := lw_hB hts
  obtain ⟨c0, i0, k0⟩ := u_known (C := RX0) (T := TX0) (N := 8) (n := 8) hB (tw_cs in_X0) (hts (.instantiable RX0 8) (by decide +kernel))
  obtain ⟨c1, i1, k1⟩ := u_known (C := RX1) (T := TX1) (N := 9) (n := 9) hB (tw_cs in_X1) (hts (.instantiable RX1 9) (by decide +kernel))
  obtain ⟨c2, i2, k2⟩ := u_known (C := RX2) (T := TX2) (N := 10) (n := 10) hB (tw_cs in_X2) (hts (.instantiable RX2 10) (by decide +kernel))
  obtain ⟨c3, i3, k3⟩ := u_known (C := RX3) (T := TX3) (N := 12) (n := 12) hB (tw_cs in_X3) (hts (.instantiable RX3 12) (by decide +kernel))
  obtain ⟨c4, i4, k4⟩ := u_known (C := RX4) (T := TX4) (N := 34) (n := 34) hB (tw_cs in_X4) (hts (.instantiable RX4 34) (by decide +kernel))
  obtain ⟨t0, a0⟩ := lw_arr (ty := .int) (fun C h => by cases h) (hts (.arrayClass .int) (by decide +kernel))
  obtain ⟨t1, a1⟩ := lw_arr (ty := .boolean) (fun C h => by cases h) (hts (.arrayClass .boolean) (by decide +kernel))
  obtain ⟨t2, a2⟩ := lw_arrO (hts (.arrayOver (.object "CommitSites$Site")) (by decide +kernel))
  obtain ⟨t3, a3⟩ := lw_arrO (hts (.arrayOver (.object "CommitSites$Message")) (by decide +kernel))
  have h4 : (Cond.arrayOver (.array .int)).before #[Value.ref b] s = true := hts (.arrayOver (.array .int)) (by decide +kernel)
  obtain ⟨t4, a4⟩ : ∃ c, ArrOfT s c (.array .int) ∧ va_RA s c (.array .int) := by
    obtain ⟨comp, c, k, h3, h4, h5⟩ := lw_over h4
    exact ⟨c, fun n z => ⟨fun k h => (by cases h), k, h3, comp, h4⟩, h5⟩
  refine ⟨(fun k => if k = 0 then c0 else if k = 1 then c1 else if k = 2 then c2 else if k = 3 then c3 else c4, fun k => if k = 0 then i0 else if k = 1 then i1 else if k = 2 then i2 else if k = 3 then i3 else i4), fun k => if k = 0 then t0 else if k = 1 then t1 else if k = 2 then t2 else if k = 3 then t3 else t4, ⟨fun k q hq => ?_, fun k q hq => ?_⟩, ?_⟩
  · match k, hq with
    | 0, hq => cases hq; exact k0
    | 1, hq => cases hq; exact k1
    | 2, hq => cases hq; exact k2
    | 3, hq => cases hq; exact k3
    | 4, hq => cases hq; exact k4
    | k + 5, hq => simp [vwCl] at hq
  · match k, hq with
    | 0, hq => cases hq; exact a0
    | 1, hq => cases hq; exact a1
    | 2, hq => cases hq; exact a2
    | 3, hq => cases hq; exact a3
    | 4, hq => cases hq; exact a4
    | k + 5, hq => simp [hv_tys] at hq
  · exact ⟨hts (.methodLinkNest "CommitSites$Network" 48 yX3_hasBit "CommitSites") (by decide +kernel), hts (.methodLinkNest "CommitSites$Network" 52 yX0_init "CommitSites") (by decide +kernel), hts (.arrayOver (.object "CommitSites$Site")) (by decide +kernel), hts (.arrayOver (.object "CommitSites$Message")) (by decide +kernel), h4⟩
/-- the law's heap: what it has made, two views side by side -/
def lw_S (s : State) (D : va_G) (tc : Nat → ClassId) (v r : hv_V) (H : Heap) (locs : List Loc) : Prop :=
  hv_W D tc v H ∧ hv_W D tc r H ∧ (∀ a : Nat, (hv_k v a).1 ≠ 0 → s.heap.size ≤ a) ∧ (∀ a : Nat, (hv_k r a).1 ≠ 0 → s.heap.size ≤ a) ∧ va_S (fun q : Nat => s.heap.size ≤ q) s.heap H locs ∧ ∀ a : Nat, (hv_k v a).1 ≠ 0 → (hv_k r a).1 ≠ 0 → False
section LWS
variable {p : Program} {l : Launch} {e : Env} {R : Room} {s : State} {m : MethodId} {args : Array Value} {below : List Frame} {meth : Method} {c : Code} {H : Heap} {locs : List Loc} {Q : State → Prop}
variable {D : va_G} {tc : Nat → ClassId} {v r : hv_V} {cells slots mc ms pc : Nat} {ls : Array Slot} {rest st0 : List Value} {a : Array Value}
theorem lw_S.sw (h : lw_S s D tc v r H locs) : lw_S s D tc r v H locs := ⟨h.2.1, h.1, h.2.2.2.1, h.2.2.1, h.2.2.2.2.1, fun a h1 h2 => h.2.2.2.2.2 a h2 h1⟩
theorem lw_S.st (h : lw_S s D tc v r H locs) : hv_St (fun q : Nat => s.heap.size ≤ q) s D tc v H locs := ⟨h.1, h.2.2.1, h.2.2.2.2.1, fun _ h => h⟩
/-- a call on the first view's object -/
theorem lw_calli {post : Int32 → hv_V → Prop} (hr : va_Run p l e R s m args below meth c H locs cells slots mc ms (F0 m pc ls st0) rest (va_Qi post (hv_Post D tc (hv_A v)) (hv_A v) a) (hv_A v)) (hT : lw_S s D tc v r H locs)
    (kk : ∀ (x : Int32) (v1 : hv_V) (H1 : Heap) (locs1 : List Loc), post x v1 → lw_S s D tc v1 (hv_sz r H1.size (hv_tot H1)) H1 locs1 → H1.size = hv_n v1 → hv_tot H1 = hv_t v1 → W p l e R s m args below meth c H1 locs1 (H1.size - s.heap.size) (hv_tot H1 - hv_tot s.heap) Q (F0 m (pc + 3) ls (.int x :: rest))) : W p l e R s m args below meth c H locs cells slots Q (F0 m pc ls st0) := by
  have hsub := hv_sub hT.st
  refine va_calli hr hT.2.2.2.2.1 (fun q _ h => hsub q h) hsub fun x u t H1 locs1 ht hvm hp hB hz hk hS => ?_
  have hW1 : hv_W D tc u H1 := by rw [← ht]; exact hB.2.1
  have hq : ∀ a, (hv_k r a).1 ≠ 0 → H1[a]? = H[a]? := fun a ha => hk a (by have := hT.2.1.2.1 a ha; rw [← hT.2.1.2.2.1] at this; exact this) (fun hA => by
    rcases hA with hA | hA
    · exact hT.2.2.2.2.2 a hA ha
    · have h1 := hT.2.1.2.1 a ha
      have e1 := hT.2.1.2.2.1
      have e2 := hT.1.2.2.1
      omega)
  refine hv_tight (c1 := H1.size - s.heap.size) (n1 := hv_tot H1 - hv_tot s.heap) (by omega) (by omega) (kk x u H1 locs1 hp ⟨hW1, hv_W_beside hT.2.1 hz hq, fun a ha => hsub a (hB.2.2 a ha), hT.2.2.2.1, hS, fun a h1 h2 => ?_⟩ hW1.2.2.1 hW1.2.2.2)
  have h2 : (hv_k r a).1 ≠ 0 := h2
  rcases hB.2.2 a h1 with hA | hA
  · exact hT.2.2.2.2.2 a hA h2
  · have h3 := hT.2.1.2.1 a h2
    have e1 := hT.2.1.2.2.1
    have e2 := hT.1.2.2.1
    omega
theorem lw_callv {post : hv_V → Prop} (hr : va_Run p l e R s m args below meth c H locs cells slots mc ms (F0 m pc ls st0) rest (va_Qv post (hv_Post D tc (hv_A v)) (hv_A v) a) (hv_A v)) (hT : lw_S s D tc v r H locs)
    (kk : ∀ (v1 : hv_V) (H1 : Heap) (locs1 : List Loc), post v1 → lw_S s D tc v1 (hv_sz r H1.size (hv_tot H1)) H1 locs1 → H1.size = hv_n v1 → hv_tot H1 = hv_t v1 → W p l e R s m args below meth c H1 locs1 (H1.size - s.heap.size) (hv_tot H1 - hv_tot s.heap) Q (F0 m (pc + 3) ls rest)) : W p l e R s m args below meth c H locs cells slots Q (F0 m pc ls st0) := by
  have hsub := hv_sub hT.st
  refine va_callv hr hT.2.2.2.2.1 (fun q _ h => hsub q h) hsub fun u t H1 locs1 ht hvm hp hB hz hk hS => ?_
  have hW1 : hv_W D tc u H1 := by rw [← ht]; exact hB.2.1
  have hq : ∀ a, (hv_k r a).1 ≠ 0 → H1[a]? = H[a]? := fun a ha => hk a (by have := hT.2.1.2.1 a ha; rw [← hT.2.1.2.2.1] at this; exact this) (fun hA => by
    rcases hA with hA | hA
    · exact hT.2.2.2.2.2 a hA ha
    · have h1 := hT.2.1.2.1 a ha
      have e1 := hT.2.1.2.2.1
      have e2 := hT.1.2.2.1
      omega)
  refine hv_tight (c1 := H1.size - s.heap.size) (n1 := hv_tot H1 - hv_tot s.heap) (by omega) (by omega) (kk u H1 locs1 hp ⟨hW1, hv_W_beside hT.2.1 hz hq, fun a ha => hsub a (hB.2.2 a ha), hT.2.2.2.1, hS, fun a h1 h2 => ?_⟩ hW1.2.2.1 hW1.2.2.2)
  have h2 : (hv_k r a).1 ≠ 0 := h2
  rcases hB.2.2 a h1 with hA | hA
  · exact hT.2.2.2.2.2 a hA h2
  · have h3 := hT.2.1.2.1 a h2
    have e1 := hT.2.1.2.2.1
    have e2 := hT.1.2.2.1
    omega
end LWS
/-- what the law knows of the class's object x; T tells the cells and slots there were -/
def lw_C (T : Nat × Nat) (x : Nat) (v : hv_V) : Prop := ∃ (fa : Nat → Nat) (n : Nat) (w u : Nat → Nat) (b : Nat) (d : Nat → Nat → Nat) (k : Nat), fa 0 = x ∧ ci_I fa n w u b d (T.1 + 2 * n, T.2 + 18 * n) k [] v
theorem ci_sz {fa : Nat → Nat} {n : Nat} {w u : Nat → Nat} {b : Nat} {d : Nat → Nat → Nat} {g g1 : Nat × Nat} {k : Nat} {hd : List Nat} {v : hv_V} {N T : Nat} (h : ci_I fa n w u b d g k hd v) (hN : N = g1.1 + k) (hT : T = g1.2 + 8 * k) : ci_I fa n w u b d g1 k hd (hv_sz v N T) := by
  obtain ⟨h1, h2, ⟨Sl, Sp, ⟨a1, a2, a3, a4, a5, a6⟩, a7⟩, h3, h4⟩ := h
  exact ⟨h1, h2, ⟨Sl, Sp, ⟨a1, a2, a3, a4, ci_chE (v := v) (v1 := hv_sz v N T) (fun _ => rfl) _ _ a5, fun s hs => ⟨ci_chE (v := v) (v1 := hv_sz v N T) (fun _ => rfl) _ _ (a6 s hs).1, (a6 s hs).2⟩⟩, a7⟩, hN, hT⟩
theorem hv_sz_id (v : hv_V) : hv_sz v (hv_n v) (hv_t v) = v := rfl
def rs_up (ra : Nat → Nat) (N T k : Nat) : Nat := if k = 100 then N else if k = 101 then T else ra k
theorem rf_sz {ra gh : Nat → Nat} {n b B t nm : Nat} {st dg F kd : Nat → Nat} {v : hv_V} (N T : Nat) (h : rf_J ra gh n b B t nm st dg F kd v) : rf_J (rs_up ra N T) gh n b B t nm st dg F kd (hv_sz v N T) := by
  obtain ⟨⟨h1, h2, h3⟩, h4⟩ := h
  have e : ∀ k, rs_len k ≠ 0 → rs_up ra N T k = ra k := fun k hk => by
    have := rs_dom hk
    unfold rs_up; rw [if_neg (by omega), if_neg (by omega)]
  exact ⟨⟨⟨h1.1, rfl, rfl⟩, fun k hk => by rw [e k hk]; exact h2 k hk, fun i k hi hk => by rw [e i hi, e k hk]; exact h3 i k hi hk⟩, h4⟩
theorem lw_Csz {T : Nat × Nat} {x : Nat} {v : hv_V} {N S : Nat} (h : lw_C T x v) (hN : N = hv_n v) (hS : S = hv_t v) : lw_C T x (hv_sz v N S) := by rw [hN, hS]; exact h
theorem lw_Csize {T : Nat × Nat} {x : Nat} {v : hv_V} (h : lw_C T x v) : hv_n v ≤ T.1 + 4113 ∧ hv_t v ≤ T.2 + 32920 := by
  obtain ⟨fa, n, w, u, b, d, k, -, hI⟩ := h
  have h1 := cs_n8 hI.1
  have h2 := ci_kle hI
  have h3 := hI.2.2.2.1
  have h4 := hI.2.2.2.2
  constructor
  · rw [h3]; show T.1 + 2 * n + k ≤ _; omega
  · rw [h4]; show T.2 + 18 * n + 8 * k ≤ _; omega


theorem lw_sz {v : hv_V} {N S : Nat} (hN : N = hv_n v) (hS : S = hv_t v) : hv_sz v N S = v := by rw [hN, hS]; rfl
/-- the class's state, but its messages -/
def cl_I (fa : Nat → Nat) (n : Nat) (w u : Nat → Nat) (b : Nat) (d : Nat → Nat → Nat) (g : Nat × Nat) (v : hv_V) : Prop := ∃ k, ci_I fa n w u b d g k [] v
/-- the reference's state, but its messages -/
def rl_J (ra gh : Nat → Nat) (n b B : Nat) (v : hv_V) : Prop := ∃ t nm st dg F kd, rf_J ra gh n b B t nm st dg F kd v
/-- the tie of the two -/
def lw_rel (n : Nat) (w u : Nat → Nat) (d : Nat → Nat → Nat) (gh : Nat → Nat) : Prop := (∀ i, i < n → gh (1000 + i) = w i) ∧ (∀ i, i < n → gh (2000 + i) + u i = 1) ∧ (∀ i, n ≤ i → i < 8 → gh (2000 + i) = 0) ∧ (∀ i j, i < n → j < n → i ≠ j → gh (3000 + (8 * i + j)) = d i j) ∧ ∀ i j, ¬ (i < n ∧ j < n) → d i j = 1
def lw_J (T : Nat × Nat) (x y B : Nat) (v r : hv_V) : Prop := ∃ (fa : Nat → Nat) (n : Nat) (w u : Nat → Nat) (b : Nat) (d : Nat → Nat → Nat) (ra gh : Nat → Nat), fa 0 = x ∧ ra 0 = y ∧ lw_rel n w u d gh ∧ cl_I fa n w u b d (T.1 + 2 * n, T.2 + 18 * n) v ∧ rl_J ra gh n b B r
theorem lw_CI {T : Nat × Nat} {x : Nat} {fa : Nat → Nat} {n : Nat} {w u : Nat → Nat} {b : Nat} {d : Nat → Nat → Nat} {v : hv_V} (hx : fa 0 = x) (h : cl_I fa n w u b d (T.1 + 2 * n, T.2 + 18 * n) v) : lw_C T x v := by
  obtain ⟨k, h⟩ := h
  exact ⟨fa, n, w, u, b, d, k, hx, h⟩
theorem lw_Jsize {T : Nat × Nat} {x y B : Nat} {v r : hv_V} (h : lw_J T x y B v r) : hv_n v ≤ T.1 + 4113 ∧ hv_t v ≤ T.2 + 32920 := by
  obtain ⟨fa, n, w, u, b, d, ra, gh, h1, h2, h3, h4, h5⟩ := h
  exact lw_Csize (lw_CI h1 h4)
theorem cl_n8 {fa : Nat → Nat} {n : Nat} {w u : Nat → Nat} {b : Nat} {d : Nat → Nat → Nat} {g : Nat × Nat} {v : hv_V} (h : cl_I fa n w u b d g v) : n ≤ 8 := by
  obtain ⟨k, h⟩ := h
  exact cs_n8 h.1
theorem rl_S {ra gh : Nat → Nat} {B : Nat} {n b : Nat} {v : hv_V} (h : rl_J ra gh n b B v) : rs_S ra v := by
  obtain ⟨t, nm, st, dg, F, kd, h⟩ := h
  exact h.1
theorem two_ok {P : Prop} {r1 r2 a b : Int32} (h1 : P ∧ r1 = a ∨ ¬ P ∧ r1 = b) (h2 : P ∧ r2 = a ∨ ¬ P ∧ r2 = b) : r1 = r2 := by
  rcases h1 with ⟨p, e⟩ | ⟨p, e⟩ <;> rcases h2 with ⟨q, e2⟩ | ⟨q, e2⟩
  · rw [e, e2]
  · exact absurd p q
  · exact absurd q p
  · rw [e, e2]
theorem nI_n8 {n i j : Nat} (hn : n ≤ 8) (hi : i < n) (hj : j < n) (h : nI i = nI j) : i = j := nI_lit h
theorem lw_V {n : Nat} {w u : Nat → Nat} {d : Nat → Nat → Nat} {gh : Nat → Nat} (h : lw_rel n w u d gh) : gh_V gh n = ci_sum w n := ci_sum_eq n (fun i hi => h.1 i hi)

def cp_site (fa : Nat → Nat) (n : Nat) (w u : Nat → Nat) (b : Nat) (d : Nat → Nat → Nat) (g : Nat × Nat) (x : Int32) (r : Int32) (v1 : hv_V) : Prop := (ok_S n b x ∧ r = nI n ∧ ∃ (fa1 : Nat → Nat) (q : Nat), x = nI q ∧ fa1 0 = fa 0 ∧ ∃ k1, ci_I fa1 (n + 1) (va_up w n q) (va_up u n 1) b d (g.1 + 2, g.2 + 18) k1 [] v1) ∨ ¬ ok_S n b x ∧ r = -1 ∧ cl_I fa n w u b d g v1
def mp_site (ra gh : Nat → Nat) (n b B : Nat) (x : Int32) (r : Int32) (v1 : hv_V) : Prop := (ok_S n b x ∧ r = nI n ∧ ∃ (q : Nat) (g1 : Nat → Nat), x = nI q ∧ st_I gh g1 n q n ∧ rl_J ra g1 (n + 1) b B v1) ∨ ¬ ok_S n b x ∧ r = -1 ∧ rl_J ra gh n b B v1
theorem cp_site_C {T : Nat × Nat} {fa : Nat → Nat} {n : Nat} {w u : Nat → Nat} {b : Nat} {d : Nat → Nat → Nat} {x : Int32} {r : Int32} {v1 : hv_V} (h : cp_site fa n w u b d (T.1 + 2 * n, T.2 + 18 * n) x r v1) : lw_C T (fa 0) v1 := by
  rcases h with ⟨_, _, fa1, q, _, hf, k1, h⟩ | ⟨_, _, h⟩
  · exact ⟨fa1, n + 1, _, _, b, d, k1, hf, h⟩
  · exact lw_CI rfl h
theorem mp_site_S {ra gh : Nat → Nat} {B : Nat} {n b : Nat} {x : Int32} {r : Int32} {v1 : hv_V} (h : mp_site ra gh n b B x r v1) : rs_S ra v1 := by
  rcases h with ⟨_, _, q, g1, _, _, h⟩ | ⟨_, _, h⟩
  · exact rl_S h
  · exact rl_S h
theorem lw_site {T : Nat × Nat} {fa : Nat → Nat} {n : Nat} {w u : Nat → Nat} {b : Nat} {d : Nat → Nat → Nat} {ra gh : Nat → Nat} {B : Nat} {x : Int32} {r1 r2 : Int32} {v1 v2 : hv_V} (hr : lw_rel n w u d gh) (h1 : cp_site fa n w u b d (T.1 + 2 * n, T.2 + 18 * n) x r1 v1) (h2 : mp_site ra gh n b B x r2 v2) : r1 = r2 ∧ lw_J T (fa 0) (ra 0) B v1 v2 := by
  rcases h1 with ⟨ok, e, fa1, q, a1, a2, k1, cI⟩ | ⟨p, e, cI⟩
  · have hn : n < 8 := ok.2.2.2
    rcases h2 with ⟨_, e2, q1, g1, b1, ⟨s1, s2, s3, s4, s5⟩, c2⟩ | ⟨p2, e2, c2⟩
    · have hq9 : q1 ≤ 9 := by
        obtain ⟨t, nm, st, dg, F, kd, hJ⟩ := c2
        have := (hJ.2.2.2.1.1 n hn).1
        rw [s2] at this; exact this
      have hw := (cI.2.1.2.2.2.2.2.2 n (by omega)).2.1
      rw [va_up_self] at hw
      have z1 : q = q1 := nI_lit (a1.symm.trans b1)
      subst z1
      refine ⟨by rw [e, e2], fa1, n + 1, _, _, b, d, ra, g1, a2, rfl, ⟨fun k hk => ?_, fun k hk => ?_, fun k hk hk8 => ?_, fun a c ha hc hac => ?_, fun a c hac => ?_⟩, ⟨k1, cI⟩, c2⟩
      · by_cases z : k = n
        · subst z
          rw [va_up_self]; exact s2
        · rw [va_up_ne _ _ z, s1 k (by omega)]; exact hr.1 k (by omega)
      · by_cases z : k = n
        · subst z
          rw [va_up_self, s3 k (by omega), hr.2.2.1 k (by omega) (by omega)]
        · rw [va_up_ne _ _ z, s3 k (by omega)]; exact hr.2.1 k (by omega)
      · rw [s3 k hk8]; exact hr.2.2.1 k (by omega) hk8
      · by_cases z : a = n
        · subst z
          rw [(s5 c (by omega)).2, hr.2.2.2.2 a c (by omega)]
        · by_cases z2 : c = n
          · subst z2
            rw [(s5 a (by omega)).1, hr.2.2.2.2 a c (by omega)]
          · rw [s4 a c (by omega) (by omega)]; exact hr.2.2.2.1 a c (by omega) (by omega) hac
      · exact hr.2.2.2.2 a c (by omega)
    · exact absurd ok p2
  · rcases h2 with ⟨ok, h⟩ | ⟨p2, e2, c2⟩
    · exact absurd ok p
    · exact ⟨by rw [e, e2], fa, n, w, u, b, d, ra, gh, rfl, rfl, hr, cI, c2⟩
def cp_quorums (fa : Nat → Nat) (n : Nat) (w u : Nat → Nat) (b : Nat) (d : Nat → Nat → Nat) (g : Nat × Nat) (x y : Int32) (r : Int32) (v1 : hv_V) : Prop := (ok_Q b (ci_sum w n) x y ∧ r = 1 ∨ ¬ ok_Q b (ci_sum w n) x y ∧ r = 0) ∧ cl_I fa n w u b d g v1
def mp_quorums (ra gh : Nat → Nat) (n b B : Nat) (x y : Int32) (r : Int32) (v1 : hv_V) : Prop := (ok_Q b (gh_V gh n) x y ∧ r = 1 ∨ ¬ ok_Q b (gh_V gh n) x y ∧ r = 0) ∧ rl_J ra gh n b B v1
theorem cp_quorums_C {T : Nat × Nat} {fa : Nat → Nat} {n : Nat} {w u : Nat → Nat} {b : Nat} {d : Nat → Nat → Nat} {x y : Int32} {r : Int32} {v1 : hv_V} (h : cp_quorums fa n w u b d (T.1 + 2 * n, T.2 + 18 * n) x y r v1) : lw_C T (fa 0) v1 := lw_CI rfl h.2
theorem mp_quorums_S {ra gh : Nat → Nat} {B : Nat} {n b : Nat} {x y : Int32} {r : Int32} {v1 : hv_V} (h : mp_quorums ra gh n b B x y r v1) : rs_S ra v1 := rl_S h.2
theorem lw_quorums {T : Nat × Nat} {fa : Nat → Nat} {n : Nat} {w u : Nat → Nat} {b : Nat} {d : Nat → Nat → Nat} {ra gh : Nat → Nat} {B : Nat} {x y : Int32} {r1 r2 : Int32} {v1 v2 : hv_V} (hr : lw_rel n w u d gh) (h1 : cp_quorums fa n w u b d (T.1 + 2 * n, T.2 + 18 * n) x y r1 v1) (h2 : mp_quorums ra gh n b B x y r2 v2) : r1 = r2 ∧ lw_J T (fa 0) (ra 0) B v1 v2 := by
  unfold mp_quorums at h2
  rw [lw_V hr] at h2
  exact ⟨two_ok h1.1 h2.1, fa, n, w, u, b, d, ra, gh, rfl, rfl, hr, h1.2, h2.2⟩
def cp_link (fa : Nat → Nat) (n : Nat) (w u : Nat → Nat) (b : Nat) (d : Nat → Nat → Nat) (g : Nat × Nat) (x y z : Int32) (r : Int32) (v1 : hv_V) : Prop := (∃ i j q, ok_L n x y z i j q ∧ r = 1 ∧ cl_I fa n w u b (fun a c => if a = i ∧ c = j then q else d a c) g v1) ∨ (¬ ∃ i j q, ok_L n x y z i j q) ∧ r = 0 ∧ cl_I fa n w u b d g v1
def mp_link (ra gh : Nat → Nat) (n b B : Nat) (x y z : Int32) (r : Int32) (v1 : hv_V) : Prop := (∃ i j q, ok_L n x y z i j q ∧ r = 1 ∧ rl_J ra (va_up gh (3000 + (8 * i + j)) q) n b B v1) ∨ (¬ ∃ i j q, ok_L n x y z i j q) ∧ r = 0 ∧ rl_J ra gh n b B v1
theorem cp_link_C {T : Nat × Nat} {fa : Nat → Nat} {n : Nat} {w u : Nat → Nat} {b : Nat} {d : Nat → Nat → Nat} {x y z : Int32} {r : Int32} {v1 : hv_V} (h : cp_link fa n w u b d (T.1 + 2 * n, T.2 + 18 * n) x y z r v1) : lw_C T (fa 0) v1 := by
  rcases h with ⟨i, j, q, _, _, h⟩ | ⟨_, _, h⟩
  · exact lw_CI rfl h
  · exact lw_CI rfl h
theorem mp_link_S {ra gh : Nat → Nat} {B : Nat} {n b : Nat} {x y z : Int32} {r : Int32} {v1 : hv_V} (h : mp_link ra gh n b B x y z r v1) : rs_S ra v1 := by
  rcases h with ⟨i, j, q, _, _, h⟩ | ⟨_, _, h⟩
  · exact rl_S h
  · exact rl_S h
theorem lw_link {T : Nat × Nat} {fa : Nat → Nat} {n : Nat} {w u : Nat → Nat} {b : Nat} {d : Nat → Nat → Nat} {ra gh : Nat → Nat} {B : Nat} {x y z : Int32} {r1 r2 : Int32} {v1 v2 : hv_V} (hr : lw_rel n w u d gh) (h1 : cp_link fa n w u b d (T.1 + 2 * n, T.2 + 18 * n) x y z r1 v1) (h2 : mp_link ra gh n b B x y z r2 v2) : r1 = r2 ∧ lw_J T (fa 0) (ra 0) B v1 v2 := by
  rcases h1 with ⟨i, j, q, ⟨a1, a2, a3, a6, a4, a5, a7⟩, e, c⟩ | ⟨p, e, c⟩
  · have hn := cl_n8 c
    rcases h2 with ⟨i1, j1, q1, ⟨b1, b2, b3, b6, b4, b5, b7⟩, e2, c2⟩ | ⟨p2, e2, c2⟩
    · have z1 := nI_n8 hn a1 b1 (a4.symm.trans b4)
      have z2 := nI_n8 hn a2 b2 (a5.symm.trans b5)
      have z3 : q = q1 := nI_lit (a7.symm.trans b7)
      subst z1 z2 z3
      refine ⟨by rw [e, e2], fa, n, w, u, b, _, ra, _, rfl, rfl, ⟨fun k hk => ?_, fun k hk => ?_, fun k hk hk8 => ?_, fun a c ha hc hac => ?_, fun a c hac => ?_⟩, c, c2⟩
      · rw [va_up_ne _ _ (by omega)]; exact hr.1 k hk
      · rw [va_up_ne _ _ (by omega)]; exact hr.2.1 k hk
      · rw [va_up_ne _ _ (by omega)]; exact hr.2.2.1 k hk hk8
      · by_cases z : a = i ∧ c = j
        · obtain ⟨rfl, rfl⟩ := z
          rw [va_up_self, if_pos ⟨rfl, rfl⟩]
        · rw [va_up_ne _ _ (by omega), if_neg z]; exact hr.2.2.2.1 a c ha hc hac
      · rw [if_neg (fun z => hac ⟨by omega, by omega⟩)]; exact hr.2.2.2.2 a c hac
    · exact absurd ⟨i, j, q, a1, a2, a3, a6, a4, a5, a7⟩ p2
  · rcases h2 with ⟨i1, j1, q1, h, e2, c2⟩ | ⟨p2, e2, c2⟩
    · exact absurd ⟨i1, j1, q1, h⟩ p
    · exact ⟨by rw [e, e2], fa, n, w, u, b, d, ra, gh, rfl, rfl, hr, c, c2⟩
def cp_part (fa : Nat → Nat) (n : Nat) (w u : Nat → Nat) (b : Nat) (d : Nat → Nat → Nat) (g : Nat × Nat) (x y : Int32) (r : Int32) (v1 : hv_V) : Prop := (∃ q, ok_P y q ∧ r = nI (n * (n - 1)) ∧ ∃ d1 : Nat → Nat → Nat, ((∀ a c, ¬ (a < n ∧ c < n) → d1 a c = d a c) ∧ ∀ a c, a < n → c < n → a ≠ c → d1 a c = pt_ x q a c) ∧ cl_I fa n w u b d1 g v1) ∨ (¬ ∃ q, ok_P y q) ∧ r = -1 ∧ cl_I fa n w u b d g v1
def mp_part (ra gh : Nat → Nat) (n b B : Nat) (x y : Int32) (r : Int32) (v1 : hv_V) : Prop := (∃ q, ok_P y q ∧ r = nI n * (nI n - 1) ∧ ∃ g1 : Nat → Nat, ((∀ k, k < 3000 → g1 k = gh k) ∧ ∀ i j, i < n → j < n → i ≠ j → g1 (3000 + (8 * i + j)) = pt_ x q i j) ∧ rl_J ra g1 n b B v1) ∨ (¬ ∃ q, ok_P y q) ∧ r = -1 ∧ rl_J ra gh n b B v1
theorem cp_part_C {T : Nat × Nat} {fa : Nat → Nat} {n : Nat} {w u : Nat → Nat} {b : Nat} {d : Nat → Nat → Nat} {x y : Int32} {r : Int32} {v1 : hv_V} (h : cp_part fa n w u b d (T.1 + 2 * n, T.2 + 18 * n) x y r v1) : lw_C T (fa 0) v1 := by
  rcases h with ⟨q, _, _, d1, _, h⟩ | ⟨_, _, h⟩
  · exact lw_CI rfl h
  · exact lw_CI rfl h
theorem mp_part_S {ra gh : Nat → Nat} {B : Nat} {n b : Nat} {x y : Int32} {r : Int32} {v1 : hv_V} (h : mp_part ra gh n b B x y r v1) : rs_S ra v1 := by
  rcases h with ⟨q, _, _, d1, _, h⟩ | ⟨_, _, h⟩
  · exact rl_S h
  · exact rl_S h
theorem lw_mul {n : Nat} (hn : n ≤ 8) : nI (n * (n - 1)) = nI n * (nI n - 1) := by
  have key : ∀ n, n < 9 → nI (n * (n - 1)) = nI n * (nI n - 1) := by decide +kernel
  exact key n (by omega)
theorem lw_part {T : Nat × Nat} {fa : Nat → Nat} {n : Nat} {w u : Nat → Nat} {b : Nat} {d : Nat → Nat → Nat} {ra gh : Nat → Nat} {B : Nat} {x y : Int32} {r1 r2 : Int32} {v1 v2 : hv_V} (hr : lw_rel n w u d gh) (h1 : cp_part fa n w u b d (T.1 + 2 * n, T.2 + 18 * n) x y r1 v1) (h2 : mp_part ra gh n b B x y r2 v2) : r1 = r2 ∧ lw_J T (fa 0) (ra 0) B v1 v2 := by
  rcases h1 with ⟨q, ⟨a1, a2, a3⟩, e, d1, ⟨f1, f2⟩, c⟩ | ⟨p, e, c⟩
  · have hn := cl_n8 c
    rcases h2 with ⟨q1, ⟨b1, b2, b3⟩, e2, g1, ⟨k1, k2⟩, c2⟩ | ⟨p2, e2, c2⟩
    · have z3 : q = q1 := nI_lit (a3.symm.trans b3)
      subst z3
      refine ⟨by rw [e, e2]; exact lw_mul hn, fa, n, w, u, b, d1, ra, g1, rfl, rfl, ⟨fun k hk => ?_, fun k hk => ?_, fun k hk hk8 => ?_, fun a c ha hc hac => ?_, fun a c hac => ?_⟩, c, c2⟩
      · rw [k1 _ (by omega)]; exact hr.1 k hk
      · rw [k1 _ (by omega)]; exact hr.2.1 k hk
      · rw [k1 _ (by omega)]; exact hr.2.2.1 k hk hk8
      · rw [k2 a c ha hc hac, f2 a c ha hc hac]
      · rw [f1 a c hac]; exact hr.2.2.2.2 a c hac
    · exact absurd ⟨q, a1, a2, a3⟩ p2
  · rcases h2 with ⟨q1, h, e2, c2⟩ | ⟨p2, e2, c2⟩
    · exact absurd ⟨q1, h⟩ p
    · exact ⟨by rw [e, e2], fa, n, w, u, b, d, ra, gh, rfl, rfl, hr, c, c2⟩
def cp_patience (fa : Nat → Nat) (n : Nat) (w u : Nat → Nat) (b : Nat) (d : Nat → Nat → Nat) (g : Nat × Nat) (x : Int32) (r : Int32) (v1 : hv_V) : Prop := (ok_T b x ∧ r = 1 ∨ ¬ ok_T b x ∧ r = 0) ∧ cl_I fa n w u b d g v1
def mp_patience (ra gh : Nat → Nat) (n b B : Nat) (x : Int32) (r : Int32) (v1 : hv_V) : Prop := (ok_T b x ∧ r = 1 ∨ ¬ ok_T b x ∧ r = 0) ∧ rl_J ra gh n b B v1
theorem cp_patience_C {T : Nat × Nat} {fa : Nat → Nat} {n : Nat} {w u : Nat → Nat} {b : Nat} {d : Nat → Nat → Nat} {x : Int32} {r : Int32} {v1 : hv_V} (h : cp_patience fa n w u b d (T.1 + 2 * n, T.2 + 18 * n) x r v1) : lw_C T (fa 0) v1 := lw_CI rfl h.2
theorem mp_patience_S {ra gh : Nat → Nat} {B : Nat} {n b : Nat} {x : Int32} {r : Int32} {v1 : hv_V} (h : mp_patience ra gh n b B x r v1) : rs_S ra v1 := rl_S h.2
theorem lw_patience {T : Nat × Nat} {fa : Nat → Nat} {n : Nat} {w u : Nat → Nat} {b : Nat} {d : Nat → Nat → Nat} {ra gh : Nat → Nat} {B : Nat} {x : Int32} {r1 r2 : Int32} {v1 v2 : hv_V} (hr : lw_rel n w u d gh) (h1 : cp_patience fa n w u b d (T.1 + 2 * n, T.2 + 18 * n) x r1 v1) (h2 : mp_patience ra gh n b B x r2 v2) : r1 = r2 ∧ lw_J T (fa 0) (ra 0) B v1 v2 := ⟨two_ok h1.1 h2.1, fa, n, w, u, b, d, ra, gh, rfl, rfl, hr, h1.2, h2.2⟩
def cp_begin (fa : Nat → Nat) (n : Nat) (w u : Nat → Nat) (b : Nat) (d : Nat → Nat → Nat) (g : Nat × Nat) (x y : Int32) (r : Int32) (v1 : hv_V) : Prop := (((∃ i, ok_U n u 1 x i) ∧ b = 0) ∧ r = 1 ∧ cl_I fa n w u 1 d g v1) ∨ (¬ ((∃ i, ok_U n u 1 x i) ∧ b = 0)) ∧ r = 0 ∧ cl_I fa n w u b d g v1
def mp_begin (ra gh : Nat → Nat) (n b B : Nat) (x y : Int32) (r : Int32) (v1 : hv_V) : Prop := (((∃ i, ok_U n (fun k => gh (2000 + k)) 0 x i) ∧ b = 0) ∧ r = 1 ∧ rl_J ra gh n 1 (B + 126) v1) ∨ (¬ ((∃ i, ok_U n (fun k => gh (2000 + k)) 0 x i) ∧ b = 0)) ∧ r = 0 ∧ rl_J ra gh n b (B + 126) v1
theorem cp_begin_C {T : Nat × Nat} {fa : Nat → Nat} {n : Nat} {w u : Nat → Nat} {b : Nat} {d : Nat → Nat → Nat} {x y : Int32} {r : Int32} {v1 : hv_V} (h : cp_begin fa n w u b d (T.1 + 2 * n, T.2 + 18 * n) x y r v1) : lw_C T (fa 0) v1 := by
  rcases h with ⟨_, _, h⟩ | ⟨_, _, h⟩
  · exact lw_CI rfl h
  · exact lw_CI rfl h
theorem mp_begin_S {ra gh : Nat → Nat} {B : Nat} {n b : Nat} {x y : Int32} {r : Int32} {v1 : hv_V} (h : mp_begin ra gh n b B x y r v1) : rs_S ra v1 := by
  rcases h with ⟨_, _, h⟩ | ⟨_, _, h⟩
  · exact rl_S h
  · exact rl_S h
theorem lw_begin {T : Nat × Nat} {fa : Nat → Nat} {n : Nat} {w u : Nat → Nat} {b : Nat} {d : Nat → Nat → Nat} {ra gh : Nat → Nat} {B : Nat} {x y : Int32} {r1 r2 : Int32} {v1 v2 : hv_V} (hr : lw_rel n w u d gh) (h1 : cp_begin fa n w u b d (T.1 + 2 * n, T.2 + 18 * n) x y r1 v1) (h2 : mp_begin ra gh n b B x y r2 v2) : r1 = r2 ∧ lw_J T (fa 0) (ra 0) (B + 126) v1 v2 := by
  rcases h1 with ⟨⟨⟨i, a1, a2, a3⟩, hb⟩, e, c⟩ | ⟨p, e, c⟩
  · have hu := hr.2.1 i a1
    rcases h2 with ⟨_, e2, c2⟩ | ⟨p2, e2, c2⟩
    · exact ⟨by rw [e, e2], fa, n, w, u, 1, d, ra, gh, rfl, rfl, hr, c, c2⟩
    · exact absurd ⟨⟨i, a1, a2, (by show gh (2000 + i) = _; omega)⟩, hb⟩ p2
  · rcases h2 with ⟨⟨⟨i1, b1, b2, b3⟩, hb⟩, e2, c2⟩ | ⟨p2, e2, c2⟩
    · have hu := hr.2.1 i1 b1
      have b3 : gh (2000 + i1) = _ := b3
      exact absurd ⟨⟨i1, b1, b2, (by omega)⟩, hb⟩ p
    · exact ⟨by rw [e, e2], fa, n, w, u, b, d, ra, gh, rfl, rfl, hr, c, c2⟩
def cp_crash (fa : Nat → Nat) (n : Nat) (w u : Nat → Nat) (b : Nat) (d : Nat → Nat → Nat) (g : Nat × Nat) (x : Int32) (r : Int32) (v1 : hv_V) : Prop := (∃ i, ok_U n u 1 x i ∧ r = 1 ∧ cl_I fa n w (va_up u i 0) b d g v1) ∨ (¬ ∃ i, ok_U n u 1 x i) ∧ r = 0 ∧ cl_I fa n w u b d g v1
def mp_crash (ra gh : Nat → Nat) (n b B : Nat) (x : Int32) (r : Int32) (v1 : hv_V) : Prop := (∃ i, ok_U n (fun k => gh (2000 + k)) 0 x i ∧ r = 1 ∧ rl_J ra (va_up gh (2000 + i) 1) n b B v1) ∨ (¬ ∃ i, ok_U n (fun k => gh (2000 + k)) 0 x i) ∧ r = 0 ∧ rl_J ra gh n b B v1
theorem cp_crash_C {T : Nat × Nat} {fa : Nat → Nat} {n : Nat} {w u : Nat → Nat} {b : Nat} {d : Nat → Nat → Nat} {x : Int32} {r : Int32} {v1 : hv_V} (h : cp_crash fa n w u b d (T.1 + 2 * n, T.2 + 18 * n) x r v1) : lw_C T (fa 0) v1 := by
  rcases h with ⟨i, _, _, h⟩ | ⟨_, _, h⟩
  · exact lw_CI rfl h
  · exact lw_CI rfl h
theorem mp_crash_S {ra gh : Nat → Nat} {B : Nat} {n b : Nat} {x : Int32} {r : Int32} {v1 : hv_V} (h : mp_crash ra gh n b B x r v1) : rs_S ra v1 := by
  rcases h with ⟨i, _, _, h⟩ | ⟨_, _, h⟩
  · exact rl_S h
  · exact rl_S h
theorem lw_crash {T : Nat × Nat} {fa : Nat → Nat} {n : Nat} {w u : Nat → Nat} {b : Nat} {d : Nat → Nat → Nat} {ra gh : Nat → Nat} {B : Nat} {x : Int32} {r1 r2 : Int32} {v1 v2 : hv_V} (hr : lw_rel n w u d gh) (h1 : cp_crash fa n w u b d (T.1 + 2 * n, T.2 + 18 * n) x r1 v1) (h2 : mp_crash ra gh n b B x r2 v2) : r1 = r2 ∧ lw_J T (fa 0) (ra 0) B v1 v2 := by
  rcases h1 with ⟨i, ⟨a1, a2, a3⟩, e, c⟩ | ⟨p, e, c⟩
  · have hn := cl_n8 c
    have hu := hr.2.1 i a1
    rcases h2 with ⟨i1, ⟨b1, b2, b3⟩, e2, c2⟩ | ⟨p2, e2, c2⟩
    · have z1 := nI_n8 hn a1 b1 (a2.symm.trans b2)
      subst z1
      refine ⟨by rw [e, e2], fa, n, w, _, b, d, ra, _, rfl, rfl, ⟨fun k hk => ?_, fun k hk => ?_, fun k hk hk8 => ?_, fun a c ha hc hac => ?_, fun a c hac => ?_⟩, c, c2⟩
      · rw [va_up_ne _ _ (by omega)]; exact hr.1 k hk
      · by_cases z : k = i
        · subst z
          rw [va_up_self, va_up_self]
        · rw [va_up_ne _ _ (by omega), va_up_ne _ _ z]; exact hr.2.1 k hk
      · rw [va_up_ne _ _ (by omega)]; exact hr.2.2.1 k hk hk8
      · rw [va_up_ne _ _ (by omega)]; exact hr.2.2.2.1 a c ha hc hac
      · exact hr.2.2.2.2 a c hac
    · exact absurd ⟨i, a1, a2, (by show gh (2000 + i) = _; omega)⟩ p2
  · rcases h2 with ⟨i1, ⟨b1, b2, b3⟩, e2, c2⟩ | ⟨p2, e2, c2⟩
    · have hu := hr.2.1 i1 b1
      have b3 : gh (2000 + i1) = _ := b3
      exact absurd ⟨i1, b1, b2, (by omega)⟩ p
    · exact ⟨by rw [e, e2], fa, n, w, u, b, d, ra, gh, rfl, rfl, hr, c, c2⟩
def cp_recover (fa : Nat → Nat) (n : Nat) (w u : Nat → Nat) (b : Nat) (d : Nat → Nat → Nat) (g : Nat × Nat) (x : Int32) (r : Int32) (v1 : hv_V) : Prop := (∃ i, ok_U n u 0 x i ∧ r = 1 ∧ cl_I fa n w (va_up u i 1) b d g v1) ∨ (¬ ∃ i, ok_U n u 0 x i) ∧ r = 0 ∧ cl_I fa n w u b d g v1
def mp_recover (ra gh : Nat → Nat) (n b B : Nat) (x : Int32) (r : Int32) (v1 : hv_V) : Prop := (∃ i, ok_U n (fun k => gh (2000 + k)) 1 x i ∧ r = 1 ∧ rl_J ra (va_up gh (2000 + i) 0) n b (B + 63) v1) ∨ (¬ ∃ i, ok_U n (fun k => gh (2000 + k)) 1 x i) ∧ r = 0 ∧ rl_J ra gh n b (B + 63) v1
theorem cp_recover_C {T : Nat × Nat} {fa : Nat → Nat} {n : Nat} {w u : Nat → Nat} {b : Nat} {d : Nat → Nat → Nat} {x : Int32} {r : Int32} {v1 : hv_V} (h : cp_recover fa n w u b d (T.1 + 2 * n, T.2 + 18 * n) x r v1) : lw_C T (fa 0) v1 := by
  rcases h with ⟨i, _, _, h⟩ | ⟨_, _, h⟩
  · exact lw_CI rfl h
  · exact lw_CI rfl h
theorem mp_recover_S {ra gh : Nat → Nat} {B : Nat} {n b : Nat} {x : Int32} {r : Int32} {v1 : hv_V} (h : mp_recover ra gh n b B x r v1) : rs_S ra v1 := by
  rcases h with ⟨i, _, _, h⟩ | ⟨_, _, h⟩
  · exact rl_S h
  · exact rl_S h
theorem lw_recover {T : Nat × Nat} {fa : Nat → Nat} {n : Nat} {w u : Nat → Nat} {b : Nat} {d : Nat → Nat → Nat} {ra gh : Nat → Nat} {B : Nat} {x : Int32} {r1 r2 : Int32} {v1 v2 : hv_V} (hr : lw_rel n w u d gh) (h1 : cp_recover fa n w u b d (T.1 + 2 * n, T.2 + 18 * n) x r1 v1) (h2 : mp_recover ra gh n b B x r2 v2) : r1 = r2 ∧ lw_J T (fa 0) (ra 0) (B + 63) v1 v2 := by
  rcases h1 with ⟨i, ⟨a1, a2, a3⟩, e, c⟩ | ⟨p, e, c⟩
  · have hn := cl_n8 c
    have hu := hr.2.1 i a1
    rcases h2 with ⟨i1, ⟨b1, b2, b3⟩, e2, c2⟩ | ⟨p2, e2, c2⟩
    · have z1 := nI_n8 hn a1 b1 (a2.symm.trans b2)
      subst z1
      refine ⟨by rw [e, e2], fa, n, w, _, b, d, ra, _, rfl, rfl, ⟨fun k hk => ?_, fun k hk => ?_, fun k hk hk8 => ?_, fun a c ha hc hac => ?_, fun a c hac => ?_⟩, c, c2⟩
      · rw [va_up_ne _ _ (by omega)]; exact hr.1 k hk
      · by_cases z : k = i
        · subst z
          rw [va_up_self, va_up_self]
        · rw [va_up_ne _ _ (by omega), va_up_ne _ _ z]; exact hr.2.1 k hk
      · rw [va_up_ne _ _ (by omega)]; exact hr.2.2.1 k hk hk8
      · rw [va_up_ne _ _ (by omega)]; exact hr.2.2.2.1 a c ha hc hac
      · exact hr.2.2.2.2 a c hac
    · exact absurd ⟨i, a1, a2, (by show gh (2000 + i) = _; omega)⟩ p2
  · rcases h2 with ⟨i1, ⟨b1, b2, b3⟩, e2, c2⟩ | ⟨p2, e2, c2⟩
    · have hu := hr.2.1 i1 b1
      have b3 : gh (2000 + i1) = _ := b3
      exact absurd ⟨i1, b1, b2, (by omega)⟩ p
    · exact ⟨by rw [e, e2], fa, n, w, u, b, d, ra, gh, rfl, rfl, hr, c, c2⟩
def cp_run (fa : Nat → Nat) (n : Nat) (w u : Nat → Nat) (b : Nat) (d : Nat → Nat → Nat) (g : Nat × Nat) (x : Int32) (r : Int32) (v1 : hv_V) : Prop := cl_I fa n w u b d g v1
def mp_run (ra gh : Nat → Nat) (n b B : Nat) (x : Int32) (r : Int32) (v1 : hv_V) : Prop := rl_J ra gh n b B v1
theorem cp_run_C {T : Nat × Nat} {fa : Nat → Nat} {n : Nat} {w u : Nat → Nat} {b : Nat} {d : Nat → Nat → Nat} {x : Int32} {r : Int32} {v1 : hv_V} (h : cp_run fa n w u b d (T.1 + 2 * n, T.2 + 18 * n) x r v1) : lw_C T (fa 0) v1 := lw_CI rfl h
theorem mp_run_S {ra gh : Nat → Nat} {B : Nat} {n b : Nat} {x : Int32} {r : Int32} {v1 : hv_V} (h : mp_run ra gh n b B x r v1) : rs_S ra v1 := rl_S h
theorem lw_run {T : Nat × Nat} {fa : Nat → Nat} {n : Nat} {w u : Nat → Nat} {b : Nat} {d : Nat → Nat → Nat} {ra gh : Nat → Nat} {B : Nat} {x : Int32} {r1 r2 : Int32} {v1 v2 : hv_V} (hr : lw_rel n w u d gh) (h1 : cp_run fa n w u b d (T.1 + 2 * n, T.2 + 18 * n) x r1 v1) (h2 : mp_run ra gh n b B x r2 v2) : lw_J T (fa 0) (ra 0) B v1 v2 := ⟨fa, n, w, u, b, d, ra, gh, rfl, rfl, hr, h1, h2⟩
def cp_step (fa : Nat → Nat) (n : Nat) (w u : Nat → Nat) (b : Nat) (d : Nat → Nat → Nat) (g : Nat × Nat) (r : Int32) (v1 : hv_V) : Prop := cl_I fa n w u b d g v1
def mp_step (ra gh : Nat → Nat) (n b B : Nat) (r : Int32) (v1 : hv_V) : Prop := rl_J ra gh n b B v1
theorem cp_step_C {T : Nat × Nat} {fa : Nat → Nat} {n : Nat} {w u : Nat → Nat} {b : Nat} {d : Nat → Nat → Nat} {r : Int32} {v1 : hv_V} (h : cp_step fa n w u b d (T.1 + 2 * n, T.2 + 18 * n) r v1) : lw_C T (fa 0) v1 := lw_CI rfl h
theorem mp_step_S {ra gh : Nat → Nat} {B : Nat} {n b : Nat} {r : Int32} {v1 : hv_V} (h : mp_step ra gh n b B r v1) : rs_S ra v1 := rl_S h
theorem lw_step {T : Nat × Nat} {fa : Nat → Nat} {n : Nat} {w u : Nat → Nat} {b : Nat} {d : Nat → Nat → Nat} {ra gh : Nat → Nat} {B : Nat} {r1 r2 : Int32} {v1 v2 : hv_V} (hr : lw_rel n w u d gh) (h1 : cp_step fa n w u b d (T.1 + 2 * n, T.2 + 18 * n) r1 v1) (h2 : mp_step ra gh n b B r2 v2) : lw_J T (fa 0) (ra 0) B v1 v2 := ⟨fa, n, w, u, b, d, ra, gh, rfl, rfl, hr, h1, h2⟩
def cp_reset (fa : Nat → Nat) (n : Nat) (w u : Nat → Nat) (b : Nat) (d : Nat → Nat → Nat) (g : Nat × Nat) (r : Int32) (v1 : hv_V) : Prop := r = 1 ∧ ∃ u1 : Nat → Nat, (∀ i, i < n → u1 i = 1) ∧ cl_I fa n w u1 0 d g v1
def mp_reset (ra gh : Nat → Nat) (n b B : Nat) (r : Int32) (v1 : hv_V) : Prop := r = 1 ∧ rl_J ra (gh_r gh) n 0 410048 v1
theorem cp_reset_C {T : Nat × Nat} {fa : Nat → Nat} {n : Nat} {w u : Nat → Nat} {b : Nat} {d : Nat → Nat → Nat} {r : Int32} {v1 : hv_V} (h : cp_reset fa n w u b d (T.1 + 2 * n, T.2 + 18 * n) r v1) : lw_C T (fa 0) v1 := by
  obtain ⟨_, u1, _, h⟩ := h
  exact lw_CI rfl h
theorem mp_reset_S {ra gh : Nat → Nat} {B : Nat} {n b : Nat} {r : Int32} {v1 : hv_V} (h : mp_reset ra gh n b B r v1) : rs_S ra v1 := rl_S h.2
theorem lw_reset {T : Nat × Nat} {fa : Nat → Nat} {n : Nat} {w u : Nat → Nat} {b : Nat} {d : Nat → Nat → Nat} {ra gh : Nat → Nat} {B : Nat} {r1 r2 : Int32} {v1 v2 : hv_V} (hr : lw_rel n w u d gh) (h1 : cp_reset fa n w u b d (T.1 + 2 * n, T.2 + 18 * n) r1 v1) (h2 : mp_reset ra gh n b B r2 v2) : r1 = r2 ∧ lw_J T (fa 0) (ra 0) 410048 v1 v2 := by
  obtain ⟨e, u1, hu, c⟩ := h1
  have hn := cl_n8 c
  refine ⟨by rw [e, h2.1], fa, n, w, u1, 0, d, ra, (gh_r gh), rfl, rfl, ⟨fun k hk => ?_, fun k hk => ?_, fun k hk hk8 => ?_, fun a c ha hc hac => ?_, fun a c hac => ?_⟩, c, h2.2⟩
  · unfold gh_r; rw [if_neg (by omega)]; exact hr.1 k hk
  · unfold gh_r; rw [if_pos (by omega), hu k hk]
  · unfold gh_r; rw [if_pos (by omega)]
  · unfold gh_r; rw [if_neg (by omega)]; exact hr.2.2.2.1 a c ha hc hac
  · exact hr.2.2.2.2 a c hac
def cp_of (fa : Nat → Nat) (n : Nat) (w u : Nat → Nat) (b : Nat) (d : Nat → Nat → Nat) (g : Nat × Nat) (x y : Int32) (r : Int32) (v1 : hv_V) : Prop := cl_I fa n w u b d g v1
def mp_of (ra gh : Nat → Nat) (n b B : Nat) (x y : Int32) (r : Int32) (v1 : hv_V) : Prop := rl_J ra gh n b B v1
theorem cp_of_C {T : Nat × Nat} {fa : Nat → Nat} {n : Nat} {w u : Nat → Nat} {b : Nat} {d : Nat → Nat → Nat} {x y : Int32} {r : Int32} {v1 : hv_V} (h : cp_of fa n w u b d (T.1 + 2 * n, T.2 + 18 * n) x y r v1) : lw_C T (fa 0) v1 := lw_CI rfl h
theorem mp_of_S {ra gh : Nat → Nat} {B : Nat} {n b : Nat} {x y : Int32} {r : Int32} {v1 : hv_V} (h : mp_of ra gh n b B x y r v1) : rs_S ra v1 := rl_S h
theorem lw_of {T : Nat × Nat} {fa : Nat → Nat} {n : Nat} {w u : Nat → Nat} {b : Nat} {d : Nat → Nat → Nat} {ra gh : Nat → Nat} {B : Nat} {x y : Int32} {r1 r2 : Int32} {v1 v2 : hv_V} (hr : lw_rel n w u d gh) (h1 : cp_of fa n w u b d (T.1 + 2 * n, T.2 + 18 * n) x y r1 v1) (h2 : mp_of ra gh n b B x y r2 v2) : lw_J T (fa 0) (ra 0) B v1 v2 := ⟨fa, n, w, u, b, d, ra, gh, rfl, rfl, hr, h1, h2⟩
def cp_count (fa : Nat → Nat) (n : Nat) (w u : Nat → Nat) (b : Nat) (d : Nat → Nat → Nat) (g : Nat × Nat) (x : Int32) (r : Int32) (v1 : hv_V) : Prop := cl_I fa n w u b d g v1
def mp_count (ra gh : Nat → Nat) (n b B : Nat) (x : Int32) (r : Int32) (v1 : hv_V) : Prop := rl_J ra gh n b B v1
theorem cp_count_C {T : Nat × Nat} {fa : Nat → Nat} {n : Nat} {w u : Nat → Nat} {b : Nat} {d : Nat → Nat → Nat} {x : Int32} {r : Int32} {v1 : hv_V} (h : cp_count fa n w u b d (T.1 + 2 * n, T.2 + 18 * n) x r v1) : lw_C T (fa 0) v1 := lw_CI rfl h
theorem mp_count_S {ra gh : Nat → Nat} {B : Nat} {n b : Nat} {x : Int32} {r : Int32} {v1 : hv_V} (h : mp_count ra gh n b B x r v1) : rs_S ra v1 := rl_S h
theorem lw_count {T : Nat × Nat} {fa : Nat → Nat} {n : Nat} {w u : Nat → Nat} {b : Nat} {d : Nat → Nat → Nat} {ra gh : Nat → Nat} {B : Nat} {x : Int32} {r1 r2 : Int32} {v1 v2 : hv_V} (hr : lw_rel n w u d gh) (h1 : cp_count fa n w u b d (T.1 + 2 * n, T.2 + 18 * n) x r1 v1) (h2 : mp_count ra gh n b B x r2 v2) : lw_J T (fa 0) (ra 0) B v1 v2 := ⟨fa, n, w, u, b, d, ra, gh, rfl, rfl, hr, h1, h2⟩
def cp_delay (fa : Nat → Nat) (n : Nat) (w u : Nat → Nat) (b : Nat) (d : Nat → Nat → Nat) (g : Nat × Nat) (x y : Int32) (r : Int32) (v1 : hv_V) : Prop := ((∃ i j, ok_D n x y i j ∧ r = nI (d i j)) ∨ (¬ ∃ i j, ok_D n x y i j) ∧ r = -1) ∧ cl_I fa n w u b d g v1
def mp_delay (ra gh : Nat → Nat) (n b B : Nat) (x y : Int32) (r : Int32) (v1 : hv_V) : Prop := ((∃ i j, ok_D n x y i j ∧ r = nI (gh (3000 + (8 * i + j)))) ∨ (¬ ∃ i j, ok_D n x y i j) ∧ r = -1) ∧ rl_J ra gh n b B v1
theorem cp_delay_C {T : Nat × Nat} {fa : Nat → Nat} {n : Nat} {w u : Nat → Nat} {b : Nat} {d : Nat → Nat → Nat} {x y : Int32} {r : Int32} {v1 : hv_V} (h : cp_delay fa n w u b d (T.1 + 2 * n, T.2 + 18 * n) x y r v1) : lw_C T (fa 0) v1 := lw_CI rfl h.2
theorem mp_delay_S {ra gh : Nat → Nat} {B : Nat} {n b : Nat} {x y : Int32} {r : Int32} {v1 : hv_V} (h : mp_delay ra gh n b B x y r v1) : rs_S ra v1 := rl_S h.2
theorem lw_delay {T : Nat × Nat} {fa : Nat → Nat} {n : Nat} {w u : Nat → Nat} {b : Nat} {d : Nat → Nat → Nat} {ra gh : Nat → Nat} {B : Nat} {x y : Int32} {r1 r2 : Int32} {v1 v2 : hv_V} (hr : lw_rel n w u d gh) (h1 : cp_delay fa n w u b d (T.1 + 2 * n, T.2 + 18 * n) x y r1 v1) (h2 : mp_delay ra gh n b B x y r2 v2) : r1 = r2 ∧ lw_J T (fa 0) (ra 0) B v1 v2 := by
  have hn := cl_n8 h1.2
  refine ⟨?_, fa, n, w, u, b, d, ra, gh, rfl, rfl, hr, h1.2, h2.2⟩
  rcases h1.1 with ⟨i, j, ⟨a1, a2, a3, a4, a5⟩, e⟩ | ⟨p, e⟩
  · rcases h2.1 with ⟨i1, j1, ⟨b1, b2, b3, b4, b5⟩, e2⟩ | ⟨p2, e2⟩
    · have q1 := nI_n8 hn a1 b1 (a4.symm.trans b4)
      have q2 := nI_n8 hn a2 b2 (a5.symm.trans b5)
      subst q1 q2
      rw [e, e2, hr.2.2.2.1 i j a1 a2 a3]
    · exact absurd ⟨i, j, a1, a2, a3, a4, a5⟩ p2
  · rcases h2.1 with ⟨i1, j1, h, e2⟩ | ⟨p2, e2⟩
    · exact absurd ⟨i1, j1, h⟩ p
    · rw [e, e2]
def cp_weight (fa : Nat → Nat) (n : Nat) (w u : Nat → Nat) (b : Nat) (d : Nat → Nat → Nat) (g : Nat × Nat) (x : Int32) (r : Int32) (v1 : hv_V) : Prop := cl_I fa n w u b d g v1
def mp_weight (ra gh : Nat → Nat) (n b B : Nat) (x : Int32) (r : Int32) (v1 : hv_V) : Prop := rl_J ra gh n b B v1
theorem cp_weight_C {T : Nat × Nat} {fa : Nat → Nat} {n : Nat} {w u : Nat → Nat} {b : Nat} {d : Nat → Nat → Nat} {x : Int32} {r : Int32} {v1 : hv_V} (h : cp_weight fa n w u b d (T.1 + 2 * n, T.2 + 18 * n) x r v1) : lw_C T (fa 0) v1 := lw_CI rfl h
theorem mp_weight_S {ra gh : Nat → Nat} {B : Nat} {n b : Nat} {x : Int32} {r : Int32} {v1 : hv_V} (h : mp_weight ra gh n b B x r v1) : rs_S ra v1 := rl_S h
theorem lw_weight {T : Nat × Nat} {fa : Nat → Nat} {n : Nat} {w u : Nat → Nat} {b : Nat} {d : Nat → Nat → Nat} {ra gh : Nat → Nat} {B : Nat} {x : Int32} {r1 r2 : Int32} {v1 v2 : hv_V} (hr : lw_rel n w u d gh) (h1 : cp_weight fa n w u b d (T.1 + 2 * n, T.2 + 18 * n) x r1 v1) (h2 : mp_weight ra gh n b B x r2 v2) : lw_J T (fa 0) (ra 0) B v1 v2 := ⟨fa, n, w, u, b, d, ra, gh, rfl, rfl, hr, h1, h2⟩
def cp_latest (fa : Nat → Nat) (n : Nat) (w u : Nat → Nat) (b : Nat) (d : Nat → Nat → Nat) (g : Nat × Nat) (x : Int32) (r : Int32) (v1 : hv_V) : Prop := cl_I fa n w u b d g v1
def mp_latest (ra gh : Nat → Nat) (n b B : Nat) (x : Int32) (r : Int32) (v1 : hv_V) : Prop := rl_J ra gh n b B v1
theorem cp_latest_C {T : Nat × Nat} {fa : Nat → Nat} {n : Nat} {w u : Nat → Nat} {b : Nat} {d : Nat → Nat → Nat} {x : Int32} {r : Int32} {v1 : hv_V} (h : cp_latest fa n w u b d (T.1 + 2 * n, T.2 + 18 * n) x r v1) : lw_C T (fa 0) v1 := lw_CI rfl h
theorem mp_latest_S {ra gh : Nat → Nat} {B : Nat} {n b : Nat} {x : Int32} {r : Int32} {v1 : hv_V} (h : mp_latest ra gh n b B x r v1) : rs_S ra v1 := rl_S h
theorem lw_latest {T : Nat × Nat} {fa : Nat → Nat} {n : Nat} {w u : Nat → Nat} {b : Nat} {d : Nat → Nat → Nat} {ra gh : Nat → Nat} {B : Nat} {x : Int32} {r1 r2 : Int32} {v1 v2 : hv_V} (hr : lw_rel n w u d gh) (h1 : cp_latest fa n w u b d (T.1 + 2 * n, T.2 + 18 * n) x r1 v1) (h2 : mp_latest ra gh n b B x r2 v2) : lw_J T (fa 0) (ra 0) B v1 v2 := ⟨fa, n, w, u, b, d, ra, gh, rfl, rfl, hr, h1, h2⟩
def cp_check (fa : Nat → Nat) (n : Nat) (w u : Nat → Nat) (b : Nat) (d : Nat → Nat → Nat) (g : Nat × Nat) (r : Int32) (v1 : hv_V) : Prop := cl_I fa n w u b d g v1
def mp_check (ra gh : Nat → Nat) (n b B : Nat) (r : Int32) (v1 : hv_V) : Prop := rl_J ra gh n b B v1
theorem cp_check_C {T : Nat × Nat} {fa : Nat → Nat} {n : Nat} {w u : Nat → Nat} {b : Nat} {d : Nat → Nat → Nat} {r : Int32} {v1 : hv_V} (h : cp_check fa n w u b d (T.1 + 2 * n, T.2 + 18 * n) r v1) : lw_C T (fa 0) v1 := lw_CI rfl h
theorem mp_check_S {ra gh : Nat → Nat} {B : Nat} {n b : Nat} {r : Int32} {v1 : hv_V} (h : mp_check ra gh n b B r v1) : rs_S ra v1 := rl_S h
theorem lw_check {T : Nat × Nat} {fa : Nat → Nat} {n : Nat} {w u : Nat → Nat} {b : Nat} {d : Nat → Nat → Nat} {ra gh : Nat → Nat} {B : Nat} {r1 r2 : Int32} {v1 v2 : hv_V} (hr : lw_rel n w u d gh) (h1 : cp_check fa n w u b d (T.1 + 2 * n, T.2 + 18 * n) r1 v1) (h2 : mp_check ra gh n b B r2 v2) : lw_J T (fa 0) (ra 0) B v1 v2 := ⟨fa, n, w, u, b, d, ra, gh, rfl, rfl, hr, h1, h2⟩
