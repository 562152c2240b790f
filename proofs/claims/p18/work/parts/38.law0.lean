/-! ===== the law: its world ===== -/
theorem lw_hB {b : Nat} {s : State} (hts : ∀ w ∈ lw_tbl, w.before #[Value.ref b] s = true) : ∀ w ∈ Cond.arrayClass .int :: lw_B, w.before #[Value.ref b] s = true := fun w h => by
  rcases List.mem_cons.mp h with rfl | h
  · exact hts _ (by decide +kernel)
  · exact hts _ (List.mem_filter.mp h).1
theorem lw_arr {s : State} {a : Array Value} {ty : FieldType} (hn : ∀ C, ty ≠ .object C) (h : (Cond.arrayClass ty).before a s = true) : ∃ c, ArrOfT s c ty ∧ va_RA s c ty := by
  obtain ⟨c, k, comp, h1, h2, h3⟩ := Cond.arrayClass_spec h
  refine ⟨c, fun n z => ⟨fun k h => (by cases h), k, h2, comp, h3⟩, ?_⟩
  cases ty with
  | object C => exact absurd rfl (hn C)
  | _ => exact h1
theorem lw_arrO {s : State} {a : Array Value} {C : String} (h : (Cond.arrayOver (.object C)).before a s = true) : ∃ c, ArrOfT s c (.object C) ∧ va_RA s c (.object C) := by
  obtain ⟨comp, c, k, h1, h2, h3, h4, h5⟩ := Cond.arrayOver_spec h
  exact ⟨c, fun n z => ⟨fun k h => (by cases h), k, h3, comp, h4⟩, k, comp, h3, h4, h1, h5⟩
theorem lw_over {s : State} {a : Array Value} (h : (Cond.arrayOver (.array .int)).before a s = true) : ∃ (comp c : ClassId) (k : Class), s.vm.classes[c]? = some k ∧ k.kind = .array comp (.array .int) ∧ s.vm.findClass ("[" ++ (FieldType.array .int).toString) = some c := by
  simp only [Cond.before, Cond.holds, Cond.value] at h
  cases hf : s.vm.findClass (FieldType.array .int).toString with
  | none => rw [hf] at h; simp at h
  | some comp =>
    rw [hf] at h
    simp only [Option.bind_some] at h
    generalize hF : (s.vm.classes.findIdx? fun (x : Class) => match x.kind with | .array component _ => component == comp | _ => false) = fi at h
    cases fi with
    | none => simp at h
    | some c =>
      simp only [Option.bind_some] at h
      cases hk : s.vm.classes[c]? with
      | none => rw [hk] at h; simp at h
      | some k =>
        rw [hk] at h
        simp only [Option.map_some] at h
        cases hkind : k.kind with
        | array comp1 ty =>
          rw [hkind] at h
          simp at h
          exact ⟨comp1, c, k, hk, by rw [hkind, h.1], h.2⟩
        | _ => simp [hkind] at h
theorem lw_K {b : Nat} {s : State} (hts : ∀ w ∈ lw_tbl, w.before #[Value.ref b] s = true) : ∃ (D : va_G) (tc : Nat → ClassId), hv_K D tc s := by
  have hB := lw_hB hts
  obtain ⟨c0, i0, k0⟩ := u_known (C := RX0) (T := TX0) (N := 8) (n := 8) hB (tw_cs in_X0) (hts (.instantiable RX0 8) (by decide +kernel))
  obtain ⟨c1, i1, k1⟩ := u_known (C := RX1) (T := TX1) (N := 9) (n := 9) hB (tw_cs in_X1) (hts (.instantiable RX1 9) (by decide +kernel))
  obtain ⟨c2, i2, k2⟩ := u_known (C := RX2) (T := TX2) (N := 10) (n := 10) hB (tw_cs in_X2) (hts (.instantiable RX2 10) (by decide +kernel))
  obtain ⟨c3, i3, k3⟩ := u_known (C := RX3) (T := TX3) (N := 12) (n := 12) hB (tw_cs in_X3) (hts (.instantiable RX3 12) (by decide +kernel))
  obtain ⟨c4, i4, k4⟩ := u_known (C := RX4) (T := TX4) (N := 34) (n := 34) hB (tw_cs in_X4) (hts (.instantiable RX4 34) (by decide +kernel))
  obtain ⟨t0, a0⟩ := lw_arr (ty := .int) (fun C h => by cases h) (hts (.arrayClass .int) (by decide +kernel))
  obtain ⟨t1, a1⟩ := lw_arr (ty := .boolean) (fun C h => by cases h) (hts (.arrayClass .boolean) (by decide +kernel))
  obtain ⟨t2, a2⟩ := lw_arrO (hts (.arrayOver (.object "CommitSites$Site")) (by decide +kernel))
  obtain ⟨t3, a3⟩ := lw_arrO (hts (.arrayOver (.object "CommitSites$Message")) (by decide +kernel))
  have h4 : (Cond.arrayOver (.array .int)).before #[Value.ref b] s = true := hts (.arrayOver (.array .int)) (by decide +kernel)
  obtain ⟨t4, a4⟩ : ∃ c, ArrOfT s c (.array .int) ∧ va_RA s c (.array .int) := by
    obtain ⟨comp, c, k, h3, h4, h5⟩ := lw_over h4
    exact ⟨c, fun n z => ⟨fun k h => (by cases h), k, h3, comp, h4⟩, h5⟩
  refine ⟨(fun k => if k = 0 then c0 else if k = 1 then c1 else if k = 2 then c2 else if k = 3 then c3 else c4, fun k => if k = 0 then i0 else if k = 1 then i1 else if k = 2 then i2 else if k = 3 then i3 else i4), fun k => if k = 0 then t0 else if k = 1 then t1 else if k = 2 then t2 else if k = 3 then t3 else t4, ⟨fun k q hq => ?_, fun k q hq => ?_⟩, ?_⟩
  · match k, hq with
    | 0, hq => cases hq; exact k0
    | 1, hq => cases hq; exact k1
    | 2, hq => cases hq; exact k2
    | 3, hq => cases hq; exact k3
    | 4, hq => cases hq; exact k4
    | k + 5, hq => simp [vwCl] at hq
  · match k, hq with
    | 0, hq => cases hq; exact a0
    | 1, hq => cases hq; exact a1
    | 2, hq => cases hq; exact a2
    | 3, hq => cases hq; exact a3
    | 4, hq => cases hq; exact a4
    | k + 5, hq => simp [hv_tys] at hq
  · exact ⟨hts (.methodLinkNest "CommitSites$Network" 48 yX3_hasBit "CommitSites") (by decide +kernel), hts (.methodLinkNest "CommitSites$Network" 52 yX0_init "CommitSites") (by decide +kernel), hts (.arrayOver (.object "CommitSites$Site")) (by decide +kernel), hts (.arrayOver (.object "CommitSites$Message")) (by decide +kernel), h4⟩
/-- the law's heap: what it has made, two views side by side -/
def lw_S (s : State) (D : va_G) (tc : Nat → ClassId) (v r : hv_V) (H : Heap) (locs : List Loc) : Prop :=
  hv_W D tc v H ∧ hv_W D tc r H ∧ (∀ a : Nat, (hv_k v a).1 ≠ 0 → s.heap.size ≤ a) ∧ (∀ a : Nat, (hv_k r a).1 ≠ 0 → s.heap.size ≤ a) ∧ va_S (fun q : Nat => s.heap.size ≤ q) s.heap H locs ∧ ∀ a : Nat, (hv_k v a).1 ≠ 0 → (hv_k r a).1 ≠ 0 → False
section LWS
variable {p : Program} {l : Launch} {e : Env} {R : Room} {s : State} {m : MethodId} {args : Array Value} {below : List Frame} {meth : Method} {c : Code} {H : Heap} {locs : List Loc} {Q : State → Prop}
variable {D : va_G} {tc : Nat → ClassId} {v r : hv_V} {cells slots mc ms pc : Nat} {ls : Array Slot} {rest st0 : List Value} {a : Array Value}
theorem lw_S.sw (h : lw_S s D tc v r H locs) : lw_S s D tc r v H locs := ⟨h.2.1, h.1, h.2.2.2.1, h.2.2.1, h.2.2.2.2.1, fun a h1 h2 => h.2.2.2.2.2 a h2 h1⟩
theorem lw_S.st (h : lw_S s D tc v r H locs) : hv_St (fun q : Nat => s.heap.size ≤ q) s D tc v H locs := ⟨h.1, h.2.2.1, h.2.2.2.2.1, fun _ h => h⟩
/-- a call on the first view's object -/
theorem lw_calli {post : Int32 → hv_V → Prop} (hr : va_Run p l e R s m args below meth c H locs cells slots mc ms (F0 m pc ls st0) rest (va_Qi post (hv_Post D tc (hv_A v)) (hv_A v) a) (hv_A v)) (hT : lw_S s D tc v r H locs)
    (kk : ∀ (x : Int32) (v1 : hv_V) (H1 : Heap) (locs1 : List Loc), post x v1 → lw_S s D tc v1 (hv_sz r H1.size (hv_tot H1)) H1 locs1 → H1.size = hv_n v1 → hv_tot H1 = hv_t v1 → W p l e R s m args below meth c H1 locs1 (H1.size - s.heap.size) (hv_tot H1 - hv_tot s.heap) Q (F0 m (pc + 3) ls (.int x :: rest))) : W p l e R s m args below meth c H locs cells slots Q (F0 m pc ls st0) := by
  have hsub := hv_sub hT.st
  refine va_calli hr hT.2.2.2.2.1 (fun q _ h => hsub q h) hsub fun x u t H1 locs1 ht hvm hp hB hz hk hS => ?_
  have hW1 : hv_W D tc u H1 := by rw [← ht]; exact hB.2.1
  have hq : ∀ a, (hv_k r a).1 ≠ 0 → H1[a]? = H[a]? := fun a ha => hk a (by have := hT.2.1.2.1 a ha; rw [← hT.2.1.2.2.1] at this; exact this) (fun hA => by
    rcases hA with hA | hA
    · exact hT.2.2.2.2.2 a hA ha
    · have h1 := hT.2.1.2.1 a ha
      have e1 := hT.2.1.2.2.1
      have e2 := hT.1.2.2.1
      omega)
  refine hv_tight (c1 := H1.size - s.heap.size) (n1 := hv_tot H1 - hv_tot s.heap) (by omega) (by omega) (kk x u H1 locs1 hp ⟨hW1, hv_W_beside hT.2.1 hz hq, fun a ha => hsub a (hB.2.2 a ha), hT.2.2.2.1, hS, fun a h1 h2 => ?_⟩ hW1.2.2.1 hW1.2.2.2)
  have h2 : (hv_k r a).1 ≠ 0 := h2
  rcases hB.2.2 a h1 with hA | hA
  · exact hT.2.2.2.2.2 a hA h2
  · have h3 := hT.2.1.2.1 a h2
    have e1 := hT.2.1.2.2.1
    have e2 := hT.1.2.2.1
    omega
theorem lw_callv {post : hv_V → Prop} (hr : va_Run p l e R s m args below meth c H locs cells slots mc ms (F0 m pc ls st0) rest (va_Qv post (hv_Post D tc (hv_A v)) (hv_A v) a) (hv_A v)) (hT : lw_S s D tc v r H locs)
    (kk : ∀ (v1 : hv_V) (H1 : Heap) (locs1 : List Loc), post v1 → lw_S s D tc v1 (hv_sz r H1.size (hv_tot H1)) H1 locs1 → H1.size = hv_n v1 → hv_tot H1 = hv_t v1 → W p l e R s m args below meth c H1 locs1 (H1.size - s.heap.size) (hv_tot H1 - hv_tot s.heap) Q (F0 m (pc + 3) ls rest)) : W p l e R s m args below meth c H locs cells slots Q (F0 m pc ls st0) := by
  have hsub := hv_sub hT.st
  refine va_callv hr hT.2.2.2.2.1 (fun q _ h => hsub q h) hsub fun u t H1 locs1 ht hvm hp hB hz hk hS => ?_
  have hW1 : hv_W D tc u H1 := by rw [← ht]; exact hB.2.1
  have hq : ∀ a, (hv_k r a).1 ≠ 0 → H1[a]? = H[a]? := fun a ha => hk a (by have := hT.2.1.2.1 a ha; rw [← hT.2.1.2.2.1] at this; exact this) (fun hA => by
    rcases hA with hA | hA
    · exact hT.2.2.2.2.2 a hA ha
    · have h1 := hT.2.1.2.1 a ha
      have e1 := hT.2.1.2.2.1
      have e2 := hT.1.2.2.1
      omega)
  refine hv_tight (c1 := H1.size - s.heap.size) (n1 := hv_tot H1 - hv_tot s.heap) (by omega) (by omega) (kk u H1 locs1 hp ⟨hW1, hv_W_beside hT.2.1 hz hq, fun a ha => hsub a (hB.2.2 a ha), hT.2.2.2.1, hS, fun a h1 h2 => ?_⟩ hW1.2.2.1 hW1.2.2.2)
  have h2 : (hv_k r a).1 ≠ 0 := h2
  rcases hB.2.2 a h1 with hA | hA
  · exact hT.2.2.2.2.2 a hA h2
  · have h3 := hT.2.1.2.1 a h2
    have e1 := hT.2.1.2.2.1
    have e2 := hT.1.2.2.1
    omega
end LWS
/-- what the law knows of the class's object x; T tells the cells and slots there were, j how far the script is read -/
def lw_C (T : Nat × Nat) (x j : Nat) (v : hv_V) : Prop := ∃ (fa : Nat → Nat) (n : Nat) (w u : Nat → Nat) (b : Nat) (d : Nat → Nat → Nat) (k : Nat) (ys : Nat → Prop) (qc qa am : Nat) (G : PG) (C : PC), fa 0 = x ∧ am ≤ 260000 * j ∧ cj_I ys qc qa am G C fa n w u b d (T.1 + 2 * n, T.2 + 18 * n) k [] v ∧ cst ys qc qa n w b G C
/-- and of the reference's object y -/
def lw_R (y B : Nat) (v : hv_V) : Prop := ∃ (ra : Nat → Nat) (n b t nm : Nat) (st dg F kd : Nat → Nat), ra 0 = y ∧ rf_J ra n b B t nm st dg F kd v
theorem ci_sz {qm : hq_T} {fa : Nat → Nat} {n : Nat} {w u : Nat → Nat} {b : Nat} {d : Nat → Nat → Nat} {g g1 : Nat × Nat} {k : Nat} {hd : List Nat} {v : hv_V} {N T : Nat} (h : ci_I qm fa n w u b d g k hd v) (hN : N = g1.1 + k) (hT : T = g1.2 + 8 * k) : ci_I qm fa n w u b d g1 k hd (hv_sz v N T) := by
  obtain ⟨h1, h2, ⟨Sl, Sp, ⟨a1, a2, a3, a4, a5, a6⟩, a7⟩, h3, h4⟩ := h
  exact ⟨h1, h2, ⟨Sl, Sp, ⟨a1, a2, a3, a4, ci_chE (v := v) (v1 := hv_sz v N T) (fun _ => rfl) _ _ a5, fun s hs => ⟨ci_chE (v := v) (v1 := hv_sz v N T) (fun _ => rfl) _ _ (a6 s hs).1, (a6 s hs).2⟩⟩, a7⟩, hN, hT⟩
theorem hv_sz_id (v : hv_V) : hv_sz v (hv_n v) (hv_t v) = v := rfl
def rs_up (ra : Nat → Nat) (N T k : Nat) : Nat := if k = 100 then N else if k = 101 then T else ra k
theorem rf_sz {ra : Nat → Nat} {n b B t nm : Nat} {st dg F kd : Nat → Nat} {v : hv_V} (N T : Nat) (h : rf_J ra n b B t nm st dg F kd v) : rf_J (rs_up ra N T) n b B t nm st dg F kd (hv_sz v N T) := by
  obtain ⟨⟨h1, h2, h3⟩, h4⟩ := h
  have e : ∀ k, rs_len k ≠ 0 → rs_up ra N T k = ra k := fun k hk => by
    have := rs_dom hk
    unfold rs_up; rw [if_neg (by omega), if_neg (by omega)]
  exact ⟨⟨⟨h1.1, rfl, rfl⟩, fun k hk => by rw [e k hk]; exact h2 k hk, fun i k hi hk => by rw [e i hi, e k hk]; exact h3 i k hi hk⟩, h4⟩
theorem lw_Rsz {y B : Nat} {v : hv_V} (N T : Nat) (h : lw_R y B v) : lw_R y B (hv_sz v N T) := by
  obtain ⟨ra, n, b, t, nm, st, dg, F, kd, h0, h⟩ := h
  exact ⟨rs_up ra N T, n, b, t, nm, st, dg, F, kd, h0, rf_sz N T h⟩
theorem lw_Cup {T : Nat × Nat} {x j : Nat} {v : hv_V} (h : lw_C T x j v) : lw_C T x (j + 4) v := by
  obtain ⟨fa, n, w, u, b, d, k, ys, qc, qa, am, G, C, h1, h2, h3, h4⟩ := h
  exact ⟨fa, n, w, u, b, d, k, ys, qc, qa, am, G, C, h1, by omega, h3, h4⟩
theorem lw_Csz {T : Nat × Nat} {x j : Nat} {v : hv_V} {N S : Nat} (h : lw_C T x j v) (hN : N = hv_n v) (hS : S = hv_t v) : lw_C T x j (hv_sz v N S) := by rw [hN, hS]; exact h
theorem lw_Csize {T : Nat × Nat} {x j : Nat} {v : hv_V} (h : lw_C T x j v) : hv_n v ≤ T.1 + 4113 ∧ hv_t v ≤ T.2 + 32920 := by
  obtain ⟨fa, n, w, u, b, d, k, ys, qc, qa, am, G, C, -, -, hI, -⟩ := h
  have hI := hI.1
  have h1 := cs_n8 hI.1
  have h2 := ci_kle hI
  have h3 := hI.2.2.2.1
  have h4 := hI.2.2.2.2
  constructor
  · rw [h3]; show T.1 + 2 * n + k ≤ _; omega
  · rw [h4]; show T.2 + 18 * n + 8 * k ≤ _; omega
