theorem hv_dom_ne {v : hv_V} {a ci : Nat} (h : hv_k v a = (ci + 1, 0)) : (hv_k v a).1 ≠ 0 := by rw [h]; exact Nat.succ_ne_zero ci
theorem hv_dom_nea {v : hv_V} {a t n : Nat} (h : hv_k v a = (100 + t, n)) : (hv_k v a).1 ≠ 0 := by rw [h]; show 100 + t ≠ 0; omega
theorem hv_dom_neq {v : hv_V} {a t n : Nat} (h : hv_k v a = (102 + t, n)) : (hv_k v a).1 ≠ 0 := by rw [h]; show 102 + t ≠ 0; omega
theorem hv_W_put {D : va_G} {tc : Nat → ClassId} {v v1 : hv_V} {H H1 : Heap} {a ci : Nat} {r : vw_C} (hW : hv_W D tc v H) (hk : hv_k v a = (ci + 1, 0)) (h99 : ci < 99) (hc : vwCl[ci]? = some r) (hk1 : ∀ b, hv_k v1 b = hv_k v b)
    (hb : ∀ b, b ≠ a → (∀ f, hv_i v1 f b = hv_i v f b) ∧ (∀ f, hv_p v1 f b = hv_p v f b) ∧ (∀ j, hv_a v1 b j = hv_a v b j) ∧ ∀ j, hv_q v1 b j = hv_q v b j) (hn : hv_n v1 = hv_n v) (ht : hv_t v1 = hv_t v) (hO : t_OB a (D.1 ci) r.2.2 (D.2 ci) H1 (hv_val v1 ci a)) (hz : H1.size = H.size) (htot : hv_tot H1 = hv_tot H) (ho : ∀ q, q ≠ a → H1[q]? = H[q]?) : hv_W D tc v1 H1 := by
  refine ⟨fun b => ?_, fun b h => ?_, by rw [hz, hn]; exact hW.2.2.1, by rw [htot, ht]; exact hW.2.2.2⟩
  · by_cases hba : b = a
    · subst hba
      refine ⟨fun ci' h1 h2 => ?_, fun t n h1 h2 => ?_, fun t n h1 => ?_⟩
      · rw [hk1, hk] at h1
        have : ci' = ci := by have := congrArg Prod.fst h1; simp at this; omega
        subst this
        exact ⟨r, hc, hO⟩
      · rw [hk1, hk] at h1
        have := congrArg Prod.fst h1
        simp at this
        omega
      · rw [hk1, hk] at h1
        have := congrArg Prod.fst h1
        simp at this
        omega
    · obtain ⟨g1, g2, g3, g4⟩ := hb b hba
      exact hv_c_kept (hW.1 b) (ho b hba) (hk1 b) g1 g2 g3 g4
  · rw [hk1] at h
    rw [hn]
    exact hW.2.1 b h
theorem hv_W_ast {D : va_G} {tc : Nat → ClassId} {v v1 : hv_V} {H H1 : Heap} {a t n : Nat} (hW : hv_W D tc v H) (hk : hv_k v a = (100 + t, n)) (hk1 : ∀ b, hv_k v1 b = hv_k v b)
    (hb : ∀ b, b ≠ a → (∀ f, hv_i v1 f b = hv_i v f b) ∧ (∀ f, hv_p v1 f b = hv_p v f b) ∧ (∀ j, hv_a v1 b j = hv_a v b j) ∧ ∀ j, hv_q v1 b j = hv_q v b j) (hn : hv_n v1 = hv_n v) (ht : hv_t v1 = hv_t v)
    (h2 : t < 2 → H1[a]? = some (arrV (tc t) n (fun j => .int (hv_a v1 a j)))) (h3 : ¬ t < 2 → H1[a]? = some (arrV (tc t) n (fun j => va_rf (hv_q v1 a j)))) (hz : H1.size = H.size) (htot : hv_tot H1 = hv_tot H) (ho : ∀ q, q ≠ a → H1[q]? = H[q]?) : hv_W D tc v1 H1 := by
  refine ⟨fun b => ?_, fun b h => ?_, by rw [hz, hn]; exact hW.2.2.1, by rw [htot, ht]; exact hW.2.2.2⟩
  · by_cases hba : b = a
    · subst hba
      refine ⟨fun ci' h1 h2 => ?_, fun t' n' h1 h2' => ?_, fun t' n' h1 => ?_⟩
      · rw [hk1, hk] at h1
        have := congrArg Prod.fst h1
        simp at this
        omega
      · rw [hk1, hk] at h1
        have e1 := congrArg Prod.fst h1
        have e2 := congrArg Prod.snd h1
        simp at e1 e2
        have e1 : t = t' := by omega
        subst e1
        subst e2
        exact h2 h2'
      · rw [hk1, hk] at h1
        have e1 := congrArg Prod.fst h1
        have e2 := congrArg Prod.snd h1
        simp at e1 e2
        have e1 : t = 2 + t' := by omega
        subst e1
        subst e2
        exact h3 (by omega)
    · obtain ⟨g1, g2, g3, g4⟩ := hb b hba
      exact hv_c_kept (hW.1 b) (ho b hba) (hk1 b) g1 g2 g3 g4
  · rw [hk1] at h
    rw [hn]
    exact hW.2.1 b h
theorem hv_St_put {A : Nat → Prop} {s : State} {D : va_G} {tc : Nat → ClassId} {v v1 : hv_V} {H H1 : Heap} {locs : List Loc} {a k : Nat} (hT : hv_St A s D tc v H locs) (hW1 : hv_W D tc v1 H1) (hk1 : ∀ b, hv_k v1 b = hv_k v b) (ha : (hv_k v a).1 ≠ 0) (hz : H1.size = H.size) (ho : ∀ q, q ≠ a → H1[q]? = H[q]?) : hv_St A s D tc v1 H1 (locs ++ [⟨a, k⟩]) :=
  ⟨hW1, fun b h => hT.2.1 b (by rw [hk1] at h; exact h), hT.2.2.1.put hz ho (hT.2.1 a ha), hT.2.2.2⟩
section HVR
variable {p : Program} {l : Launch} {e : Env} {R : Room} {s : State} {m : MethodId} {args : Array Value} {below : List Frame} {meth : Method} {c : Code} {H : Heap} {locs : List Loc} {cells slots : Nat} {Q : State → Prop}
variable {cc : ByteArray} {pc : Nat} {ls : Array Slot} {rest : List Value} {D : va_G} {tc : Nat → ClassId} {v : hv_V} {A : Nat → Prop} {a : Nat}
/-- getfield of an int (or boolean) field -/
theorem hv_geti (hexec : p.tables.exec = Jvm.exec) (hb : c.code = cc) {own C : String} {T : u_T} {N ci index : Nat} {Ts : List Cond} (hts : ∀ w ∈ Ts, w.before args s = true) (hin : ∀ w ∈ u_ws C T N, w ∈ Ts) (hown : s.vm.findClass own = some m.cls) (hK : hv_K D tc s) (hT : hv_St A s D tc v H locs) (hk : hv_k v a = (ci + 1, 0)) (h99 : ci < 99) (hc : vwCl[ci]? = some (C, T, N)) (k : Nat) (hkN : k < N) (hlink : (Cond.fieldLink own index (T k).1 (T k).2.1 (T k).2.2.1).before args s = true) (hR : hv_R ci k = false) (hdg : decode cc pc = .ok (.getfield index, 3))
    (kk : W p l e R s m args below meth c H locs cells slots Q (F0 m (pc + 3) ls (.int (hv_i v (100 * ci + k) a) :: rest))) : W p l e R s m args below meth c H locs cells slots Q (F0 m pc ls (.ref a :: rest)) := by
  obtain ⟨r, h1, cell, q1, q2, q3, q4⟩ := (hT.1.1 a).1 ci hk h99
  have hr : r = (C, T, N) := Option.some.inj (h1.symm.trans hc)
  subst hr
  obtain ⟨hS, hfc, kC, hkC, hkind⟩ := hK.1.1 ci _ hc
  obtain ⟨cf, kf, fi, f, hi, hsl⟩ := hS k hkN
  refine W.getf hexec hb hown hlink hi (u_facts hfc hkC (u_lays hts hin hkN) hi).1 q1 (by rw [q3]; exact fun h => by cases h) (v := .int (hv_i v (100 * ci + k) a)) ?_ rfl rfl hdg kk
  rw [hsl, q4 k hkN]
  simp [hv_val, hR]
/-- getfield of a reference field -/
theorem hv_getr (hexec : p.tables.exec = Jvm.exec) (hb : c.code = cc) {own C : String} {T : u_T} {N ci index : Nat} {Ts : List Cond} (hts : ∀ w ∈ Ts, w.before args s = true) (hin : ∀ w ∈ u_ws C T N, w ∈ Ts) (hown : s.vm.findClass own = some m.cls) (hK : hv_K D tc s) (hT : hv_St A s D tc v H locs) (hk : hv_k v a = (ci + 1, 0)) (h99 : ci < 99) (hc : vwCl[ci]? = some (C, T, N)) (k : Nat) (hkN : k < N) (hlink : (Cond.fieldLink own index (T k).1 (T k).2.1 (T k).2.2.1).before args s = true) (hR : hv_R ci k = true) {x : Option Nat} (hx : hv_p v (100 * ci + k) a = x) (hdg : decode cc pc = .ok (.getfield index, 3))
    (kk : W p l e R s m args below meth c H locs cells slots Q (F0 m (pc + 3) ls (va_rf x :: rest))) : W p l e R s m args below meth c H locs cells slots Q (F0 m pc ls (.ref a :: rest)) := by
  obtain ⟨r, h1, cell, q1, q2, q3, q4⟩ := (hT.1.1 a).1 ci hk h99
  have hr : r = (C, T, N) := Option.some.inj (h1.symm.trans hc)
  subst hr
  obtain ⟨hS, hfc, kC, hkC, hkind⟩ := hK.1.1 ci _ hc
  obtain ⟨cf, kf, fi, f, hi, hsl⟩ := hS k hkN
  refine W.getf hexec hb hown hlink hi (u_facts hfc hkC (u_lays hts hin hkN) hi).1 q1 (by rw [q3]; exact fun h => by cases h) (v := va_rf x) ?_ rfl rfl hdg kk
  rw [hsl, q4 k hkN]
  simp [hv_val, hR, hx]
/-- putfield of an int (or boolean) field -/
theorem hv_puti (hexec : p.tables.exec = Jvm.exec) (hb : c.code = cc) {own C : String} {T : u_T} {N ci index : Nat} {Ts : List Cond} (hts : ∀ w ∈ Ts, w.before args s = true) (hin : ∀ w ∈ u_ws C T N, w ∈ Ts) (ty0 : Nat → FieldType) (hty : ∀ k, k < N → parseFieldDescriptor (T k).2.2.1 = some (ty0 k)) (hnm : ∀ a, a < N → ∀ b, b < N → a ≠ b → (T a).2.1 ≠ (T b).2.1) (hown : s.vm.findClass own = some m.cls) (hK : hv_K D tc s) (hT : hv_St A s D tc v H locs) (hk : hv_k v a = (ci + 1, 0)) (h99 : ci < 99) (hc : vwCl[ci]? = some (C, T, N)) (k : Nat) (hkN : k < N) (hlink : (Cond.fieldLink own index (T k).1 (T k).2.1 (T k).2.2.1).before args s = true) (hR : hv_R ci k = false) (hfin : (T k).2.2.2 = false) {x : Int32} (hn : narrow (ty0 k) (.int x) = .int x) (hfit : fits (ty0 k) (.int x) = true) (hdg : decode cc pc = .ok (.putfield index, 3))
    (kk : ∀ (H1 : Heap) (locs1 : List Loc), hv_St A s D tc (hv_si v (100 * ci + k) a x) H1 locs1 → W p l e R s m args below meth c H1 locs1 cells slots Q (F0 m (pc + 3) ls rest)) : W p l e R s m args below meth c H locs cells slots Q (F0 m pc ls (.int x :: .ref a :: rest)) := by
  have hap := va_apart (own := own) hts hin ty0 hty hnm hK.1 hc
  obtain ⟨r, h1, cell, q1, q2, q3, q4⟩ := (hT.1.1 a).1 ci hk h99
  have hr : r = (C, T, N) := Option.some.inj (h1.symm.trans hc)
  subst hr
  obtain ⟨hS, hfc, kC, hkC, hkind⟩ := hK.1.1 ci _ hc
  obtain ⟨cf, kf, fi, f, hi, hsl⟩ := hS k hkN
  have hlay := hts _ (hin _ (u_in_lay hkN))
  unfold u_lay at hlay
  rw [if_neg (by rw [hfin]; decide)] at hlay
  have hst := (u_facts hfc hkC (u_lays hts hin hkN) hi).1
  have h6 := u_store hfc hkC hkind hlay hi (hty k hkN) hn hfit
  refine W.putK hexec hb (f := f) ⟨hown, hlink, ⟨_, _, _, hi⟩, hst⟩ (by rw [q2]; exact h6) q1 q3 (by rw [hsl]; exact k2_hasslot (q4 k hkN)) rfl rfl hdg fun H' e1 e2 e3 => ?_
  rw [hsl] at e1 ⊢
  have hO : t_OB a (D.1 ci) N (D.2 ci) H' (hv_val (hv_si v (100 * ci + k) a x) ci a) := by
    refine t_OB.to (V := updV (hv_val v ci a) k (.int x)) ⟨_, e1, q2, q3, t_set q4 hap hkN _⟩ (fun j _ => ?_)
    by_cases hj : j = k
    · subst hj
      simp [updV, hv_val, hR, hv_si_i]
    · simp [updV, hv_val, hj, hv_si_i, hv_si_p]
  exact kk H' _ (hv_St_put hT (hv_W_put hT.1 hk h99 hc (fun _ => rfl) (fun b hb => ⟨fun f => by simp [hv_si_i, hb], fun _ => rfl, fun _ => rfl, fun _ => rfl⟩) rfl rfl hO e2 (hv_tot_set q1 e1 e3) e3) (fun _ => rfl) (hv_dom_ne hk) e2 e3)
/-- putfield of a reference field -/
theorem hv_putr (hexec : p.tables.exec = Jvm.exec) (hb : c.code = cc) {own C : String} {T : u_T} {N ci index : Nat} {Ts : List Cond} (hts : ∀ w ∈ Ts, w.before args s = true) (hin : ∀ w ∈ u_ws C T N, w ∈ Ts) (ty0 : Nat → FieldType) (hty : ∀ k, k < N → parseFieldDescriptor (T k).2.2.1 = some (ty0 k)) (hnm : ∀ a, a < N → ∀ b, b < N → a ≠ b → (T a).2.1 ≠ (T b).2.1) (hown : s.vm.findClass own = some m.cls) (hK : hv_K D tc s) (hT : hv_St A s D tc v H locs) (hk : hv_k v a = (ci + 1, 0)) (h99 : ci < 99) (hc : vwCl[ci]? = some (C, T, N)) (k : Nat) (hkN : k < N) (hlink : (Cond.fieldLink own index (T k).1 (T k).2.1 (T k).2.2.1).before args s = true) (hR : hv_R ci k = true) (hfin : (T k).2.2.2 = false) {y : Value} (x : Option Nat) (hy : y = va_rf x) (hn : narrow (ty0 k) y = y) (hfit : fits (ty0 k) y = true) (hdg : decode cc pc = .ok (.putfield index, 3))
    (kk : ∀ (H1 : Heap) (locs1 : List Loc), hv_St A s D tc (hv_sp v (100 * ci + k) a x) H1 locs1 → W p l e R s m args below meth c H1 locs1 cells slots Q (F0 m (pc + 3) ls rest)) : W p l e R s m args below meth c H locs cells slots Q (F0 m pc ls (y :: .ref a :: rest)) := by
  have hap := va_apart (own := own) hts hin ty0 hty hnm hK.1 hc
  obtain ⟨r, h1, cell, q1, q2, q3, q4⟩ := (hT.1.1 a).1 ci hk h99
  have hr : r = (C, T, N) := Option.some.inj (h1.symm.trans hc)
  subst hr
  obtain ⟨hS, hfc, kC, hkC, hkind⟩ := hK.1.1 ci _ hc
  obtain ⟨cf, kf, fi, f, hi, hsl⟩ := hS k hkN
  have hlay := hts _ (hin _ (u_in_lay hkN))
  unfold u_lay at hlay
  rw [if_neg (by rw [hfin]; decide)] at hlay
  have hst := (u_facts hfc hkC (u_lays hts hin hkN) hi).1
  have h6 := u_store hfc hkC hkind hlay hi (hty k hkN) hn hfit
  refine W.putK hexec hb (f := f) ⟨hown, hlink, ⟨_, _, _, hi⟩, hst⟩ (by rw [q2]; exact h6) q1 q3 (by rw [hsl]; exact k2_hasslot (q4 k hkN)) rfl rfl hdg fun H' e1 e2 e3 => ?_
  rw [hsl] at e1 ⊢
  have hO : t_OB a (D.1 ci) N (D.2 ci) H' (hv_val (hv_sp v (100 * ci + k) a x) ci a) := by
    refine t_OB.to (V := updV (hv_val v ci a) k y) ⟨_, e1, q2, q3, t_set q4 hap hkN _⟩ (fun j _ => ?_)
    by_cases hj : j = k
    · subst hj
      simp [updV, hv_val, hR, hv_sp_p, hy]
    · simp [updV, hv_val, hj, hv_sp_i, hv_sp_p]
  exact kk H' _ (hv_St_put hT (hv_W_put hT.1 hk h99 hc (fun _ => rfl) (fun b hb => ⟨fun _ => rfl, fun f => by simp [hv_sp_p, hb], fun _ => rfl, fun _ => rfl⟩) rfl rfl hO e2 (hv_tot_set q1 e1 e3) e3) (fun _ => rfl) (hv_dom_ne hk) e2 e3)
/-- putfield of a final field in its class's constructor: int -/
theorem hv_putiF (hexec : p.tables.exec = Jvm.exec) (hb : c.code = cc) {own C : String} {T : u_T} {N ci index : Nat} {Ts : List Cond} (hts : ∀ w ∈ Ts, w.before args s = true) (hin : ∀ w ∈ u_ws C T N, w ∈ Ts) (ty0 : Nat → FieldType) (hty : ∀ k, k < N → parseFieldDescriptor (T k).2.2.1 = some (ty0 k)) (hnm : ∀ a, a < N → ∀ b, b < N → a ≠ b → (T a).2.1 ≠ (T b).2.1) (hown : s.vm.findClass own = some m.cls) (hK : hv_K D tc s) (hT : hv_St A s D tc v H locs) (hk : hv_k v a = (ci + 1, 0)) (h99 : ci < 99) (hc : vwCl[ci]? = some (C, T, N)) (k : Nat) (hkN : k < N) (hlink : (Cond.fieldLink own index (T k).1 (T k).2.1 (T k).2.2.1).before args s = true) (hR : hv_R ci k = false) (hfin : (T k).2.2.2 = true) (hin2 : meth.name = "<init>") (hdecl : (T k).1 = own) {x : Int32} (hn : narrow (ty0 k) (.int x) = .int x) (hfit : fits (ty0 k) (.int x) = true) (hdg : decode cc pc = .ok (.putfield index, 3))
    (kk : ∀ (H1 : Heap) (locs1 : List Loc), hv_St A s D tc (hv_si v (100 * ci + k) a x) H1 locs1 → W p l e R s m args below meth c H1 locs1 cells slots Q (F0 m (pc + 3) ls rest)) : W p l e R s m args below meth c H locs cells slots Q (F0 m pc ls (.int x :: .ref a :: rest)) := by
  have hap := va_apart (own := own) hts hin ty0 hty hnm hK.1 hc
  obtain ⟨r, h1, cell, q1, q2, q3, q4⟩ := (hT.1.1 a).1 ci hk h99
  have hr : r = (C, T, N) := Option.some.inj (h1.symm.trans hc)
  subst hr
  obtain ⟨hS, hfc, kC, hkC, hkind⟩ := hK.1.1 ci _ hc
  obtain ⟨cf, kf, fi, f, hi, hsl⟩ := hS k hkN
  have hlay := hts _ (hin _ (u_in_lay hkN))
  unfold u_lay at hlay
  rw [if_pos hfin] at hlay
  have hst := (u_facts hfc hkC (u_lays hts hin hkN) hi).1
  have hcf : m.cls = cf := by
    obtain ⟨_, _, c', _, _, _, -, -, hf', -, -, -, hown2, -⟩ := Cond.laysFinal_spec hlay
    have e1 : c' = cf := by have := hi.symm.trans hf'; simp at this; exact this.1.symm
    rw [hdecl] at hown2
    rw [← e1]; exact Option.some.inj (hown.symm.trans hown2)
  have h6 := u_fits hfc hkC hkind (Or.inr hlay) hi (hty k hkN) hn hfit
  refine W.putFinK hexec hb hown hlink hi hst hcf hin2 (by rw [q2]; exact h6) q1 q3 (by rw [hsl]; exact k2_hasslot (q4 k hkN)) rfl rfl hdg fun H' e1 e2 e3 => ?_
  rw [hsl] at e1 ⊢
  have hO : t_OB a (D.1 ci) N (D.2 ci) H' (hv_val (hv_si v (100 * ci + k) a x) ci a) := by
    refine t_OB.to (V := updV (hv_val v ci a) k (.int x)) ⟨_, e1, q2, q3, t_set q4 hap hkN _⟩ (fun j _ => ?_)
    by_cases hj : j = k
    · subst hj
      simp [updV, hv_val, hR, hv_si_i]
    · simp [updV, hv_val, hj, hv_si_i, hv_si_p]
  exact kk H' _ (hv_St_put hT (hv_W_put hT.1 hk h99 hc (fun _ => rfl) (fun b hb => ⟨fun f => by simp [hv_si_i, hb], fun _ => rfl, fun _ => rfl, fun _ => rfl⟩) rfl rfl hO e2 (hv_tot_set q1 e1 e3) e3) (fun _ => rfl) (hv_dom_ne hk) e2 e3)
/-- putfield of a final field in its class's constructor: reference -/
theorem hv_putrF (hexec : p.tables.exec = Jvm.exec) (hb : c.code = cc) {own C : String} {T : u_T} {N ci index : Nat} {Ts : List Cond} (hts : ∀ w ∈ Ts, w.before args s = true) (hin : ∀ w ∈ u_ws C T N, w ∈ Ts) (ty0 : Nat → FieldType) (hty : ∀ k, k < N → parseFieldDescriptor (T k).2.2.1 = some (ty0 k)) (hnm : ∀ a, a < N → ∀ b, b < N → a ≠ b → (T a).2.1 ≠ (T b).2.1) (hown : s.vm.findClass own = some m.cls) (hK : hv_K D tc s) (hT : hv_St A s D tc v H locs) (hk : hv_k v a = (ci + 1, 0)) (h99 : ci < 99) (hc : vwCl[ci]? = some (C, T, N)) (k : Nat) (hkN : k < N) (hlink : (Cond.fieldLink own index (T k).1 (T k).2.1 (T k).2.2.1).before args s = true) (hR : hv_R ci k = true) (hfin : (T k).2.2.2 = true) (hin2 : meth.name = "<init>") (hdecl : (T k).1 = own) {y : Value} (x : Option Nat) (hy : y = va_rf x) (hn : narrow (ty0 k) y = y) (hfit : fits (ty0 k) y = true) (hdg : decode cc pc = .ok (.putfield index, 3))
    (kk : ∀ (H1 : Heap) (locs1 : List Loc), hv_St A s D tc (hv_sp v (100 * ci + k) a x) H1 locs1 → W p l e R s m args below meth c H1 locs1 cells slots Q (F0 m (pc + 3) ls rest)) : W p l e R s m args below meth c H locs cells slots Q (F0 m pc ls (y :: .ref a :: rest)) := by
  have hap := va_apart (own := own) hts hin ty0 hty hnm hK.1 hc
  obtain ⟨r, h1, cell, q1, q2, q3, q4⟩ := (hT.1.1 a).1 ci hk h99
  have hr : r = (C, T, N) := Option.some.inj (h1.symm.trans hc)
  subst hr
  obtain ⟨hS, hfc, kC, hkC, hkind⟩ := hK.1.1 ci _ hc
  obtain ⟨cf, kf, fi, f, hi, hsl⟩ := hS k hkN
  have hlay := hts _ (hin _ (u_in_lay hkN))
  unfold u_lay at hlay
  rw [if_pos hfin] at hlay
  have hst := (u_facts hfc hkC (u_lays hts hin hkN) hi).1
  have hcf : m.cls = cf := by
    obtain ⟨_, _, c', _, _, _, -, -, hf', -, -, -, hown2, -⟩ := Cond.laysFinal_spec hlay
    have e1 : c' = cf := by have := hi.symm.trans hf'; simp at this; exact this.1.symm
    rw [hdecl] at hown2
    rw [← e1]; exact Option.some.inj (hown.symm.trans hown2)
  have h6 := u_fits hfc hkC hkind (Or.inr hlay) hi (hty k hkN) hn hfit
  refine W.putFinK hexec hb hown hlink hi hst hcf hin2 (by rw [q2]; exact h6) q1 q3 (by rw [hsl]; exact k2_hasslot (q4 k hkN)) rfl rfl hdg fun H' e1 e2 e3 => ?_
  rw [hsl] at e1 ⊢
  have hO : t_OB a (D.1 ci) N (D.2 ci) H' (hv_val (hv_sp v (100 * ci + k) a x) ci a) := by
    refine t_OB.to (V := updV (hv_val v ci a) k y) ⟨_, e1, q2, q3, t_set q4 hap hkN _⟩ (fun j _ => ?_)
    by_cases hj : j = k
    · subst hj
      simp [updV, hv_val, hR, hv_sp_p, hy]
    · simp [updV, hv_val, hj, hv_sp_i, hv_sp_p]
  exact kk H' _ (hv_St_put hT (hv_W_put hT.1 hk h99 hc (fun _ => rfl) (fun b hb => ⟨fun _ => rfl, fun f => by simp [hv_sp_p, hb], fun _ => rfl, fun _ => rfl⟩) rfl rfl hO e2 (hv_tot_set q1 e1 e3) e3) (fun _ => rfl) (hv_dom_ne hk) e2 e3)
/-- elements -/
theorem hv_iald (hexec : p.tables.exec = Jvm.exec) (hb : c.code = cc) (hK : hv_K D tc s) (hT : hv_St A s D tc v H locs) {n : Nat} (hk : hv_k v a = (100, n)) {i : Int32} (hin : vp_in i n) (hdg : decode cc pc = .ok (.iaload, 1))
    (kk : W p l e R s m args below meth c H locs cells slots Q (F0 m (pc + 1) ls (.int (hv_a v a i.toNatClampNeg) :: rest))) : W p l e R s m args below meth c H locs cells slots Q (F0 m pc ls (.int i :: .ref a :: rest)) := by
  have hlt : i.toNatClampNeg < n := Nat.not_le.mp fun q => hin (Or.inr q)
  exact W.iald (v := .int (hv_a v a i.toNatClampNeg)) hexec hb ((hT.1.1 a).2.1 0 n hk (by decide)) ((hK.1.2 0 _ rfl).1 n (fun j => .int (hv_a v a j))) (fun q => by cases q) (by rw [arrV_size]; exact hin) (by rw [arrV_read _ _ hlt]) rfl rfl hdg kk
theorem hv_zald (hexec : p.tables.exec = Jvm.exec) (hb : c.code = cc) (hK : hv_K D tc s) (hT : hv_St A s D tc v H locs) {n : Nat} (hk : hv_k v a = (101, n)) {i : Int32} (hin : vp_in i n) (hdg : decode cc pc = .ok (.baload, 1))
    (kk : W p l e R s m args below meth c H locs cells slots Q (F0 m (pc + 1) ls (.int (hv_a v a i.toNatClampNeg) :: rest))) : W p l e R s m args below meth c H locs cells slots Q (F0 m pc ls (.int i :: .ref a :: rest)) := by
  have hlt : i.toNatClampNeg < n := Nat.not_le.mp fun q => hin (Or.inr q)
  exact W.zald (v := .int (hv_a v a i.toNatClampNeg)) hexec hb ((hT.1.1 a).2.1 1 n hk (by decide)) ((hK.1.2 1 _ rfl).1 n (fun j => .int (hv_a v a j))) (fun q => by cases q) (by rw [arrV_size]; exact hin) (by rw [arrV_read _ _ hlt]) rfl rfl hdg kk
theorem hv_aald (hexec : p.tables.exec = Jvm.exec) (hb : c.code = cc) (hK : hv_K D tc s) (hT : hv_St A s D tc v H locs) {n t : Nat} (hk : hv_k v a = (102 + t, n)) {ty : FieldType} (hty : (hv_tys tc)[2 + t]? = some (tc (2 + t), ty)) (hr : ty.isReference = true) {i : Int32} (hin : vp_in i n) {x : Option Nat} (hx : hv_q v a i.toNatClampNeg = x) (hdg : decode cc pc = .ok (.aaload, 1))
    (kk : W p l e R s m args below meth c H locs cells slots Q (F0 m (pc + 1) ls (va_rf x :: rest))) : W p l e R s m args below meth c H locs cells slots Q (F0 m pc ls (.int i :: .ref a :: rest)) := by
  have hlt : i.toNatClampNeg < n := Nat.not_le.mp fun q => hin (Or.inr q)
  subst hx
  exact W.aald (v := va_rf (hv_q v a i.toNatClampNeg)) (ty := ty) hexec hb ((hT.1.1 a).2.2 t n hk) ((hK.1.2 (2 + t) _ hty).1 n (fun j => va_rf (hv_q v a j))) hr (fun q => by cases q) (by rw [arrV_size]; exact hin) (by rw [arrV_read _ _ hlt]) rfl rfl hdg kk
theorem hv_iast (hexec : p.tables.exec = Jvm.exec) (hb : c.code = cc) (hK : hv_K D tc s) (hT : hv_St A s D tc v H locs) {n : Nat} (hk : hv_k v a = (100, n)) {i x : Int32} (hin : vp_in i n) (hdg : decode cc pc = .ok (.iastore, 1))
    (kk : ∀ (H1 : Heap) (locs1 : List Loc), hv_St A s D tc (hv_sa v a i.toNatClampNeg x) H1 locs1 → W p l e R s m args below meth c H1 locs1 cells slots Q (F0 m (pc + 1) ls rest)) : W p l e R s m args below meth c H locs cells slots Q (F0 m pc ls (.int x :: .int i :: .ref a :: rest)) := by
  have hc0 := (hT.1.1 a).2.1 0 n hk (by decide)
  refine W.iast hexec hb hc0 ((hK.1.2 0 _ rfl).1 n (fun j => .int (hv_a v a j))) (fun q => by cases q) (by rw [arrV_size]; exact hin) rfl rfl hdg fun H1 e1 e2 e3 => ?_
  refine kk H1 _ (hv_St_put hT (hv_W_ast (t := 0) hT.1 hk (fun _ => rfl) (fun b hb => ⟨fun _ => rfl, fun _ => rfl, fun j => by simp [hv_sa_a, hb], fun _ => rfl⟩) rfl rfl (fun _ => ?_) (fun h => absurd (by decide) h) e2 (hv_tot_set hc0 e1 e3) e3) (fun _ => rfl) (hv_dom_nea (t := 0) hk) e2 e3)
  rw [e1, arrV_store]
  congr 2
  funext q
  by_cases hq : q = i.toNatClampNeg
  · subst hq
    simp [updV, hv_sa_a]
  · simp [updV, hv_sa_a, hq]
theorem hv_zast (hexec : p.tables.exec = Jvm.exec) (hb : c.code = cc) (hK : hv_K D tc s) (hT : hv_St A s D tc v H locs) {n : Nat} (hk : hv_k v a = (101, n)) {i x : Int32} (hin : vp_in i n) (hnx : narrow .boolean (.int x) = .int x) (hdg : decode cc pc = .ok (.bastore, 1))
    (kk : ∀ (H1 : Heap) (locs1 : List Loc), hv_St A s D tc (hv_sa v a i.toNatClampNeg x) H1 locs1 → W p l e R s m args below meth c H1 locs1 cells slots Q (F0 m (pc + 1) ls rest)) : W p l e R s m args below meth c H locs cells slots Q (F0 m pc ls (.int x :: .int i :: .ref a :: rest)) := by
  have hc0 := (hT.1.1 a).2.1 1 n hk (by decide)
  refine W.zast hexec hb hc0 ((hK.1.2 1 _ rfl).1 n (fun j => .int (hv_a v a j))) (fun q => by cases q) (by rw [arrV_size]; exact hin) rfl rfl hdg fun H1 e1 e2 e3 => ?_
  refine kk H1 _ (hv_St_put hT (hv_W_ast (t := 1) hT.1 hk (fun _ => rfl) (fun b hb => ⟨fun _ => rfl, fun _ => rfl, fun j => by simp [hv_sa_a, hb], fun _ => rfl⟩) rfl rfl (fun _ => ?_) (fun h => absurd (by decide) h) e2 (hv_tot_set hc0 e1 e3) e3) (fun _ => rfl) (hv_dom_nea (t := 1) hk) e2 e3)
  rw [e1, arrV_store, hnx]
  congr 2
  funext q
  by_cases hq : q = i.toNatClampNeg
  · subst hq
    simp [updV, hv_sa_a]
  · simp [updV, hv_sa_a, hq]
/-- a reference to an object of class ci goes into an array of that class -/
theorem hv_aast (hexec : p.tables.exec = Jvm.exec) (hb : c.code = cc) (hK : hv_K D tc s) (hT : hv_St A s D tc v H locs) {n t ci y : Nat} {r : vw_C} (hk : hv_k v a = (102 + t, n)) (hty : (hv_tys tc)[2 + t]? = some (tc (2 + t), .object r.1)) (hky : hv_k v y = (ci + 1, 0)) (h99 : ci < 99) (hc : vwCl[ci]? = some r) {i : Int32} (hin : vp_in i n) (hdg : decode cc pc = .ok (.aastore, 1))
    (kk : ∀ (H1 : Heap) (locs1 : List Loc), hv_St A s D tc (hv_sq v a i.toNatClampNeg (some y)) H1 locs1 → W p l e R s m args below meth c H1 locs1 cells slots Q (F0 m (pc + 1) ls rest)) : W p l e R s m args below meth c H locs cells slots Q (F0 m pc ls (.ref y :: .int i :: .ref a :: rest)) := by
  have hlt : i.toNatClampNeg < n := Nat.not_le.mp fun q => hin (Or.inr q)
  have h0 : ¬ i < 0 := fun q => hin (Or.inl q)
  obtain ⟨r', hr', cellV, g1, g2, g3, -⟩ := (hT.1.1 y).1 ci hky h99
  have hcls := (hK.1.1 ci r hc).2
  obtain ⟨kA, comp, k1, k2, k3, -⟩ := (hK.1.2 (2 + t) _ hty).2
  have hcomp : comp = D.1 ci := Option.some.inj (k3.symm.trans hcls.1)
  subst hcomp
  obtain ⟨kC, hkC, -⟩ := hcls.2
  have hc0 := (hT.1.1 a).2.2 t n hk
  refine W.aast hexec hb hc0 (fun q h => by cases h) (fun h => by cases h) k1 k2 rfl hkC ⟨h0, by rw [arrV_size]; exact hlt⟩ g1 (fun q h => by rw [g3] at h; cases h) (by rw [g2]; exact hkC) (by rw [g2]; exact va_assign hcls) rfl rfl hdg fun H1 e1 e2 e3 => ?_
  refine kk H1 _ (hv_St_put hT (hv_W_ast (t := 2 + t) hT.1 (by rw [hk, ← Nat.add_assoc]) (fun _ => rfl) (fun b hb => ⟨fun _ => rfl, fun _ => rfl, fun _ => rfl, fun j => by simp [hv_sq_q, hb]⟩) rfl rfl (fun h => absurd h (by omega)) (fun _ => ?_) e2 (hv_tot_set hc0 e1 e3) e3) (fun _ => rfl) (hv_dom_neq hk) e2 e3)
  rw [e1, arrV_store]
  congr 2
  funext q
  by_cases hq : q = i.toNatClampNeg
  · subst hq
    simp [updV, hv_sq_q, va_rf]
  · simp [updV, hv_sq_q, hq]
theorem hv_aastN (hexec : p.tables.exec = Jvm.exec) (hb : c.code = cc) (hK : hv_K D tc s) (hT : hv_St A s D tc v H locs) {n t : Nat} {C : String} (hk : hv_k v a = (102 + t, n)) (hty : (hv_tys tc)[2 + t]? = some (tc (2 + t), .object C)) {i : Int32} (hin : vp_in i n) (hdg : decode cc pc = .ok (.aastore, 1))
    (kk : ∀ (H1 : Heap) (locs1 : List Loc), hv_St A s D tc (hv_sq v a i.toNatClampNeg none) H1 locs1 → W p l e R s m args below meth c H1 locs1 cells slots Q (F0 m (pc + 1) ls rest)) : W p l e R s m args below meth c H locs cells slots Q (F0 m pc ls (.null :: .int i :: .ref a :: rest)) := by
  have hc0 := (hT.1.1 a).2.2 t n hk
  refine va_WaastN (C := C) hexec hb hc0 ((hK.1.2 (2 + t) _ hty).1 n (fun j => va_rf (hv_q v a j))) (fun h => by cases h) (by rw [arrV_size]; exact hin) rfl rfl hdg fun H1 e1 e2 e3 => ?_
  refine kk H1 _ (hv_St_put hT (hv_W_ast (t := 2 + t) hT.1 (by rw [hk, ← Nat.add_assoc]) (fun _ => rfl) (fun b hb => ⟨fun _ => rfl, fun _ => rfl, fun _ => rfl, fun j => by simp [hv_sq_q, hb]⟩) rfl rfl (fun h => absurd h (by omega)) (fun _ => ?_) e2 (hv_tot_set hc0 e1 e3) e3) (fun _ => rfl) (hv_dom_neq hk) e2 e3)
  rw [e1, arrV_store]
  congr 2
  funext q
  by_cases hq : q = i.toNatClampNeg
  · subst hq
    simp [updV, hv_sq_q, va_rf]
  · simp [updV, hv_sq_q, hq]
end HVR
