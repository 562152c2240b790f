/-- which fields hold references -/
def hv_R (ci k : Nat) : Bool := match ci with
  | 0 => k == 7
  | 1 => k < 4
  | 2 => k == 1
  | 3 => k < 3
  | _ => k == 2 || k == 6 || (14 ≤ k && k < 30) || k == 31
/-- the arrays' types -/
def hv_tys (tc : Nat → ClassId) : List (ClassId × FieldType) := [(tc 0, .int), (tc 1, .boolean), (tc 2, .object "CommitSites$Site"), (tc 3, .object "CommitSites$Message"), (tc 4, .array .int)]
/-! ===== a view of the heap: kinds of cells, int fields, reference fields, int elements, reference elements, number of cells, number of slots ===== -/
abbrev hv_V : Type := (Nat → Nat × Nat) × (Nat → Nat → Int32) × (Nat → Nat → Option Nat) × (Nat → Nat → Int32) × (Nat → Nat → Option Nat) × Nat × Nat
def hv_k (v : hv_V) (a : Nat) : Nat × Nat := v.1 a
def hv_i (v : hv_V) (f a : Nat) : Int32 := v.2.1 f a
def hv_p (v : hv_V) (f a : Nat) : Option Nat := v.2.2.1 f a
def hv_a (v : hv_V) (a j : Nat) : Int32 := v.2.2.2.1 a j
def hv_q (v : hv_V) (a j : Nat) : Option Nat := v.2.2.2.2.1 a j
def hv_n (v : hv_V) : Nat := v.2.2.2.2.2.1
def hv_t (v : hv_V) : Nat := v.2.2.2.2.2.2
def hv_u {α : Type} (m : Nat → Nat → α) (f a : Nat) (x : α) : Nat → Nat → α := fun g b => if g = f ∧ b = a then x else m g b
def hv_si (v : hv_V) (f a : Nat) (x : Int32) : hv_V := (v.1, hv_u v.2.1 f a x, v.2.2)
def hv_sp (v : hv_V) (f a : Nat) (x : Option Nat) : hv_V := (v.1, v.2.1, hv_u v.2.2.1 f a x, v.2.2.2)
def hv_sa (v : hv_V) (a j : Nat) (x : Int32) : hv_V := (v.1, v.2.1, v.2.2.1, hv_u v.2.2.2.1 a j x, v.2.2.2.2)
def hv_sq (v : hv_V) (a j : Nat) (x : Option Nat) : hv_V := (v.1, v.2.1, v.2.2.1, v.2.2.2.1, hv_u v.2.2.2.2.1 a j x, v.2.2.2.2.2)
/-- a new cell of kind kd, with w slots, at the heap's end -/
def hv_nw (v : hv_V) (kd : Nat × Nat) (w : Nat) : hv_V := (va_up v.1 (hv_n v) kd, (fun f a => if a = hv_n v then 0 else v.2.1 f a), (fun f a => if a = hv_n v then none else v.2.2.1 f a), (fun a j => if a = hv_n v then 0 else v.2.2.2.1 a j), (fun a j => if a = hv_n v then none else v.2.2.2.2.1 a j), hv_n v + 1, hv_t v + w)
/-- the same cells in a heap of another size -/
def hv_sz (v : hv_V) (n t : Nat) : hv_V := (v.1, v.2.1, v.2.2.1, v.2.2.2.1, v.2.2.2.2.1, n, t)
theorem hv_u_s {α : Type} (m : Nat → Nat → α) (f a : Nat) (x : α) : hv_u m f a x f a = x := by simp [hv_u]
theorem hv_u_n {α : Type} (m : Nat → Nat → α) {f a g b : Nat} (x : α) (h : ¬ (g = f ∧ b = a)) : hv_u m f a x g b = m g b := by simp [hv_u, h]
theorem hv_si_i (v : hv_V) (f a : Nat) (x : Int32) (g b : Nat) : hv_i (hv_si v f a x) g b = if g = f ∧ b = a then x else hv_i v g b := rfl
theorem hv_si_k (v : hv_V) (f a : Nat) (x : Int32) (b : Nat) : hv_k (hv_si v f a x) b = hv_k v b := rfl
theorem hv_si_p (v : hv_V) (f a : Nat) (x : Int32) (g b : Nat) : hv_p (hv_si v f a x) g b = hv_p v g b := rfl
theorem hv_si_a (v : hv_V) (f a : Nat) (x : Int32) (g b : Nat) : hv_a (hv_si v f a x) g b = hv_a v g b := rfl
theorem hv_si_q (v : hv_V) (f a : Nat) (x : Int32) (g b : Nat) : hv_q (hv_si v f a x) g b = hv_q v g b := rfl
theorem hv_si_n (v : hv_V) (f a : Nat) (x : Int32) : hv_n (hv_si v f a x) = hv_n v := rfl
theorem hv_si_t (v : hv_V) (f a : Nat) (x : Int32) : hv_t (hv_si v f a x) = hv_t v := rfl
theorem hv_sp_p (v : hv_V) (f a : Nat) (x : Option Nat) (g b : Nat) : hv_p (hv_sp v f a x) g b = if g = f ∧ b = a then x else hv_p v g b := rfl
theorem hv_sp_k (v : hv_V) (f a : Nat) (x : Option Nat) (b : Nat) : hv_k (hv_sp v f a x) b = hv_k v b := rfl
theorem hv_sp_i (v : hv_V) (f a : Nat) (x : Option Nat) (g b : Nat) : hv_i (hv_sp v f a x) g b = hv_i v g b := rfl
theorem hv_sp_a (v : hv_V) (f a : Nat) (x : Option Nat) (g b : Nat) : hv_a (hv_sp v f a x) g b = hv_a v g b := rfl
theorem hv_sp_q (v : hv_V) (f a : Nat) (x : Option Nat) (g b : Nat) : hv_q (hv_sp v f a x) g b = hv_q v g b := rfl
theorem hv_sp_n (v : hv_V) (f a : Nat) (x : Option Nat) : hv_n (hv_sp v f a x) = hv_n v := rfl
theorem hv_sp_t (v : hv_V) (f a : Nat) (x : Option Nat) : hv_t (hv_sp v f a x) = hv_t v := rfl
theorem hv_sa_a (v : hv_V) (a j : Nat) (x : Int32) (b i : Nat) : hv_a (hv_sa v a j x) b i = if b = a ∧ i = j then x else hv_a v b i := rfl
theorem hv_sa_k (v : hv_V) (a j : Nat) (x : Int32) (b : Nat) : hv_k (hv_sa v a j x) b = hv_k v b := rfl
theorem hv_sa_i (v : hv_V) (a j : Nat) (x : Int32) (g b : Nat) : hv_i (hv_sa v a j x) g b = hv_i v g b := rfl
theorem hv_sa_p (v : hv_V) (a j : Nat) (x : Int32) (g b : Nat) : hv_p (hv_sa v a j x) g b = hv_p v g b := rfl
theorem hv_sa_q (v : hv_V) (a j : Nat) (x : Int32) (g b : Nat) : hv_q (hv_sa v a j x) g b = hv_q v g b := rfl
theorem hv_sa_n (v : hv_V) (a j : Nat) (x : Int32) : hv_n (hv_sa v a j x) = hv_n v := rfl
theorem hv_sa_t (v : hv_V) (a j : Nat) (x : Int32) : hv_t (hv_sa v a j x) = hv_t v := rfl
theorem hv_sq_q (v : hv_V) (a j : Nat) (x : Option Nat) (b i : Nat) : hv_q (hv_sq v a j x) b i = if b = a ∧ i = j then x else hv_q v b i := rfl
theorem hv_sq_k (v : hv_V) (a j : Nat) (x : Option Nat) (b : Nat) : hv_k (hv_sq v a j x) b = hv_k v b := rfl
theorem hv_sq_i (v : hv_V) (a j : Nat) (x : Option Nat) (g b : Nat) : hv_i (hv_sq v a j x) g b = hv_i v g b := rfl
theorem hv_sq_p (v : hv_V) (a j : Nat) (x : Option Nat) (g b : Nat) : hv_p (hv_sq v a j x) g b = hv_p v g b := rfl
theorem hv_sq_a (v : hv_V) (a j : Nat) (x : Option Nat) (g b : Nat) : hv_a (hv_sq v a j x) g b = hv_a v g b := rfl
theorem hv_sq_n (v : hv_V) (a j : Nat) (x : Option Nat) : hv_n (hv_sq v a j x) = hv_n v := rfl
theorem hv_sq_t (v : hv_V) (a j : Nat) (x : Option Nat) : hv_t (hv_sq v a j x) = hv_t v := rfl
/-- all slots of a heap -/
def hv_tot (H : Heap) : Nat := H.foldl (fun n c => n + c.slots.size) 0
theorem hv_tot_list (H : Heap) : hv_tot H = (H.toList.map (fun c => c.slots.size)).foldl (fun n x => n + x) 0 := by
  unfold hv_tot
  rw [← Array.foldl_toList, List.foldl_map]
theorem hv_tot_eq {H H1 : Heap} (h : ∀ q : Nat, (H1[q]?).map (fun c => c.slots.size) = (H[q]?).map (fun c => c.slots.size)) : hv_tot H1 = hv_tot H := by
  rw [hv_tot_list, hv_tot_list]
  congr 1
  apply List.ext_getElem?
  intro q
  rw [List.getElem?_map, List.getElem?_map, Array.getElem?_toList, Array.getElem?_toList]
  exact h q
theorem hv_tot_set {H H1 : Heap} {a i : Nat} {cell : Cell} {x : Value} (h0 : H[a]? = some cell) (h1 : H1[a]? = some (cell.setSlot i x)) (ho : ∀ q, q ≠ a → H1[q]? = H[q]?) : hv_tot H1 = hv_tot H := by
  apply hv_tot_eq
  intro q
  by_cases hq : q = a
  · subst hq
    rw [h0, h1]
    simp [Cell.setSlot]
  · rw [ho q hq]
theorem hv_push_of {H H1 : Heap} {cell : Cell} (h1 : H1[H.size]? = some cell) (hz : H1.size = H.size + 1) (ho : ∀ q, q < H.size → H1[q]? = H[q]?) : H1 = H.push cell := by
  apply Array.ext_getElem?
  intro q
  rw [Array.getElem?_push]
  by_cases hq : q = H.size
  · rw [if_pos hq, hq, h1]
  · rw [if_neg hq]
    by_cases hl : q < H.size
    · exact ho q hl
    · rw [Array.getElem?_eq_none (by omega), Array.getElem?_eq_none (by omega)]
theorem hv_tot_push (H : Heap) (cell : Cell) : hv_tot (H.push cell) = hv_tot H + cell.slots.size := by
  unfold hv_tot
  rw [Array.foldl_push]
/-- what a cell of an object holds -/
def hv_val (v : hv_V) (ci a k : Nat) : Value := if hv_R ci k = true then va_rf (hv_p v (100 * ci + k) a) else .int (hv_i v (100 * ci + k) a)
/-- the heap holds at a what the view says -/
def hv_c (D : va_G) (tc : Nat → ClassId) (v : hv_V) (H : Heap) (a : Nat) : Prop :=
  (∀ ci : Nat, hv_k v a = (ci + 1, 0) → ci < 99 → ∃ r : vw_C, vwCl[ci]? = some r ∧ t_OB a (D.1 ci) r.2.2 (D.2 ci) H (hv_val v ci a)) ∧
  (∀ t n : Nat, hv_k v a = (100 + t, n) → t < 2 → H[a]? = some (arrV (tc t) n (fun j => .int (hv_a v a j)))) ∧
  (∀ t n : Nat, hv_k v a = (102 + t, n) → H[a]? = some (arrV (tc (2 + t)) n (fun j => va_rf (hv_q v a j))))
def hv_W (D : va_G) (tc : Nat → ClassId) (v : hv_V) (H : Heap) : Prop := (∀ a : Nat, hv_c D tc v H a) ∧ (∀ a : Nat, (hv_k v a).1 ≠ 0 → a < hv_n v) ∧ H.size = hv_n v ∧ hv_tot H = hv_t v
/-- what may be changed: the view's cells, and new ones -/
def hv_A (v : hv_V) : Nat → Prop := fun q => (hv_k v q).1 ≠ 0 ∨ hv_n v ≤ q
/-- where a walk stands: the view holds; its cells may be changed; nothing else has been -/
def hv_St (A : Nat → Prop) (s : State) (D : va_G) (tc : Nat → ClassId) (v : hv_V) (H : Heap) (locs : List Loc) : Prop :=
  hv_W D tc v H ∧ (∀ a : Nat, (hv_k v a).1 ≠ 0 → A a) ∧ va_S A s.heap H locs ∧ ∀ q : Nat, s.heap.size ≤ q → A q
/-- words that are no good words, for the few that need them -/
def hv_N (U : State) : Prop := va_Nw (.methodLinkNest "CommitSites$Network" 48 yX3_hasBit "CommitSites") U ∧ va_Nw (.methodLinkNest "CommitSites$Network" 52 yX0_init "CommitSites") U ∧ va_Nw (.arrayOver (.object "CommitSites$Site")) U ∧ va_Nw (.arrayOver (.object "CommitSites$Message")) U ∧ va_Nw (.arrayOver (.array .int)) U
theorem hv_over {a a' : Array Value} {U U' : State} (hal : U.vm.Alike U'.vm) (h : (Cond.arrayOver (.array .int)).before a U = true) : (Cond.arrayOver (.array .int)).before a' U' = true := by
  simp only [Cond.before, Cond.holds, Cond.value] at h ⊢
  rw [hal.findClass]
  cases hf : U.vm.findClass (FieldType.array .int).toString with
  | none => rw [hf] at h; simp at h
  | some comp =>
    rw [hf] at h
    simp only [Option.bind_some] at h ⊢
    rw [hal.findIdx_congr _ (fun _ _ _ _ => rfl)]
    generalize hF : (U.vm.classes.findIdx? fun (x : Class) => match x.kind with | .array component _ => component == comp | _ => false) = fi at h ⊢
    cases fi with
    | none => simp at h
    | some c =>
      simp only [Option.bind_some] at h ⊢
      cases hk : U.vm.classes[c]? with
      | none => rw [hk] at h; simp at h
      | some k =>
        obtain ⟨k', hk', ek⟩ := hal.2.2 _ _ hk
        rw [hk] at h
        rw [hk', hal.findClass]
        have ekind : k'.kind = k.kind := by rw [ek]
        simp only [Option.map_some] at h ⊢
        rw [ekind]
        exact h
def hv_K (D : va_G) (tc : Nat → ClassId) (U : State) : Prop := va_K D vwCl (hv_tys tc) U ∧ hv_N U
theorem hv_K.warm {D : va_G} {tc : Nat → ClassId} {s U : State} (hW : s.WarmedH U.vm) (h : hv_K D tc s) : hv_K D tc U := ⟨va_K.moved hW.alike h.1, va_Nw.warmM hW h.2.1, va_Nw.warmM hW h.2.2.1, Cond.arrayOver_alike hW.alike h.2.2.2.1, Cond.arrayOver_alike hW.alike h.2.2.2.2.1, hv_over hW.alike h.2.2.2.2.2⟩
theorem hv_K.same {D : va_G} {tc : Nat → ClassId} {s U : State} (hW : s.vm = U.vm) (h : hv_K D tc s) : hv_K D tc U := ⟨va_K.moved (by rw [hW]; exact Vm.Alike.refl _) h.1, va_Nw.same rfl hW h.2.1, va_Nw.same rfl hW h.2.2.1, Cond.arrayOver_alike (by rw [hW]; exact Vm.Alike.refl _) h.2.2.2.1, Cond.arrayOver_alike (by rw [hW]; exact Vm.Alike.refl _) h.2.2.2.2.1, hv_over (by rw [hW]; exact Vm.Alike.refl _) h.2.2.2.2.2⟩
def hv_Pre (D : va_G) (tc : Nat → ClassId) (v : hv_V) (U : State) : Prop := hv_K D tc U ∧ hv_W D tc v U.heap
def hv_Post (D : va_G) (tc : Nat → ClassId) (A : Nat → Prop) (v : hv_V) (t : State) : Prop := hv_K D tc t ∧ hv_W D tc v t.heap ∧ ∀ a : Nat, (hv_k v a).1 ≠ 0 → A a
theorem hv_c_kept {D : va_G} {tc : Nat → ClassId} {v v1 : hv_V} {H H1 : Heap} {a : Nat} (h : hv_c D tc v H a) (hq : H1[a]? = H[a]?) (hk : hv_k v1 a = hv_k v a) (hi : ∀ f, hv_i v1 f a = hv_i v f a) (hp : ∀ f, hv_p v1 f a = hv_p v f a) (ha : ∀ j, hv_a v1 a j = hv_a v a j) (hqq : ∀ j, hv_q v1 a j = hv_q v a j) : hv_c D tc v1 H1 a := by
  refine ⟨fun ci h1 h2 => ?_, fun t n h1 h2 => ?_, fun t n h1 => ?_⟩
  · obtain ⟨r, g1, g2⟩ := h.1 ci (hk ▸ h1) h2
    exact ⟨r, g1, (g2.kept hq).to (fun k _ => by unfold hv_val; rw [hi, hp])⟩
  · rw [hq, h.2.1 t n (hk ▸ h1) h2]
    simp only [ha]
  · rw [hq, h.2.2 t n (hk ▸ h1)]
    simp only [hqq]
/-- a view beside which others have worked -/
theorem hv_W_beside {D : va_G} {tc : Nat → ClassId} {v : hv_V} {H H1 : Heap} (h : hv_W D tc v H) (hle : H.size ≤ H1.size) (hq : ∀ a, (hv_k v a).1 ≠ 0 → H1[a]? = H[a]?) : hv_W D tc (hv_sz v H1.size (hv_tot H1)) H1 := by
  refine ⟨fun a => ?_, fun a ha => ?_, rfl, rfl⟩
  · by_cases h0 : (hv_k v a).1 = 0
    · refine ⟨fun ci h1 h2 => ?_, fun t n h1 h2 => ?_, fun t n h1 => ?_⟩
      · have h1 : hv_k v a = (ci + 1, 0) := h1
        rw [h1] at h0
        exact absurd h0 (Nat.succ_ne_zero ci)
      · have h1 : hv_k v a = (100 + t, n) := h1
        rw [h1] at h0
        exact absurd h0 (by show ¬ (100 + t = 0); omega)
      · have h1 : hv_k v a = (102 + t, n) := h1
        rw [h1] at h0
        exact absurd h0 (by show ¬ (102 + t = 0); omega)
    · exact hv_c_kept (h.1 a) (hq a h0) rfl (fun _ => rfl) (fun _ => rfl) (fun _ => rfl) (fun _ => rfl)
  · have h1 := h.2.1 a ha
    rw [← h.2.2.1] at h1
    exact Nat.lt_of_lt_of_le h1 hle
