/-- new int[N][M], at the heap's end -/
def hv_mn (v : hv_V) (N M : Nat) : hv_V := ((fun a => if a = hv_n v then (104, N) else if hv_n v < a ∧ a ≤ hv_n v + N then (100, M) else v.1 a), (fun f a => if hv_n v ≤ a then 0 else v.2.1 f a), (fun f a => if hv_n v ≤ a then none else v.2.2.1 f a), (fun a j => if hv_n v ≤ a then 0 else v.2.2.2.1 a j), (fun a j => if a = hv_n v then (if j < N then some (hv_n v + 1 + j) else none) else if hv_n v ≤ a then none else v.2.2.2.2.1 a j), hv_n v + 1 + N, hv_t v + N + N * M)
theorem hv_mn_k (v : hv_V) (N M a : Nat) : hv_k (hv_mn v N M) a = if a = hv_n v then (104, N) else if hv_n v < a ∧ a ≤ hv_n v + N then (100, M) else hv_k v a := rfl
theorem hv_mn_i (v : hv_V) (N M f a : Nat) : hv_i (hv_mn v N M) f a = if hv_n v ≤ a then 0 else hv_i v f a := rfl
theorem hv_mn_p (v : hv_V) (N M f a : Nat) : hv_p (hv_mn v N M) f a = if hv_n v ≤ a then none else hv_p v f a := rfl
theorem hv_mn_a (v : hv_V) (N M a j : Nat) : hv_a (hv_mn v N M) a j = if hv_n v ≤ a then 0 else hv_a v a j := rfl
theorem hv_mn_q (v : hv_V) (N M a j : Nat) : hv_q (hv_mn v N M) a j = if a = hv_n v then (if j < N then some (hv_n v + 1 + j) else none) else if hv_n v ≤ a then none else hv_q v a j := rfl
theorem hv_mn_n (v : hv_V) (N M : Nat) : hv_n (hv_mn v N M) = hv_n v + 1 + N := rfl
theorem hv_mn_t (v : hv_V) (N M : Nat) : hv_t (hv_mn v N M) = hv_t v + N + N * M := rfl
theorem vr_outer (c : ClassId) (N h0 : Nat) : ∀ i : Nat, Jvm.Free.Multi.outerC c N h0 i = arrV c N (fun j => va_rf (if j < i then some (h0 + 1 + j) else none))
  | 0 => by
    show ({ cls := c, slots := Array.replicate N .null, vm := .none } : Cell) = _
    rw [arrV_new]
    refine congrArg (arrV c N) (funext fun j => ?_)
    simp [va_rf]
  | i + 1 => by
    show (Jvm.Free.Multi.outerC c N h0 i).setSlot i (.ref (h0 + 1 + i)) = _
    rw [vr_outer c N h0 i, arrV_store]
    refine congrArg (arrV c N) (funext fun j => ?_)
    by_cases e : j = i
    · subst e
      simp [updV, va_rf]
    · by_cases h : j < i
      · simp [updV, e, h, Nat.lt_succ_of_lt h]
      · simp [updV, e, h, show ¬ j < i + 1 by omega]
/-- many new cells of w slots each -/
theorem hv_tot_many {w : Nat} : ∀ (m : Nat) (H H1 : Heap), H1.size = H.size + m → (∀ q, q < H.size → H1[q]? = H[q]?) → (∀ j, j < m → ∃ c : Cell, H1[H.size + j]? = some c ∧ c.slots.size = w) → hv_tot H1 = hv_tot H + m * w
  | 0, H, H1, hz, ho, _ => by
    have e : H1 = H := by
      apply Array.ext_getElem?
      intro q
      by_cases h : q < H.size
      · exact ho q h
      · rw [Array.getElem?_eq_none (by omega), Array.getElem?_eq_none (by omega)]
    rw [e]; omega
  | m + 1, H, H1, hz, ho, hc => by
    obtain ⟨c, h1, h2⟩ := hc m (by omega)
    have hp : H1 = H1.pop.push c := by
      apply hv_push_of
      · rw [Array.size_pop, hz]; exact h1
      · rw [Array.size_pop]; omega
      · intro q hq
        rw [Array.size_pop] at hq
        rw [Array.getElem?_pop, if_pos hq]
    have ih := hv_tot_many (w := w) m H H1.pop (by rw [Array.size_pop, hz]; rfl) (fun q hq => by rw [Array.getElem?_pop, if_pos (by omega)]; exact ho q hq) (fun j hj => by
      obtain ⟨c', g1, g2⟩ := hc j (by omega)
      exact ⟨c', by rw [Array.getElem?_pop, if_pos (by omega)]; exact g1, g2⟩)
    rw [hp, hv_tot_push, ih, h2, Nat.succ_mul]
    omega
theorem hv_mna {p : Program} {l : Launch} {e : Env} {R : Room} {s : State} {m : MethodId} {args : Array Value} {below : List Frame} {meth : Method} {c : Code} {H : Heap} {locs : List Loc} {cells slots : Nat} {Q : State → Prop} {cc : ByteArray} {pc : Nat} {ls : Array Slot} {rest : List Value} {D : va_G} {tc : Nat → ClassId} {v : hv_V} {A : Nat → Prop} (hexec : p.tables.exec = Jvm.exec) (hb : c.code = cc) {own : String} {index : Nat} (hown : s.vm.findClass own = some m.cls) (hclink : (Cond.classLink own index "[[I").before args s = true) (harr : (Cond.arrayClass .int).before args s = true) (hK : hv_K D tc s) (hT : hv_St A s D tc v H locs)
    {n k : Int32} {N M : Nat} (hn : ¬ n < 0) (hk : ¬ k < 0) (hN : n.toNatClampNeg = N) (hM : k.toNatClampNeg = M) (hb1 : N * 4 ≤ 536870912) (hb2 : M * 4 ≤ 536870912) (hcells : cells + (1 + N) ≤ R.cells) (hslots : slots + (N + N * M) ≤ R.slots) (hdg : decode cc pc = .ok (.multianewarray index 2, 4))
    (kk : ∀ (H1 : Heap), hv_St A s D tc (hv_mn v N M) H1 locs → W p l e R s m args below meth c H1 locs (cells + 1 + N) (slots + N + N * M) Q (F0 m (pc + 4) ls (.ref (hv_n v) :: rest))) : W p l e R s m args below meth c H locs cells slots Q (F0 m pc ls (.int k :: .int n :: rest)) := by
  have es : ("[" ++ (FieldType.array .int).toString) = "[[I" := by decide
  have et : (FieldType.array .int).toString = "[" ++ (FieldType.int).toString := by decide
  subst hN
  subst hM
  intro T hTh Xs
  obtain ⟨vm₁, cA, comp, -, fA, fC, hO, -, X', step⟩ := Xs.multianewarray2F hexec (ty := .int) hown (by rw [es]; exact hclink) (hv_over (Vm.Alike.refl _) hK.2.2.2.2.2) harr (g := F0 m pc ls (.int k :: .int n :: rest)) rfl (by rw [hb]; exact hdg) rfl hn hk hb1 hb2 (by omega) rfl rfl hcells hslots
  have ecA : cA = tc 4 := Option.some.inj (fA.symm.trans (hK.1.2 4 _ rfl).2)
  have ecC : comp = tc 0 := by
    rw [et] at fC
    exact Option.some.inj (fC.symm.trans (hK.1.2 0 _ rfl).2)
  subst ecA
  subst ecC
  generalize hF : Jvm.Free.Multi.fill (T.setVm vm₁) (tc 4) (tc 0) n.toNatClampNeg k.toNatClampNeg (defaultValue .int) n.toNatClampNeg = F at X' step
  have hTh2 : (T.setVm vm₁).heap = H := hTh
  have hsz : H.size = hv_n v := hT.1.2.2.1
  obtain ⟨f1, f2, -, -⟩ := Jvm.Free.Multi.fill_facts (T.setVm vm₁) (tc 4) (tc 0) n.toNatClampNeg k.toNatClampNeg (defaultValue .int) n.toNatClampNeg
  rw [hF, hTh2] at f1 f2
  rw [vr_outer] at f2
  have hold : ∀ x : Nat, x < H.size → F.heap[x]? = H[x]? := fun x hx => by
    have := Jvm.Free.Multi.fill_old (T.setVm vm₁) (tc 4) (tc 0) n.toNatClampNeg k.toNatClampNeg (defaultValue .int) (a := x) (by rw [hTh2]; exact hx) n.toNatClampNeg
    rw [hF, hTh2] at this
    exact this
  have hrow : ∀ j : Nat, j < n.toNatClampNeg → F.heap[H.size + 1 + j]? = some (arrV (tc 0) k.toNatClampNeg (fun _ => .int 0)) := fun j hj => by
    have := Jvm.Free.Multi.fill_inner (T.setVm vm₁) (tc 4) (tc 0) n.toNatClampNeg k.toNatClampNeg (defaultValue .int) n.toNatClampNeg j hj
    rw [hF, hTh2] at this
    rw [this]
    show some ({ cls := tc 0, slots := Array.replicate k.toNatClampNeg (.int 0), vm := .none } : Cell) = _
    rw [arrV_new]
  have hout : (H.push (arrV (tc 4) n.toNatClampNeg (fun j => va_rf (if j < n.toNatClampNeg then some (H.size + 1 + j) else none)))).size = H.size + 1 := Array.size_push ..
  have htot : hv_tot F.heap = hv_t v + n.toNatClampNeg + n.toNatClampNeg * k.toNatClampNeg := by
    have h2 := hv_tot_many (w := k.toNatClampNeg) n.toNatClampNeg (H.push (arrV (tc 4) n.toNatClampNeg (fun j => va_rf (if j < n.toNatClampNeg then some (H.size + 1 + j) else none)))) F.heap (by rw [hout, f1]) (fun q hq => by
      rw [hout] at hq
      rw [Array.getElem?_push]
      by_cases hq2 : q = H.size
      · rw [if_pos hq2, hq2]; exact f2
      · rw [if_neg hq2]; exact hold q (by omega)) (fun j hj => ⟨_, by rw [hout]; exact hrow j hj, arrV_size ..⟩)
    rw [h2, hv_tot_push, arrV_size, hT.1.2.2.2]
  have hW : hv_W D tc (hv_mn v n.toNatClampNeg k.toNatClampNeg) F.heap := by
    refine ⟨fun a => ?_, fun a ha => ?_, by rw [f1, hsz]; rfl, htot⟩
    · by_cases e1 : a = hv_n v
      · subst e1
        refine ⟨fun ci g1 g2 => ?_, fun t q g1 g2 => ?_, fun t q g1 => ?_⟩
        · rw [hv_mn_k, if_pos rfl] at g1
          have := congrArg Prod.fst g1
          simp at this
          omega
        · rw [hv_mn_k, if_pos rfl] at g1
          have := congrArg Prod.fst g1
          simp at this
          omega
        · rw [hv_mn_k, if_pos rfl] at g1
          have q1 := congrArg Prod.fst g1
          have q2 := congrArg Prod.snd g1
          simp at q1 q2
          have q1 : t = 2 := by omega
          subst q1
          subst q2
          rw [← hsz, f2]
          congr 2
          funext j
          rw [hv_mn_q, if_pos hsz, hsz]
      · by_cases e2 : hv_n v < a ∧ a ≤ hv_n v + n.toNatClampNeg
        · have hk2 : hv_k (hv_mn v n.toNatClampNeg k.toNatClampNeg) a = (100, k.toNatClampNeg) := by rw [hv_mn_k, if_neg e1, if_pos e2]
          refine ⟨fun ci g1 g2 => ?_, fun t q g1 g2 => ?_, fun t q g1 => ?_⟩
          · rw [hk2] at g1
            have := congrArg Prod.fst g1
            simp at this
            omega
          · rw [hk2] at g1
            have q1 := congrArg Prod.fst g1
            have q2 := congrArg Prod.snd g1
            simp at q1 q2
            have q1 : t = 0 := by omega
            subst q1
            subst q2
            have h3 := hrow (a - hv_n v - 1) (by omega)
            rw [show H.size + 1 + (a - hv_n v - 1) = a by omega] at h3
            rw [h3]
            congr 2
            funext j
            rw [hv_mn_a, if_pos (by omega)]
          · rw [hk2] at g1
            have := congrArg Prod.fst g1
            simp at this
            omega
        · have hk2 : hv_k (hv_mn v n.toNatClampNeg k.toNatClampNeg) a = hv_k v a := by rw [hv_mn_k, if_neg e1, if_neg e2]
          by_cases h0 : (hv_k v a).1 = 0
          · exact hv_c_zero (by rw [hk2]; exact h0)
          · have hl := hT.1.2.1 a h0
            exact hv_c_kept (hT.1.1 a) (hold a (by omega)) hk2 (fun f => by rw [hv_mn_i, if_neg (by omega)]) (fun f => by rw [hv_mn_p, if_neg (by omega)]) (fun f => by rw [hv_mn_a, if_neg (by omega)]) (fun f => by rw [hv_mn_q, if_neg e1, if_neg (by omega)])
    · rw [hv_mn_n]
      by_cases e1 : a = hv_n v
      · omega
      · by_cases e2 : hv_n v < a ∧ a ≤ hv_n v + n.toNatClampNeg
        · omega
        · rw [hv_mn_k, if_neg e1, if_neg e2] at ha
          have := hT.1.2.1 a ha
          omega
  have hS := hT.2.2.1
  have hA1 : ∀ a : Nat, (hv_k (hv_mn v n.toNatClampNeg k.toNatClampNeg) a).1 ≠ 0 → A a := fun a ha => by
    by_cases e1 : hv_n v ≤ a
    · exact hT.2.2.2 a (by have := hS.1; omega)
    · rw [hv_mn_k, if_neg (by omega), if_neg (by omega)] at ha
      exact hT.2.1 a ha
  obtain ⟨t, a1, b1⟩ := kk F.heap ⟨hW, hA1, ⟨by rw [f1]; have := hS.1; omega, fun x h1 h2 => (hold x (Nat.lt_of_lt_of_le h1 hS.1)).trans (hS.2.1 x h1 h2), hS.2.2⟩, hT.2.2.2⟩ F rfl X'
  refine ⟨t, step t ?_, b1⟩
  have e0 : T.heap.size = hv_n v := by rw [hTh]; exact hsz
  rw [e0]
  exact a1
