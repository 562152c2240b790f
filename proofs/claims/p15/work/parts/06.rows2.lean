theorem hv_c_zero {D : va_G} {tc : Nat → ClassId} {v : hv_V} {H : Heap} {a : Nat} (h0 : (hv_k v a).1 = 0) : hv_c D tc v H a := by
  refine ⟨fun ci h1 h2 => ?_, fun t n h1 h2 => ?_, fun t n h1 => ?_⟩
  · rw [h1] at h0
    exact absurd h0 (Nat.succ_ne_zero ci)
  · rw [h1] at h0
    exact absurd h0 (by show ¬ (100 + t = 0); omega)
  · rw [h1] at h0
    exact absurd h0 (by show ¬ (102 + t = 0); omega)
theorem hv_nw_k (v : hv_V) (kd : Nat × Nat) (w a : Nat) : hv_k (hv_nw v kd w) a = if a = hv_n v then kd else hv_k v a := rfl
theorem hv_nw_i (v : hv_V) (kd : Nat × Nat) (w f a : Nat) : hv_i (hv_nw v kd w) f a = if a = hv_n v then 0 else hv_i v f a := rfl
theorem hv_nw_p (v : hv_V) (kd : Nat × Nat) (w f a : Nat) : hv_p (hv_nw v kd w) f a = if a = hv_n v then none else hv_p v f a := rfl
theorem hv_nw_a (v : hv_V) (kd : Nat × Nat) (w a j : Nat) : hv_a (hv_nw v kd w) a j = if a = hv_n v then 0 else hv_a v a j := rfl
theorem hv_nw_q (v : hv_V) (kd : Nat × Nat) (w a j : Nat) : hv_q (hv_nw v kd w) a j = if a = hv_n v then none else hv_q v a j := rfl
theorem hv_nw_n (v : hv_V) (kd : Nat × Nat) (w : Nat) : hv_n (hv_nw v kd w) = hv_n v + 1 := rfl
theorem hv_nw_t (v : hv_V) (kd : Nat × Nat) (w : Nat) : hv_t (hv_nw v kd w) = hv_t v + w := rfl
theorem hv_W_nw {D : va_G} {tc : Nat → ClassId} {v : hv_V} {H : Heap} {cell : Cell} {kd : Nat × Nat} {w : Nat} (hW : hv_W D tc v H) (hw : cell.slots.size = w) (hc : hv_c D tc (hv_nw v kd w) (H.push cell) (hv_n v)) : hv_W D tc (hv_nw v kd w) (H.push cell) := by
  have hn : H.size = hv_n v := hW.2.2.1
  refine ⟨fun a => ?_, fun a ha => ?_, by rw [Array.size_push, hn]; rfl, by rw [hv_tot_push, hw, hW.2.2.2]; rfl⟩
  · by_cases h : a = hv_n v
    · rw [h]; exact hc
    · by_cases h0 : (hv_k v a).1 = 0
      · exact hv_c_zero (by rw [hv_nw_k, if_neg h]; exact h0)
      · have hl := hW.2.1 a h0
        refine hv_c_kept (hW.1 a) ?_ (by rw [hv_nw_k, if_neg h]) (fun f => by rw [hv_nw_i, if_neg h]) (fun f => by rw [hv_nw_p, if_neg h]) (fun f => by rw [hv_nw_a, if_neg h]) (fun f => by rw [hv_nw_q, if_neg h])
        rw [Array.getElem?_push, if_neg (by rw [hn]; exact h)]
  · by_cases h : a = hv_n v
    · rw [h]; exact Nat.lt_succ_self _
    · rw [hv_nw_k, if_neg h] at ha
      exact Nat.lt_succ_of_lt (hW.2.1 a ha)
theorem hv_St_nw {A : Nat → Prop} {s : State} {D : va_G} {tc : Nat → ClassId} {v : hv_V} {H : Heap} {locs : List Loc} {cell : Cell} {kd : Nat × Nat} {w : Nat} (hT : hv_St A s D tc v H locs) (hw : cell.slots.size = w) (hc : hv_c D tc (hv_nw v kd w) (H.push cell) (hv_n v)) : hv_St A s D tc (hv_nw v kd w) (H.push cell) locs := by
  have hn : H.size = hv_n v := hT.1.2.2.1
  refine ⟨hv_W_nw hT.1 hw hc, fun a ha => ?_, ⟨?_, fun q h1 h2 => ?_, hT.2.2.1.2.2⟩, hT.2.2.2⟩
  · by_cases h : a = hv_n v
    · rw [h, ← hn]; exact hT.2.2.2 _ hT.2.2.1.1
    · rw [hv_nw_k, if_neg h] at ha
      exact hT.2.1 a ha
  · rw [Array.size_push]; exact Nat.le_succ_of_le hT.2.2.1.1
  · rw [Array.getElem?_push, if_neg (by have := hT.2.2.1.1; omega)]
    exact hT.2.2.1.2.1 q h1 h2
section HVN
variable {p : Program} {l : Launch} {e : Env} {R : Room} {s : State} {m : MethodId} {args : Array Value} {below : List Frame} {meth : Method} {c : Code} {H : Heap} {locs : List Loc} {cells slots : Nat} {Q : State → Prop}
variable {cc : ByteArray} {pc : Nat} {ls : Array Slot} {rest : List Value} {D : va_G} {tc : Nat → ClassId} {v : hv_V} {A : Nat → Prop} {a : Nat}
/-- new, of an object -/
theorem hv_new (hexec : p.tables.exec = Jvm.exec) (hb : c.code = cc) {own C : String} {T : u_T} {N ci index : Nat} {Ts : List Cond} (hts : ∀ w ∈ Ts, w.before args s = true) (hin : ∀ w ∈ u_ws C T N, w ∈ Ts) (ty : Nat → FieldType) (hty : ∀ k, k < N → parseFieldDescriptor (T k).2.2.1 = some (ty k)) (hown : s.vm.findClass own = some m.cls) (hcl : (Cond.classLink own index C).before args s = true) (hinst : (Cond.instantiable C N).before args s = true) (hini : (Cond.initialized C).before args s = true)
    (hK : hv_K D tc s) (hT : hv_St A s D tc v H locs) (h99 : ci < 99) (hc : vwCl[ci]? = some (C, T, N)) (hfs : ∀ j, j < N → defaultValue (ty j) = if hv_R ci j = true then .null else .int 0) (hcells : cells + 1 ≤ R.cells) (hslots : slots + N ≤ R.slots) (hdg : decode cc pc = .ok (.new index, 3))
    (kk : ∀ (H1 : Heap), hv_St A s D tc (hv_nw v (ci + 1, 0) N) H1 locs → W p l e R s m args below meth c H1 locs (cells + 1) (slots + N) Q (F0 m (pc + 3) ls (.ref (hv_n v) :: rest))) : W p l e R s m args below meth c H locs cells slots Q (F0 m pc ls rest) := by
  have hKn := hK.1.1 ci _ hc
  have hn : H.size = hv_n v := hT.1.2.2.1
  refine W.newc hexec hb hown hcl hinst hini rfl hdg hcells hslots fun cC kC h1 h2 h3 h4 => ?_
  have hcC : cC = D.1 ci := Option.some.inj (h1.symm.trans hKn.2.1)
  subst hcC
  have hcell : (H.push (blank (D.1 ci) kC))[hv_n v]? = some (blank (D.1 ci) kC) := by rw [← hn]; simp
  have hO := (u_born ty hts hin hKn h2 hcell hty).to hfs
  have hk := kk (H.push (blank (D.1 ci) kC)) (hv_St_nw hT (by simp [blank, h4]) ⟨fun ci' g1 g2 => ?_, fun t n g1 g2 => ?_, fun t n g1 => ?_⟩)
  · show W p l e R s m args below meth c (H.push (blank (D.1 ci) kC)) locs (cells + 1) (slots + N) Q (F0 m (pc + 3) ls (.ref H.size :: rest))
    rw [hn]
    exact hk
  · rw [hv_nw_k, if_pos rfl] at g1
    have e1 : ci = ci' := by have := congrArg Prod.fst g1; simp at this; omega
    subst e1
    exact ⟨_, hc, hO.to (fun k _ => by unfold hv_val; rw [hv_nw_p, hv_nw_i, if_pos rfl, if_pos rfl]; rfl)⟩
  · rw [hv_nw_k, if_pos rfl] at g1
    have := congrArg Prod.fst g1
    simp at this
    omega
  · rw [hv_nw_k, if_pos rfl] at g1
    have := congrArg Prod.fst g1
    simp at this
    omega
/-- newarray, of ints or booleans -/
theorem hv_newa (hexec : p.tables.exec = Jvm.exec) (hb : c.code = cc) {atype : ArrayType} {t : Nat} (ht2 : t < 2) {ty : FieldType} (hty : newarray.typeOf atype = ty) (htt : (hv_tys tc)[t]? = some (tc t, ty)) (hnr : ty = .int ∨ ty = .boolean) (harr : (Cond.arrayClass (newarray.typeOf atype)).before args s = true) (hK : hv_K D tc s) (hT : hv_St A s D tc v H locs) {n : Int32} {N : Nat} (hn : ¬ n < 0) (hN : n.toNatClampNeg = N) (hbytes : N * componentBytes ty ≤ 536870912) (hcells : cells + 1 ≤ R.cells) (hslots : slots + N ≤ R.slots) (hdg : decode cc pc = .ok (.newarray atype, 2))
    (kk : ∀ (H1 : Heap), hv_St A s D tc (hv_nw v (100 + t, N) N) H1 locs → W p l e R s m args below meth c H1 locs (cells + 1) (slots + N) Q (F0 m (pc + 2) ls (.ref (hv_n v) :: rest))) : W p l e R s m args below meth c H locs cells slots Q (F0 m pc ls (.int n :: rest)) := by
  have hsz : H.size = hv_n v := hT.1.2.2.1
  subst hty
  refine va_newaK hexec hb harr rfl hdg rfl hn hN hbytes hcells hslots hsz fun H1 cA e1 z1 o1 hAr hNm => ?_
  have hcA : cA = tc t := by
    have h := (hK.1.2 t _ htt).2
    rcases hnr with h0 | h0
    · rw [h0] at h hNm
      exact Option.some.inj (hNm.symm.trans h)
    · rw [h0] at h hNm
      exact Option.some.inj (hNm.symm.trans h)
  subst hcA
  have hdv : defaultValue (newarray.typeOf atype) = .int 0 := by rcases hnr with h0 | h0 <;> rw [h0] <;> rfl
  rw [hdv] at e1
  have hpu : H1 = H.push (arrV (tc t) N (fun _ => .int 0)) := hv_push_of (by rw [hsz]; exact e1) (by rw [hsz]; exact z1) (fun q hq => o1 q (by rw [← hsz]; exact hq))
  subst hpu
  refine kk _ (hv_St_nw hT (by rw [arrV_size]) ⟨fun ci' g1 g2 => ?_, fun t' n' g1 g2 => ?_, fun t' n' g1 => ?_⟩)
  · rw [hv_nw_k, if_pos rfl] at g1
    have := congrArg Prod.fst g1
    simp at this
    omega
  · rw [hv_nw_k, if_pos rfl] at g1
    have e2 := congrArg Prod.fst g1
    have e3 := congrArg Prod.snd g1
    simp at e2 e3
    have e2 : t = t' := by omega
    subst e2
    subst e3
    rw [e1]
    congr 2
    funext j
    rw [hv_nw_a, if_pos rfl]
  · rw [hv_nw_k, if_pos rfl] at g1
    have := congrArg Prod.fst g1
    simp at this
    omega
/-- anewarray -/
theorem hv_newq (hexec : p.tables.exec = Jvm.exec) (hb : c.code = cc) {own C : String} {index t : Nat} (hown : s.vm.findClass own = some m.cls) (hclink : (Cond.classLink own index C).before args s = true) (hover : (Cond.arrayOver (.object C)).before args s = true) (htt : (hv_tys tc)[2 + t]? = some (tc (2 + t), .object C)) (hK : hv_K D tc s) (hT : hv_St A s D tc v H locs) {n : Int32} {N : Nat} (hn : ¬ n < 0) (hN : n.toNatClampNeg = N) (hbytes : N * 4 ≤ 536870912) (hcells : cells + 1 ≤ R.cells) (hslots : slots + N ≤ R.slots) (hdg : decode cc pc = .ok (.anewarray index, 3))
    (kk : ∀ (H1 : Heap), hv_St A s D tc (hv_nw v (102 + t, N) N) H1 locs → W p l e R s m args below meth c H1 locs (cells + 1) (slots + N) Q (F0 m (pc + 3) ls (.ref (hv_n v) :: rest))) : W p l e R s m args below meth c H locs cells slots Q (F0 m pc ls (.int n :: rest)) := by
  have hsz : H.size = hv_n v := hT.1.2.2.1
  subst hN
  refine W.anew hexec hb hown hclink hover rfl hdg rfl hn hbytes hcells hslots fun cA kA comp f1 f2 f3 f4 => ?_
  have hcA : cA = tc (2 + t) := by
    obtain ⟨_, _, _, _, _, h⟩ := (hK.1.2 (2 + t) _ htt).2
    exact Option.some.inj (f1.symm.trans h)
  subst hcA
  have hk := kk (H.push ({ cls := tc (2 + t), slots := Array.replicate n.toNatClampNeg .null, vm := .none } : Cell)) (hv_St_nw hT (by simp) ⟨fun ci' g1 g2 => ?_, fun t' n' g1 g2 => ?_, fun t' n' g1 => ?_⟩)
  · show W p l e R s m args below meth c _ locs (cells + 1) (slots + n.toNatClampNeg) Q (F0 m (pc + 3) ls (.ref H.size :: rest))
    rw [hsz]
    exact hk
  · rw [hv_nw_k, if_pos rfl] at g1
    have := congrArg Prod.fst g1
    simp at this
    omega
  · rw [hv_nw_k, if_pos rfl] at g1
    have := congrArg Prod.fst g1
    simp at this
    omega
  · rw [hv_nw_k, if_pos rfl] at g1
    have e2 := congrArg Prod.fst g1
    have e3 := congrArg Prod.snd g1
    simp at e2 e3
    subst e2
    subst e3
    rw [← hsz, Array.getElem?_push_size, arrV_new]
    congr 2
    funext j
    rw [hv_nw_q, hsz, if_pos rfl]
    rfl
/-- the room that was really used -/
theorem hv_tight {c1 n1 : Nat} {g : JFrame} (h1 : H.size ≤ s.heap.size + c1) (h2 : hv_tot H ≤ hv_tot s.heap + n1) (kk : W p l e R s m args below meth c H locs c1 n1 Q g) : W p l e R s m args below meth c H locs cells slots Q g := by
  intro T hT X
  subst hT
  refine kk T rfl { X with same := ?_ }
  obtain ⟨a1, a2, a3, a4, a5, a6⟩ := X.same
  have hb : T.slotsTrue = true := X.book
  have h0 : s.slotsTrue = true := by
    have h := X.room
    simp only [State.hasRoom, Bool.and_eq_true] at h
    exact h.2
  have e1 : T.slotsUsed = hv_tot T.heap := by simpa [State.slotsTrue, hv_tot] using hb
  have e0 : s.slotsUsed = hv_tot s.heap := by simpa [State.slotsTrue, hv_tot] using h0
  refine ⟨a1, a2, h1, a4, ?_, a6⟩
  have a4' : T.slotsUsed = s.slotsUsed + (((T.setVm s.vm).heap.toList.drop s.heap.size).map (·.slots.size)).sum := a4
  omega
end HVN
/-! calls and returns -/
theorem hv_blind {av : List Value} {D : va_G} {tc : Nat → ClassId} {v : hv_V} : FrameBlind (va_Pc av (hv_Pre D tc v)) := fun a U g mk q => ⟨q.1, hv_K.same (s := U) (U := U.calling g mk a) rfl q.2.1, q.2.2⟩
theorem hv_preS {s : State} {H : Heap} {As : List Value} {D : va_G} {tc : Nat → ClassId} {v : hv_V} (hK : hv_K D tc s) (hW : hv_W D tc v H) : PreS s H (va_Pc As (hv_Pre D tc v)) As := ⟨hv_blind, fun U hU hWm => ⟨rfl, hv_K.warm hWm hK, by rw [hU]; exact hW⟩⟩
theorem hv_preV {s : State} {H : Heap} {C : String} {b ci : Nat} {r : vw_C} {As : List Value} {D : va_G} {tc : Nat → ClassId} {v : hv_V} (hK : hv_K D tc s) (hW : hv_W D tc v H) (hk : hv_k v b = (ci + 1, 0)) (h99 : ci < 99) (hc : vwCl[ci]? = some r) (hC : r.1 = C) : PreV s H C b (va_Pc (.ref b :: As) (hv_Pre D tc v)) As := by
  subst hC
  refine ⟨hv_blind, ?_, fun U hU hWm => ⟨rfl, hv_K.warm hWm hK, by rw [hU]; exact hW⟩⟩
  obtain ⟨r', h1, cell, g1, g2, g3, -⟩ := (hW.1 b).1 ci hk h99
  exact ⟨cell, g1, by rw [g3]; rfl, by rw [g2]; exact (hK.1.1 ci r hc).2.1⟩
theorem hv_sub {A : Nat → Prop} {s : State} {D : va_G} {tc : Nat → ClassId} {v : hv_V} {H : Heap} {locs : List Loc} (hT : hv_St A s D tc v H locs) : ∀ q, hv_A v q → A q := by
  intro q h
  rcases h with h | h
  · exact hT.2.1 q h
  · refine hT.2.2.2 q (Nat.le_trans ?_ h)
    rw [← hT.1.2.2.1]
    exact hT.2.2.1.1
section HVC
variable {p : Program} {l : Launch} {e : Env} {R : Room} {s : State} {m : MethodId} {args : Array Value} {below : List Frame} {meth : Method} {c : Code} {H : Heap} {locs : List Loc} {cells slots : Nat} {Q : State → Prop}
variable {cc : ByteArray} {pc : Nat} {ls : Array Slot} {rest st0 : List Value} {D : va_G} {tc : Nat → ClassId} {v v0 : hv_V} {A : Nat → Prop} {a : Array Value} {mc ms : Nat}
theorem hv_calli {post : Int32 → hv_V → Prop} (hr : va_Run p l e R s m args below meth c H locs cells slots mc ms (F0 m pc ls st0) rest (va_Qi post (hv_Post D tc (hv_A v)) (hv_A v) a) (hv_A v)) (hT : hv_St A s D tc v H locs)
    (kk : ∀ (r : Int32) (v1 : hv_V) (H1 : Heap) (locs1 : List Loc), post r v1 → hv_St A s D tc v1 H1 locs1 → W p l e R s m args below meth c H1 locs1 (cells + mc) (slots + ms) Q (F0 m (pc + 3) ls (.int r :: rest))) : W p l e R s m args below meth c H locs cells slots Q (F0 m pc ls st0) := by
  refine va_calli hr hT.2.2.1 (fun q _ h => hv_sub hT q h) (hv_sub hT) fun r u t H1 locs1 ht hvm hp hB hz hk hS => ?_
  exact kk r u H1 locs1 hp ⟨by rw [← ht]; exact hB.2.1, fun b hb => hv_sub hT b (hB.2.2 b hb), hS, hT.2.2.2⟩
theorem hv_callv {post : hv_V → Prop} (hr : va_Run p l e R s m args below meth c H locs cells slots mc ms (F0 m pc ls st0) rest (va_Qv post (hv_Post D tc (hv_A v)) (hv_A v) a) (hv_A v)) (hT : hv_St A s D tc v H locs)
    (kk : ∀ (v1 : hv_V) (H1 : Heap) (locs1 : List Loc), post v1 → hv_St A s D tc v1 H1 locs1 → W p l e R s m args below meth c H1 locs1 (cells + mc) (slots + ms) Q (F0 m (pc + 3) ls rest)) : W p l e R s m args below meth c H locs cells slots Q (F0 m pc ls st0) := by
  refine va_callv hr hT.2.2.1 (fun q _ h => hv_sub hT q h) (hv_sub hT) fun u t H1 locs1 ht hvm hp hB hz hk hS => ?_
  exact kk u H1 locs1 hp ⟨by rw [← ht]; exact hB.2.1, fun b hb => hv_sub hT b (hB.2.2 b hb), hS, hT.2.2.2⟩
theorem hv_callq {post : Option Nat → hv_V → Prop} (hr : va_Run p l e R s m args below meth c H locs cells slots mc ms (F0 m pc ls st0) rest (va_Qq post (hv_Post D tc (hv_A v)) (hv_A v) a) (hv_A v)) (hT : hv_St A s D tc v H locs)
    (kk : ∀ (r : Option Nat) (v1 : hv_V) (H1 : Heap) (locs1 : List Loc), post r v1 → hv_St A s D tc v1 H1 locs1 → W p l e R s m args below meth c H1 locs1 (cells + mc) (slots + ms) Q (F0 m (pc + 3) ls (va_rf r :: rest))) : W p l e R s m args below meth c H locs cells slots Q (F0 m pc ls st0) := by
  refine va_callq hr hT.2.2.1 (fun q _ h => hv_sub hT q h) (hv_sub hT) fun r u t H1 locs1 ht hvm hp hB hz hk hS => ?_
  exact kk r u H1 locs1 hp ⟨by rw [← ht]; exact hB.2.1, fun b hb => hv_sub hT b (hB.2.2 b hb), hS, hT.2.2.2⟩
theorem hv_iret {post : Int32 → hv_V → Prop} {ty : FieldType} (hexec : p.tables.exec = Jvm.exec) (hb : c.code = cc) (hr : meth.sig.returnType = some ty) {x : Int32} (hn : narrow ty (.int x) = .int x) (hlocks : meth.locks = false) (hK : hv_K D tc s) (hT : hv_St (hv_A v0) s D tc v H locs) (hp : post x v) (hdg : decode cc pc = .ok (.ireturn, 1)) : W p l e R s m args below meth c H locs cells slots (MQ below (va_Qi post (hv_Post D tc (hv_A v0)) (hv_A v0)) args s cells slots (hv_A v0)) (F0 m pc ls [.int x]) :=
  W.zret hexec hb hr hn (fun t ht hW => ⟨⟨x, v, rfl, hp, hv_K.warm hW hK, by rw [ht]; exact hT.1, hT.2.1⟩, hT.2.2.1.F ht⟩) hT.2.2.1.2.2 hdg hlocks
theorem hv_vret {post : hv_V → Prop} (hexec : p.tables.exec = Jvm.exec) (hb : c.code = cc) (hr : meth.sig.returnType = none) (hlocks : meth.locks = false) (hK : hv_K D tc s) (hT : hv_St (hv_A v0) s D tc v H locs) (hp : post v) (hdg : decode cc pc = .ok (.return_, 1)) : W p l e R s m args below meth c H locs cells slots (MQ below (va_Qv post (hv_Post D tc (hv_A v0)) (hv_A v0)) args s cells slots (hv_A v0)) (F0 m pc ls []) :=
  W.vret hexec hb hr (fun t ht hW => ⟨⟨v, rfl, hp, hv_K.warm hW hK, by rw [ht]; exact hT.1, hT.2.1⟩, hT.2.2.1.F ht⟩) hT.2.2.1.2.2 hdg hlocks
theorem hv_qret {post : Option Nat → hv_V → Prop} {n : String} (hexec : p.tables.exec = Jvm.exec) (hb : c.code = cc) (hr : meth.sig.returnType = some (.object n)) {y : Value} (x : Option Nat) (hy : y = va_rf x) (hlocks : meth.locks = false) (hK : hv_K D tc s) (hT : hv_St (hv_A v0) s D tc v H locs) (hp : post x v) (hdg : decode cc pc = .ok (.areturn, 1)) : W p l e R s m args below meth c H locs cells slots (MQ below (va_Qq post (hv_Post D tc (hv_A v0)) (hv_A v0)) args s cells slots (hv_A v0)) (F0 m pc ls [y]) := by
  subst hy
  exact W.aret hexec hb hr (Or.inl ⟨n, rfl⟩) (va_rf_or x) (fun t ht hW => ⟨⟨x, v, rfl, hp, hv_K.warm hW hK, by rw [ht]; exact hT.1, hT.2.1⟩, hT.2.2.1.F ht⟩) hT.2.2.1.2.2 hdg hlocks
end HVC
/-- a method's start -/
theorem hv_start {D : va_G} {tc : Nat → ClassId} {v : hv_V} {s : State} (hW : hv_W D tc v s.heap) : hv_St (hv_A v) s D tc v s.heap [] := ⟨hW, fun _ h => Or.inl h, va_S.rf, fun q h => Or.inr (by rw [← hW.2.2.1]; exact h)⟩
