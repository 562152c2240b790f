/-- what a walk knows of its method -/
def hv_Cx (p : Program) (s : State) (m : MethodId) (args : Array Value) (meth : Method) (c : Code) (y : MethodName) (cc : ByteArray) (maxL : Nat) (ret : Option FieldType) : Prop :=
  p.tables.exec = Jvm.exec ∧ c.code = cc ∧ c.maxLocals = maxL ∧ (∀ w ∈ (Cond.code y cc maxL ret :: lw_B), w.before args s = true) ∧ s.vm.findClass y.cls = some m.cls ∧ meth.name = y.name
theorem hv_meti (l : Launch) {y : MethodName} {cc : ByteArray} {maxL : Nat} {ret : FieldType} {rm : Room} {mc ms : Nat} {D : va_G} {tc : Nat → ClassId} {v0 : hv_V} {av : List Value} {post : Int32 → hv_V → Prop} (hy : plainName y.cls = true) (hlen : (lg_sl av).length ≤ maxL)
    (body : ∀ (p : Program) (e : Env) (s : State) (m : MethodId) (args : Array Value) (below : List Frame) (meth : Method) (c : Code) (Q : State → Prop), hv_Cx p s m args meth c y cc maxL (some ret) →
      (∀ (pc : Nat) (x : Int32) (v : hv_V) (H : Heap) (locs : List Loc) (cells slots : Nat) (ls : Array Slot), decode cc pc = .ok (.ireturn, 1) → narrow ret (.int x) = .int x → hv_St (hv_A v0) s D tc v H locs → post x v → cells ≤ mc → slots ≤ ms → W p l e rm s m args below meth c H locs cells slots Q (F0 m pc ls [.int x])) →
      hv_K D tc s → (s.heap.size = hv_n v0 ∧ hv_tot s.heap = hv_t v0) → ∀ (H : Heap) (locs : List Loc) (ls : Array Slot), hv_St (hv_A v0) s D tc v0 H locs → lv_has ls maxL (lv_args 0 av) → W p l e rm s m args below meth c H locs 0 0 Q (F0 m 0 ls [])) :
    Met l y (Cond.code y cc maxL (some ret) :: lw_B) rm (va_Pc av (hv_Pre D tc v0)) (va_Qi post (hv_Post D tc (hv_A v0)) (hv_A v0)) mc ms (hv_A v0) := by
  refine Met.ofW (cc := cc) (maxL := maxL) (ret := some ret) hy rfl ?_
  intro p e s m args below meth c s₁ B hml hv
  obtain ⟨hargs, hK, hW⟩ := hv
  have hl := lv_entry av hlen
  have e1 : entryFrame m args maxL = F0 m 0 ((lg_sl av ++ List.replicate (maxL - (lg_sl av).length) Slot.unset).toArray) [] := by rw [hargs]; exact lg_entry_eq ..
  rw [e1]
  exact body p e s m args below meth c _ ⟨B.exec, B.bytes, hml, atoms_spec (ws := Cond.code y cc maxL (some ret) :: lw_B) B.pre, findClass_of_methodNamed B.named, (name_of_methodNamed B.named B.method).1⟩
    (fun pc x v H locs cells slots ls hd hn hT hp h1 h2 => W.widen h1 h2 (hv_iret B.exec B.bytes B.returns hn B.notSynchronized hK hT hp hd)) hK hW.2.2 s.heap [] _ (hv_start hW) hl
theorem hv_metv (l : Launch) {y : MethodName} {cc : ByteArray} {maxL : Nat} {rm : Room} {mc ms : Nat} {D : va_G} {tc : Nat → ClassId} {v0 : hv_V} {av : List Value} {post : hv_V → Prop} (hy : plainName y.cls = true) (hlen : (lg_sl av).length ≤ maxL)
    (body : ∀ (p : Program) (e : Env) (s : State) (m : MethodId) (args : Array Value) (below : List Frame) (meth : Method) (c : Code) (Q : State → Prop), hv_Cx p s m args meth c y cc maxL none →
      (∀ (pc : Nat) (v : hv_V) (H : Heap) (locs : List Loc) (cells slots : Nat) (ls : Array Slot), decode cc pc = .ok (.return_, 1) → hv_St (hv_A v0) s D tc v H locs → post v → cells ≤ mc → slots ≤ ms → W p l e rm s m args below meth c H locs cells slots Q (F0 m pc ls [])) →
      hv_K D tc s → (s.heap.size = hv_n v0 ∧ hv_tot s.heap = hv_t v0) → ∀ (H : Heap) (locs : List Loc) (ls : Array Slot), hv_St (hv_A v0) s D tc v0 H locs → lv_has ls maxL (lv_args 0 av) → W p l e rm s m args below meth c H locs 0 0 Q (F0 m 0 ls [])) :
    Met l y (Cond.code y cc maxL none :: lw_B) rm (va_Pc av (hv_Pre D tc v0)) (va_Qv post (hv_Post D tc (hv_A v0)) (hv_A v0)) mc ms (hv_A v0) := by
  refine Met.ofW (cc := cc) (maxL := maxL) (ret := none) hy rfl ?_
  intro p e s m args below meth c s₁ B hml hv
  obtain ⟨hargs, hK, hW⟩ := hv
  have hl := lv_entry av hlen
  have e1 : entryFrame m args maxL = F0 m 0 ((lg_sl av ++ List.replicate (maxL - (lg_sl av).length) Slot.unset).toArray) [] := by rw [hargs]; exact lg_entry_eq ..
  rw [e1]
  exact body p e s m args below meth c _ ⟨B.exec, B.bytes, hml, atoms_spec (ws := Cond.code y cc maxL none :: lw_B) B.pre, findClass_of_methodNamed B.named, (name_of_methodNamed B.named B.method).1⟩
    (fun pc v H locs cells slots ls hd hT hp h1 h2 => W.widen h1 h2 (hv_vret B.exec B.bytes B.returns B.notSynchronized hK hT hp hd)) hK hW.2.2 s.heap [] _ (hv_start hW) hl
theorem hv_metq (l : Launch) {y : MethodName} {cc : ByteArray} {maxL : Nat} {nm : String} {rm : Room} {mc ms : Nat} {D : va_G} {tc : Nat → ClassId} {v0 : hv_V} {av : List Value} {post : Option Nat → hv_V → Prop} (hy : plainName y.cls = true) (hlen : (lg_sl av).length ≤ maxL)
    (body : ∀ (p : Program) (e : Env) (s : State) (m : MethodId) (args : Array Value) (below : List Frame) (meth : Method) (c : Code) (Q : State → Prop), hv_Cx p s m args meth c y cc maxL (some (.object nm)) →
      (∀ (pc : Nat) (y : Value) (x : Option Nat) (v : hv_V) (H : Heap) (locs : List Loc) (cells slots : Nat) (ls : Array Slot), decode cc pc = .ok (.areturn, 1) → y = va_rf x → hv_St (hv_A v0) s D tc v H locs → post x v → cells ≤ mc → slots ≤ ms → W p l e rm s m args below meth c H locs cells slots Q (F0 m pc ls [y])) →
      hv_K D tc s → (s.heap.size = hv_n v0 ∧ hv_tot s.heap = hv_t v0) → ∀ (H : Heap) (locs : List Loc) (ls : Array Slot), hv_St (hv_A v0) s D tc v0 H locs → lv_has ls maxL (lv_args 0 av) → W p l e rm s m args below meth c H locs 0 0 Q (F0 m 0 ls [])) :
    Met l y (Cond.code y cc maxL (some (.object nm)) :: lw_B) rm (va_Pc av (hv_Pre D tc v0)) (va_Qq post (hv_Post D tc (hv_A v0)) (hv_A v0)) mc ms (hv_A v0) := by
  refine Met.ofW (cc := cc) (maxL := maxL) (ret := some (.object nm)) hy rfl ?_
  intro p e s m args below meth c s₁ B hml hv
  obtain ⟨hargs, hK, hW⟩ := hv
  have hl := lv_entry av hlen
  have e1 : entryFrame m args maxL = F0 m 0 ((lg_sl av ++ List.replicate (maxL - (lg_sl av).length) Slot.unset).toArray) [] := by rw [hargs]; exact lg_entry_eq ..
  rw [e1]
  exact body p e s m args below meth c _ ⟨B.exec, B.bytes, hml, atoms_spec (ws := Cond.code y cc maxL (some (.object nm)) :: lw_B) B.pre, findClass_of_methodNamed B.named, (name_of_methodNamed B.named B.method).1⟩
    (fun pc y x v H locs cells slots ls hd hy hT hp h1 h2 => W.widen h1 h2 (hv_qret B.exec B.bytes B.returns x hy B.notSynchronized hK hT hp hd)) hK hW.2.2 s.heap [] _ (hv_start hW) hl
/-- a reference field that is known -/
theorem hv_gets {p : Program} {l : Launch} {e : Env} {R : Room} {s : State} {m : MethodId} {args : Array Value} {below : List Frame} {meth : Method} {c : Code} {H : Heap} {locs : List Loc} {cells slots : Nat} {Q : State → Prop} {cc : ByteArray} {pc : Nat} {ls : Array Slot} {rest : List Value} {D : va_G} {tc : Nat → ClassId} {v : hv_V} {A : Nat → Prop} {a : Nat} (hexec : p.tables.exec = Jvm.exec) (hb : c.code = cc) {own C : String} {T : u_T} {N ci index : Nat} {Ts : List Cond} (hts : ∀ w ∈ Ts, w.before args s = true) (hin : ∀ w ∈ u_ws C T N, w ∈ Ts) (hown : s.vm.findClass own = some m.cls) (hK : hv_K D tc s) (hT : hv_St A s D tc v H locs) (hk : hv_k v a = (ci + 1, 0)) (h99 : ci < 99) (hc : vwCl[ci]? = some (C, T, N)) (k : Nat) (hkN : k < N) (hlink : (Cond.fieldLink own index (T k).1 (T k).2.1 (T k).2.2.1).before args s = true) (hR : hv_R ci k = true) {x : Nat} (hx : hv_p v (100 * ci + k) a = some x) (hdg : decode cc pc = .ok (.getfield index, 3))
    (kk : W p l e R s m args below meth c H locs cells slots Q (F0 m (pc + 3) ls (.ref x :: rest))) : W p l e R s m args below meth c H locs cells slots Q (F0 m pc ls (.ref a :: rest)) := hv_getr hexec hb hts hin hown hK hT hk h99 hc k hkN hlink hR hx hdg kk
theorem hv_alds {p : Program} {l : Launch} {e : Env} {R : Room} {s : State} {m : MethodId} {args : Array Value} {below : List Frame} {meth : Method} {c : Code} {H : Heap} {locs : List Loc} {cells slots : Nat} {Q : State → Prop} {cc : ByteArray} {pc : Nat} {ls : Array Slot} {rest : List Value} {D : va_G} {tc : Nat → ClassId} {v : hv_V} {A : Nat → Prop} {a : Nat} (hexec : p.tables.exec = Jvm.exec) (hb : c.code = cc) (hK : hv_K D tc s) (hT : hv_St A s D tc v H locs) {n t : Nat} (hk : hv_k v a = (102 + t, n)) {ty : FieldType} (hty : (hv_tys tc)[2 + t]? = some (tc (2 + t), ty)) (hr : ty.isReference = true) {i : Int32} (hin : vp_in i n) {x : Nat} (hx : hv_q v a i.toNatClampNeg = some x) (hdg : decode cc pc = .ok (.aaload, 1))
    (kk : W p l e R s m args below meth c H locs cells slots Q (F0 m (pc + 1) ls (.ref x :: rest))) : W p l e R s m args below meth c H locs cells slots Q (F0 m pc ls (.int i :: .ref a :: rest)) := hv_aald hexec hb hK hT hk hty hr hin hx hdg kk
/-- a reference field that is null -/
theorem hv_getn {p : Program} {l : Launch} {e : Env} {R : Room} {s : State} {m : MethodId} {args : Array Value} {below : List Frame} {meth : Method} {c : Code} {H : Heap} {locs : List Loc} {cells slots : Nat} {Q : State → Prop} {cc : ByteArray} {pc : Nat} {ls : Array Slot} {rest : List Value} {D : va_G} {tc : Nat → ClassId} {v : hv_V} {A : Nat → Prop} {a : Nat} (hexec : p.tables.exec = Jvm.exec) (hb : c.code = cc) {own C : String} {T : u_T} {N ci index : Nat} {Ts : List Cond} (hts : ∀ w ∈ Ts, w.before args s = true) (hin : ∀ w ∈ u_ws C T N, w ∈ Ts) (hown : s.vm.findClass own = some m.cls) (hK : hv_K D tc s) (hT : hv_St A s D tc v H locs) (hk : hv_k v a = (ci + 1, 0)) (h99 : ci < 99) (hc : vwCl[ci]? = some (C, T, N)) (k : Nat) (hkN : k < N) (hlink : (Cond.fieldLink own index (T k).1 (T k).2.1 (T k).2.2.1).before args s = true) (hR : hv_R ci k = true) (hx : hv_p v (100 * ci + k) a = none) (hdg : decode cc pc = .ok (.getfield index, 3))
    (kk : W p l e R s m args below meth c H locs cells slots Q (F0 m (pc + 3) ls (.null :: rest))) : W p l e R s m args below meth c H locs cells slots Q (F0 m pc ls (.ref a :: rest)) := hv_getr hexec hb hts hin hown hK hT hk h99 hc k hkN hlink hR hx hdg kk
theorem hv_aldn {p : Program} {l : Launch} {e : Env} {R : Room} {s : State} {m : MethodId} {args : Array Value} {below : List Frame} {meth : Method} {c : Code} {H : Heap} {locs : List Loc} {cells slots : Nat} {Q : State → Prop} {cc : ByteArray} {pc : Nat} {ls : Array Slot} {rest : List Value} {D : va_G} {tc : Nat → ClassId} {v : hv_V} {A : Nat → Prop} {a : Nat} (hexec : p.tables.exec = Jvm.exec) (hb : c.code = cc) (hK : hv_K D tc s) (hT : hv_St A s D tc v H locs) {n t : Nat} (hk : hv_k v a = (102 + t, n)) {ty : FieldType} (hty : (hv_tys tc)[2 + t]? = some (tc (2 + t), ty)) (hr : ty.isReference = true) {i : Int32} (hin : vp_in i n) (hx : hv_q v a i.toNatClampNeg = none) (hdg : decode cc pc = .ok (.aaload, 1))
    (kk : W p l e R s m args below meth c H locs cells slots Q (F0 m (pc + 1) ls (.null :: rest))) : W p l e R s m args below meth c H locs cells slots Q (F0 m pc ls (.int i :: .ref a :: rest)) := hv_aald hexec hb hK hT hk hty hr hin hx hdg kk
/-- the same field rows by a method's words: its code ahead of lw_B -/
theorem tw_c {c0 w : Cond} (h : w ∈ lw_B) : w ∈ c0 :: lw_B := List.mem_cons_of_mem _ h
theorem tw_cs {c0 : Cond} {ws : List Cond} (h : ∀ w ∈ ws, w ∈ lw_B) : ∀ w ∈ ws, w ∈ c0 :: lw_B := fun w hw => List.mem_cons_of_mem _ (h w hw)
