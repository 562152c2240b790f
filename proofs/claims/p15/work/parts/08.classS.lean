theorem hv_nrf {n : String} (x : Option Nat) : narrow (.object n) (va_rf x) = va_rf x := by cases x <;> rfl
theorem hv_frf {n : String} (x : Option Nat) : fits (.object n) (va_rf x) = true := by cases x <;> rfl
theorem hv_as {p : Program} {l : Launch} {e : Env} {R : Room} {s : State} {m : MethodId} {args : Array Value} {below : List Frame} {meth : Method} {c : Code} {H : Heap} {locs : List Loc} {cells slots : Nat} {Q : State → Prop} {pc : Nat} {ls : Array Slot} {rest : List Value} {x y : Int32} (h : x = y) (k : W p l e R s m args below meth c H locs cells slots Q (F0 m pc ls (.int y :: rest))) : W p l e R s m args below meth c H locs cells slots Q (F0 m pc ls (.int x :: rest)) := by rw [h]; exact k
theorem hd_X0 : ∀ j, j < 8 → defaultValue (tyX0 j) = if hv_R 0 j = true then .null else .int 0 := by decide +kernel
theorem hd_X1 : ∀ j, j < 9 → defaultValue (tyX1 j) = if hv_R 1 j = true then .null else .int 0 := by decide +kernel
theorem hd_X2 : ∀ j, j < 10 → defaultValue (tyX2 j) = if hv_R 2 j = true then .null else .int 0 := by decide +kernel
theorem hd_X3 : ∀ j, j < 12 → defaultValue (tyX3 j) = if hv_R 3 j = true then .null else .int 0 := by decide +kernel
theorem hd_X4 : ∀ j, j < 34 → defaultValue (tyX4 j) = if hv_R 4 j = true then .null else .int 0 := by decide +kernel
/-- the class's places: 0 the object, 1 sites, 2 network, 3 latestEvent, 4 delays, 5 heads, 6 tails, 8 + i a row of delays, 16 + i a site, 24 + i its states -/
def cs_live (n i : Nat) : Prop := (i < 16 ∧ i ≠ 7) ∨ (16 ≤ i ∧ i < 16 + n) ∨ (24 ≤ i ∧ i < 24 + n)
def cs_S (fa : Nat → Nat) (n : Nat) (v : hv_V) : Prop :=
  n ≤ 8 ∧ hv_k v (fa 0) = (4, 0) ∧ hv_k v (fa 1) = (102, 8) ∧ hv_k v (fa 2) = (2, 0) ∧ hv_k v (fa 3) = (100, 5) ∧ hv_k v (fa 4) = (104, 8) ∧ hv_k v (fa 5) = (103, 32) ∧ hv_k v (fa 6) = (103, 32) ∧
  hv_p v 300 (fa 0) = some (fa 1) ∧ hv_p v 301 (fa 0) = some (fa 2) ∧ hv_p v 302 (fa 0) = some (fa 3) ∧ hv_p v 100 (fa 2) = some (fa 4) ∧ hv_p v 101 (fa 2) = some (fa 5) ∧ hv_p v 102 (fa 2) = some (fa 6) ∧
  (∀ i, i < 8 → hv_q v (fa 4) i = some (fa (8 + i)) ∧ hv_k v (fa (8 + i)) = (100, 8)) ∧
  (∀ i, i < n → hv_q v (fa 1) i = some (fa (16 + i)) ∧ hv_k v (fa (16 + i)) = (3, 0) ∧ hv_p v 201 (fa (16 + i)) = some (fa (24 + i)) ∧ hv_k v (fa (24 + i)) = (100, 8)) ∧
  ∀ i j, cs_live n i → cs_live n j → fa i = fa j → i = j
section CSS
variable {fa : Nat → Nat} {n : Nat} {v : hv_V}
theorem cs_n8 (h : cs_S fa n v) : n ≤ 8 := h.1
theorem cs_kX (h : cs_S fa n v) : hv_k v (fa 0) = (4, 0) := h.2.1
theorem cs_kS (h : cs_S fa n v) : hv_k v (fa 1) = (102, 8) := h.2.2.1
theorem cs_kN (h : cs_S fa n v) : hv_k v (fa 2) = (2, 0) := h.2.2.2.1
theorem cs_kL (h : cs_S fa n v) : hv_k v (fa 3) = (100, 5) := h.2.2.2.2.1
theorem cs_kD (h : cs_S fa n v) : hv_k v (fa 4) = (104, 8) := h.2.2.2.2.2.1
theorem cs_kH (h : cs_S fa n v) : hv_k v (fa 5) = (103, 32) := h.2.2.2.2.2.2.1
theorem cs_kT (h : cs_S fa n v) : hv_k v (fa 6) = (103, 32) := h.2.2.2.2.2.2.2.1
theorem cs_pS (h : cs_S fa n v) : hv_p v 300 (fa 0) = some (fa 1) := h.2.2.2.2.2.2.2.2.1
theorem cs_pN (h : cs_S fa n v) : hv_p v 301 (fa 0) = some (fa 2) := h.2.2.2.2.2.2.2.2.2.1
theorem cs_pL (h : cs_S fa n v) : hv_p v 302 (fa 0) = some (fa 3) := h.2.2.2.2.2.2.2.2.2.2.1
theorem cs_pD (h : cs_S fa n v) : hv_p v 100 (fa 2) = some (fa 4) := h.2.2.2.2.2.2.2.2.2.2.2.1
theorem cs_pH (h : cs_S fa n v) : hv_p v 101 (fa 2) = some (fa 5) := h.2.2.2.2.2.2.2.2.2.2.2.2.1
theorem cs_pT (h : cs_S fa n v) : hv_p v 102 (fa 2) = some (fa 6) := h.2.2.2.2.2.2.2.2.2.2.2.2.2.1
theorem cs_rows (h : cs_S fa n v) : ∀ i, i < 8 → hv_q v (fa 4) i = some (fa (8 + i)) ∧ hv_k v (fa (8 + i)) = (100, 8) := h.2.2.2.2.2.2.2.2.2.2.2.2.2.2.1
theorem cs_sites (h : cs_S fa n v) : ∀ i, i < n → hv_q v (fa 1) i = some (fa (16 + i)) ∧ hv_k v (fa (16 + i)) = (3, 0) ∧ hv_p v 201 (fa (16 + i)) = some (fa (24 + i)) ∧ hv_k v (fa (24 + i)) = (100, 8) := h.2.2.2.2.2.2.2.2.2.2.2.2.2.2.2.1
theorem cs_inj (h : cs_S fa n v) : ∀ i j, cs_live n i → cs_live n j → fa i = fa j → i = j := h.2.2.2.2.2.2.2.2.2.2.2.2.2.2.2.2
theorem cs_lt8 (h : cs_S fa n v) {i : Nat} (hi : i < n) : i < 8 := Nat.lt_of_lt_of_le hi (cs_n8 h)
theorem cs_cl {i : Nat} (hi : i < 8) : (nI i).toNatClampNeg = i := nI_clamp (by omega)
theorem cs_in8 {i : Nat} (hi : i < 8) : vp_in (nI i) 8 := vp_in_nI hi (by omega)
theorem cs_kR (h : cs_S fa n v) {i : Nat} (hi : i < 8) : hv_k v (fa (8 + i)) = (100, 8) := (cs_rows h i hi).2
theorem cs_qD (h : cs_S fa n v) {i : Nat} (hi : i < 8) : hv_q v (fa 4) (nI i).toNatClampNeg = some (fa (8 + i)) := by rw [cs_cl hi]; exact (cs_rows h i hi).1
theorem cs_ks (h : cs_S fa n v) {i : Nat} (hi : i < n) : hv_k v (fa (16 + i)) = (3, 0) := (cs_sites h i hi).2.1
theorem cs_qS (h : cs_S fa n v) {i : Nat} (hi : i < n) : hv_q v (fa 1) (nI i).toNatClampNeg = some (fa (16 + i)) := by rw [cs_cl (cs_lt8 h hi)]; exact (cs_sites h i hi).1
theorem cs_po (h : cs_S fa n v) {i : Nat} (hi : i < n) : hv_p v 201 (fa (16 + i)) = some (fa (24 + i)) := (cs_sites h i hi).2.2.1
theorem cs_ko (h : cs_S fa n v) {i : Nat} (hi : i < n) : hv_k v (fa (24 + i)) = (100, 8) := (cs_sites h i hi).2.2.2
end CSS
