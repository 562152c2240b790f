/-- what Network's constructor does: a its object, b0 the first new cell -/
def cn_P (a : Nat) (v v1 : hv_V) : Prop :=
  (∀ c, c < hv_n v → hv_k v1 c = hv_k v c) ∧ hv_k v1 (hv_n v) = (104, 8) ∧ (∀ i, i < 8 → hv_k v1 (hv_n v + 1 + i) = (100, 8)) ∧ hv_k v1 (hv_n v + 9) = (103, 32) ∧ hv_k v1 (hv_n v + 10) = (103, 32) ∧
  (∀ f c, c < hv_n v → hv_i v1 f c = hv_i v f c) ∧ (∀ f c, c < hv_n v → (c ≠ a ∨ (f ≠ 100 ∧ f ≠ 101 ∧ f ≠ 102)) → hv_p v1 f c = hv_p v f c) ∧ hv_p v1 100 a = some (hv_n v) ∧ hv_p v1 101 a = some (hv_n v + 9) ∧ hv_p v1 102 a = some (hv_n v + 10) ∧
  (∀ c j, c < hv_n v → hv_a v1 c j = hv_a v c j) ∧ (∀ i j, i < 8 → j < 8 → hv_a v1 (hv_n v + 1 + i) j = 1) ∧ (∀ c j, c < hv_n v → hv_q v1 c j = hv_q v c j) ∧ (∀ i, i < 8 → hv_q v1 (hv_n v) i = some (hv_n v + 1 + i)) ∧ (∀ j, hv_q v1 (hv_n v + 9) j = none ∧ hv_q v1 (hv_n v + 10) j = none) ∧ hv_n v1 = hv_n v + 11 ∧ hv_t v1 = hv_t v + 136
/-- in its loops: the rows hold 1 as far as i and j -/
def cn_L (V0 : hv_V) (b0 i j : Nat) (v1 : hv_V) : Prop :=
  (∀ c, hv_k v1 c = hv_k V0 c) ∧ (∀ f c, hv_i v1 f c = hv_i V0 f c) ∧ (∀ f c, hv_p v1 f c = hv_p V0 f c) ∧ (∀ c e, hv_q v1 c e = hv_q V0 c e) ∧ hv_n v1 = hv_n V0 ∧ hv_t v1 = hv_t V0 ∧ (∀ c e, c ≤ b0 → hv_a v1 c e = hv_a V0 c e) ∧
  ∀ i' j', i' < 8 → j' < 8 → (i' < i ∨ (i' = i ∧ j' < j)) → hv_a v1 (b0 + 1 + i') j' = 1
theorem cn_L0 (V0 : hv_V) (b0 : Nat) : cn_L V0 b0 0 0 V0 := ⟨fun _ => rfl, fun _ _ => rfl, fun _ _ => rfl, fun _ _ => rfl, rfl, rfl, fun _ _ _ => rfl, fun i' j' _ _ h => by omega⟩
theorem cn_Lrow {V0 v1 : hv_V} {b0 i : Nat} (h : cn_L V0 b0 i 8 v1) : cn_L V0 b0 (i + 1) 0 v1 := ⟨h.1, h.2.1, h.2.2.1, h.2.2.2.1, h.2.2.2.2.1, h.2.2.2.2.2.1, h.2.2.2.2.2.2.1, fun i' j' h1 h2 h3 => h.2.2.2.2.2.2.2 i' j' h1 h2 (by omega)⟩
theorem cn_Lput {V0 v1 : hv_V} {b0 i j : Nat} (hj : j < 8) (h : cn_L V0 b0 i j v1) : cn_L V0 b0 i (j + 1) (hv_sa v1 (b0 + 1 + i) (nI j).toNatClampNeg 1) := by
  refine ⟨h.1, h.2.1, h.2.2.1, h.2.2.2.1, h.2.2.2.2.1, h.2.2.2.2.2.1, fun c e hc => ?_, fun i' j' h1 h2 h3 => ?_⟩
  · rw [hv_sa_a, if_neg (fun q => by omega)]; exact h.2.2.2.2.2.2.1 c e hc
  · rw [hv_sa_a, cs_cl hj]
    by_cases e : b0 + 1 + i' = b0 + 1 + i ∧ j' = j
    · rw [if_pos e]
    · rw [if_neg e]; exact h.2.2.2.2.2.2.2 i' j' h1 h2 (by omega)
theorem cs_ge8 {i : Nat} (hi : i ≤ 8) (h : (8 : Int32) ≤ nI i) : i = 8 := by
  rcases Nat.lt_or_ge i 8 with q | q
  · exact absurd (show nI 8 ≤ nI i from h) (nI_ge q (by omega))
  · omega
def cn_ad (x b0 : Nat) : Nat → Nat := fun i => if i = 0 then x else if i = 1 then b0 else if i = 2 then b0 + 1 else if i = 3 then b0 + 13 else if i = 4 then b0 + 2 else if i = 5 then b0 + 11 else if i = 6 then b0 + 12 else b0 + 3 + (i - 8)
