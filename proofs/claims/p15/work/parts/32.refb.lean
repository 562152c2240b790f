/-! ===== the reference: what its rows need ===== -/
section RK
variable {ra : Nat → Nat} {v : hv_V}
theorem rs_k2 (h : rs_S ra v) : hv_k v (ra 2) = (100, 8) := rs_k h 2 (by decide)
theorem rs_p2 (h : rs_S ra v) : hv_p v 402 (ra 0) = some (ra 2) := rs_p h 2 (by decide)
theorem rs_k6 (h : rs_S ra v) : hv_k v (ra 6) = (100, 64) := rs_k h 6 (by decide)
theorem rs_p6 (h : rs_S ra v) : hv_p v 406 (ra 0) = some (ra 6) := rs_p h 6 (by decide)
theorem rs_k14 (h : rs_S ra v) : hv_k v (ra 14) = (100, 8) := rs_k h 14 (by decide)
theorem rs_p14 (h : rs_S ra v) : hv_p v 414 (ra 0) = some (ra 14) := rs_p h 14 (by decide)
theorem rs_k15 (h : rs_S ra v) : hv_k v (ra 15) = (100, 8) := rs_k h 15 (by decide)
theorem rs_p15 (h : rs_S ra v) : hv_p v 415 (ra 0) = some (ra 15) := rs_p h 15 (by decide)
theorem rs_k16 (h : rs_S ra v) : hv_k v (ra 16) = (101, 8) := rs_k h 16 (by decide)
theorem rs_p16 (h : rs_S ra v) : hv_p v 416 (ra 0) = some (ra 16) := rs_p h 16 (by decide)
theorem rs_k17 (h : rs_S ra v) : hv_k v (ra 17) = (101, 8) := rs_k h 17 (by decide)
theorem rs_p17 (h : rs_S ra v) : hv_p v 417 (ra 0) = some (ra 17) := rs_p h 17 (by decide)
theorem rs_k18 (h : rs_S ra v) : hv_k v (ra 18) = (100, 8) := rs_k h 18 (by decide)
theorem rs_p18 (h : rs_S ra v) : hv_p v 418 (ra 0) = some (ra 18) := rs_p h 18 (by decide)
theorem rs_k19 (h : rs_S ra v) : hv_k v (ra 19) = (100, 8) := rs_k h 19 (by decide)
theorem rs_p19 (h : rs_S ra v) : hv_p v 419 (ra 0) = some (ra 19) := rs_p h 19 (by decide)
theorem rs_k20 (h : rs_S ra v) : hv_k v (ra 20) = (100, 64) := rs_k h 20 (by decide)
theorem rs_p20 (h : rs_S ra v) : hv_p v 420 (ra 0) = some (ra 20) := rs_p h 20 (by decide)
theorem rs_k21 (h : rs_S ra v) : hv_k v (ra 21) = (100, 8) := rs_k h 21 (by decide)
theorem rs_p21 (h : rs_S ra v) : hv_p v 421 (ra 0) = some (ra 21) := rs_p h 21 (by decide)
theorem rs_k22 (h : rs_S ra v) : hv_k v (ra 22) = (100, 8) := rs_k h 22 (by decide)
theorem rs_p22 (h : rs_S ra v) : hv_p v 422 (ra 0) = some (ra 22) := rs_p h 22 (by decide)
theorem rs_k23 (h : rs_S ra v) : hv_k v (ra 23) = (100, 60000) := rs_k h 23 (by decide)
theorem rs_p23 (h : rs_S ra v) : hv_p v 423 (ra 0) = some (ra 23) := rs_p h 23 (by decide)
theorem rs_k24 (h : rs_S ra v) : hv_k v (ra 24) = (100, 60000) := rs_k h 24 (by decide)
theorem rs_p24 (h : rs_S ra v) : hv_p v 424 (ra 0) = some (ra 24) := rs_p h 24 (by decide)
theorem rs_k25 (h : rs_S ra v) : hv_k v (ra 25) = (100, 60000) := rs_k h 25 (by decide)
theorem rs_p25 (h : rs_S ra v) : hv_p v 425 (ra 0) = some (ra 25) := rs_p h 25 (by decide)
theorem rs_k26 (h : rs_S ra v) : hv_k v (ra 26) = (100, 60000) := rs_k h 26 (by decide)
theorem rs_p26 (h : rs_S ra v) : hv_p v 426 (ra 0) = some (ra 26) := rs_p h 26 (by decide)
theorem rs_k27 (h : rs_S ra v) : hv_k v (ra 27) = (100, 60000) := rs_k h 27 (by decide)
theorem rs_p27 (h : rs_S ra v) : hv_p v 427 (ra 0) = some (ra 27) := rs_p h 27 (by decide)
theorem rs_k28 (h : rs_S ra v) : hv_k v (ra 28) = (100, 60000) := rs_k h 28 (by decide)
theorem rs_p28 (h : rs_S ra v) : hv_p v 428 (ra 0) = some (ra 28) := rs_p h 28 (by decide)
theorem rs_k29 (h : rs_S ra v) : hv_k v (ra 29) = (100, 60000) := rs_k h 29 (by decide)
theorem rs_p29 (h : rs_S ra v) : hv_p v 429 (ra 0) = some (ra 29) := rs_p h 29 (by decide)
theorem rs_k31 (h : rs_S ra v) : hv_k v (ra 31) = (100, 5) := rs_k h 31 (by decide)
theorem rs_p31 (h : rs_S ra v) : hv_p v 431 (ra 0) = some (ra 31) := rs_p h 31 (by decide)
theorem rs_nn (h : rs_S ra v) (i k : Nat) (hc : (rs_len i != 0 && rs_len k != 0 && i != k) = true) : ¬ ra i = ra k := by
  simp only [Bool.and_eq_true, bne_iff_ne, ne_eq] at hc
  exact fun e => hc.2 (h.2.2 i k hc.1.1 hc.1.2 e)
theorem rs_san (h : rs_S ra v) (i k : Nat) (hc : (rs_len i != 0 && rs_len k != 0 && i != k) = true) {u : hv_V} {j e : Nat} {x : Int32} : hv_a (hv_sa u (ra k) j x) (ra i) e = hv_a u (ra i) e := by
  rw [hv_sa_a, if_neg (fun q => rs_nn h i k hc q.1)]
end RK
theorem nI_8 (i : Nat) : (8 : Int32) * nI i = nI (8 * i) := by
  show Int32.ofNat 8 * Int32.ofNat i = Int32.ofNat (8 * i)
  rw [Int32.ofNat_mul]
theorem rf_in64 {i j : Nat} (hi : i < 8) (hj : j < 8) : vp_in (nI (8 * i + j)) 64 := vp_in_nI (by omega) (by omega)
theorem rf_in6 {k : Nat} (hk : k < 60000) : vp_in (nI k) 60000 := vp_in_nI hk (by omega)
theorem nI_lit {a k : Nat} (h : nI a = nI k) (ha : a < 1000 := by omega) (hk : k < 1000 := by omega) : a = k := (nI_eq (by omega) (by omega)).mp h
theorem nI_nlit {a k : Nat} (h : ¬ nI a = nI k) : ¬ a = k := fun e => h (by rw [e])
section RFG
variable {ra gh : Nat → Nat} {n b B t nm : Nat} {st dg F kd : Nat → Nat} {v v1 : hv_V}
theorem rf_hn (h : rf_J ra gh n b B t nm st dg F kd v) : hv_i v 401 (ra 0) = nI n := h.2.1.1
theorem rf_n8 (h : rf_J ra gh n b B t nm st dg F kd v) : n ≤ 8 := h.2.1.2
theorem rf_lt8 (h : rf_J ra gh n b B t nm st dg F kd v) {i : Nat} (hi : i < n) : i < 8 := by have := rf_n8 h; omega
theorem rf_hb (h : rf_J ra gh n b B t nm st dg F kd v) : hv_i v 407 (ra 0) = nI b := h.2.2.1.1
theorem rf_b1 (h : rf_J ra gh n b B t nm st dg F kd v) : b ≤ 1 := h.2.2.1.2
theorem rf_dl (h : rf_J ra gh n b B t nm st dg F kd v) {i j : Nat} (hi : i < 8) (hj : j < 8) : ∃ q, q ≤ 20 ∧ hv_a v (ra 6) (nI (8 * i + j)).toNatClampNeg = nI q := by
  rw [nI_clamp (by omega)]
  exact ⟨_, (h.2.2.2.1.2.2 _ (by omega)).1, (h.2.2.2.1.2.2 _ (by omega)).2⟩
theorem rf_t4 (h : rf_J ra gh n b B t nm st dg F kd v) : t ≤ 4000 := h.2.2.2.2.1.1
theorem rf_ht (h : rf_J ra gh n b B t nm st dg F kd v) : hv_i v 408 (ra 0) = nI t := h.2.2.2.2.1.2.1
theorem rf_hm (h : rf_J ra gh n b B t nm st dg F kd v) : hv_i v 430 (ra 0) = nI nm := h.2.2.2.2.1.2.2.1
theorem rf_q (h : rf_J ra gh n b B t nm st dg F kd v) : ∃ q, 5 ≤ q ∧ q ≤ 100 ∧ hv_i v 405 (ra 0) = nI q := h.2.2.2.2.1.2.2.2.1
theorem rf_gst (h : rf_J ra gh n b B t nm st dg F kd v) {i : Nat} (hi : i < 8) : hv_a v (ra 14) (nI i).toNatClampNeg = nI (st i) := by rw [cs_cl hi]; exact (h.2.2.2.2.1.2.2.2.2.1 i hi).1
theorem rf_gdg (h : rf_J ra gh n b B t nm st dg F kd v) {i : Nat} (hi : i < 8) : hv_a v (ra 18) (nI i).toNatClampNeg = nI (dg i) := by rw [cs_cl hi]; exact (h.2.2.2.2.1.2.2.2.2.1 i hi).2.2.1
theorem rf_st5 (h : rf_J ra gh n b B t nm st dg F kd v) {i : Nat} (hi : i < 8) : st i ≤ 5 := (h.2.2.2.2.1.2.2.2.2.1 i hi).2.1
theorem rf_dg4 (h : rf_J ra gh n b B t nm st dg F kd v) {i : Nat} (hi : i < 8) : dg i ≤ 4 := (h.2.2.2.2.1.2.2.2.2.1 i hi).2.2.2.1
theorem rf_d4 (h : rf_J ra gh n b B t nm st dg F kd v) {i : Nat} (hi : i < 8) (hd : dg i ≠ 0) : st i < 4 := (h.2.2.2.2.1.2.2.2.2.1 i hi).2.2.2.2.1 hd
theorem rf_tm (h : rf_J ra gh n b B t nm st dg F kd v) {i : Nat} (hi : i < n) : hv_a v (ra 21) (nI i).toNatClampNeg = -1 ∨ st i < 4 ∧ ∃ x, t ≤ x ∧ x ≤ 5000 ∧ 5 * (F i + 1) ≤ x ∧ hv_a v (ra 21) (nI i).toNatClampNeg = nI x := by rw [cs_cl (rf_lt8 h hi)]; exact h.2.2.2.2.1.2.2.2.2.2.1 i hi
theorem rf_msg (h : rf_J ra gh n b B t nm st dg F kd v) {k : Nat} (hk : k < nm) : (∃ a, a < n ∧ hv_a v (ra 25) k = nI a) ∧ (∃ a, a < n ∧ hv_a v (ra 24) k = nI a) ∧ (∃ x, t ≤ x ∧ x ≤ 5000 ∧ hv_a v (ra 28) k = nI x) ∧ (∃ s, s ≤ 5 ∧ hv_a v (ra 27) k = nI s) ∧ hv_a v (ra 23) k = nI (kd k) ∧ kd k ≤ 10 := h.2.2.2.2.1.2.2.2.2.2.2.1 k hk
theorem rf_56 (h : rf_J ra gh n b B t nm st dg F kd v) {i : Nat} (hi : i < 8) (h4 : st i < 4) : 56 ≤ B := by
  have h1 := h.2.2.2.2.1.2.2.2.2.2.2.2
  have h2 := ci_sum_ge (f := fun j => rf_c (st j) (dg j) (F j)) hi
  have h3 : 56 ≤ rf_c (st i) (dg i) (F i) := by unfold rf_c; rw [if_pos h4]; omega
  omega
/-- a site decides -/
theorem rf_ends {i s : Nat} {x : Int32} (h : rf_J ra gh n b B t nm st dg F kd v) (hi : i < 8) (hs4 : 4 ≤ s) (hs : s ≤ 5) (h4 : st i < 4) (hb : b = 1) : rf_J ra gh n b (B - 56) t nm (va_up st i s) (va_up dg i 0) F kd (hv_sa (hv_sa (hv_sa (hv_sa v (ra 14) (nI i).toNatClampNeg (nI s)) (ra 15) (nI i).toNatClampNeg x) (ra 18) (nI i).toNatClampNeg 0) (ra 21) (nI i).toNatClampNeg (-1)) := by
  obtain ⟨h1, h2, h3, h5, ⟨g1, g2, g3, g4, g5, g6, g7, g8⟩, h6⟩ := h
  rw [cs_cl hi]
  have o : ∀ k e, (rs_len k != 0 && k != 14 && k != 15 && k != 18 && k != 21) = true → hv_a (hv_sa (hv_sa (hv_sa (hv_sa v (ra 14) i (nI s)) (ra 15) i x) (ra 18) i 0) (ra 21) i (-1)) (ra k) e = hv_a v (ra k) e := fun k e hc => by
    simp only [Bool.and_eq_true, bne_iff_ne, ne_eq] at hc
    obtain ⟨⟨⟨⟨c0, c1⟩, c2⟩, c3⟩, c4⟩ := hc
    rw [rs_san h1 k 21 (by simp [c0, c4]; decide), rs_san h1 k 18 (by simp [c0, c3]; decide), rs_san h1 k 15 (by simp [c0, c2]; decide), rs_san h1 k 14 (by simp [c0, c1]; decide)]
  refine ⟨h1, h2, h3, rs_Gof h5 (fun k e hk => by rcases hk with rfl | rfl | rfl <;> exact o _ e rfl), ⟨g1, g2, g3, g4, fun j hj => ?_, fun j hj => ?_, fun k hk => ?_, ?_⟩, fun hb0 => by omega⟩
  · obtain ⟨a1, a2, a3, a4, a5, a6⟩ := g5 j hj
    rw [rs_san h1 14 21 rfl, rs_san h1 14 18 rfl, rs_san h1 14 15 rfl, hv_sa_a, rs_san h1 18 21 rfl, hv_sa_a, rs_san h1 18 15 rfl, rs_san h1 18 14 rfl]
    by_cases e : j = i
    · subst e
      rw [if_pos ⟨rfl, rfl⟩, if_pos ⟨rfl, rfl⟩, va_up_self, va_up_self]
      exact ⟨rfl, hs, rfl, by omega, fun q => absurd rfl q, a6⟩
    · rw [if_neg (fun q => e q.2), if_neg (fun q => e q.2), va_up_ne _ _ e, va_up_ne _ _ e]
      exact ⟨a1, a2, a3, a4, a5, a6⟩
  · by_cases e : j = i
    · left
      rw [hv_sa_a, if_pos ⟨rfl, e⟩]
    · rw [hv_sa_a, if_neg (fun q => e q.2), rs_san h1 21 18 rfl, rs_san h1 21 15 rfl, rs_san h1 21 14 rfl, va_up_ne _ _ e]
      exact g6 j hj
  · rw [o 25 k rfl, o 24 k rfl, o 28 k rfl, o 27 k rfl, o 23 k rfl]; exact g7 k hk
  · have e1 := rf_sum (st := st) (dg := dg) (F := F) (s := s) (g := 0) hi
    have e2 : rf_c s 0 (F i) + 56 ≤ rf_c (st i) (dg i) (F i) := by unfold rf_c; rw [if_neg (by omega), if_pos h4, if_neg (by omega)]; omega
    omega
/-- a message comes off: the last one takes its place -/
theorem rf_pop {m k : Nat} (h : rf_J ra gh n b B t (m + 1) st dg F kd v) (hk : k < m + 1) (hkk : ∀ a, hv_k v1 a = hv_k v a) (hp : ∀ f a, hv_p v1 f a = hv_p v f a) (hvn : hv_n v1 = hv_n v) (hvt : hv_t v1 = hv_t v) (hi : ∀ f, f ≠ 430 → hv_i v1 f (ra 0) = hv_i v f (ra 0)) (h430 : hv_i v1 430 (ra 0) = nI m) (ha : ∀ κ e, (κ = 2 ∨ κ = 16 ∨ κ = 6 ∨ κ = 14 ∨ κ = 18 ∨ κ = 21) → hv_a v1 (ra κ) e = hv_a v (ra κ) e) (hm : ∀ κ e, (κ = 23 ∨ κ = 24 ∨ κ = 25 ∨ κ = 27 ∨ κ = 28) → hv_a v1 (ra κ) e = if e = k then hv_a v (ra κ) m else hv_a v (ra κ) e) : rf_J ra gh n b (B - rf_wt (kd k)) t m st dg F (va_up kd k (kd m)) v1 := by
  obtain ⟨h1, h2, h3, h5, ⟨g1, g2, g3, g4, g5, g6, g7, g8⟩, h6⟩ := h
  refine ⟨rs_of h1 hkk hp hvn hvt, by rw [hi _ (by decide)]; exact h2, by rw [hi _ (by decide)]; exact h3, rs_Gof h5 (fun k e hk => ha k e (by omega)), ⟨g1, by rw [hi _ (by decide)]; exact g2, h430, by rw [hi _ (by decide)]; exact g4, fun i hi8 => by rw [ha 14 i (by simp), ha 18 i (by simp)]; exact g5 i hi8, fun i hin => by rw [ha 21 i (by simp)]; exact g6 i hin, fun e he => ?_, ?_⟩, fun hb => absurd (h6 hb).1 (by omega)⟩
  · rw [hm 25 e (by simp), hm 24 e (by simp), hm 28 e (by simp), hm 27 e (by simp), hm 23 e (by simp)]
    by_cases q : e = k
    · subst q
      rw [if_pos rfl, if_pos rfl, if_pos rfl, if_pos rfl, if_pos rfl, va_up_self]; exact g7 m (by omega)
    · rw [if_neg q, if_neg q, if_neg q, if_neg q, if_neg q, va_up_ne _ _ q]; exact g7 e (by omega)
  · have e0 : ci_sum (fun e => rf_wt (kd e)) (m + 1) = ci_sum (fun e => rf_wt (kd e)) m + rf_wt (kd m) := rfl
    have e1 : ci_sum (fun e => rf_wt (va_up kd k (kd m) e)) m + rf_wt (kd k) = ci_sum (fun e => rf_wt (kd e)) (m + 1) := by
      by_cases q : k = m
      · subst q
        rw [e0, ci_sum_eq (f := fun e => rf_wt (kd e)) k (fun e he => by rw [va_up_ne _ _ (by omega)])]
      · have e2 := ci_sum_set (f := fun e => rf_wt (kd e)) (i := k) (y := rf_wt (kd m)) (m := m) (by omega)
        rw [ci_sum_eq (f := va_up (fun e => rf_wt (kd e)) k (rf_wt (kd m))) m (fun e he => by by_cases z : e = k <;> simp [va_up, z])]
        omega
    omega
/-- time goes on -/
theorem rf_now {T : Nat} (h : rf_J ra gh n b B t nm st dg F kd v) (h1T : t ≤ T) (hT : T ≤ 4000) (hm : ∀ k, k < nm → ∃ x, T ≤ x ∧ x ≤ 5000 ∧ hv_a v (ra 28) k = nI x) (htm : ∀ j, j < n → hv_a v (ra 21) j = -1 ∨ ∃ x, T ≤ x ∧ x ≤ 5000 ∧ hv_a v (ra 21) j = nI x) : rf_J ra gh n b B T nm st dg F kd (hv_si v 408 (ra 0) (nI T)) := by
  obtain ⟨h1, h2, h3, h5, ⟨g1, g2, g3, g4, g5, g6, g7, g8⟩, h6⟩ := h
  refine ⟨h1, h2, h3, h5, ⟨hT, by rw [hv_si_i, if_pos ⟨rfl, rfl⟩], g3, g4, fun i hi => ?_, fun j hj => ?_, fun k hk => ?_, g8⟩, h6⟩
  · obtain ⟨a1, a2, a3, a4, a5, a6⟩ := g5 i hi
    exact ⟨a1, a2, a3, a4, a5, by omega⟩
  · rcases g6 j hj with q | ⟨q, x, x1, x2, x3, x4⟩
    · exact Or.inl q
    · rcases htm j hj with q1 | ⟨y, y1, y2, y3⟩
      · exact Or.inl q1
      · exact Or.inr ⟨q, y, y1, y2, by have := (nI_eq (a := x) (b := y) (by omega) (by omega)).mp (x4.symm.trans y3); omega, y3⟩
  · obtain ⟨a1, a2, a3, a4⟩ := g7 k hk
    exact ⟨a1, a2, hm k hk, a4⟩
theorem rf_start (h : rf_J ra gh n 0 B t nm st dg F kd v) : rf_J ra gh n 1 B t nm st dg F kd (hv_si v 407 (ra 0) 1) := by
  obtain ⟨h1, h2, h3, h5, ⟨g1, g2, g3, g4, g5, g6, g7, g8⟩, h6⟩ := h
  exact ⟨h1, h2, ⟨by rw [hv_si_i, if_pos ⟨rfl, rfl⟩]; rfl, by omega⟩, h5, ⟨g1, g2, g3, g4, g5, g6, g7, g8⟩, fun q => by omega⟩
/-- what the search has found after m messages and i timers -/
def rf_f (ra : Nat → Nat) (m i : Nat) (v : hv_V) : Prop := (m = 0 ∧ hv_i v 432 (ra 0) = -1 ∧ ∀ j, j < i → hv_a v (ra 21) j = -1) ∨ ∃ T, T ≤ 5000 ∧ hv_i v 433 (ra 0) = nI T ∧ ((∃ k, k < m ∧ hv_i v 432 (ra 0) = nI k ∧ hv_a v (ra 28) k = nI T) ∨ ∃ j, j < i ∧ hv_i v 432 (ra 0) = -2 - nI j ∧ hv_a v (ra 21) j = nI T) ∧ (∀ k, k < m → ∃ x, T ≤ x ∧ x ≤ 5000 ∧ hv_a v (ra 28) k = nI x) ∧ ∀ j, j < i → hv_a v (ra 21) j = -1 ∨ ∃ x, T ≤ x ∧ x ≤ 5000 ∧ hv_a v (ra 21) j = nI x
theorem rf_f1a {m : Nat} (h : rf_J ra gh n b B t nm st dg F kd v) (hf : rf_f ra m 0 v) (hm : m < nm) (hc : hv_i v 432 (ra 0) = -1 ∧ m = 0 ∨ hv_a v (ra 28) m ≤ hv_i v 433 (ra 0)) : rf_f ra (m + 1) 0 (hv_si (hv_si v 432 (ra 0) (nI m)) 433 (ra 0) (hv_a v (ra 28) m)) := by
  obtain ⟨-, -, ⟨x, x1, x2, x3⟩, -⟩ := rf_msg h hm
  right
  refine ⟨x, x2, by rw [hv_si_i, if_pos ⟨rfl, rfl⟩]; exact x3, Or.inl ⟨m, by omega, by rw [hv_si_i, if_neg (by simp), hv_si_i, if_pos ⟨rfl, rfl⟩], x3⟩, fun k hk => ?_, fun j hj => by omega⟩
  show ∃ y, x ≤ y ∧ y ≤ 5000 ∧ hv_a v (ra 28) k = nI y
  by_cases e : k = m
  · exact ⟨x, Nat.le_refl _, x2, by rw [e]; exact x3⟩
  · rcases hf with ⟨q, -⟩ | ⟨T, T5, hT, -, q, -⟩
    · omega
    · obtain ⟨y, y1, y2, y3⟩ := q k (by omega)
      rcases hc with ⟨_, q0⟩ | hc
      · omega
      · rw [hT, x3] at hc
        have := (nI_leI (by omega) (by omega)).mp hc
        exact ⟨y, by omega, y2, y3⟩
theorem rf_f1b {m : Nat} (h : rf_J ra gh n b B t nm st dg F kd v) (hf : rf_f ra m 0 v) (hm : m < nm) (h1 : ¬ hv_i v 432 (ra 0) = -1) (hc : ¬ hv_a v (ra 28) m < hv_i v 433 (ra 0)) : rf_f ra (m + 1) 0 v := by
  obtain ⟨-, -, ⟨x, x1, x2, x3⟩, -⟩ := rf_msg h hm
  rcases hf with ⟨-, q, -⟩ | ⟨T, T5, hT, q, r, s⟩
  · exact absurd q h1
  · refine Or.inr ⟨T, T5, hT, ?_, fun k hk => ?_, s⟩
    · rcases q with ⟨k, k1, k2⟩ | ⟨j, j1, -⟩
      · exact Or.inl ⟨k, by omega, k2⟩
      · omega
    · by_cases e : k = m
      · subst e
        rw [hT, x3] at hc
        exact ⟨x, Nat.le_of_not_lt (fun z => hc ((nI_ltI (by omega) (by omega)).mpr z)), x2, x3⟩
      · exact r k (by omega)
theorem rf_f0 {m : Nat} (hf : rf_f ra m 0 v) (hm : m < 60000) (h1 : hv_i v 432 (ra 0) = -1) : m = 0 := by
  rcases hf with ⟨q, -⟩ | ⟨T, T5, hT, ⟨k, k1, k2, -⟩ | ⟨j, j1, -⟩, -⟩
  · exact q
  · rw [h1] at k2
    exact absurd (show nI k < 0 from by rw [← k2]; decide) (nI_pos (by omega))
  · omega
theorem rf_none {m i : Nat} (hf : rf_f ra m i v) (hm : m ≤ 60000) (hi : i ≤ 8) (h1 : hv_i v 432 (ra 0) = -1) : m = 0 ∧ ∀ j, j < i → hv_a v (ra 21) j = -1 := by
  rcases hf with ⟨q, -, q2⟩ | ⟨T, T5, hT, ⟨k, k1, k2, -⟩ | ⟨j, j1, k2, -⟩, -⟩
  · exact ⟨q, q2⟩
  · rw [h1] at k2
    exact absurd (show nI k < 0 from by rw [← k2]; decide) (nI_pos (by omega))
  · rw [h1] at k2
    have key : ∀ j, j < 8 → ¬ (-1 : Int32) = -2 - nI j := by decide +kernel
    exact absurd k2 (key j (by omega))
theorem rf_f2a {i : Nat} (hn : n ≤ 8) (h6 : nm ≤ 60000) (h : rf_J ra gh n b B t nm st dg F kd v) (hf : rf_f ra nm i v) (hi : i < n) (h0 : ¬ hv_a v (ra 21) i < 0) (hc : hv_i v 432 (ra 0) = -1 ∨ hv_a v (ra 21) i ≤ hv_i v 433 (ra 0)) : rf_f ra nm (i + 1) (hv_si (hv_si v 432 (ra 0) (-2 - nI i)) 433 (ra 0) (hv_a v (ra 21) i)) := by
  have hx := rf_tm h hi
  rw [cs_cl (by omega)] at hx
  rcases hx with q | ⟨-, x, x1, x2, -, x3⟩
  · rw [q] at h0; exact absurd (by decide) h0
  right
  refine ⟨x, x2, by rw [hv_si_i, if_pos ⟨rfl, rfl⟩]; exact x3, Or.inr ⟨i, by omega, by rw [hv_si_i, if_neg (by simp), hv_si_i, if_pos ⟨rfl, rfl⟩], x3⟩, ?_, ?_⟩
  · intro k hk
    show ∃ y, x ≤ y ∧ y ≤ 5000 ∧ hv_a v (ra 28) k = nI y
    by_cases e : hv_i v 432 (ra 0) = -1
    · have := (rf_none hf h6 (by omega) e).1
      omega
    · have hc := hc.resolve_left e
      rcases hf with ⟨q, -⟩ | ⟨T, T5, hT, -, q, -⟩
      · omega
      · obtain ⟨y, y1, y2, y3⟩ := q k hk
        rw [hT, x3] at hc
        have := (nI_leI (by omega) (by omega)).mp hc
        exact ⟨y, by omega, y2, y3⟩
  · intro j hj
    show hv_a v (ra 21) j = -1 ∨ ∃ y, x ≤ y ∧ y ≤ 5000 ∧ hv_a v (ra 21) j = nI y
    by_cases e : j = i
    · subst e; exact Or.inr ⟨x, Nat.le_refl _, x2, x3⟩
    · by_cases e1 : hv_i v 432 (ra 0) = -1
      · exact Or.inl ((rf_none hf h6 (by omega) e1).2 j (by omega))
      · have hc := hc.resolve_left e1
        rcases hf with ⟨_, _, q⟩ | ⟨T, T5, hT, -, -, q⟩
        · exact Or.inl (q j (by omega))
        · rcases q j (by omega) with q | ⟨y, y1, y2, y3⟩
          · exact Or.inl q
          · rw [hT, x3] at hc
            have := (nI_leI (by omega) (by omega)).mp hc
            exact Or.inr ⟨y, by omega, y2, y3⟩
theorem rf_f2b {i : Nat} (h : rf_J ra gh n b B t nm st dg F kd v) (hf : rf_f ra nm i v) (hi : i < n) (hc : hv_a v (ra 21) i < 0 ∨ ¬ hv_i v 432 (ra 0) = -1 ∧ ¬ hv_a v (ra 21) i < hv_i v 433 (ra 0)) : rf_f ra nm (i + 1) v := by
  have hx := rf_tm h hi
  rw [cs_cl (rf_lt8 h hi)] at hx
  have hi1 : hv_a v (ra 21) i = -1 ∨ ∃ x, x ≤ 5000 ∧ hv_a v (ra 21) i = nI x := by
    rcases hx with q | ⟨-, x, x1, x2, -, x3⟩
    · exact Or.inl q
    · exact Or.inr ⟨x, x2, x3⟩
  rcases hf with ⟨q, q1, q2⟩ | ⟨T, T5, hT, q, r, s⟩
  · refine Or.inl ⟨q, q1, fun j hj => ?_⟩
    by_cases e : j = i
    · rw [e]
      rcases hi1 with z | ⟨x, x2, x3⟩
      · exact z
      · rcases hc with hc | hc
        · rw [x3] at hc; exact absurd hc (nI_pos (by omega))
        · exact absurd q1 hc.1
    · exact q2 j (by omega)
  · refine Or.inr ⟨T, T5, hT, ?_, r, fun j hj => ?_⟩
    · rcases q with q | ⟨j, j1, j2⟩
      · exact Or.inl q
      · exact Or.inr ⟨j, by omega, j2⟩
    · by_cases e : j = i
      · rw [e]
        rcases hi1 with z | ⟨x, x2, x3⟩
        · exact Or.inl z
        · rcases hc with hc | hc
          · rw [x3] at hc; exact absurd hc (nI_pos (by omega))
          · have hc := hc.2
            rw [hT, x3] at hc
            exact Or.inr ⟨x, Nat.le_of_not_lt (fun z => hc ((nI_ltI (by omega) (by omega)).mpr z)), x2, x3⟩
      · exact s j (by omega)
theorem rf_f12 (hf : rf_f ra nm 0 v) : rf_f ra nm 0 v := hf
end RFG
