theorem cn_I {x : Nat} {v v4 : hv_V} {q1 q2 : Int32} (hx : hv_k v x = (4, 0)) (h0 : ∀ f, hv_i v f x = 0) (hxl : x < hv_n v) (hP : cn_P (hv_n v + 1) (hv_nw (hv_sp (hv_nw v (102 + 0, 8) 8) 300 x (some (hv_n v))) (2, 0) 9) v4) :
    ci_I (cn_ad x (hv_n v)) 0 (fun _ => 0) (fun _ => 0) 0 (fun _ _ => 1) (hv_n v + 14, hv_t v + 158) 0 [] (hv_si (hv_si (hv_si (hv_sp (hv_nw (hv_sp v4 301 x (some (hv_n v + 1))) (100 + 0, 5) 5) 302 x (some (hv_n (hv_sp v4 301 x (some (hv_n v + 1)))))) 307 x 10) 305 x q1) 306 x q2) := by
  generalize hb0 : hv_n v = b0 at *
  have hxb : x ≠ b0 := by omega
  have hxb1 : x ≠ b0 + 1 := by omega
  generalize hv3 : hv_nw (hv_sp (hv_nw v (102 + 0, 8) 8) 300 x (some b0)) (2, 0) 9 = v3 at hP
  have nn : hv_n (hv_sp (hv_nw v (102 + 0, 8) 8) 300 x (some b0)) = b0 + 1 := by rw [hv_sp_n, hv_nw_n, hb0]
  have n3 : hv_n v3 = b0 + 2 := by rw [← hv3, hv_nw_n, nn]
  have t3 : hv_t v3 = hv_t v + 17 := by rw [← hv3, hv_nw_t, hv_sp_t, hv_nw_t]
  have k3x : hv_k v3 x = (4, 0) := by rw [← hv3, hv_nw_k, nn, if_neg hxb1, hv_sp_k, hv_nw_k, hb0, if_neg hxb]; exact hx
  have k3s : hv_k v3 b0 = (102, 8) := by rw [← hv3, hv_nw_k, nn, if_neg (by omega), hv_sp_k, hv_nw_k, hb0, if_pos rfl]
  have k3n : hv_k v3 (b0 + 1) = (2, 0) := by rw [← hv3, hv_nw_k, nn, if_pos rfl]
  have p3 : hv_p v3 300 x = some b0 := by rw [← hv3, hv_nw_p, nn, if_neg hxb1, hv_sp_p, if_pos ⟨rfl, rfl⟩]
  have i3x : ∀ f, hv_i v3 f x = 0 := fun f => by rw [← hv3, hv_nw_i, nn, if_neg hxb1, hv_sp_i, hv_nw_i, hb0, if_neg hxb]; exact h0 f
  have i3n : ∀ f, hv_i v3 f (b0 + 1) = 0 := fun f => by rw [← hv3, hv_nw_i, nn, if_pos rfl]
  have p3n : ∀ f, hv_p v3 f (b0 + 1) = none := fun f => by rw [← hv3, hv_nw_p, nn, if_pos rfl]
  obtain ⟨P1, P2, P3, P4, P5, P6, P7, P8, P9, P10, P11, P12, P13, P14, P15, P16, P17⟩ := hP
  rw [n3] at P1 P2 P3 P4 P5 P6 P7 P8 P9 P10 P11 P12 P13 P14 P15 P16
  rw [t3] at P17
  have n5 : hv_n (hv_sp v4 301 x (some (b0 + 1))) = b0 + 13 := by rw [hv_sp_n, P16]
  rw [n5]
  generalize hv9 : hv_si (hv_si (hv_si (hv_sp (hv_nw (hv_sp v4 301 x (some (b0 + 1))) (100 + 0, 5) 5) 302 x (some (b0 + 13))) 307 x 10) 305 x q1) 306 x q2 = v9
  have k9 : ∀ c, c ≠ b0 + 13 → hv_k v9 c = hv_k v4 c := fun c hc => by rw [← hv9, hv_si_k, hv_si_k, hv_si_k, hv_sp_k, hv_nw_k, n5, if_neg hc, hv_sp_k]
  have k9L : hv_k v9 (b0 + 13) = (100, 5) := by rw [← hv9, hv_si_k, hv_si_k, hv_si_k, hv_sp_k, hv_nw_k, n5, if_pos rfl]
  have p9 : ∀ f c, c ≠ b0 + 13 → ¬ (f = 302 ∧ c = x) → ¬ (f = 301 ∧ c = x) → hv_p v9 f c = hv_p v4 f c := fun f c hc h1 h2 => by rw [← hv9, hv_si_p, hv_si_p, hv_si_p, hv_sp_p, if_neg h1, hv_nw_p, n5, if_neg hc, hv_sp_p, if_neg h2]
  have i9 : ∀ f c, c ≠ b0 + 13 → f ≠ 305 → f ≠ 306 → f ≠ 307 → hv_i v9 f c = hv_i v4 f c := fun f c hc h1 h2 h3 => by rw [← hv9, hv_si_i, if_neg (fun q => h2 q.1), hv_si_i, if_neg (fun q => h1 q.1), hv_si_i, if_neg (fun q => h3 q.1), hv_sp_i, hv_nw_i, n5, if_neg hc, hv_sp_i]
  have a9 : ∀ c j, c ≠ b0 + 13 → hv_a v9 c j = hv_a v4 c j := fun c j hc => by rw [← hv9, hv_si_a, hv_si_a, hv_si_a, hv_sp_a, hv_nw_a, n5, if_neg hc, hv_sp_a]
  have q9 : ∀ c j, c ≠ b0 + 13 → hv_q v9 c j = hv_q v4 c j := fun c j hc => by rw [← hv9, hv_si_q, hv_si_q, hv_si_q, hv_sp_q, hv_nw_q, n5, if_neg hc, hv_sp_q]
  have e8 : ∀ i, i < 8 → cn_ad x b0 (8 + i) = b0 + 3 + i := fun i hi => by
    unfold cn_ad
    rw [if_neg (by omega), if_neg (by omega), if_neg (by omega), if_neg (by omega), if_neg (by omega), if_neg (by omega), if_neg (by omega)]
    omega
  refine ⟨⟨by omega, ?_, ?_, ?_, ?_, ?_, ?_, ?_, ?_, ?_, ?_, ?_, ?_, ?_, fun i hi => ?_, fun i hi => by omega, fun i j hi hj he => ?_⟩, ⟨?_, ?_, ⟨?_, by omega⟩, ⟨10, by omega, by omega, ?_⟩, ⟨0, by omega, ?_⟩, fun i j hi hj => ⟨by show 1 ≤ 20; omega, ?_⟩, fun i hi => by omega⟩, ⟨fun _ => [], [], ⟨?_, ?_, by omega, fun a ha => ?_, ?_, fun s hs => ⟨?_, ?_, fun a ha => by cases ha⟩⟩, ?_⟩, ?_, ?_⟩
  · show hv_k v9 x = _; rw [k9 _ (by omega), P1 x (by omega)]; exact k3x
  · show hv_k v9 b0 = _; rw [k9 _ (by omega), P1 b0 (by omega)]; exact k3s
  · show hv_k v9 (b0 + 1) = _; rw [k9 _ (by omega), P1 (b0 + 1) (by omega)]; exact k3n
  · exact k9L
  · show hv_k v9 (b0 + 2) = _; rw [k9 _ (by omega)]; exact P2
  · show hv_k v9 (b0 + 11) = _; rw [k9 _ (by omega)]; exact P4
  · show hv_k v9 (b0 + 12) = _; rw [k9 _ (by omega)]; exact P5
  · show hv_p v9 300 x = some b0; rw [p9 _ _ (by omega) (by omega) (by omega), P7 300 x (by omega) (Or.inl (by omega))]; exact p3
  · show hv_p v9 301 x = some (b0 + 1)
    rw [← hv9, hv_si_p, hv_si_p, hv_si_p, hv_sp_p, if_neg (by omega), hv_nw_p, n5, if_neg (by omega), hv_sp_p, if_pos ⟨rfl, rfl⟩]
  · show hv_p v9 302 x = some (b0 + 13)
    rw [← hv9, hv_si_p, hv_si_p, hv_si_p, hv_sp_p, if_pos ⟨rfl, rfl⟩]
  · show hv_p v9 100 (b0 + 1) = some (b0 + 2); rw [p9 _ _ (by omega) (by omega) (by omega)]; exact P8
  · show hv_p v9 101 (b0 + 1) = some (b0 + 11); rw [p9 _ _ (by omega) (by omega) (by omega)]; exact P9
  · show hv_p v9 102 (b0 + 1) = some (b0 + 12); rw [p9 _ _ (by omega) (by omega) (by omega)]; exact P10
  · rw [e8 i hi]
    have h1 := P14 i hi
    have h2 := P3 i hi
    rw [show b0 + 2 + 1 + i = b0 + 3 + i by omega] at h1 h2
    refine ⟨?_, ?_⟩
    · show hv_q v9 (b0 + 2) i = _; rw [q9 _ _ (by omega)]; exact h1
    · rw [k9 _ (by omega)]; exact h2
  · have key : ∀ i, cs_live 0 i → (i = 0 ∧ cn_ad x b0 i = x) ∨ (i = 1 ∧ cn_ad x b0 i = b0) ∨ (i = 2 ∧ cn_ad x b0 i = b0 + 1) ∨ (i = 3 ∧ cn_ad x b0 i = b0 + 13) ∨ (i = 4 ∧ cn_ad x b0 i = b0 + 2) ∨ (i = 5 ∧ cn_ad x b0 i = b0 + 11) ∨ (i = 6 ∧ cn_ad x b0 i = b0 + 12) ∨ (8 ≤ i ∧ i < 16 ∧ cn_ad x b0 i = b0 + 3 + (i - 8)) := by
      intro i hl
      rcases hl with ⟨h1, h2⟩ | h | h
      · rcases (show i = 0 ∨ i = 1 ∨ i = 2 ∨ i = 3 ∨ i = 4 ∨ i = 5 ∨ i = 6 ∨ 8 ≤ i by omega) with rfl | rfl | rfl | rfl | rfl | rfl | rfl | h3
        · exact Or.inl ⟨rfl, rfl⟩
        · exact Or.inr (Or.inl ⟨rfl, rfl⟩)
        · exact Or.inr (Or.inr (Or.inl ⟨rfl, rfl⟩))
        · exact Or.inr (Or.inr (Or.inr (Or.inl ⟨rfl, rfl⟩)))
        · exact Or.inr (Or.inr (Or.inr (Or.inr (Or.inl ⟨rfl, rfl⟩))))
        · exact Or.inr (Or.inr (Or.inr (Or.inr (Or.inr (Or.inl ⟨rfl, rfl⟩)))))
        · exact Or.inr (Or.inr (Or.inr (Or.inr (Or.inr (Or.inr (Or.inl ⟨rfl, rfl⟩))))))
        · refine Or.inr (Or.inr (Or.inr (Or.inr (Or.inr (Or.inr (Or.inr ⟨h3, h1, ?_⟩))))))
          obtain ⟨j, rfl⟩ : ∃ j, i = 8 + j := ⟨i - 8, by omega⟩
          rw [e8 j (by omega)]
          omega
      · omega
      · omega
    have k1 := key i hi
    have k2 := key j hj
    omega
  · show hv_i v9 303 x = _; rw [i9 _ _ (by omega) (by decide) (by decide) (by decide), P6 _ _ (by omega), i3x]; exact nI_0.symm
  · show hv_i v9 304 x = _; rw [i9 _ _ (by omega) (by decide) (by decide) (by decide), P6 _ _ (by omega), i3x]; exact nI_0.symm
  · show hv_i v9 308 x = _; rw [i9 _ _ (by omega) (by decide) (by decide) (by decide), P6 _ _ (by omega), i3x]; exact nI_0.symm
  · show hv_i v9 307 x = _
    rw [← hv9, hv_si_i, if_neg (by omega), hv_si_i, if_neg (by omega), hv_si_i, if_pos ⟨rfl, rfl⟩]
    rfl
  · show hv_i v9 104 (b0 + 1) = _; rw [i9 _ _ (by omega) (by decide) (by decide) (by decide), P6 _ _ (by omega), i3n]; exact nI_0.symm
  · rw [e8 i hi, a9 _ _ (by omega)]
    have h1 := P12 i j hi hj
    rw [show b0 + 2 + 1 + i = b0 + 3 + i by omega] at h1
    rw [h1]; rfl
  · have e : ci_fl 32 (fun _ => []) = [] := by decide
    rw [e]; decide
  · have e : ci_fl 32 (fun _ => []) = [] := by decide
    rw [e]; rfl
  · have e : ci_fl 32 (fun _ => []) = [] := by decide
    rw [e] at ha; cases ha
  · show hv_p v9 103 (b0 + 1) = none; rw [p9 _ _ (by omega) (by omega) (by omega), P7 103 (b0 + 1) (by omega) (Or.inr ⟨by decide, by decide, by decide⟩)]; exact p3n _
  · show hv_q v9 (b0 + 11) s = none; rw [q9 _ _ (by omega)]; exact (P15 s).1
  · show hv_q v9 (b0 + 12) s = none; rw [q9 _ _ (by omega)]; exact (P15 s).2
  · show hv_i v9 108 (b0 + 1) = _
    have e : ci_fl 32 (fun _ => []) = [] := by decide
    rw [e, i9 _ _ (by omega) (by decide) (by decide) (by decide), P6 _ _ (by omega), i3n]; exact nI_0.symm
  · rw [← hv9, hv_si_n, hv_si_n, hv_si_n, hv_sp_n, hv_nw_n, n5]
  · rw [← hv9, hv_si_t, hv_si_t, hv_si_t, hv_sp_t, hv_nw_t, hv_sp_t, P17]
