theorem ci_ch_cat {v v1 : hv_V} {z : Nat} {q : Option Nat} {Sp : List Nat} : ∀ (r : List Nat) (p : Option Nat), ci_ch v p r → r.Nodup → r.getLast? = some z → hv_p v1 7 z = q → ci_ch v1 q Sp → (∀ b, b ∈ r → b ≠ z → hv_p v1 7 b = hv_p v 7 b) → ci_ch v1 p (r ++ Sp)
  | [], _, _, _, h, _, _, _ => by simp at h
  | [b], p, h, _, hz, h1, h2, _ => by
    have e : b = z := by simpa using hz
    subst e
    exact ⟨h.1, by rw [h1]; exact h2⟩
  | b :: c :: r, p, h, hn, hz, h1, h2, h3 => by
    have hz' : (c :: r).getLast? = some z := by simpa [List.getLast?_cons_cons] using hz
    have hzm : z ∈ c :: r := List.mem_of_getLast? hz'
    have hbz : b ≠ z := fun e => (List.nodup_cons.mp hn).1 (e ▸ hzm)
    refine ⟨h.1, ?_⟩
    rw [h3 b List.mem_cons_self hbz]
    exact ci_ch_cat (c :: r) _ h.2 (List.nodup_cons.mp hn).2 hz' h1 h2 (fun x hx => h3 x (List.mem_cons_of_mem _ hx))
section CMV
variable {fa : Nat → Nat} {n : Nat} {w u : Nat → Nat} {b : Nat} {d : Nat → Nat → Nat} {g : Nat × Nat} {k : Nat} {hd : List Nat} {Sl : Nat → List Nat} {Sp : List Nat} {v v1 : hv_V} {s : Nat}
/-- a slot's messages go to the spare ones -/
theorem ci_mv (h : ci_L fa n k hd Sl Sp v) (hs : s < 32) (hk : ∀ c, hv_k v1 c = hv_k v c) (hi : ∀ f c, f = 0 ∨ f = 3 ∨ f = 4 → hv_i v1 f c = hv_i v f c)
    (hp3 : hv_p v1 103 (fa 2) = if hv_q v (fa 6) s = none then hv_p v 103 (fa 2) else hv_q v (fa 5) s) (hp7 : ∀ c, hv_p v1 7 c = if hv_q v (fa 6) s = some c then hv_p v 103 (fa 2) else hv_p v 7 c)
    (hq5 : ∀ j, hv_q v1 (fa 5) j = if j = s then none else hv_q v (fa 5) j) (hq6 : ∀ j, hv_q v1 (fa 6) j = if j = s then none else hv_q v (fa 6) j) : ∃ Sp', ci_L fa n k hd (va_up Sl s []) Sp' v1 := by
  have h0 := h
  obtain ⟨h1, h2, h2', h3, h4, h5⟩ := h
  have e1 := ci_fl_perm Sl hs
  have hp' : ((Sl s ++ Sp) ++ hd ++ ci_fl 32 (va_up Sl s [])).Perm (Sp ++ hd ++ ci_fl 32 Sl) := by
    have g2 : (Sp ++ hd ++ ci_fl 32 Sl).Perm (Sp ++ hd ++ (Sl s ++ ci_fl 32 (va_up Sl s []))) := e1.append_left _
    have g3 : (Sp ++ hd ++ (Sl s ++ ci_fl 32 (va_up Sl s []))).Perm ((Sl s ++ Sp) ++ hd ++ ci_fl 32 (va_up Sl s [])) := by
      have : (Sp ++ hd ++ (Sl s ++ ci_fl 32 (va_up Sl s []))) = ((Sp ++ hd) ++ Sl s) ++ ci_fl 32 (va_up Sl s []) := by simp
      rw [this]
      refine List.Perm.append_right _ ?_
      have g4 : ((Sp ++ hd) ++ Sl s).Perm (Sl s ++ (Sp ++ hd)) := List.perm_append_comm
      simpa using g4
    exact (g2.trans g3).symm
  have htl : ∀ c, hv_q v (fa 6) s = some c → c ∈ Sl s := fun c hc => by rw [(h5 s hs).2.1] at hc; exact List.mem_of_getLast? hc
  have hSpn : ∀ c, c ∈ Sp → ¬ hv_q v (fa 6) s = some c := fun c hc q => (List.nodup_append.mp h1).2.2 c (List.mem_append_left _ hc) c (ci_fl_mem hs (htl c q)) rfl
  have hSp1 : ci_ch v1 (hv_p v 103 (fa 2)) Sp := ci_chF _ _ (fun c hc => by rw [hp7, if_neg (hSpn c hc)]) h4
  refine ⟨Sl s ++ Sp, hp'.nodup_iff.mpr h1, by rw [hp'.length_eq]; exact h2, h2', fun c hc => ?_, ?_, fun s' hs' => ?_⟩
  · rw [hk, hi 3 c (by simp), hi 4 c (by simp)]; exact h3 c (hp'.mem_iff.mp hc)
  · rw [hp3]
    cases hz : hv_q v (fa 6) s with
    | none =>
      have hn0 : Sl s = [] := by
        have := (h5 s hs).2.1
        rw [hz] at this
        exact List.getLast?_eq_none_iff.mp this.symm
      rw [hn0, if_pos rfl]
      exact hSp1
    | some z =>
      rw [if_neg (fun q => by cases q)]
      have hgl : (Sl s).getLast? = some z := by rw [← (h5 s hs).2.1]; exact hz
      have hnd : (Sl s).Nodup := (List.nodup_append.mp (e1.nodup_iff.mp (List.nodup_append.mp h1).2.1)).1
      exact ci_ch_cat _ _ (h5 s hs).1 hnd hgl (by rw [hp7, if_pos hz]) hSp1 (fun c hc hcz => by rw [hp7, hz, if_neg (fun q => hcz (Option.some.inj q).symm)])
  · by_cases e : s' = s
    · subst e
      rw [va_up_self, hq5, if_pos rfl, hq6, if_pos rfl]
      exact ⟨rfl, rfl, fun c hc => by cases hc⟩
    · rw [va_up_ne _ _ e, hq5, if_neg e, hq6, if_neg e]
      refine ⟨ci_chF _ _ (fun c hc => ?_) (h5 s' hs').1, (h5 s' hs').2.1, fun c hc => ?_⟩
      · rw [hp7, if_neg (fun q => e (ci_apart h0 hs' hs hc (htl c q)))]
      · rw [hi 0 c (by simp)]; exact (h5 s' hs').2.2 c hc
/-- between slots, when all begins anew -/
def ci_Z (fa : Nat → Nat) (n : Nat) (w u : Nat → Nat) (b : Nat) (d : Nat → Nat → Nat) (g : Nat × Nat) (k : Nat) (hd : List Nat) (i : Nat) (v : hv_V) : Prop :=
  cs_S fa n v ∧ ci_V fa n w u b d v ∧ (∃ (Sl : Nat → List Nat) (Sp : List Nat), ci_L fa n k hd Sl Sp v ∧ ∀ s, s < i → Sl s = []) ∧ hv_n v = g.1 + k ∧ hv_t v = g.2 + 8 * k
theorem ci_Z0 (h : ci_I fa n w u b d g k hd v) : ci_Z fa n w u b d g k hd 0 v := by
  obtain ⟨hS, hV, ⟨Sl, Sp, hL, ho⟩, hE⟩ := h
  exact ⟨hS, hV, ⟨Sl, Sp, hL, fun s hs => absurd hs (by omega)⟩, hE⟩
theorem ci_Zs (h : ci_Z fa n w u b d g k hd s v) (hs : s < 32) (hk : ∀ c, hv_k v1 c = hv_k v c) (hi : ∀ f c, hv_i v1 f c = hv_i v f c) (haa : ∀ c j, hv_a v1 c j = hv_a v c j) (hpo : ∀ f c, f ≠ 103 → f ≠ 7 → hv_p v1 f c = hv_p v f c)
    (hp3 : hv_p v1 103 (fa 2) = if hv_q v (fa 6) s = none then hv_p v 103 (fa 2) else hv_q v (fa 5) s) (hp7 : ∀ c, hv_p v1 7 c = if hv_q v (fa 6) s = some c then hv_p v 103 (fa 2) else hv_p v 7 c)
    (hq5 : ∀ j, hv_q v1 (fa 5) j = if j = s then none else hv_q v (fa 5) j) (hq6 : ∀ j, hv_q v1 (fa 6) j = if j = s then none else hv_q v (fa 6) j) (hqo : ∀ c j, c ≠ fa 5 → c ≠ fa 6 → hv_q v1 c j = hv_q v c j) (hn : hv_n v1 = hv_n v) (ht : hv_t v1 = hv_t v) : ci_Z fa n w u b d g k hd (s + 1) v1 := by
  obtain ⟨hS, hV, ⟨Sl, Sp, hL, hz⟩, hE⟩ := h
  obtain ⟨Sp', hL'⟩ := ci_mv hL hs hk (fun f c _ => hi f c) hp3 hp7 hq5 hq6
  refine ⟨cs_S_of hS hk hpo hqo, ci_V_of hV (fun f c _ _ _ _ _ => hi f c) (fun i j _ => haa _ _), ⟨_, Sp', hL', fun s' hs' => ?_⟩, by rw [hn, ht]; exact hE⟩
  by_cases e : s' = s
  · rw [e, va_up_self]
  · rw [va_up_ne _ _ e]; exact hz s' (by omega)
theorem ci_Zend (h : ci_Z fa n w u b d g k hd 32 v) (x1 x2 x3 : Int32) : ci_I fa n w u b d g k hd (hv_si (hv_si (hv_si (hv_si (hv_si v 104 (fa 2) 0) 105 (fa 2) x1) 106 (fa 2) x2) 107 (fa 2) x3) 108 (fa 2) 0) := by
  obtain ⟨hS, ⟨h1, h2, h3, h4, h5, h6, h7⟩, ⟨Sl, Sp, hL, hz⟩, hE⟩ := h
  have hf : ci_fl 32 Sl = [] := by
    cases hc : ci_fl 32 Sl with
    | nil => rfl
    | cons a r =>
      obtain ⟨s, hs, ha⟩ := ci_fl_of (N := 32) (Sl := Sl) (a := a) (by rw [hc]; exact List.mem_cons_self)
      rw [hz s hs] at ha
      cases ha
  refine ⟨hS, ⟨h1, h2, h3, h4, ⟨0, by omega, ?_⟩, h6, h7⟩, ⟨Sl, Sp, ci_L_of hL (fun _ => rfl) (fun f c hf => ?_) (fun _ => rfl) rfl (fun _ => ⟨rfl, rfl⟩), ?_⟩, hE⟩
  · simp [hv_si_i]; exact nI_0.symm
  · rcases hf with rfl | rfl | rfl <;> simp [hv_si_i]
  · rw [hf]; simp [hv_si_i]; exact nI_0.symm
end CMV
