theorem ci_chF {v v1 : hv_V} : ∀ (r : List Nat) (p : Option Nat), (∀ a ∈ r, hv_p v1 7 a = hv_p v 7 a) → ci_ch v p r → ci_ch v1 p r
  | [], _, _, q => q
  | a :: r, _, h, q => ⟨q.1, by rw [h a List.mem_cons_self]; exact ci_chF r _ (fun b hb => h b (List.mem_cons_of_mem _ hb)) q.2⟩
theorem ci_ch_none {v : hv_V} {r : List Nat} (h : ci_ch v none r) : r = [] := by
  cases r with
  | nil => rfl
  | cons a r => exact absurd h.1 (by intro q; cases q)
theorem ci_ch_some {v : hv_V} {r : List Nat} {a : Nat} (h : ci_ch v (some a) r) : ∃ r', r = a :: r' ∧ ci_ch v (hv_p v 7 a) r' := by
  cases r with
  | nil => exact absurd h (by intro q; cases q)
  | cons b r =>
    have e : a = b := Option.some.inj h.1
    subst e
    exact ⟨r, rfl, h.2⟩
/-- behind the last of a chain comes another one -/
theorem ci_ch_add {v v1 : hv_V} {a z : Nat} : ∀ (r : List Nat) (p : Option Nat), ci_ch v p r → r.Nodup → r.getLast? = some z → a ∉ r → hv_p v1 7 a = none → hv_p v1 7 z = some a → (∀ b, b ∈ r → b ≠ z → hv_p v1 7 b = hv_p v 7 b) → ci_ch v1 p (r ++ [a])
  | [], _, _, _, h, _, _, _, _ => by simp at h
  | [b], p, h, _, hz, _, h1, h2, _ => by
    have e : b = z := by simpa using hz
    subst e
    exact ⟨h.1, by rw [h2]; exact ⟨rfl, by rw [h1]; exact rfl⟩⟩
  | b :: c :: r, p, h, hn, hz, ha, h1, h2, h3 => by
    have hz' : (c :: r).getLast? = some z := by simpa [List.getLast?_cons_cons] using hz
    have hzm : z ∈ c :: r := List.mem_of_getLast? hz'
    have hbz : b ≠ z := fun e => (List.nodup_cons.mp hn).1 (e ▸ hzm)
    refine ⟨h.1, ?_⟩
    rw [h3 b List.mem_cons_self hbz]
    exact ci_ch_add (c :: r) _ h.2 (List.nodup_cons.mp hn).2 hz' (fun q => ha (List.mem_cons_of_mem _ q)) h1 h2 (fun x hx => h3 x (List.mem_cons_of_mem _ hx))
theorem ci_fl_s (N : Nat) (Sl : Nat → List Nat) : ci_fl (N + 1) Sl = ci_fl N Sl ++ Sl N := by simp [ci_fl, List.range_succ]
theorem ci_fl_eq {N : Nat} {Sl Sl' : Nat → List Nat} (h : ∀ s, s < N → Sl' s = Sl s) : ci_fl N Sl' = ci_fl N Sl := by
  induction N with
  | zero => rfl
  | succ N ih => rw [ci_fl_s, ci_fl_s, ih (fun s hs => h s (by omega)), h N (by omega)]
/-- one slot's messages ahead of the others' -/
theorem ci_fl_perm {N s : Nat} (Sl : Nat → List Nat) (hs : s < N) : (ci_fl N Sl).Perm (Sl s ++ ci_fl N (va_up Sl s [])) := by
  induction N with
  | zero => omega
  | succ N ih =>
    rw [ci_fl_s, ci_fl_s]
    by_cases h : s = N
    · subst h
      rw [va_up_self, List.append_nil, ci_fl_eq (Sl := Sl) (Sl' := va_up Sl s []) (fun q hq => va_up_ne _ _ (by omega))]
      exact List.perm_append_comm
    · rw [va_up_ne _ _ (show N ≠ s by omega), ← List.append_assoc]
      exact (ih (by omega)).append_right _
theorem ci_fl_up {N s : Nat} (Sl : Nat → List Nat) (l : List Nat) (hs : s < N) : (ci_fl N (va_up Sl s l)).Perm (l ++ ci_fl N (va_up Sl s [])) := by
  have h := ci_fl_perm (va_up Sl s l) hs
  rw [va_up_self] at h
  have e : va_up (va_up Sl s l) s [] = va_up Sl s [] := by
    funext q
    by_cases hq : q = s <;> simp [va_up, hq]
  rw [e] at h
  exact h
theorem ci_fl_mem {N s : Nat} {Sl : Nat → List Nat} {a : Nat} (hs : s < N) (h : a ∈ Sl s) : a ∈ ci_fl N Sl := List.mem_flatMap.mpr ⟨s, List.mem_range.mpr hs, h⟩
theorem ci_fl_of {N : Nat} {Sl : Nat → List Nat} {a : Nat} (h : a ∈ ci_fl N Sl) : ∃ s, s < N ∧ a ∈ Sl s := by
  obtain ⟨s, h1, h2⟩ := List.mem_flatMap.mp h
  exact ⟨s, List.mem_range.mp h1, h2⟩
section CHL
variable {fa : Nat → Nat} {n k : Nat} {hd : List Nat} {Sl : Nat → List Nat} {Sp : List Nat} {v v1 : hv_V}
/-- two slots have nothing in common -/
theorem ci_apart (h : ci_L fa n k hd Sl Sp v) {s s' a : Nat} (hs : s < 32) (hs' : s' < 32) (ha : a ∈ Sl s) (ha' : a ∈ Sl s') : s = s' := by
  refine Classical.byContradiction fun hne => ?_
  have hn : (ci_fl 32 Sl).Nodup := (List.nodup_append.mp h.1).2.1
  have hp := (ci_fl_perm Sl hs).nodup_iff.mp hn
  have hin : a ∈ ci_fl 32 (va_up Sl s []) := ci_fl_mem hs' (by rw [va_up_ne _ _ (Ne.symm hne)]; exact ha')
  exact (List.nodup_append.mp hp).2.2 a ha a hin rfl
theorem ci_L_mem (h : ci_L fa n k hd Sl Sp v) {s a : Nat} (hs : s < 32) (ha : a ∈ Sl s) : a ∈ Sp ++ hd ++ ci_fl 32 Sl := List.mem_append_right _ (ci_fl_mem hs ha)
/-- the first of the spare ones is taken -/
theorem ci_pop {a : Nat} (h : ci_L fa n k hd Sl Sp v) (hs : hv_p v 103 (fa 2) = some a) : ∃ Sp', ci_L fa n k (a :: hd) Sl Sp' (hv_sp v 103 (fa 2) (hv_p v 7 a)) := by
  obtain ⟨h1, h2, h2', h3, h4, h5⟩ := h
  rw [hs] at h4
  obtain ⟨Sp', rfl, h4n⟩ := ci_ch_some h4
  have hp : (Sp' ++ (a :: hd) ++ ci_fl 32 Sl).Perm ((a :: Sp') ++ hd ++ ci_fl 32 Sl) := by
    refine List.Perm.append_right _ ?_
    exact List.perm_middle
  refine ⟨Sp', hp.nodup_iff.mpr h1, by rw [hp.length_eq]; exact h2, h2', fun b hb => h3 b (hp.mem_iff.mp hb), ?_, fun s hs' => ⟨?_, (h5 s hs').2⟩⟩
  · rw [hv_sp_p, if_pos ⟨rfl, rfl⟩]
    exact ci_chE (fun b => by rw [hv_sp_p, if_neg (fun q => absurd q.1 (by decide))]) _ _ h4n
  · exact ci_chE (fun b => by rw [hv_sp_p, if_neg (fun q => absurd q.1 (by decide))]) _ _ (h5 s hs').1
/-- a message goes to the spare ones -/
theorem ci_push {a : Nat} (h : ci_L fa n k (a :: hd) Sl Sp v) : ci_L fa n k hd Sl (a :: Sp) (hv_sp (hv_sp v 7 a (hv_p v 103 (fa 2))) 103 (fa 2) (some a)) := by
  obtain ⟨h1, h2, h2', h3, h4, h5⟩ := h
  have hp : (Sp ++ (a :: hd) ++ ci_fl 32 Sl).Perm ((a :: Sp) ++ hd ++ ci_fl 32 Sl) := by
    refine List.Perm.append_right _ ?_
    exact List.perm_middle
  have hn := hp.nodup_iff.mp h1
  have hna : a ∉ Sp ++ hd ++ ci_fl 32 Sl := by
    have : (a :: (Sp ++ hd ++ ci_fl 32 Sl)).Nodup := by simpa using hn
    exact (List.nodup_cons.mp this).1
  have key : ∀ b, b ≠ a → hv_p (hv_sp (hv_sp v 7 a (hv_p v 103 (fa 2))) 103 (fa 2) (some a)) 7 b = hv_p v 7 b := fun b hb => by
    rw [hv_sp_p, if_neg (fun q => absurd q.1 (by decide)), hv_sp_p, if_neg (fun q => hb q.2)]
  refine ⟨hn, by rw [← hp.length_eq]; exact h2, h2', fun b hb => h3 b (hp.mem_iff.mpr hb), ?_, fun s hs' => ⟨?_, (h5 s hs').2⟩⟩
  · refine ⟨by rw [hv_sp_p, if_pos ⟨rfl, rfl⟩], ?_⟩
    rw [hv_sp_p, if_neg (fun q => absurd q.1 (by decide)), hv_sp_p, if_pos ⟨rfl, rfl⟩]
    exact ci_chF _ _ (fun b hb => key b (fun e => hna (by rw [← e]; simp [hb]))) h4
  · exact ci_chF _ _ (fun b hb => key b (fun e => hna (by rw [← e]; exact List.mem_append_right _ (ci_fl_mem hs' hb)))) (h5 s hs').1
/-- the first of a slot is taken off -/
theorem ci_take {a s : Nat} (h : ci_L fa n k hd Sl Sp v) (hs : s < 32) (ha : hv_q v (fa 5) s = some a) (h56 : fa 5 ≠ fa 6)
    (hk : ∀ b, hv_k v1 b = hv_k v b) (hi : ∀ f b, f = 0 ∨ f = 3 ∨ f = 4 → hv_i v1 f b = hv_i v f b) (hp : ∀ f b, hv_p v1 f b = hv_p v f b) (hq5 : ∀ j, hv_q v1 (fa 5) j = if j = s then hv_p v 7 a else hv_q v (fa 5) j) (hq6 : ∀ j, hv_q v1 (fa 6) j = if j = s ∧ hv_p v 7 a = none then none else hv_q v (fa 6) j) :
    ∃ Sl', ci_L fa n k (a :: hd) Sl' Sp v1 ∧ (ci_fl 32 Sl').length + 1 = (ci_fl 32 Sl).length := by
  have h0 := h
  obtain ⟨h1, h2, h2', h3, h4, h5⟩ := h
  have hc := (h5 s hs).1
  rw [ha] at hc
  obtain ⟨r, hr, hcn⟩ := ci_ch_some hc
  have e1 := ci_fl_perm Sl hs
  have e2 := ci_fl_up Sl r hs
  rw [hr] at e1
  have hfl : (ci_fl 32 Sl).Perm (a :: ci_fl 32 (va_up Sl s r)) := e1.trans (by simpa using (e2.symm.cons a))
  have hp' : (Sp ++ (a :: hd) ++ ci_fl 32 (va_up Sl s r)).Perm (Sp ++ hd ++ ci_fl 32 Sl) := by
    have g1 : (Sp ++ (a :: hd) ++ ci_fl 32 (va_up Sl s r)).Perm (a :: (Sp ++ hd ++ ci_fl 32 (va_up Sl s r))) := by
      have := (List.perm_middle (a := a) (l₁ := Sp) (l₂ := hd)).append_right (ci_fl 32 (va_up Sl s r))
      simpa using this
    have g2 : (Sp ++ hd ++ ci_fl 32 Sl).Perm (a :: (Sp ++ hd ++ ci_fl 32 (va_up Sl s r))) := (hfl.append_left (Sp ++ hd)).trans List.perm_middle
    exact g1.trans g2.symm
  have hch : ∀ (p : Option Nat) (r : List Nat), ci_ch v p r → ci_ch v1 p r := fun p r q => ci_chE (fun b => hp 7 b) _ _ q
  refine ⟨va_up Sl s r, ⟨hp'.nodup_iff.mpr h1, by rw [hp'.length_eq]; exact h2, h2', fun b hb => ?_, ?_, fun s' hs' => ?_⟩, ?_⟩
  · rw [hk, hi 3 b (by simp), hi 4 b (by simp)]; exact h3 b (hp'.mem_iff.mp hb)
  · rw [hp]; exact hch _ _ h4
  · by_cases e : s' = s
    · subst e
      rw [va_up_self, hq5, if_pos rfl, hq6]
      refine ⟨hch _ _ hcn, ?_, fun b hb => ?_⟩
      · cases hnx : hv_p v 7 a with
        | none =>
          rw [hnx] at hcn
          rw [ci_ch_none hcn, if_pos ⟨rfl, rfl⟩]; rfl
        | some z =>
          rw [if_neg (fun q => by cases q.2), (h5 s' hs').2.1, hr]
          rw [hnx] at hcn
          obtain ⟨r', rfl, -⟩ := ci_ch_some hcn
          rw [List.getLast?_cons_cons]
      · rw [hi 0 b (by simp)]
        exact (h5 s' hs').2.2 b (by rw [hr]; exact List.mem_cons_of_mem _ hb)
    · rw [va_up_ne _ _ e, hq5, if_neg e, hq6, if_neg (fun q => e q.1)]
      exact ⟨hch _ _ (h5 s' hs').1, (h5 s' hs').2.1, fun b hb => by rw [hi 0 b (by simp)]; exact (h5 s' hs').2.2 b hb⟩
  · have := hfl.length_eq
    simp at this
    omega
/-- a message is put on a slot's end -/
theorem ci_app {a s t : Nat} (h : ci_L fa n k (a :: hd) Sl Sp v) (hs : s < 32) (ht : t ≤ 4020) (hts : t % 32 = s)
    (hk : ∀ b, hv_k v1 b = hv_k v b) (hi : ∀ f b, f = 3 ∨ f = 4 → hv_i v1 f b = hv_i v f b) (hi0 : ∀ b, hv_i v1 0 b = if b = a then nI t else hv_i v 0 b) (hp3 : hv_p v1 103 (fa 2) = hv_p v 103 (fa 2))
    (hp7 : ∀ b, hv_p v1 7 b = if b = a then none else if hv_q v (fa 6) s = some b then some a else hv_p v 7 b) (hq5 : ∀ j, hv_q v1 (fa 5) j = if j = s ∧ hv_q v (fa 6) s = none then some a else hv_q v (fa 5) j) (hq6 : ∀ j, hv_q v1 (fa 6) j = if j = s then some a else hv_q v (fa 6) j) :
    ∃ Sl', ci_L fa n k hd Sl' Sp v1 ∧ (ci_fl 32 Sl').length = (ci_fl 32 Sl).length + 1 := by
  have h0 := h
  obtain ⟨h1, h2, h2', h3, h4, h5⟩ := h
  have e1 := ci_fl_perm Sl hs
  have e2 := ci_fl_up Sl (Sl s ++ [a]) hs
  have hfl : (ci_fl 32 (va_up Sl s (Sl s ++ [a]))).Perm (a :: ci_fl 32 Sl) := by
    refine e2.trans ?_
    have g : ((Sl s ++ [a]) ++ ci_fl 32 (va_up Sl s [])).Perm (a :: (Sl s ++ ci_fl 32 (va_up Sl s []))) := by
      simpa using (List.perm_middle (a := a) (l₁ := Sl s) (l₂ := ci_fl 32 (va_up Sl s [])))
    exact g.trans (e1.symm.cons a)
  have hp' : (Sp ++ hd ++ ci_fl 32 (va_up Sl s (Sl s ++ [a]))).Perm (Sp ++ (a :: hd) ++ ci_fl 32 Sl) := by
    have g1 : (Sp ++ (a :: hd) ++ ci_fl 32 Sl).Perm (a :: (Sp ++ hd ++ ci_fl 32 Sl)) := by
      have := (List.perm_middle (a := a) (l₁ := Sp) (l₂ := hd)).append_right (ci_fl 32 Sl)
      simpa using this
    exact ((hfl.append_left (Sp ++ hd)).trans List.perm_middle).trans g1.symm
  have hna : a ∉ Sp ++ hd ++ ci_fl 32 Sl := by
    have g1 : (Sp ++ (a :: hd) ++ ci_fl 32 Sl).Perm (a :: (Sp ++ hd ++ ci_fl 32 Sl)) := by
      have := (List.perm_middle (a := a) (l₁ := Sp) (l₂ := hd)).append_right (ci_fl 32 Sl)
      simpa using this
    exact (List.nodup_cons.mp (g1.nodup_iff.mp h1)).1
  have hflm : ∀ s', s' < 32 → ∀ b, b ∈ Sl s' → b ≠ a := fun s' hs' b hb e => hna (List.mem_append_right _ (ci_fl_mem hs' (e ▸ hb)))
  have htl : ∀ b, hv_q v (fa 6) s = some b → b ∈ Sl s := fun b hb => by rw [(h5 s hs).2.1] at hb; exact List.mem_of_getLast? hb
  have hSpn : ∀ b, b ∈ Sp → b ≠ a ∧ ¬ hv_q v (fa 6) s = some b := fun b hb => by
    refine ⟨fun e => hna (e ▸ (List.mem_append_left _ (List.mem_append_left _ hb))), fun q => ?_⟩
    have hb2 := ci_fl_mem hs (htl b q)
    have hd' := (List.nodup_append.mp h1).2.2
    exact hd' b (List.mem_append_left _ hb) b hb2 rfl
  refine ⟨va_up Sl s (Sl s ++ [a]), ⟨hp'.nodup_iff.mpr h1, by rw [hp'.length_eq]; exact h2, h2', fun b hb => ?_, ?_, fun s' hs' => ?_⟩, ?_⟩
  · rw [hk, hi 3 b (by simp), hi 4 b (by simp)]; exact h3 b (hp'.mem_iff.mp hb)
  · rw [hp3]
    exact ci_chF _ _ (fun b hb => by rw [hp7, if_neg (hSpn b hb).1, if_neg (hSpn b hb).2]) h4
  · by_cases e : s' = s
    · subst e
      rw [va_up_self, hq6, if_pos rfl, hq5]
      refine ⟨?_, by simp, fun b hb => ?_⟩
      · cases hz : hv_q v (fa 6) s' with
        | none =>
          have hn0 : Sl s' = [] := by
            have := (h5 s' hs').2.1
            rw [hz] at this
            exact List.getLast?_eq_none_iff.mp this.symm
          rw [hn0, if_pos ⟨rfl, rfl⟩]
          exact ⟨rfl, by rw [hp7, if_pos rfl]; exact rfl⟩
        | some z =>
          rw [if_neg (fun q => by cases q.2)]
          have hgl : (Sl s').getLast? = some z := by rw [← (h5 s' hs').2.1]; exact hz
          have hnd : (Sl s').Nodup := (List.nodup_append.mp (e1.nodup_iff.mp (List.nodup_append.mp h1).2.1)).1
          have hza : z ≠ a := hflm s' hs' z (List.mem_of_getLast? hgl)
          exact ci_ch_add _ _ (h5 s' hs').1 hnd hgl (fun q => hflm s' hs' a q rfl) (by rw [hp7, if_pos rfl]) (by rw [hp7, if_neg hza, if_pos hz]) (fun b hb hbz => by rw [hp7, if_neg (hflm s' hs' b hb), hz, if_neg (fun q => hbz (Option.some.inj q).symm)])
      · rcases List.mem_append.mp hb with hb | hb
        · rw [hi0, if_neg (hflm s' hs' b hb)]
          exact (h5 s' hs').2.2 b hb
        · rw [List.mem_singleton.mp hb, hi0, if_pos rfl]
          exact ⟨t, ht, hts, rfl⟩
    · rw [va_up_ne _ _ e, hq5, if_neg (fun q => e q.1), hq6, if_neg e]
      refine ⟨ci_chF _ _ (fun b hb => ?_) (h5 s' hs').1, (h5 s' hs').2.1, fun b hb => ?_⟩
      · rw [hp7, if_neg (hflm s' hs' b hb), if_neg (fun q => e (ci_apart h0 hs' hs hb (htl b q)))]
      · rw [hi0, if_neg (hflm s' hs' b hb)]
        exact (h5 s' hs').2.2 b hb
  · have := hfl.length_eq
    simpa using this
end CHL
