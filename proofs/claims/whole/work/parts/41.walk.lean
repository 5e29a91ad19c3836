/-! ===== the walk of a packet's places ===== -/
theorem pigeon : ∀ (l n : Nat) (P : Nat → Nat), (∀ r, r < l → ∃ i, i < n ∧ P i = r) → l ≤ n
  | 0, _, _, _ => Nat.zero_le _
  | l + 1, n, P, h => by
    obtain ⟨i, hi, hP⟩ := h l (by omega)
    have h1 : l ≤ n - 1 := by
      refine pigeon l (n - 1) (fun j => if j = i then P (n - 1) else P j) (fun r hr => ?_)
      obtain ⟨j, hj, hj2⟩ := h r (by omega)
      have hne : j ≠ i := fun h => by subst h; omega
      by_cases hl : j = n - 1
      · refine ⟨i, by omega, ?_⟩
        rw [if_pos rfl, ← hl, hj2]
      · refine ⟨j, by omega, ?_⟩
        show (if j = i then P (n - 1) else P j) = r
        rw [if_neg hne]; exact hj2
    omega
/-- the least one that is not hit -/
theorem inv_tab : ∀ l, l < 60 → 12 ≤ l → ∀ s, s < lpN l → 1 ≤ s → ∃ i, i < lpN l ∧ (i * s) % lpN l = 1 := by decide +kernel
theorem walk_onto {l a st : Nat} (h1 : l < 60) (h2 : 12 ≤ l) (ha : a < lpN l) (hs : st < lpN l) (hs1 : 1 ≤ st) {r : Nat} (hr : r < lpN l) : ∃ i, i < lpN l ∧ (a + i * st) % lpN l = r := by
  obtain ⟨v, _, hv⟩ := inv_tab l h1 h2 st hs hs1
  generalize hP : lpN l = P at *
  refine ⟨((r + P - a) * v) % P, Nat.mod_lt _ (by omega), ?_⟩
  have e1 : (((r + P - a) * v) % P * st) % P = (r + P - a) % P := by
    rw [Nat.mod_mul_mod, Nat.mul_assoc, Nat.mul_mod, hv, Nat.mul_one, Nat.mod_mod]
  rw [Nat.add_mod, e1, ← Nat.add_mod, show a + (r + P - a) = r + P by omega, Nat.add_mod_right, Nat.mod_eq_of_lt hr]
theorem walk_inj {l a st : Nat} (h1 : l < 60) (h2 : 12 ≤ l) (hs : st < lpN l) (hs1 : 1 ≤ st) {i j : Nat} (hi : i < lpN l) (hj : j < lpN l) (h : (a + i * st) % lpN l = (a + j * st) % lpN l) : i = j := by
  obtain ⟨v, _, hv⟩ := inv_tab l h1 h2 st hs hs1
  generalize hP : lpN l = P at *
  have hmul : ∀ x, ((a + x * st) % P * v) % P = (a * v + x) % P := fun x => by
    rw [Nat.mod_mul_mod, Nat.add_mul, Nat.add_mod, Nat.mul_assoc, Nat.mul_comm st v, Nat.mul_mod x, hv, Nat.mul_one, Nat.mod_mod, ← Nat.add_mod]
  have h3 : (a * v + i) % P = (a * v + j) % P := by rw [← hmul, ← hmul, h]
  generalize a * v = b at h3
  have e1 := Nat.div_add_mod (b + i) P
  have e2 := Nat.div_add_mod (b + j) P
  rw [← h3] at e2
  generalize (b + i) / P = q1 at e1
  generalize (b + j) / P = q2 at e2
  generalize (b + i) % P = m at e1 e2
  rcases Nat.lt_trichotomy q1 q2 with h5 | h5 | h5
  · have : P * (q1 + 1) ≤ P * q2 := Nat.mul_le_mul_left _ h5
    rw [Nat.mul_succ] at this
    omega
  · subst h5; omega
  · have : P * (q2 + 1) ≤ P * q1 := Nat.mul_le_mul_left _ h5
    rw [Nat.mul_succ] at this
    omega
/-- the state after i rounds: the first v places are the hits so far, in order -/
def WkOk (L P a st i : Nat) (s : (Nat → Nat) × Nat × Nat) : Prop :=
  s.2.2 = (a + i * st) % P ∧ (∀ j, j < s.2.1 → s.1 j < L ∧ ∃ q, q < i ∧ s.1 j = (a + q * st) % P) ∧ (∀ q, q < i → (a + q * st) % P < L → ∃ j, j < s.2.1 ∧ s.1 j = (a + q * st) % P) ∧ (∀ j j', j < s.2.1 → j' < s.2.1 → s.1 j = s.1 j' → j = j')
theorem wk_step {l a st i : Nat} {s : (Nat → Nat) × Nat × Nat} (h1 : l < 60) (h2 : 12 ≤ l) (hs : st < lpN l) (hs1 : 1 ≤ st) (hi : i < lpN l) (h : WkOk l (lpN l) a st i s) : WkOk l (lpN l) a st (i + 1) (pkStep l (lpN l) st s) := by
  obtain ⟨e1, e2, e3, e4⟩ := h
  unfold pkStep
  refine ⟨?_, ?_, ?_, ?_⟩
  · show (s.2.2 + st) % lpN l = _
    rw [e1, Nat.mod_add_mod, Nat.succ_mul, Nat.add_assoc]
  · intro j hj
    by_cases hl : s.2.2 < l
    · simp only [if_pos hl] at hj ⊢
      by_cases hjn : j = s.2.1
      · subst hjn; rw [va_up_self]; exact ⟨hl, i, by omega, e1⟩
      · rw [va_up_ne _ _ hjn]
        obtain ⟨q1, q, q2, q3⟩ := e2 j (by omega)
        exact ⟨q1, q, by omega, q3⟩
    · simp only [if_neg hl] at hj ⊢
      obtain ⟨q1, q, q2, q3⟩ := e2 j hj
      exact ⟨q1, q, by omega, q3⟩
  · intro q hq hql
    by_cases hl : s.2.2 < l
    · simp only [if_pos hl]
      by_cases hqi : q = i
      · subst hqi; exact ⟨s.2.1, by omega, by rw [va_up_self, e1]⟩
      · obtain ⟨j, hj, hj2⟩ := e3 q (by omega) hql
        exact ⟨j, by omega, by rw [va_up_ne _ _ (by omega)]; exact hj2⟩
    · simp only [if_neg hl]
      by_cases hqi : q = i
      · subst hqi; rw [← e1] at hql; exact absurd hql hl
      · exact e3 q (by omega) hql
  · intro j j' hj hj' hjj
    by_cases hl : s.2.2 < l
    · simp only [if_pos hl] at hj hj' hjj
      have key : ∀ j, j < s.2.1 → s.1 j ≠ s.2.2 := fun j hj hx => by
        obtain ⟨_, q, q2, q3⟩ := e2 j hj
        have := walk_inj h1 h2 hs hs1 (i := q) (j := i) (a := a) (by omega) hi (by rw [← q3, hx, e1])
        omega
      by_cases hx : j = s.2.1 <;> by_cases hy : j' = s.2.1
      · omega
      · subst hx; rw [va_up_self, va_up_ne _ _ hy] at hjj; exact absurd hjj.symm (key j' (by omega))
      · subst hy; rw [va_up_self, va_up_ne _ _ hx] at hjj; exact absurd hjj (key j (by omega))
      · rw [va_up_ne _ _ hx, va_up_ne _ _ hy] at hjj; exact e4 j j' (by omega) (by omega) hjj
    · simp only [if_neg hl] at hj hj' hjj
      exact e4 j j' hj hj' hjj
theorem wk_run {l a st d : Nat} (h1 : l < 60) (h2 : 12 ≤ l) (hs : st < lpN l) (hs1 : 1 ≤ st) : ∀ (n i : Nat) (s : (Nat → Nat) × Nat × Nat), i + n ≤ lpN l → WkOk l (lpN l) a st i s → s.2.1 ≤ d → ∃ i', WkOk l (lpN l) a st i' (pkRun l (lpN l) st d n s) ∧ (pkRun l (lpN l) st d n s).2.1 ≤ d ∧ i' ≤ i + n ∧ ((pkRun l (lpN l) st d n s).2.1 = d ∨ i' = i + n)
  | 0, i, s, _, h, hd => ⟨i, h, hd, Nat.le_refl _, Or.inr rfl⟩
  | n + 1, i, s, hn, h, hd => by
    unfold pkRun
    split
    · rename_i hlt
      have h3 : (pkStep l (lpN l) st s).2.1 ≤ d := by
        unfold pkStep
        show (if s.2.2 < l then s.2.1 + 1 else s.2.1) ≤ d
        split <;> omega
      obtain ⟨i', q1, q2, q3, q4⟩ := wk_run h1 h2 hs hs1 n (i + 1) _ (by omega) (wk_step h1 h2 hs hs1 (by omega) h) h3
      exact ⟨i', q1, q2, by omega, by omega⟩
    · exact ⟨i, h, hd, by omega, Or.inl (by omega)⟩
theorem pkD_le (k x t : Nat) : pkD k x t ≤ k + 11 := by unfold pkD; omega
theorem pkD_pos (k x t : Nat) : 1 ≤ pkD k x t := by unfold pkD; have := szN_pos (chN (x + 65536 * t) 0 1000); omega
theorem pkA_lt {k : Nat} (x t : Nat) (hk : 1 ≤ k ∧ k ≤ 48) : pkA k x t < lpN (k + 11) := chN_lt _ _ (by have := lp_tab (k + 11) (by omega) (by omega); omega)
theorem pkT_lt {k : Nat} (x t : Nat) (hk : 1 ≤ k ∧ k ≤ 48) : pkT k x t < lpN (k + 11) ∧ 1 ≤ pkT k x t := by
  have h := lp_tab (k + 11) (by omega) (by omega)
  have := chN_lt (x + 65536 * t) 1 (m := lpN (k + 11) - 1) (by omega)
  unfold pkT
  omega
theorem wk_0 {L P a st : Nat} (p0 : Nat → Nat) (ha : a < P) : WkOk L P a st 0 (p0, 0, a) := ⟨by rw [Nat.zero_mul, Nat.add_zero, Nat.mod_eq_of_lt ha], fun j h => absurd h (Nat.not_lt_zero _), fun q h => absurd h (Nat.not_lt_zero _), fun j j' h => absurd h (Nat.not_lt_zero _)⟩
theorem pkOut_wk {k : Nat} (x t : Nat) (p0 : Nat → Nat) (hk : 1 ≤ k ∧ k ≤ 48) : (pkOut k x t p0).2.1 = pkD k x t ∧ ∃ i, WkOk (k + 11) (lpN (k + 11)) (pkA k x t) (pkT k x t) i (pkOut k x t p0) := by
  have hl := lp_tab (k + 11) (by omega) (by omega)
  rw [pkOut_eq]
  obtain ⟨i, q1, q2, q3, q4⟩ := wk_run (l := k + 11) (d := pkD k x t) (by omega) (by omega) (pkT_lt x t hk).1 (pkT_lt x t hk).2 (lpN (k + 11)) 0 (p0, 0, pkA k x t) (by omega) (wk_0 p0 (pkA_lt x t hk)) (Nat.zero_le _)
  refine ⟨?_, i, q1⟩
  rcases q4 with h | h
  · exact h
  · have h5 : k + 11 ≤ (pkRun (k + 11) (lpN (k + 11)) (pkT k x t) (pkD k x t) (lpN (k + 11)) (p0, 0, pkA k x t)).2.1 := by
      refine pigeon _ _ (pkRun (k + 11) (lpN (k + 11)) (pkT k x t) (pkD k x t) (lpN (k + 11)) (p0, 0, pkA k x t)).1 (fun r hr => ?_)
      obtain ⟨z, hz, hz2⟩ := walk_onto (l := k + 11) (by omega) (by omega) (pkA_lt x t hk) (pkT_lt x t hk).1 (pkT_lt x t hk).2 (r := r) (by omega)
      obtain ⟨j, hj, hj2⟩ := q1.2.2.1 z (by omega) (by omega)
      exact ⟨j, hj, by omega⟩
    have := pkD_le k x t
    omega
/-- two runs from different old rows agree on what they lay -/
theorem pkRun_pl {L P st d : Nat} : ∀ (n : Nat) (s s' : (Nat → Nat) × Nat × Nat), s.2 = s'.2 → (∀ j, j < s.2.1 → s.1 j = s'.1 j) → (pkRun L P st d n s).2 = (pkRun L P st d n s').2 ∧ ∀ j, j < (pkRun L P st d n s).2.1 → (pkRun L P st d n s).1 j = (pkRun L P st d n s').1 j
  | 0, s, s', h, h2 => ⟨h, h2⟩
  | n + 1, s, s', h, h2 => by
    unfold pkRun
    rw [← h]
    split
    · refine pkRun_pl n _ _ ?_ ?_
      · unfold pkStep; rw [← h]
      · intro j hj
        unfold pkStep at hj ⊢
        rw [← h]
        by_cases hl : s.2.2 < L
        · simp only [if_pos hl] at hj ⊢
          by_cases hjn : j = s.2.1
          · subst hjn; rw [va_up_self, va_up_self]
          · rw [va_up_ne _ _ hjn, va_up_ne _ _ hjn]; exact h2 j (by omega)
        · simp only [if_neg hl] at hj ⊢
          exact h2 j hj
    · exact ⟨h, h2⟩
/-- the places of a packet -/
noncomputable def pkP (k x t : Nat) : Nat → Nat := (pkOut k x t (fun _ => 0)).1
theorem pkOut_P {k : Nat} (x t : Nat) (p0 : Nat → Nat) (hk : 1 ≤ k ∧ k ≤ 48) : (pkOut k x t p0).2.1 = pkD k x t ∧ ∀ j, j < pkD k x t → (pkOut k x t p0).1 j = pkP k x t j := by
  refine ⟨(pkOut_wk x t p0 hk).1, fun j hj => ?_⟩
  unfold pkP
  have h1 := (pkOut_wk x t p0 hk).1
  rw [pkOut_eq] at h1
  rw [pkOut_eq, pkOut_eq]
  exact (pkRun_pl (lpN (k + 11)) (p0, 0, pkA k x t) (fun _ => 0, 0, pkA k x t) rfl (fun j h => absurd h (Nat.not_lt_zero _))).2 j (by omega)
theorem pkP_ok {k : Nat} (x t : Nat) (hk : 1 ≤ k ∧ k ≤ 48) : (∀ j, j < pkD k x t → pkP k x t j < k + 11) ∧ ∀ j j', j < pkD k x t → j' < pkD k x t → pkP k x t j = pkP k x t j' → j = j' := by
  obtain ⟨h1, i, h2⟩ := pkOut_wk x t (fun _ => 0) hk
  rw [← h1]
  exact ⟨fun j hj => (h2.2.1 j hj).1, h2.2.2.2⟩
/-- whether a place is of a row of places -/
noncomputable def mkR (pl : Nat → Nat) (v c : Nat) : Nat := by
  classical
  exact if ∃ j, j < v ∧ pl j = c then 1 else 0
theorem mkR_1 {pl : Nat → Nat} {v c : Nat} (h : ∃ j, j < v ∧ pl j = c) : mkR pl v c = 1 := by unfold mkR; rw [if_pos h]
theorem mkR_0 {pl : Nat → Nat} {v c : Nat} (h : ¬ ∃ j, j < v ∧ pl j = c) : mkR pl v c = 0 := by unfold mkR; rw [if_neg h]
theorem mkR_le (pl : Nat → Nat) (v c : Nat) : mkR pl v c ≤ 1 := by
  by_cases h : ∃ j, j < v ∧ pl j = c
  · rw [mkR_1 h]; exact Nat.le_refl _
  · rw [mkR_0 h]; exact Nat.zero_le _
theorem mkR_up (pl : Nat → Nat) (v a : Nat) : mkR (va_up pl v a) (v + 1) = va_up (mkR pl v) a 1 := by
  funext c
  by_cases hc : c = a
  · subst hc; rw [va_up_self]; exact mkR_1 ⟨v, by omega, va_up_self _ _ _⟩
  · rw [va_up_ne _ _ hc]
    by_cases h : ∃ j, j < v ∧ pl j = c
    · obtain ⟨j, h1, h2⟩ := h
      rw [mkR_1 ⟨j, h1, h2⟩]
      exact mkR_1 ⟨j, by omega, by rw [va_up_ne _ _ (by omega)]; exact h2⟩
    · rw [mkR_0 h]
      refine mkR_0 (fun ⟨j, h1, h2⟩ => ?_)
      by_cases hj : j = v
      · subst hj; rw [va_up_self] at h2; exact hc h2.symm
      · rw [va_up_ne _ _ hj] at h2; exact h ⟨j, by omega, h2⟩
theorem mkR_z (pl : Nat → Nat) : mkR pl 0 = fun _ => 0 := funext (fun c => mkR_0 (fun ⟨j, h1, _⟩ => absurd h1 (Nat.not_lt_zero _)))
/-- whether a place is of a packet's row -/
noncomputable def pkR (k x t c : Nat) : Nat := mkR (pkP k x t) (pkD k x t) c
/-- the model's row with the values V -/
def onRow (V ro : Nat → Nat) : Nat → Nat := fun c => if c < 75 then V c else ro c
theorem onRow_up {V ro : Nat → Nat} {a x : Nat} (h : a < 75) : va_up (onRow V ro) a x = onRow (va_up V a x) ro := by
  funext c
  unfold onRow
  by_cases hc : c = a
  · subst hc; rw [va_up_self, if_pos h, va_up_self]
  · rw [va_up_ne _ _ hc, va_up_ne _ _ hc]
theorem onRow_fill (ro : Nat → Nat) : fFill 75 0 ro = onRow (fun _ => 0) ro := rfl
