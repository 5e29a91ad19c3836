/-! ===== the class's lines in the model's order ===== -/
theorem lnSum_fr (T i : Nat) (F : Nat → Nat) : ∀ n j, fr (lnSum1 T i) n F j = if T ≤ j ∧ j < T + n ∧ ((j - T) % 7 = i ∨ (j - T + (1 + (j - T) / 7 % 6)) % 7 = i ∨ (j - T + 2 * (1 + (j - T) / 7 % 6)) % 7 = i) then 1 else F j := by
  classical
  intro n
  induction n with
  | zero => intro j; rw [if_neg (fun z => by omega)]; rfl
  | succ n ih =>
    intro j
    rw [fr_s]
    by_cases hs : isSum i n
    · rw [lnSum1_t hs]
      by_cases hj : j = T + n
      · rw [hj, va_up_self, if_pos ⟨by omega, by omega, by rw [show T + n - T = n by omega]; exact hs⟩]
      · rw [va_up_ne _ _ hj, ih j]
        by_cases h : T ≤ j ∧ j < T + n ∧ ((j - T) % 7 = i ∨ (j - T + (1 + (j - T) / 7 % 6)) % 7 = i ∨ (j - T + 2 * (1 + (j - T) / 7 % 6)) % 7 = i)
        · rw [if_pos h, if_pos ⟨h.1, by omega, h.2.2⟩]
        · rw [if_neg h, if_neg (fun z => h ⟨z.1, by omega, z.2.2⟩)]
    · rw [lnSum1_f hs, ih j]
      by_cases h : T ≤ j ∧ j < T + n ∧ ((j - T) % 7 = i ∨ (j - T + (1 + (j - T) / 7 % 6)) % 7 = i ∨ (j - T + 2 * (1 + (j - T) / 7 % 6)) % 7 = i)
      · rw [if_pos h, if_pos ⟨h.1, by omega, h.2.2⟩]
      · rw [if_neg h, if_neg (fun z => ?_)]
        by_cases hj : j = T + n
        · subst hj; rw [show T + n - T = n by omega] at z; exact hs z.2.2
        · exact h ⟨z.1, by omega, z.2.2⟩
theorem cw_sum {pm : Nat → Nat} {T k i : Nat} (ln : Nat → Nat) (hk : k ≤ 48) (hT : T ≤ 16) (hi : i < 7) : ∀ c, rel (k + 11) T c → cw T (lnSum T k i ln) c = fxV pm k i c := by
  classical
  intro c hc
  unfold fxV lnSum
  rw [if_neg (by omega)]
  unfold fxB
  by_cases h59 : c < 59
  · rw [cw_p _ h59]
    by_cases h1 : c = k + i
    · rw [if_pos h1, h1, show T + (k + i) = T + k + i by omega, va_up_self]
    · rw [va_up_ne _ _ (by omega), if_neg h1, lnSum_fr]
      have e : fFill 75 0 ln (T + c) = 0 := if_pos (by unfold rel at hc; omega)
      rw [e, show T + c - T = c by omega]
      by_cases h2 : c < k ∧ (c % 7 = i ∨ (c + (1 + c / 7 % 6)) % 7 = i ∨ (c + 2 * (1 + c / 7 % 6)) % 7 = i)
      · rw [if_pos h2, if_pos ⟨by omega, by omega, h2.2⟩]
      · rw [if_neg h2, if_neg (fun z => h2 ⟨by omega, z.2.2⟩)]
  · rw [cw_v _ (by omega), va_up_ne _ _ (by unfold rel at hc; omega), lnSum_fr, if_neg (fun z => by unfold rel at hc; omega), if_neg (by omega), if_neg (fun z => by omega)]
    exact if_pos (by unfold rel at hc; omega)
theorem lnPow_fr (pw : Nat → Nat) (T i : Nat) (F : Nat → Nat) : ∀ n j, fr (lnPow1 pw T i) n F j = if T ≤ j ∧ j < T + n then pw ((j - T) * (i + 1) % 255) else F j := by
  intro n
  induction n with
  | zero => intro j; rw [if_neg (fun z => by omega)]; rfl
  | succ n ih =>
    intro j
    rw [fr_s]
    unfold lnPow1
    by_cases hj : j = T + n
    · rw [hj, va_up_self, if_pos ⟨by omega, by omega⟩, show T + n - T = n by omega]
    · rw [va_up_ne _ _ hj]
      show fr (lnPow1 pw T i) n F j = _
      rw [ih j]
      by_cases h : T ≤ j ∧ j < T + n
      · rw [if_pos h, if_pos ⟨h.1, by omega⟩]
      · rw [if_neg h, if_neg (fun z => h ⟨z.1, by omega⟩)]
theorem cw_pow {pw pm : Nat → Nat} {T k i : Nat} (ln : Nat → Nat) (hpm : ∀ x, pm x = pw x) (hk : k ≤ 48) (hT : T ≤ 16) (hi : i < 4) : ∀ c, rel (k + 11) T c → cw T (lnPow pw T k i ln) c = fxV pm k (7 + i) c := by
  intro c hc
  unfold fxV lnPow
  rw [if_pos (by omega)]
  unfold fxA
  by_cases h59 : c < 59
  · rw [cw_p _ h59]
    by_cases h1 : c = k + (7 + i)
    · rw [if_pos h1, h1, show T + (k + (7 + i)) = T + k + 7 + i by omega, va_up_self]
    · rw [va_up_ne _ _ (by omega), if_neg h1, lnPow_fr]
      have e : fFill 75 0 ln (T + c) = 0 := if_pos (by unfold rel at hc; omega)
      rw [e, show T + c - T = c by omega, show 7 + i - 6 = i + 1 by omega, hpm]
      by_cases h2 : c < k + 7
      · rw [if_pos h2, if_pos ⟨by omega, by omega⟩]
      · rw [if_neg h2, if_neg (fun z => h2 (by omega))]
  · rw [cw_v _ (by omega), va_up_ne _ _ (by unfold rel at hc; omega), lnPow_fr, if_neg (fun z => by unfold rel at hc; omega), if_neg (by omega), if_neg (by omega)]
    exact if_pos (by unfold rel at hc; omega)
theorem lnPk_fr (T : Nat) (pl : Nat → Nat) (F : Nat → Nat) : ∀ n j, fr (lnSet T pl) n F j = if T ≤ j ∧ mkR pl n (j - T) = 1 then 1 else F j := by
  intro n
  induction n with
  | zero => intro j; rw [mkR_z, if_neg (fun z => absurd z.2 (by show ¬ (0 : Nat) = 1; decide))]; rfl
  | succ n ih =>
    intro j
    rw [fr_s]
    unfold lnSet
    by_cases hj : j = T + pl n
    · rw [hj, va_up_self, if_pos ⟨by omega, mkR_1 ⟨n, by omega, by omega⟩⟩]
    · rw [va_up_ne _ _ hj]
      show fr (lnSet T pl) n F j = _
      rw [ih j]
      by_cases h : T ≤ j ∧ mkR pl n (j - T) = 1
      · rw [if_pos h]
        by_cases h2 : ∃ i, i < n ∧ pl i = j - T
        · obtain ⟨i, h3, h4⟩ := h2
          rw [if_pos ⟨h.1, mkR_1 ⟨i, by omega, h4⟩⟩]
        · rw [mkR_0 h2] at h; exact absurd h.2 (by decide)
      · rw [if_neg h, if_neg (fun z => ?_)]
        by_cases h2 : ∃ i, i < n + 1 ∧ pl i = j - T
        · obtain ⟨i, h3, h4⟩ := h2
          by_cases hin : i = n
          · subst hin; omega
          · exact h ⟨z.1, mkR_1 ⟨i, by omega, h4⟩⟩
        · rw [mkR_0 h2] at z; exact absurd z.2 (by decide)
theorem mkR_congr {pl pl' : Nat → Nat} {v c : Nat} (h : ∀ j, j < v → pl j = pl' j) : mkR pl v c = mkR pl' v c := by
  by_cases h1 : ∃ j, j < v ∧ pl j = c
  · obtain ⟨j, h2, h3⟩ := h1
    rw [mkR_1 ⟨j, h2, h3⟩, mkR_1 ⟨j, h2, by rw [← h j h2]; exact h3⟩]
  · rw [mkR_0 h1, mkR_0 (fun ⟨j, h2, h3⟩ => h1 ⟨j, h2, by rw [h j h2]; exact h3⟩)]
theorem pkR_out {k : Nat} (x t : Nat) (p0 : Nat → Nat) (hk : 1 ≤ k ∧ k ≤ 48) (c : Nat) : mkR (pkOut k x t p0).1 (pkOut k x t p0).2.1 c = pkR k x t c := by
  obtain ⟨h1, h2⟩ := pkOut_P x t p0 hk
  rw [h1]
  exact mkR_congr h2
theorem pkR_hi {k : Nat} (x t : Nat) (hk : 1 ≤ k ∧ k ≤ 48) {c : Nat} (hc : k + 11 ≤ c) : pkR k x t c = 0 := mkR_0 (fun ⟨j, h1, h2⟩ => by have := (pkP_ok x t hk).1 j h1; omega)
theorem pkR_01 (k x t c : Nat) : pkR k x t c = 0 ∨ pkR k x t c = 1 := by have := mkR_le (pkP k x t) (pkD k x t) c; unfold pkR; omega
theorem lnPk_at {T k x t : Nat} {p0 : Nat → Nat} (ln : Nat → Nat) (hk : 1 ≤ k ∧ k ≤ 48) {j : Nat} (hj : j < 75) : lnPk T (pkOut k x t p0).2.1 (pkOut k x t p0).1 ln j = if T ≤ j then pkR k x t (j - T) else 0 := by
  unfold lnPk
  rw [lnPk_fr, pkR_out x t p0 hk]
  have e : fFill 75 0 ln j = 0 := if_pos hj
  rw [e]
  by_cases hT : T ≤ j
  · rw [if_pos hT]
    rcases pkR_01 k x t (j - T) with h | h
    · rw [h, if_neg (fun z => absurd z.2 (by decide))]
    · rw [h, if_pos ⟨hT, rfl⟩]
  · rw [if_neg hT, if_neg (fun z => hT z.1)]
theorem cw_pk {T k x t : Nat} {p0 : Nat → Nat} (ln : Nat → Nat) (hk : 1 ≤ k ∧ k ≤ 48) (hT : T ≤ 16) : ∀ c, rel (k + 11) T c → cw T (lnPk T (pkOut k x t p0).2.1 (pkOut k x t p0).1 ln) c = pkR k x t c := by
  intro c hc
  by_cases h59 : c < 59
  · rw [cw_p _ h59, lnPk_at ln hk (by omega), if_pos (by omega), show T + c - T = c by omega]
  · rw [cw_v _ (by omega), lnPk_at ln hk (by unfold rel at hc; omega), if_neg (by unfold rel at hc; omega), pkR_hi x t hk (by omega)]
/-- a row of places with values behind it -/
def vlV (Rw bb : Nat → Nat) (T : Nat) : Nat → Nat := fun c => if 59 ≤ c ∧ c < 59 + T then bb (c - 59) else Rw c
theorem lnVal_at (V : Nat → Nat) (F : Nat → Nat) : ∀ n, lnVal V n F = prt n V F := fun n => fr_prt V F n
theorem cw_val {T k x t : Nat} {p0 V bb : Nat → Nat} (ln : Nat → Nat) (hk : 1 ≤ k ∧ k ≤ 48) (hT : T ≤ 16) (hV : ∀ i, i < T → V i = bb i) : ∀ c, rel (k + 11) T c → cw T (lnVal V T (lnPk T (pkOut k x t p0).2.1 (pkOut k x t p0).1 ln)) c = vlV (pkR k x t) bb T c := by
  intro c hc
  rw [lnVal_at]
  unfold vlV
  by_cases h59 : c < 59
  · rw [cw_p _ h59, if_neg (by omega), prt_ge _ _ (by omega), ← cw_pk ln hk hT c hc, cw_p _ h59]
  · rw [cw_v _ (by omega), if_pos (by unfold rel at hc; omega)]
    unfold prt
    rw [if_pos (by unfold rel at hc; omega)]
    exact hV _ (by unfold rel at hc; omega)
