/-! ===== the class's basis ===== -/
theorem fadd_at {pw ex : Nat → Nat} (ht : TabOk pw ex) {G : Nat → Nat} {fac : Nat} (hf : fac < 256) (hf0 : fac ≠ 0) (hG : By G) (F : Nat → Nat) : ∀ n j, fr (fAdd pw ex G fac) n F j = if j < n then F j ^^^ mt fac (G j) else F j
  | 0, j => by rw [if_neg (Nat.not_lt_zero _)]; rfl
  | n + 1, j => by
    have h1 := fadd_at ht hf hf0 hG F n j
    have h2 := fadd_at ht hf hf0 hG F n n
    rw [if_neg (by omega)] at h2
    rw [fr_s]
    have e : fAdd pw ex G fac n (fr (fAdd pw ex G fac) n F) j = if j = n then F n ^^^ mt fac (G n) else fr (fAdd pw ex G fac) n F j := by
      unfold fAdd
      by_cases hj : j = n
      · rw [if_pos hj, hj]
        split
        · rename_i h0; rw [h0, mt_r0, Nat.xor_zero]; exact h2
        · rename_i h0
          rw [va_up_self]
          have h3 : pw (ex fac + ex (G n)) = mt fac (G n) := by
            rw [ht.1, ← mt_pp, ht.2.1 fac hf hf0, ht.2.1 _ (hG n) h0]
          rw [h3]
          exact congrArg (· ^^^ _) h2
      · rw [if_neg hj]
        split
        · rfl
        · rw [va_up_ne _ _ hj]
    rw [e, h1]
    by_cases hj : j = n
    · rw [if_pos hj, if_pos (by omega), hj]
    · rw [if_neg hj]
      by_cases h : j < n
      · rw [if_pos h, if_pos (by omega)]
      · rw [if_neg h, if_neg (by omega)]
/-- the class's line in the model's order -/
def cw (T : Nat) (F : Nat → Nat) : Nat → Nat := fun c => if c < 59 then F (T + c) else F (c - 59)
theorem cw_p {T c : Nat} (F : Nat → Nat) (h : c < 59) : cw T F c = F (T + c) := if_pos h
theorem cw_v {T c : Nat} (F : Nat → Nat) (h : 59 ≤ c) : cw T F c = F (c - 59) := if_neg (by omega)
theorem by_cw {T : Nat} {F : Nat → Nat} (h : By F) : By (cw T F) := fun c => by unfold cw; split <;> exact h _
def idp (r : Nat) : Nat := if r < 75 then r else 0
theorem idp_lt (r : Nat) : idp r < 75 := by unfold idp; split <;> omega
theorem idp_id {r : Nat} (h : r < 75) : idp r = r := if_pos h
def B0 (T : Nat) (M : Nat → Nat → Nat) (ld : Nat → Bool) (r : Nat) : Nat → Nat := fun c => if ld r = true then cw T (M r) c else 0
theorem by_B0 {T : Nat} {M : Nat → Nat → Nat} {ld : Nat → Bool} (h : ∀ p, By (M p)) : ∀ r, By (B0 T M ld r) := fun r c => by
  unfold B0
  split
  · exact by_cw (h r) c
  · decide
theorem B0_t {T : Nat} {M : Nat → Nat → Nat} {ld : Nat → Bool} {r : Nat} (h : ld r = true) (c : Nat) : B0 T M ld r c = cw T (M r) c := if_pos h
theorem B0_f {T : Nat} {M : Nat → Nat → Nat} {ld : Nat → Bool} {r : Nat} (h : ld r = false) (c : Nat) : B0 T M ld r c = 0 := if_neg (by rw [h]; decide)
def cR (n T : Nat) (M : Nat → Nat → Nat) (ld : Nat → Bool) (v : Nat → Nat) : Nat → Nat := mRed n (B0 T M ld) idp v
theorem cR_s {n T : Nat} {M : Nat → Nat → Nat} {ld : Nat → Bool} {v : Nat → Nat} (hn : n < 75) {c : Nat} (hc : c < 75) : cR (n + 1) T M ld v c = cR n T M ld v c ^^^ mt (cR n T M ld v n) (B0 T M ld n c) := by
  unfold cR
  rw [mRed_s, redS_at hc, idp_id hn]
theorem by_cR {n T : Nat} {M : Nat → Nat → Nat} {ld : Nat → Bool} {v : Nat → Nat} (hv : By v) : By (cR n T M ld v) := by_mred hv n
/-- the class's rows: 1 at the own lead, 0 behind it, 0 at the other leads -/
def Cs (L T : Nat) (M : Nat → Nat → Nat) (ld : Nat → Bool) : Prop := ∀ r, r < L → ld r = true → M r (T + r) = 1 ∧ (∀ c, r < c → c < L → M r (T + c) = 0) ∧ ∀ r', r' < L → r' ≠ r → ld r' = true → M r' (T + r) = 0
theorem cred_at {pw ex : Nat → Nat} (ht : TabOk pw ex) {L T : Nat} {M : Nat → Nat → Nat} {ld : Nat → Bool} {ln : Nat → Nat} (hL : L ≤ 59) (hT : T ≤ 16) (hM : ∀ p, By (M p)) (hln : By ln) (hc : Cs L T M ld) : ∀ n, n ≤ L → (∀ c, rel L T c → cw T (fr (rdStep pw ex T M ld) n ln) c = cR n T M ld (cw T ln) c) ∧ By (fr (rdStep pw ex T M ld) n ln)
  | 0, _ => ⟨fun c _ => rfl, hln⟩
  | n + 1, hn => by
    obtain ⟨ih, hb⟩ := cred_at ht hL hT hM hln hc n (by omega)
    rw [fr_s]
    generalize hF : fr (rdStep pw ex T M ld) n ln = Fv at ih hb
    have hn9 : cR n T M ld (cw T ln) n = Fv (T + n) := by rw [← ih n (Or.inl (by omega)), cw_p _ (by omega)]
    by_cases hl : ld n = true
    · by_cases h0 : Fv (T + n) = 0
      · have e : rdStep pw ex T M ld n Fv = Fv := by unfold rdStep; rw [if_neg (fun z => z.1 h0)]
        rw [e]
        refine ⟨fun c hc => ?_, hb⟩
        rw [ih c hc, cR_s (by omega) (rel_lt hL hT hc), hn9, h0, mt_l0, Nat.xor_zero]
      · have e : rdStep pw ex T M ld n Fv = fr (fAdd pw ex (M n) (Fv (T + n))) (T + n + 1) Fv := by unfold rdStep; rw [if_pos ⟨h0, hl⟩]
        have ea := fadd_at ht (hb (T + n)) h0 (hM n) Fv (T + n + 1)
        rw [e]
        refine ⟨fun c hc' => ?_, fun j => ?_⟩
        · rw [cR_s (by omega) (rel_lt hL hT hc'), hn9, B0_t hl, ← ih c hc']
          by_cases h59 : c < 59
          · rw [cw_p _ h59, cw_p _ h59, cw_p _ h59, ea]
            by_cases hcn : c ≤ n
            · rw [if_pos (by omega)]
            · rw [if_neg (by omega), (hc n (by omega) hl).2.1 c (by omega) (by unfold rel at hc'; omega), mt_r0, Nat.xor_zero]
          · rw [cw_v _ (by omega), cw_v _ (by omega), cw_v _ (by omega), ea, if_pos (by unfold rel at hc'; omega)]
        · rw [ea]
          split
          · exact xlt (hb j) (mt_lt (hb _))
          · exact hb j
    · have hl : ld n = false := by cases h : ld n; rfl; exact absurd h hl
      have e : rdStep pw ex T M ld n Fv = Fv := by unfold rdStep; rw [if_neg (fun z => by rw [hl] at z; exact absurd z.2 (by decide))]
      rw [e]
      refine ⟨fun c hc => ?_, hb⟩
      rw [ih c hc, cR_s (by omega) (rel_lt hL hT hc), B0_f hl, mt_r0, Nat.xor_zero]
theorem c_piv {L T : Nat} {M : Nat → Nat → Nat} {ld : Nat → Bool} {v : Nat → Nat} (hL : L ≤ 59) (h : Cs L T M ld) {r : Nat} (hr : r < L) (hl : ld r = true) : ∀ n, n ≤ L → r < n → cR n T M ld v r = 0
  | 0, _, hn => absurd hn (Nat.not_lt_zero _)
  | n + 1, hn, hrn => by
    rw [cR_s (by omega) (by omega)]
    by_cases he : r = n
    · subst he; rw [B0_t hl, cw_p _ (by omega), (h r hr hl).1, mt_r1, Nat.xor_self]
    · rw [c_piv hL h hr hl n (by omega) (by omega)]
      cases hln : ld n with
      | false => rw [B0_f hln, mt_r0, Nat.xor_self]
      | true => rw [B0_t hln, cw_p _ (by omega), (h r hr hl).2.2 n (by omega) (by omega) hln, mt_r0, Nat.xor_self]
theorem c_free {L T : Nat} {M : Nat → Nat → Nat} {ld : Nat → Bool} {v : Nat → Nat} (hL : L ≤ 59) (hz : ∀ c, c < L → v c = 0) : ∀ n, n ≤ L → cR n T M ld v = v
  | 0, _ => rfl
  | n + 1, hn => by
    have ih := c_free (T := T) (M := M) (ld := ld) hL hz n (by omega)
    unfold cR at ih ⊢
    rw [mRed_s, ih]
    unfold mRedS
    rw [if_pos (by rw [idp_id (by omega)]; exact hz n (by omega))]
theorem c_new {L T q : Nat} {M M' : Nat → Nat → Nat} {ld ld' : Nat → Bool} {K v : Nat → Nat} (hL : L ≤ 59) (hT : T ≤ 16) (hM : ∀ p, By (M p)) (hK : By K) (hv : By v) (hq : q < L) (hlq : ld q = false) (hKq : K q = 1) (hKp : ∀ r, r < L → ld r = true → K r = 0)
    (hM' : ∀ r, r < L → r ≠ q → ld r = true → ∀ c, rel L T c → cw T (M' r) c = cw T (M r) c ^^^ mt (cw T (M r) q) (K c)) (hMq : ∀ c, rel L T c → cw T (M' q) c = K c) (hl' : ∀ r, r ≠ q → ld' r = ld r) (hlq' : ld' q = true) :
    ∀ c, rel L T c → cR L T M' ld' v c = cR L T M ld v c ^^^ mt (cR L T M ld v q) (K c) := by
  have hq75 : q < 75 := by omega
  have stepA : ∀ n, n < L → n ≠ q → ∀ (a : Nat), a < 256 → (∀ c, rel L T c → cR n T M' ld' v c = cR n T M ld v c ^^^ mt (cR n T M ld v q ^^^ a) (K c)) → ∀ c, rel L T c → cR (n + 1) T M' ld' v c = cR (n + 1) T M ld v c ^^^ mt (cR (n + 1) T M ld v q ^^^ a) (K c) := by
    intro n hn hnq a ha ih c hc
    have h75 := rel_lt hL hT hc
    have hb : ∀ z, cR n T M ld v z < 256 := by_cR hv
    rw [cR_s (by omega) h75, cR_s (by omega) h75, cR_s (by omega) hq75, ih c hc]
    cases hl : ld n with
    | false =>
      have hl2 : ld' n = false := by rw [hl' n hnq]; exact hl
      rw [B0_f hl2, B0_f hl, B0_f hl, mt_r0, mt_r0, Nat.xor_zero, Nat.xor_zero, Nat.xor_zero]
    | true =>
      have hl2 : ld' n = true := by rw [hl' n hnq]; exact hl
      have e9 : cR n T M' ld' v n = cR n T M ld v n := by rw [ih n (Or.inl hn), hKp n hn hl, mt_r0, Nat.xor_zero]
      rw [B0_t hl2, B0_t hl, B0_t hl, e9, hM' n hn hnq hl c hc, mt_xr, ← mt_assoc (hb _) (by_cw (hM n) q) (hK c)]
      have e : cR n T M ld v q ^^^ mt (cR n T M ld v n) (cw T (M n) q) ^^^ a = (cR n T M ld v q ^^^ a) ^^^ mt (cR n T M ld v n) (cw T (M n) q) := by rw [Nat.xor_assoc, Nat.xor_comm (mt _ _) a, ← Nat.xor_assoc]
      rw [e, mt_xl _ (xlt (hb _) ha) (mt_lt (hb _)), xor_swap]
  have key1 : ∀ n, n ≤ q → ∀ c, rel L T c → cR n T M' ld' v c = cR n T M ld v c ^^^ mt (cR n T M ld v q ^^^ v q) (K c) := by
    intro n
    induction n with
    | zero => intro _ c hc; show v c = v c ^^^ mt (v q ^^^ v q) (K c); rw [Nat.xor_self, mt_l0, Nat.xor_zero]
    | succ n ih => intro hn; exact stepA n (by omega) (by omega) (v q) (hv q) (ih (by omega))
  have key2 : ∀ n, n ≤ L → q < n → ∀ c, rel L T c → cR n T M' ld' v c = cR n T M ld v c ^^^ mt (cR n T M ld v q ^^^ 0) (K c) := by
    intro n
    induction n with
    | zero => intro _ h; exact absurd h (Nat.not_lt_zero _)
    | succ n ih =>
      intro hn hqn
      by_cases he : n = q
      · subst he
        intro c hc
        have h75 := rel_lt hL hT hc
        have hb : ∀ z, cR n T M ld v z < 256 := by_cR hv
        rw [cR_s (by omega) h75, cR_s (by omega) h75, cR_s (by omega) hq75, key1 n (Nat.le_refl _) c hc, key1 n (Nat.le_refl _) n (Or.inl hq), hKq, mt_r1, B0_t hlq', hMq c hc, B0_f hlq, B0_f hlq, mt_r0, Nat.xor_zero, Nat.xor_zero]
        have e : cR n T M ld v n ^^^ (cR n T M ld v n ^^^ v n) = v n := by rw [← Nat.xor_assoc, Nat.xor_self, Nat.zero_xor]
        rw [e, Nat.xor_zero, Nat.xor_assoc, ← mt_xl _ (xlt (hb _) (hv n)) (hv n), Nat.xor_assoc, Nat.xor_self, Nat.xor_zero]
      · exact stepA n (by omega) he 0 (by decide) (ih (by omega) (by omega))
  intro c hc
  rw [key2 L (Nat.le_refl _) hq c hc, Nat.xor_zero]
