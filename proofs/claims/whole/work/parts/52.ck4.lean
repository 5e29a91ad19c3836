/-! ===== the class's start, its turns ===== -/
theorem ck_0 {L T : Nat} {V M : Nat → Nat → Nat} {ld : Nat → Bool} (hL : L ≤ 59) (hT : T ≤ 16) (h : ∀ r, r < L → ld r = false) : CkOK L T V 0 0 M ld := by
  refine ⟨rfl, fun r hr hl => absurd hl (by rw [h r hr]; decide), fun T' hT' v hv => ?_⟩
  have e : ∀ n, n ≤ L → ∀ c, c < 75 → cR n T M ld v c = v c := by
    intro n
    induction n with
    | zero => intro _ c _; rfl
    | succ n ih => intro hn c hc; rw [cR_s (by omega) hc, B0_f (h n (by omega)), mt_r0, Nat.xor_zero, ih (by omega) c hc]
  show _ ↔ Zv L T' v
  exact ⟨fun h1 c hc => by rw [← e L (Nat.le_refl _) c (rel_lt hL (show T' ≤ 16 by omega) hc)]; exact h1 c hc, fun h1 c hc => by rw [e L (Nat.le_refl _) c (rel_lt hL (show T' ≤ 16 by omega) hc)]; exact h1 c hc⟩
theorem TabOk.pw {pw ex : Nat → Nat} (ht : TabOk pw ex) : PwOk pw := fun x => by rw [ht.1]; exact pwG_lt x
theorem ck_start {pw ex pm : Nat → Nat} (ht : TabOk pw ex) (hpm : ∀ x, pm x = pw x) {k T : Nat} {X : Nat → Nat → Nat} {s : EqS} (hk : k ≤ 48) (hT : T ≤ 16) (hs : EqBy s) : CkOK (k + 11) T (VV pm k X) 11 (startS pw ex k T s).1 (startS pw ex k T s).2.1 (startS pw ex k T s).2.2.1 ∧ EqBy (startS pw ex k T s) := by
  have hp : PmOk pm := fun x => by rw [hpm]; exact ht.pw x
  have hVb : ∀ i, i < 11 → By (VV pm k X i) := fun i hi => by rw [VV_f hi]; exact by_fxV hp k i
  have h1 : ∀ n, n ≤ 7 → CkOK (k + 11) T (VV pm k X) n (fr (stSum pw ex k T) n (0, s.2.1, (fun p => if p < 59 then false else s.2.2.1 p), s.2.2.2)).1 (fr (stSum pw ex k T) n (0, s.2.1, (fun p => if p < 59 then false else s.2.2.1 p), s.2.2.2)).2.1 (fr (stSum pw ex k T) n (0, s.2.1, (fun p => if p < 59 then false else s.2.2.1 p), s.2.2.2)).2.2.1 ∧ EqBy (fr (stSum pw ex k T) n (0, s.2.1, (fun p => if p < 59 then false else s.2.2.1 p), s.2.2.2)) := by
    intro n
    induction n with
    | zero => intro _; exact ⟨ck_0 (by omega) hT (fun r hr => if_pos (by omega)), hs⟩
    | succ n ih =>
      intro hn
      obtain ⟨i1, i2⟩ := ih (by omega)
      rw [fr_s]
      generalize fr (stSum pw ex k T) n (0, s.2.1, (fun p => if p < 59 then false else s.2.2.1 p), s.2.2.2) = u at i1 i2
      unfold stSum
      have hb : EqBy (u.1, u.2.1, u.2.2.1, lnSum T k n u.2.2.2) := ⟨i2.1, By.sum i2.2⟩
      exact ⟨(learn_yes (s := (u.1, u.2.1, u.2.2.1, lnSum T k n u.2.2.2)) ht (by omega) hT hb (hVb n (by omega)) i1 (fun c hc => by rw [VV_f (by omega)]; exact cw_sum u.2.2.2 hk hT (by omega) c hc) (gr_fix pm k X n (by omega))).2, learnS_by ht.pw hb⟩
  have h2 : ∀ n, n ≤ 4 → CkOK (k + 11) T (VV pm k X) (7 + n) (fr (stPow pw ex k T) n (fr (stSum pw ex k T) 7 (0, s.2.1, (fun p => if p < 59 then false else s.2.2.1 p), s.2.2.2))).1 (fr (stPow pw ex k T) n (fr (stSum pw ex k T) 7 (0, s.2.1, (fun p => if p < 59 then false else s.2.2.1 p), s.2.2.2))).2.1 (fr (stPow pw ex k T) n (fr (stSum pw ex k T) 7 (0, s.2.1, (fun p => if p < 59 then false else s.2.2.1 p), s.2.2.2))).2.2.1 ∧ EqBy (fr (stPow pw ex k T) n (fr (stSum pw ex k T) 7 (0, s.2.1, (fun p => if p < 59 then false else s.2.2.1 p), s.2.2.2))) := by
    have h7 := h1 7 (Nat.le_refl _)
    generalize fr (stSum pw ex k T) 7 (0, s.2.1, (fun p => if p < 59 then false else s.2.2.1 p), s.2.2.2) = u0 at h7
    intro n
    induction n with
    | zero => intro _; rw [fr_0]; exact h7
    | succ n ih =>
      intro hn
      obtain ⟨i1, i2⟩ := ih (by omega)
      rw [fr_s]
      generalize fr (stPow pw ex k T) n u0 = u at i1 i2
      unfold stPow
      have hb : EqBy (u.1, u.2.1, u.2.2.1, lnPow pw T k n u.2.2.2) := ⟨i2.1, By.pow ht.pw i2.2⟩
      exact ⟨(learn_yes (s := (u.1, u.2.1, u.2.2.1, lnPow pw T k n u.2.2.2)) ht (by omega) hT hb (hVb (7 + n) (by omega)) i1 (fun c hc => by rw [VV_f (by omega)]; exact cw_pow u.2.2.2 hpm hk hT (by omega) c hc) (gr_fix pm k X (7 + n) (by omega))).2, learnS_by ht.pw hb⟩
  exact h2 4 (Nat.le_refl _)
theorem flIn_by {k t i : Nat} {s : FlS} (h : EqBy s.1) : EqBy (flIn k t i s) := ⟨h.1, By.pk h.2⟩
theorem fb_class {pw ex pm : Nat → Nat} (ht : TabOk pw ex) (hpm : ∀ x, pm x = pw x) {k t : Nat} {s : EqS} (pl : Nat → Nat) (hk : 1 ≤ k ∧ k ≤ 48) (hs : EqBy s) : fillB pw ex k t s pl = fbG pm k t := by
  have hp : PmOk pm := fun x => by rw [hpm]; exact ht.pw x
  have hVb : ∀ i, i < 11 + k → By (VV pm k (fun x => pkR k x t) i) := VV_by hp (fun i _ => by_pkR k i t)
  have hst := ck_start (X := fun x => pkR k x t) ht hpm hk.2 (show 0 ≤ 16 by omega) hs
  have hline : ∀ i (u : FlS), ∀ c, rel (k + 11) 0 c → cw 0 (flIn k t i u).2.2.2 c = VV pm k (fun x => pkR k x t) (11 + i) c := fun i u c hc => by
    rw [VV_x]; exact cw_pk u.1.2.2.2 hk (by omega) c hc
  have key : ∀ i, i ≤ k → Gr (k + 11) (VV pm k (fun x => pkR k x t)) (11 + i) → CkOK (k + 11) 0 (VV pm k (fun x => pkR k x t)) (11 + i) (flAt pw ex k t s pl i).1.1 (flAt pw ex k t s pl i).1.2.1 (flAt pw ex k t s pl i).1.2.2.1 ∧ EqBy (flAt pw ex k t s pl i).1 := by
    intro i
    induction i with
    | zero => intro _ _; rw [flAt_0]; exact hst
    | succ i ih =>
      intro hi hg
      obtain ⟨i1, i2⟩ := ih (by omega) (hg.mono (by omega))
      have e : flAt pw ex k t s pl (i + 1) = flSt pw ex k t i (flAt pw ex k t s pl i) := by unfold flAt; rw [fr_s]
      rw [e]
      generalize flAt pw ex k t s pl i = u at i1 i2
      exact ⟨(learn_yes (s := flIn k t i u) ht (by omega) (by omega) (flIn_by i2) (hVb (11 + i) (by omega)) i1 (hline i u) (hg (11 + i) (by omega))).2, learnS_by ht.pw (flIn_by i2)⟩
  cases hf : fbG pm k t with
  | true =>
    have hg := fbG_iff.mp hf
    refine fillB_t (fun i hi => ?_)
    obtain ⟨i1, i2⟩ := key i (by omega) (hg.mono (by omega))
    generalize flAt pw ex k t s pl i = u at i1 i2
    exact (learn_yes (s := flIn k t i u) ht (by omega) (by omega) (flIn_by i2) (hVb (11 + i) (by omega)) i1 (hline i u) (hg (11 + i) (by omega))).1
  | false =>
    cases hb : fillB pw ex k t s pl with
    | false => rfl
    | true =>
      exfalso
      have hall : ∀ i, i < k → flR pw ex k t i (flAt pw ex k t s pl i) = 1 := fun i hi => Classical.byContradiction (fun h => by rw [fillB_f hi h] at hb; cases hb)
      have hg : ∀ i, i ≤ k → Gr (k + 11) (VV pm k (fun x => pkR k x t)) (11 + i) := by
        intro i
        induction i with
        | zero => intro _; exact gr_fix pm k _
        | succ i ih =>
          intro hi
          have hgi := ih (by omega)
          intro j hj
          by_cases hji : j = 11 + i
          · subst hji
            intro hks
            obtain ⟨i1, i2⟩ := key i (by omega) hgi
            have h1 := hall i (by omega)
            unfold flR at h1
            generalize flAt pw ex k t s pl i = u at i1 i2 h1
            have h2 := (learn_no (s := flIn k t i u) ht (by omega) (by omega) (flIn_by i2) (hVb (11 + i) (by omega)) i1 (hline i u) hks).2
            rw [h1] at h2
            split at h2
            · exact absurd h2 (by decide)
            · exact absurd h2 (by decide)
          · exact hgi j (by omega)
      have := fbG_iff.mpr (hg k (Nat.le_refl _))
      rw [hf] at this
      cases this
/-- whether a packet follows, and its bytes -/
theorem drv_ok {pw ex : Nat → Nat} (ht : TabOk pw ex) {k T n rk x t : Nat} {V M : Nat → Nat → Nat} {ld : Nat → Bool} {ln : Nat → Nat} (pl : Nat → Nat) (hk : 1 ≤ k ∧ k ≤ 48) (hT : T ≤ 16) (hM : ∀ p, By (M p)) (hln : By ln) (h : CkOK (k + 11) T V n rk M ld) :
    (drv pw ex k T x t (rk, M, ld, ln) pl = true ↔ KS (k + 11) 0 V n (pkR k x t)) ∧ ∀ i, i < T → lnRed pw ex (k + 11) T M ld (lnPk T (pkOut k x t pl).2.1 (pkOut k x t pl).1 ln) i = cR (k + 11) T M ld (pkR k x t) (59 + i) := by
  obtain ⟨h1, h2⟩ := cred_at (ln := lnPk T (pkOut k x t pl).2.1 (pkOut k x t pl).1 ln) ht (show k + 11 ≤ 59 by omega) hT hM (By.pk hln) h.2.1 (k + 11) (Nat.le_refl _)
  have h3 : ∀ c, rel (k + 11) T c → cw T (lnRed pw ex (k + 11) T M ld (lnPk T (pkOut k x t pl).2.1 (pkOut k x t pl).1 ln)) c = cR (k + 11) T M ld (pkR k x t) c := fun c hc => (h1 c hc).trans (c_congr (by omega) hT (fun c hc => cw_pk ln hk hT c hc) (k + 11) (Nat.le_refl _) c hc)
  generalize lnRed pw ex (k + 11) T M ld (lnPk T (pkOut k x t pl).2.1 (pkOut k x t pl).1 ln) = N at h3 ⊢
  refine ⟨?_, fun i hi => ?_⟩
  · rw [drv_eq]
    show decide (leadN T (lnRed pw ex (k + 11) T M ld (lnPk T (pkOut k x t pl).2.1 (pkOut k x t pl).1 ln)) (k + 11) = 0) = true ↔ _
    rw [decide_eq_true_iff, leadN_0, ← h.2.2 0 (Nat.zero_le _) _ (by_pkR k x t)]
    have h4 : ∀ c, rel (k + 11) T c → cw T (lnRed pw ex (k + 11) T M ld (lnPk T (pkOut k x t pl).2.1 (pkOut k x t pl).1 ln)) c = cR (k + 11) T M ld (pkR k x t) c := fun c hc => (h1 c hc).trans (c_congr (by omega) hT (fun c hc => cw_pk ln hk hT c hc) (k + 11) (Nat.le_refl _) c hc)
    constructor
    · intro h5 c hc
      have e := h4 c (rel0 hc)
      rw [cw_p _ (by unfold rel at hc; omega), h5 c (by unfold rel at hc; omega)] at e
      exact e.symm
    · intro h5 c hc
      have e := h4 c (Or.inl hc)
      rw [cw_p _ (by omega), h5 c (Or.inl hc)] at e
      exact e
  · have e := h3 (59 + i) (Or.inr ⟨by omega, by omega⟩)
    rw [cw_v _ (by omega), show 59 + i - 59 = i by omega] at e
    exact e
