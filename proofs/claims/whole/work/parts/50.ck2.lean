/-! ===== the class learns a line ===== -/
theorem fr_prt (V F : Nat → Nat) : ∀ n, fr (fun j K => va_up K j (V j)) n F = prt n V F
  | 0 => (prt_0 V F).symm
  | n + 1 => by rw [fr_s, fr_prt V F n, prt_s]
theorem kpK_at {pw ex : Nat → Nat} (ht : TabOk pw ex) {L T q : Nat} {ln K : Nat → Nat} (hln : By ln) {j : Nat} (hj : j < T + L) : kpK pw ex L T q ln K j = mt (pw (255 - ex (ln (T + q)))) (ln j) := by
  have h := fr_prt (fun j => fTimes pw ex (pw (255 - ex (ln (T + q)))) (ln j)) K (T + L)
  have h2 : kpK pw ex L T q ln K = prt (T + L) (fun j => fTimes pw ex (pw (255 - ex (ln (T + q)))) (ln j)) K := h
  rw [h2]
  unfold prt
  rw [if_pos hj]
  exact fTimes_mt ht (by rw [ht.1]; exact pwG_lt _) (hln j)
theorem kp_at {pw ex : Nat → Nat} (ht : TabOk pw ex) {T q : Nat} {ld : Nat → Bool} {M : Nat → Nat → Nat} (hM : ∀ p, By (M p)) : ∀ n r j, fr (fun n => kpStep pw ex T q ld (q + 1 + n)) n M r j = if q < r ∧ r < q + 1 + n ∧ ld r = true ∧ j < T + q + 1 then M r j ^^^ mt (M r (T + q)) (M q j) else M r j
  | 0, r, j => by rw [if_neg (fun z => by omega)]; rfl
  | n + 1, r, j => by
    have hi : ∀ j, fr (fun n => kpStep pw ex T q ld (q + 1 + n)) n M (q + 1 + n) j = M (q + 1 + n) j := fun j => by rw [kp_at ht hM n, if_neg (fun z => by omega)]
    have hq : ∀ j, fr (fun n => kpStep pw ex T q ld (q + 1 + n)) n M q j = M q j := fun j => by rw [kp_at ht hM n, if_neg (fun z => by omega)]
    have ih := kp_at (q := q) (ld := ld) (T := T) ht hM n r j
    rw [fr_s]
    generalize fr (fun n => kpStep pw ex T q ld (q + 1 + n)) n M = X at hi hq ih
    show kpStep pw ex T q ld (q + 1 + n) X r j = _
    have hXi : X (q + 1 + n) = M (q + 1 + n) := funext hi
    have hXq : X q = M q := funext hq
    by_cases hr : r = q + 1 + n
    · subst hr
      by_cases hl : ld (q + 1 + n) = true
      · by_cases h0 : M (q + 1 + n) (T + q) = 0
        · have e : kpStep pw ex T q ld (q + 1 + n) X = X := by unfold kpStep; rw [if_neg (fun z => z.1 (by rw [hXi]; exact h0))]
          rw [e, hi, h0, mt_l0, Nat.xor_zero]
          split <;> rfl
        · have e : kpStep pw ex T q ld (q + 1 + n) X = va_up X (q + 1 + n) (fr (fAdd pw ex (M q) (M (q + 1 + n) (T + q))) (T + q + 1) (M (q + 1 + n))) := by unfold kpStep; rw [if_pos ⟨by rw [hXi]; exact h0, hl⟩, hXi, hXq]
          rw [e, va_up_self, fadd_at ht (hM _ _) h0 (hM q)]
          by_cases hj : j < T + q + 1
          · rw [if_pos hj, if_pos ⟨by omega, by omega, hl, hj⟩]
          · rw [if_neg hj, if_neg (fun z => hj z.2.2.2)]
      · have e : kpStep pw ex T q ld (q + 1 + n) X = X := by unfold kpStep; rw [if_neg (fun z => hl z.2)]
        rw [e, hi, if_neg (fun z => hl z.2.2.1)]
    · have e : kpStep pw ex T q ld (q + 1 + n) X r = X r := by
        unfold kpStep
        split
        · rw [va_up_ne _ _ hr]
        · rfl
      rw [e, ih]
      by_cases h : q < r ∧ r < q + 1 + n ∧ ld r = true ∧ j < T + q + 1
      · rw [if_pos h, if_pos ⟨h.1, by omega, h.2.2.1, h.2.2.2⟩]
      · rw [if_neg h, if_neg (fun z => h ⟨z.1, by omega, z.2.2.1, z.2.2.2⟩)]
theorem leadN_0 {T : Nat} {ln : Nat → Nat} : ∀ {n : Nat}, leadN T ln n = 0 ↔ ∀ c, c < n → ln (T + c) = 0
  | 0 => ⟨fun _ c h => absurd h (Nat.not_lt_zero _), fun _ => rfl⟩
  | n + 1 => by
    unfold leadN
    split
    · rename_i h; exact ⟨fun z => by omega, fun z => absurd (z n (by omega)) h⟩
    · rename_i h
      rw [leadN_0 (n := n)]
      refine ⟨fun z c hc => ?_, fun z c hc => z c (by omega)⟩
      by_cases hcn : c = n
      · subst hcn; exact Classical.byContradiction h
      · exact z c (by omega)
theorem leadN_s {T : Nat} {ln : Nat → Nat} {q : Nat} : ∀ {n : Nat}, leadN T ln n = q + 1 → q < n ∧ ∀ c, q < c → c < n → ln (T + c) = 0
  | 0, h => by cases h
  | n + 1, h => by
    unfold leadN at h
    split at h
    · cases h; exact ⟨by omega, fun c h1 h2 => by omega⟩
    · rename_i h0
      obtain ⟨h1, h2⟩ := leadN_s h
      refine ⟨by omega, fun c h3 h4 => ?_⟩
      by_cases hcn : c = n
      · subst hcn; exact Classical.byContradiction h0
      · exact h2 c h3 (by omega)
theorem c_congr {L T : Nat} {M : Nat → Nat → Nat} {ld : Nat → Bool} {v v' : Nat → Nat} (hL : L ≤ 59) (hT : T ≤ 16) (h : ∀ c, rel L T c → v c = v' c) : ∀ n, n ≤ L → ∀ c, rel L T c → cR n T M ld v c = cR n T M ld v' c
  | 0, _, c, hc => h c hc
  | n + 1, hn, c, hc => by
    have h75 := rel_lt hL hT hc
    rw [cR_s (by omega) h75, cR_s (by omega) h75, c_congr hL hT h n (by omega) c hc, c_congr hL hT h n (by omega) n (Or.inl (by omega))]
theorem c_lin {n T f : Nat} {M : Nat → Nat → Nat} {ld : Nat → Bool} {x v : Nat → Nat} (hM : ∀ p, By (M p)) (hf : f < 256) (hx : By x) (hv : By v) {c : Nat} (hc : c < 75) : cR n T M ld (ax f x v) c = cR n T M ld v c ^^^ mt f (cR n T M ld x c) :=
  red_lin idp_lt (by_B0 hM) hf hx hv n c hc
/-- the class's basis speaks of the first n lines of V -/
def CkOK (L T : Nat) (V : Nat → Nat → Nat) (n rk : Nat) (M : Nat → Nat → Nat) (ld : Nat → Bool) : Prop := rk = n ∧ Cs L T M ld ∧ ∀ T', T' ≤ T → ∀ v, By v → (Zv L T' (cR L T M ld v) ↔ KS L T' V n v)
theorem rel_le {L T T' c : Nat} (h : T' ≤ T) (hc : rel L T' c) : rel L T c := by unfold rel at hc ⊢; omega
/-- what is left of a line -/
theorem res_class {L T T' n rk : Nat} {V M : Nat → Nat → Nat} {ld : Nat → Bool} {v y : Nat → Nat} (hL : L ≤ 59) (hT : T ≤ 16) (hT' : T' ≤ T) (hM : ∀ p, By (M p)) (h : CkOK L T V n rk M ld) (hv : By v) (hy : By y) (hz : ∀ c, c < L → y c = 0) : (∀ c, rel L T' c → cR L T M ld v c = y c) ↔ KS L T' V n (ax 1 y v) := by
  rw [← h.2.2 T' hT' _ (by_one hy v hv)]
  have e : ∀ c, c < 75 → cR L T M ld (ax 1 y v) c = cR L T M ld v c ^^^ y c := fun c hc => by
    rw [c_lin hM (by decide) hy hv hc, c_free hL hz L (Nat.le_refl _), mt_l1 (hy c)]
  constructor
  · intro h1 c hc
    rw [e c (rel_lt hL (by omega) hc), h1 c hc, Nat.xor_self]
  · intro h1 c hc
    have := h1 c hc
    rw [e c (rel_lt hL (by omega) hc)] at this
    exact xz this
section Learn
variable {pw ex : Nat → Nat} {L T n : Nat} {V : Nat → Nat → Nat} {s : EqS}
theorem ln_at (ht : TabOk pw ex) (hL : L ≤ 59) (hT : T ≤ 16) (hs : EqBy s) (h : CkOK L T V n s.1 s.2.1 s.2.2.1) (hV : ∀ c, rel L T c → cw T s.2.2.2 c = V n c) : (∀ c, rel L T c → cw T (lnOf pw ex L T s) c = cR L T s.2.1 s.2.2.1 (V n) c) ∧ By (lnOf pw ex L T s) := by
  obtain ⟨h1, h2⟩ := cred_at ht hL hT hs.1 hs.2 h.2.1 L (Nat.le_refl _)
  exact ⟨fun c hc => (h1 c hc).trans (c_congr hL hT hV L (Nat.le_refl _) c hc), h2⟩
theorem lq_iff (ht : TabOk pw ex) (hL : L ≤ 59) (hT : T ≤ 16) (hs : EqBy s) (hVb : By (V n)) (h : CkOK L T V n s.1 s.2.1 s.2.2.1) (hV : ∀ c, rel L T c → cw T s.2.2.2 c = V n c) : learnQ pw ex L T s = 0 ↔ KS L 0 V n (V n) := by
  obtain ⟨h1, h2⟩ := ln_at ht hL hT hs h hV
  unfold learnQ
  rw [leadN_0, ← h.2.2 0 (Nat.zero_le _) (V n) hVb]
  constructor
  · intro h3 c hc
    rw [← h1 c (rel0 hc), cw_p _ (by unfold rel at hc; omega)]
    exact h3 c (by unfold rel at hc; omega)
  · intro h3 c hc
    have e := h1 c (Or.inl hc)
    rw [cw_p _ (by omega)] at e
    rw [e]
    exact h3 c (Or.inl hc)
theorem learn_no (ht : TabOk pw ex) (hL : L ≤ 59) (hT : T ≤ 16) (hs : EqBy s) (hVb : By (V n)) (h : CkOK L T V n s.1 s.2.1 s.2.2.1) (hV : ∀ c, rel L T c → cw T s.2.2.2 c = V n c) (hk : KS L 0 V n (V n)) : learnS pw ex L T s = (s.1, s.2.1, s.2.2.1, lnOf pw ex L T s) ∧ learnR pw ex L T s = if anyV T (lnOf pw ex L T s) = true then -1 else 0 := learn_0 ((lq_iff ht hL hT hs hVb h hV).mpr hk)
theorem learn_yes (ht : TabOk pw ex) (hL : L ≤ 59) (hT : T ≤ 16) (hs : EqBy s) (hVb : By (V n)) (h : CkOK L T V n s.1 s.2.1 s.2.2.1) (hV : ∀ c, rel L T c → cw T s.2.2.2 c = V n c) (hk : ¬ KS L 0 V n (V n)) : learnR pw ex L T s = 1 ∧ CkOK L T V (n + 1) (learnS pw ex L T s).1 (learnS pw ex L T s).2.1 (learnS pw ex L T s).2.2.1 := by
  obtain ⟨h1, h2⟩ := ln_at ht hL hT hs h hV
  obtain ⟨q, hq⟩ : ∃ q, learnQ pw ex L T s = q + 1 := by
    cases hq : learnQ pw ex L T s with
    | zero => exact absurd ((lq_iff ht hL hT hs hVb h hV).mp hq) hk
    | succ q => exact ⟨q, rfl⟩
  obtain ⟨e1, e2⟩ := learn_1 hq
  have hq0 : lnOf pw ex L T s (T + q) ≠ 0 := leadN_ne hq
  obtain ⟨hqL, hqz⟩ := leadN_s hq
  refine ⟨e2, ?_⟩
  rw [e1]
  obtain ⟨rk, M, ld, ln⟩ := s
  generalize lnOf pw ex L T (rk, M, ld, ln) = N at h1 h2 hq0 hqz
  have h1 : ∀ c, rel L T c → cw T N c = cR L T M ld (V n) c := h1
  have hs1 : ∀ p, By (M p) := hs.1
  have hcs : Cs L T M ld := h.2.1
  obtain ⟨sc, hsc⟩ : ∃ sc, sc = pw (255 - ex (N (T + q))) := ⟨_, rfl⟩
  have hscl : sc < 256 := by rw [hsc, ht.1]; exact pwG_lt _
  have hsc1 : mt sc (N (T + q)) = 1 := by rw [hsc]; exact inv_mt ht (h2 _) hq0
  have hRq : cR L T M ld (V n) q = N (T + q) := by rw [← h1 q (Or.inl hqL), cw_p _ (by omega)]
  have hlq : ld q = false := by
    cases hlq : ld q with
    | false => rfl
    | true => exact absurd (by rw [← hRq]; exact c_piv hL hcs hqL hlq L (Nat.le_refl _) hqL) hq0
  obtain ⟨K, hK⟩ : ∃ K : Nat → Nat, K = fun c => mt sc (cR L T M ld (V n) c) := ⟨_, rfl⟩
  have hbR : ∀ c, cR L T M ld (V n) c < 256 := by_cR hVb
  have hKb : By K := fun c => by rw [hK]; exact mt_lt hscl
  have hKq : K q = 1 := by rw [hK]; show mt sc (cR L T M ld (V n) q) = 1; rw [hRq]; exact hsc1
  have hKp : ∀ r, r < L → ld r = true → K r = 0 := fun r hr hl => by rw [hK]; show mt sc (cR L T M ld (V n) r) = 0; rw [c_piv hL hcs hr hl L (Nat.le_refl _) hr, mt_r0]
  have hKz : ∀ c, q < c → c < L → K c = 0 := fun c h3 h4 => by rw [hK]; show mt sc (cR L T M ld (V n) c) = 0; rw [← h1 c (Or.inl h4), cw_p _ (by omega), hqz c h3 h4, mt_r0]
  obtain ⟨M1, hM1⟩ : ∃ M1, M1 = va_up M q (kpK pw ex L T q N (M q)) := ⟨_, rfl⟩
  have hPw : PwOk pw := fun x => by rw [ht.1]; exact pwG_lt x
  have hM1b : ∀ p, By (M1 p) := by rw [hM1]; exact By2.up hs1 (By.fr (fun i F hF => By.up hF (fTimes_by hPw _ _)) (hs1 q) _)
  have hM1q : ∀ c, rel L T c → cw T (M1 q) c = K c := fun c hc => by
    rw [hM1, va_up_self, hK]
    show _ = mt sc (cR L T M ld (V n) c)
    rw [← h1 c hc]
    by_cases h59 : c < 59
    · rw [cw_p _ h59, cw_p _ h59, kpK_at ht h2 (by unfold rel at hc; omega), hsc]
    · rw [cw_v _ (by omega), cw_v _ (by omega), kpK_at ht h2 (by unfold rel at hc; omega), hsc]
  have hM1o : ∀ r, r ≠ q → M1 r = M r := fun r hr => by rw [hM1, va_up_ne _ _ hr]
  have hkp : ∀ r j, kpM pw ex L T q ld N M r j = if q < r ∧ r < q + 1 + (L - (q + 1)) ∧ ld r = true ∧ j < T + q + 1 then M1 r j ^^^ mt (M1 r (T + q)) (M1 q j) else M1 r j := fun r j => by rw [hM1]; exact kp_at ht (by rw [← hM1]; exact hM1b) _ r j
  have hMq : ∀ c, rel L T c → cw T (kpM pw ex L T q ld N M q) c = K c := fun c hc => by
    have e : kpM pw ex L T q ld N M q = M1 q := funext (fun j => by rw [hkp, if_neg (fun z => by omega)])
    rw [e, hM1q c hc]
  have hM' : ∀ r, r < L → r ≠ q → ld r = true → ∀ c, rel L T c → cw T (kpM pw ex L T q ld N M r) c = cw T (M r) c ^^^ mt (cw T (M r) q) (K c) := fun r hr hrq hl c hc => by
    have e1 : cw T (M r) q = M r (T + q) := cw_p _ (by omega)
    rw [e1]
    rcases Nat.lt_or_ge r q with hlt | hge
    · have e2 : M r (T + q) = 0 := (hcs r hr hl).2.1 q hlt hqL
      have e3 : kpM pw ex L T q ld N M r = M r := funext (fun j => by rw [hkp, if_neg (fun z => by omega), hM1o r hrq])
      rw [e2, mt_l0, Nat.xor_zero, e3]
    · by_cases h59 : c < 59
      · rw [cw_p _ h59, cw_p _ h59, hkp, hM1o r hrq]
        have hcL : c < L := by unfold rel at hc; omega
        have e4 : M1 q (T + c) = K c := by rw [← hM1q c hc, cw_p _ h59]
        by_cases hcq : c ≤ q
        · rw [if_pos ⟨by omega, by omega, hl, by omega⟩, e4]
        · rw [if_neg (fun z => by omega), hKz c (by omega) hcL, mt_r0, Nat.xor_zero]
      · have e4 : M1 q (c - 59) = K c := by rw [← hM1q c hc, cw_v _ (by omega)]
        rw [cw_v _ (by omega), cw_v _ (by omega), hkp, hM1o r hrq, if_pos ⟨by omega, by omega, hl, by unfold rel at hc; omega⟩, e4]
  have hlo : ∀ r, r ≠ q → va_up ld q true r = ld r := fun r hr => va_up_ne _ _ hr
  refine ⟨by show rk + 1 = n + 1; rw [show rk = n from h.1], ?_, ?_⟩
  · intro r hr hl
    show kpM pw ex L T q ld N M r (T + r) = 1 ∧ (∀ c, r < c → c < L → kpM pw ex L T q ld N M r (T + c) = 0) ∧ ∀ r', r' < L → r' ≠ r → va_up ld q true r' = true → kpM pw ex L T q ld N M r' (T + r) = 0
    have at1 : ∀ r c, c < L → kpM pw ex L T q ld N M r (T + c) = cw T (kpM pw ex L T q ld N M r) c := fun r c hc => (cw_p _ (by omega)).symm
    by_cases hrq : r = q
    · subst hrq
      refine ⟨by rw [at1 _ _ hr, hMq _ (Or.inl hr), hKq], fun c h3 h4 => by rw [at1 _ _ h4, hMq _ (Or.inl h4), hKz c h3 h4], fun r' h3 h4 h5 => ?_⟩
      rw [hlo r' h4] at h5
      rw [at1 _ _ hr, hM' r' h3 h4 h5 r (Or.inl hr), hKq, mt_r1, Nat.xor_self]
    · have hl2 : ld r = true := by rw [← hlo r hrq]; exact hl
      obtain ⟨c1, c2, c3⟩ := hcs r hr hl2
      have cwp : ∀ r' c, c < L → cw T (M r') c = M r' (T + c) := fun r' c hc => cw_p _ (by omega)
      refine ⟨by rw [at1 _ _ hr, hM' r hr hrq hl2 r (Or.inl hr), cwp r r hr, c1, hKp r hr hl2, mt_r0, Nat.xor_zero], fun c h3 h4 => ?_, fun r' h3 h4 h5 => ?_⟩
      · rw [at1 _ _ h4, hM' r hr hrq hl2 c (Or.inl h4), cwp r c h4, c2 c h3 h4, Nat.zero_xor, cwp r q hqL]
        rcases Nat.lt_or_ge r q with hlt | hge
        · rw [c2 q hlt hqL, mt_l0]
        · rw [hKz c (by omega) h4, mt_r0]
      · by_cases hrq' : r' = q
        · subst hrq'; rw [at1 _ _ hr, hMq _ (Or.inl hr), hKp r hr hl2]
        · rw [hlo r' hrq'] at h5
          rw [at1 _ _ hr, hM' r' h3 hrq' h5 r (Or.inl hr), cwp r' r hr, c3 r' h3 h4 h5, hKp r hr hl2, mt_r0, Nat.zero_xor]
  · intro T' hT' v hv
    have hnew := c_new hL hT hs1 hKb hv hqL hlq hKq hKp hM' hMq hlo (va_up_self ld q true)
    have hbv : ∀ z, cR L T M ld v z < 256 := by_cR hv
    show Zv L T' (cR L T (kpM pw ex L T q ld N M) (va_up ld q true) v) ↔ ∃ f, f < 256 ∧ KS L T' V n (ax f (V n) v)
    have hker := h.2.2 T' hT'
    constructor
    · intro hz0
      refine ⟨mt (cR L T M ld v q) sc, mt_lt (hbv q), (hker _ (by_ax (mt_lt (hbv q)) hv)).mp (fun c hc => ?_)⟩
      have h75 := rel_lt hL (show T' ≤ 16 by omega) hc
      have h0 := hz0 c hc
      rw [hnew c (rel_le hT' hc), hK] at h0
      show cR L T M ld _ c = 0
      rw [c_lin hs1 (mt_lt (hbv q)) hVb hv h75, mt_assoc (hbv q) hscl (hbR c)]
      exact h0
    · intro ⟨f, hf, hks⟩ c hc
      have hz1 := (hker _ (by_ax hf hv)).mpr hks
      have e1 : ∀ c, rel L T' c → cR L T M ld v c = mt f (cR L T M ld (V n) c) := fun c hc => by
        have h9 : cR L T M ld (ax f (V n) v) c = 0 := hz1 c hc
        rw [c_lin hs1 hf hVb hv (rel_lt hL (show T' ≤ 16 by omega) hc)] at h9
        exact xz h9
      rw [hnew c (rel_le hT' hc), e1 c hc, e1 q (Or.inl hqL), hK]
      show mt f (cR L T M ld (V n) c) ^^^ mt (mt f (cR L T M ld (V n) q)) (mt sc (cR L T M ld (V n) c)) = 0
      rw [mt_assoc hf (hbR q) (mt_lt hscl), ← mt_assoc (hbR q) hscl (hbR c), mt_comm (hbR q) hscl, hRq, hsc1, mt_l1 (hbR c), Nat.xor_self]
end Learn
