/-! ===== the two sides agree: mathematics ===== -/
theorem inj_onto : ∀ (L : Nat) (f : Nat → Nat), (∀ r, r < L → f r < L) → (∀ q r, q < L → r < L → f q = f r → q = r) → ∀ p, p < L → ∃ r, r < L ∧ f r = p
  | 0, _, _, _, p, hp => absurd hp (Nat.not_lt_zero _)
  | L + 1, f, h1, h2, p, hp => by
    by_cases hpq : f L = p
    · exact ⟨L, by omega, hpq⟩
    have hfL := h1 L (by omega)
    have ih := inj_onto L (fun r => if f r = L then f L else f r) (fun r hr => by
      show (if f r = L then f L else f r) < L
      have := h1 r (by omega)
      have hne : f r ≠ f L := fun e => by have := h2 r L (by omega) (by omega) e; omega
      split <;> omega) (fun q r hq hr e => by
      have hq1 : f q ≠ f L := fun e => by have := h2 q L (by omega) (by omega) e; omega
      have hr1 : f r ≠ f L := fun e => by have := h2 r L (by omega) (by omega) e; omega
      have e' : (if f q = L then f L else f q) = (if f r = L then f L else f r) := e
      refine h2 q r (by omega) (by omega) ?_
      by_cases c1 : f q = L <;> by_cases c2 : f r = L
      · omega
      · rw [if_pos c1, if_neg c2] at e'; exact absurd e'.symm hr1
      · rw [if_neg c1, if_pos c2] at e'; exact absurd e' hq1
      · rw [if_neg c1, if_neg c2] at e'; exact e') (if p = L then f L else p) (by split <;> omega)
    obtain ⟨r, hr, e⟩ := ih
    have e' : (if f r = L then f L else f r) = (if p = L then f L else p) := e
    refine ⟨r, by omega, ?_⟩
    have hr1 : f r ≠ f L := fun e => by have := h2 r L (by omega) (by omega) e; omega
    by_cases c1 : f r = L <;> by_cases c2 : p = L
    · omega
    · rw [if_pos c1, if_neg c2] at e'; exact absurd e' hpq
    · rw [if_neg c1, if_pos c2] at e'; exact absurd e' hr1
    · rw [if_neg c1, if_neg c2] at e'; exact e'
theorem red_own {L rw : Nat} {M : Nat → Nat → Nat} {pv : Nat → Nat} (hp : ∀ r, pv r < 75) (hM : ∀ r, By (M r)) (h : Bs L rw M pv) {r : Nat} (hr : r < rw) : ∀ n, n ≤ rw → ∀ c, c < 75 → mRed n M pv (M r) c = if r < n then 0 else M r c
  | 0, _, c, _ => by rw [if_neg (Nat.not_lt_zero _)]; rfl
  | n + 1, hn, c, hc => by
    rw [mRed_s, redS_at hc, red_own hp hM h hr n (by omega) c hc, red_own hp hM h hr n (by omega) _ (hp n)]
    rcases Nat.lt_trichotomy r n with h1 | h1 | h1
    · rw [if_pos h1, if_pos h1, if_pos (by omega), mt_l0, Nat.xor_zero]
    · subst h1
      rw [if_neg (by omega), if_neg (by omega), if_pos (by omega), (h r hr).2.1, mt_l1 (hM r c), Nat.xor_self]
    · rw [if_neg (by omega), if_neg (by omega), if_neg (by omega), (h n (by omega)).2.2 r hr (by omega), mt_l0, Nat.xor_zero]
theorem km_row {L T n : Nat} {V : Nat → Nat → Nat} {u : MS} (hL : L ≤ 59) (hT : T ≤ 16) (hu : MBy u) (h : KmOK L V n u) {r : Nat} (hr : r < u.1) : KS L T V n (u.2.1 r) :=
  (h.2.2 T hT _ (hu.1 r)).mp (fun c hc => by rw [red_own hu.2.2 hu.1 h.2.1 hr u.1 (Nat.le_refl _) c (rel_lt hL hT hc), if_pos hr])
theorem km_x {L T n : Nat} {V : Nat → Nat → Nat} {u : MS} {v w : Nat → Nat} (hL : L ≤ 59) (hT : T ≤ 16) (hu : MBy u) (h : KmOK L V n u) (hv : By v) (hw : By w) (h1 : KS L T V n v) (h2 : KS L T V n w) : KS L T V n (ax 1 w v) :=
  (h.2.2 T hT _ (by_one hw v hv)).mp (fun c hc => by
    rw [red_lin hu.2.2 hu.1 (by decide) hw hv u.1 c (rel_lt hL hT hc), (h.2.2 T hT v hv).mpr h1 c hc, (h.2.2 T hT w hw).mpr h2 c hc]
    rw [mt_r0]; rfl)
theorem km_pv {L : Nat} {V : Nat → Nat → Nat} {u : MS} (h : KmOK L V L u) {p : Nat} (hp : p < L) : ∃ r, r < L ∧ u.2.2.1 r = p := by
  have h1 : u.1 = L := h.1
  exact inj_onto L u.2.2.1 (fun r hr => (h.2.1 r (by omega)).1) (fun q r hq hr e => Classical.byContradiction (fun hne => bs_ne h.2.1 (by omega) (by omega) hne e)) p hp
theorem km_all {L : Nat} {V : Nat → Nat → Nat} {u : MS} (hu : MBy u) (h : KmOK L V L u) {v : Nat → Nat} (hv : By v) : KS L 0 V L v :=
  (h.2.2 0 (by decide) v hv).mp (fun c hc => by
    have hcL : c < L := by unfold rel at hc; omega
    obtain ⟨r, hr, e⟩ := km_pv h hcL
    rw [← e]
    exact red_piv hu.2.2 h.2.1 u.1 (Nat.le_refl _) r (by have := h.1; omega))
theorem ck_full {L T n rk : Nat} {V M : Nat → Nat → Nat} {ld : Nat → Bool} (hL : L ≤ 59) (h : CkOK L T V n rk M ld) (hall : ∀ v, By v → KS L 0 V n v) : ∀ p, p < L → ld p = true := fun p hp => by
  cases hl : ld p with
  | true => rfl
  | false =>
    exfalso
    have hb : By (fun c => if c = p then 1 else 0) := fun c => by
      show (if c = p then 1 else 0) < 256
      split <;> decide
    have e : ∀ n, n ≤ L → ∀ c, c < 75 → cR n T M ld (fun c => if c = p then 1 else 0) c = if c = p then 1 else 0 := by
      intro n
      induction n with
      | zero => intro _ c _; rfl
      | succ n ih =>
        intro hn c hc
        rw [cR_s (by omega) hc, ih (by omega) c hc, ih (by omega) n (by omega)]
        by_cases hnp : n = p
        · subst hnp; rw [B0_f hl, mt_r0, Nat.xor_zero]
        · rw [if_neg hnp, mt_l0, Nat.xor_zero]
    have := (h.2.2 0 (Nat.zero_le _) _ hb).mpr (hall _ hb) p (Or.inl hp)
    rw [e L (Nat.le_refl _) p (by omega), if_pos rfl] at this
    exact absurd this (by decide)
/-- two full bases of the same lines hold the same bytes -/
theorem blk_eq {L T rk : Nat} {V M : Nat → Nat → Nat} {ld : Nat → Bool} {u : MS} (hL : L ≤ 59) (hT : T ≤ 16) (hu : MBy u) (hm : KmOK L V L u) (hM : ∀ p, By (M p)) (h : CkOK L T V L rk M ld) {r i : Nat} (hr : r < L) (hi : i < T) : M (u.2.2.1 r) i = u.2.1 r (59 + i) := by
  have hld := ck_full hL h (fun v hv => km_all hu hm hv)
  have hu1 : u.1 = L := hm.1
  have hp := (hm.2.1 r (by omega)).1
  have hidp : ∀ q, q < L → idp q = q := fun q hq => idp_id (by omega)
  have hbs : Bs L L (B0 T M ld) idp := fun q hq => by
    have hc := h.2.1 q hq (hld q hq)
    rw [hidp q hq]
    refine ⟨hq, ?_, fun q' hq' hne => ?_⟩
    · rw [B0_t (hld q hq), cw_p _ (by omega)]; exact hc.1
    · rw [B0_t (hld q' hq'), cw_p _ (by omega)]; exact hc.2.2 q' hq' hne (hld q' hq')
  have hB := by_B0 (T := T) (ld := ld) hM
  have k1 : KS L T V L (B0 T M ld (u.2.2.1 r)) := (h.2.2 T (Nat.le_refl _) _ (hB _)).mp (fun c hc => by
    unfold cR
    rw [red_own idp_lt hB hbs hp L (Nat.le_refl _) c (rel_lt hL hT hc), if_pos hp])
  have k2 := km_row (T := T) hL hT hu hm (r := r) (by omega)
  have k3 := km_x hL hT hu hm (hu.1 r) (hB _) k2 k1
  have hz : ∀ c, c < L → ax 1 (B0 T M ld (u.2.2.1 r)) (u.2.1 r) c = 0 := fun c hc => by
    unfold ax
    rw [mt_l1 (hB _ c)]
    have e : u.2.1 r c = B0 T M ld (u.2.2.1 r) c := by
      obtain ⟨q, hq, e⟩ := km_pv hm hc
      by_cases hqr : q = r
      · subst hqr
        rw [← e, (hm.2.1 q (by omega)).2.1]
        have := (hbs (u.2.2.1 q) hp).2.1
        rw [hidp _ hp] at this
        exact this.symm
      · rw [← e, (hm.2.1 q (by omega)).2.2 r (by omega) (Ne.symm hqr)]
        have hpq := (hm.2.1 q (by omega)).1
        have := (hbs (u.2.2.1 q) hpq).2.2 (u.2.2.1 r) hp (fun e2 => bs_ne hm.2.1 (by omega) (by omega) hqr e2.symm)
        rw [hidp _ hpq] at this
        exact this.symm
    rw [e, Nat.xor_self]
  have k4 := (hm.2.2 T hT _ (by_one (hB _) _ (hu.1 r))).mpr k3 (59 + i) (Or.inr ⟨by omega, by omega⟩)
  rw [red_free hm.2.1 hz u.1 (Nat.le_refl _)] at k4
  unfold ax at k4
  rw [mt_l1 (hB _ _), B0_t (hld _ hp), cw_v _ (by omega), show 59 + i - 59 = i by omega] at k4
  have := congrArg (fun z => z ^^^ M (u.2.2.1 r) i) k4
  simp only [Nat.xor_assoc, Nat.xor_self, Nat.xor_zero, Nat.zero_xor] at this
  exact this.symm
/-- the class solves the tape's lines -/
theorem sv_ok {pw ex pm : Nat → Nat} (ht : TabOk pw ex) (hpm : ∀ x, pm x = pw x) {k T len : Nat} {h th : Nat → Nat} {s : EqS} (pl : Nat → Nat) (hk : 1 ≤ k ∧ k ≤ 48) (hT : T ≤ 16) (hs : EqBy s) (hh : By h) (hth : By th) (hlen : len = k * T) (he : ∀ j, j < len → h j = th j) (hT1 : tnN (fbG pm k) < 1000) :
    ∀ x, x ≤ k → CkOK (k + 11) T (VV pm k (bkV pm k T th)) (11 + x) (svAt pw ex k T (tnN (fbG pm k)) h s pl x).1.1 (svAt pw ex k T (tnN (fbG pm k)) h s pl x).1.2.1 (svAt pw ex k T (tnN (fbG pm k)) h s pl x).1.2.2.1 ∧ EqBy (svAt pw ex k T (tnN (fbG pm k)) h s pl x).1 := by
  have hp : PmOk pm := fun x => by rw [hpm]; exact ht.pw x
  have hg := blk_gr (t := T) (th := th) hk.2 hT1
  have hVb : ∀ i, i < 11 + k → By (VV pm k (bkV pm k T th) i) := VV_by hp (fun i _ => by_bkV hth i)
  intro x
  induction x with
  | zero => intro _; rw [svAt_0]; exact ck_start ht hpm hk.2 hT hs
  | succ x ih =>
    intro hx
    obtain ⟨i1, i2⟩ := ih (by omega)
    rw [svAt_s]
    generalize svAt pw ex k T (tnN (fbG pm k)) h s pl x = u at i1 i2
    rw [svSt_1]
    have hin : EqBy (inS T (fun i => h (x * T + i)) (pkOut k x (tnN (fbG pm k)) u.2.1) u.1) := inS_by (fun i _ => hh _) i2
    have hline : ∀ c, rel (k + 11) T c → cw T (inS T (fun i => h (x * T + i)) (pkOut k x (tnN (fbG pm k)) u.2.1) u.1).2.2.2 c = VV pm k (bkV pm k T th) (11 + x) c := fun c hc => by
      rw [VV_x]
      refine cw_val (bb := fun i => th (T * x + i)) u.1.2.2.2 hk hT (fun i hi => ?_) c hc
      show h (x * T + i) = th (T * x + i)
      rw [Nat.mul_comm x T]
      refine he _ ?_
      have h9 := Nat.mul_le_mul_left T (show x + 1 ≤ k by omega)
      rw [Nat.mul_succ, Nat.mul_comm T k] at h9
      omega
    exact ⟨(learn_yes (s := inS T (fun i => h (x * T + i)) (pkOut k x (tnN (fbG pm k)) u.2.1) u.1) ht (by omega) hT hin (hVb (11 + x) (by omega)) i1 hline (hg (11 + x) (by omega))).2, learnS_by ht.pw hin⟩
theorem ld_at {T : Nat} {M BM : Nat → Nat → Nat} : ∀ n p i, fr (ldStep T M) n BM p i = if p < n ∧ i < T then M p i else BM p i
  | 0, p, i => by rw [if_neg (by omega)]; rfl
  | n + 1, p, i => by
    rw [fr_s]
    have ih := ld_at (T := T) (M := M) (BM := BM) n p i
    generalize fr (ldStep T M) n BM = B at ih ⊢
    unfold ldStep
    by_cases hp : p = n
    · subst hp
      rw [va_up_self]
      unfold va_cpy
      by_cases hi : i < T
      · rw [if_pos (by omega), if_pos (by omega), show 0 + (i - 0) = i by omega]
      · rw [if_neg (by omega), if_neg (by omega), ih, if_neg (by omega)]
    · rw [va_up_ne _ _ hp, ih]
      by_cases hc : p < n ∧ i < T
      · rw [if_pos hc, if_pos (by omega)]
      · rw [if_neg hc, if_neg (by omega)]
theorem blk_same {pw ex pm : Nat → Nat} (ht : TabOk pw ex) (hpm : ∀ x, pm x = pw x) {k T len : Nat} {h th : Nat → Nat} {s : EqS} (pl : Nat → Nat) (hk : 1 ≤ k ∧ k ≤ 48) (hT : T ≤ 16) (hs : EqBy s) (hh : By h) (hth : By th) (hlen : len = k * T) (he : ∀ j, j < len → h j = th j) (hT1 : tnN (fbG pm k) < 1000) {IN1 BM : Nat → Nat → Nat} {u : MS} (hm : KmOK (k + 11) (VV pm k (bkV pm k T th)) (11 + k) u) (hu : MBy u) (hI : ∀ r, r < k + 11 → ∀ i, i < T → IN1 (u.2.2.1 r) i = u.2.1 r (59 + i)) :
    ∀ p, p < k + 11 → ∀ i, i < T → fr (ldStep T (svAt pw ex k T (tnN (fbG pm k)) h s pl k).1.2.1) (k + 11) BM p i = IN1 p i := fun p hp i hi => by
  obtain ⟨h1, h2⟩ := sv_ok ht hpm pl hk hT hs hh hth hlen he hT1 k (Nat.le_refl _)
  rw [Nat.add_comm 11 k] at h1 hm
  obtain ⟨r, hr, e⟩ := km_pv hm hp
  rw [ld_at, if_pos ⟨hp, hi⟩, ← e, hI r hr i hi]
  exact blk_eq (by omega) hT hu hm h2.1 h1 hr hi
theorem CkOK_congr {L T n rk : Nat} {V V' M : Nat → Nat → Nat} {ld : Nat → Bool} (hL : L ≤ 59) (hT : T ≤ 16) (h : ∀ i, i < n → ∀ c, c < 75 → V i c = V' i c) (hk : CkOK L T V n rk M ld) : CkOK L T V' n rk M ld :=
  ⟨hk.1, hk.2.1, fun T' hT' v hv => (hk.2.2 T' hT' v hv).trans ⟨KS_congr (fun i hi c hc => h i hi c (rel_lt hL (by omega) hc)) (fun _ _ => rfl), KS_congr (fun i hi c hc => (h i hi c (rel_lt hL (by omega) hc)).symm) (fun _ _ => rfl)⟩⟩
/-- a line comes to both -/
theorem cm_step {pw ex pm : Nat → Nat} (ht : TabOk pw ex) (hpm : ∀ x, pm x = pw x) {ck ct cn pk x : Nat} {CG : Nat → Nat → Nat} {bb : Nat → Nat} {r1 : Int32} {cn1 pk1 rk : Nat} {M : Nat → Nat → Nat} {ld : Nat → Bool} {Vb ln pl : Nat → Nat} (hk : 1 ≤ ck ∧ ck ≤ 48) (hct : ct ≤ 16) (hM : ∀ p, By (M p)) (hln : By ln) (hbb : By bb) (hCG : ∀ r, By (CG r)) (hV : ∀ i, i < ct → Vb i = bb i)
    (hc : CkOK (ck + 11) ct (VV pm ck CG) (11 + cn) rk M ld) (h : CmR pm ck ct CG cn pk x bb r1 cn1 pk1) :
    learnR pw ex (ck + 11) ct (inS ct Vb (pkOut ck x (tnN (fbG pm ck)) pl) (rk, M, ld, ln)) = r1 ∧ (r1 = -1 ∨ r1 = 0 ∨ r1 = 1) ∧
    (r1 ≠ -1 → pk1 = pk + 1 ∧ CkOK (ck + 11) ct (VV pm ck (CgN pm ck ct CG cn x bb)) (11 + cn1) (learnS pw ex (ck + 11) ct (inS ct Vb (pkOut ck x (tnN (fbG pm ck)) pl) (rk, M, ld, ln))).1 (learnS pw ex (ck + 11) ct (inS ct Vb (pkOut ck x (tnN (fbG pm ck)) pl) (rk, M, ld, ln))).2.1 (learnS pw ex (ck + 11) ct (inS ct Vb (pkOut ck x (tnN (fbG pm ck)) pl) (rk, M, ld, ln))).2.2.1) ∧
    (r1 = -1 → pk1 = pk ∧ CkOK (ck + 11) ct (VV pm ck (CgN pm ck ct CG cn x bb)) (11 + cn1) rk M ld) := by
  have hL : ck + 11 ≤ 59 := by omega
  have hc2 := CkOK_congr hL hct (VV_old (pm := pm) (ck := ck) (ct := ct) (CG := CG) (cn := cn) (x := x) (bb := bb)) hc
  have hVb : By (VV pm ck (CgN pm ck ct CG cn x bb) (11 + cn)) := by rw [VV_new]; exact by_prt (fun c _ => by_lnM pm ck ct x hbb c) (hCG cn)
  have hs : EqBy (inS ct Vb (pkOut ck x (tnN (fbG pm ck)) pl) (rk, M, ld, ln)) := inS_by (fun i hi => by rw [hV i hi]; exact hbb i) ⟨hM, hln⟩
  have hline : ∀ c, rel (ck + 11) ct c → cw ct (inS ct Vb (pkOut ck x (tnN (fbG pm ck)) pl) (rk, M, ld, ln)).2.2.2 c = VV pm ck (CgN pm ck ct CG cn x bb) (11 + cn) c := fun c hcc => by
    rw [VV_new, onRow_at (rel_lt hL hct hcc)]
    exact cw_val ln hk hct hV c hcc
  have hcs : CkOK (ck + 11) ct (VV pm ck (CgN pm ck ct CG cn x bb)) (11 + cn) (inS ct Vb (pkOut ck x (tnN (fbG pm ck)) pl) (rk, M, ld, ln)).1 (inS ct Vb (pkOut ck x (tnN (fbG pm ck)) pl) (rk, M, ld, ln)).2.1 (inS ct Vb (pkOut ck x (tnN (fbG pm ck)) pl) (rk, M, ld, ln)).2.2.1 := hc2
  obtain ⟨S, hS⟩ : ∃ S, S = inS ct Vb (pkOut ck x (tnN (fbG pm ck)) pl) (rk, M, ld, ln) := ⟨_, rfl⟩
  have hS1 : S.1 = rk ∧ S.2.1 = M ∧ S.2.2.1 = ld := by rw [hS]; exact ⟨rfl, rfl, rfl⟩
  rw [← hS] at hs hline hcs ⊢
  have hany : KS (ck + 11) 0 (VV pm ck (CgN pm ck ct CG cn x bb)) (11 + cn) (VV pm ck (CgN pm ck ct CG cn x bb) (11 + cn)) → (anyV ct (lnOf pw ex (ck + 11) ct S) = true ↔ ¬ KS (ck + 11) ct (VV pm ck (CgN pm ck ct CG cn x bb)) (11 + cn) (VV pm ck (CgN pm ck ct CG cn x bb) (11 + cn))) := fun hks => by
    obtain ⟨l1, l2⟩ := ln_at ht hL hct hs hcs hline
    have hz := (hcs.2.2 0 (Nat.zero_le _) _ hVb).mpr hks
    rw [← hcs.2.2 ct (Nat.le_refl _) _ hVb]
    unfold anyV
    rw [decide_eq_true_iff]
    constructor
    · rintro ⟨i, hi, hne⟩ hzv
      have h2 := l1 (59 + i) (Or.inr ⟨by omega, by omega⟩)
      rw [hzv (59 + i) (Or.inr ⟨by omega, by omega⟩), cw_v _ (by omega), show 59 + i - 59 = i by omega] at h2
      exact hne h2
    · intro hn
      refine Classical.byContradiction (fun hno => hn (fun c hcc => ?_))
      by_cases hcL : c < ck + 11
      · exact hz c (Or.inl hcL)
      · have hc59 : 59 ≤ c ∧ c < 59 + ct := by unfold rel at hcc; omega
        have h2 := l1 c hcc
        rw [cw_v _ hc59.1] at h2
        rw [← h2]
        exact Classical.byContradiction (fun h3 => hno ⟨c - 59, by omega, h3⟩)
  rcases h with ⟨hr, hn, e1, e2⟩ | ⟨hr, ⟨hn, hn2⟩, e1, e2⟩ | ⟨hr, ⟨hn, hn2⟩, e1, e2⟩
  · obtain ⟨y1, y2⟩ := learn_yes ht hL hct hs hVb hcs hline hn
    subst hr e1 e2
    exact ⟨y1, Or.inr (Or.inr rfl), fun _ => ⟨rfl, y2⟩, fun h => absurd h (by decide)⟩
  · obtain ⟨y1, y2⟩ := learn_no ht hL hct hs hVb hcs hline hn
    rw [if_neg (fun h => (hany hn).mp h hn2)] at y2
    subst hr e1 e2
    rw [y1]
    exact ⟨y2, Or.inr (Or.inl rfl), fun _ => ⟨rfl, hcs⟩, fun h => absurd h (by decide)⟩
  · obtain ⟨y1, y2⟩ := learn_no ht hL hct hs hVb hcs hline hn
    rw [if_pos ((hany hn).mpr hn2)] at y2
    subst hr e1 e2
    exact ⟨y2, Or.inl rfl, fun h => absurd rfl h, fun _ => ⟨rfl, hc2⟩⟩
/-- the byte of a packet -/
theorem vl_xs (BM : Nat → Nat → Nat) (pl : Nat → Nat) (i : Nat) : ∀ v, vlN BM pl i v = xs (fun j => BM (pl j) i) v
  | 0 => rfl
  | v + 1 => by
    have e : vlN BM pl i (v + 1) = vlN BM pl i v ^^^ BM (pl v) i := rfl
    rw [e, vl_xs BM pl i v]; rfl
theorem sm_xs (B : Nat → Nat → Nat) (Rw : Nat → Nat) (i : Nat) : ∀ n, smN B Rw i n = xs (fun c => if Rw c = 1 then B c i else 0) n
  | 0 => rfl
  | n + 1 => by
    have e : smN B Rw i (n + 1) = smN B Rw i n ^^^ (if Rw n = 1 then B n i else 0) := rfl
    rw [e, sm_xs B Rw i n]; rfl
theorem vl_sm {BM IN : Nat → Nat → Nat} {k x t i : Nat} (p0 : Nat → Nat) (hk : 1 ≤ k ∧ k ≤ 48) (h : ∀ p, p < k + 11 → BM p i = IN p i) : vlN BM (pkOut k x t p0).1 i (pkOut k x t p0).2.1 = smN IN (pkR k x t) i (k + 11) := by
  obtain ⟨h1, h2⟩ := pkOut_P x t p0 hk
  have hp := pkP_ok x t hk
  rw [vl_xs, sm_xs, h1]
  rw [xs_congr (g := fun j => BM (pkP k x t j) i) (fun j hj => by rw [h2 j hj])]
  have := xs_mk (h := fun c => BM c i) hp.1 hp.2
  rw [← this]
  refine xs_congr (fun c hc => ?_)
  show (if mkR (pkP k x t) (pkD k x t) c = 1 then BM c i else 0) = if mkR (pkP k x t) (pkD k x t) c = 1 then IN c i else 0
  rw [h c hc]
/-- the greatest place -/
theorem gt_ok {pl : Nat → Nat} : ∀ n, (∀ j, j < n → pl j < 1000) → (n = 0 ∧ gtN pl n = -1) ∨ ∃ j, j < n ∧ gtN pl n = nI (pl j) ∧ ∀ i, i < n → pl i ≤ pl j
  | 0, _ => Or.inl ⟨rfl, rfl⟩
  | n + 1, h => by
    have e : gtN pl (n + 1) = if gtN pl n < nI (pl n) then nI (pl n) else gtN pl n := rfl
    have hn := h n (by omega)
    rcases gt_ok n (fun j hj => h j (by omega)) with ⟨h0, h1⟩ | ⟨j, hj, h1, h2⟩
    · refine Or.inr ⟨n, by omega, ?_, fun i hi => by rw [show i = n by omega]; exact Nat.le_refl _⟩
      rw [e, h1]
      exact if_pos (Int32.lt_of_lt_of_le (by decide) (nI_pos' (by omega)))
    · have hj3 := h j (by omega)
      rw [e, h1]
      by_cases hc : pl j < pl n
      · refine Or.inr ⟨n, by omega, if_pos (nI_lt hc (by omega)), fun i hi => ?_⟩
        by_cases hin : i = n
        · rw [hin]; exact Nat.le_refl _
        · have := h2 i (by omega); omega
      · refine Or.inr ⟨j, by omega, if_neg (fun q => hc ((nI_ltI (by omega) (by omega)).mp q)), fun i hi => ?_⟩
        by_cases hin : i = n
        · rw [hin]; omega
        · exact h2 i (by omega)
theorem gt_last {k x t la : Nat} (p0 : Nat → Nat) (hk : 1 ≤ k ∧ k ≤ 48) (h1 : la < k + 11) (h2 : pkR k x t la = 1) (h3 : ∀ c, la < c → c < k + 11 → pkR k x t c = 0) : gtN (pkOut k x t p0).1 (pkOut k x t p0).2.1 = nI la := by
  obtain ⟨q1, q2⟩ := pkOut_P x t p0 hk
  have hp := pkP_ok x t hk
  have hd := pkD_pos k x t
  have hpl : ∀ j, j < (pkOut k x t p0).2.1 → (pkOut k x t p0).1 j < 1000 := fun j hj => by rw [q2 j (by omega)]; have := hp.1 j (by omega); omega
  rcases gt_ok _ hpl with ⟨e, _⟩ | ⟨j, hj, e, hmax⟩
  · omega
  · rw [e]
    congr 1
    rw [q1] at hj hmax
    have hjL := hp.1 j hj
    rw [← q2 j hj] at hjL
    obtain ⟨i, hi, hi2⟩ : ∃ i, i < pkD k x t ∧ pkP k x t i = la := Classical.byContradiction (fun hno => by
      have := mkR_0 hno
      unfold pkR at h2
      omega)
    have h4 := hmax i hi
    rw [q2 i hi, hi2] at h4
    by_cases hlt : la < (pkOut k x t p0).1 j
    · have h5 := h3 _ hlt hjL
      have h6 : pkR k x t ((pkOut k x t p0).1 j) = 1 := mkR_1 ⟨j, hj, (q2 j hj).symm⟩
      omega
    · omega
/-- the tape's words -/
theorem tp_in (h : Nat → Nat) (len w : Nat) {r : Nat} (hr : r < 4) : tpApp h len w (len + r) = w / 2 ^ (24 - 8 * r) % 256 := by
  unfold tpApp
  match r, hr with
  | 0, _ => rw [va_up_ne _ _ (by omega), va_up_ne _ _ (by omega), va_up_ne _ _ (by omega), Nat.add_zero, va_up_self]
  | 1, _ => rw [va_up_ne _ _ (by omega), va_up_ne _ _ (by omega), va_up_self]
  | 2, _ => rw [va_up_ne _ _ (by omega), show len + 2 = len + 1 + 1 by omega, va_up_self]
  | 3, _ => rw [show len + 3 = len + 1 + 1 + 1 by omega, va_up_self]
theorem tp_out (h : Nat → Nat) (len w : Nat) {j : Nat} (hj : j < len ∨ len + 4 ≤ j) : tpApp h len w j = h j := by
  unfold tpApp
  rw [va_up_ne _ _ (by omega), va_up_ne _ _ (by omega), va_up_ne _ _ (by omega), va_up_ne _ _ (by omega)]
theorem tp_eq {h th : Nat → Nat} {len a b c0 d e0 : Nat} (he : ∀ j, j < len → h j = th j) : ∀ j, j < len + 20 → tpApp (tpApp (tpApp (tpApp (tpApp h len a) (len + 4) b) (len + 4 + 4) c0) (len + 4 + 4 + 4) d) (len + 4 + 4 + 4 + 4) e0 j = thF len th a b c0 d e0 j := fun j hj => by
  unfold thF
  by_cases h0 : j < len
  · rw [if_neg (by omega), tp_out _ _ _ (by omega), tp_out _ _ _ (by omega), tp_out _ _ _ (by omega), tp_out _ _ _ (by omega), tp_out _ _ _ (by omega)]; exact he j h0
  · rw [if_pos (by omega)]
    unfold wB
    by_cases h4 : j < len + 4
    · rw [if_pos (by omega), tp_out _ _ _ (by omega), tp_out _ _ _ (by omega), tp_out _ _ _ (by omega), tp_out _ _ _ (by omega), show j = len + (j - len) by omega, tp_in _ _ _ (by omega), show len + (j - len) - len = j - len by omega, Nat.mod_eq_of_lt (show j - len < 4 by omega)]
    by_cases h8 : j < len + 8
    · rw [if_neg (by omega), if_pos (by omega), tp_out _ _ _ (by omega), tp_out _ _ _ (by omega), tp_out _ _ _ (by omega), show tpApp (tpApp h len a) (len + 4) b j = tpApp (tpApp h len a) (len + 4) b (len + 4 + (j - len - 4)) by rw [show len + 4 + (j - len - 4) = j by omega], tp_in _ _ _ (by omega), show (j - len) % 4 = j - len - 4 by omega]
    by_cases h12 : j < len + 12
    · rw [if_neg (by omega), if_neg (by omega), if_pos (by omega), tp_out _ _ _ (by omega), tp_out _ _ _ (by omega), show tpApp (tpApp (tpApp h len a) (len + 4) b) (len + 4 + 4) c0 j = tpApp (tpApp (tpApp h len a) (len + 4) b) (len + 4 + 4) c0 (len + 4 + 4 + (j - len - 8)) by rw [show len + 4 + 4 + (j - len - 8) = j by omega], tp_in _ _ _ (by omega), show (j - len) % 4 = j - len - 8 by omega]
    by_cases h16 : j < len + 16
    · rw [if_neg (by omega), if_neg (by omega), if_neg (by omega), if_pos (by omega), tp_out _ _ _ (by omega), show tpApp (tpApp (tpApp (tpApp h len a) (len + 4) b) (len + 4 + 4) c0) (len + 4 + 4 + 4) d j = tpApp (tpApp (tpApp (tpApp h len a) (len + 4) b) (len + 4 + 4) c0) (len + 4 + 4 + 4) d (len + 4 + 4 + 4 + (j - len - 12)) by rw [show len + 4 + 4 + 4 + (j - len - 12) = j by omega], tp_in _ _ _ (by omega), show (j - len) % 4 = j - len - 12 by omega]
    · rw [if_neg (by omega), if_neg (by omega), if_neg (by omega), if_neg (by omega), show j = len + 4 + 4 + 4 + 4 + (j - len - 16) by omega, tp_in _ _ _ (by omega), show (len + 4 + 4 + 4 + 4 + (j - len - 16) - len) % 4 = j - len - 16 by omega]
/-- known bytes -/
theorem kn_eq {L T n rk : Nat} {V M : Nat → Nat → Nat} {ld : Nat → Bool} {u : MS} {v : Nat → Nat} (hL : L ≤ 59) (hT : T ≤ 16) (hu : MBy u) (hm : KmOK L V n u) (hM : ∀ p, By (M p)) (h : CkOK L T V n rk M ld) (hv : By v) (hk : KS L 0 V n v) {i : Nat} (hi : i < T) : cR L T M ld v (59 + i) = mRed u.1 u.2.1 u.2.2.1 v (59 + i) := by
  have hz := (hm.2.2 0 (by decide) v hv).mpr hk
  have hy : By (fun c => if c < L then 0 else mRed u.1 u.2.1 u.2.2.1 v c) := fun c => by
    show (if c < L then 0 else mRed u.1 u.2.1 u.2.2.1 v c) < 256
    split
    · decide
    · exact by_mred hv _ c
  have h1 := (res_model (T := T) hL hT hu hm hv hy (fun c hc => if_pos hc)).mp (fun c hc => by
    show _ = if c < L then 0 else mRed u.1 u.2.1 u.2.2.1 v c
    by_cases hcL : c < L
    · rw [if_pos hcL]; exact hz c (Or.inl hcL)
    · rw [if_neg hcL])
  have h2 := (res_class hL hT (Nat.le_refl _) hM h hv hy (fun c hc => if_pos hc)).mpr h1 (59 + i) (Or.inr ⟨by omega, by omega⟩)
  rw [h2]
  exact if_neg (by omega)
