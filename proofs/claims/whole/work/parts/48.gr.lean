/-! ===== lines that grow ===== -/
theorem Gr.mono {L : Nat} {V : Nat → Nat → Nat} {m n : Nat} (h : Gr L V n) (hm : m ≤ n) : Gr L V m := fun i hi => h i (by omega)
theorem km_0 {L : Nat} (V : Nat → Nat → Nat) (M : Nat → Nat → Nat) (pv ro : Nat → Nat) : KmOK L V 0 (0, M, pv, ro) := ⟨rfl, fun r hr => absurd hr (Nat.not_lt_zero _), fun T hT v hv => Iff.rfl⟩
theorem km_lines {L a : Nat} {V : Nat → Nat → Nat} {u : MS} (hL : L ≤ 59) (hu : MBy u) (h : KmOK L V a u) : ∀ n, Gr L V (a + n) → (∀ i, i < a + n → By (V i)) → KmOK L V (a + n) (mLines L (fun i => V (a + i)) n u) ∧ MBy (mLines L (fun i => V (a + i)) n u)
  | 0, _, _ => ⟨h, hu⟩
  | n + 1, hg, hV => by
    obtain ⟨h1, h2⟩ := km_lines hL hu h n (hg.mono (by omega)) (fun i hi => hV i (by omega))
    rw [mLines_s]
    exact ⟨(mPut_yes hL h2 (hV (a + n) (by omega)) h1 (hg (a + n) (by omega))).2, mPut_by hL (hV (a + n) (by omega)) h2⟩
theorem km_count {L a : Nat} {V : Nat → Nat → Nat} {u : MS} (hL : L ≤ 59) (hu : MBy u) (h : KmOK L V a u) (hg : Gr L V a) : ∀ n, (∀ i, i < a + n → By (V i)) → (mLines L (fun i => V (a + i)) n u).1 = a + n → Gr L V (a + n)
  | 0, _, _ => hg
  | n + 1, hV, hn => by
    have hb := mLines_by (L := L) (V := fun i => V (a + i)) hL hu n (fun i hi => hV (a + i) (by omega))
    have hu1 : u.1 = a := h.1
    rw [mLines_s] at hn
    have hr := mPut_rw L (V (a + n)) (mLines L (fun i => V (a + i)) n u)
    have hg1 := km_count hL hu h hg n (fun i hi => hV i (by omega)) (by omega)
    obtain ⟨h1, h2⟩ := km_lines hL hu h n hg1 (fun i hi => hV i (by omega))
    intro i hi
    by_cases hin : i = a + n
    · subst hin
      intro hk
      have h3 := (mPut_no hL h2 (hV (a + n) (by omega)) h1 hk).2.1.1
      omega
    · exact hg1 i (by omega)
theorem fxV_0 {pm : Nat → Nat} {k n i : Nat} (h : n < i) (hi : i < 11) : fxV pm k n (k + i) = 0 := by
  unfold fxV
  split
  · unfold fxA; rw [if_neg (by omega), if_neg (by omega)]
  · unfold fxB; rw [if_neg (by omega), if_neg (by omega)]
theorem fxV_1 (pm : Nat → Nat) (k i : Nat) : fxV pm k i (k + i) = 1 := by
  unfold fxV
  split
  · unfold fxA; rw [if_pos rfl]
  · unfold fxB; rw [if_pos rfl]
/-- the eleven fixed rows, then the lines of X -/
def VV (pm : Nat → Nat) (k : Nat) (X : Nat → Nat → Nat) (i : Nat) : Nat → Nat := if i < 11 then fxV pm k i else X (i - 11)
theorem VV_f {pm : Nat → Nat} {k : Nat} {X : Nat → Nat → Nat} {i : Nat} (h : i < 11) : VV pm k X i = fxV pm k i := if_pos h
theorem VV_x (pm : Nat → Nat) (k : Nat) (X : Nat → Nat → Nat) (i : Nat) : VV pm k X (11 + i) = X i := by unfold VV; rw [if_neg (by omega), show 11 + i - 11 = i by omega]
theorem VV_by {pm : Nat → Nat} {k : Nat} {X : Nat → Nat → Nat} {n : Nat} (hp : PmOk pm) (hX : ∀ i, i < n → By (X i)) : ∀ i, i < 11 + n → By (VV pm k X i) := fun i hi => by
  by_cases h : i < 11
  · rw [VV_f h]; exact by_fxV hp k i
  · have := VV_x pm k X (i - 11); rw [show 11 + (i - 11) = i by omega] at this; rw [this]; exact hX _ (by omega)
theorem ks_fix {pm : Nat → Nat} {k : Nat} {X : Nat → Nat → Nat} : ∀ n, n ≤ 11 → ∀ v, KS (k + 11) 0 (VV pm k X) n v → ∀ i, n ≤ i → i < 11 → v (k + i) = 0
  | 0, _, v, h, i, _, hi => h (k + i) (Or.inl (by omega))
  | n + 1, hn, v, ⟨f, hf, h⟩, i, h1, hi => by
    have := ks_fix n (by omega) _ h i (by omega) hi
    unfold ax at this
    rw [VV_f (by omega), fxV_0 (by omega) hi, mt_r0, Nat.xor_zero] at this
    exact this
theorem gr_fix (pm : Nat → Nat) (k : Nat) (X : Nat → Nat → Nat) : Gr (k + 11) (VV pm k X) 11 := fun i hi h => by
  have := ks_fix i (by omega) _ h i (Nat.le_refl _) hi
  rw [VV_f hi, fxV_1] at this
  exact absurd this (by decide)
theorem mLines_congr {L : Nat} {V V' : Nat → Nat → Nat} {u : MS} : ∀ n, (∀ i, i < n → V i = V' i) → mLines L V n u = mLines L V' n u
  | 0, _ => rfl
  | n + 1, h => by rw [mLines_s, mLines_s, mLines_congr n (fun i hi => h i (by omega)), h n (by omega)]
theorem km_start {pm : Nat → Nat} {k : Nat} {X : Nat → Nat → Nat} {u : MS} (hp : PmOk pm) (hk : k ≤ 48) (hu : MBy u) : KmOK (k + 11) (VV pm k X) 11 (mStart pm k u) := by
  have h := km_lines (L := k + 11) (a := 0) (V := VV pm k X) (u := (0, u.2.1, u.2.2.1, u.2.2.2)) (by omega) hu (km_0 _ _ _ _) 11 ((gr_fix pm k X).mono (by omega)) (fun i hi => VV_by (n := 0) hp (fun i hi => absurd hi (Nat.not_lt_zero _)) i (by omega))
  have e : mLines (k + 11) (fun i => VV pm k X (0 + i)) 11 (0, u.2.1, u.2.2.1, u.2.2.2) = mStart pm k u := mLines_congr 11 (fun i hi => by rw [Nat.zero_add, VV_f hi])
  rw [e] at h
  exact h.1
theorem km_vv {pm : Nat → Nat} {k n : Nat} {X : Nat → Nat → Nat} {u : MS} (hp : PmOk pm) (hk : k ≤ 48) (hu : MBy u) (hX : ∀ i, i < n → By (X i)) (hg : Gr (k + 11) (VV pm k X) (11 + n)) : KmOK (k + 11) (VV pm k X) (11 + n) (mLines (k + 11) X n (mStart pm k u)) ∧ MBy (mLines (k + 11) X n (mStart pm k u)) := by
  have h := km_lines (L := k + 11) (by omega) (mStart_by hp hk hu).1 (km_start (X := X) hp hk hu) n hg (VV_by hp hX)
  rw [mLines_congr n (fun i _ => VV_x pm k X i)] at h
  exact h
noncomputable def fbG (pm : Nat → Nat) (k t : Nat) : Bool := by
  classical
  exact decide (Gr (k + 11) (VV pm k (fun x => pkR k x t)) (11 + k))
theorem fbG_iff {pm : Nat → Nat} {k t : Nat} : fbG pm k t = true ↔ Gr (k + 11) (VV pm k (fun x => pkR k x t)) (11 + k) := by
  classical
  unfold fbG
  exact ⟨fun h => @of_decide_eq_true _ _ h, fun h => @decide_eq_true _ _ h⟩
theorem fb_model {pm : Nat → Nat} {k t : Nat} {u : MS} (hp : PmOk pm) (hk : k ≤ 48) (hu : MBy u) : decide ((mFullS pm k t u).1 = k + 11) = fbG pm k t := by
  have hX : ∀ i, i < k → By ((fun x => pkR k x t) i) := fun i _ => by_pkR k i t
  cases hf : fbG pm k t with
  | true =>
    have h := km_vv hp hk hu hX (fbG_iff.mp hf)
    have h1 := h.1.1
    exact decide_eq_true (by show (mLines (k + 11) (fun x => pkR k x t) k (mStart pm k u)).1 = _; omega)
  | false =>
    refine decide_eq_false (fun hn => ?_)
    have h := km_count (L := k + 11) (by omega) (mStart_by hp hk hu).1 (km_start (X := fun x => pkR k x t) hp hk hu) (gr_fix pm k _) k (VV_by hp hX)
    rw [mLines_congr k (fun i _ => VV_x pm k (fun x => pkR k x t) i)] at h
    have h2 := fbG_iff.mpr (h (by show (mFullS pm k t u).1 = _; omega))
    rw [hf] at h2
    cases h2
theorem by_one {y : Nat → Nat} (hy : By y) (v : Nat → Nat) (hv : By v) : By (ax 1 y v) := by_ax (by decide) hv
/-- what is left of a line -/
theorem res_model {L T n : Nat} {V : Nat → Nat → Nat} {u : MS} {v y : Nat → Nat} (hL : L ≤ 59) (hT : T ≤ 16) (hu : MBy u) (h : KmOK L V n u) (hv : By v) (hy : By y) (hz : ∀ c, c < L → y c = 0) : (∀ c, rel L T c → mRed u.1 u.2.1 u.2.2.1 v c = y c) ↔ KS L T V n (ax 1 y v) := by
  rw [← h.2.2 T hT _ (by_one hy v hv)]
  have e : ∀ c, c < 75 → mRed u.1 u.2.1 u.2.2.1 (ax 1 y v) c = mRed u.1 u.2.1 u.2.2.1 v c ^^^ y c := fun c hc => by
    rw [red_lin hu.2.2 hu.1 (by decide) hy hv u.1 c hc, red_free h.2.1 hz u.1 (Nat.le_refl _), mt_l1 (hy c)]
  constructor
  · intro h1 c hc
    rw [e c (rel_lt hL hT hc), h1 c hc, Nat.xor_self]
  · intro h1 c hc
    have := h1 c hc
    rw [e c (rel_lt hL hT hc)] at this
    exact xz this
theorem bs_le {L n : Nat} {M : Nat → Nat → Nat} {pv : Nat → Nat} (h : Bs L n M pv) : n ≤ L := by
  classical
  refine pigeon n L (fun i => if h : ∃ r, r < n ∧ pv r = i then h.choose else 0) (fun r hr => ⟨pv r, (h r hr).1, ?_⟩)
  have hx : ∃ r', r' < n ∧ pv r' = pv r := ⟨r, hr, rfl⟩
  show (if h : ∃ r', r' < n ∧ pv r' = pv r then h.choose else 0) = r
  rw [dif_pos hx]
  have h1 := hx.choose_spec
  refine Classical.byContradiction (fun hne => ?_)
  have h2 := (h r hr).2.2 _ h1.1 hne
  have h3 := (h _ h1.1).2.1
  rw [h1.2, h2] at h3
  exact absurd h3 (by decide)
