/-! ===== the model's basis: a line is put ===== -/
theorem xz {a b : Nat} (h : a ^^^ b = 0) : a = b := by
  have h1 : (a ^^^ b) ^^^ b = 0 ^^^ b := by rw [h]
  rw [Nat.xor_assoc, Nat.xor_self, Nat.xor_zero, Nat.zero_xor] at h1
  exact h1
/-- the model's basis speaks of the first n lines of V -/
def KmOK (L : Nat) (V : Nat → Nat → Nat) (n : Nat) (u : MS) : Prop := u.1 = n ∧ Bs L u.1 u.2.1 u.2.2.1 ∧ ∀ T, T ≤ 16 → ∀ v, By v → (Zv L T (mRed u.1 u.2.1 u.2.2.1 v) ↔ KS L T V n v)
theorem zT_iff {v : Nat → Nat} {L : Nat} : zT v L = true ↔ Zv L 0 v := by
  unfold zT
  rw [decide_eq_true_iff]
  exact ⟨fun h c hc => h c (by unfold rel at hc; omega), fun h c hc => h c (Or.inl hc)⟩
theorem put_red {L : Nat} {V : Nat → Nat} {u : MS} (hu : MBy u) : ∀ c, c < 75 → msR (u.1, u.2.1, u.2.2.1, onRow V u.2.2.2) c = mRed u.1 u.2.1 u.2.2.1 V c :=
  fun c hc => red_congr hu.2.2 (fun c hc => by show onRow V u.2.2.2 c = V c; unfold onRow; rw [if_pos hc]) u.1 c hc
/-- whether the line is added -/
noncomputable def mPutB (L : Nat) (V : Nat → Nat) (u : MS) : Bool := mAddB L (u.1, u.2.1, u.2.2.1, onRow V u.2.2.2)
theorem mPut_z {L : Nat} {V : Nat → Nat → Nat} {n : Nat} {u : MS} (hL : L ≤ 59) (hu : MBy u) (hV : By (V n)) (h : KmOK L V n u) : (zT (msR (u.1, u.2.1, u.2.2.1, onRow (V n) u.2.2.2)) L = true ↔ KS L 0 V n (V n)) := by
  rw [zT_iff, ← h.2.2 0 (by omega) (V n) hV]
  constructor
  · intro h1 c hc; rw [← put_red (L := L) hu c (rel_lt hL (by omega) hc)]; exact h1 c hc
  · intro h1 c hc; rw [put_red (L := L) hu c (rel_lt hL (by omega) hc)]; exact h1 c hc
theorem mPut_no {L : Nat} {V : Nat → Nat → Nat} {n : Nat} {u : MS} (hL : L ≤ 59) (hu : MBy u) (hV : By (V n)) (h : KmOK L V n u) (hk : KS L 0 V n (V n)) : mPutB L (V n) u = false ∧ KmOK L V n (mPut L (V n) u) ∧ (∀ c, c < 75 → (mPut L (V n) u).2.2.2 c = mRed u.1 u.2.1 u.2.2.1 (V n) c) := by
  have hz := (mPut_z hL hu hV h).mpr hk
  unfold mPutB mPut mAddB mAddS
  rw [mAdd_0 hz]
  exact ⟨rfl, h, put_red (L := L) hu⟩
theorem put_at {L rw q : Nat} {M : Nat → Nat → Nat} {Rr : Nat → Nat} (hq75 : q < 75) : (∀ r, r < rw → ∀ c, c < 75 → mElM q rw (mK q rw Rr M) r c = M r c ^^^ mt (M r q) (scV (mInv (Rr q)) Rr c)) ∧ ∀ c, c < 75 → mElM q rw (mK q rw Rr M) rw c = scV (mInv (Rr q)) Rr c := by
  have hKat : ∀ c, c < 75 → mK q rw Rr M rw c = scV (mInv (Rr q)) Rr c := fun c hc => by unfold mK; rw [va_up_self]; unfold prt; rw [if_pos hc]
  have hKo : ∀ r, r ≠ rw → mK q rw Rr M r = M r := fun r hr => by unfold mK; rw [va_up_ne _ _ hr]
  constructor
  · intro r hr c hc
    unfold mElM
    rw [el_at rw (Nat.le_refl _) r c hc hq75, if_pos hr, hKo r (by omega), hKat c hc]
  · intro c hc
    unfold mElM
    rw [el_at rw (Nat.le_refl _) rw c hc hq75, if_neg (by omega), hKat c hc]
theorem sc_ok {rw q : Nat} {pv Rr : Nat → Nat} (hbR : By Rr) (hq2 : Rr q ≠ 0) (hRp : ∀ r, r < rw → Rr (pv r) = 0) : By (scV (mInv (Rr q)) Rr) ∧ scV (mInv (Rr q)) Rr q = 1 ∧ ∀ r, r < rw → scV (mInv (Rr q)) Rr (pv r) = 0 := by
  have hI := mInv_ok (hbR q) hq2
  refine ⟨fun c => mt_lt hI.2.1, ?_, fun r hr => ?_⟩
  · show mt (mInv (Rr q)) (Rr q) = 1; rw [mt_comm hI.2.1 (hbR q)]; exact hI.2.2.1
  · show mt _ (Rr (pv r)) = 0; rw [hRp r hr, mt_r0]
theorem put_bs {L rw q : Nat} {M : Nat → Nat → Nat} {pv Rr : Nat → Nat} (hp : ∀ r, pv r < 75) (hbR : By Rr) (hb : Bs L rw M pv) (hRp : ∀ r, r < rw → Rr (pv r) = 0) (hq : q < L) (hL : L ≤ 59) (hq2 : Rr q ≠ 0) : Bs L (rw + 1) (mElM q rw (mK q rw Rr M)) (va_up pv rw q) := by
  obtain ⟨hM', hMn⟩ := put_at (L := L) (rw := rw) (q := q) (M := M) (Rr := Rr) (by omega)
  obtain ⟨hKby, hKq, hKp⟩ := sc_ok hbR hq2 hRp
  intro r hr
  by_cases hrn : r = rw
  · subst hrn
    rw [va_up_self]
    refine ⟨hq, by rw [hMn q (by omega), hKq], fun r' hr' hne => ?_⟩
    rw [hM' r' (by omega) q (by omega), hKq, mt_r1, Nat.xor_self]
  · rw [va_up_ne _ _ hrn]
    have h1 := hb r (by omega)
    refine ⟨h1.1, ?_, fun r' hr' hne => ?_⟩
    · rw [hM' r (by omega) _ (hp r), hKp r (by omega), mt_r0, Nat.xor_zero]; exact h1.2.1
    · by_cases hr'n : r' = rw
      · subst hr'n; rw [hMn _ (hp r), hKp r (by omega)]
      · rw [hM' r' (by omega) _ (hp r), hKp r (by omega), mt_r0, Nat.xor_zero]; exact h1.2.2 r' (by omega) hne
theorem put_ker {L T rw q n : Nat} {M V : Nat → Nat → Nat} {pv Rr v : Nat → Nat} (hp : ∀ r, pv r < 75) (hM : ∀ r, By (M r)) (hbR : By Rr) (hRp : ∀ r, r < rw → Rr (pv r) = 0) (hq : q < L) (hL : L ≤ 59) (hT : T ≤ 16) (hq2 : Rr q ≠ 0) (hV : By (V n)) (hv : By v)
    (hR : ∀ c, c < 75 → Rr c = mRed rw M pv (V n) c) (hker : ∀ v, By v → (Zv L T (mRed rw M pv v) ↔ KS L T V n v)) :
    Zv L T (mRed (rw + 1) (mElM q rw (mK q rw Rr M)) (va_up pv rw q) v) ↔ ∃ f, f < 256 ∧ KS L T V n (ax f (V n) v) := by
  obtain ⟨hM', hMn⟩ := put_at (L := L) (rw := rw) (q := q) (M := M) (Rr := Rr) (by omega)
  obtain ⟨hKby, hKq, hKp⟩ := sc_ok hbR hq2 hRp
  have hI := mInv_ok (hbR q) hq2
  have hnew := red_new (L := L) (v := v) (pv' := va_up pv rw q) hp hM hKby hv (show q < 75 by omega) hKq hKp hM' hMn (fun r hr => va_up_ne _ _ (show r ≠ rw by omega)) (va_up_self _ _ _)
  have hlin : ∀ f, f < 256 → ∀ c, c < 75 → mRed rw M pv (ax f (V n) v) c = mRed rw M pv v c ^^^ mt f (Rr c) := fun f hf c hc => by
    rw [red_lin hp hM hf hV hv rw c hc, hR c hc]
  have hbv : ∀ z, mRed rw M pv v z < 256 := by_mred hv rw
  constructor
  · intro hz0
    refine ⟨mt (mRed rw M pv v q) (mInv (Rr q)), mt_lt (hbv q), ?_⟩
    refine (hker _ (by_ax (mt_lt (hbv q)) hv)).mp (fun c hc => ?_)
    have h75 := rel_lt hL hT hc
    rw [hlin _ (mt_lt (hbv q)) c h75, mt_assoc (hbv q) hI.2.1 (hbR c)]
    have h0 := hz0 c hc
    rw [hnew c h75] at h0
    exact h0
  · intro ⟨f, hf, hks⟩ c hc
    have h75 := rel_lt hL hT hc
    have hz1 := (hker _ (by_ax hf hv)).mpr hks
    have e1 : ∀ c, rel L T c → mRed rw M pv v c = mt f (Rr c) := fun c hc => by
      have h9 := hz1 c hc
      rw [hlin f hf c (rel_lt hL hT hc)] at h9
      exact xz h9
    rw [hnew c h75, e1 c hc, e1 q (Or.inl hq)]
    show mt f (Rr c) ^^^ mt (mt f (Rr q)) (mt (mInv (Rr q)) (Rr c)) = 0
    rw [mt_assoc hf (hbR q) (mt_lt hI.2.1), ← mt_assoc (hbR q) hI.2.1 (hbR c), hI.2.2.1, mt_l1 (hbR c), Nat.xor_self]
theorem mPut_yes {L : Nat} {V : Nat → Nat → Nat} {n : Nat} {u : MS} (hL : L ≤ 59) (hu : MBy u) (hV : By (V n)) (h : KmOK L V n u) (hk : ¬ KS L 0 V n (V n)) : mPutB L (V n) u = true ∧ KmOK L V (n + 1) (mPut L (V n) u) := by
  have hz : zT (msR (u.1, u.2.1, u.2.2.1, onRow (V n) u.2.2.2)) L = false := by
    cases hz : zT (msR (u.1, u.2.1, u.2.2.1, onRow (V n) u.2.2.2)) L with
    | false => rfl
    | true => exact absurd ((mPut_z hL hu hV h).mp hz) hk
  obtain ⟨q, hq1, hq2, hq3⟩ := fst0_ex (zT_no hz)
  have hA := mAdd_1 hz
  rw [fst0_eq hq2 hq3 hq1] at hA
  have hbyR : By (msR (u.1, u.2.1, u.2.2.1, onRow (V n) u.2.2.2)) := by_mred (by_prt (fun c _ => hV c) hu.2.1) u.1
  have hRat := put_red (L := L) (V := V n) hu
  have hRp : ∀ r, r < u.1 → msR (u.1, u.2.1, u.2.2.1, onRow (V n) u.2.2.2) (u.2.2.1 r) = 0 := fun r hr => red_piv hu.2.2 h.2.1 u.1 (Nat.le_refl _) r hr
  generalize msR (u.1, u.2.1, u.2.2.1, onRow (V n) u.2.2.2) = Rr at hA hbyR hRat hRp hq2 hq3
  unfold mPutB mPut mAddB mAddS
  rw [hA]
  exact ⟨rfl, by rw [← h.1], put_bs hu.2.2 hbyR h.2.1 hRp hq1 hL hq2, fun T hT v hv => put_ker hu.2.2 hu.1 hbyR hRp hq1 hL hT hq2 hV hv hRat (h.2.2 T hT)⟩
