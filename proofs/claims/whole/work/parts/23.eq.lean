/-! ===== Equations ===== -/
def EqAt (ca : Nat → ClassId) (ad : Nat → Nat) (g : Nat → va_E) (b f L T rk : Nat) (M : Nat → Nat → Nat) (ld : Nat → Bool) (ln : Nat → Nat) : Prop :=
  g b = .inr (2, [.ref (ad f), .ref (ad (b + 1)), .ref (ad (b + 61)), .ref (ad (b + 62)), .int (nI L), .int (nI T), .int (nI rk)]) ∧ g (b + 1) = qa ca 59 (fun i => if i < 59 then some (ad (b + 2 + i)) else none) ∧ (∀ p, p < 59 → g (b + 2 + p) = na ca 75 (M p)) ∧ g (b + 61) = za ca 59 ld ∧ g (b + 62) = na ca 75 ln
def PkAt (ca : Nat → ClassId) (ad : Nat → Nat) (g : Nat → va_E) (po v : Nat) (pl : Nat → Nat) : Prop := g po = .inr (4, [.ref (ad (po + 1)), .int (nI v)]) ∧ g (po + 1) = na ca 59 pl
def lnSet (T : Nat) (pl : Nat → Nat) (i : Nat) (ln : Nat → Nat) : Nat → Nat := va_up ln (T + pl i) 1
def lnPk (T v : Nat) (pl ln : Nat → Nat) : Nat → Nat := fr (lnSet T pl) v (fFill 75 0 ln)
def isSum (i j : Nat) : Prop := j % 7 = i ∨ (j + (1 + j / 7 % 6)) % 7 = i ∨ (j + 2 * (1 + j / 7 % 6)) % 7 = i
noncomputable def lnSum1 (T i j : Nat) (ln : Nat → Nat) : Nat → Nat := by
  classical
  exact if isSum i j then va_up ln (T + j) 1 else ln
noncomputable def lnSum (T k i : Nat) (ln : Nat → Nat) : Nat → Nat := va_up (fr (lnSum1 T i) k (fFill 75 0 ln)) (T + k + i) 1
theorem lnSum1_t {T i j : Nat} {ln : Nat → Nat} (h : isSum i j) : lnSum1 T i j ln = va_up ln (T + j) 1 := if_pos h
theorem lnSum1_f {T i j : Nat} {ln : Nat → Nat} (h : ¬ isSum i j) : lnSum1 T i j ln = ln := if_neg h
def lnPow1 (pw : Nat → Nat) (T i j : Nat) (ln : Nat → Nat) : Nat → Nat := va_up ln (T + j) (pw (j * (i + 1) % 255))
def lnPow (pw : Nat → Nat) (T k i : Nat) (ln : Nat → Nat) : Nat → Nat := va_up (fr (lnPow1 pw T i) (k + 7) (fFill 75 0 ln)) (T + k + 7 + i) 1
def rdStep (pw ex : Nat → Nat) (T : Nat) (M : Nat → Nat → Nat) (ld : Nat → Bool) (p : Nat) (ln : Nat → Nat) : Nat → Nat := if ln (T + p) ≠ 0 ∧ ld p = true then fr (fAdd pw ex (M p) (ln (T + p))) (T + p + 1) ln else ln
theorem rdStep_t {pw ex : Nat → Nat} {T : Nat} {M : Nat → Nat → Nat} {ld : Nat → Bool} {p : Nat} {ln : Nat → Nat} (h1 : ln (T + p) ≠ 0) (h2 : ld p = true) : rdStep pw ex T M ld p ln = fr (fAdd pw ex (M p) (ln (T + p))) (T + p + 1) ln := if_pos ⟨h1, h2⟩
theorem rdStep_f {pw ex : Nat → Nat} {T : Nat} {M : Nat → Nat → Nat} {ld : Nat → Bool} {p : Nat} {ln : Nat → Nat} (h : ln (T + p) = 0 ∨ ld p = false) : rdStep pw ex T M ld p ln = ln := if_neg (fun z => h.elim (fun q => z.1 q) (fun q => by rw [q] at z; exact absurd z.2 (by decide)))
def lnRed (pw ex : Nat → Nat) (L T : Nat) (M : Nat → Nat → Nat) (ld : Nat → Bool) (ln : Nat → Nat) : Nat → Nat := fr (rdStep pw ex T M ld) L ln
def leadI (T : Nat) (ln : Nat → Nat) : Nat → Int32
  | 0 => -1
  | p + 1 => if ln (T + p) ≠ 0 then nI p else leadI T ln p
def anyV (T : Nat) (ln : Nat → Nat) : Bool := decide (∃ i, i < T ∧ ln i ≠ 0)
/-- bytes -/
def By (F : Nat → Nat) : Prop := ∀ j, F j < 256
def PwOk (pw : Nat → Nat) : Prop := ∀ x, pw x < 256
theorem By.up {F : Nat → Nat} {k x : Nat} (h : By F) (hx : x < 256) : By (va_up F k x) := fun j => by
  unfold va_up
  split
  · exact hx
  · exact h j
theorem xor_by {a b : Nat} (ha : a < 256) (hb : b < 256) : a ^^^ b < 256 := Nat.xor_lt_two_pow (n := 8) ha hb
theorem By.add {pw ex G F : Nat → Nat} {fac : Nat} (hp : PwOk pw) (h : By F) : ∀ n, By (fr (fAdd pw ex G fac) n F) := fun n => by
  induction n with
  | zero => exact h
  | succ n ih =>
    show By (fAdd pw ex G fac n _)
    unfold fAdd
    split
    · exact ih
    · exact ih.up (xor_by (ih _) (hp _))
theorem By.fill {F : Nat → Nat} {n x : Nat} (h : By F) (hx : x < 256) : By (fFill n x F) := fun j => by
  unfold fFill
  split
  · exact hx
  · exact h j
theorem By.fr {F : Nat → Nat} {st : Nat → (Nat → Nat) → (Nat → Nat)} (hs : ∀ i F, By F → By (st i F)) (h : By F) : ∀ n, By (fr st n F) := fun n => by
  induction n with
  | zero => exact h
  | succ n ih => exact hs _ _ ih
theorem By.red {pw ex ln : Nat → Nat} {L T : Nat} {M : Nat → Nat → Nat} {ld : Nat → Bool} (hp : PwOk pw) (h : By ln) : By (lnRed pw ex L T M ld ln) := By.fr (fun i F hF => by unfold rdStep; split; exact By.add hp hF _; exact hF) h L

abbrev rm_X2_setLine : Room := { frames := 1, cells := 0, slots := 0, locals := 23 }

set_option maxHeartbeats 800000 in
set_option maxRecDepth 100000 in
/-- Equations.setLine -/
theorem c_X2_setLine {l : Launch} {D : va_G} {ca : Nat → ClassId} {tB tS R : Nat} {ad : Nat → Nat} {g : Nat → va_E} {sz : Nat} (b f L T rk : Nat) (M : Nat → Nat → Nat) (ld : Nat → Bool) (ln : Nat → Nat) (hE : EqAt ca ad g b f L T rk M ld ln) (hb : b + 62 < R) (hL : L ≤ 59) (hT : T ≤ 16) (po v : Nat) (pl : Nat → Nat) (hK : PkAt ca ad g po v pl) (hpo : po + 1 < b) (hv : v ≤ 59) (hpl : ∀ j, j < v → pl j < 59) : MV l yX2_setLine cX2_setLine 3 rm_X2_setLine D ca tB tS R ad g sz [.ref (ad b), .ref (ad po)] (fun g1 => (∀ z, (z < b ∨ b + 62 < z) → g1 z = g z) ∧ EqAt ca ad g1 b f L T rk M ld (lnPk T v pl ln)) := by
  refine m_startV (by decide +kernel) (Nat.le_of_ble_eq_true rfl) (fun p e s m args below meth c ls Q hsz C hnm hl F hw hret => ?_)
  have hl : lv_has ls 3 [(0, .ref (ad b)), (1, .ref (ad po))] := hl
  generalize s.heap = H at hw ⊢
  generalize ([] : List Loc) = locs at hw ⊢
  refine lv_aload_n C.1 C.2.1 dX2_setLine_0 rfl (lv_at hl 0 rfl) ?_
  refine k_get C F hw (b) (by omega) hE.1 rfl in_X2 3 (by decide) fl_X2_24 rfl dX2_setLine_1 ?_
  refine k_icn C 0 dX2_setLine_4 (by decide) ?_
  refine k_Sv C F hw (As := [.ref (ad (b + 62)), .int (nI 0)]) (rest := []) (c_J7_fill_53178 (b + 62) 75 0 ln (by omega) (by decide) hE.2.2.2.2) (va_cwS _ C.2.2.2.2 gm_X2_49 rfl rfl rfl cd_J7_fill_53178.2 ⟨by decide, by decide⟩) hl.1 rfl (Nat.le_of_ble_eq_true rfl) dX2_setLine_5 ⟨by decide, by decide⟩ (fun g2 H locs hp hw => ?_)
  obtain ⟨hk3, e4⟩ := hp
  have e5 : g2 (b) = .inr (2, [.ref (ad f), .ref (ad (b + 1)), .ref (ad (b + 61)), .ref (ad (b + 62)), .int (nI L), .int (nI T), .int (nI rk)]) := (hk3 _ (by omega)).trans hE.1
  have e6 : g2 (b + 1) = qa ca 59 (fun i => if i < 59 then some (ad (b + 2 + i)) else none) := (hk3 _ (by omega)).trans hE.2.1
  have e7 : g2 (b + 61) = za ca 59 (ld) := (hk3 _ (by omega)).trans hE.2.2.2.1
  have e8 : g2 (po) = .inr (4, [.ref (ad (po + 1)), .int (nI v)]) := (hk3 _ (by omega)).trans hK.1
  have e9 : g2 (po + 1) = na ca 59 (pl) := (hk3 _ (by omega)).trans hK.2
  have hr10 : ∀ p9, p9 < 59 → g2 (b + 2 + p9) = na ca 75 (M p9) := fun p9 hp9 => (hk3 _ (by omega)).trans (hE.2.2.1 p9 hp9)
  have hs11 : ∀ z, (z < b ∨ b + 62 < z) → g2 z = g z := fun z hz => hk3 z (by omega)
  refine k_icn C 0 dX2_setLine_8 (by decide) ?_
  refine lv_istore_n (lv' := [(2, .int (nI 0)), (0, .ref (ad b)), (1, .ref (ad po))]) C.1 C.2.1 dX2_setLine_9 rfl hl (by decide) rfl (fun ls hl => ?_)
  have loop10 : ∀ (fuel : Nat) (i : Nat) (f1 : Nat → Nat) (gL : Nat → va_E) (H : Heap) (locs : List Loc) (ls : Array Slot), ((v - i) + 1 ≤ fuel) → (i ≤ v) → (f1 = fr (lnSet T pl) i (fFill 75 0 ln)) → (∀ z, (z < b ∨ b + 62 < z) → gL z = g z) → (gL (b) = .inr (2, [.ref (ad f), .ref (ad (b + 1)), .ref (ad (b + 61)), .ref (ad (b + 62)), .int (nI L), .int (nI T), .int (nI rk)])) → (gL (b + 1) = qa ca 59 (fun i => if i < 59 then some (ad (b + 2 + i)) else none)) → (gL (b + 61) = za ca 59 (ld)) → (gL (b + 62) = na ca 75 (f1)) → (∀ p9, p9 < 59 → gL (b + 2 + p9) = na ca 75 (M p9)) → Wd D (AA R ad sz) s R ad gL H locs → lv_has ls 3 [(0, .ref (ad b)), (1, .ref (ad po)), (2, .int (nI i))] → W p l e rm_X2_setLine s m args below meth c H locs 0 0 Q (F0 m 10 ls []) := by
    intro fuel
    induction fuel with
    | zero =>
      intro i f1 gL H locs ls hfu10
      exact absurd hfu10 (by omega)
    | succ fuel10 ih10 =>
      intro i f1 gL H locs ls hfu10 hi hf1 hsL10 eL10_0 eL10_1 eL10_2 eL10_3 hrL10_0 hw hl
      have e12 : gL (po) = .inr (4, [.ref (ad (po + 1)), .int (nI v)]) := (hsL10 _ (by omega)).trans hK.1
      have e13 : gL (po + 1) = na ca 59 (pl) := (hsL10 _ (by omega)).trans hK.2
      refine lv_iload_n C.1 C.2.1 dX2_setLine_10 rfl (lv_at hl 2 rfl) ?_
      refine lv_aload_n C.1 C.2.1 dX2_setLine_11 rfl (lv_at hl 1 rfl) ?_
      refine k_getN C F hw (po) (by omega) e12 rfl in_X4 1 (by decide) fl_X2_55 rfl dX2_setLine_12 ?_
      refine k_ige (tgt := 41) C dX2_setLine_15 (by decide) (by omega) (by omega) (fun hc15 => ?_) (fun hc15 => ?_)
      · have he9 : f1 = lnPk T v pl ln := by rw [hf1, show i = v by omega]; rfl
        rw [he9] at eL10_3
        exact hret H locs ls _ _ dX2_setLine_41 hw (⟨hsL10, eL10_0, eL10_1, hrL10_0, eL10_2, eL10_3⟩)
      · refine lv_aload_n C.1 C.2.1 dX2_setLine_18 rfl (lv_at hl 0 rfl) ?_
        refine k_get C F hw (b) (by omega) eL10_0 rfl in_X2 3 (by decide) fl_X2_24 rfl dX2_setLine_19 ?_
        refine lv_aload_n C.1 C.2.1 dX2_setLine_22 rfl (lv_at hl 0 rfl) ?_
        refine k_get C F hw (b) (by omega) eL10_0 rfl in_X2 5 (by decide) fl_X2_32 rfl dX2_setLine_23 ?_
        refine lv_aload_n C.1 C.2.1 dX2_setLine_26 rfl (lv_at hl 1 rfl) ?_
        refine k_getN C F hw (po) (by omega) e12 rfl in_X4 0 (by decide) fl_X2_60 rfl dX2_setLine_27 ?_
        refine lv_iload_n C.1 C.2.1 dX2_setLine_30 rfl (lv_at hl 2 rfl) ?_
        refine k_iald C F hw (po + 1) (by omega) e13 (i) (by omega) (by decide) dX2_setLine_31 ?_
        refine k_add C dX2_setLine_32 ?_
        refine k_icn C 1 dX2_setLine_33 (by decide) ?_
        have hpi := hpl i (by omega)
        refine k_iast C F hw (b + 62) (by omega) eL10_3 (T + (pl i)) (1) (by omega) (by decide) dX2_setLine_34 (fun H locs hw => ?_)
        have hw : Wd D (AA R ad sz) s R ad (va_up gL (b + 62) (na ca 75 (va_up f1 (T + (pl i)) 1))) H locs := hw
        obtain ⟨g14, hg14⟩ : ∃ z, z = va_up gL (b + 62) (na ca 75 (va_up f1 (T + (pl i)) 1)) := ⟨_, rfl⟩
        rw [← hg14] at hw
        have hk15 : ∀ z, z ≠ (b + 62) → g14 z = gL z := fun z hz => by rw [hg14]; exact va_up_ne _ _ hz
        have e16 : g14 (b + 62) = na ca 75 (va_up f1 (T + (pl i)) 1) := by rw [hg14]; exact va_up_self _ _ _
        have e17 : g14 (b) = .inr (2, [.ref (ad f), .ref (ad (b + 1)), .ref (ad (b + 61)), .ref (ad (b + 62)), .int (nI L), .int (nI T), .int (nI rk)]) := (hk15 _ (by omega)).trans eL10_0
        have e18 : g14 (b + 1) = qa ca 59 (fun i => if i < 59 then some (ad (b + 2 + i)) else none) := (hk15 _ (by omega)).trans eL10_1
        have e19 : g14 (b + 61) = za ca 59 (ld) := (hk15 _ (by omega)).trans eL10_2
        have e20 : g14 (po) = .inr (4, [.ref (ad (po + 1)), .int (nI v)]) := (hk15 _ (by omega)).trans e12
        have e21 : g14 (po + 1) = na ca 59 (pl) := (hk15 _ (by omega)).trans e13
        have hr22 : ∀ p9, p9 < 59 → g14 (b + 2 + p9) = na ca 75 (M p9) := fun p9 hp9 => (hk15 _ (by omega)).trans (hrL10_0 p9 hp9)
        have hs23 : ∀ z, (z < b ∨ b + 62 < z) → g14 z = g z := fun z hz => (hk15 z (by omega)).trans (hsL10 z hz)
        refine k_inc C (i + 1) (lv' := [(2, .int (nI (i + 1))), (0, .ref (ad b)), (1, .ref (ad po))]) dX2_setLine_35 hl (k := 2) rfl (inc1 _) (by decide) rfl (fun ls hl => ?_)
        refine lv_goto (tgt := 10) C.1 C.2.1 dX2_setLine_38 (by decide) ?_
        exact ih10 (i + 1) (va_up f1 (T + (pl i)) 1) g14 H locs ls (by omega) (by omega) (by rw [hf1]; rfl) hs23 e17 e18 e19 e16 hr22 hw (lv_sub hl [1, 2, 0] rfl)
  exact loop10 _ 0 (fFill 75 0 ln) g2 H locs ls (Nat.le_refl _) (by omega) rfl hs11 e5 e6 e7 e4 hr10 hw (lv_sub hl [1, 2, 0] rfl)

abbrev rm_X2_setValue : Room := { frames := 0, cells := 0, slots := 0, locals := 0 }

set_option maxHeartbeats 800000 in
set_option maxRecDepth 100000 in
/-- Equations.setValue -/
theorem c_X2_setValue {l : Launch} {D : va_G} {ca : Nat → ClassId} {tB tS R : Nat} {ad : Nat → Nat} {g : Nat → va_E} {sz : Nat} (b f L T rk : Nat) (M : Nat → Nat → Nat) (ld : Nat → Bool) (ln : Nat → Nat) (hE : EqAt ca ad g b f L T rk M ld ln) (hb : b + 62 < R) (hL : L ≤ 59) (hT : T ≤ 16) (i x : Nat) (hi : i < 75) : MV l yX2_setValue cX2_setValue 3 rm_X2_setValue D ca tB tS R ad g sz [.ref (ad b), .int (nI i), .int (nI x)] (fun g1 => (∀ z, (z < b ∨ b + 62 < z) → g1 z = g z) ∧ EqAt ca ad g1 b f L T rk M ld (va_up ln i x)) := by
  refine m_startV (by decide +kernel) (Nat.le_of_ble_eq_true rfl) (fun p e s m args below meth c ls Q hsz C hnm hl F hw hret => ?_)
  have hl : lv_has ls 3 [(0, .ref (ad b)), (1, .int (nI i)), (2, .int (nI x))] := hl
  generalize s.heap = H at hw ⊢
  generalize ([] : List Loc) = locs at hw ⊢
  refine lv_aload_n C.1 C.2.1 dX2_setValue_0 rfl (lv_at hl 0 rfl) ?_
  refine k_get C F hw (b) (by omega) hE.1 rfl in_X2 3 (by decide) fl_X2_24 rfl dX2_setValue_1 ?_
  refine lv_iload_n C.1 C.2.1 dX2_setValue_4 rfl (lv_at hl 1 rfl) ?_
  refine lv_iload_n C.1 C.2.1 dX2_setValue_5 rfl (lv_at hl 2 rfl) ?_
  refine k_iast C F hw (b + 62) (by omega) hE.2.2.2.2 (i) (x) (by omega) (by decide) dX2_setValue_6 (fun H locs hw => ?_)
  have hw : Wd D (AA R ad sz) s R ad (va_up g (b + 62) (na ca 75 (va_up ln i x))) H locs := hw
  obtain ⟨g1, hg1⟩ : ∃ z, z = va_up g (b + 62) (na ca 75 (va_up ln i x)) := ⟨_, rfl⟩
  rw [← hg1] at hw
  have hk2 : ∀ z, z ≠ (b + 62) → g1 z = g z := fun z hz => by rw [hg1]; exact va_up_ne _ _ hz
  have e3 : g1 (b + 62) = na ca 75 (va_up ln i x) := by rw [hg1]; exact va_up_self _ _ _
  have e4 : g1 (b) = .inr (2, [.ref (ad f), .ref (ad (b + 1)), .ref (ad (b + 61)), .ref (ad (b + 62)), .int (nI L), .int (nI T), .int (nI rk)]) := (hk2 _ (by omega)).trans hE.1
  have e5 : g1 (b + 1) = qa ca 59 (fun i => if i < 59 then some (ad (b + 2 + i)) else none) := (hk2 _ (by omega)).trans hE.2.1
  have e6 : g1 (b + 61) = za ca 59 (ld) := (hk2 _ (by omega)).trans hE.2.2.2.1
  have hr7 : ∀ p9, p9 < 59 → g1 (b + 2 + p9) = na ca 75 (M p9) := fun p9 hp9 => (hk2 _ (by omega)).trans (hE.2.2.1 p9 hp9)
  have hs8 : ∀ z, (z < b ∨ b + 62 < z) → g1 z = g z := fun z hz => hk2 z (by omega)
  exact hret H locs ls _ _ dX2_setValue_7 hw (⟨hs8, e4, e5, hr7, e6, e3⟩)

abbrev rm_X2_derivedValue : Room := { frames := 0, cells := 0, slots := 0, locals := 0 }

set_option maxHeartbeats 800000 in
set_option maxRecDepth 100000 in
/-- Equations.derivedValue -/
theorem c_X2_derivedValue {l : Launch} {D : va_G} {ca : Nat → ClassId} {tB tS R : Nat} {ad : Nat → Nat} {g : Nat → va_E} {sz : Nat} (b f L T rk : Nat) (M : Nat → Nat → Nat) (ld : Nat → Bool) (ln : Nat → Nat) (hE : EqAt ca ad g b f L T rk M ld ln) (hb : b + 62 < R) (hL : L ≤ 59) (hT : T ≤ 16) (i : Nat) (hi : i < 75) : MI l yX2_derivedValue cX2_derivedValue 2 .int rm_X2_derivedValue D ca tB tS R ad g sz [.ref (ad b), .int (nI i)] (fun r g1 => r = nI (ln i) ∧ g1 = g) := by
  refine m_startI (by decide +kernel) (Nat.le_of_ble_eq_true rfl) (fun p e s m args below meth c ls Q hsz C hl F hw hret => ?_)
  have hl : lv_has ls 2 [(0, .ref (ad b)), (1, .int (nI i))] := hl
  generalize s.heap = H at hw ⊢
  generalize ([] : List Loc) = locs at hw ⊢
  refine lv_aload_n C.1 C.2.1 dX2_derivedValue_0 rfl (lv_at hl 0 rfl) ?_
  refine k_get C F hw (b) (by omega) hE.1 rfl in_X2 3 (by decide) fl_X2_24 rfl dX2_derivedValue_1 ?_
  refine lv_iload_n C.1 C.2.1 dX2_derivedValue_4 rfl (lv_at hl 1 rfl) ?_
  refine k_iald C F hw (b + 62) (by omega) hE.2.2.2.2 (i) (by omega) (by decide) dX2_derivedValue_5 ?_
  exact hret H locs ls _ _ _ dX2_derivedValue_6 hw (⟨rfl, rfl⟩)

abbrev rm_X2_setSumLine : Room := { frames := 1, cells := 0, slots := 0, locals := 23 }

set_option maxHeartbeats 800000 in
set_option maxRecDepth 100000 in
/-- Equations.setSumLine -/
theorem c_X2_setSumLine {l : Launch} {D : va_G} {ca : Nat → ClassId} {tB tS R : Nat} {ad : Nat → Nat} {g : Nat → va_E} {sz : Nat} (b f L T rk : Nat) (M : Nat → Nat → Nat) (ld : Nat → Bool) (ln : Nat → Nat) (hE : EqAt ca ad g b f L T rk M ld ln) (hb : b + 62 < R) (hL : L ≤ 59) (hT : T ≤ 16) (k i : Nat) (hk : 1 ≤ k ∧ k ≤ 48) (hi : i < 7) : MV l yX2_setSumLine cX2_setSumLine 5 rm_X2_setSumLine D ca tB tS R ad g sz [.ref (ad b), .int (nI k), .int (nI i)] (fun g1 => (∀ z, (z < b ∨ b + 62 < z) → g1 z = g z) ∧ EqAt ca ad g1 b f L T rk M ld (lnSum T k i ln)) := by
  refine m_startV (by decide +kernel) (Nat.le_of_ble_eq_true rfl) (fun p e s m args below meth c ls Q hsz C hnm hl F hw hret => ?_)
  have hl : lv_has ls 5 [(0, .ref (ad b)), (1, .int (nI k)), (2, .int (nI i))] := hl
  generalize s.heap = H at hw ⊢
  generalize ([] : List Loc) = locs at hw ⊢
  refine lv_aload_n C.1 C.2.1 dX2_setSumLine_0 rfl (lv_at hl 0 rfl) ?_
  refine k_get C F hw (b) (by omega) hE.1 rfl in_X2 3 (by decide) fl_X2_24 rfl dX2_setSumLine_1 ?_
  refine k_icn C 0 dX2_setSumLine_4 (by decide) ?_
  refine k_Sv C F hw (As := [.ref (ad (b + 62)), .int (nI 0)]) (rest := []) (c_J7_fill_53178 (b + 62) 75 0 ln (by omega) (by decide) hE.2.2.2.2) (va_cwS _ C.2.2.2.2 gm_X2_49 rfl rfl rfl cd_J7_fill_53178.2 ⟨by decide, by decide⟩) hl.1 rfl (Nat.le_of_ble_eq_true rfl) dX2_setSumLine_5 ⟨by decide, by decide⟩ (fun g2 H locs hp hw => ?_)
  obtain ⟨hk3, e4⟩ := hp
  have e5 : g2 (b) = .inr (2, [.ref (ad f), .ref (ad (b + 1)), .ref (ad (b + 61)), .ref (ad (b + 62)), .int (nI L), .int (nI T), .int (nI rk)]) := (hk3 _ (by omega)).trans hE.1
  have e6 : g2 (b + 1) = qa ca 59 (fun i => if i < 59 then some (ad (b + 2 + i)) else none) := (hk3 _ (by omega)).trans hE.2.1
  have e7 : g2 (b + 61) = za ca 59 (ld) := (hk3 _ (by omega)).trans hE.2.2.2.1
  have hr8 : ∀ p9, p9 < 59 → g2 (b + 2 + p9) = na ca 75 (M p9) := fun p9 hp9 => (hk3 _ (by omega)).trans (hE.2.2.1 p9 hp9)
  have hs9 : ∀ z, (z < b ∨ b + 62 < z) → g2 z = g z := fun z hz => hk3 z (by omega)
  refine k_icn C 0 dX2_setSumLine_8 (by decide) ?_
  refine lv_istore_n (lv' := [(3, .int (nI 0)), (0, .ref (ad b)), (1, .int (nI k)), (2, .int (nI i))]) C.1 C.2.1 dX2_setSumLine_9 rfl hl (by decide) rfl (fun ls hl => ?_)
  have loop10 : ∀ (fuel : Nat) (j : Nat) (f1 : Nat → Nat) (gL : Nat → va_E) (H : Heap) (locs : List Loc) (ls : Array Slot), ((k - j) + 1 ≤ fuel) → (j ≤ k) → (f1 = fr (lnSum1 T i) j (fFill 75 0 ln)) → (∀ z, (z < b ∨ b + 62 < z) → gL z = g z) → (gL (b) = .inr (2, [.ref (ad f), .ref (ad (b + 1)), .ref (ad (b + 61)), .ref (ad (b + 62)), .int (nI L), .int (nI T), .int (nI rk)])) → (gL (b + 1) = qa ca 59 (fun i => if i < 59 then some (ad (b + 2 + i)) else none)) → (gL (b + 61) = za ca 59 (ld)) → (gL (b + 62) = na ca 75 (f1)) → (∀ p9, p9 < 59 → gL (b + 2 + p9) = na ca 75 (M p9)) → Wd D (AA R ad sz) s R ad gL H locs → lv_has ls 5 [(0, .ref (ad b)), (1, .int (nI k)), (2, .int (nI i)), (3, .int (nI j))] → W p l e rm_X2_setSumLine s m args below meth c H locs 0 0 Q (F0 m 10 ls []) := by
    intro fuel
    induction fuel with
    | zero =>
      intro j f1 gL H locs ls hfu10
      exact absurd hfu10 (by omega)
    | succ fuel10 ih10 =>
      intro j f1 gL H locs ls hfu10 hj hf1 hsL10 eL10_0 eL10_1 eL10_2 eL10_3 hrL10_0 hw hl
      refine lv_iload_n C.1 C.2.1 dX2_setSumLine_10 rfl (lv_at hl 3 rfl) ?_
      refine lv_iload_n C.1 C.2.1 dX2_setSumLine_11 rfl (lv_at hl 1 rfl) ?_
      refine k_ige (tgt := 76) C dX2_setSumLine_12 (by decide) (by omega) (by omega) (fun hc12 => ?_) (fun hc12 => ?_)
      · refine lv_aload_n C.1 C.2.1 dX2_setSumLine_76 rfl (lv_at hl 0 rfl) ?_
        refine k_get C F hw (b) (by omega) eL10_0 rfl in_X2 3 (by decide) fl_X2_24 rfl dX2_setSumLine_77 ?_
        refine lv_aload_n C.1 C.2.1 dX2_setSumLine_80 rfl (lv_at hl 0 rfl) ?_
        refine k_get C F hw (b) (by omega) eL10_0 rfl in_X2 5 (by decide) fl_X2_32 rfl dX2_setSumLine_81 ?_
        refine lv_iload_n C.1 C.2.1 dX2_setSumLine_84 rfl (lv_at hl 1 rfl) ?_
        refine k_add C dX2_setSumLine_85 ?_
        refine lv_iload_n C.1 C.2.1 dX2_setSumLine_86 rfl (lv_at hl 2 rfl) ?_
        refine k_add C dX2_setSumLine_87 ?_
        refine k_icn C 1 dX2_setSumLine_88 (by decide) ?_
        refine k_iast C F hw (b + 62) (by omega) eL10_3 ((T + k) + i) (1) (by omega) (by decide) dX2_setSumLine_89 (fun H locs hw => ?_)
        have hw : Wd D (AA R ad sz) s R ad (va_up gL (b + 62) (na ca 75 (va_up f1 ((T + k) + i) 1))) H locs := hw
        obtain ⟨g10, hg10⟩ : ∃ z, z = va_up gL (b + 62) (na ca 75 (va_up f1 ((T + k) + i) 1)) := ⟨_, rfl⟩
        rw [← hg10] at hw
        have hk11 : ∀ z, z ≠ (b + 62) → g10 z = gL z := fun z hz => by rw [hg10]; exact va_up_ne _ _ hz
        have e12 : g10 (b + 62) = na ca 75 (va_up f1 ((T + k) + i) 1) := by rw [hg10]; exact va_up_self _ _ _
        have e13 : g10 (b) = .inr (2, [.ref (ad f), .ref (ad (b + 1)), .ref (ad (b + 61)), .ref (ad (b + 62)), .int (nI L), .int (nI T), .int (nI rk)]) := (hk11 _ (by omega)).trans eL10_0
        have e14 : g10 (b + 1) = qa ca 59 (fun i => if i < 59 then some (ad (b + 2 + i)) else none) := (hk11 _ (by omega)).trans eL10_1
        have e15 : g10 (b + 61) = za ca 59 (ld) := (hk11 _ (by omega)).trans eL10_2
        have hr16 : ∀ p9, p9 < 59 → g10 (b + 2 + p9) = na ca 75 (M p9) := fun p9 hp9 => (hk11 _ (by omega)).trans (hrL10_0 p9 hp9)
        have hs17 : ∀ z, (z < b ∨ b + 62 < z) → g10 z = g z := fun z hz => (hk11 z (by omega)).trans (hsL10 z hz)
        exact hret H locs ls _ _ dX2_setSumLine_90 hw (⟨hs17, e13, e14, hr16, e15, by rw [e12, hf1, show j = k by omega]; rfl⟩)
      · refine k_icn C 1 dX2_setSumLine_15 (by decide) ?_
        refine lv_iload_n C.1 C.2.1 dX2_setSumLine_16 rfl (lv_at hl 3 rfl) ?_
        refine k_bip C 7 dX2_setSumLine_17 (by decide) ?_
        refine k_div C dX2_setSumLine_19 (by omega) (by omega) (by omega) ?_
        refine k_bip C 6 dX2_setSumLine_20 (by decide) ?_
        refine k_rem C dX2_setSumLine_22 (by omega) (by omega) (by omega) ?_
        refine k_add C dX2_setSumLine_23 ?_
        refine lv_istore (lv' := [(4, .int (nI (1 + ((j / 7) % 6)))), (0, .ref (ad b)), (1, .int (nI k)), (2, .int (nI i)), (3, .int (nI j))]) C.1 C.2.1 dX2_setSumLine_24 hl (by decide) rfl (fun ls hl => ?_)
        refine lv_iload_n C.1 C.2.1 dX2_setSumLine_26 rfl (lv_at hl 4 rfl) ?_
        refine k_bip C 7 dX2_setSumLine_27 (by decide) ?_
        refine k_rem C dX2_setSumLine_29 (by omega) (by omega) (by omega) ?_
        refine lv_iload_n C.1 C.2.1 dX2_setSumLine_30 rfl (lv_at hl 3 rfl) ?_
        refine k_ieq (tgt := 58) C dX2_setSumLine_31 (by decide) (by omega) (by omega) (fun hc31 => ?_) (fun hc31 => ?_)
        · refine lv_aload_n C.1 C.2.1 dX2_setSumLine_58 rfl (lv_at hl 1 rfl) ?_
          refine k_get C F hw (b) (by omega) eL10_0 rfl in_X2 3 (by decide) fl_X2_24 rfl dX2_setSumLine_59 ?_
          refine lv_aload_n C.1 C.2.1 dX2_setSumLine_62 rfl (lv_at hl 1 rfl) ?_
          refine k_get C F hw (b) (by omega) eL10_0 rfl in_X2 5 (by decide) fl_X2_32 rfl dX2_setSumLine_63 ?_
          refine lv_iload_n C.1 C.2.1 dX2_setSumLine_66 rfl (lv_at hl 4 rfl) ?_
          refine k_add C dX2_setSumLine_67 ?_
          refine k_icn C 1 dX2_setSumLine_68 (by decide) ?_
          refine k_iast C F hw (b + 62) (by omega) eL10_3 (T + j) (1) (by omega) (by decide) dX2_setSumLine_69 (fun H locs hw => ?_)
          have hw : Wd D (AA R ad sz) s R ad (va_up gL (b + 62) (na ca 75 (va_up f1 (T + j) 1))) H locs := hw
          obtain ⟨g18, hg18⟩ : ∃ z, z = va_up gL (b + 62) (na ca 75 (va_up f1 (T + j) 1)) := ⟨_, rfl⟩
          rw [← hg18] at hw
          have hk19 : ∀ z, z ≠ (b + 62) → g18 z = gL z := fun z hz => by rw [hg18]; exact va_up_ne _ _ hz
          have e20 : g18 (b + 62) = na ca 75 (va_up f1 (T + j) 1) := by rw [hg18]; exact va_up_self _ _ _
          have e21 : g18 (b) = .inr (2, [.ref (ad f), .ref (ad (b + 1)), .ref (ad (b + 61)), .ref (ad (b + 62)), .int (nI L), .int (nI T), .int (nI rk)]) := (hk19 _ (by omega)).trans eL10_0
          have e22 : g18 (b + 1) = qa ca 59 (fun i => if i < 59 then some (ad (b + 2 + i)) else none) := (hk19 _ (by omega)).trans eL10_1
          have e23 : g18 (b + 61) = za ca 59 (ld) := (hk19 _ (by omega)).trans eL10_2
          have hr24 : ∀ p9, p9 < 59 → g18 (b + 2 + p9) = na ca 75 (M p9) := fun p9 hp9 => (hk19 _ (by omega)).trans (hrL10_0 p9 hp9)
          have hs25 : ∀ z, (z < b ∨ b + 62 < z) → g18 z = g z := fun z hz => (hk19 z (by omega)).trans (hsL10 z hz)
          refine k_inc C (j + 1) (lv' := [(3, .int (nI (j + 1))), (4, .int (nI (1 + ((j / 7) % 6)))), (0, .ref (ad b)), (1, .int (nI k)), (2, .int (nI i))]) dX2_setSumLine_70 hl (k := 4) rfl (inc1 _) (by decide) rfl (fun ls hl => ?_)
          refine lv_goto (tgt := 10) C.1 C.2.1 dX2_setSumLine_73 (by decide) ?_
          exact ih10 (j + 1) (va_up f1 (T + j) 1) g18 H locs ls (by omega) (by omega) (by rw [hf1]; exact (lnSum1_t (by unfold isSum; omega)).symm) hs25 e21 e22 e23 e20 hr24 hw (lv_sub hl [2, 3, 4, 0] rfl)
        · refine lv_iload_n C.1 C.2.1 dX2_setSumLine_34 rfl (lv_at hl 4 rfl) ?_
          refine lv_iload C.1 C.2.1 dX2_setSumLine_35 (lv_at hl 0 rfl) ?_
          refine k_add C dX2_setSumLine_37 ?_
          refine k_bip C 7 dX2_setSumLine_38 (by decide) ?_
          refine k_rem C dX2_setSumLine_40 (by omega) (by omega) (by omega) ?_
          refine lv_iload_n C.1 C.2.1 dX2_setSumLine_41 rfl (lv_at hl 3 rfl) ?_
          refine k_ieq (tgt := 58) C dX2_setSumLine_42 (by decide) (by omega) (by omega) (fun hc42 => ?_) (fun hc42 => ?_)
          · refine lv_aload_n C.1 C.2.1 dX2_setSumLine_58 rfl (lv_at hl 1 rfl) ?_
            refine k_get C F hw (b) (by omega) eL10_0 rfl in_X2 3 (by decide) fl_X2_24 rfl dX2_setSumLine_59 ?_
            refine lv_aload_n C.1 C.2.1 dX2_setSumLine_62 rfl (lv_at hl 1 rfl) ?_
            refine k_get C F hw (b) (by omega) eL10_0 rfl in_X2 5 (by decide) fl_X2_32 rfl dX2_setSumLine_63 ?_
            refine lv_iload_n C.1 C.2.1 dX2_setSumLine_66 rfl (lv_at hl 4 rfl) ?_
            refine k_add C dX2_setSumLine_67 ?_
            refine k_icn C 1 dX2_setSumLine_68 (by decide) ?_
            refine k_iast C F hw (b + 62) (by omega) eL10_3 (T + j) (1) (by omega) (by decide) dX2_setSumLine_69 (fun H locs hw => ?_)
            have hw : Wd D (AA R ad sz) s R ad (va_up gL (b + 62) (na ca 75 (va_up f1 (T + j) 1))) H locs := hw
            obtain ⟨g26, hg26⟩ : ∃ z, z = va_up gL (b + 62) (na ca 75 (va_up f1 (T + j) 1)) := ⟨_, rfl⟩
            rw [← hg26] at hw
            have hk27 : ∀ z, z ≠ (b + 62) → g26 z = gL z := fun z hz => by rw [hg26]; exact va_up_ne _ _ hz
            have e28 : g26 (b + 62) = na ca 75 (va_up f1 (T + j) 1) := by rw [hg26]; exact va_up_self _ _ _
            have e29 : g26 (b) = .inr (2, [.ref (ad f), .ref (ad (b + 1)), .ref (ad (b + 61)), .ref (ad (b + 62)), .int (nI L), .int (nI T), .int (nI rk)]) := (hk27 _ (by omega)).trans eL10_0
            have e30 : g26 (b + 1) = qa ca 59 (fun i => if i < 59 then some (ad (b + 2 + i)) else none) := (hk27 _ (by omega)).trans eL10_1
            have e31 : g26 (b + 61) = za ca 59 (ld) := (hk27 _ (by omega)).trans eL10_2
            have hr32 : ∀ p9, p9 < 59 → g26 (b + 2 + p9) = na ca 75 (M p9) := fun p9 hp9 => (hk27 _ (by omega)).trans (hrL10_0 p9 hp9)
            have hs33 : ∀ z, (z < b ∨ b + 62 < z) → g26 z = g z := fun z hz => (hk27 z (by omega)).trans (hsL10 z hz)
            refine k_inc C (j + 1) (lv' := [(3, .int (nI (j + 1))), (4, .int (nI (1 + ((j / 7) % 6)))), (0, .ref (ad b)), (1, .int (nI k)), (2, .int (nI i))]) dX2_setSumLine_70 hl (k := 4) rfl (inc1 _) (by decide) rfl (fun ls hl => ?_)
            refine lv_goto (tgt := 10) C.1 C.2.1 dX2_setSumLine_73 (by decide) ?_
            exact ih10 (j + 1) (va_up f1 (T + j) 1) g26 H locs ls (by omega) (by omega) (by rw [hf1]; exact (lnSum1_t (by unfold isSum; omega)).symm) hs33 e29 e30 e31 e28 hr32 hw (lv_sub hl [2, 3, 4, 0] rfl)
          · refine lv_iload_n C.1 C.2.1 dX2_setSumLine_45 rfl (lv_at hl 4 rfl) ?_
            refine k_icn C 2 dX2_setSumLine_46 (by decide) ?_
            refine lv_iload C.1 C.2.1 dX2_setSumLine_47 (lv_at hl 0 rfl) ?_
            refine k_mul C dX2_setSumLine_49 ?_
            refine k_add C dX2_setSumLine_50 ?_
            refine k_bip C 7 dX2_setSumLine_51 (by decide) ?_
            refine k_rem C dX2_setSumLine_53 (by omega) (by omega) (by omega) ?_
            refine lv_iload_n C.1 C.2.1 dX2_setSumLine_54 rfl (lv_at hl 3 rfl) ?_
            refine k_ine (tgt := 70) C dX2_setSumLine_55 (by decide) (by omega) (by omega) (fun hc55 => ?_) (fun hc55 => ?_)
            · refine k_inc C (j + 1) (lv' := [(3, .int (nI (j + 1))), (4, .int (nI (1 + ((j / 7) % 6)))), (0, .ref (ad b)), (1, .int (nI k)), (2, .int (nI i))]) dX2_setSumLine_70 hl (k := 4) rfl (inc1 _) (by decide) rfl (fun ls hl => ?_)
              refine lv_goto (tgt := 10) C.1 C.2.1 dX2_setSumLine_73 (by decide) ?_
              exact ih10 (j + 1) f1 gL H locs ls (by omega) (by omega) (by rw [hf1]; exact (lnSum1_f (by unfold isSum; omega)).symm) hsL10 eL10_0 eL10_1 eL10_2 eL10_3 hrL10_0 hw (lv_sub hl [2, 3, 4, 0] rfl)
            · refine lv_aload_n C.1 C.2.1 dX2_setSumLine_58 rfl (lv_at hl 1 rfl) ?_
              refine k_get C F hw (b) (by omega) eL10_0 rfl in_X2 3 (by decide) fl_X2_24 rfl dX2_setSumLine_59 ?_
              refine lv_aload_n C.1 C.2.1 dX2_setSumLine_62 rfl (lv_at hl 1 rfl) ?_
              refine k_get C F hw (b) (by omega) eL10_0 rfl in_X2 5 (by decide) fl_X2_32 rfl dX2_setSumLine_63 ?_
              refine lv_iload_n C.1 C.2.1 dX2_setSumLine_66 rfl (lv_at hl 4 rfl) ?_
              refine k_add C dX2_setSumLine_67 ?_
              refine k_icn C 1 dX2_setSumLine_68 (by decide) ?_
              refine k_iast C F hw (b + 62) (by omega) eL10_3 (T + j) (1) (by omega) (by decide) dX2_setSumLine_69 (fun H locs hw => ?_)
              have hw : Wd D (AA R ad sz) s R ad (va_up gL (b + 62) (na ca 75 (va_up f1 (T + j) 1))) H locs := hw
              obtain ⟨g34, hg34⟩ : ∃ z, z = va_up gL (b + 62) (na ca 75 (va_up f1 (T + j) 1)) := ⟨_, rfl⟩
              rw [← hg34] at hw
              have hk35 : ∀ z, z ≠ (b + 62) → g34 z = gL z := fun z hz => by rw [hg34]; exact va_up_ne _ _ hz
              have e36 : g34 (b + 62) = na ca 75 (va_up f1 (T + j) 1) := by rw [hg34]; exact va_up_self _ _ _
              have e37 : g34 (b) = .inr (2, [.ref (ad f), .ref (ad (b + 1)), .ref (ad (b + 61)), .ref (ad (b + 62)), .int (nI L), .int (nI T), .int (nI rk)]) := (hk35 _ (by omega)).trans eL10_0
              have e38 : g34 (b + 1) = qa ca 59 (fun i => if i < 59 then some (ad (b + 2 + i)) else none) := (hk35 _ (by omega)).trans eL10_1
              have e39 : g34 (b + 61) = za ca 59 (ld) := (hk35 _ (by omega)).trans eL10_2
              have hr40 : ∀ p9, p9 < 59 → g34 (b + 2 + p9) = na ca 75 (M p9) := fun p9 hp9 => (hk35 _ (by omega)).trans (hrL10_0 p9 hp9)
              have hs41 : ∀ z, (z < b ∨ b + 62 < z) → g34 z = g z := fun z hz => (hk35 z (by omega)).trans (hsL10 z hz)
              refine k_inc C (j + 1) (lv' := [(3, .int (nI (j + 1))), (4, .int (nI (1 + ((j / 7) % 6)))), (0, .ref (ad b)), (1, .int (nI k)), (2, .int (nI i))]) dX2_setSumLine_70 hl (k := 4) rfl (inc1 _) (by decide) rfl (fun ls hl => ?_)
              refine lv_goto (tgt := 10) C.1 C.2.1 dX2_setSumLine_73 (by decide) ?_
              exact ih10 (j + 1) (va_up f1 (T + j) 1) g34 H locs ls (by omega) (by omega) (by rw [hf1]; exact (lnSum1_t (by unfold isSum; omega)).symm) hs41 e37 e38 e39 e36 hr40 hw (lv_sub hl [2, 3, 4, 0] rfl)
  exact loop10 _ 0 (fFill 75 0 ln) g2 H locs ls (Nat.le_refl _) (by omega) rfl hs9 e5 e6 e7 e4 hr8 hw (lv_sub hl [1, 2, 3, 0] rfl)

abbrev rm_X2_setPowerLine : Room := { frames := 1, cells := 0, slots := 0, locals := 23 }

set_option maxHeartbeats 800000 in
set_option maxRecDepth 100000 in
/-- Equations.setPowerLine -/
theorem c_X2_setPowerLine {l : Launch} {D : va_G} {ca : Nat → ClassId} {tB tS R : Nat} {ad : Nat → Nat} {g : Nat → va_E} {sz : Nat} (b f L T rk : Nat) (M : Nat → Nat → Nat) (ld : Nat → Bool) (ln : Nat → Nat) (hE : EqAt ca ad g b f L T rk M ld ln) (hb : b + 62 < R) (hL : L ≤ 59) (hT : T ≤ 16) (pw ex : Nat → Nat) (hF : FieldAt ca ad g f pw ex) (hX : ExOk ex) (hP : PwOk pw) (hfb : f + 2 < b) (hM : ∀ p, By (M p)) (hln : By ln) (k i : Nat) (hk : 1 ≤ k ∧ k ≤ 48) (hi : i < 4) : MV l yX2_setPowerLine cX2_setPowerLine 4 rm_X2_setPowerLine D ca tB tS R ad g sz [.ref (ad b), .int (nI k), .int (nI i)] (fun g1 => (∀ z, (z < b ∨ b + 62 < z) → g1 z = g z) ∧ EqAt ca ad g1 b f L T rk M ld (lnPow pw T k i ln)) := by
  refine m_startV (by decide +kernel) (Nat.le_of_ble_eq_true rfl) (fun p e s m args below meth c ls Q hsz C hnm hl F hw hret => ?_)
  have hl : lv_has ls 4 [(0, .ref (ad b)), (1, .int (nI k)), (2, .int (nI i))] := hl
  generalize s.heap = H at hw ⊢
  generalize ([] : List Loc) = locs at hw ⊢
  refine lv_aload_n C.1 C.2.1 dX2_setPowerLine_0 rfl (lv_at hl 0 rfl) ?_
  refine k_get C F hw (b) (by omega) hE.1 rfl in_X2 3 (by decide) fl_X2_24 rfl dX2_setPowerLine_1 ?_
  refine k_icn C 0 dX2_setPowerLine_4 (by decide) ?_
  refine k_Sv C F hw (As := [.ref (ad (b + 62)), .int (nI 0)]) (rest := []) (c_J7_fill_53178 (b + 62) 75 0 ln (by omega) (by decide) hE.2.2.2.2) (va_cwS _ C.2.2.2.2 gm_X2_49 rfl rfl rfl cd_J7_fill_53178.2 ⟨by decide, by decide⟩) hl.1 rfl (Nat.le_of_ble_eq_true rfl) dX2_setPowerLine_5 ⟨by decide, by decide⟩ (fun g2 H locs hp hw => ?_)
  obtain ⟨hk3, e4⟩ := hp
  have e5 : g2 (b) = .inr (2, [.ref (ad f), .ref (ad (b + 1)), .ref (ad (b + 61)), .ref (ad (b + 62)), .int (nI L), .int (nI T), .int (nI rk)]) := (hk3 _ (by omega)).trans hE.1
  have e6 : g2 (b + 1) = qa ca 59 (fun i => if i < 59 then some (ad (b + 2 + i)) else none) := (hk3 _ (by omega)).trans hE.2.1
  have e7 : g2 (b + 61) = za ca 59 (ld) := (hk3 _ (by omega)).trans hE.2.2.2.1
  have e8 : g2 (f) = .inr (3, [.ref (ad (f + 1)), .ref (ad (f + 2))]) := (hk3 _ (by omega)).trans hF.1
  have e9 : g2 (f + 1) = na ca 510 (pw) := (hk3 _ (by omega)).trans hF.2.1
  have e10 : g2 (f + 2) = na ca 256 (ex) := (hk3 _ (by omega)).trans hF.2.2
  have hr11 : ∀ p9, p9 < 59 → g2 (b + 2 + p9) = na ca 75 (M p9) := fun p9 hp9 => (hk3 _ (by omega)).trans (hE.2.2.1 p9 hp9)
  have hs12 : ∀ z, (z < b ∨ b + 62 < z) → g2 z = g z := fun z hz => hk3 z (by omega)
  refine k_icn C 0 dX2_setPowerLine_8 (by decide) ?_
  refine lv_istore_n (lv' := [(3, .int (nI 0)), (0, .ref (ad b)), (1, .int (nI k)), (2, .int (nI i))]) C.1 C.2.1 dX2_setPowerLine_9 rfl hl (by decide) rfl (fun ls hl => ?_)
  have loop10 : ∀ (fuel : Nat) (j : Nat) (f1 : Nat → Nat) (gL : Nat → va_E) (H : Heap) (locs : List Loc) (ls : Array Slot), ((k + 7 - j) + 1 ≤ fuel) → (j ≤ k + 7) → (f1 = fr (lnPow1 pw T i) j (fFill 75 0 ln)) → (∀ z, (z < b ∨ b + 62 < z) → gL z = g z) → (gL (b) = .inr (2, [.ref (ad f), .ref (ad (b + 1)), .ref (ad (b + 61)), .ref (ad (b + 62)), .int (nI L), .int (nI T), .int (nI rk)])) → (gL (b + 1) = qa ca 59 (fun i => if i < 59 then some (ad (b + 2 + i)) else none)) → (gL (b + 61) = za ca 59 (ld)) → (gL (b + 62) = na ca 75 (f1)) → (∀ p9, p9 < 59 → gL (b + 2 + p9) = na ca 75 (M p9)) → Wd D (AA R ad sz) s R ad gL H locs → lv_has ls 4 [(0, .ref (ad b)), (1, .int (nI k)), (2, .int (nI i)), (3, .int (nI j))] → W p l e rm_X2_setPowerLine s m args below meth c H locs 0 0 Q (F0 m 10 ls []) := by
    intro fuel
    induction fuel with
    | zero =>
      intro j f1 gL H locs ls hfu10
      exact absurd hfu10 (by omega)
    | succ fuel10 ih10 =>
      intro j f1 gL H locs ls hfu10 hj hf1 hsL10 eL10_0 eL10_1 eL10_2 eL10_3 hrL10_0 hw hl
      have e13 : gL (f) = .inr (3, [.ref (ad (f + 1)), .ref (ad (f + 2))]) := (hsL10 _ (by omega)).trans hF.1
      have e14 : gL (f + 1) = na ca 510 (pw) := (hsL10 _ (by omega)).trans hF.2.1
      have e15 : gL (f + 2) = na ca 256 (ex) := (hsL10 _ (by omega)).trans hF.2.2
      refine lv_iload_n C.1 C.2.1 dX2_setPowerLine_10 rfl (lv_at hl 3 rfl) ?_
      refine lv_iload_n C.1 C.2.1 dX2_setPowerLine_11 rfl (lv_at hl 1 rfl) ?_
      refine k_bip C 7 dX2_setPowerLine_12 (by decide) ?_
      refine k_add C dX2_setPowerLine_14 ?_
      refine k_ige (tgt := 47) C dX2_setPowerLine_15 (by decide) (by omega) (by omega) (fun hc15 => ?_) (fun hc15 => ?_)
      · refine lv_aload_n C.1 C.2.1 dX2_setPowerLine_47 rfl (lv_at hl 0 rfl) ?_
        refine k_get C F hw (b) (by omega) eL10_0 rfl in_X2 3 (by decide) fl_X2_24 rfl dX2_setPowerLine_48 ?_
        refine lv_aload_n C.1 C.2.1 dX2_setPowerLine_51 rfl (lv_at hl 0 rfl) ?_
        refine k_get C F hw (b) (by omega) eL10_0 rfl in_X2 5 (by decide) fl_X2_32 rfl dX2_setPowerLine_52 ?_
        refine lv_iload_n C.1 C.2.1 dX2_setPowerLine_55 rfl (lv_at hl 1 rfl) ?_
        refine k_add C dX2_setPowerLine_56 ?_
        refine k_bip C 7 dX2_setPowerLine_57 (by decide) ?_
        refine k_add C dX2_setPowerLine_59 ?_
        refine lv_iload_n C.1 C.2.1 dX2_setPowerLine_60 rfl (lv_at hl 2 rfl) ?_
        refine k_add C dX2_setPowerLine_61 ?_
        refine k_icn C 1 dX2_setPowerLine_62 (by decide) ?_
        refine k_iast C F hw (b + 62) (by omega) eL10_3 (((T + k) + 7) + i) (1) (by omega) (by decide) dX2_setPowerLine_63 (fun H locs hw => ?_)
        have hw : Wd D (AA R ad sz) s R ad (va_up gL (b + 62) (na ca 75 (va_up f1 (((T + k) + 7) + i) 1))) H locs := hw
        obtain ⟨g16, hg16⟩ : ∃ z, z = va_up gL (b + 62) (na ca 75 (va_up f1 (((T + k) + 7) + i) 1)) := ⟨_, rfl⟩
        rw [← hg16] at hw
        have hk17 : ∀ z, z ≠ (b + 62) → g16 z = gL z := fun z hz => by rw [hg16]; exact va_up_ne _ _ hz
        have e18 : g16 (b + 62) = na ca 75 (va_up f1 (((T + k) + 7) + i) 1) := by rw [hg16]; exact va_up_self _ _ _
        have e19 : g16 (b) = .inr (2, [.ref (ad f), .ref (ad (b + 1)), .ref (ad (b + 61)), .ref (ad (b + 62)), .int (nI L), .int (nI T), .int (nI rk)]) := (hk17 _ (by omega)).trans eL10_0
        have e20 : g16 (b + 1) = qa ca 59 (fun i => if i < 59 then some (ad (b + 2 + i)) else none) := (hk17 _ (by omega)).trans eL10_1
        have e21 : g16 (b + 61) = za ca 59 (ld) := (hk17 _ (by omega)).trans eL10_2
        have e22 : g16 (f) = .inr (3, [.ref (ad (f + 1)), .ref (ad (f + 2))]) := (hk17 _ (by omega)).trans e13
        have e23 : g16 (f + 1) = na ca 510 (pw) := (hk17 _ (by omega)).trans e14
        have e24 : g16 (f + 2) = na ca 256 (ex) := (hk17 _ (by omega)).trans e15
        have hr25 : ∀ p9, p9 < 59 → g16 (b + 2 + p9) = na ca 75 (M p9) := fun p9 hp9 => (hk17 _ (by omega)).trans (hrL10_0 p9 hp9)
        have hs26 : ∀ z, (z < b ∨ b + 62 < z) → g16 z = g z := fun z hz => (hk17 z (by omega)).trans (hsL10 z hz)
        exact hret H locs ls _ _ dX2_setPowerLine_64 hw (⟨hs26, e19, e20, hr25, e21, by rw [e18, hf1, show j = k + 7 by omega]; rfl⟩)
      · refine lv_aload_n C.1 C.2.1 dX2_setPowerLine_18 rfl (lv_at hl 0 rfl) ?_
        refine k_get C F hw (b) (by omega) eL10_0 rfl in_X2 3 (by decide) fl_X2_24 rfl dX2_setPowerLine_19 ?_
        refine lv_aload_n C.1 C.2.1 dX2_setPowerLine_22 rfl (lv_at hl 0 rfl) ?_
        refine k_get C F hw (b) (by omega) eL10_0 rfl in_X2 5 (by decide) fl_X2_32 rfl dX2_setPowerLine_23 ?_
        refine lv_iload_n C.1 C.2.1 dX2_setPowerLine_26 rfl (lv_at hl 3 rfl) ?_
        refine k_add C dX2_setPowerLine_27 ?_
        refine lv_aload_n C.1 C.2.1 dX2_setPowerLine_28 rfl (lv_at hl 0 rfl) ?_
        refine k_get C F hw (b) (by omega) eL10_0 rfl in_X2 0 (by decide) fl_X2_9 rfl dX2_setPowerLine_29 ?_
        refine lv_iload_n C.1 C.2.1 dX2_setPowerLine_32 rfl (lv_at hl 3 rfl) ?_
        refine lv_iload_n C.1 C.2.1 dX2_setPowerLine_33 rfl (lv_at hl 2 rfl) ?_
        refine k_icn C 1 dX2_setPowerLine_34 (by decide) ?_
        refine k_add C dX2_setPowerLine_35 ?_
        refine k_mul C dX2_setPowerLine_36 ?_
        have hji : j * (i + 1) ≤ 55 * 4 := Nat.mul_le_mul (by omega) (by omega)
        have hF9 : FieldAt ca ad gL f pw ex := ⟨e13, e14, e15⟩
        refine k_Vi C F hw (i := f) (As := [.int (nI (j * (i + 1)))]) (rest := [.int (nI (T + j)), .ref (ad (b + 62))]) (c_X3_powerOfTwo f pw ex hF9 hX (by omega) (j * (i + 1)) (by omega)) (by omega) e13 rfl (cwV _ C.2.2.2.2 gm_X2_81 rfl rfl rfl cd_X3_powerOfTwo ⟨by decide, by decide⟩) hl.1 rfl (Nat.le_of_ble_eq_true rfl) dX2_setPowerLine_37 ⟨by decide, by decide⟩ (fun r27 g28 H locs hp hw => ?_)
        obtain ⟨hr9, hg9⟩ := hp
        rw [hg9] at hw
        subst hr9
        refine k_iast C F hw (b + 62) (by omega) eL10_3 (T + j) (pw (j * (i + 1) % 255)) (by omega) (by decide) dX2_setPowerLine_40 (fun H locs hw => ?_)
        have hw : Wd D (AA R ad sz) s R ad (va_up gL (b + 62) (na ca 75 (va_up f1 (T + j) (pw (j * (i + 1) % 255))))) H locs := hw
        obtain ⟨g29, hg29⟩ : ∃ z, z = va_up gL (b + 62) (na ca 75 (va_up f1 (T + j) (pw (j * (i + 1) % 255)))) := ⟨_, rfl⟩
        rw [← hg29] at hw
        have hk30 : ∀ z, z ≠ (b + 62) → g29 z = gL z := fun z hz => by rw [hg29]; exact va_up_ne _ _ hz
        have e31 : g29 (b + 62) = na ca 75 (va_up f1 (T + j) (pw (j * (i + 1) % 255))) := by rw [hg29]; exact va_up_self _ _ _
        have e32 : g29 (b) = .inr (2, [.ref (ad f), .ref (ad (b + 1)), .ref (ad (b + 61)), .ref (ad (b + 62)), .int (nI L), .int (nI T), .int (nI rk)]) := (hk30 _ (by omega)).trans eL10_0
        have e33 : g29 (b + 1) = qa ca 59 (fun i => if i < 59 then some (ad (b + 2 + i)) else none) := (hk30 _ (by omega)).trans eL10_1
        have e34 : g29 (b + 61) = za ca 59 (ld) := (hk30 _ (by omega)).trans eL10_2
        have e35 : g29 (f) = .inr (3, [.ref (ad (f + 1)), .ref (ad (f + 2))]) := (hk30 _ (by omega)).trans e13
        have e36 : g29 (f + 1) = na ca 510 (pw) := (hk30 _ (by omega)).trans e14
        have e37 : g29 (f + 2) = na ca 256 (ex) := (hk30 _ (by omega)).trans e15
        have hr38 : ∀ p9, p9 < 59 → g29 (b + 2 + p9) = na ca 75 (M p9) := fun p9 hp9 => (hk30 _ (by omega)).trans (hrL10_0 p9 hp9)
        have hs39 : ∀ z, (z < b ∨ b + 62 < z) → g29 z = g z := fun z hz => (hk30 z (by omega)).trans (hsL10 z hz)
        refine k_inc C (j + 1) (lv' := [(3, .int (nI (j + 1))), (0, .ref (ad b)), (1, .int (nI k)), (2, .int (nI i))]) dX2_setPowerLine_41 hl (k := 3) rfl (inc1 _) (by decide) rfl (fun ls hl => ?_)
        refine lv_goto (tgt := 10) C.1 C.2.1 dX2_setPowerLine_44 (by decide) ?_
        exact ih10 (j + 1) (va_up f1 (T + j) (pw (j * (i + 1) % 255))) g29 H locs ls (by omega) (by omega) (by rw [hf1]; rfl) hs39 e32 e33 e34 e31 hr38 hw (lv_sub hl [1, 2, 3, 0] rfl)
  exact loop10 _ 0 (fFill 75 0 ln) g2 H locs ls (Nat.le_refl _) (by omega) rfl hs12 e5 e6 e7 e4 hr11 hw (lv_sub hl [1, 2, 3, 0] rfl)

abbrev rm_X2_reduceLine : Room := { frames := 1, cells := 0, slots := 0, locals := 27 }

set_option maxHeartbeats 800000 in
set_option maxRecDepth 100000 in
/-- Equations.reduceLine -/
theorem c_X2_reduceLine {l : Launch} {D : va_G} {ca : Nat → ClassId} {tB tS R : Nat} {ad : Nat → Nat} {g : Nat → va_E} {sz : Nat} (b f L T rk : Nat) (M : Nat → Nat → Nat) (ld : Nat → Bool) (ln : Nat → Nat) (hE : EqAt ca ad g b f L T rk M ld ln) (hb : b + 62 < R) (hL : L ≤ 59) (hT : T ≤ 16) (pw ex : Nat → Nat) (hF : FieldAt ca ad g f pw ex) (hX : ExOk ex) (hP : PwOk pw) (hfb : f + 2 < b) (hM : ∀ p, By (M p)) (hln : By ln)  : MV l yX2_reduceLine cX2_reduceLine 3 rm_X2_reduceLine D ca tB tS R ad g sz [.ref (ad b)] (fun g1 => (∀ z, (z < b ∨ b + 62 < z) → g1 z = g z) ∧ EqAt ca ad g1 b f L T rk M ld (lnRed pw ex L T M ld ln)) := by
  refine m_startV (by decide +kernel) (Nat.le_of_ble_eq_true rfl) (fun p e s m args below meth c ls Q hsz C hnm hl F hw hret => ?_)
  have hl : lv_has ls 3 [(0, .ref (ad b))] := hl
  generalize s.heap = H at hw ⊢
  generalize ([] : List Loc) = locs at hw ⊢
  refine k_icn C 0 dX2_reduceLine_0 (by decide) ?_
  refine lv_istore_n (lv' := [(1, .int (nI 0)), (0, .ref (ad b))]) C.1 C.2.1 dX2_reduceLine_1 rfl hl (by decide) rfl (fun ls hl => ?_)
  have loop2 : ∀ (fuel : Nat) (q : Nat) (f1 : Nat → Nat) (gL : Nat → va_E) (H : Heap) (locs : List Loc) (ls : Array Slot), ((L - q) + 1 ≤ fuel) → (q ≤ L) → (f1 = fr (rdStep pw ex T M ld) q ln) → (By f1) → (∀ z, (z < b ∨ b + 62 < z) → gL z = g z) → (gL (b) = .inr (2, [.ref (ad f), .ref (ad (b + 1)), .ref (ad (b + 61)), .ref (ad (b + 62)), .int (nI L), .int (nI T), .int (nI rk)])) → (gL (b + 1) = qa ca 59 (fun i => if i < 59 then some (ad (b + 2 + i)) else none)) → (gL (b + 61) = za ca 59 (ld)) → (gL (b + 62) = na ca 75 (f1)) → (∀ p9, p9 < 59 → gL (b + 2 + p9) = na ca 75 (M p9)) → Wd D (AA R ad sz) s R ad gL H locs → lv_has ls 3 [(0, .ref (ad b)), (1, .int (nI q))] → W p l e rm_X2_reduceLine s m args below meth c H locs 0 0 Q (F0 m 2 ls []) := by
    intro fuel
    induction fuel with
    | zero =>
      intro q f1 gL H locs ls hfu2
      exact absurd hfu2 (by omega)
    | succ fuel2 ih2 =>
      intro q f1 gL H locs ls hfu2 hp0 hf1 hby hsL2 eL2_0 eL2_1 eL2_2 eL2_3 hrL2_0 hw hl
      have e1 : gL (f) = .inr (3, [.ref (ad (f + 1)), .ref (ad (f + 2))]) := (hsL2 _ (by omega)).trans hF.1
      have e2 : gL (f + 1) = na ca 510 (pw) := (hsL2 _ (by omega)).trans hF.2.1
      have e3 : gL (f + 2) = na ca 256 (ex) := (hsL2 _ (by omega)).trans hF.2.2
      refine lv_iload_n C.1 C.2.1 dX2_reduceLine_2 rfl (lv_at hl 1 rfl) ?_
      refine lv_aload_n C.1 C.2.1 dX2_reduceLine_3 rfl (lv_at hl 0 rfl) ?_
      refine k_get C F hw (b) (by omega) eL2_0 rfl in_X2 4 (by decide) fl_X2_28 rfl dX2_reduceLine_4 ?_
      refine k_ige (tgt := 67) C dX2_reduceLine_7 (by decide) (by omega) (by omega) (fun hc7 => ?_) (fun hc7 => ?_)
      · have he9 : f1 = lnRed pw ex L T M ld ln := by rw [hf1, show q = L by omega]; rfl
        rw [he9] at eL2_3
        exact hret H locs ls _ _ dX2_reduceLine_67 hw (⟨hsL2, eL2_0, eL2_1, hrL2_0, eL2_2, eL2_3⟩)
      · refine lv_aload_n C.1 C.2.1 dX2_reduceLine_10 rfl (lv_at hl 0 rfl) ?_
        refine k_get C F hw (b) (by omega) eL2_0 rfl in_X2 3 (by decide) fl_X2_24 rfl dX2_reduceLine_11 ?_
        refine lv_aload_n C.1 C.2.1 dX2_reduceLine_14 rfl (lv_at hl 0 rfl) ?_
        refine k_get C F hw (b) (by omega) eL2_0 rfl in_X2 5 (by decide) fl_X2_32 rfl dX2_reduceLine_15 ?_
        refine lv_iload_n C.1 C.2.1 dX2_reduceLine_18 rfl (lv_at hl 1 rfl) ?_
        refine k_add C dX2_reduceLine_19 ?_
        refine k_iald C F hw (b + 62) (by omega) eL2_3 (T + q) (by omega) (by decide) dX2_reduceLine_20 ?_
        have hfb1 := hby (T + q)
        refine lv_istore_n (lv' := [(2, .int (nI (f1 (T + q)))), (0, .ref (ad b)), (1, .int (nI q))]) C.1 C.2.1 dX2_reduceLine_21 rfl hl (by decide) rfl (fun ls hl => ?_)
        refine lv_iload_n C.1 C.2.1 dX2_reduceLine_22 rfl (lv_at hl 0 rfl) ?_
        refine k_zeq (tgt := 61) C dX2_reduceLine_23 (by decide) (by omega) (fun hc23 => ?_) (fun hc23 => ?_)
        · refine k_inc C (q + 1) (lv' := [(1, .int (nI (q + 1))), (2, .int (nI (f1 (T + q)))), (0, .ref (ad b))]) dX2_reduceLine_61 hl (k := 2) rfl (inc1 _) (by decide) rfl (fun ls hl => ?_)
          refine lv_goto (tgt := 2) C.1 C.2.1 dX2_reduceLine_64 (by decide) ?_
          exact ih2 (q + 1) f1 gL H locs ls (by omega) (by omega) (by show _ = rdStep pw ex T M ld q (fr _ q ln); rw [← hf1]; exact (rdStep_f (by first | exact Or.inl hc23 | exact Or.inr hc32)).symm) hby hsL2 eL2_0 eL2_1 eL2_2 eL2_3 hrL2_0 hw (lv_sub hl [2, 0] rfl)
        · refine lv_aload_n C.1 C.2.1 dX2_reduceLine_26 rfl (lv_at hl 1 rfl) ?_
          refine k_get C F hw (b) (by omega) eL2_0 rfl in_X2 2 (by decide) fl_X2_20 rfl dX2_reduceLine_27 ?_
          refine lv_iload_n C.1 C.2.1 dX2_reduceLine_30 rfl (lv_at hl 2 rfl) ?_
          refine k_zald C F hw (b + 61) (by omega) eL2_2 (q) (by omega) (by decide) dX2_reduceLine_31 ?_
          refine k_beq (tgt := 61) C dX2_reduceLine_32 (by decide) (fun hc32 => ?_) (fun hc32 => ?_)
          · refine k_inc C (q + 1) (lv' := [(1, .int (nI (q + 1))), (2, .int (nI (f1 (T + q)))), (0, .ref (ad b))]) dX2_reduceLine_61 hl (k := 2) rfl (inc1 _) (by decide) rfl (fun ls hl => ?_)
            refine lv_goto (tgt := 2) C.1 C.2.1 dX2_reduceLine_64 (by decide) ?_
            exact ih2 (q + 1) f1 gL H locs ls (by omega) (by omega) (by show _ = rdStep pw ex T M ld q (fr _ q ln); rw [← hf1]; exact (rdStep_f (by first | exact Or.inl hc23 | exact Or.inr hc32)).symm) hby hsL2 eL2_0 eL2_1 eL2_2 eL2_3 hrL2_0 hw (lv_sub hl [2, 0] rfl)
          · refine lv_aload_n C.1 C.2.1 dX2_reduceLine_35 rfl (lv_at hl 1 rfl) ?_
            refine k_get C F hw (b) (by omega) eL2_0 rfl in_X2 0 (by decide) fl_X2_9 rfl dX2_reduceLine_36 ?_
            refine lv_aload_n C.1 C.2.1 dX2_reduceLine_39 rfl (lv_at hl 1 rfl) ?_
            refine k_get C F hw (b) (by omega) eL2_0 rfl in_X2 3 (by decide) fl_X2_24 rfl dX2_reduceLine_40 ?_
            refine lv_aload_n C.1 C.2.1 dX2_reduceLine_43 rfl (lv_at hl 1 rfl) ?_
            refine k_get C F hw (b) (by omega) eL2_0 rfl in_X2 1 (by decide) fl_X2_17 rfl dX2_reduceLine_44 ?_
            refine lv_iload_n C.1 C.2.1 dX2_reduceLine_47 rfl (lv_at hl 2 rfl) ?_
            refine k_aald C F hw (b + 1) (by omega) eL2_1 (a := ad (b + 2 + q)) (q) (by omega) (by decide) (if_pos (by omega)) dX2_reduceLine_48 ?_
            refine lv_iload_n C.1 C.2.1 dX2_reduceLine_49 rfl (lv_at hl 0 rfl) ?_
            refine lv_aload_n C.1 C.2.1 dX2_reduceLine_50 rfl (lv_at hl 1 rfl) ?_
            refine k_get C F hw (b) (by omega) eL2_0 rfl in_X2 5 (by decide) fl_X2_32 rfl dX2_reduceLine_51 ?_
            refine lv_iload_n C.1 C.2.1 dX2_reduceLine_54 rfl (lv_at hl 2 rfl) ?_
            refine k_add C dX2_reduceLine_55 ?_
            refine k_icn C 1 dX2_reduceLine_56 (by decide) ?_
            refine k_add C dX2_reduceLine_57 ?_
            have hF9 : FieldAt ca ad gL f pw ex := ⟨e1, e2, e3⟩
            refine k_Vv C F hw (i := f) (As := [.ref (ad (b + 62)), .ref (ad (b + 2 + q)), .int (nI (f1 (T + q))), .int (nI ((T + q) + 1))]) (rest := []) (c_X3_addTimes f pw ex hF9 hX (by omega) (b + 62) (b + 2 + q) 75 75 f1 (M q) (f1 (T + q)) (T + q + 1) (by omega) (by omega) (by omega) (by omega) eL2_3 (hrL2_0 q (by omega)) (by omega) (by omega) (by omega) (by decide) (fun j _ => hM q j)) (by omega) e1 rfl (cwV _ C.2.2.2.2 gm_X2_87 rfl rfl rfl cd_X3_addTimes ⟨by decide, by decide⟩) hl.1 rfl (Nat.le_of_ble_eq_true rfl) dX2_reduceLine_58 ⟨by decide, by decide⟩ (fun g5 H locs hp hw => ?_)
            obtain ⟨hk6, e7⟩ := hp
            have e8 : g5 (b) = .inr (2, [.ref (ad f), .ref (ad (b + 1)), .ref (ad (b + 61)), .ref (ad (b + 62)), .int (nI L), .int (nI T), .int (nI rk)]) := (hk6 _ (by omega)).trans eL2_0
            have e9 : g5 (b + 1) = qa ca 59 (fun i => if i < 59 then some (ad (b + 2 + i)) else none) := (hk6 _ (by omega)).trans eL2_1
            have e10 : g5 (b + 61) = za ca 59 (ld) := (hk6 _ (by omega)).trans eL2_2
            have e11 : g5 (f) = .inr (3, [.ref (ad (f + 1)), .ref (ad (f + 2))]) := (hk6 _ (by omega)).trans e1
            have e12 : g5 (f + 1) = na ca 510 (pw) := (hk6 _ (by omega)).trans e2
            have e13 : g5 (f + 2) = na ca 256 (ex) := (hk6 _ (by omega)).trans e3
            have hr14 : ∀ p9, p9 < 59 → g5 (b + 2 + p9) = na ca 75 (M p9) := fun p9 hp9 => (hk6 _ (by omega)).trans (hrL2_0 p9 hp9)
            have hs15 : ∀ z, (z < b ∨ b + 62 < z) → g5 z = g z := fun z hz => (hk6 z (by omega)).trans (hsL2 z hz)
            refine k_inc C (q + 1) (lv' := [(1, .int (nI (q + 1))), (2, .int (nI (f1 (T + q)))), (0, .ref (ad b))]) dX2_reduceLine_61 hl (k := 2) rfl (inc1 _) (by decide) rfl (fun ls hl => ?_)
            refine lv_goto (tgt := 2) C.1 C.2.1 dX2_reduceLine_64 (by decide) ?_
            exact ih2 (q + 1) (fr (fAdd pw ex (M q) (f1 (T + q))) (T + q + 1) f1) g5 H locs ls (by omega) (by omega) (by show _ = rdStep pw ex T M ld q (fr _ q ln); rw [← hf1]; exact (rdStep_t hc23 hc32).symm) (By.add hP hby _) hs15 e8 e9 e10 e7 hr14 hw (lv_sub hl [2, 0] rfl)
  exact loop2 _ 0 ln g H locs ls (Nat.le_refl _) (by omega) rfl hln (fun z _ => rfl) hE.1 hE.2.1 hE.2.2.2.1 hE.2.2.2.2 hE.2.2.1 hw (lv_sub hl [1, 0] rfl)
