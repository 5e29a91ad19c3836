/-! ===== FountainDeskModel: start, isFull, turnOf ===== -/
noncomputable def mPut (L : Nat) (V : Nat → Nat) (u : MS) : MS := mAddS L (u.1, u.2.1, u.2.2.1, onRow V u.2.2.2)
noncomputable def mLines (L : Nat) (V : Nat → Nat → Nat) (n : Nat) (u : MS) : MS := fr (fun i => mPut L (V i)) n u
theorem mLines_s (L : Nat) (V : Nat → Nat → Nat) (n : Nat) (u : MS) : mLines L V (n + 1) u = mPut L (V n) (mLines L V n u) := rfl
theorem mLines_0 (L : Nat) (V : Nat → Nat → Nat) (u : MS) : mLines L V 0 u = u := rfl
theorem mPut_by {L : Nat} {V : Nat → Nat} {u : MS} (hL : L ≤ 59) (hV : By V) (h : MBy u) : MBy (mPut L V u) := mAdd_by hL ⟨h.1, by_prt (fun c _ => hV c) h.2.1, h.2.2⟩
theorem mPut_rw (L : Nat) (V : Nat → Nat) (u : MS) : (mPut L V u).1 ≤ u.1 + 1 := mAdd_rw L _
theorem mLines_by {L : Nat} {V : Nat → Nat → Nat} {u : MS} (hL : L ≤ 59) (h : MBy u) : ∀ n, (∀ i, i < n → By (V i)) → MBy (mLines L V n u) ∧ (mLines L V n u).1 ≤ u.1 + n
  | 0, _ => ⟨h, Nat.le_refl _⟩
  | n + 1, hV => by
    obtain ⟨h1, h2⟩ := mLines_by hL h n (fun i hi => hV i (by omega))
    rw [mLines_s]
    exact ⟨mPut_by hL (hV n (by omega)) h1, Nat.le_trans (mPut_rw _ _ _) (by omega)⟩
def PmOk (pm : Nat → Nat) : Prop := ∀ x, pm x < 256
theorem by_fxV {pm : Nat → Nat} (hp : PmOk pm) (k i : Nat) : By (fxV pm k i) := by
  intro c
  unfold fxV
  split
  · unfold fxA; (repeat' split) <;> first | exact hp _ | decide
  · unfold fxB; (repeat' split) <;> decide
theorem by_pkR (k x t : Nat) : By (pkR k x t) := fun c => Nat.lt_of_le_of_lt (mkR_le _ _ _) (by decide)
noncomputable def mStart (pm : Nat → Nat) (k : Nat) (u : MS) : MS := mLines (k + 11) (fxV pm k) 11 (0, u.2.1, u.2.2.1, u.2.2.2)
theorem mStart_by {pm : Nat → Nat} {k : Nat} {u : MS} (hp : PmOk pm) (hk : k ≤ 48) (h : MBy u) : MBy (mStart pm k u) ∧ (mStart pm k u).1 ≤ 11 := by
  have := mLines_by (L := k + 11) (V := fxV pm k) (u := (0, u.2.1, u.2.2.1, u.2.2.2)) (by omega) h 11 (fun i _ => by_fxV hp k i)
  exact ⟨this.1, by have := this.2; unfold mStart; omega⟩
noncomputable def mFullS (pm : Nat → Nat) (k t : Nat) (u : MS) : MS := mLines (k + 11) (fun x => pkR k x t) k (mStart pm k u)
theorem mFullS_by {pm : Nat → Nat} {k t : Nat} {u : MS} (hp : PmOk pm) (hk : k ≤ 48) (h : MBy u) : MBy (mFullS pm k t u) := (mLines_by (by omega) (mStart_by hp hk h).1 k (fun i _ => by_pkR _ _ _)).1
theorem tnF_ok (fb : Nat → Bool) : ∀ n t, tnF fb n t < t + n → fb (tnF fb n t) = true
  | 0, t, h => absurd h (by unfold tnF; omega)
  | n + 1, t, h => by
    unfold tnF at h ⊢
    split
    · assumption
    · rename_i h1
      rw [if_neg h1] at h
      exact tnF_ok fb n (t + 1) (by omega)
theorem tnN_ok {fb : Nat → Bool} (h : tnN fb < 1000) : fb (tnN fb) = true := tnF_ok fb 1000 0 (by unfold tnN at h; omega)
theorem tnF_eq {fb : Nat → Bool} {q : Nat} (h1 : fb q = true) (h2 : ∀ t, t < q → fb t = false) : ∀ n t, t ≤ q → q < t + n → tnF fb n t = q
  | 0, t, h3, h4 => absurd h4 (by omega)
  | n + 1, t, h3, h4 => by
    unfold tnF
    by_cases hc : t = q
    · subst hc; rw [if_pos h1]
    · rw [if_neg (by rw [h2 t (by omega)]; decide)]
      exact tnF_eq h1 h2 n (t + 1) (by omega) (by omega)
theorem tnN_eq {fb : Nat → Bool} {q : Nat} (h1 : fb q = true) (h2 : ∀ t, t < q → fb t = false) (h : q < 1000) : tnN fb = q := tnF_eq h1 h2 1000 0 (Nat.zero_le _) (by omega)

abbrev rm_X8_start : Room := { frames := 3, cells := 0, slots := 0, locals := 74 }

set_option maxHeartbeats 800000 in
set_option maxRecDepth 100000 in
/-- start -/
theorem c_X8_start {l : Launch} {D : va_G} {ca : Nat → ClassId} {tB tS R : Nat} {ad : Nat → Nat} {g : Nat → va_E} {sz : Nat} (hR : 207 < R) (cd : Int32) (ln bk bt ck ct cn pk rw : Nat) (gt : Bool) (eM : g 198 = .inr (8, [.int (cd), .ref (ad 199), .int (nI ln), .ref (ad 200), .int (nI bk), .int (nI bt), .ref (ad 201), .int (nI ck), .int (nI ct), .ref (ad 202), .int (nI cn), .int (nI pk), .ref (ad 203), .ref (ad 204), .int (nI rw), .ref (ad 205), .ref (ad 206), .int (bI (gt)), .ref (ad 207)])) (ro : Nat → Nat) (q205 : g 205 = na ca 75 ro) (pm : Nat → Nat) (q206 : g 206 = na ca 255 pm) (M : Nat → Nat → Nat) (pv : Nat → Nat) (q203 : g 203 = na ca 9000 (fl M)) (q204 : g 204 = na ca 120 pv) (hM : ∀ r, By (M r)) (hro : By ro) (hpv : ∀ r, pv r < 75) (hpm : PmOk pm) (k : Nat) (hk : 1 ≤ k ∧ k ≤ 48) : MV l yX8_start cX8_start 3 rm_X8_start D ca tB tS R ad g sz [.ref (ad 198), .int (nI k)] (fun g1 => (∀ z, z ≠ 198 ∧ z ≠ 203 ∧ z ≠ 204 ∧ z ≠ 205 → g1 z = g z) ∧ g1 198 = .inr (8, [.int (cd), .ref (ad 199), .int (nI ln), .ref (ad 200), .int (nI bk), .int (nI bt), .ref (ad 201), .int (nI ck), .int (nI ct), .ref (ad 202), .int (nI cn), .int (nI pk), .ref (ad 203), .ref (ad 204), .int (nI ((mStart pm k (rw, M, pv, ro)).1)), .ref (ad 205), .ref (ad 206), .int (bI (false)), .ref (ad 207)]) ∧ g1 203 = na ca 9000 (fl (mStart pm k (rw, M, pv, ro)).2.1) ∧ g1 204 = na ca 120 (mStart pm k (rw, M, pv, ro)).2.2.1 ∧ g1 205 = na ca 75 (mStart pm k (rw, M, pv, ro)).2.2.2) := by
  refine m_startV (by decide +kernel) (Nat.le_of_ble_eq_true rfl) (fun p e s m args below meth c ls Q hsz C hnm hl F hw hret => ?_)
  have hl : lv_has ls 3 [(0, .ref (ad 198)), (1, .int (nI k))] := hl
  generalize s.heap = H at hw ⊢
  generalize ([] : List Loc) = locs at hw ⊢
  refine lv_aload_n C.1 C.2.1 dX8_start_0 rfl (lv_at hl 0 rfl) ?_
  refine k_icn C 0 dX8_start_1 (by decide) ?_
  refine k_put C F hw (198) (by omega) eM rfl in_X8 tyX8_ok nmX8 17 (by decide) fl_X8_84 rfl (v := .int (bI (false))) (bI_narrow _) rfl (Nat.le_of_ble_eq_true rfl) dX8_start_2 (fun H locs hw => ?_)
  have hw : Wd D (AA R ad sz) s R ad (va_up g (198) (.inr (8, [.int (cd), .ref (ad 199), .int (nI ln), .ref (ad 200), .int (nI bk), .int (nI bt), .ref (ad 201), .int (nI ck), .int (nI ct), .ref (ad 202), .int (nI cn), .int (nI pk), .ref (ad 203), .ref (ad 204), .int (nI rw), .ref (ad 205), .ref (ad 206), .int (bI (false)), .ref (ad 207)]))) H locs := hw
  obtain ⟨g1, hg1⟩ : ∃ z, z = va_up g (198) (.inr (8, [.int (cd), .ref (ad 199), .int (nI ln), .ref (ad 200), .int (nI bk), .int (nI bt), .ref (ad 201), .int (nI ck), .int (nI ct), .ref (ad 202), .int (nI cn), .int (nI pk), .ref (ad 203), .ref (ad 204), .int (nI rw), .ref (ad 205), .ref (ad 206), .int (bI (false)), .ref (ad 207)])) := ⟨_, rfl⟩
  rw [← hg1] at hw
  have hk2 : ∀ z, z ≠ 198 → g1 z = g z := fun z hz => by rw [hg1]; exact va_up_ne _ _ hz
  have e3 : g1 (198) = .inr (8, [.int (cd), .ref (ad 199), .int (nI ln), .ref (ad 200), .int (nI bk), .int (nI bt), .ref (ad 201), .int (nI ck), .int (nI ct), .ref (ad 202), .int (nI cn), .int (nI pk), .ref (ad 203), .ref (ad 204), .int (nI rw), .ref (ad 205), .ref (ad 206), .int (bI (false)), .ref (ad 207)]) := by rw [hg1]; exact va_up_self _ _ _
  have e4 : g1 (203) = na ca 9000 (fl M) := (hk2 _ (by omega)).trans q203
  have e5 : g1 (204) = na ca 120 (pv) := (hk2 _ (by omega)).trans q204
  have e6 : g1 (205) = na ca 75 (ro) := (hk2 _ (by omega)).trans q205
  have e7 : g1 (206) = na ca 255 (pm) := (hk2 _ (by omega)).trans q206
  have hs8 : ∀ z, z ≠ 198 ∧ z ≠ 203 ∧ z ≠ 204 ∧ z ≠ 205 → g1 z = g z := fun z hz => hk2 z (by omega)
  refine lv_aload_n C.1 C.2.1 dX8_start_5 rfl (lv_at hl 0 rfl) ?_
  refine k_icn C 0 dX8_start_6 (by decide) ?_
  refine k_put C F hw (198) (by omega) e3 rfl in_X8 tyX8_ok nmX8 14 (by decide) fl_X8_74 rfl (v := .int (nI 0)) rfl rfl (Nat.le_of_ble_eq_true rfl) dX8_start_7 (fun H locs hw => ?_)
  have hw : Wd D (AA R ad sz) s R ad (va_up g1 (198) (.inr (8, [.int (cd), .ref (ad 199), .int (nI ln), .ref (ad 200), .int (nI bk), .int (nI bt), .ref (ad 201), .int (nI ck), .int (nI ct), .ref (ad 202), .int (nI cn), .int (nI pk), .ref (ad 203), .ref (ad 204), .int (nI 0), .ref (ad 205), .ref (ad 206), .int (bI (false)), .ref (ad 207)]))) H locs := hw
  obtain ⟨g9, hg9⟩ : ∃ z, z = va_up g1 (198) (.inr (8, [.int (cd), .ref (ad 199), .int (nI ln), .ref (ad 200), .int (nI bk), .int (nI bt), .ref (ad 201), .int (nI ck), .int (nI ct), .ref (ad 202), .int (nI cn), .int (nI pk), .ref (ad 203), .ref (ad 204), .int (nI 0), .ref (ad 205), .ref (ad 206), .int (bI (false)), .ref (ad 207)])) := ⟨_, rfl⟩
  rw [← hg9] at hw
  have hk10 : ∀ z, z ≠ 198 → g9 z = g1 z := fun z hz => by rw [hg9]; exact va_up_ne _ _ hz
  have e11 : g9 (198) = .inr (8, [.int (cd), .ref (ad 199), .int (nI ln), .ref (ad 200), .int (nI bk), .int (nI bt), .ref (ad 201), .int (nI ck), .int (nI ct), .ref (ad 202), .int (nI cn), .int (nI pk), .ref (ad 203), .ref (ad 204), .int (nI 0), .ref (ad 205), .ref (ad 206), .int (bI (false)), .ref (ad 207)]) := by rw [hg9]; exact va_up_self _ _ _
  have e12 : g9 (203) = na ca 9000 (fl M) := (hk10 _ (by omega)).trans e4
  have e13 : g9 (204) = na ca 120 (pv) := (hk10 _ (by omega)).trans e5
  have e14 : g9 (205) = na ca 75 (ro) := (hk10 _ (by omega)).trans e6
  have e15 : g9 (206) = na ca 255 (pm) := (hk10 _ (by omega)).trans e7
  have hs16 : ∀ z, z ≠ 198 ∧ z ≠ 203 ∧ z ≠ 204 ∧ z ≠ 205 → g9 z = g z := fun z hz => (hk10 z (by omega)).trans (hs8 z hz)
  refine k_icn C 0 dX8_start_10 (by decide) ?_
  refine lv_istore_n (lv' := [(2, .int (nI 0)), (0, .ref (ad 198)), (1, .int (nI k))]) C.1 C.2.1 dX8_start_11 rfl hl (by decide) rfl (fun ls hl => ?_)
  have loop12 : ∀ (fuel : Nat) (i : Nat) (u : MS) (gL : Nat → va_E) (H : Heap) (locs : List Loc) (ls : Array Slot), ((11 - i) + 1 ≤ fuel) → (i ≤ 11) → (u = mLines (k + 11) (fxV pm k) i (0, M, pv, ro)) → (∀ z, z ≠ 198 ∧ z ≠ 203 ∧ z ≠ 204 ∧ z ≠ 205 → gL z = g z) → (gL (198) = .inr (8, [.int (cd), .ref (ad 199), .int (nI ln), .ref (ad 200), .int (nI bk), .int (nI bt), .ref (ad 201), .int (nI ck), .int (nI ct), .ref (ad 202), .int (nI cn), .int (nI pk), .ref (ad 203), .ref (ad 204), .int (nI (u.1)), .ref (ad 205), .ref (ad 206), .int (bI (false)), .ref (ad 207)])) → (gL (203) = na ca 9000 (fl u.2.1)) → (gL (204) = na ca 120 (u.2.2.1)) → (gL (205) = na ca 75 (u.2.2.2)) → Wd D (AA R ad sz) s R ad gL H locs → lv_has ls 3 [(0, .ref (ad 198)), (1, .int (nI k)), (2, .int (nI i))] → W p l e rm_X8_start s m args below meth c H locs 0 0 Q (F0 m 12 ls []) := by
    intro fuel
    induction fuel with
    | zero =>
      intro i u gL H locs ls hfu12
      exact absurd hfu12 (by omega)
    | succ fuel12 ih12 =>
      intro i u gL H locs ls hfu12 hi hu hsL12 eL12_0 eL12_1 eL12_2 eL12_3 hw hl
      have e17 : gL (206) = na ca 255 (pm) := (hsL12 _ (by omega)).trans q206
      refine lv_iload_n C.1 C.2.1 dX8_start_12 rfl (lv_at hl 2 rfl) ?_
      refine k_bip C 11 dX8_start_13 (by decide) ?_
      refine k_ige (tgt := 39) C dX8_start_15 (by decide) (by omega) (by omega) (fun hc15 => ?_) (fun hc15 => ?_)
      · have hfin : (mStart pm k (rw, M, pv, ro)) = u := by rw [hu, show i = 11 by omega]; rfl
        exact hret H locs ls _ _ dX8_start_39 hw (by rw [hfin]; exact ⟨hsL12, eL12_0, eL12_1, eL12_2, eL12_3⟩)
      · have hub := mLines_by (L := k + 11) (V := fxV pm k) (u := (0, M, pv, ro)) (by omega) ⟨hM, hro, hpv⟩ i (fun i _ => by_fxV hpm k i)
        rw [← hu] at hub
        have hub2 : u.1 ≤ 0 + i := hub.2
        refine lv_aload_n C.1 C.2.1 dX8_start_18 rfl (lv_at hl 0 rfl) ?_
        refine lv_iload_n C.1 C.2.1 dX8_start_19 rfl (lv_at hl 1 rfl) ?_
        refine lv_iload_n C.1 C.2.1 dX8_start_20 rfl (lv_at hl 2 rfl) ?_
        refine k_Vv C F hw (i := 198) (As := [.int (nI k), .int (nI i)]) (rest := []) (c_X8_fixed hR cd ln bk bt ck ct cn pk u.1 false eL12_0 u.2.2.2 eL12_3 pm e17 k i hk (by omega)) (by omega) eL12_0 rfl (cwV _ C.2.2.2.2 gm_X8_88 rfl rfl rfl cd_X8_fixed ⟨by decide, by decide⟩) hl.1 rfl (Nat.le_of_ble_eq_true rfl) dX8_start_21 ⟨by decide, by decide⟩ (fun g19 H locs hp hw => ?_)
        obtain ⟨hk20, e21⟩ := hp
        have e22 : g19 (198) = .inr (8, [.int (cd), .ref (ad 199), .int (nI ln), .ref (ad 200), .int (nI bk), .int (nI bt), .ref (ad 201), .int (nI ck), .int (nI ct), .ref (ad 202), .int (nI cn), .int (nI pk), .ref (ad 203), .ref (ad 204), .int (nI (u.1)), .ref (ad 205), .ref (ad 206), .int (bI (false)), .ref (ad 207)]) := (hk20 _ (by omega)).trans eL12_0
        have e23 : g19 (203) = na ca 9000 (fl u.2.1) := (hk20 _ (by omega)).trans eL12_1
        have e24 : g19 (204) = na ca 120 (u.2.2.1) := (hk20 _ (by omega)).trans eL12_2
        have e25 : g19 (206) = na ca 255 (pm) := (hk20 _ (by omega)).trans e17
        have hs26 : ∀ z, z ≠ 198 ∧ z ≠ 203 ∧ z ≠ 204 ∧ z ≠ 205 → g19 z = g z := fun z hz => (hk20 z (by omega)).trans (hsL12 z hz)
        refine lv_aload_n C.1 C.2.1 dX8_start_24 rfl (lv_at hl 0 rfl) ?_
        refine lv_iload_n C.1 C.2.1 dX8_start_25 rfl (lv_at hl 1 rfl) ?_
        refine k_bip C 11 dX8_start_26 (by decide) ?_
        refine k_add C dX8_start_28 ?_
        refine k_Vi C F hw (i := 198) (As := [.int (nI (k + 11))]) (rest := []) (c_X8_isAdded hR cd ln bk bt ck ct cn pk u.1 false e22 (onRow (fxV pm k i) u.2.2.2) e21 u.2.1 u.2.2.1 e23 e24 hub.1.1 (by_prt (fun c _ => by_fxV hpm k i c) hub.1.2.1) hub.1.2.2 (by omega) (k + 11) (by omega)) (by omega) e22 rfl (cwV _ C.2.2.2.2 gm_X8_92 rfl rfl rfl cd_X8_isAdded ⟨by decide, by decide⟩) hl.1 rfl (Nat.le_of_ble_eq_true rfl) dX8_start_29 ⟨by decide, by decide⟩ (fun r27 g28 H locs hp hw => ?_)
        obtain ⟨hr9, hs29, e30, e31, e32, e33⟩ := hp
        subst hr9
        have e34 : g28 (206) = na ca 255 (pm) := (hs29 _ (by omega)).trans e25
        have hs35 : ∀ z, z ≠ 198 ∧ z ≠ 203 ∧ z ≠ 204 ∧ z ≠ 205 → g28 z = g z := fun z hz => (hs29 z (by omega)).trans (hs26 z hz)
        refine lv_pop C.1 C.2.1 dX8_start_32 rfl ?_
        refine k_inc C (i + 1) (lv' := [(2, .int (nI (i + 1))), (0, .ref (ad 198)), (1, .int (nI k))]) dX8_start_33 hl (k := 2) rfl (inc1 _) (by decide) rfl (fun ls hl => ?_)
        refine lv_goto (tgt := 12) C.1 C.2.1 dX8_start_36 (by decide) ?_
        exact ih12 (i + 1) (mPut (k + 11) (fxV pm k i) u) g28 H locs ls (by omega) (by omega) (by rw [hu]; rfl) hs35 e30 e31 e32 e33 hw (lv_sub hl [1, 2, 0] rfl)
  exact loop12 _ 0 (0, M, pv, ro) g9 H locs ls (Nat.le_refl _) (by omega) rfl hs16 e11 e12 e13 e14 hw (lv_sub hl [1, 2, 0] rfl)

abbrev rm_X8_isFull : Room := { frames := 4, cells := 0, slots := 0, locals := 96 }

set_option maxHeartbeats 800000 in
set_option maxRecDepth 100000 in
/-- isFull -/
theorem c_X8_isFull {l : Launch} {D : va_G} {ca : Nat → ClassId} {tB tS R : Nat} {ad : Nat → Nat} {g : Nat → va_E} {sz : Nat} (hR : 207 < R) (cd : Int32) (ln bk bt ck ct cn pk rw : Nat) (gt : Bool) (eM : g 198 = .inr (8, [.int (cd), .ref (ad 199), .int (nI ln), .ref (ad 200), .int (nI bk), .int (nI bt), .ref (ad 201), .int (nI ck), .int (nI ct), .ref (ad 202), .int (nI cn), .int (nI pk), .ref (ad 203), .ref (ad 204), .int (nI rw), .ref (ad 205), .ref (ad 206), .int (bI (gt)), .ref (ad 207)])) (ro : Nat → Nat) (q205 : g 205 = na ca 75 ro) (pm : Nat → Nat) (q206 : g 206 = na ca 255 pm) (M : Nat → Nat → Nat) (pv : Nat → Nat) (q203 : g 203 = na ca 9000 (fl M)) (q204 : g 204 = na ca 120 pv) (hM : ∀ r, By (M r)) (hro : By ro) (hpv : ∀ r, pv r < 75) (hpm : PmOk pm) (k t : Nat) (hk : 1 ≤ k ∧ k ≤ 48) (ht : t ≤ 1000) : MI l yX8_isFull cX8_isFull 4 .boolean rm_X8_isFull D ca tB tS R ad g sz [.ref (ad 198), .int (nI k), .int (nI t)] (fun r g1 => r = bI (decide ((mFullS pm k t (rw, M, pv, ro)).1 = k + 11)) ∧ (∀ z, z ≠ 198 ∧ z ≠ 203 ∧ z ≠ 204 ∧ z ≠ 205 → g1 z = g z) ∧ g1 198 = .inr (8, [.int (cd), .ref (ad 199), .int (nI ln), .ref (ad 200), .int (nI bk), .int (nI bt), .ref (ad 201), .int (nI ck), .int (nI ct), .ref (ad 202), .int (nI cn), .int (nI pk), .ref (ad 203), .ref (ad 204), .int (nI ((mFullS pm k t (rw, M, pv, ro)).1)), .ref (ad 205), .ref (ad 206), .int (bI (false)), .ref (ad 207)]) ∧ g1 203 = na ca 9000 (fl (mFullS pm k t (rw, M, pv, ro)).2.1) ∧ g1 204 = na ca 120 (mFullS pm k t (rw, M, pv, ro)).2.2.1 ∧ g1 205 = na ca 75 (mFullS pm k t (rw, M, pv, ro)).2.2.2) := by
  refine m_startZ (by decide +kernel) (Nat.le_of_ble_eq_true rfl) (fun p e s m args below meth c ls Q hsz C hl F hw hret => ?_)
  have hl : lv_has ls 4 [(0, .ref (ad 198)), (1, .int (nI k)), (2, .int (nI t))] := hl
  generalize s.heap = H at hw ⊢
  generalize ([] : List Loc) = locs at hw ⊢
  refine lv_aload_n C.1 C.2.1 dX8_isFull_0 rfl (lv_at hl 0 rfl) ?_
  refine lv_iload_n C.1 C.2.1 dX8_isFull_1 rfl (lv_at hl 1 rfl) ?_
  refine k_Vv C F hw (i := 198) (As := [.int (nI k)]) (rest := []) (c_X8_start hR cd ln bk bt ck ct cn pk rw gt eM ro q205 pm q206 M pv q203 q204 hM hro hpv hpm k hk) (by omega) eM rfl (cwV _ C.2.2.2.2 gm_X8_95 rfl rfl rfl cd_X8_start ⟨by decide, by decide⟩) hl.1 rfl (Nat.le_of_ble_eq_true rfl) dX8_isFull_2 ⟨by decide, by decide⟩ (fun g2 H locs hp hw => ?_)
  obtain ⟨hs3, e4, e5, e6, e7⟩ := hp
  have e8 : g2 (206) = na ca 255 (pm) := (hs3 _ (by omega)).trans q206
  have hs9 : ∀ z, z ≠ 198 ∧ z ≠ 203 ∧ z ≠ 204 ∧ z ≠ 205 → g2 z = g z := fun z hz => hs3 z (by omega)
  refine k_icn C 0 dX8_isFull_5 (by decide) ?_
  refine lv_istore_n (lv' := [(3, .int (nI 0)), (0, .ref (ad 198)), (1, .int (nI k)), (2, .int (nI t))]) C.1 C.2.1 dX8_isFull_6 rfl hl (by decide) rfl (fun ls hl => ?_)
  have loop7 : ∀ (fuel : Nat) (i : Nat) (u : MS) (gL : Nat → va_E) (H : Heap) (locs : List Loc) (ls : Array Slot), ((k - i) + 1 ≤ fuel) → (i ≤ k) → (u = mLines (k + 11) (fun x => pkR k x t) i (mStart pm k (rw, M, pv, ro))) → (∀ z, z ≠ 198 ∧ z ≠ 203 ∧ z ≠ 204 ∧ z ≠ 205 → gL z = g z) → (gL (198) = .inr (8, [.int (cd), .ref (ad 199), .int (nI ln), .ref (ad 200), .int (nI bk), .int (nI bt), .ref (ad 201), .int (nI ck), .int (nI ct), .ref (ad 202), .int (nI cn), .int (nI pk), .ref (ad 203), .ref (ad 204), .int (nI (u.1)), .ref (ad 205), .ref (ad 206), .int (bI (false)), .ref (ad 207)])) → (gL (203) = na ca 9000 (fl u.2.1)) → (gL (204) = na ca 120 (u.2.2.1)) → (gL (205) = na ca 75 (u.2.2.2)) → Wd D (AA R ad sz) s R ad gL H locs → lv_has ls 4 [(0, .ref (ad 198)), (1, .int (nI k)), (2, .int (nI t)), (3, .int (nI i))] → W p l e rm_X8_isFull s m args below meth c H locs 0 0 Q (F0 m 7 ls []) := by
    intro fuel
    induction fuel with
    | zero =>
      intro i u gL H locs ls hfu7
      exact absurd hfu7 (by omega)
    | succ fuel7 ih7 =>
      intro i u gL H locs ls hfu7 hi hu hsL7 eL7_0 eL7_1 eL7_2 eL7_3 hw hl
      have e10 : gL (206) = na ca 255 (pm) := (hsL7 _ (by omega)).trans q206
      have hst := mStart_by (u := (rw, M, pv, ro)) (k := k) hpm (by omega) ⟨hM, hro, hpv⟩
      have hub := mLines_by (L := k + 11) (V := fun x => pkR k x t) (by omega) hst.1 i (fun i _ => by_pkR k i t)
      rw [← hu] at hub
      have hub2 : u.1 ≤ 11 + i := Nat.le_trans hub.2 (by omega)
      refine lv_iload_n C.1 C.2.1 dX8_isFull_7 rfl (lv_at hl 3 rfl) ?_
      refine lv_iload_n C.1 C.2.1 dX8_isFull_8 rfl (lv_at hl 1 rfl) ?_
      refine k_ige (tgt := 35) C dX8_isFull_9 (by decide) (by omega) (by omega) (fun hc9 => ?_) (fun hc9 => ?_)
      · refine lv_aload_n C.1 C.2.1 dX8_isFull_35 rfl (lv_at hl 0 rfl) ?_
        refine k_get C F hw (198) (by omega) eL7_0 rfl in_X8 14 (by decide) fl_X8_74 rfl dX8_isFull_36 ?_
        refine lv_iload_n C.1 C.2.1 dX8_isFull_39 rfl (lv_at hl 1 rfl) ?_
        refine k_bip C 11 dX8_isFull_40 (by decide) ?_
        refine k_add C dX8_isFull_42 ?_
        refine k_ine (tgt := 50) C dX8_isFull_43 (by decide) (by omega) (by omega) (fun hc43 => ?_) (fun hc43 => ?_)
        · refine k_icn C 0 dX8_isFull_50 (by decide) ?_
          have hfin : (mFullS pm k t (rw, M, pv, ro)) = u := by rw [hu, show i = k by omega]; rfl
          exact hret H locs ls _ false _ _ dX8_isFull_51 hw (by rfl) (by rw [hfin]; exact ⟨by rw [show decide (u.1 = k + 11) = false from decide_eq_false (by omega)], hsL7, eL7_0, eL7_1, eL7_2, eL7_3⟩)
        · refine k_icn C 1 dX8_isFull_46 (by decide) ?_
          refine lv_goto (tgt := 51) C.1 C.2.1 dX8_isFull_47 (by decide) ?_
          have hfin : (mFullS pm k t (rw, M, pv, ro)) = u := by rw [hu, show i = k by omega]; rfl
          exact hret H locs ls _ true _ _ dX8_isFull_51 hw (by rfl) (by rw [hfin]; exact ⟨by rw [show decide (u.1 = k + 11) = true from decide_eq_true (by omega)], hsL7, eL7_0, eL7_1, eL7_2, eL7_3⟩)
      · refine lv_aload_n C.1 C.2.1 dX8_isFull_12 rfl (lv_at hl 0 rfl) ?_
        refine lv_iload_n C.1 C.2.1 dX8_isFull_13 rfl (lv_at hl 1 rfl) ?_
        refine lv_iload_n C.1 C.2.1 dX8_isFull_14 rfl (lv_at hl 2 rfl) ?_
        refine lv_iload_n C.1 C.2.1 dX8_isFull_15 rfl (lv_at hl 3 rfl) ?_
        refine k_Vi C F hw (i := 198) (As := [.int (nI k), .int (nI t), .int (nI i)]) (rest := []) (c_X8_packet hR cd ln bk bt ck ct cn pk u.1 false eL7_0 u.2.2.2 eL7_3 k i t hk (by omega) ht) (by omega) eL7_0 rfl (cwV _ C.2.2.2.2 gm_X8_99 rfl rfl rfl cd_X8_packet ⟨by decide, by decide⟩) hl.1 rfl (Nat.le_of_ble_eq_true rfl) dX8_isFull_16 ⟨by decide, by decide⟩ (fun r11 g12 H locs hp hw => ?_)
        obtain ⟨hr9, hp⟩ := hp
        subst hr9
        obtain ⟨hk13, e14⟩ := hp
        have e15 : g12 (206) = na ca 255 (pm) := (hk13 _ (by omega)).trans e10
        have e16 : g12 (198) = .inr (8, [.int (cd), .ref (ad 199), .int (nI ln), .ref (ad 200), .int (nI bk), .int (nI bt), .ref (ad 201), .int (nI ck), .int (nI ct), .ref (ad 202), .int (nI cn), .int (nI pk), .ref (ad 203), .ref (ad 204), .int (nI (u.1)), .ref (ad 205), .ref (ad 206), .int (bI (false)), .ref (ad 207)]) := (hk13 _ (by omega)).trans eL7_0
        have e17 : g12 (203) = na ca 9000 (fl u.2.1) := (hk13 _ (by omega)).trans eL7_1
        have e18 : g12 (204) = na ca 120 (u.2.2.1) := (hk13 _ (by omega)).trans eL7_2
        have hs19 : ∀ z, z ≠ 198 ∧ z ≠ 203 ∧ z ≠ 204 ∧ z ≠ 205 → g12 z = g z := fun z hz => (hk13 z (by omega)).trans (hsL7 z hz)
        refine lv_pop C.1 C.2.1 dX8_isFull_19 rfl ?_
        refine lv_aload_n C.1 C.2.1 dX8_isFull_20 rfl (lv_at hl 0 rfl) ?_
        refine lv_iload_n C.1 C.2.1 dX8_isFull_21 rfl (lv_at hl 1 rfl) ?_
        refine k_bip C 11 dX8_isFull_22 (by decide) ?_
        refine k_add C dX8_isFull_24 ?_
        refine k_Vi C F hw (i := 198) (As := [.int (nI (k + 11))]) (rest := []) (c_X8_isAdded hR cd ln bk bt ck ct cn pk u.1 false e16 (onRow (pkR k i t) u.2.2.2) e14 u.2.1 u.2.2.1 e17 e18 hub.1.1 (by_prt (fun c _ => by_pkR k i t c) hub.1.2.1) hub.1.2.2 (by omega) (k + 11) (by omega)) (by omega) e16 rfl (cwV _ C.2.2.2.2 gm_X8_92 rfl rfl rfl cd_X8_isAdded ⟨by decide, by decide⟩) hl.1 rfl (Nat.le_of_ble_eq_true rfl) dX8_isFull_25 ⟨by decide, by decide⟩ (fun r20 g21 H locs hp hw => ?_)
        obtain ⟨hr9, hs22, e23, e24, e25, e26⟩ := hp
        subst hr9
        have e27 : g21 (206) = na ca 255 (pm) := (hs22 _ (by omega)).trans e15
        have hs28 : ∀ z, z ≠ 198 ∧ z ≠ 203 ∧ z ≠ 204 ∧ z ≠ 205 → g21 z = g z := fun z hz => (hs22 z (by omega)).trans (hs19 z hz)
        refine lv_pop C.1 C.2.1 dX8_isFull_28 rfl ?_
        refine k_inc C (i + 1) (lv' := [(3, .int (nI (i + 1))), (0, .ref (ad 198)), (1, .int (nI k)), (2, .int (nI t))]) dX8_isFull_29 hl (k := 3) rfl (inc1 _) (by decide) rfl (fun ls hl => ?_)
        refine lv_goto (tgt := 7) C.1 C.2.1 dX8_isFull_32 (by decide) ?_
        exact ih7 (i + 1) (mPut (k + 11) (pkR k i t) u) g21 H locs ls (by omega) (by omega) (by rw [hu]; rfl) hs28 e23 e24 e25 e26 hw (lv_sub hl [1, 2, 3, 0] rfl)
  exact loop7 _ 0 (mStart pm k (rw, M, pv, ro)) g2 H locs ls (Nat.le_refl _) (by omega) rfl hs9 e4 e5 e6 e7 hw (lv_sub hl [1, 2, 3, 0] rfl)

abbrev rm_X8_turnOf : Room := { frames := 5, cells := 0, slots := 0, locals := 119 }

set_option maxHeartbeats 800000 in
set_option maxRecDepth 100000 in
/-- turnOf -/
theorem c_X8_turnOf {l : Launch} {D : va_G} {ca : Nat → ClassId} {tB tS R : Nat} {ad : Nat → Nat} {g : Nat → va_E} {sz : Nat} (hR : 207 < R) (cd : Int32) (ln bk bt ck ct cn pk rw : Nat) (gt : Bool) (eM : g 198 = .inr (8, [.int (cd), .ref (ad 199), .int (nI ln), .ref (ad 200), .int (nI bk), .int (nI bt), .ref (ad 201), .int (nI ck), .int (nI ct), .ref (ad 202), .int (nI cn), .int (nI pk), .ref (ad 203), .ref (ad 204), .int (nI rw), .ref (ad 205), .ref (ad 206), .int (bI (gt)), .ref (ad 207)])) (ro : Nat → Nat) (q205 : g 205 = na ca 75 ro) (pm : Nat → Nat) (q206 : g 206 = na ca 255 pm) (M : Nat → Nat → Nat) (pv : Nat → Nat) (q203 : g 203 = na ca 9000 (fl M)) (q204 : g 204 = na ca 120 pv) (hM : ∀ r, By (M r)) (hro : By ro) (hpv : ∀ r, pv r < 75) (hpm : PmOk pm) (fb : Nat → Nat → Bool) (hfm : ∀ k t u, 1 ≤ k → k ≤ 48 → t < 1000 → MBy u → decide ((mFullS pm k t u).1 = k + 11) = fb k t) (hT : ∀ k, 1 ≤ k → k ≤ 48 → tnN (fb k) < 1000) (tn : Nat → Int32) (q200 : g 200 = ia ca 49 tn) (k : Nat) (hk : 1 ≤ k ∧ k ≤ 48) (htn : tn k = -1 ∨ tn k = nI (tnN (fb k))) : MI l yX8_turnOf cX8_turnOf 3 .int rm_X8_turnOf D ca tB tS R ad g sz [.ref (ad 198), .int (nI k)] (fun r g1 => r = nI (tnN (fb k)) ∧ (∀ z, z ≠ 198 ∧ z ≠ 203 ∧ z ≠ 204 ∧ z ≠ 205 ∧ z ≠ 200 → g1 z = g z) ∧ ∃ (u : MS) (gt1 : Bool) (tn1 : Nat → Int32), MBy u ∧ g1 198 = .inr (8, [.int (cd), .ref (ad 199), .int (nI ln), .ref (ad 200), .int (nI bk), .int (nI bt), .ref (ad 201), .int (nI ck), .int (nI ct), .ref (ad 202), .int (nI cn), .int (nI pk), .ref (ad 203), .ref (ad 204), .int (nI (u.1)), .ref (ad 205), .ref (ad 206), .int (bI (gt1)), .ref (ad 207)]) ∧ g1 203 = na ca 9000 (fl u.2.1) ∧ g1 204 = na ca 120 u.2.2.1 ∧ g1 205 = na ca 75 u.2.2.2 ∧ g1 200 = ia ca 49 tn1 ∧ tn1 k = nI (tnN (fb k)) ∧ (∀ j, j ≠ k → tn1 j = tn j) ∧ (gt1 = false ∨ (gt1 = gt ∧ u.1 = rw ∧ u.2.1 = M ∧ u.2.2.1 = pv))) := by
  refine m_startI (by decide +kernel) (Nat.le_of_ble_eq_true rfl) (fun p e s m args below meth c ls Q hsz C hl F hw hret => ?_)
  have hl : lv_has ls 3 [(0, .ref (ad 198)), (1, .int (nI k))] := hl
  generalize s.heap = H at hw ⊢
  generalize ([] : List Loc) = locs at hw ⊢
  have hT1 := hT k hk.1 hk.2
  have hTk := tnN_ok hT1
  refine lv_aload_n C.1 C.2.1 dX8_turnOf_0 rfl (lv_at hl 0 rfl) ?_
  refine k_get C F hw (198) (by omega) eM rfl in_X8 3 (by decide) fl_X8_13 rfl dX8_turnOf_1 ?_
  refine lv_iload_n C.1 C.2.1 dX8_turnOf_4 rfl (lv_at hl 1 rfl) ?_
  refine k_ialdR C F hw (200) (by omega) q200 (k) (by omega) (by decide) dX8_turnOf_5 ?_
  refine lv_iconst (v := -1) C.1 C.2.1 dX8_turnOf_6 (by decide) ?_
  refine lv_icmp_ne (tgt := 34) C.1 C.2.1 dX8_turnOf_7 (by decide) (fun hc7 => ?_) (fun hc7 => ?_)
  · refine lv_aload_n C.1 C.2.1 dX8_turnOf_34 rfl (lv_at hl 0 rfl) ?_
    refine k_get C F hw (198) (by omega) eM rfl in_X8 3 (by decide) fl_X8_13 rfl dX8_turnOf_35 ?_
    refine lv_iload_n C.1 C.2.1 dX8_turnOf_38 rfl (lv_at hl 1 rfl) ?_
    refine k_ialdR C F hw (200) (by omega) q200 (k) (by omega) (by decide) dX8_turnOf_39 ?_
    have hk1 : tn k = nI (tnN (fb k)) := htn.resolve_left hc7
    exact hret H locs ls _ _ _ dX8_turnOf_40 hw (⟨hk1, (fun z _ => rfl), (rw, M, pv, ro), gt, tn, ⟨hM, hro, hpv⟩, eM, q203, q204, q205, q200, hk1, fun _ _ => rfl, Or.inr ⟨rfl, rfl, rfl, rfl⟩⟩)
  · refine k_icn C 0 dX8_turnOf_10 (by decide) ?_
    refine lv_istore_n (lv' := [(2, .int (nI 0)), (0, .ref (ad 198)), (1, .int (nI k))]) C.1 C.2.1 dX8_turnOf_11 rfl hl (by decide) rfl (fun ls hl => ?_)
    have loop12 : ∀ (fuel : Nat) (t : Nat) (u : MS) (gt1 : Bool) (gL : Nat → va_E) (H : Heap) (locs : List Loc) (ls : Array Slot), ((tnN (fb k) - t) + 1 ≤ fuel) → (MBy u) → (t ≤ tnN (fb k)) → (∀ z, z < t → fb k z = false) → (∀ z, z ≠ 198 ∧ z ≠ 203 ∧ z ≠ 204 ∧ z ≠ 205 ∧ z ≠ 200 → gL z = g z) → (gL (198) = .inr (8, [.int (cd), .ref (ad 199), .int (nI ln), .ref (ad 200), .int (nI bk), .int (nI bt), .ref (ad 201), .int (nI ck), .int (nI ct), .ref (ad 202), .int (nI cn), .int (nI pk), .ref (ad 203), .ref (ad 204), .int (nI (u.1)), .ref (ad 205), .ref (ad 206), .int (bI (gt1)), .ref (ad 207)])) → (gL (203) = na ca 9000 (fl u.2.1)) → (gL (204) = na ca 120 (u.2.2.1)) → (gL (205) = na ca 75 (u.2.2.2)) → (gL (200) = ia ca 49 (tn)) → Wd D (AA R ad sz) s R ad gL H locs → lv_has ls 3 [(0, .ref (ad 198)), (1, .int (nI k)), (2, .int (nI t))] → W p l e rm_X8_turnOf s m args below meth c H locs 0 0 Q (F0 m 12 ls []) := by
      intro fuel
      induction fuel with
      | zero =>
        intro t u gt1 gL H locs ls hfu12
        exact absurd hfu12 (by omega)
      | succ fuel12 ih12 =>
        intro t u gt1 gL H locs ls hfu12 hub ht htf hsL12 eL12_0 eL12_1 eL12_2 eL12_3 eL12_4 hw hl
        have e1 : gL (206) = na ca 255 (pm) := (hsL12 _ (by omega)).trans q206
        refine lv_aload_n C.1 C.2.1 dX8_turnOf_12 rfl (lv_at hl 0 rfl) ?_
        refine lv_iload_n C.1 C.2.1 dX8_turnOf_13 rfl (lv_at hl 1 rfl) ?_
        refine lv_iload_n C.1 C.2.1 dX8_turnOf_14 rfl (lv_at hl 2 rfl) ?_
        refine k_Vi C F hw (i := 198) (As := [.int (nI k), .int (nI t)]) (rest := []) (c_X8_isFull hR cd ln bk bt ck ct cn pk u.1 gt1 eL12_0 u.2.2.2 eL12_3 pm e1 u.2.1 u.2.2.1 eL12_1 eL12_2 hub.1 hub.2.1 hub.2.2 hpm k t hk (by omega)) (by omega) eL12_0 rfl (cwV _ C.2.2.2.2 gm_X8_103 rfl rfl rfl cd_X8_isFull ⟨by decide, by decide⟩) hl.1 rfl (Nat.le_of_ble_eq_true rfl) dX8_turnOf_15 ⟨by decide, by decide⟩ (fun r2 g3 H locs hp hw => ?_)
        obtain ⟨hr9, hs4, e5, e6, e7, e8⟩ := hp
        subst hr9
        have e9 : g3 (206) = na ca 255 (pm) := (hs4 _ (by omega)).trans e1
        have e10 : g3 (200) = ia ca 49 (tn) := (hs4 _ (by omega)).trans eL12_4
        have hs11 : ∀ z, z ≠ 198 ∧ z ≠ 203 ∧ z ≠ 204 ∧ z ≠ 205 ∧ z ≠ 200 → g3 z = g z := fun z hz => (hs4 z (by omega)).trans (hsL12 z hz)
        refine k_bne (tgt := 27) C dX8_turnOf_18 (by decide) (fun hc18 => ?_) (fun hc18 => ?_)
        · have hfx : fb k t = true := by rw [← hfm k t u hk.1 hk.2 (by omega) hub]; exact hc18
          have htt : tnN (fb k) = t := tnN_eq hfx htf (by omega)
          refine lv_aload_n C.1 C.2.1 dX8_turnOf_27 rfl (lv_at hl 0 rfl) ?_
          refine k_get C F hw (198) (by omega) e5 rfl in_X8 3 (by decide) fl_X8_13 rfl dX8_turnOf_28 ?_
          refine lv_iload_n C.1 C.2.1 dX8_turnOf_31 rfl (lv_at hl 1 rfl) ?_
          refine lv_iload_n C.1 C.2.1 dX8_turnOf_32 rfl (lv_at hl 2 rfl) ?_
          refine k_iastR C F hw (200) (by omega) e10 (k) (nI (t)) (by omega) (by decide) dX8_turnOf_33 (fun H locs hw => ?_)
          have hw : Wd D (AA R ad sz) s R ad (va_up g3 (200) (ia ca 49 (upd tn k (nI (t))))) H locs := hw
          obtain ⟨g12, hg12⟩ : ∃ z, z = va_up g3 (200) (ia ca 49 (upd tn k (nI (t)))) := ⟨_, rfl⟩
          rw [← hg12] at hw
          have hk13 : ∀ z, z ≠ 200 → g12 z = g3 z := fun z hz => by rw [hg12]; exact va_up_ne _ _ hz
          have e14 : g12 (200) = ia ca 49 (upd tn k (nI (t))) := by rw [hg12]; exact va_up_self _ _ _
          have e15 : g12 (206) = na ca 255 (pm) := (hk13 _ (by omega)).trans e9
          have e16 : g12 (198) = .inr (8, [.int (cd), .ref (ad 199), .int (nI ln), .ref (ad 200), .int (nI bk), .int (nI bt), .ref (ad 201), .int (nI ck), .int (nI ct), .ref (ad 202), .int (nI cn), .int (nI pk), .ref (ad 203), .ref (ad 204), .int (nI ((mFullS pm k t (u.1, u.2.1, u.2.2.1, u.2.2.2)).1)), .ref (ad 205), .ref (ad 206), .int (bI (false)), .ref (ad 207)]) := (hk13 _ (by omega)).trans e5
          have e17 : g12 (203) = na ca 9000 (fl (mFullS pm k t (u.1, u.2.1, u.2.2.1, u.2.2.2)).2.1) := (hk13 _ (by omega)).trans e6
          have e18 : g12 (204) = na ca 120 ((mFullS pm k t (u.1, u.2.1, u.2.2.1, u.2.2.2)).2.2.1) := (hk13 _ (by omega)).trans e7
          have e19 : g12 (205) = na ca 75 ((mFullS pm k t (u.1, u.2.1, u.2.2.1, u.2.2.2)).2.2.2) := (hk13 _ (by omega)).trans e8
          have hs20 : ∀ z, z ≠ 198 ∧ z ≠ 203 ∧ z ≠ 204 ∧ z ≠ 205 ∧ z ≠ 200 → g12 z = g z := fun z hz => (hk13 z (by omega)).trans (hs11 z hz)
          refine lv_aload_n C.1 C.2.1 dX8_turnOf_34 rfl (lv_at hl 0 rfl) ?_
          refine k_get C F hw (198) (by omega) e16 rfl in_X8 3 (by decide) fl_X8_13 rfl dX8_turnOf_35 ?_
          refine lv_iload_n C.1 C.2.1 dX8_turnOf_38 rfl (lv_at hl 1 rfl) ?_
          refine k_ialdR C F hw (200) (by omega) e14 (k) (by omega) (by decide) dX8_turnOf_39 ?_
          exact hret H locs ls _ _ _ dX8_turnOf_40 hw (⟨by show upd tn k (nI t) k = _; rw [htt]; exact upd_self, hs20, mFullS pm k t u, false, upd tn k (nI (t)), mFullS_by hpm hk.2 hub, e16, e17, e18, e19, e14, by rw [htt]; exact upd_self, fun j hj => upd_ne hj, Or.inl rfl⟩)
        · have hfx : fb k t = false := by rw [← hfm k t u hk.1 hk.2 (by omega) hub]; exact hc18
          have hne : t ≠ tnN (fb k) := fun h => by rw [h, hTk] at hfx; cases hfx
          refine k_inc C (t + 1) (lv' := [(2, .int (nI (t + 1))), (0, .ref (ad 198)), (1, .int (nI k))]) dX8_turnOf_21 hl (k := 2) rfl (inc1 _) (by decide) rfl (fun ls hl => ?_)
          refine lv_goto (tgt := 12) C.1 C.2.1 dX8_turnOf_24 (by decide) ?_
          exact ih12 (t + 1) (mFullS pm k t u) false g3 H locs ls (by omega) (mFullS_by hpm hk.2 hub) (by omega) (fun z hz => by by_cases h : z = t; (rw [h]; exact hfx); exact htf z (by omega)) hs11 e5 e6 e7 e8 e10 hw (lv_sub hl [1, 2, 0] rfl)
    exact loop12 _ 0 (rw, M, pv, ro) gt g H locs ls (Nat.le_refl _) (⟨hM, hro, hpv⟩) (Nat.zero_le _) (fun z h => absurd h (Nat.not_lt_zero _)) (fun z _ => rfl) eM q203 q204 q205 q200 hw (lv_sub hl [1, 2, 0] rfl)
