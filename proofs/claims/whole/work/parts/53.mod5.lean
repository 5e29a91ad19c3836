/-! ===== FountainDeskModel: gather, isKnown, summed ===== -/
noncomputable def gaS (pm : Nat → Nat) (ck cn : Nat) (CG : Nat → Nat → Nat) (gt : Bool) (u : MS) : MS := if gt = true then u else mLines (ck + 11) CG cn (mStart pm ck u)
theorem gaS_t {pm : Nat → Nat} {ck cn : Nat} {CG : Nat → Nat → Nat} {gt : Bool} {u : MS} (h : gt = true) : gaS pm ck cn CG gt u = u := if_pos h
theorem gaS_f {pm : Nat → Nat} {ck cn : Nat} {CG : Nat → Nat → Nat} {gt : Bool} {u : MS} (h : gt = false) : gaS pm ck cn CG gt u = mLines (ck + 11) CG cn (mStart pm ck u) := if_neg (by rw [h]; decide)
/-- the model's inner rows -/
def fi (B : Nat → Nat → Nat) : Nat → Nat := fun j => B (j / 16) (j % 16)
theorem fi_at {B : Nat → Nat → Nat} {r c : Nat} (h : c < 16) : fi B (16 * r + c) = B r c := by
  unfold fi
  rw [show (16 * r + c) / 16 = r by omega, show (16 * r + c) % 16 = c by omega]
theorem fi_up {B : Nat → Nat → Nat} {r c x : Nat} (h : c < 16) : va_up (fi B) (16 * r + c) x = fi (va_up B r (va_up (B r) c x)) := by
  funext j
  unfold fi
  by_cases hj : j = 16 * r + c
  · rw [hj, va_up_self, show (16 * r + c) / 16 = r by omega, show (16 * r + c) % 16 = c by omega, va_up_self, va_up_self]
  · rw [va_up_ne _ _ hj]
    by_cases hr : j / 16 = r
    · rw [hr, va_up_self, va_up_ne _ _ (by omega)]
    · rw [va_up_ne _ _ hr]
def smN (B : Nat → Nat → Nat) (Rw : Nat → Nat) (i : Nat) (n : Nat) : Nat := fr (fun c v => v ^^^ (if Rw c = 1 then B c i else 0)) n 0
theorem smN_t {B : Nat → Nat → Nat} {Rw : Nat → Nat} {i n : Nat} (h : Rw n = 1) : smN B Rw i (n + 1) = smN B Rw i n ^^^ B n i := by unfold smN; rw [fr_s, if_pos h]
theorem smN_f {B : Nat → Nat → Nat} {Rw : Nat → Nat} {i n : Nat} (h : Rw n ≠ 1) : smN B Rw i (n + 1) = smN B Rw i n ^^^ 0 := by unfold smN; rw [fr_s, if_neg h]
theorem smN_lt {B : Nat → Nat → Nat} {Rw : Nat → Nat} {i : Nat} (h : ∀ p, By (B p)) : ∀ n, smN B Rw i n < 256
  | 0 => by show 0 < 256; decide
  | n + 1 => by
    unfold smN
    rw [fr_s]
    refine xlt (smN_lt h n) ?_
    split
    · exact h _ _
    · decide
theorem smN_congr {B : Nat → Nat → Nat} {Rw Rw' : Nat → Nat} {i : Nat} : ∀ n, (∀ c, c < n → Rw c = Rw' c) → smN B Rw i n = smN B Rw' i n
  | 0, _ => rfl
  | n + 1, h => by
    have := smN_congr (B := B) (i := i) n (fun c hc => h c (by omega))
    unfold smN at this ⊢
    rw [fr_s, fr_s, this, h n (by omega)]
theorem onRow_at {V ro : Nat → Nat} {c : Nat} (h : c < 75) : onRow V ro c = V c := if_pos h
theorem onRow_on (V X ro : Nat → Nat) : onRow (onRow V X) ro = onRow V ro := by
  funext c
  unfold onRow
  split <;> rfl

abbrev rm_X8_summed : Room := { frames := 0, cells := 0, slots := 0, locals := 0 }

set_option maxHeartbeats 800000 in
set_option maxRecDepth 100000 in
/-- summed -/
theorem c_X8_summed {l : Launch} {D : va_G} {ca : Nat → ClassId} {tB tS R : Nat} {ad : Nat → Nat} {g : Nat → va_E} {sz : Nat} (hR : 207 < R) (cd : Int32) (ln bk bt ck ct cn pk rw : Nat) (gt : Bool) (eM : g 198 = .inr (8, [.int (cd), .ref (ad 199), .int (nI ln), .ref (ad 200), .int (nI bk), .int (nI bt), .ref (ad 201), .int (nI ck), .int (nI ct), .ref (ad 202), .int (nI cn), .int (nI pk), .ref (ad 203), .ref (ad 204), .int (nI rw), .ref (ad 205), .ref (ad 206), .int (bI (gt)), .ref (ad 207)])) (ro : Nat → Nat) (q205 : g 205 = na ca 75 ro) (hro : By ro) (IN : Nat → Nat → Nat) (q201 : g 201 = na ca 944 (fi IN)) (hbk : bk ≤ 48) (i : Nat) (hi : i < 16) : MI l yX8_summed cX8_summed 4 .int rm_X8_summed D ca tB tS R ad g sz [.ref (ad 198), .int (nI i)] (fun r g1 => r = nI (smN IN ro i (bk + 11)) ∧ g1 = g) := by
  refine m_startI (by decide +kernel) (Nat.le_of_ble_eq_true rfl) (fun p e s m args below meth c ls Q hsz C hl F hw hret => ?_)
  have hl : lv_has ls 4 [(0, .ref (ad 198)), (1, .int (nI i))] := hl
  generalize s.heap = H at hw ⊢
  generalize ([] : List Loc) = locs at hw ⊢
  refine k_icn C 0 dX8_summed_0 (by decide) ?_
  refine lv_istore_n (lv' := [(2, .int (nI 0)), (0, .ref (ad 198)), (1, .int (nI i))]) C.1 C.2.1 dX8_summed_1 rfl hl (by decide) rfl (fun ls hl => ?_)
  refine k_icn C 0 dX8_summed_2 (by decide) ?_
  refine lv_istore_n (lv' := [(3, .int (nI 0)), (2, .int (nI 0)), (0, .ref (ad 198)), (1, .int (nI i))]) C.1 C.2.1 dX8_summed_3 rfl hl (by decide) rfl (fun ls hl => ?_)
  have loop4 : ∀ (fuel : Nat) (j : Nat) (v : Nat) (gL : Nat → va_E) (H : Heap) (locs : List Loc) (ls : Array Slot), ((bk + 11 - j) + 1 ≤ fuel) → (j ≤ bk + 11) → (v = smN IN ro i j) → (∀ z, True → gL z = g z) → Wd D (AA R ad sz) s R ad gL H locs → lv_has ls 4 [(0, .ref (ad 198)), (1, .int (nI i)), (2, .int (nI v)), (3, .int (nI j))] → W p l e rm_X8_summed s m args below meth c H locs 0 0 Q (F0 m 4 ls []) := by
    intro fuel
    induction fuel with
    | zero =>
      intro j v gL H locs ls hfu4
      exact absurd hfu4 (by omega)
    | succ fuel4 ih4 =>
      intro j v gL H locs ls hfu4 hj hv hsL4  hw hl
      have e1 : gL (198) = .inr (8, [.int (cd), .ref (ad 199), .int (nI ln), .ref (ad 200), .int (nI bk), .int (nI bt), .ref (ad 201), .int (nI ck), .int (nI ct), .ref (ad 202), .int (nI cn), .int (nI pk), .ref (ad 203), .ref (ad 204), .int (nI rw), .ref (ad 205), .ref (ad 206), .int (bI (gt)), .ref (ad 207)]) := (hsL4 _ trivial).trans eM
      have e2 : gL (205) = na ca 75 (ro) := (hsL4 _ trivial).trans q205
      have e3 : gL (201) = na ca 944 (fi IN) := (hsL4 _ trivial).trans q201
      refine lv_iload_n C.1 C.2.1 dX8_summed_4 rfl (lv_at hl 3 rfl) ?_
      refine lv_aload_n C.1 C.2.1 dX8_summed_5 rfl (lv_at hl 0 rfl) ?_
      refine k_get C F hw (198) (by omega) e1 rfl in_X8 4 (by decide) fl_X8_116 rfl dX8_summed_6 ?_
      refine k_bip C 11 dX8_summed_9 (by decide) ?_
      refine k_add C dX8_summed_11 ?_
      refine k_ige (tgt := 49) C dX8_summed_12 (by decide) (by omega) (by omega) (fun hc12 => ?_) (fun hc12 => ?_)
      · refine lv_iload_n C.1 C.2.1 dX8_summed_49 rfl (lv_at hl 2 rfl) ?_
        exact hret H locs ls _ _ _ dX8_summed_50 hw (⟨by rw [hv, show j = bk + 11 by omega], funext (fun z => hsL4 z trivial)⟩)
      · refine lv_iload_n C.1 C.2.1 dX8_summed_15 rfl (lv_at hl 2 rfl) ?_
        refine lv_aload_n C.1 C.2.1 dX8_summed_16 rfl (lv_at hl 0 rfl) ?_
        refine k_get C F hw (198) (by omega) e1 rfl in_X8 15 (by decide) fl_X8_29 rfl dX8_summed_17 ?_
        refine lv_iload_n C.1 C.2.1 dX8_summed_20 rfl (lv_at hl 3 rfl) ?_
        refine k_iald C F hw (205) (by omega) e2 (j) (by omega) (by decide) dX8_summed_21 ?_
        have hrj := hro j
        refine k_icn C 1 dX8_summed_22 (by decide) ?_
        refine k_ine (tgt := 40) C dX8_summed_23 (by decide) (by omega) (by omega) (fun hc23 => ?_) (fun hc23 => ?_)
        · refine k_icn C 0 dX8_summed_40 (by decide) ?_
          refine k_xor C dX8_summed_41 ?_
          refine lv_istore_n (lv' := [(2, .int (nI (v ^^^ 0))), (0, .ref (ad 198)), (1, .int (nI i)), (3, .int (nI j))]) C.1 C.2.1 dX8_summed_42 rfl hl (by decide) rfl (fun ls hl => ?_)
          refine k_inc C (j + 1) (lv' := [(3, .int (nI (j + 1))), (2, .int (nI (v ^^^ 0))), (0, .ref (ad 198)), (1, .int (nI i))]) dX8_summed_43 hl (k := 3) rfl (inc1 _) (by decide) rfl (fun ls hl => ?_)
          refine lv_goto (tgt := 4) C.1 C.2.1 dX8_summed_46 (by decide) ?_
          exact ih4 (j + 1) (v ^^^ 0) gL H locs ls (by omega) (by omega) (by rw [hv]; exact (smN_f hc23).symm) hsL4  hw (lv_sub hl [2, 3, 1, 0] rfl)
        · have hc23 : ro j = 1 := by omega
          refine lv_aload_n C.1 C.2.1 dX8_summed_26 rfl (lv_at hl 0 rfl) ?_
          refine k_get C F hw (198) (by omega) e1 rfl in_X8 6 (by decide) fl_X8_17 rfl dX8_summed_27 ?_
          refine k_bip C 16 dX8_summed_30 (by decide) ?_
          refine lv_iload_n C.1 C.2.1 dX8_summed_32 rfl (lv_at hl 3 rfl) ?_
          refine k_mul C dX8_summed_33 ?_
          refine lv_iload_n C.1 C.2.1 dX8_summed_34 rfl (lv_at hl 1 rfl) ?_
          refine k_add C dX8_summed_35 ?_
          refine k_iald C F hw (201) (by omega) e3 ((16 * j) + i) (by omega) (by decide) dX8_summed_36 ?_
          refine k_ti (x' := nI (IN j i)) (by rw [fi_at hi]) ?_
          refine lv_goto (tgt := 41) C.1 C.2.1 dX8_summed_37 (by decide) ?_
          refine k_xor C dX8_summed_41 ?_
          refine lv_istore_n (lv' := [(2, .int (nI (v ^^^ (IN j i)))), (0, .ref (ad 198)), (1, .int (nI i)), (3, .int (nI j))]) C.1 C.2.1 dX8_summed_42 rfl hl (by decide) rfl (fun ls hl => ?_)
          refine k_inc C (j + 1) (lv' := [(3, .int (nI (j + 1))), (2, .int (nI (v ^^^ (IN j i)))), (0, .ref (ad 198)), (1, .int (nI i))]) dX8_summed_43 hl (k := 3) rfl (inc1 _) (by decide) rfl (fun ls hl => ?_)
          refine lv_goto (tgt := 4) C.1 C.2.1 dX8_summed_46 (by decide) ?_
          exact ih4 (j + 1) (v ^^^ (IN j i)) gL H locs ls (by omega) (by omega) (by rw [hv]; exact (smN_t hc23).symm) hsL4  hw (lv_sub hl [2, 3, 1, 0] rfl)
  exact loop4 _ 0 0 g H locs ls (Nat.le_refl _) (by omega) rfl (fun z _ => rfl)  hw (lv_sub hl [2, 3, 1, 0] rfl)

abbrev rm_X8_isSame : Room := { frames := 0, cells := 0, slots := 0, locals := 0 }

set_option maxHeartbeats 800000 in
set_option maxRecDepth 100000 in
/-- isSame -/
theorem c_X8_isSame {l : Launch} {D : va_G} {ca : Nat → ClassId} {tB tS R : Nat} {ad : Nat → Nat} {g : Nat → va_E} {sz : Nat} (hR : 207 < R) (cd : Int32) (ln bk bt ck ct cn pk rw : Nat) (gt : Bool) (eM : g 198 = .inr (8, [.int (cd), .ref (ad 199), .int (nI ln), .ref (ad 200), .int (nI bk), .int (nI bt), .ref (ad 201), .int (nI ck), .int (nI ct), .ref (ad 202), .int (nI cn), .int (nI pk), .ref (ad 203), .ref (ad 204), .int (nI rw), .ref (ad 205), .ref (ad 206), .int (bI (gt)), .ref (ad 207)])) (hb : bk < 100 ∧ bt < 100 ∧ ck < 100 ∧ ct < 100) : MI l yX8_isSame cX8_isSame 1 .boolean rm_X8_isSame D ca tB tS R ad g sz [.ref (ad 198)] (fun r g1 => r = bI (decide (bk ≠ 0 ∧ bk = ck ∧ bt = ct)) ∧ g1 = g) := by
  refine m_startZ (by decide +kernel) (Nat.le_of_ble_eq_true rfl) (fun p e s m args below meth c ls Q hsz C hl F hw hret => ?_)
  have hl : lv_has ls 1 [(0, .ref (ad 198))] := hl
  generalize s.heap = H at hw ⊢
  generalize ([] : List Loc) = locs at hw ⊢
  refine lv_aload_n C.1 C.2.1 dX8_isSame_0 rfl (lv_at hl 0 rfl) ?_
  refine k_get C F hw (198) (by omega) eM rfl in_X8 4 (by decide) fl_X8_116 rfl dX8_isSame_1 ?_
  refine k_zle (tgt := 40) C dX8_isSame_4 (by decide) (by omega) (fun hc4 => ?_) (fun hc4 => ?_)
  · refine k_icn C 0 dX8_isSame_40 (by decide) ?_
    exact hret H locs ls _ false _ _ dX8_isSame_41 hw (by rfl) (⟨by rw [show decide (bk ≠ 0 ∧ bk = ck ∧ bt = ct) = false from decide_eq_false (by omega)], rfl⟩)
  · refine lv_aload_n C.1 C.2.1 dX8_isSame_7 rfl (lv_at hl 0 rfl) ?_
    refine k_get C F hw (198) (by omega) eM rfl in_X8 7 (by decide) fl_X8_129 rfl dX8_isSame_8 ?_
    refine k_zle (tgt := 40) C dX8_isSame_11 (by decide) (by omega) (fun hc11 => ?_) (fun hc11 => ?_)
    · refine k_icn C 0 dX8_isSame_40 (by decide) ?_
      exact hret H locs ls _ false _ _ dX8_isSame_41 hw (by rfl) (⟨by rw [show decide (bk ≠ 0 ∧ bk = ck ∧ bt = ct) = false from decide_eq_false (by omega)], rfl⟩)
    · refine lv_aload_n C.1 C.2.1 dX8_isSame_14 rfl (lv_at hl 0 rfl) ?_
      refine k_get C F hw (198) (by omega) eM rfl in_X8 4 (by decide) fl_X8_116 rfl dX8_isSame_15 ?_
      refine lv_aload_n C.1 C.2.1 dX8_isSame_18 rfl (lv_at hl 0 rfl) ?_
      refine k_get C F hw (198) (by omega) eM rfl in_X8 7 (by decide) fl_X8_129 rfl dX8_isSame_19 ?_
      refine k_ine (tgt := 40) C dX8_isSame_22 (by decide) (by omega) (by omega) (fun hc22 => ?_) (fun hc22 => ?_)
      · refine k_icn C 0 dX8_isSame_40 (by decide) ?_
        exact hret H locs ls _ false _ _ dX8_isSame_41 hw (by rfl) (⟨by rw [show decide (bk ≠ 0 ∧ bk = ck ∧ bt = ct) = false from decide_eq_false (by omega)], rfl⟩)
      · refine lv_aload_n C.1 C.2.1 dX8_isSame_25 rfl (lv_at hl 0 rfl) ?_
        refine k_get C F hw (198) (by omega) eM rfl in_X8 5 (by decide) fl_X8_119 rfl dX8_isSame_26 ?_
        refine lv_aload_n C.1 C.2.1 dX8_isSame_29 rfl (lv_at hl 0 rfl) ?_
        refine k_get C F hw (198) (by omega) eM rfl in_X8 8 (by decide) fl_X8_132 rfl dX8_isSame_30 ?_
        refine k_ine (tgt := 40) C dX8_isSame_33 (by decide) (by omega) (by omega) (fun hc33 => ?_) (fun hc33 => ?_)
        · refine k_icn C 0 dX8_isSame_40 (by decide) ?_
          exact hret H locs ls _ false _ _ dX8_isSame_41 hw (by rfl) (⟨by rw [show decide (bk ≠ 0 ∧ bk = ck ∧ bt = ct) = false from decide_eq_false (by omega)], rfl⟩)
        · refine k_icn C 1 dX8_isSame_36 (by decide) ?_
          refine lv_goto (tgt := 41) C.1 C.2.1 dX8_isSame_37 (by decide) ?_
          exact hret H locs ls _ true _ _ dX8_isSame_41 hw (by rfl) (⟨by rw [show decide (bk ≠ 0 ∧ bk = ck ∧ bt = ct) = true from decide_eq_true (by omega)], rfl⟩)

abbrev rm_X8_gather : Room := { frames := 4, cells := 0, slots := 0, locals := 96 }

set_option maxHeartbeats 800000 in
set_option maxRecDepth 100000 in
/-- gather -/
theorem c_X8_gather {l : Launch} {D : va_G} {ca : Nat → ClassId} {tB tS R : Nat} {ad : Nat → Nat} {g : Nat → va_E} {sz : Nat} (hR : 207 < R) (cd : Int32) (ln bk bt ck ct cn pk rw : Nat) (gt : Bool) (eM : g 198 = .inr (8, [.int (cd), .ref (ad 199), .int (nI ln), .ref (ad 200), .int (nI bk), .int (nI bt), .ref (ad 201), .int (nI ck), .int (nI ct), .ref (ad 202), .int (nI cn), .int (nI pk), .ref (ad 203), .ref (ad 204), .int (nI rw), .ref (ad 205), .ref (ad 206), .int (bI (gt)), .ref (ad 207)])) (ro : Nat → Nat) (q205 : g 205 = na ca 75 ro) (pm : Nat → Nat) (q206 : g 206 = na ca 255 pm) (M : Nat → Nat → Nat) (pv : Nat → Nat) (q203 : g 203 = na ca 9000 (fl M)) (q204 : g 204 = na ca 120 pv) (hM : ∀ r, By (M r)) (hro : By ro) (hpv : ∀ r, pv r < 75) (hpm : PmOk pm) (CG : Nat → Nat → Nat) (q202 : g 202 = na ca 4425 (fl CG)) (hCG : ∀ r, By (CG r)) (hck : 1 ≤ ck ∧ ck ≤ 48) (hcn : cn ≤ 58) : MV l yX8_gather cX8_gather 3 rm_X8_gather D ca tB tS R ad g sz [.ref (ad 198)] (fun g1 => (∀ z, z ≠ 198 ∧ z ≠ 203 ∧ z ≠ 204 ∧ z ≠ 205 → g1 z = g z) ∧ g1 198 = .inr (8, [.int (cd), .ref (ad 199), .int (nI ln), .ref (ad 200), .int (nI bk), .int (nI bt), .ref (ad 201), .int (nI ck), .int (nI ct), .ref (ad 202), .int (nI cn), .int (nI pk), .ref (ad 203), .ref (ad 204), .int (nI ((gaS pm ck cn CG gt (rw, M, pv, ro)).1)), .ref (ad 205), .ref (ad 206), .int (bI (true)), .ref (ad 207)]) ∧ g1 203 = na ca 9000 (fl (gaS pm ck cn CG gt (rw, M, pv, ro)).2.1) ∧ g1 204 = na ca 120 (gaS pm ck cn CG gt (rw, M, pv, ro)).2.2.1 ∧ g1 205 = na ca 75 (gaS pm ck cn CG gt (rw, M, pv, ro)).2.2.2) := by
  refine m_startV (by decide +kernel) (Nat.le_of_ble_eq_true rfl) (fun p e s m args below meth c ls Q hsz C hnm hl F hw hret => ?_)
  have hl : lv_has ls 3 [(0, .ref (ad 198))] := hl
  generalize s.heap = H at hw ⊢
  generalize ([] : List Loc) = locs at hw ⊢
  refine lv_aload_n C.1 C.2.1 dX8_gather_0 rfl (lv_at hl 0 rfl) ?_
  refine k_get C F hw (198) (by omega) eM rfl in_X8 17 (by decide) fl_X8_84 rfl dX8_gather_1 ?_
  refine k_beq (tgt := 8) C dX8_gather_4 (by decide) (fun hc4 => ?_) (fun hc4 => ?_)
  · have hst := mStart_by (u := (rw, M, pv, ro)) (k := ck) hpm (by omega) ⟨hM, hro, hpv⟩
    refine lv_aload_n C.1 C.2.1 dX8_gather_8 rfl (lv_at hl 0 rfl) ?_
    refine lv_aload_n C.1 C.2.1 dX8_gather_9 rfl (lv_at hl 0 rfl) ?_
    refine k_get C F hw (198) (by omega) eM rfl in_X8 7 (by decide) fl_X8_129 rfl dX8_gather_10 ?_
    refine k_Vv C F hw (i := 198) (As := [.int (nI ck)]) (rest := []) (c_X8_start hR cd ln bk bt ck ct cn pk rw gt eM ro q205 pm q206 M pv q203 q204 hM hro hpv hpm ck hck) (by omega) eM rfl (cwV _ C.2.2.2.2 gm_X8_95 rfl rfl rfl cd_X8_start ⟨by decide, by decide⟩) hl.1 rfl (Nat.le_of_ble_eq_true rfl) dX8_gather_13 ⟨by decide, by decide⟩ (fun g2 H locs hp hw => ?_)
    obtain ⟨hs3, e4, e5, e6, e7⟩ := hp
    have e8 : g2 (206) = na ca 255 (pm) := (hs3 _ (by omega)).trans q206
    have e9 : g2 (202) = na ca 4425 (fl CG) := (hs3 _ (by omega)).trans q202
    have hs10 : ∀ z, z ≠ 198 ∧ z ≠ 203 ∧ z ≠ 204 ∧ z ≠ 205 → g2 z = g z := fun z hz => hs3 z (by omega)
    refine k_icn C 0 dX8_gather_16 (by decide) ?_
    refine lv_istore_n (lv' := [(1, .int (nI 0)), (0, .ref (ad 198))]) C.1 C.2.1 dX8_gather_17 rfl hl (by decide) rfl (fun ls hl => ?_)
    have loop18 : ∀ (fuel : Nat) (i : Nat) (u : MS) (gL : Nat → va_E) (H : Heap) (locs : List Loc) (ls : Array Slot), ((cn - i) + 1 ≤ fuel) → (i ≤ cn) → (u = mLines (ck + 11) CG i (mStart pm ck (rw, M, pv, ro))) → (∀ z, z ≠ 198 ∧ z ≠ 203 ∧ z ≠ 204 ∧ z ≠ 205 → gL z = g z) → (gL (198) = .inr (8, [.int (cd), .ref (ad 199), .int (nI ln), .ref (ad 200), .int (nI bk), .int (nI bt), .ref (ad 201), .int (nI ck), .int (nI ct), .ref (ad 202), .int (nI cn), .int (nI pk), .ref (ad 203), .ref (ad 204), .int (nI (u.1)), .ref (ad 205), .ref (ad 206), .int (bI (false)), .ref (ad 207)])) → (gL (203) = na ca 9000 (fl u.2.1)) → (gL (204) = na ca 120 (u.2.2.1)) → (gL (205) = na ca 75 (u.2.2.2)) → Wd D (AA R ad sz) s R ad gL H locs → lv_has ls 3 [(0, .ref (ad 198)), (1, .int (nI i))] → W p l e rm_X8_gather s m args below meth c H locs 0 0 Q (F0 m 18 ls []) := by
      intro fuel
      induction fuel with
      | zero =>
        intro i u gL H locs ls hfu18
        exact absurd hfu18 (by omega)
      | succ fuel18 ih18 =>
        intro i u gL H locs ls hfu18 hi hu hsL18 eL18_0 eL18_1 eL18_2 eL18_3 hw hl
        have e11 : gL (206) = na ca 255 (pm) := (hsL18 _ (by omega)).trans q206
        have e12 : gL (202) = na ca 4425 (fl CG) := (hsL18 _ (by omega)).trans q202
        have hub := mLines_by (L := ck + 11) (V := CG) (by omega) hst.1 i (fun i _ => hCG i)
        rw [← hu] at hub
        have hub2 : u.1 ≤ 11 + i := Nat.le_trans hub.2 (by omega)
        refine lv_iload_n C.1 C.2.1 dX8_gather_18 rfl (lv_at hl 1 rfl) ?_
        refine lv_aload_n C.1 C.2.1 dX8_gather_19 rfl (lv_at hl 0 rfl) ?_
        refine k_get C F hw (198) (by omega) eL18_0 rfl in_X8 10 (by decide) fl_X8_135 rfl dX8_gather_20 ?_
        refine k_ige (tgt := 75) C dX8_gather_23 (by decide) (by omega) (by omega) (fun hc23 => ?_) (fun hc23 => ?_)
        · refine lv_aload_n C.1 C.2.1 dX8_gather_75 rfl (lv_at hl 0 rfl) ?_
          refine k_icn C 1 dX8_gather_76 (by decide) ?_
          refine k_put C F hw (198) (by omega) eL18_0 rfl in_X8 tyX8_ok nmX8 17 (by decide) fl_X8_84 rfl (v := .int (bI (true))) (bI_narrow _) rfl (Nat.le_of_ble_eq_true rfl) dX8_gather_77 (fun H locs hw => ?_)
          have hw : Wd D (AA R ad sz) s R ad (va_up gL (198) (.inr (8, [.int (cd), .ref (ad 199), .int (nI ln), .ref (ad 200), .int (nI bk), .int (nI bt), .ref (ad 201), .int (nI ck), .int (nI ct), .ref (ad 202), .int (nI cn), .int (nI pk), .ref (ad 203), .ref (ad 204), .int (nI (u.1)), .ref (ad 205), .ref (ad 206), .int (bI (true)), .ref (ad 207)]))) H locs := hw
          obtain ⟨g13, hg13⟩ : ∃ z, z = va_up gL (198) (.inr (8, [.int (cd), .ref (ad 199), .int (nI ln), .ref (ad 200), .int (nI bk), .int (nI bt), .ref (ad 201), .int (nI ck), .int (nI ct), .ref (ad 202), .int (nI cn), .int (nI pk), .ref (ad 203), .ref (ad 204), .int (nI (u.1)), .ref (ad 205), .ref (ad 206), .int (bI (true)), .ref (ad 207)])) := ⟨_, rfl⟩
          rw [← hg13] at hw
          have hk14 : ∀ z, z ≠ 198 → g13 z = gL z := fun z hz => by rw [hg13]; exact va_up_ne _ _ hz
          have e15 : g13 (198) = .inr (8, [.int (cd), .ref (ad 199), .int (nI ln), .ref (ad 200), .int (nI bk), .int (nI bt), .ref (ad 201), .int (nI ck), .int (nI ct), .ref (ad 202), .int (nI cn), .int (nI pk), .ref (ad 203), .ref (ad 204), .int (nI (u.1)), .ref (ad 205), .ref (ad 206), .int (bI (true)), .ref (ad 207)]) := by rw [hg13]; exact va_up_self _ _ _
          have e16 : g13 (206) = na ca 255 (pm) := (hk14 _ (by omega)).trans e11
          have e17 : g13 (202) = na ca 4425 (fl CG) := (hk14 _ (by omega)).trans e12
          have e18 : g13 (203) = na ca 9000 (fl u.2.1) := (hk14 _ (by omega)).trans eL18_1
          have e19 : g13 (204) = na ca 120 (u.2.2.1) := (hk14 _ (by omega)).trans eL18_2
          have e20 : g13 (205) = na ca 75 (u.2.2.2) := (hk14 _ (by omega)).trans eL18_3
          have hs21 : ∀ z, z ≠ 198 ∧ z ≠ 203 ∧ z ≠ 204 ∧ z ≠ 205 → g13 z = g z := fun z hz => (hk14 z (by omega)).trans (hsL18 z hz)
          have hfin : (gaS pm ck cn CG gt (rw, M, pv, ro)) = u := by rw [gaS_f hc4, hu, show i = cn by omega]
          exact hret H locs ls _ _ dX8_gather_80 hw (by rw [hfin]; exact ⟨hs21, e15, e18, e19, e20⟩)
        · refine k_icn C 0 dX8_gather_26 (by decide) ?_
          refine lv_istore_n (lv' := [(2, .int (nI 0)), (0, .ref (ad 198)), (1, .int (nI i))]) C.1 C.2.1 dX8_gather_27 rfl hl (by decide) rfl (fun ls hl => ?_)
          have loop28 : ∀ (fuel : Nat) (j : Nat) (f1 : Nat → Nat) (gL : Nat → va_E) (H : Heap) (locs : List Loc) (ls : Array Slot), ((75 - j) + 1 ≤ fuel) → (j ≤ 75) → (f1 = prt j (CG i) u.2.2.2) → (∀ z, z ≠ 198 ∧ z ≠ 203 ∧ z ≠ 204 ∧ z ≠ 205 → gL z = g z) → (gL (198) = .inr (8, [.int (cd), .ref (ad 199), .int (nI ln), .ref (ad 200), .int (nI bk), .int (nI bt), .ref (ad 201), .int (nI ck), .int (nI ct), .ref (ad 202), .int (nI cn), .int (nI pk), .ref (ad 203), .ref (ad 204), .int (nI (u.1)), .ref (ad 205), .ref (ad 206), .int (bI (false)), .ref (ad 207)])) → (gL (203) = na ca 9000 (fl u.2.1)) → (gL (204) = na ca 120 (u.2.2.1)) → (gL (205) = na ca 75 (f1)) → Wd D (AA R ad sz) s R ad gL H locs → lv_has ls 3 [(0, .ref (ad 198)), (1, .int (nI i)), (2, .int (nI j))] → W p l e rm_X8_gather s m args below meth c H locs 0 0 Q (F0 m 28 ls []) := by
            intro fuel
            induction fuel with
            | zero =>
              intro j f1 gL H locs ls hfu28
              exact absurd hfu28 (by omega)
            | succ fuel28 ih28 =>
              intro j f1 gL H locs ls hfu28 hj hf1 hsL28 eL28_0 eL28_1 eL28_2 eL28_3 hw hl
              have e22 : gL (206) = na ca 255 (pm) := (hsL28 _ (by omega)).trans q206
              have e23 : gL (202) = na ca 4425 (fl CG) := (hsL28 _ (by omega)).trans q202
              refine lv_iload_n C.1 C.2.1 dX8_gather_28 rfl (lv_at hl 2 rfl) ?_
              refine k_bip C 75 dX8_gather_29 (by decide) ?_
              refine k_ige (tgt := 57) C dX8_gather_31 (by decide) (by omega) (by omega) (fun hc31 => ?_) (fun hc31 => ?_)
              · have e24 : gL (205) = na ca 75 (onRow (CG i) u.2.2.2) := by rw [eL28_3, hf1, show j = 75 by omega, onRow_prt]
                refine lv_aload_n C.1 C.2.1 dX8_gather_57 rfl (lv_at hl 0 rfl) ?_
                refine lv_aload_n C.1 C.2.1 dX8_gather_58 rfl (lv_at hl 0 rfl) ?_
                refine k_get C F hw (198) (by omega) eL28_0 rfl in_X8 7 (by decide) fl_X8_129 rfl dX8_gather_59 ?_
                refine k_bip C 11 dX8_gather_62 (by decide) ?_
                refine k_add C dX8_gather_64 ?_
                refine k_Vi C F hw (i := 198) (As := [.int (nI (ck + 11))]) (rest := []) (c_X8_isAdded hR cd ln bk bt ck ct cn pk u.1 false eL28_0 (onRow (CG i) u.2.2.2) e24 u.2.1 u.2.2.1 eL28_1 eL28_2 hub.1.1 (by_prt (fun c _ => hCG i c) hub.1.2.1) hub.1.2.2 (by omega) (ck + 11) (by omega)) (by omega) eL28_0 rfl (cwV _ C.2.2.2.2 gm_X8_92 rfl rfl rfl cd_X8_isAdded ⟨by decide, by decide⟩) hl.1 rfl (Nat.le_of_ble_eq_true rfl) dX8_gather_65 ⟨by decide, by decide⟩ (fun r25 g26 H locs hp hw => ?_)
                obtain ⟨hr9, hs27, e28, e29, e30, e31⟩ := hp
                subst hr9
                have e32 : g26 (206) = na ca 255 (pm) := (hs27 _ (by omega)).trans e22
                have e33 : g26 (202) = na ca 4425 (fl CG) := (hs27 _ (by omega)).trans e23
                have hs34 : ∀ z, z ≠ 198 ∧ z ≠ 203 ∧ z ≠ 204 ∧ z ≠ 205 → g26 z = g z := fun z hz => (hs27 z (by omega)).trans (hsL28 z hz)
                refine lv_pop C.1 C.2.1 dX8_gather_68 rfl ?_
                refine k_inc C (i + 1) (lv' := [(1, .int (nI (i + 1))), (0, .ref (ad 198)), (2, .int (nI j))]) dX8_gather_69 hl (k := 1) rfl (inc1 _) (by decide) rfl (fun ls hl => ?_)
                refine lv_goto (tgt := 18) C.1 C.2.1 dX8_gather_72 (by decide) ?_
                exact ih18 (i + 1) (mPut (ck + 11) (CG i) u) g26 H locs ls (by omega) (by omega) (by rw [hu]; rfl) hs34 e28 e29 e30 e31 hw (lv_sub hl [1, 0] rfl)
              · refine lv_aload_n C.1 C.2.1 dX8_gather_34 rfl (lv_at hl 0 rfl) ?_
                refine k_get C F hw (198) (by omega) eL28_0 rfl in_X8 15 (by decide) fl_X8_29 rfl dX8_gather_35 ?_
                refine lv_iload_n C.1 C.2.1 dX8_gather_38 rfl (lv_at hl 2 rfl) ?_
                refine lv_aload_n C.1 C.2.1 dX8_gather_39 rfl (lv_at hl 0 rfl) ?_
                refine k_get C F hw (198) (by omega) eL28_0 rfl in_X8 9 (by decide) fl_X8_20 rfl dX8_gather_40 ?_
                refine k_bip C 75 dX8_gather_43 (by decide) ?_
                refine lv_iload_n C.1 C.2.1 dX8_gather_45 rfl (lv_at hl 1 rfl) ?_
                refine k_mul C dX8_gather_46 ?_
                refine lv_iload_n C.1 C.2.1 dX8_gather_47 rfl (lv_at hl 2 rfl) ?_
                refine k_add C dX8_gather_48 ?_
                refine k_iald C F hw (202) (by omega) e23 ((75 * i) + j) (by omega) (by decide) dX8_gather_49 ?_
                refine k_ti (x' := nI (CG i j)) (by rw [fl_at (by omega)]) ?_
                refine k_iast C F hw (205) (by omega) eL28_3 (j) (CG i j) (by omega) (by decide) dX8_gather_50 (fun H locs hw => ?_)
                have hw : Wd D (AA R ad sz) s R ad (va_up gL (205) (na ca 75 (va_up f1 j (CG i j)))) H locs := hw
                obtain ⟨g35, hg35⟩ : ∃ z, z = va_up gL (205) (na ca 75 (va_up f1 j (CG i j))) := ⟨_, rfl⟩
                rw [← hg35] at hw
                have hk36 : ∀ z, z ≠ 205 → g35 z = gL z := fun z hz => by rw [hg35]; exact va_up_ne _ _ hz
                have e37 : g35 (205) = na ca 75 (va_up f1 j (CG i j)) := by rw [hg35]; exact va_up_self _ _ _
                have e38 : g35 (206) = na ca 255 (pm) := (hk36 _ (by omega)).trans e22
                have e39 : g35 (202) = na ca 4425 (fl CG) := (hk36 _ (by omega)).trans e23
                have e40 : g35 (198) = .inr (8, [.int (cd), .ref (ad 199), .int (nI ln), .ref (ad 200), .int (nI bk), .int (nI bt), .ref (ad 201), .int (nI ck), .int (nI ct), .ref (ad 202), .int (nI cn), .int (nI pk), .ref (ad 203), .ref (ad 204), .int (nI (u.1)), .ref (ad 205), .ref (ad 206), .int (bI (false)), .ref (ad 207)]) := (hk36 _ (by omega)).trans eL28_0
                have e41 : g35 (203) = na ca 9000 (fl u.2.1) := (hk36 _ (by omega)).trans eL28_1
                have e42 : g35 (204) = na ca 120 (u.2.2.1) := (hk36 _ (by omega)).trans eL28_2
                have hs43 : ∀ z, z ≠ 198 ∧ z ≠ 203 ∧ z ≠ 204 ∧ z ≠ 205 → g35 z = g z := fun z hz => (hk36 z (by omega)).trans (hsL28 z hz)
                refine k_inc C (j + 1) (lv' := [(2, .int (nI (j + 1))), (0, .ref (ad 198)), (1, .int (nI i))]) dX8_gather_51 hl (k := 2) rfl (inc1 _) (by decide) rfl (fun ls hl => ?_)
                refine lv_goto (tgt := 28) C.1 C.2.1 dX8_gather_54 (by decide) ?_
                exact ih28 (j + 1) (va_up f1 j (CG i j)) g35 H locs ls (by omega) (by omega) (by rw [hf1]; exact prt_s j (CG i) u.2.2.2) hs43 e40 e41 e42 e37 hw (lv_sub hl [1, 2, 0] rfl)
          exact loop28 _ 0 u.2.2.2 gL H locs ls (Nat.le_refl _) (by omega) ((prt_0 _ _).symm) hsL18 eL18_0 eL18_1 eL18_2 eL18_3 hw (lv_sub hl [1, 2, 0] rfl)
    exact loop18 _ 0 (mStart pm ck (rw, M, pv, ro)) g2 H locs ls (Nat.le_refl _) (by omega) rfl hs10 e4 e5 e6 e7 hw (lv_sub hl [1, 0] rfl)
  · have hgt : gt = true := hc4
    exact hret H locs ls _ _ dX8_gather_7 hw (by rw [gaS_t hgt]; exact ⟨(fun z _ => rfl), by rw [eM, hgt], q203, q204, q205⟩)
