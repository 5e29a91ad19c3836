/-! ===== constructors ===== -/
set_option maxRecDepth 20000 in
theorem lo_X7 : Cond.methodLink RX7 3 Lib.objectInit ∈ GW := gw_in 54 (by rfl) rfl
set_option maxRecDepth 20000 in
theorem lo_X3 : Cond.methodLink RX3 1 Lib.objectInit ∈ GW := gw_in 62 (by rfl) rfl
set_option maxRecDepth 20000 in
theorem lo_X5 : Cond.methodLink RX5 1 Lib.objectInit ∈ GW := gw_in 76 (by rfl) rfl
set_option maxRecDepth 20000 in
theorem lo_X4 : Cond.methodLink RX4 3 Lib.objectInit ∈ GW := gw_in 91 (by rfl) rfl
set_option maxRecDepth 20000 in
theorem lo_X2 : Cond.methodLink RX2 3 Lib.objectInit ∈ GW := gw_in 109 (by rfl) rfl
set_option maxRecDepth 20000 in
theorem lo_X6 : Cond.methodLink RX6 3 Lib.objectInit ∈ GW := gw_in 144 (by rfl) rfl
set_option maxRecDepth 20000 in
theorem lo_X0 : Cond.methodLink RX0 3 Lib.objectInit ∈ GW := gw_in 163 (by rfl) rfl
set_option maxRecDepth 20000 in
theorem lo_X1 : Cond.methodLink RX1 3 Lib.objectInit ∈ GW := gw_in 186 (by rfl) rfl
set_option maxRecDepth 20000 in
theorem lo_X8 : Cond.methodLink RX8 1 Lib.objectInit ∈ GW := gw_in 635 (by rfl) rfl
theorem df_X7 : ∀ j, j < 7 → defaultValue (tyX7 j) = vp_V [.null, .null, .null, .null, .null, .null, .null] j := by
  intro j hj
  match j, hj with
  | 0, _ => rfl
  | 1, _ => rfl
  | 2, _ => rfl
  | 3, _ => rfl
  | 4, _ => rfl
  | 5, _ => rfl
  | 6, _ => rfl
theorem df_X3 : ∀ j, j < 2 → defaultValue (tyX3 j) = vp_V [.null, .null] j := by
  intro j hj
  match j, hj with
  | 0, _ => rfl
  | 1, _ => rfl
theorem df_X5 : ∀ j, j < 2 → defaultValue (tyX5 j) = vp_V [.null, .int (nI 0)] j := by
  intro j hj
  match j, hj with
  | 0, _ => rfl
  | 1, _ => rfl
theorem df_X4 : ∀ j, j < 2 → defaultValue (tyX4 j) = vp_V [.null, .int (nI 0)] j := by
  intro j hj
  match j, hj with
  | 0, _ => rfl
  | 1, _ => rfl
theorem df_X2 : ∀ j, j < 7 → defaultValue (tyX2 j) = vp_V [.null, .null, .null, .null, .int (nI 0), .int (nI 0), .int (nI 0)] j := by
  intro j hj
  match j, hj with
  | 0, _ => rfl
  | 1, _ => rfl
  | 2, _ => rfl
  | 3, _ => rfl
  | 4, _ => rfl
  | 5, _ => rfl
  | 6, _ => rfl
theorem df_X6 : ∀ j, j < 3 → defaultValue (tyX6 j) = vp_V [.null, .null, .null] j := by
  intro j hj
  match j, hj with
  | 0, _ => rfl
  | 1, _ => rfl
  | 2, _ => rfl
theorem df_X0 : ∀ j, j < 4 → defaultValue (tyX0 j) = vp_V [.null, .int (nI 0), .int (nI 0), .int (nI 0)] j := by
  intro j hj
  match j, hj with
  | 0, _ => rfl
  | 1, _ => rfl
  | 2, _ => rfl
  | 3, _ => rfl
theorem df_X1 : ∀ j, j < 5 → defaultValue (tyX1 j) = vp_V [.null, .int (nI 0), .int (nI 0), .int (nI 0), .int (nI 0)] j := by
  intro j hj
  match j, hj with
  | 0, _ => rfl
  | 1, _ => rfl
  | 2, _ => rfl
  | 3, _ => rfl
  | 4, _ => rfl
theorem df_X8 : ∀ j, j < 19 → defaultValue (tyX8 j) = vp_V [.int (nI 0), .null, .int (nI 0), .null, .int (nI 0), .int (nI 0), .null, .int (nI 0), .int (nI 0), .null, .int (nI 0), .int (nI 0), .null, .null, .int (nI 0), .null, .null, .int (bI (false)), .null] j := by
  intro j hj
  match j, hj with
  | 0, _ => rfl
  | 1, _ => rfl
  | 2, _ => rfl
  | 3, _ => rfl
  | 4, _ => rfl
  | 5, _ => rfl
  | 6, _ => rfl
  | 7, _ => rfl
  | 8, _ => rfl
  | 9, _ => rfl
  | 10, _ => rfl
  | 11, _ => rfl
  | 12, _ => rfl
  | 13, _ => rfl
  | 14, _ => rfl
  | 15, _ => rfl
  | 16, _ => rfl
  | 17, _ => rfl
  | 18, _ => rfl
  | j + 19, h => exact absurd h (by omega)
theorem qa_keep {ca : Nat → ClassId} {N b : Nat} {ad ad1 : Nat → Nat} (h : ∀ i, i < N → ad1 (b + i) = ad (b + i)) : qa ca N (fun i => if i < N then some (ad (b + i)) else none) = qa ca N (fun i => if i < N then some (ad1 (b + i)) else none) := by
  congr 5
  funext i
  by_cases hi : i < N
  · rw [if_pos hi, if_pos hi, h i hi]
  · rw [if_neg hi, if_neg hi]

abbrev rm_X5_init : Room := { frames := 1, cells := 1, slots := 800, locals := 40 }

set_option maxHeartbeats 800000 in
set_option maxRecDepth 100000 in
/-- X5_init -/
theorem c_X5_init {l : Launch} {D : va_G} {ca : Nat → ClassId} {tB tS : Nat} {ad : Nat → Nat} {g : Nat → va_E} {sz : Nat} (e4 : g 4 = .inr (5, [.null, .int (nI 0)])) : MN l yX5_init cX5_init 1 rm_X5_init D ca tB tS 5 6 ad g sz [.ref (ad 4)] 1 800 (fun ad1 g1 => (∀ i, i < 5 → ad1 i = ad i) ∧ (∀ i, i < 5 ∧ i ≠ 4 → g1 i = g i) ∧ TpAt ca ad1 g1 0 (fun _ => 0)) := by
  refine m_startN (by decide +kernel) (Nat.le_of_ble_eq_true rfl) (fun p e s m args below meth c ls Q hsz C hnm hl F hAO hw hret => ?_)
  have hl : lv_has ls 1 [(0, .ref (ad 4))] := hl
  generalize s.heap = H at hw ⊢
  generalize ([] : List Loc) = locs at hw ⊢
  refine lv_aload_n C.1 C.2.1 dX5_init_0 rfl (lv_at hl 0 rfl) ?_
  refine k_obj C lo_X5 hl.1 (Nat.le_of_ble_eq_true rfl) dX5_init_1 (Nat.le_of_ble_eq_true rfl) (Nat.le_of_ble_eq_true rfl) ?_
  refine lv_aload_n C.1 C.2.1 dX5_init_4 rfl (lv_at hl 0 rfl) ?_
  refine k_sip C 800 dX5_init_5 (by decide) ?_
  refine k_newI C F hw 800 (by decide) (Nat.le_of_ble_eq_true rfl) (Nat.le_of_ble_eq_true rfl) dX5_init_8 (fun ad1 g1 H hk1 hg1 eN1 hw => ?_)
  rw [← hk1 4 (by decide)]
  rw [← hk1 4 (by decide)] at hl
  have e2 : g1 4 = .inr (5, [.null, .int (nI 0)]) := (hg1 4 (by decide)).trans e4
  have hka3 : ∀ i, i < 5 → ad1 i = ad i := fun i hi => hk1 i hi
  have hs4 : ∀ z, (z < 5 ∧ z ≠ 4) → g1 z = g z := fun z hz => (hg1 z (by omega)).trans ((fun z _ => rfl) z hz)
  have hw : Wd D (AA 5 ad sz) s 6 ad1 g1 H locs := hw
  refine k_putF C F hw (4) (by omega) e2 rfl in_X5 tyX5_ok nmX5 hnm 0 (by decide) rfl fl_X5_9 rfl (v := .ref (ad1 5)) rfl rfl (Nat.le_of_ble_eq_true rfl) dX5_init_10 (fun H locs hw => ?_)
  have hw : Wd D (AA 5 ad sz) s 6 ad1 (va_up g1 (4) (.inr (5, [.ref (ad1 5), .int (nI 0)]))) H locs := hw
  obtain ⟨g5, hg5⟩ : ∃ z, z = va_up g1 (4) (.inr (5, [.ref (ad1 5), .int (nI 0)])) := ⟨_, rfl⟩
  rw [← hg5] at hw
  have hk6 : ∀ z, z ≠ 4 → g5 z = g1 z := fun z hz => by rw [hg5]; exact va_up_ne _ _ hz
  have e7 : g5 (4) = .inr (5, [.ref (ad1 5), .int (nI 0)]) := by rw [hg5]; exact va_up_self _ _ _
  have e8 : g5 (5) = na ca 800 (fun _ => 0) := (hk6 _ (by omega)).trans eN1
  have hs9 : ∀ z, (z < 5 ∧ z ≠ 4) → g5 z = g z := fun z hz => (hk6 z (by omega)).trans (hs4 z hz)
  refine lv_aload_n C.1 C.2.1 dX5_init_13 rfl (lv_at hl 0 rfl) ?_
  refine k_icn C 0 dX5_init_14 (by decide) ?_
  refine k_put C F hw (4) (by omega) e7 rfl in_X5 tyX5_ok nmX5 1 (by decide) fl_X5_13 rfl (v := .int (nI 0)) rfl rfl (Nat.le_of_ble_eq_true rfl) dX5_init_15 (fun H locs hw => ?_)
  have hw : Wd D (AA 5 ad sz) s 6 ad1 (va_up g5 (4) (.inr (5, [.ref (ad1 5), .int (nI 0)]))) H locs := hw
  obtain ⟨g10, hg10⟩ : ∃ z, z = va_up g5 (4) (.inr (5, [.ref (ad1 5), .int (nI 0)])) := ⟨_, rfl⟩
  rw [← hg10] at hw
  have hk11 : ∀ z, z ≠ 4 → g10 z = g5 z := fun z hz => by rw [hg10]; exact va_up_ne _ _ hz
  have e12 : g10 (4) = .inr (5, [.ref (ad1 5), .int (nI 0)]) := by rw [hg10]; exact va_up_self _ _ _
  have e13 : g10 (5) = na ca 800 (fun _ => 0) := (hk11 _ (by omega)).trans e8
  have hs14 : ∀ z, (z < 5 ∧ z ≠ 4) → g10 z = g z := fun z hz => (hk11 z (by omega)).trans (hs9 z hz)
  exact hret H locs ls _ _ _ dX5_init_18 hw (⟨hka3, hs14, e12, e13⟩)

abbrev rm_X4_init : Room := { frames := 1, cells := 1, slots := 59, locals := 40 }

set_option maxHeartbeats 800000 in
set_option maxRecDepth 100000 in
/-- X4_init -/
theorem c_X4_init {l : Launch} {D : va_G} {ca : Nat → ClassId} {tB tS : Nat} {ad : Nat → Nat} {g : Nat → va_E} {sz : Nat} (e6 : g 6 = .inr (4, [.null, .int (nI 0)])) : MN l yX4_init cX4_init 1 rm_X4_init D ca tB tS 7 8 ad g sz [.ref (ad 6)] 1 59 (fun ad1 g1 => (∀ i, i < 7 → ad1 i = ad i) ∧ (∀ i, i < 7 ∧ i ≠ 6 → g1 i = g i) ∧ PkAt ca ad1 g1 6 0 (fun _ => 0)) := by
  refine m_startN (by decide +kernel) (Nat.le_of_ble_eq_true rfl) (fun p e s m args below meth c ls Q hsz C hnm hl F hAO hw hret => ?_)
  have hl : lv_has ls 1 [(0, .ref (ad 6))] := hl
  generalize s.heap = H at hw ⊢
  generalize ([] : List Loc) = locs at hw ⊢
  refine lv_aload_n C.1 C.2.1 dX4_init_0 rfl (lv_at hl 0 rfl) ?_
  refine k_obj C lo_X4 hl.1 (Nat.le_of_ble_eq_true rfl) dX4_init_1 (Nat.le_of_ble_eq_true rfl) (Nat.le_of_ble_eq_true rfl) ?_
  refine lv_aload_n C.1 C.2.1 dX4_init_4 rfl (lv_at hl 0 rfl) ?_
  refine k_bip C 59 dX4_init_5 (by decide) ?_
  refine k_newI C F hw 59 (by decide) (Nat.le_of_ble_eq_true rfl) (Nat.le_of_ble_eq_true rfl) dX4_init_7 (fun ad1 g1 H hk1 hg1 eN1 hw => ?_)
  rw [← hk1 6 (by decide)]
  rw [← hk1 6 (by decide)] at hl
  have e2 : g1 6 = .inr (4, [.null, .int (nI 0)]) := (hg1 6 (by decide)).trans e6
  have hka3 : ∀ i, i < 7 → ad1 i = ad i := fun i hi => hk1 i hi
  have hs4 : ∀ z, (z < 7 ∧ z ≠ 6) → g1 z = g z := fun z hz => (hg1 z (by omega)).trans ((fun z _ => rfl) z hz)
  have hw : Wd D (AA 7 ad sz) s 8 ad1 g1 H locs := hw
  refine k_putF C F hw (6) (by omega) e2 rfl in_X4 tyX4_ok nmX4 hnm 0 (by decide) rfl fl_X4_9 rfl (v := .ref (ad1 7)) rfl rfl (Nat.le_of_ble_eq_true rfl) dX4_init_9 (fun H locs hw => ?_)
  have hw : Wd D (AA 7 ad sz) s 8 ad1 (va_up g1 (6) (.inr (4, [.ref (ad1 7), .int (nI 0)]))) H locs := hw
  obtain ⟨g5, hg5⟩ : ∃ z, z = va_up g1 (6) (.inr (4, [.ref (ad1 7), .int (nI 0)])) := ⟨_, rfl⟩
  rw [← hg5] at hw
  have hk6 : ∀ z, z ≠ 6 → g5 z = g1 z := fun z hz => by rw [hg5]; exact va_up_ne _ _ hz
  have e7 : g5 (6) = .inr (4, [.ref (ad1 7), .int (nI 0)]) := by rw [hg5]; exact va_up_self _ _ _
  have e8 : g5 (7) = na ca 59 (fun _ => 0) := (hk6 _ (by omega)).trans eN1
  have hs9 : ∀ z, (z < 7 ∧ z ≠ 6) → g5 z = g z := fun z hz => (hk6 z (by omega)).trans (hs4 z hz)
  refine lv_aload_n C.1 C.2.1 dX4_init_12 rfl (lv_at hl 0 rfl) ?_
  refine k_icn C 0 dX4_init_13 (by decide) ?_
  refine k_put C F hw (6) (by omega) e7 rfl in_X4 tyX4_ok nmX4 1 (by decide) fl_X4_15 rfl (v := .int (nI 0)) rfl rfl (Nat.le_of_ble_eq_true rfl) dX4_init_14 (fun H locs hw => ?_)
  have hw : Wd D (AA 7 ad sz) s 8 ad1 (va_up g5 (6) (.inr (4, [.ref (ad1 7), .int (nI 0)]))) H locs := hw
  obtain ⟨g10, hg10⟩ : ∃ z, z = va_up g5 (6) (.inr (4, [.ref (ad1 7), .int (nI 0)])) := ⟨_, rfl⟩
  rw [← hg10] at hw
  have hk11 : ∀ z, z ≠ 6 → g10 z = g5 z := fun z hz => by rw [hg10]; exact va_up_ne _ _ hz
  have e12 : g10 (6) = .inr (4, [.ref (ad1 7), .int (nI 0)]) := by rw [hg10]; exact va_up_self _ _ _
  have e13 : g10 (7) = na ca 59 (fun _ => 0) := (hk11 _ (by omega)).trans e8
  have hs14 : ∀ z, (z < 7 ∧ z ≠ 6) → g10 z = g z := fun z hz => (hk11 z (by omega)).trans (hs9 z hz)
  exact hret H locs ls _ _ _ dX4_init_17 hw (⟨hka3, hs14, e12, e13⟩)

abbrev rm_X2_init_8 : Room := { frames := 1, cells := 62, slots := 4618, locals := 40 }

set_option maxHeartbeats 800000 in
set_option maxRecDepth 100000 in
/-- X2_init_8 -/
theorem c_X2_init_8 {l : Launch} {D : va_G} {ca : Nat → ClassId} {tB tS : Nat} {ad : Nat → Nat} {g : Nat → va_E} {sz : Nat} (e0 : g 8 = .inr (2, [.null, .null, .null, .null, .int (nI 0), .int (nI 0), .int (nI 0)])) : MN l yX2_init cX2_init 2 rm_X2_init_8 D ca tB tS 9 71 ad g sz [.ref (ad 8), .ref (ad 1)] 62 4618 (fun ad1 g1 => (∀ i, i < 9 → ad1 i = ad i) ∧ (∀ i, i < 9 ∧ i ≠ 8 → g1 i = g i) ∧ EqAt ca ad1 g1 8 1 0 0 0 (fun _ _ => 0) (fun _ => false) (fun _ => 0)) := by
  refine m_startN (by decide +kernel) (Nat.le_of_ble_eq_true rfl) (fun p e s m args below meth c ls Q hsz C hnm hl F hAO hw hret => ?_)
  have hl : lv_has ls 2 [(0, .ref (ad 8)), (1, .ref (ad 1))] := hl
  generalize s.heap = H at hw ⊢
  generalize ([] : List Loc) = locs at hw ⊢
  refine lv_aload_n C.1 C.2.1 dX2_init_0 rfl (lv_at hl 0 rfl) ?_
  refine k_obj C lo_X2 hl.1 (Nat.le_of_ble_eq_true rfl) dX2_init_1 (Nat.le_of_ble_eq_true rfl) (Nat.le_of_ble_eq_true rfl) ?_
  refine lv_aload_n C.1 C.2.1 dX2_init_4 rfl (lv_at hl 0 rfl) ?_
  refine lv_aload_n C.1 C.2.1 dX2_init_5 rfl (lv_at hl 1 rfl) ?_
  refine k_putF C F hw (8) (by omega) e0 rfl in_X2 tyX2_ok nmX2 hnm 0 (by decide) rfl fl_X2_9 rfl (v := .ref (ad 1)) rfl rfl (Nat.le_of_ble_eq_true rfl) dX2_init_6 (fun H locs hw => ?_)
  have hw : Wd D (AA 9 ad sz) s 9 ad (va_up g (8) (.inr (2, [.ref (ad 1), .null, .null, .null, .int (nI 0), .int (nI 0), .int (nI 0)]))) H locs := hw
  obtain ⟨g1, hg1⟩ : ∃ z, z = va_up g (8) (.inr (2, [.ref (ad 1), .null, .null, .null, .int (nI 0), .int (nI 0), .int (nI 0)])) := ⟨_, rfl⟩
  rw [← hg1] at hw
  have hk2 : ∀ z, z ≠ 8 → g1 z = g z := fun z hz => by rw [hg1]; exact va_up_ne _ _ hz
  have e3 : g1 (8) = .inr (2, [.ref (ad 1), .null, .null, .null, .int (nI 0), .int (nI 0), .int (nI 0)]) := by rw [hg1]; exact va_up_self _ _ _
  have hs4 : ∀ z, (z < 9 ∧ z ≠ 8) → g1 z = g z := fun z hz => hk2 z (by omega)
  refine lv_aload_n C.1 C.2.1 dX2_init_9 rfl (lv_at hl 0 rfl) ?_
  refine k_bip C 59 dX2_init_10 (by decide) ?_
  refine k_bip C 75 dX2_init_12 (by decide) ?_
  refine k_mna C F hAO hw kl_X2_15 59 75 (by decide) (by decide) (Nat.le_of_ble_eq_true rfl) (Nat.le_of_ble_eq_true rfl) dX2_init_14 (fun ad5 g5 H hk5 hg5 eN5 hR5 hw => ?_)
  rw [← hk5 8 (by decide)]
  rw [← hk5 1 (by decide)] at hl
  rw [← hk5 8 (by decide)] at hl
  have e6 : g5 8 = .inr (2, [.ref (ad5 1), .null, .null, .null, .int (nI 0), .int (nI 0), .int (nI 0)]) := by rw [hg5 8 (by decide), e3, hk5 1 (by decide)]
  have hka7 : ∀ i, i < 9 → ad5 i = ad i := fun i hi => hk5 i hi
  have hs8 : ∀ z, (z < 9 ∧ z ≠ 8) → g5 z = g z := fun z hz => (hg5 z (by omega)).trans (hs4 z hz)
  have hw : Wd D (AA 9 ad sz) s 69 ad5 g5 H locs := hw
  refine k_putF C F hw (8) (by omega) e6 rfl in_X2 tyX2_ok nmX2 hnm 1 (by decide) rfl fl_X2_17 rfl (v := .ref (ad5 9)) rfl rfl (Nat.le_of_ble_eq_true rfl) dX2_init_18 (fun H locs hw => ?_)
  have hw : Wd D (AA 9 ad sz) s 69 ad5 (va_up g5 (8) (.inr (2, [.ref (ad5 1), .ref (ad5 9), .null, .null, .int (nI 0), .int (nI 0), .int (nI 0)]))) H locs := hw
  obtain ⟨g9, hg9⟩ : ∃ z, z = va_up g5 (8) (.inr (2, [.ref (ad5 1), .ref (ad5 9), .null, .null, .int (nI 0), .int (nI 0), .int (nI 0)])) := ⟨_, rfl⟩
  rw [← hg9] at hw
  have hk10 : ∀ z, z ≠ 8 → g9 z = g5 z := fun z hz => by rw [hg9]; exact va_up_ne _ _ hz
  have e11 : g9 (8) = .inr (2, [.ref (ad5 1), .ref (ad5 9), .null, .null, .int (nI 0), .int (nI 0), .int (nI 0)]) := by rw [hg9]; exact va_up_self _ _ _
  have e12 : g9 (9) = qa ca 59 (fun i => if i < 59 then some (ad5 (9 + 1 + i)) else none) := (hk10 _ (by omega)).trans eN5
  have hr13 : ∀ p9, p9 < 59 → g9 (9 + 1 + p9) = na ca 75 ((fun _ _ => 0) p9) := fun p9 hp9 => (hk10 _ (by omega)).trans (hR5 p9 hp9)
  have hs14 : ∀ z, (z < 9 ∧ z ≠ 8) → g9 z = g z := fun z hz => (hk10 z (by omega)).trans (hs8 z hz)
  refine lv_aload_n C.1 C.2.1 dX2_init_21 rfl (lv_at hl 0 rfl) ?_
  refine k_bip C 59 dX2_init_22 (by decide) ?_
  refine k_newZ C F hw 59 (by decide) (Nat.le_of_ble_eq_true rfl) (Nat.le_of_ble_eq_true rfl) dX2_init_24 (fun ad15 g15 H hk15 hg15 eN15 hw => ?_)
  rw [← hk15 8 (by decide)]
  rw [← hk15 1 (by decide)] at hl
  rw [← hk15 8 (by decide)] at hl
  have e16 : g15 8 = .inr (2, [.ref (ad15 1), .ref (ad15 9), .null, .null, .int (nI 0), .int (nI 0), .int (nI 0)]) := by rw [hg15 8 (by decide), e11, hk15 1 (by decide), hk15 9 (by decide)]
  have e17 : g15 9 = qa ca 59 (fun i => if i < 59 then some (ad15 (9 + 1 + i)) else none) := by rw [hg15 9 (by decide), e12]; exact qa_keep (fun i hi => hk15 _ (by omega))
  have hr18 : ∀ p9, p9 < 59 → g15 (9 + 1 + p9) = na ca 75 ((fun _ _ => 0) p9) := fun p9 hp9 => (hg15 _ (by omega)).trans (hr13 p9 hp9)
  have hka19 : ∀ i, i < 9 → ad15 i = ad i := fun i hi => (hk15 i (by omega)).trans (hka7 i hi)
  have hs20 : ∀ z, (z < 9 ∧ z ≠ 8) → g15 z = g z := fun z hz => (hg15 z (by omega)).trans (hs14 z hz)
  have hw : Wd D (AA 9 ad sz) s 70 ad15 g15 H locs := hw
  refine k_putF C F hw (8) (by omega) e16 rfl in_X2 tyX2_ok nmX2 hnm 2 (by decide) rfl fl_X2_20 rfl (v := .ref (ad15 69)) rfl rfl (Nat.le_of_ble_eq_true rfl) dX2_init_26 (fun H locs hw => ?_)
  have hw : Wd D (AA 9 ad sz) s 70 ad15 (va_up g15 (8) (.inr (2, [.ref (ad15 1), .ref (ad15 9), .ref (ad15 69), .null, .int (nI 0), .int (nI 0), .int (nI 0)]))) H locs := hw
  obtain ⟨g21, hg21⟩ : ∃ z, z = va_up g15 (8) (.inr (2, [.ref (ad15 1), .ref (ad15 9), .ref (ad15 69), .null, .int (nI 0), .int (nI 0), .int (nI 0)])) := ⟨_, rfl⟩
  rw [← hg21] at hw
  have hk22 : ∀ z, z ≠ 8 → g21 z = g15 z := fun z hz => by rw [hg21]; exact va_up_ne _ _ hz
  have e23 : g21 (8) = .inr (2, [.ref (ad15 1), .ref (ad15 9), .ref (ad15 69), .null, .int (nI 0), .int (nI 0), .int (nI 0)]) := by rw [hg21]; exact va_up_self _ _ _
  have e24 : g21 (9) = qa ca 59 (fun i => if i < 59 then some (ad15 (9 + 1 + i)) else none) := (hk22 _ (by omega)).trans e17
  have e25 : g21 (69) = za ca 59 (fun _ => false) := (hk22 _ (by omega)).trans eN15
  have hr26 : ∀ p9, p9 < 59 → g21 (9 + 1 + p9) = na ca 75 ((fun _ _ => 0) p9) := fun p9 hp9 => (hk22 _ (by omega)).trans (hr18 p9 hp9)
  have hs27 : ∀ z, (z < 9 ∧ z ≠ 8) → g21 z = g z := fun z hz => (hk22 z (by omega)).trans (hs20 z hz)
  refine lv_aload_n C.1 C.2.1 dX2_init_29 rfl (lv_at hl 0 rfl) ?_
  refine k_bip C 75 dX2_init_30 (by decide) ?_
  refine k_newI C F hw 75 (by decide) (Nat.le_of_ble_eq_true rfl) (Nat.le_of_ble_eq_true rfl) dX2_init_32 (fun ad28 g28 H hk28 hg28 eN28 hw => ?_)
  rw [← hk28 8 (by decide)]
  rw [← hk28 1 (by decide)] at hl
  rw [← hk28 8 (by decide)] at hl
  have e29 : g28 8 = .inr (2, [.ref (ad28 1), .ref (ad28 9), .ref (ad28 69), .null, .int (nI 0), .int (nI 0), .int (nI 0)]) := by rw [hg28 8 (by decide), e23, hk28 1 (by decide), hk28 9 (by decide), hk28 69 (by decide)]
  have e30 : g28 9 = qa ca 59 (fun i => if i < 59 then some (ad28 (9 + 1 + i)) else none) := by rw [hg28 9 (by decide), e24]; exact qa_keep (fun i hi => hk28 _ (by omega))
  have e31 : g28 69 = za ca 59 (fun _ => false) := (hg28 69 (by decide)).trans e25
  have hr32 : ∀ p9, p9 < 59 → g28 (9 + 1 + p9) = na ca 75 ((fun _ _ => 0) p9) := fun p9 hp9 => (hg28 _ (by omega)).trans (hr26 p9 hp9)
  have hka33 : ∀ i, i < 9 → ad28 i = ad i := fun i hi => (hk28 i (by omega)).trans (hka19 i hi)
  have hs34 : ∀ z, (z < 9 ∧ z ≠ 8) → g28 z = g z := fun z hz => (hg28 z (by omega)).trans (hs27 z hz)
  have hw : Wd D (AA 9 ad sz) s 71 ad28 g28 H locs := hw
  refine k_putF C F hw (8) (by omega) e29 rfl in_X2 tyX2_ok nmX2 hnm 3 (by decide) rfl fl_X2_24 rfl (v := .ref (ad28 70)) rfl rfl (Nat.le_of_ble_eq_true rfl) dX2_init_34 (fun H locs hw => ?_)
  have hw : Wd D (AA 9 ad sz) s 71 ad28 (va_up g28 (8) (.inr (2, [.ref (ad28 1), .ref (ad28 9), .ref (ad28 69), .ref (ad28 70), .int (nI 0), .int (nI 0), .int (nI 0)]))) H locs := hw
  obtain ⟨g35, hg35⟩ : ∃ z, z = va_up g28 (8) (.inr (2, [.ref (ad28 1), .ref (ad28 9), .ref (ad28 69), .ref (ad28 70), .int (nI 0), .int (nI 0), .int (nI 0)])) := ⟨_, rfl⟩
  rw [← hg35] at hw
  have hk36 : ∀ z, z ≠ 8 → g35 z = g28 z := fun z hz => by rw [hg35]; exact va_up_ne _ _ hz
  have e37 : g35 (8) = .inr (2, [.ref (ad28 1), .ref (ad28 9), .ref (ad28 69), .ref (ad28 70), .int (nI 0), .int (nI 0), .int (nI 0)]) := by rw [hg35]; exact va_up_self _ _ _
  have e38 : g35 (9) = qa ca 59 (fun i => if i < 59 then some (ad28 (9 + 1 + i)) else none) := (hk36 _ (by omega)).trans e30
  have e39 : g35 (69) = za ca 59 (fun _ => false) := (hk36 _ (by omega)).trans e31
  have e40 : g35 (70) = na ca 75 (fun _ => 0) := (hk36 _ (by omega)).trans eN28
  have hr41 : ∀ p9, p9 < 59 → g35 (9 + 1 + p9) = na ca 75 ((fun _ _ => 0) p9) := fun p9 hp9 => (hk36 _ (by omega)).trans (hr32 p9 hp9)
  have hs42 : ∀ z, (z < 9 ∧ z ≠ 8) → g35 z = g z := fun z hz => (hk36 z (by omega)).trans (hs34 z hz)
  refine lv_aload_n C.1 C.2.1 dX2_init_37 rfl (lv_at hl 0 rfl) ?_
  refine k_icn C 0 dX2_init_38 (by decide) ?_
  refine k_put C F hw (8) (by omega) e37 rfl in_X2 tyX2_ok nmX2 4 (by decide) fl_X2_28 rfl (v := .int (nI 0)) rfl rfl (Nat.le_of_ble_eq_true rfl) dX2_init_39 (fun H locs hw => ?_)
  have hw : Wd D (AA 9 ad sz) s 71 ad28 (va_up g35 (8) (.inr (2, [.ref (ad28 1), .ref (ad28 9), .ref (ad28 69), .ref (ad28 70), .int (nI 0), .int (nI 0), .int (nI 0)]))) H locs := hw
  obtain ⟨g43, hg43⟩ : ∃ z, z = va_up g35 (8) (.inr (2, [.ref (ad28 1), .ref (ad28 9), .ref (ad28 69), .ref (ad28 70), .int (nI 0), .int (nI 0), .int (nI 0)])) := ⟨_, rfl⟩
  rw [← hg43] at hw
  have hk44 : ∀ z, z ≠ 8 → g43 z = g35 z := fun z hz => by rw [hg43]; exact va_up_ne _ _ hz
  have e45 : g43 (8) = .inr (2, [.ref (ad28 1), .ref (ad28 9), .ref (ad28 69), .ref (ad28 70), .int (nI 0), .int (nI 0), .int (nI 0)]) := by rw [hg43]; exact va_up_self _ _ _
  have e46 : g43 (9) = qa ca 59 (fun i => if i < 59 then some (ad28 (9 + 1 + i)) else none) := (hk44 _ (by omega)).trans e38
  have e47 : g43 (69) = za ca 59 (fun _ => false) := (hk44 _ (by omega)).trans e39
  have e48 : g43 (70) = na ca 75 (fun _ => 0) := (hk44 _ (by omega)).trans e40
  have hr49 : ∀ p9, p9 < 59 → g43 (9 + 1 + p9) = na ca 75 ((fun _ _ => 0) p9) := fun p9 hp9 => (hk44 _ (by omega)).trans (hr41 p9 hp9)
  have hs50 : ∀ z, (z < 9 ∧ z ≠ 8) → g43 z = g z := fun z hz => (hk44 z (by omega)).trans (hs42 z hz)
  refine lv_aload_n C.1 C.2.1 dX2_init_42 rfl (lv_at hl 0 rfl) ?_
  refine k_icn C 0 dX2_init_43 (by decide) ?_
  refine k_put C F hw (8) (by omega) e45 rfl in_X2 tyX2_ok nmX2 5 (by decide) fl_X2_32 rfl (v := .int (nI 0)) rfl rfl (Nat.le_of_ble_eq_true rfl) dX2_init_44 (fun H locs hw => ?_)
  have hw : Wd D (AA 9 ad sz) s 71 ad28 (va_up g43 (8) (.inr (2, [.ref (ad28 1), .ref (ad28 9), .ref (ad28 69), .ref (ad28 70), .int (nI 0), .int (nI 0), .int (nI 0)]))) H locs := hw
  obtain ⟨g51, hg51⟩ : ∃ z, z = va_up g43 (8) (.inr (2, [.ref (ad28 1), .ref (ad28 9), .ref (ad28 69), .ref (ad28 70), .int (nI 0), .int (nI 0), .int (nI 0)])) := ⟨_, rfl⟩
  rw [← hg51] at hw
  have hk52 : ∀ z, z ≠ 8 → g51 z = g43 z := fun z hz => by rw [hg51]; exact va_up_ne _ _ hz
  have e53 : g51 (8) = .inr (2, [.ref (ad28 1), .ref (ad28 9), .ref (ad28 69), .ref (ad28 70), .int (nI 0), .int (nI 0), .int (nI 0)]) := by rw [hg51]; exact va_up_self _ _ _
  have e54 : g51 (9) = qa ca 59 (fun i => if i < 59 then some (ad28 (9 + 1 + i)) else none) := (hk52 _ (by omega)).trans e46
  have e55 : g51 (69) = za ca 59 (fun _ => false) := (hk52 _ (by omega)).trans e47
  have e56 : g51 (70) = na ca 75 (fun _ => 0) := (hk52 _ (by omega)).trans e48
  have hr57 : ∀ p9, p9 < 59 → g51 (9 + 1 + p9) = na ca 75 ((fun _ _ => 0) p9) := fun p9 hp9 => (hk52 _ (by omega)).trans (hr49 p9 hp9)
  have hs58 : ∀ z, (z < 9 ∧ z ≠ 8) → g51 z = g z := fun z hz => (hk52 z (by omega)).trans (hs50 z hz)
  refine lv_aload_n C.1 C.2.1 dX2_init_47 rfl (lv_at hl 0 rfl) ?_
  refine k_icn C 0 dX2_init_48 (by decide) ?_
  refine k_put C F hw (8) (by omega) e53 rfl in_X2 tyX2_ok nmX2 6 (by decide) fl_X2_35 rfl (v := .int (nI 0)) rfl rfl (Nat.le_of_ble_eq_true rfl) dX2_init_49 (fun H locs hw => ?_)
  have hw : Wd D (AA 9 ad sz) s 71 ad28 (va_up g51 (8) (.inr (2, [.ref (ad28 1), .ref (ad28 9), .ref (ad28 69), .ref (ad28 70), .int (nI 0), .int (nI 0), .int (nI 0)]))) H locs := hw
  obtain ⟨g59, hg59⟩ : ∃ z, z = va_up g51 (8) (.inr (2, [.ref (ad28 1), .ref (ad28 9), .ref (ad28 69), .ref (ad28 70), .int (nI 0), .int (nI 0), .int (nI 0)])) := ⟨_, rfl⟩
  rw [← hg59] at hw
  have hk60 : ∀ z, z ≠ 8 → g59 z = g51 z := fun z hz => by rw [hg59]; exact va_up_ne _ _ hz
  have e61 : g59 (8) = .inr (2, [.ref (ad28 1), .ref (ad28 9), .ref (ad28 69), .ref (ad28 70), .int (nI 0), .int (nI 0), .int (nI 0)]) := by rw [hg59]; exact va_up_self _ _ _
  have e62 : g59 (9) = qa ca 59 (fun i => if i < 59 then some (ad28 (9 + 1 + i)) else none) := (hk60 _ (by omega)).trans e54
  have e63 : g59 (69) = za ca 59 (fun _ => false) := (hk60 _ (by omega)).trans e55
  have e64 : g59 (70) = na ca 75 (fun _ => 0) := (hk60 _ (by omega)).trans e56
  have hr65 : ∀ p9, p9 < 59 → g59 (9 + 1 + p9) = na ca 75 ((fun _ _ => 0) p9) := fun p9 hp9 => (hk60 _ (by omega)).trans (hr57 p9 hp9)
  have hs66 : ∀ z, (z < 9 ∧ z ≠ 8) → g59 z = g z := fun z hz => (hk60 z (by omega)).trans (hs58 z hz)
  exact hret H locs ls _ _ _ dX2_init_52 hw (⟨hka33, hs66, e61, e62, hr65, e63, e64⟩)

abbrev rm_X2_init_135 : Room := { frames := 1, cells := 62, slots := 4618, locals := 40 }

set_option maxHeartbeats 800000 in
set_option maxRecDepth 100000 in
/-- X2_init_135 -/
theorem c_X2_init_135 {l : Launch} {D : va_G} {ca : Nat → ClassId} {tB tS : Nat} {ad : Nat → Nat} {g : Nat → va_E} {sz : Nat} (e0 : g 135 = .inr (2, [.null, .null, .null, .null, .int (nI 0), .int (nI 0), .int (nI 0)])) : MN l yX2_init cX2_init 2 rm_X2_init_135 D ca tB tS 136 198 ad g sz [.ref (ad 135), .ref (ad 1)] 62 4618 (fun ad1 g1 => (∀ i, i < 136 → ad1 i = ad i) ∧ (∀ i, i < 136 ∧ i ≠ 135 → g1 i = g i) ∧ EqAt ca ad1 g1 135 1 0 0 0 (fun _ _ => 0) (fun _ => false) (fun _ => 0)) := by
  refine m_startN (by decide +kernel) (Nat.le_of_ble_eq_true rfl) (fun p e s m args below meth c ls Q hsz C hnm hl F hAO hw hret => ?_)
  have hl : lv_has ls 2 [(0, .ref (ad 135)), (1, .ref (ad 1))] := hl
  generalize s.heap = H at hw ⊢
  generalize ([] : List Loc) = locs at hw ⊢
  refine lv_aload_n C.1 C.2.1 dX2_init_0 rfl (lv_at hl 0 rfl) ?_
  refine k_obj C lo_X2 hl.1 (Nat.le_of_ble_eq_true rfl) dX2_init_1 (Nat.le_of_ble_eq_true rfl) (Nat.le_of_ble_eq_true rfl) ?_
  refine lv_aload_n C.1 C.2.1 dX2_init_4 rfl (lv_at hl 0 rfl) ?_
  refine lv_aload_n C.1 C.2.1 dX2_init_5 rfl (lv_at hl 1 rfl) ?_
  refine k_putF C F hw (135) (by omega) e0 rfl in_X2 tyX2_ok nmX2 hnm 0 (by decide) rfl fl_X2_9 rfl (v := .ref (ad 1)) rfl rfl (Nat.le_of_ble_eq_true rfl) dX2_init_6 (fun H locs hw => ?_)
  have hw : Wd D (AA 136 ad sz) s 136 ad (va_up g (135) (.inr (2, [.ref (ad 1), .null, .null, .null, .int (nI 0), .int (nI 0), .int (nI 0)]))) H locs := hw
  obtain ⟨g1, hg1⟩ : ∃ z, z = va_up g (135) (.inr (2, [.ref (ad 1), .null, .null, .null, .int (nI 0), .int (nI 0), .int (nI 0)])) := ⟨_, rfl⟩
  rw [← hg1] at hw
  have hk2 : ∀ z, z ≠ 135 → g1 z = g z := fun z hz => by rw [hg1]; exact va_up_ne _ _ hz
  have e3 : g1 (135) = .inr (2, [.ref (ad 1), .null, .null, .null, .int (nI 0), .int (nI 0), .int (nI 0)]) := by rw [hg1]; exact va_up_self _ _ _
  have hs4 : ∀ z, (z < 136 ∧ z ≠ 135) → g1 z = g z := fun z hz => hk2 z (by omega)
  refine lv_aload_n C.1 C.2.1 dX2_init_9 rfl (lv_at hl 0 rfl) ?_
  refine k_bip C 59 dX2_init_10 (by decide) ?_
  refine k_bip C 75 dX2_init_12 (by decide) ?_
  refine k_mna C F hAO hw kl_X2_15 59 75 (by decide) (by decide) (Nat.le_of_ble_eq_true rfl) (Nat.le_of_ble_eq_true rfl) dX2_init_14 (fun ad5 g5 H hk5 hg5 eN5 hR5 hw => ?_)
  rw [← hk5 135 (by decide)]
  rw [← hk5 1 (by decide)] at hl
  rw [← hk5 135 (by decide)] at hl
  have e6 : g5 135 = .inr (2, [.ref (ad5 1), .null, .null, .null, .int (nI 0), .int (nI 0), .int (nI 0)]) := by rw [hg5 135 (by decide), e3, hk5 1 (by decide)]
  have hka7 : ∀ i, i < 136 → ad5 i = ad i := fun i hi => hk5 i hi
  have hs8 : ∀ z, (z < 136 ∧ z ≠ 135) → g5 z = g z := fun z hz => (hg5 z (by omega)).trans (hs4 z hz)
  have hw : Wd D (AA 136 ad sz) s 196 ad5 g5 H locs := hw
  refine k_putF C F hw (135) (by omega) e6 rfl in_X2 tyX2_ok nmX2 hnm 1 (by decide) rfl fl_X2_17 rfl (v := .ref (ad5 136)) rfl rfl (Nat.le_of_ble_eq_true rfl) dX2_init_18 (fun H locs hw => ?_)
  have hw : Wd D (AA 136 ad sz) s 196 ad5 (va_up g5 (135) (.inr (2, [.ref (ad5 1), .ref (ad5 136), .null, .null, .int (nI 0), .int (nI 0), .int (nI 0)]))) H locs := hw
  obtain ⟨g9, hg9⟩ : ∃ z, z = va_up g5 (135) (.inr (2, [.ref (ad5 1), .ref (ad5 136), .null, .null, .int (nI 0), .int (nI 0), .int (nI 0)])) := ⟨_, rfl⟩
  rw [← hg9] at hw
  have hk10 : ∀ z, z ≠ 135 → g9 z = g5 z := fun z hz => by rw [hg9]; exact va_up_ne _ _ hz
  have e11 : g9 (135) = .inr (2, [.ref (ad5 1), .ref (ad5 136), .null, .null, .int (nI 0), .int (nI 0), .int (nI 0)]) := by rw [hg9]; exact va_up_self _ _ _
  have e12 : g9 (136) = qa ca 59 (fun i => if i < 59 then some (ad5 (136 + 1 + i)) else none) := (hk10 _ (by omega)).trans eN5
  have hr13 : ∀ p9, p9 < 59 → g9 (136 + 1 + p9) = na ca 75 ((fun _ _ => 0) p9) := fun p9 hp9 => (hk10 _ (by omega)).trans (hR5 p9 hp9)
  have hs14 : ∀ z, (z < 136 ∧ z ≠ 135) → g9 z = g z := fun z hz => (hk10 z (by omega)).trans (hs8 z hz)
  refine lv_aload_n C.1 C.2.1 dX2_init_21 rfl (lv_at hl 0 rfl) ?_
  refine k_bip C 59 dX2_init_22 (by decide) ?_
  refine k_newZ C F hw 59 (by decide) (Nat.le_of_ble_eq_true rfl) (Nat.le_of_ble_eq_true rfl) dX2_init_24 (fun ad15 g15 H hk15 hg15 eN15 hw => ?_)
  rw [← hk15 135 (by decide)]
  rw [← hk15 1 (by decide)] at hl
  rw [← hk15 135 (by decide)] at hl
  have e16 : g15 135 = .inr (2, [.ref (ad15 1), .ref (ad15 136), .null, .null, .int (nI 0), .int (nI 0), .int (nI 0)]) := by rw [hg15 135 (by decide), e11, hk15 1 (by decide), hk15 136 (by decide)]
  have e17 : g15 136 = qa ca 59 (fun i => if i < 59 then some (ad15 (136 + 1 + i)) else none) := by rw [hg15 136 (by decide), e12]; exact qa_keep (fun i hi => hk15 _ (by omega))
  have hr18 : ∀ p9, p9 < 59 → g15 (136 + 1 + p9) = na ca 75 ((fun _ _ => 0) p9) := fun p9 hp9 => (hg15 _ (by omega)).trans (hr13 p9 hp9)
  have hka19 : ∀ i, i < 136 → ad15 i = ad i := fun i hi => (hk15 i (by omega)).trans (hka7 i hi)
  have hs20 : ∀ z, (z < 136 ∧ z ≠ 135) → g15 z = g z := fun z hz => (hg15 z (by omega)).trans (hs14 z hz)
  have hw : Wd D (AA 136 ad sz) s 197 ad15 g15 H locs := hw
  refine k_putF C F hw (135) (by omega) e16 rfl in_X2 tyX2_ok nmX2 hnm 2 (by decide) rfl fl_X2_20 rfl (v := .ref (ad15 196)) rfl rfl (Nat.le_of_ble_eq_true rfl) dX2_init_26 (fun H locs hw => ?_)
  have hw : Wd D (AA 136 ad sz) s 197 ad15 (va_up g15 (135) (.inr (2, [.ref (ad15 1), .ref (ad15 136), .ref (ad15 196), .null, .int (nI 0), .int (nI 0), .int (nI 0)]))) H locs := hw
  obtain ⟨g21, hg21⟩ : ∃ z, z = va_up g15 (135) (.inr (2, [.ref (ad15 1), .ref (ad15 136), .ref (ad15 196), .null, .int (nI 0), .int (nI 0), .int (nI 0)])) := ⟨_, rfl⟩
  rw [← hg21] at hw
  have hk22 : ∀ z, z ≠ 135 → g21 z = g15 z := fun z hz => by rw [hg21]; exact va_up_ne _ _ hz
  have e23 : g21 (135) = .inr (2, [.ref (ad15 1), .ref (ad15 136), .ref (ad15 196), .null, .int (nI 0), .int (nI 0), .int (nI 0)]) := by rw [hg21]; exact va_up_self _ _ _
  have e24 : g21 (136) = qa ca 59 (fun i => if i < 59 then some (ad15 (136 + 1 + i)) else none) := (hk22 _ (by omega)).trans e17
  have e25 : g21 (196) = za ca 59 (fun _ => false) := (hk22 _ (by omega)).trans eN15
  have hr26 : ∀ p9, p9 < 59 → g21 (136 + 1 + p9) = na ca 75 ((fun _ _ => 0) p9) := fun p9 hp9 => (hk22 _ (by omega)).trans (hr18 p9 hp9)
  have hs27 : ∀ z, (z < 136 ∧ z ≠ 135) → g21 z = g z := fun z hz => (hk22 z (by omega)).trans (hs20 z hz)
  refine lv_aload_n C.1 C.2.1 dX2_init_29 rfl (lv_at hl 0 rfl) ?_
  refine k_bip C 75 dX2_init_30 (by decide) ?_
  refine k_newI C F hw 75 (by decide) (Nat.le_of_ble_eq_true rfl) (Nat.le_of_ble_eq_true rfl) dX2_init_32 (fun ad28 g28 H hk28 hg28 eN28 hw => ?_)
  rw [← hk28 135 (by decide)]
  rw [← hk28 1 (by decide)] at hl
  rw [← hk28 135 (by decide)] at hl
  have e29 : g28 135 = .inr (2, [.ref (ad28 1), .ref (ad28 136), .ref (ad28 196), .null, .int (nI 0), .int (nI 0), .int (nI 0)]) := by rw [hg28 135 (by decide), e23, hk28 1 (by decide), hk28 136 (by decide), hk28 196 (by decide)]
  have e30 : g28 136 = qa ca 59 (fun i => if i < 59 then some (ad28 (136 + 1 + i)) else none) := by rw [hg28 136 (by decide), e24]; exact qa_keep (fun i hi => hk28 _ (by omega))
  have e31 : g28 196 = za ca 59 (fun _ => false) := (hg28 196 (by decide)).trans e25
  have hr32 : ∀ p9, p9 < 59 → g28 (136 + 1 + p9) = na ca 75 ((fun _ _ => 0) p9) := fun p9 hp9 => (hg28 _ (by omega)).trans (hr26 p9 hp9)
  have hka33 : ∀ i, i < 136 → ad28 i = ad i := fun i hi => (hk28 i (by omega)).trans (hka19 i hi)
  have hs34 : ∀ z, (z < 136 ∧ z ≠ 135) → g28 z = g z := fun z hz => (hg28 z (by omega)).trans (hs27 z hz)
  have hw : Wd D (AA 136 ad sz) s 198 ad28 g28 H locs := hw
  refine k_putF C F hw (135) (by omega) e29 rfl in_X2 tyX2_ok nmX2 hnm 3 (by decide) rfl fl_X2_24 rfl (v := .ref (ad28 197)) rfl rfl (Nat.le_of_ble_eq_true rfl) dX2_init_34 (fun H locs hw => ?_)
  have hw : Wd D (AA 136 ad sz) s 198 ad28 (va_up g28 (135) (.inr (2, [.ref (ad28 1), .ref (ad28 136), .ref (ad28 196), .ref (ad28 197), .int (nI 0), .int (nI 0), .int (nI 0)]))) H locs := hw
  obtain ⟨g35, hg35⟩ : ∃ z, z = va_up g28 (135) (.inr (2, [.ref (ad28 1), .ref (ad28 136), .ref (ad28 196), .ref (ad28 197), .int (nI 0), .int (nI 0), .int (nI 0)])) := ⟨_, rfl⟩
  rw [← hg35] at hw
  have hk36 : ∀ z, z ≠ 135 → g35 z = g28 z := fun z hz => by rw [hg35]; exact va_up_ne _ _ hz
  have e37 : g35 (135) = .inr (2, [.ref (ad28 1), .ref (ad28 136), .ref (ad28 196), .ref (ad28 197), .int (nI 0), .int (nI 0), .int (nI 0)]) := by rw [hg35]; exact va_up_self _ _ _
  have e38 : g35 (136) = qa ca 59 (fun i => if i < 59 then some (ad28 (136 + 1 + i)) else none) := (hk36 _ (by omega)).trans e30
  have e39 : g35 (196) = za ca 59 (fun _ => false) := (hk36 _ (by omega)).trans e31
  have e40 : g35 (197) = na ca 75 (fun _ => 0) := (hk36 _ (by omega)).trans eN28
  have hr41 : ∀ p9, p9 < 59 → g35 (136 + 1 + p9) = na ca 75 ((fun _ _ => 0) p9) := fun p9 hp9 => (hk36 _ (by omega)).trans (hr32 p9 hp9)
  have hs42 : ∀ z, (z < 136 ∧ z ≠ 135) → g35 z = g z := fun z hz => (hk36 z (by omega)).trans (hs34 z hz)
  refine lv_aload_n C.1 C.2.1 dX2_init_37 rfl (lv_at hl 0 rfl) ?_
  refine k_icn C 0 dX2_init_38 (by decide) ?_
  refine k_put C F hw (135) (by omega) e37 rfl in_X2 tyX2_ok nmX2 4 (by decide) fl_X2_28 rfl (v := .int (nI 0)) rfl rfl (Nat.le_of_ble_eq_true rfl) dX2_init_39 (fun H locs hw => ?_)
  have hw : Wd D (AA 136 ad sz) s 198 ad28 (va_up g35 (135) (.inr (2, [.ref (ad28 1), .ref (ad28 136), .ref (ad28 196), .ref (ad28 197), .int (nI 0), .int (nI 0), .int (nI 0)]))) H locs := hw
  obtain ⟨g43, hg43⟩ : ∃ z, z = va_up g35 (135) (.inr (2, [.ref (ad28 1), .ref (ad28 136), .ref (ad28 196), .ref (ad28 197), .int (nI 0), .int (nI 0), .int (nI 0)])) := ⟨_, rfl⟩
  rw [← hg43] at hw
  have hk44 : ∀ z, z ≠ 135 → g43 z = g35 z := fun z hz => by rw [hg43]; exact va_up_ne _ _ hz
  have e45 : g43 (135) = .inr (2, [.ref (ad28 1), .ref (ad28 136), .ref (ad28 196), .ref (ad28 197), .int (nI 0), .int (nI 0), .int (nI 0)]) := by rw [hg43]; exact va_up_self _ _ _
  have e46 : g43 (136) = qa ca 59 (fun i => if i < 59 then some (ad28 (136 + 1 + i)) else none) := (hk44 _ (by omega)).trans e38
  have e47 : g43 (196) = za ca 59 (fun _ => false) := (hk44 _ (by omega)).trans e39
  have e48 : g43 (197) = na ca 75 (fun _ => 0) := (hk44 _ (by omega)).trans e40
  have hr49 : ∀ p9, p9 < 59 → g43 (136 + 1 + p9) = na ca 75 ((fun _ _ => 0) p9) := fun p9 hp9 => (hk44 _ (by omega)).trans (hr41 p9 hp9)
  have hs50 : ∀ z, (z < 136 ∧ z ≠ 135) → g43 z = g z := fun z hz => (hk44 z (by omega)).trans (hs42 z hz)
  refine lv_aload_n C.1 C.2.1 dX2_init_42 rfl (lv_at hl 0 rfl) ?_
  refine k_icn C 0 dX2_init_43 (by decide) ?_
  refine k_put C F hw (135) (by omega) e45 rfl in_X2 tyX2_ok nmX2 5 (by decide) fl_X2_32 rfl (v := .int (nI 0)) rfl rfl (Nat.le_of_ble_eq_true rfl) dX2_init_44 (fun H locs hw => ?_)
  have hw : Wd D (AA 136 ad sz) s 198 ad28 (va_up g43 (135) (.inr (2, [.ref (ad28 1), .ref (ad28 136), .ref (ad28 196), .ref (ad28 197), .int (nI 0), .int (nI 0), .int (nI 0)]))) H locs := hw
  obtain ⟨g51, hg51⟩ : ∃ z, z = va_up g43 (135) (.inr (2, [.ref (ad28 1), .ref (ad28 136), .ref (ad28 196), .ref (ad28 197), .int (nI 0), .int (nI 0), .int (nI 0)])) := ⟨_, rfl⟩
  rw [← hg51] at hw
  have hk52 : ∀ z, z ≠ 135 → g51 z = g43 z := fun z hz => by rw [hg51]; exact va_up_ne _ _ hz
  have e53 : g51 (135) = .inr (2, [.ref (ad28 1), .ref (ad28 136), .ref (ad28 196), .ref (ad28 197), .int (nI 0), .int (nI 0), .int (nI 0)]) := by rw [hg51]; exact va_up_self _ _ _
  have e54 : g51 (136) = qa ca 59 (fun i => if i < 59 then some (ad28 (136 + 1 + i)) else none) := (hk52 _ (by omega)).trans e46
  have e55 : g51 (196) = za ca 59 (fun _ => false) := (hk52 _ (by omega)).trans e47
  have e56 : g51 (197) = na ca 75 (fun _ => 0) := (hk52 _ (by omega)).trans e48
  have hr57 : ∀ p9, p9 < 59 → g51 (136 + 1 + p9) = na ca 75 ((fun _ _ => 0) p9) := fun p9 hp9 => (hk52 _ (by omega)).trans (hr49 p9 hp9)
  have hs58 : ∀ z, (z < 136 ∧ z ≠ 135) → g51 z = g z := fun z hz => (hk52 z (by omega)).trans (hs50 z hz)
  refine lv_aload_n C.1 C.2.1 dX2_init_47 rfl (lv_at hl 0 rfl) ?_
  refine k_icn C 0 dX2_init_48 (by decide) ?_
  refine k_put C F hw (135) (by omega) e53 rfl in_X2 tyX2_ok nmX2 6 (by decide) fl_X2_35 rfl (v := .int (nI 0)) rfl rfl (Nat.le_of_ble_eq_true rfl) dX2_init_49 (fun H locs hw => ?_)
  have hw : Wd D (AA 136 ad sz) s 198 ad28 (va_up g51 (135) (.inr (2, [.ref (ad28 1), .ref (ad28 136), .ref (ad28 196), .ref (ad28 197), .int (nI 0), .int (nI 0), .int (nI 0)]))) H locs := hw
  obtain ⟨g59, hg59⟩ : ∃ z, z = va_up g51 (135) (.inr (2, [.ref (ad28 1), .ref (ad28 136), .ref (ad28 196), .ref (ad28 197), .int (nI 0), .int (nI 0), .int (nI 0)])) := ⟨_, rfl⟩
  rw [← hg59] at hw
  have hk60 : ∀ z, z ≠ 135 → g59 z = g51 z := fun z hz => by rw [hg59]; exact va_up_ne _ _ hz
  have e61 : g59 (135) = .inr (2, [.ref (ad28 1), .ref (ad28 136), .ref (ad28 196), .ref (ad28 197), .int (nI 0), .int (nI 0), .int (nI 0)]) := by rw [hg59]; exact va_up_self _ _ _
  have e62 : g59 (136) = qa ca 59 (fun i => if i < 59 then some (ad28 (136 + 1 + i)) else none) := (hk60 _ (by omega)).trans e54
  have e63 : g59 (196) = za ca 59 (fun _ => false) := (hk60 _ (by omega)).trans e55
  have e64 : g59 (197) = na ca 75 (fun _ => 0) := (hk60 _ (by omega)).trans e56
  have hr65 : ∀ p9, p9 < 59 → g59 (136 + 1 + p9) = na ca 75 ((fun _ _ => 0) p9) := fun p9 hp9 => (hk60 _ (by omega)).trans (hr57 p9 hp9)
  have hs66 : ∀ z, (z < 136 ∧ z ≠ 135) → g59 z = g z := fun z hz => (hk60 z (by omega)).trans (hs58 z hz)
  exact hret H locs ls _ _ _ dX2_init_52 hw (⟨hka33, hs66, e61, e62, hr65, e63, e64⟩)

abbrev rm_X0_init : Room := { frames := 1, cells := 60, slots := 1003, locals := 40 }

set_option maxHeartbeats 800000 in
set_option maxRecDepth 100000 in
/-- X0_init -/
theorem c_X0_init {l : Launch} {D : va_G} {ca : Nat → ClassId} {tB tS : Nat} {ad : Nat → Nat} {g : Nat → va_E} {sz : Nat} (e0 : g 73 = .inr (0, [.null, .int (nI 0), .int (nI 0), .int (nI 0)])) : MN l yX0_init cX0_init 1 rm_X0_init D ca tB tS 74 134 ad g sz [.ref (ad 73)] 60 1003 (fun ad1 g1 => (∀ i, i < 74 → ad1 i = ad i) ∧ (∀ i, i < 74 ∧ i ≠ 73 → g1 i = g i) ∧ BlkAt ca ad1 g1 0 0 0 (fun _ _ => 0)) := by
  refine m_startN (by decide +kernel) (Nat.le_of_ble_eq_true rfl) (fun p e s m args below meth c ls Q hsz C hnm hl F hAO hw hret => ?_)
  have hl : lv_has ls 1 [(0, .ref (ad 73))] := hl
  generalize s.heap = H at hw ⊢
  generalize ([] : List Loc) = locs at hw ⊢
  refine lv_aload_n C.1 C.2.1 dX0_init_0 rfl (lv_at hl 0 rfl) ?_
  refine k_obj C lo_X0 hl.1 (Nat.le_of_ble_eq_true rfl) dX0_init_1 (Nat.le_of_ble_eq_true rfl) (Nat.le_of_ble_eq_true rfl) ?_
  refine lv_aload_n C.1 C.2.1 dX0_init_4 rfl (lv_at hl 0 rfl) ?_
  refine k_bip C 59 dX0_init_5 (by decide) ?_
  refine k_bip C 16 dX0_init_7 (by decide) ?_
  refine k_mna C F hAO hw kl_X0_9 59 16 (by decide) (by decide) (Nat.le_of_ble_eq_true rfl) (Nat.le_of_ble_eq_true rfl) dX0_init_9 (fun ad1 g1 H hk1 hg1 eN1 hR1 hw => ?_)
  rw [← hk1 73 (by decide)]
  rw [← hk1 73 (by decide)] at hl
  have e2 : g1 73 = .inr (0, [.null, .int (nI 0), .int (nI 0), .int (nI 0)]) := (hg1 73 (by decide)).trans e0
  have hka3 : ∀ i, i < 74 → ad1 i = ad i := fun i hi => hk1 i hi
  have hs4 : ∀ z, (z < 74 ∧ z ≠ 73) → g1 z = g z := fun z hz => (hg1 z (by omega)).trans ((fun z _ => rfl) z hz)
  have hw : Wd D (AA 74 ad sz) s 134 ad1 g1 H locs := hw
  refine k_putF C F hw (73) (by omega) e2 rfl in_X0 tyX0_ok nmX0 hnm 0 (by decide) rfl fl_X0_11 rfl (v := .ref (ad1 74)) rfl rfl (Nat.le_of_ble_eq_true rfl) dX0_init_13 (fun H locs hw => ?_)
  have hw : Wd D (AA 74 ad sz) s 134 ad1 (va_up g1 (73) (.inr (0, [.ref (ad1 74), .int (nI 0), .int (nI 0), .int (nI 0)]))) H locs := hw
  obtain ⟨g5, hg5⟩ : ∃ z, z = va_up g1 (73) (.inr (0, [.ref (ad1 74), .int (nI 0), .int (nI 0), .int (nI 0)])) := ⟨_, rfl⟩
  rw [← hg5] at hw
  have hk6 : ∀ z, z ≠ 73 → g5 z = g1 z := fun z hz => by rw [hg5]; exact va_up_ne _ _ hz
  have e7 : g5 (73) = .inr (0, [.ref (ad1 74), .int (nI 0), .int (nI 0), .int (nI 0)]) := by rw [hg5]; exact va_up_self _ _ _
  have e8 : g5 (74) = qa ca 59 (fun i => if i < 59 then some (ad1 (74 + 1 + i)) else none) := (hk6 _ (by omega)).trans eN1
  have hr9 : ∀ p9, p9 < 59 → g5 (74 + 1 + p9) = na ca 16 ((fun _ _ => 0) p9) := fun p9 hp9 => (hk6 _ (by omega)).trans (hR1 p9 hp9)
  have hs10 : ∀ z, (z < 74 ∧ z ≠ 73) → g5 z = g z := fun z hz => (hk6 z (by omega)).trans (hs4 z hz)
  refine lv_aload_n C.1 C.2.1 dX0_init_16 rfl (lv_at hl 0 rfl) ?_
  refine k_icn C 0 dX0_init_17 (by decide) ?_
  refine k_put C F hw (73) (by omega) e7 rfl in_X0 tyX0_ok nmX0 1 (by decide) fl_X0_16 rfl (v := .int (nI 0)) rfl rfl (Nat.le_of_ble_eq_true rfl) dX0_init_18 (fun H locs hw => ?_)
  have hw : Wd D (AA 74 ad sz) s 134 ad1 (va_up g5 (73) (.inr (0, [.ref (ad1 74), .int (nI 0), .int (nI 0), .int (nI 0)]))) H locs := hw
  obtain ⟨g11, hg11⟩ : ∃ z, z = va_up g5 (73) (.inr (0, [.ref (ad1 74), .int (nI 0), .int (nI 0), .int (nI 0)])) := ⟨_, rfl⟩
  rw [← hg11] at hw
  have hk12 : ∀ z, z ≠ 73 → g11 z = g5 z := fun z hz => by rw [hg11]; exact va_up_ne _ _ hz
  have e13 : g11 (73) = .inr (0, [.ref (ad1 74), .int (nI 0), .int (nI 0), .int (nI 0)]) := by rw [hg11]; exact va_up_self _ _ _
  have e14 : g11 (74) = qa ca 59 (fun i => if i < 59 then some (ad1 (74 + 1 + i)) else none) := (hk12 _ (by omega)).trans e8
  have hr15 : ∀ p9, p9 < 59 → g11 (74 + 1 + p9) = na ca 16 ((fun _ _ => 0) p9) := fun p9 hp9 => (hk12 _ (by omega)).trans (hr9 p9 hp9)
  have hs16 : ∀ z, (z < 74 ∧ z ≠ 73) → g11 z = g z := fun z hz => (hk12 z (by omega)).trans (hs10 z hz)
  refine lv_aload_n C.1 C.2.1 dX0_init_21 rfl (lv_at hl 0 rfl) ?_
  refine k_icn C 0 dX0_init_22 (by decide) ?_
  refine k_put C F hw (73) (by omega) e13 rfl in_X0 tyX0_ok nmX0 2 (by decide) fl_X0_20 rfl (v := .int (nI 0)) rfl rfl (Nat.le_of_ble_eq_true rfl) dX0_init_23 (fun H locs hw => ?_)
  have hw : Wd D (AA 74 ad sz) s 134 ad1 (va_up g11 (73) (.inr (0, [.ref (ad1 74), .int (nI 0), .int (nI 0), .int (nI 0)]))) H locs := hw
  obtain ⟨g17, hg17⟩ : ∃ z, z = va_up g11 (73) (.inr (0, [.ref (ad1 74), .int (nI 0), .int (nI 0), .int (nI 0)])) := ⟨_, rfl⟩
  rw [← hg17] at hw
  have hk18 : ∀ z, z ≠ 73 → g17 z = g11 z := fun z hz => by rw [hg17]; exact va_up_ne _ _ hz
  have e19 : g17 (73) = .inr (0, [.ref (ad1 74), .int (nI 0), .int (nI 0), .int (nI 0)]) := by rw [hg17]; exact va_up_self _ _ _
  have e20 : g17 (74) = qa ca 59 (fun i => if i < 59 then some (ad1 (74 + 1 + i)) else none) := (hk18 _ (by omega)).trans e14
  have hr21 : ∀ p9, p9 < 59 → g17 (74 + 1 + p9) = na ca 16 ((fun _ _ => 0) p9) := fun p9 hp9 => (hk18 _ (by omega)).trans (hr15 p9 hp9)
  have hs22 : ∀ z, (z < 74 ∧ z ≠ 73) → g17 z = g z := fun z hz => (hk18 z (by omega)).trans (hs16 z hz)
  refine lv_aload_n C.1 C.2.1 dX0_init_26 rfl (lv_at hl 0 rfl) ?_
  refine k_icn C 0 dX0_init_27 (by decide) ?_
  refine k_put C F hw (73) (by omega) e19 rfl in_X0 tyX0_ok nmX0 3 (by decide) fl_X0_23 rfl (v := .int (nI 0)) rfl rfl (Nat.le_of_ble_eq_true rfl) dX0_init_28 (fun H locs hw => ?_)
  have hw : Wd D (AA 74 ad sz) s 134 ad1 (va_up g17 (73) (.inr (0, [.ref (ad1 74), .int (nI 0), .int (nI 0), .int (nI 0)]))) H locs := hw
  obtain ⟨g23, hg23⟩ : ∃ z, z = va_up g17 (73) (.inr (0, [.ref (ad1 74), .int (nI 0), .int (nI 0), .int (nI 0)])) := ⟨_, rfl⟩
  rw [← hg23] at hw
  have hk24 : ∀ z, z ≠ 73 → g23 z = g17 z := fun z hz => by rw [hg23]; exact va_up_ne _ _ hz
  have e25 : g23 (73) = .inr (0, [.ref (ad1 74), .int (nI 0), .int (nI 0), .int (nI 0)]) := by rw [hg23]; exact va_up_self _ _ _
  have e26 : g23 (74) = qa ca 59 (fun i => if i < 59 then some (ad1 (74 + 1 + i)) else none) := (hk24 _ (by omega)).trans e20
  have hr27 : ∀ p9, p9 < 59 → g23 (74 + 1 + p9) = na ca 16 ((fun _ _ => 0) p9) := fun p9 hp9 => (hk24 _ (by omega)).trans (hr21 p9 hp9)
  have hs28 : ∀ z, (z < 74 ∧ z ≠ 73) → g23 z = g z := fun z hz => (hk24 z (by omega)).trans (hs22 z hz)
  exact hret H locs ls _ _ _ dX0_init_31 hw (⟨hka3, hs28, e25, e26, hr27⟩)
