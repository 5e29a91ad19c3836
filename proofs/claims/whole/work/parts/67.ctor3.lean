/-! ===== constructors: the desk, the model ===== -/
abbrev rm_X7_init : Room := { frames := 3, cells := 197, slots := 11945, locals := 82 }

set_option maxHeartbeats 800000 in
set_option maxRecDepth 100000 in
/-- X7_init -/
theorem c_X7_init {l : Launch} {D : va_G} {ca : Nat → ClassId} {tB tS : Nat} {ad : Nat → Nat} {g : Nat → va_E} {sz : Nat} (fb : Nat → Nat → Bool) (e0 : g 0 = .inr (7, [.null, .null, .null, .null, .null, .null, .null])) : MN l yX7_init cX7_init 1 rm_X7_init D ca tB tS 1 198 ad g sz [.ref (ad 0)] 197 11945 (fun ad1 g1 => (∀ i, i < 1 → ad1 i = ad i) ∧ (∀ i, i < 1 ∧ i ≠ 0 → g1 i = g i) ∧ ∃ ex M ld, TabOk pwG ex ∧ DInv ca ad1 g1 pwG ex fb 0 (fun _ => 0) 0 0 (fun _ _ => 0) 0 0 0 0 M ld) := by
  refine m_startN (by decide +kernel) (Nat.le_of_ble_eq_true rfl) (fun p e s m args below meth c ls Q hsz C hnm hl F hAO hw hret => ?_)
  have hl : lv_has ls 1 [(0, .ref (ad 0))] := hl
  generalize s.heap = H at hw ⊢
  generalize ([] : List Loc) = locs at hw ⊢
  refine lv_aload_n C.1 C.2.1 dX7_init_0 rfl (lv_at hl 0 rfl) ?_
  refine k_obj C lo_X7 hl.1 (Nat.le_of_ble_eq_true rfl) dX7_init_1 (Nat.le_of_ble_eq_true rfl) (Nat.le_of_ble_eq_true rfl) ?_
  refine lv_aload_n C.1 C.2.1 dX7_init_4 rfl (lv_at hl 0 rfl) ?_
  refine k_new (ci := 3) C F hw in_X3 tyX3_ok kl_X7_9 ki_X3 wi_X3 rfl [.null, .null] (by intro j hj; exact df_X3 j hj) (Nat.le_of_ble_eq_true rfl) (Nat.le_of_ble_eq_true rfl) dX7_init_5 (fun ad1 g1 H hk1 hg1 eN1 hw => ?_)
  rw [← hk1 0 (by decide)]
  rw [← hk1 0 (by decide)] at hl
  have e2 : g1 0 = .inr (7, [.null, .null, .null, .null, .null, .null, .null]) := (hg1 0 (by decide)).trans e0
  have hka3 : ∀ i, i < 1 → ad1 i = ad i := fun i hi => hk1 i hi
  have hs4 : ∀ z, (z < 1 ∧ z ≠ 0) → g1 z = g z := fun z hz => (hg1 z (by omega)).trans ((fun z _ => rfl) z hz)
  have hw : Wd D (AA 1 ad sz) s 2 ad1 g1 H locs := hw
  refine lv_dup C.1 C.2.1 dX7_init_8 rfl ?_
  refine k_I C F hAO hw (i := 1) (As := []) (rest := [.ref (ad1 1), .ref (ad1 0)]) (c_X3_init eN1) (cwI 0 C.2.2.2.2 (good_g cw_X3_init) rfl rfl rfl (C.2.2.2.2 _ wi_X3) (C.2.2.2.2 _ gl_X7_11) (C.2.2.2.2 _ gi_X7_11) rfl cd_X3_init.2 ⟨Nat.le_of_ble_eq_true rfl, Nat.le_of_ble_eq_true rfl⟩) hl.1 rfl (Nat.le_of_ble_eq_true rfl) dX7_init_9 ⟨Nat.le_of_ble_eq_true rfl, Nat.le_of_ble_eq_true rfl⟩ (fun ad5 g5 H locs hp hw => ?_)
  obtain ⟨hk5, hg5, hp⟩ := hp
  have hh5 : ∀ i, i < 1 → g5 i = g1 i := fun i hi => hg5 i ⟨by omega, by omega⟩
  rw [← hk5 0 (by decide)]
  rw [← hk5 1 (by decide)]
  rw [← hk5 0 (by decide)] at hl
  have e6 : g5 0 = .inr (7, [.null, .null, .null, .null, .null, .null, .null]) := (hh5 0 (by decide)).trans e2
  have hka7 : ∀ i, i < 1 → ad5 i = ad i := fun i hi => (hk5 i (by omega)).trans (hka3 i hi)
  have hs8 : ∀ z, (z < 1 ∧ z ≠ 0) → g5 z = g z := fun z hz => (hh5 z (by omega)).trans (hs4 z hz)
  have hw : Wd D (AA 1 ad sz) s 4 ad5 g5 H locs := hw
  obtain ⟨ex, htab, hFd⟩ := hp
  refine k_putF C F hw (0) (by omega) e6 rfl in_X7 tyX7_ok nmX7 hnm 0 (by decide) rfl fl_X7_12 rfl (v := .ref (ad5 1)) rfl rfl (Nat.le_of_ble_eq_true rfl) dX7_init_12 (fun H locs hw => ?_)
  have hw : Wd D (AA 1 ad sz) s 4 ad5 (va_up g5 (0) (.inr (7, [.ref (ad5 1), .null, .null, .null, .null, .null, .null]))) H locs := hw
  obtain ⟨g9, hg9⟩ : ∃ z, z = va_up g5 (0) (.inr (7, [.ref (ad5 1), .null, .null, .null, .null, .null, .null])) := ⟨_, rfl⟩
  rw [← hg9] at hw
  have hk10 : ∀ z, z ≠ 0 → g9 z = g5 z := fun z hz => by rw [hg9]; exact va_up_ne _ _ hz
  have e11 : g9 (0) = .inr (7, [.ref (ad5 1), .null, .null, .null, .null, .null, .null]) := by rw [hg9]; exact va_up_self _ _ _
  have hs12 : ∀ z, (z < 1 ∧ z ≠ 0) → g9 z = g z := fun z hz => (hk10 z (by omega)).trans (hs8 z hz)
  have hf13 : FieldAt ca ad5 g9 1 pwG ex := FieldAt.ext (R := 4) (fun _ _ => rfl) (fun i h1 _ => hk10 i (by omega)) (by decide) hFd
  refine lv_aload_n C.1 C.2.1 dX7_init_15 rfl (lv_at hl 0 rfl) ?_
  refine k_new (ci := 5) C F hw in_X5 tyX5_ok kl_X7_16 ki_X5 wi_X5 rfl [.null, .int (nI 0)] (by intro j hj; exact df_X5 j hj) (Nat.le_of_ble_eq_true rfl) (Nat.le_of_ble_eq_true rfl) dX7_init_16 (fun ad14 g14 H hk14 hg14 eN14 hw => ?_)
  rw [← hk14 0 (by decide)]
  rw [← hk14 0 (by decide)] at hl
  have e15 : g14 0 = .inr (7, [.ref (ad14 1), .null, .null, .null, .null, .null, .null]) := by rw [hg14 0 (by decide), e11, hk14 1 (by decide)]
  have hf16 : FieldAt ca ad14 g14 1 pwG ex := FieldAt.ext (R := 4) hk14 (fun i _ hi => hg14 i hi) (by decide) hf13
  have hka17 : ∀ i, i < 1 → ad14 i = ad i := fun i hi => (hk14 i (by omega)).trans (hka7 i hi)
  have hs18 : ∀ z, (z < 1 ∧ z ≠ 0) → g14 z = g z := fun z hz => (hg14 z (by omega)).trans (hs12 z hz)
  have hw : Wd D (AA 1 ad sz) s 5 ad14 g14 H locs := hw
  refine lv_dup C.1 C.2.1 dX7_init_19 rfl ?_
  refine k_I C F hAO hw (i := 4) (As := []) (rest := [.ref (ad14 4), .ref (ad14 0)]) (c_X5_init eN14) (cwI 0 C.2.2.2.2 (good_g cw_X5_init) rfl rfl rfl (C.2.2.2.2 _ wi_X5) (C.2.2.2.2 _ gl_X7_18) (C.2.2.2.2 _ gi_X7_18) rfl cd_X5_init.2 ⟨Nat.le_of_ble_eq_true rfl, Nat.le_of_ble_eq_true rfl⟩) hl.1 rfl (Nat.le_of_ble_eq_true rfl) dX7_init_20 ⟨Nat.le_of_ble_eq_true rfl, Nat.le_of_ble_eq_true rfl⟩ (fun ad19 g19 H locs hp hw => ?_)
  obtain ⟨hk19, hg19, hp⟩ := hp
  have hh19 : ∀ i, i < 4 → g19 i = g14 i := fun i hi => hg19 i ⟨by omega, by omega⟩
  rw [← hk19 0 (by decide)]
  rw [← hk19 4 (by decide)]
  rw [← hk19 0 (by decide)] at hl
  have e20 : g19 0 = .inr (7, [.ref (ad19 1), .null, .null, .null, .null, .null, .null]) := by rw [hh19 0 (by decide), e15, hk19 1 (by decide)]
  have hf21 : FieldAt ca ad19 g19 1 pwG ex := FieldAt.ext (R := 4) (fun i hi => hk19 i (by omega)) (fun i _ hi => hh19 i hi) (by decide) hf16
  have hka22 : ∀ i, i < 1 → ad19 i = ad i := fun i hi => (hk19 i (by omega)).trans (hka17 i hi)
  have hs23 : ∀ z, (z < 1 ∧ z ≠ 0) → g19 z = g z := fun z hz => (hh19 z (by omega)).trans (hs18 z hz)
  have hw : Wd D (AA 1 ad sz) s 6 ad19 g19 H locs := hw
  have hTp := hp
  refine k_putF C F hw (0) (by omega) e20 rfl in_X7 tyX7_ok nmX7 hnm 1 (by decide) rfl fl_X7_19 rfl (v := .ref (ad19 4)) rfl rfl (Nat.le_of_ble_eq_true rfl) dX7_init_23 (fun H locs hw => ?_)
  have hw : Wd D (AA 1 ad sz) s 6 ad19 (va_up g19 (0) (.inr (7, [.ref (ad19 1), .ref (ad19 4), .null, .null, .null, .null, .null]))) H locs := hw
  obtain ⟨g24, hg24⟩ : ∃ z, z = va_up g19 (0) (.inr (7, [.ref (ad19 1), .ref (ad19 4), .null, .null, .null, .null, .null])) := ⟨_, rfl⟩
  rw [← hg24] at hw
  have hk25 : ∀ z, z ≠ 0 → g24 z = g19 z := fun z hz => by rw [hg24]; exact va_up_ne _ _ hz
  have e26 : g24 (0) = .inr (7, [.ref (ad19 1), .ref (ad19 4), .null, .null, .null, .null, .null]) := by rw [hg24]; exact va_up_self _ _ _
  have hs27 : ∀ z, (z < 1 ∧ z ≠ 0) → g24 z = g z := fun z hz => (hk25 z (by omega)).trans (hs23 z hz)
  have hf28 : FieldAt ca ad19 g24 1 pwG ex := FieldAt.ext (R := 6) (fun _ _ => rfl) (fun i h1 _ => hk25 i (by omega)) (by decide) hf21
  have hf29 : TpAt ca ad19 g24 0 (fun _ => 0) := TpAt.ext (R := 6) (fun _ _ => rfl) (fun i h1 _ => hk25 i (by omega)) (by decide) hTp
  refine lv_aload_n C.1 C.2.1 dX7_init_26 rfl (lv_at hl 0 rfl) ?_
  refine k_new (ci := 4) C F hw in_X4 tyX4_ok kl_X7_23 ki_X4 wi_X4 rfl [.null, .int (nI 0)] (by intro j hj; exact df_X4 j hj) (Nat.le_of_ble_eq_true rfl) (Nat.le_of_ble_eq_true rfl) dX7_init_27 (fun ad30 g30 H hk30 hg30 eN30 hw => ?_)
  rw [← hk30 0 (by decide)]
  rw [← hk30 0 (by decide)] at hl
  have e31 : g30 0 = .inr (7, [.ref (ad30 1), .ref (ad30 4), .null, .null, .null, .null, .null]) := by rw [hg30 0 (by decide), e26, hk30 1 (by decide), hk30 4 (by decide)]
  have hf32 : FieldAt ca ad30 g30 1 pwG ex := FieldAt.ext (R := 6) hk30 (fun i _ hi => hg30 i hi) (by decide) hf28
  have hf33 : TpAt ca ad30 g30 0 (fun _ => 0) := TpAt.ext (R := 6) hk30 (fun i _ hi => hg30 i hi) (by decide) hf29
  have hka34 : ∀ i, i < 1 → ad30 i = ad i := fun i hi => (hk30 i (by omega)).trans (hka22 i hi)
  have hs35 : ∀ z, (z < 1 ∧ z ≠ 0) → g30 z = g z := fun z hz => (hg30 z (by omega)).trans (hs27 z hz)
  have hw : Wd D (AA 1 ad sz) s 7 ad30 g30 H locs := hw
  refine lv_dup C.1 C.2.1 dX7_init_30 rfl ?_
  refine k_I C F hAO hw (i := 6) (As := []) (rest := [.ref (ad30 6), .ref (ad30 0)]) (c_X4_init eN30) (cwI 0 C.2.2.2.2 (good_g cw_X4_init) rfl rfl rfl (C.2.2.2.2 _ wi_X4) (C.2.2.2.2 _ gl_X7_25) (C.2.2.2.2 _ gi_X7_25) rfl cd_X4_init.2 ⟨Nat.le_of_ble_eq_true rfl, Nat.le_of_ble_eq_true rfl⟩) hl.1 rfl (Nat.le_of_ble_eq_true rfl) dX7_init_31 ⟨Nat.le_of_ble_eq_true rfl, Nat.le_of_ble_eq_true rfl⟩ (fun ad36 g36 H locs hp hw => ?_)
  obtain ⟨hk36, hg36, hp⟩ := hp
  have hh36 : ∀ i, i < 6 → g36 i = g30 i := fun i hi => hg36 i ⟨by omega, by omega⟩
  rw [← hk36 0 (by decide)]
  rw [← hk36 6 (by decide)]
  rw [← hk36 0 (by decide)] at hl
  have e37 : g36 0 = .inr (7, [.ref (ad36 1), .ref (ad36 4), .null, .null, .null, .null, .null]) := by rw [hh36 0 (by decide), e31, hk36 1 (by decide), hk36 4 (by decide)]
  have hf38 : FieldAt ca ad36 g36 1 pwG ex := FieldAt.ext (R := 6) (fun i hi => hk36 i (by omega)) (fun i _ hi => hh36 i hi) (by decide) hf32
  have hf39 : TpAt ca ad36 g36 0 (fun _ => 0) := TpAt.ext (R := 6) (fun i hi => hk36 i (by omega)) (fun i _ hi => hh36 i hi) (by decide) hf33
  have hka40 : ∀ i, i < 1 → ad36 i = ad i := fun i hi => (hk36 i (by omega)).trans (hka34 i hi)
  have hs41 : ∀ z, (z < 1 ∧ z ≠ 0) → g36 z = g z := fun z hz => (hh36 z (by omega)).trans (hs35 z hz)
  have hw : Wd D (AA 1 ad sz) s 8 ad36 g36 H locs := hw
  have hPk := hp
  refine k_putF C F hw (0) (by omega) e37 rfl in_X7 tyX7_ok nmX7 hnm 2 (by decide) rfl fl_X7_26 rfl (v := .ref (ad36 6)) rfl rfl (Nat.le_of_ble_eq_true rfl) dX7_init_34 (fun H locs hw => ?_)
  have hw : Wd D (AA 1 ad sz) s 8 ad36 (va_up g36 (0) (.inr (7, [.ref (ad36 1), .ref (ad36 4), .ref (ad36 6), .null, .null, .null, .null]))) H locs := hw
  obtain ⟨g42, hg42⟩ : ∃ z, z = va_up g36 (0) (.inr (7, [.ref (ad36 1), .ref (ad36 4), .ref (ad36 6), .null, .null, .null, .null])) := ⟨_, rfl⟩
  rw [← hg42] at hw
  have hk43 : ∀ z, z ≠ 0 → g42 z = g36 z := fun z hz => by rw [hg42]; exact va_up_ne _ _ hz
  have e44 : g42 (0) = .inr (7, [.ref (ad36 1), .ref (ad36 4), .ref (ad36 6), .null, .null, .null, .null]) := by rw [hg42]; exact va_up_self _ _ _
  have hs45 : ∀ z, (z < 1 ∧ z ≠ 0) → g42 z = g z := fun z hz => (hk43 z (by omega)).trans (hs41 z hz)
  have hf46 : FieldAt ca ad36 g42 1 pwG ex := FieldAt.ext (R := 8) (fun _ _ => rfl) (fun i h1 _ => hk43 i (by omega)) (by decide) hf38
  have hf47 : TpAt ca ad36 g42 0 (fun _ => 0) := TpAt.ext (R := 8) (fun _ _ => rfl) (fun i h1 _ => hk43 i (by omega)) (by decide) hf39
  have hf48 : PkAt ca ad36 g42 6 0 (fun _ => 0) := PkAt.ext (R := 8) (fun _ _ => rfl) (fun i h1 _ => hk43 i (by omega)) (by decide) hPk
  refine lv_aload_n C.1 C.2.1 dX7_init_37 rfl (lv_at hl 0 rfl) ?_
  refine k_new (ci := 2) C F hw in_X2 tyX2_ok kl_X7_30 ki_X2 wi_X2 rfl [.null, .null, .null, .null, .int (nI 0), .int (nI 0), .int (nI 0)] (by intro j hj; exact df_X2 j hj) (Nat.le_of_ble_eq_true rfl) (Nat.le_of_ble_eq_true rfl) dX7_init_38 (fun ad49 g49 H hk49 hg49 eN49 hw => ?_)
  rw [← hk49 0 (by decide)]
  rw [← hk49 0 (by decide)] at hl
  have e50 : g49 0 = .inr (7, [.ref (ad49 1), .ref (ad49 4), .ref (ad49 6), .null, .null, .null, .null]) := by rw [hg49 0 (by decide), e44, hk49 1 (by decide), hk49 4 (by decide), hk49 6 (by decide)]
  have hf51 : FieldAt ca ad49 g49 1 pwG ex := FieldAt.ext (R := 8) hk49 (fun i _ hi => hg49 i hi) (by decide) hf46
  have hf52 : TpAt ca ad49 g49 0 (fun _ => 0) := TpAt.ext (R := 8) hk49 (fun i _ hi => hg49 i hi) (by decide) hf47
  have hf53 : PkAt ca ad49 g49 6 0 (fun _ => 0) := PkAt.ext (R := 8) hk49 (fun i _ hi => hg49 i hi) (by decide) hf48
  have hka54 : ∀ i, i < 1 → ad49 i = ad i := fun i hi => (hk49 i (by omega)).trans (hka40 i hi)
  have hs55 : ∀ z, (z < 1 ∧ z ≠ 0) → g49 z = g z := fun z hz => (hg49 z (by omega)).trans (hs45 z hz)
  have hw : Wd D (AA 1 ad sz) s 9 ad49 g49 H locs := hw
  refine lv_dup C.1 C.2.1 dX7_init_41 rfl ?_
  refine lv_aload_n C.1 C.2.1 dX7_init_42 rfl (lv_at hl 0 rfl) ?_
  refine k_get C F hw (0) (by omega) e50 rfl in_X7 0 (by decide) fl_X7_12 rfl dX7_init_43 ?_
  refine k_I C F hAO hw (i := 8) (As := [.ref (ad49 1)]) (rest := [.ref (ad49 8), .ref (ad49 0)]) (c_X2_init_8 eN49) (cwI 1 C.2.2.2.2 (good_g cw_X2_init) rfl rfl rfl (C.2.2.2.2 _ wi_X2) (C.2.2.2.2 _ gl_X7_32) (C.2.2.2.2 _ gi_X7_32) rfl cd_X2_init.2 ⟨Nat.le_of_ble_eq_true rfl, Nat.le_of_ble_eq_true rfl⟩) hl.1 rfl (Nat.le_of_ble_eq_true rfl) dX7_init_46 ⟨Nat.le_of_ble_eq_true rfl, Nat.le_of_ble_eq_true rfl⟩ (fun ad56 g56 H locs hp hw => ?_)
  obtain ⟨hk56, hg56, hp⟩ := hp
  have hh56 : ∀ i, i < 8 → g56 i = g49 i := fun i hi => hg56 i ⟨by omega, by omega⟩
  rw [← hk56 0 (by decide)]
  rw [← hk56 8 (by decide)]
  rw [← hk56 0 (by decide)] at hl
  have e57 : g56 0 = .inr (7, [.ref (ad56 1), .ref (ad56 4), .ref (ad56 6), .null, .null, .null, .null]) := by rw [hh56 0 (by decide), e50, hk56 1 (by decide), hk56 4 (by decide), hk56 6 (by decide)]
  have hf58 : FieldAt ca ad56 g56 1 pwG ex := FieldAt.ext (R := 8) (fun i hi => hk56 i (by omega)) (fun i _ hi => hh56 i hi) (by decide) hf51
  have hf59 : TpAt ca ad56 g56 0 (fun _ => 0) := TpAt.ext (R := 8) (fun i hi => hk56 i (by omega)) (fun i _ hi => hh56 i hi) (by decide) hf52
  have hf60 : PkAt ca ad56 g56 6 0 (fun _ => 0) := PkAt.ext (R := 8) (fun i hi => hk56 i (by omega)) (fun i _ hi => hh56 i hi) (by decide) hf53
  have hka61 : ∀ i, i < 1 → ad56 i = ad i := fun i hi => (hk56 i (by omega)).trans (hka54 i hi)
  have hs62 : ∀ z, (z < 1 ∧ z ≠ 0) → g56 z = g z := fun z hz => (hh56 z (by omega)).trans (hs55 z hz)
  have hw : Wd D (AA 1 ad sz) s 71 ad56 g56 H locs := hw
  have hEw := hp
  refine k_putF C F hw (0) (by omega) e57 rfl in_X7 tyX7_ok nmX7 hnm 3 (by decide) rfl fl_X7_35 rfl (v := .ref (ad56 8)) rfl rfl (Nat.le_of_ble_eq_true rfl) dX7_init_49 (fun H locs hw => ?_)
  have hw : Wd D (AA 1 ad sz) s 71 ad56 (va_up g56 (0) (.inr (7, [.ref (ad56 1), .ref (ad56 4), .ref (ad56 6), .ref (ad56 8), .null, .null, .null]))) H locs := hw
  obtain ⟨g63, hg63⟩ : ∃ z, z = va_up g56 (0) (.inr (7, [.ref (ad56 1), .ref (ad56 4), .ref (ad56 6), .ref (ad56 8), .null, .null, .null])) := ⟨_, rfl⟩
  rw [← hg63] at hw
  have hk64 : ∀ z, z ≠ 0 → g63 z = g56 z := fun z hz => by rw [hg63]; exact va_up_ne _ _ hz
  have e65 : g63 (0) = .inr (7, [.ref (ad56 1), .ref (ad56 4), .ref (ad56 6), .ref (ad56 8), .null, .null, .null]) := by rw [hg63]; exact va_up_self _ _ _
  have hs66 : ∀ z, (z < 1 ∧ z ≠ 0) → g63 z = g z := fun z hz => (hk64 z (by omega)).trans (hs62 z hz)
  have hf67 : FieldAt ca ad56 g63 1 pwG ex := FieldAt.ext (R := 71) (fun _ _ => rfl) (fun i h1 _ => hk64 i (by omega)) (by decide) hf58
  have hf68 : TpAt ca ad56 g63 0 (fun _ => 0) := TpAt.ext (R := 71) (fun _ _ => rfl) (fun i h1 _ => hk64 i (by omega)) (by decide) hf59
  have hf69 : PkAt ca ad56 g63 6 0 (fun _ => 0) := PkAt.ext (R := 71) (fun _ _ => rfl) (fun i h1 _ => hk64 i (by omega)) (by decide) hf60
  have hf70 : EqAt ca ad56 g63 8 1 0 0 0 (fun _ _ => 0) (fun _ => false) (fun _ => 0) := EqAt.ext (R := 71) (fun _ _ => rfl) (fun i h1 _ => hk64 i (by omega)) (by decide) hEw
  refine lv_aload_n C.1 C.2.1 dX7_init_52 rfl (lv_at hl 0 rfl) ?_
  refine k_new (ci := 6) C F hw in_X6 tyX6_ok kl_X7_39 ki_X6 wi_X6 rfl [.null, .null, .null] (by intro j hj; exact df_X6 j hj) (Nat.le_of_ble_eq_true rfl) (Nat.le_of_ble_eq_true rfl) dX7_init_53 (fun ad71 g71 H hk71 hg71 eN71 hw => ?_)
  rw [← hk71 0 (by decide)]
  rw [← hk71 0 (by decide)] at hl
  have e72 : g71 0 = .inr (7, [.ref (ad71 1), .ref (ad71 4), .ref (ad71 6), .ref (ad71 8), .null, .null, .null]) := by rw [hg71 0 (by decide), e65, hk71 1 (by decide), hk71 4 (by decide), hk71 6 (by decide), hk71 8 (by decide)]
  have hf73 : FieldAt ca ad71 g71 1 pwG ex := FieldAt.ext (R := 71) hk71 (fun i _ hi => hg71 i hi) (by decide) hf67
  have hf74 : TpAt ca ad71 g71 0 (fun _ => 0) := TpAt.ext (R := 71) hk71 (fun i _ hi => hg71 i hi) (by decide) hf68
  have hf75 : PkAt ca ad71 g71 6 0 (fun _ => 0) := PkAt.ext (R := 71) hk71 (fun i _ hi => hg71 i hi) (by decide) hf69
  have hf76 : EqAt ca ad71 g71 8 1 0 0 0 (fun _ _ => 0) (fun _ => false) (fun _ => 0) := EqAt.ext (R := 71) hk71 (fun i _ hi => hg71 i hi) (by decide) hf70
  have hka77 : ∀ i, i < 1 → ad71 i = ad i := fun i hi => (hk71 i (by omega)).trans (hka61 i hi)
  have hs78 : ∀ z, (z < 1 ∧ z ≠ 0) → g71 z = g z := fun z hz => (hg71 z (by omega)).trans (hs66 z hz)
  have hw : Wd D (AA 1 ad sz) s 72 ad71 g71 H locs := hw
  refine lv_dup C.1 C.2.1 dX7_init_56 rfl ?_
  refine lv_aload_n C.1 C.2.1 dX7_init_57 rfl (lv_at hl 0 rfl) ?_
  refine k_get C F hw (0) (by omega) e72 rfl in_X7 3 (by decide) fl_X7_35 rfl dX7_init_58 ?_
  refine lv_aload_n C.1 C.2.1 dX7_init_61 rfl (lv_at hl 0 rfl) ?_
  refine k_get C F hw (0) (by omega) e72 rfl in_X7 2 (by decide) fl_X7_26 rfl dX7_init_62 ?_
  refine k_I C F hAO hw (i := 71) (As := [.ref (ad71 8), .ref (ad71 6)]) (rest := [.ref (ad71 71), .ref (ad71 0)]) (c_X6_init eN71) (cwI 2 C.2.2.2.2 (good_g cw_X6_init) rfl rfl rfl (C.2.2.2.2 _ wi_X6) (C.2.2.2.2 _ gl_X7_41) (C.2.2.2.2 _ gi_X7_41) rfl cd_X6_init.2 ⟨Nat.le_of_ble_eq_true rfl, Nat.le_of_ble_eq_true rfl⟩) hl.1 rfl (Nat.le_of_ble_eq_true rfl) dX7_init_65 ⟨Nat.le_of_ble_eq_true rfl, Nat.le_of_ble_eq_true rfl⟩ (fun ad79 g79 H locs hp hw => ?_)
  obtain ⟨hk79, hg79, hp⟩ := hp
  have hh79 : ∀ i, i < 71 → g79 i = g71 i := fun i hi => hg79 i ⟨by omega, by omega⟩
  rw [← hk79 0 (by decide)]
  rw [← hk79 71 (by decide)]
  rw [← hk79 0 (by decide)] at hl
  have e80 : g79 0 = .inr (7, [.ref (ad79 1), .ref (ad79 4), .ref (ad79 6), .ref (ad79 8), .null, .null, .null]) := by rw [hh79 0 (by decide), e72, hk79 1 (by decide), hk79 4 (by decide), hk79 6 (by decide), hk79 8 (by decide)]
  have hf81 : FieldAt ca ad79 g79 1 pwG ex := FieldAt.ext (R := 71) (fun i hi => hk79 i (by omega)) (fun i _ hi => hh79 i hi) (by decide) hf73
  have hf82 : TpAt ca ad79 g79 0 (fun _ => 0) := TpAt.ext (R := 71) (fun i hi => hk79 i (by omega)) (fun i _ hi => hh79 i hi) (by decide) hf74
  have hf83 : PkAt ca ad79 g79 6 0 (fun _ => 0) := PkAt.ext (R := 71) (fun i hi => hk79 i (by omega)) (fun i _ hi => hh79 i hi) (by decide) hf75
  have hf84 : EqAt ca ad79 g79 8 1 0 0 0 (fun _ _ => 0) (fun _ => false) (fun _ => 0) := EqAt.ext (R := 71) (fun i hi => hk79 i (by omega)) (fun i _ hi => hh79 i hi) (by decide) hf76
  have hka85 : ∀ i, i < 1 → ad79 i = ad i := fun i hi => (hk79 i (by omega)).trans (hka77 i hi)
  have hs86 : ∀ z, (z < 1 ∧ z ≠ 0) → g79 z = g z := fun z hz => (hh79 z (by omega)).trans (hs78 z hz)
  have hw : Wd D (AA 1 ad sz) s 73 ad79 g79 H locs := hw
  obtain ⟨fd, hfd, hTr⟩ := hp
  refine k_putF C F hw (0) (by omega) e80 rfl in_X7 tyX7_ok nmX7 hnm 4 (by decide) rfl fl_X7_44 rfl (v := .ref (ad79 71)) rfl rfl (Nat.le_of_ble_eq_true rfl) dX7_init_68 (fun H locs hw => ?_)
  have hw : Wd D (AA 1 ad sz) s 73 ad79 (va_up g79 (0) (.inr (7, [.ref (ad79 1), .ref (ad79 4), .ref (ad79 6), .ref (ad79 8), .ref (ad79 71), .null, .null]))) H locs := hw
  obtain ⟨g87, hg87⟩ : ∃ z, z = va_up g79 (0) (.inr (7, [.ref (ad79 1), .ref (ad79 4), .ref (ad79 6), .ref (ad79 8), .ref (ad79 71), .null, .null])) := ⟨_, rfl⟩
  rw [← hg87] at hw
  have hk88 : ∀ z, z ≠ 0 → g87 z = g79 z := fun z hz => by rw [hg87]; exact va_up_ne _ _ hz
  have e89 : g87 (0) = .inr (7, [.ref (ad79 1), .ref (ad79 4), .ref (ad79 6), .ref (ad79 8), .ref (ad79 71), .null, .null]) := by rw [hg87]; exact va_up_self _ _ _
  have hs90 : ∀ z, (z < 1 ∧ z ≠ 0) → g87 z = g z := fun z hz => (hk88 z (by omega)).trans (hs86 z hz)
  have hf91 : FieldAt ca ad79 g87 1 pwG ex := FieldAt.ext (R := 73) (fun _ _ => rfl) (fun i h1 _ => hk88 i (by omega)) (by decide) hf81
  have hf92 : TpAt ca ad79 g87 0 (fun _ => 0) := TpAt.ext (R := 73) (fun _ _ => rfl) (fun i h1 _ => hk88 i (by omega)) (by decide) hf82
  have hf93 : PkAt ca ad79 g87 6 0 (fun _ => 0) := PkAt.ext (R := 73) (fun _ _ => rfl) (fun i h1 _ => hk88 i (by omega)) (by decide) hf83
  have hf94 : EqAt ca ad79 g87 8 1 0 0 0 (fun _ _ => 0) (fun _ => false) (fun _ => 0) := EqAt.ext (R := 73) (fun _ _ => rfl) (fun i h1 _ => hk88 i (by omega)) (by decide) hf84
  have hf95 : TrAt ca ad79 g87 fd := TrAt.ext (R := 73) (fun _ _ => rfl) (fun i h1 _ => hk88 i (by omega)) (by decide) hTr
  refine lv_aload_n C.1 C.2.1 dX7_init_71 rfl (lv_at hl 0 rfl) ?_
  refine k_new (ci := 0) C F hw in_X0 tyX0_ok kl_X7_48 ki_X0 wi_X0 rfl [.null, .int (nI 0), .int (nI 0), .int (nI 0)] (by intro j hj; exact df_X0 j hj) (Nat.le_of_ble_eq_true rfl) (Nat.le_of_ble_eq_true rfl) dX7_init_72 (fun ad96 g96 H hk96 hg96 eN96 hw => ?_)
  rw [← hk96 0 (by decide)]
  rw [← hk96 0 (by decide)] at hl
  have e97 : g96 0 = .inr (7, [.ref (ad96 1), .ref (ad96 4), .ref (ad96 6), .ref (ad96 8), .ref (ad96 71), .null, .null]) := by rw [hg96 0 (by decide), e89, hk96 1 (by decide), hk96 4 (by decide), hk96 6 (by decide), hk96 8 (by decide), hk96 71 (by decide)]
  have hf98 : FieldAt ca ad96 g96 1 pwG ex := FieldAt.ext (R := 73) hk96 (fun i _ hi => hg96 i hi) (by decide) hf91
  have hf99 : TpAt ca ad96 g96 0 (fun _ => 0) := TpAt.ext (R := 73) hk96 (fun i _ hi => hg96 i hi) (by decide) hf92
  have hf100 : PkAt ca ad96 g96 6 0 (fun _ => 0) := PkAt.ext (R := 73) hk96 (fun i _ hi => hg96 i hi) (by decide) hf93
  have hf101 : EqAt ca ad96 g96 8 1 0 0 0 (fun _ _ => 0) (fun _ => false) (fun _ => 0) := EqAt.ext (R := 73) hk96 (fun i _ hi => hg96 i hi) (by decide) hf94
  have hf102 : TrAt ca ad96 g96 fd := TrAt.ext (R := 73) hk96 (fun i _ hi => hg96 i hi) (by decide) hf95
  have hka103 : ∀ i, i < 1 → ad96 i = ad i := fun i hi => (hk96 i (by omega)).trans (hka85 i hi)
  have hs104 : ∀ z, (z < 1 ∧ z ≠ 0) → g96 z = g z := fun z hz => (hg96 z (by omega)).trans (hs90 z hz)
  have hw : Wd D (AA 1 ad sz) s 74 ad96 g96 H locs := hw
  refine lv_dup C.1 C.2.1 dX7_init_75 rfl ?_
  refine k_I C F hAO hw (i := 73) (As := []) (rest := [.ref (ad96 73), .ref (ad96 0)]) (c_X0_init eN96) (cwI 0 C.2.2.2.2 (good_g cw_X0_init) rfl rfl rfl (C.2.2.2.2 _ wi_X0) (C.2.2.2.2 _ gl_X7_50) (C.2.2.2.2 _ gi_X7_50) rfl cd_X0_init.2 ⟨Nat.le_of_ble_eq_true rfl, Nat.le_of_ble_eq_true rfl⟩) hl.1 rfl (Nat.le_of_ble_eq_true rfl) dX7_init_76 ⟨Nat.le_of_ble_eq_true rfl, Nat.le_of_ble_eq_true rfl⟩ (fun ad105 g105 H locs hp hw => ?_)
  obtain ⟨hk105, hg105, hp⟩ := hp
  have hh105 : ∀ i, i < 73 → g105 i = g96 i := fun i hi => hg105 i ⟨by omega, by omega⟩
  rw [← hk105 0 (by decide)]
  rw [← hk105 73 (by decide)]
  rw [← hk105 0 (by decide)] at hl
  have e106 : g105 0 = .inr (7, [.ref (ad105 1), .ref (ad105 4), .ref (ad105 6), .ref (ad105 8), .ref (ad105 71), .null, .null]) := by rw [hh105 0 (by decide), e97, hk105 1 (by decide), hk105 4 (by decide), hk105 6 (by decide), hk105 8 (by decide), hk105 71 (by decide)]
  have hf107 : FieldAt ca ad105 g105 1 pwG ex := FieldAt.ext (R := 73) (fun i hi => hk105 i (by omega)) (fun i _ hi => hh105 i hi) (by decide) hf98
  have hf108 : TpAt ca ad105 g105 0 (fun _ => 0) := TpAt.ext (R := 73) (fun i hi => hk105 i (by omega)) (fun i _ hi => hh105 i hi) (by decide) hf99
  have hf109 : PkAt ca ad105 g105 6 0 (fun _ => 0) := PkAt.ext (R := 73) (fun i hi => hk105 i (by omega)) (fun i _ hi => hh105 i hi) (by decide) hf100
  have hf110 : EqAt ca ad105 g105 8 1 0 0 0 (fun _ _ => 0) (fun _ => false) (fun _ => 0) := EqAt.ext (R := 73) (fun i hi => hk105 i (by omega)) (fun i _ hi => hh105 i hi) (by decide) hf101
  have hf111 : TrAt ca ad105 g105 fd := TrAt.ext (R := 73) (fun i hi => hk105 i (by omega)) (fun i _ hi => hh105 i hi) (by decide) hf102
  have hka112 : ∀ i, i < 1 → ad105 i = ad i := fun i hi => (hk105 i (by omega)).trans (hka103 i hi)
  have hs113 : ∀ z, (z < 1 ∧ z ≠ 0) → g105 z = g z := fun z hz => (hh105 z (by omega)).trans (hs104 z hz)
  have hw : Wd D (AA 1 ad sz) s 134 ad105 g105 H locs := hw
  have hBk := hp
  refine k_putF C F hw (0) (by omega) e106 rfl in_X7 tyX7_ok nmX7 hnm 5 (by decide) rfl fl_X7_51 rfl (v := .ref (ad105 73)) rfl rfl (Nat.le_of_ble_eq_true rfl) dX7_init_79 (fun H locs hw => ?_)
  have hw : Wd D (AA 1 ad sz) s 134 ad105 (va_up g105 (0) (.inr (7, [.ref (ad105 1), .ref (ad105 4), .ref (ad105 6), .ref (ad105 8), .ref (ad105 71), .ref (ad105 73), .null]))) H locs := hw
  obtain ⟨g114, hg114⟩ : ∃ z, z = va_up g105 (0) (.inr (7, [.ref (ad105 1), .ref (ad105 4), .ref (ad105 6), .ref (ad105 8), .ref (ad105 71), .ref (ad105 73), .null])) := ⟨_, rfl⟩
  rw [← hg114] at hw
  have hk115 : ∀ z, z ≠ 0 → g114 z = g105 z := fun z hz => by rw [hg114]; exact va_up_ne _ _ hz
  have e116 : g114 (0) = .inr (7, [.ref (ad105 1), .ref (ad105 4), .ref (ad105 6), .ref (ad105 8), .ref (ad105 71), .ref (ad105 73), .null]) := by rw [hg114]; exact va_up_self _ _ _
  have hs117 : ∀ z, (z < 1 ∧ z ≠ 0) → g114 z = g z := fun z hz => (hk115 z (by omega)).trans (hs113 z hz)
  have hf118 : FieldAt ca ad105 g114 1 pwG ex := FieldAt.ext (R := 134) (fun _ _ => rfl) (fun i h1 _ => hk115 i (by omega)) (by decide) hf107
  have hf119 : TpAt ca ad105 g114 0 (fun _ => 0) := TpAt.ext (R := 134) (fun _ _ => rfl) (fun i h1 _ => hk115 i (by omega)) (by decide) hf108
  have hf120 : PkAt ca ad105 g114 6 0 (fun _ => 0) := PkAt.ext (R := 134) (fun _ _ => rfl) (fun i h1 _ => hk115 i (by omega)) (by decide) hf109
  have hf121 : EqAt ca ad105 g114 8 1 0 0 0 (fun _ _ => 0) (fun _ => false) (fun _ => 0) := EqAt.ext (R := 134) (fun _ _ => rfl) (fun i h1 _ => hk115 i (by omega)) (by decide) hf110
  have hf122 : TrAt ca ad105 g114 fd := TrAt.ext (R := 134) (fun _ _ => rfl) (fun i h1 _ => hk115 i (by omega)) (by decide) hf111
  have hf123 : BlkAt ca ad105 g114 0 0 0 (fun _ _ => 0) := BlkAt.ext (R := 134) (fun _ _ => rfl) (fun i h1 _ => hk115 i (by omega)) (by decide) hBk
  refine lv_aload_n C.1 C.2.1 dX7_init_82 rfl (lv_at hl 0 rfl) ?_
  refine k_new (ci := 1) C F hw in_X1 tyX1_ok kl_X7_55 ki_X1 wi_X1 rfl [.null, .int (nI 0), .int (nI 0), .int (nI 0), .int (nI 0)] (by intro j hj; exact df_X1 j hj) (Nat.le_of_ble_eq_true rfl) (Nat.le_of_ble_eq_true rfl) dX7_init_83 (fun ad124 g124 H hk124 hg124 eN124 hw => ?_)
  rw [← hk124 0 (by decide)]
  rw [← hk124 0 (by decide)] at hl
  have e125 : g124 0 = .inr (7, [.ref (ad124 1), .ref (ad124 4), .ref (ad124 6), .ref (ad124 8), .ref (ad124 71), .ref (ad124 73), .null]) := by rw [hg124 0 (by decide), e116, hk124 1 (by decide), hk124 4 (by decide), hk124 6 (by decide), hk124 8 (by decide), hk124 71 (by decide), hk124 73 (by decide)]
  have hf126 : FieldAt ca ad124 g124 1 pwG ex := FieldAt.ext (R := 134) hk124 (fun i _ hi => hg124 i hi) (by decide) hf118
  have hf127 : TpAt ca ad124 g124 0 (fun _ => 0) := TpAt.ext (R := 134) hk124 (fun i _ hi => hg124 i hi) (by decide) hf119
  have hf128 : PkAt ca ad124 g124 6 0 (fun _ => 0) := PkAt.ext (R := 134) hk124 (fun i _ hi => hg124 i hi) (by decide) hf120
  have hf129 : EqAt ca ad124 g124 8 1 0 0 0 (fun _ _ => 0) (fun _ => false) (fun _ => 0) := EqAt.ext (R := 134) hk124 (fun i _ hi => hg124 i hi) (by decide) hf121
  have hf130 : TrAt ca ad124 g124 fd := TrAt.ext (R := 134) hk124 (fun i _ hi => hg124 i hi) (by decide) hf122
  have hf131 : BlkAt ca ad124 g124 0 0 0 (fun _ _ => 0) := BlkAt.ext (R := 134) hk124 (fun i _ hi => hg124 i hi) (by decide) hf123
  have hka132 : ∀ i, i < 1 → ad124 i = ad i := fun i hi => (hk124 i (by omega)).trans (hka112 i hi)
  have hs133 : ∀ z, (z < 1 ∧ z ≠ 0) → g124 z = g z := fun z hz => (hg124 z (by omega)).trans (hs117 z hz)
  have hw : Wd D (AA 1 ad sz) s 135 ad124 g124 H locs := hw
  refine lv_dup C.1 C.2.1 dX7_init_86 rfl ?_
  refine lv_aload_n C.1 C.2.1 dX7_init_87 rfl (lv_at hl 0 rfl) ?_
  refine k_get C F hw (0) (by omega) e125 rfl in_X7 0 (by decide) fl_X7_12 rfl dX7_init_88 ?_
  refine k_I C F hAO hw (i := 134) (As := [.ref (ad124 1)]) (rest := [.ref (ad124 134), .ref (ad124 0)]) (c_X1_init eN124) (cwI 1 C.2.2.2.2 (good_g cw_X1_init) rfl rfl rfl (C.2.2.2.2 _ wi_X1) (C.2.2.2.2 _ gl_X7_57) (C.2.2.2.2 _ gi_X7_57) rfl cd_X1_init.2 ⟨Nat.le_of_ble_eq_true rfl, Nat.le_of_ble_eq_true rfl⟩) hl.1 rfl (Nat.le_of_ble_eq_true rfl) dX7_init_91 ⟨Nat.le_of_ble_eq_true rfl, Nat.le_of_ble_eq_true rfl⟩ (fun ad134 g134 H locs hp hw => ?_)
  obtain ⟨hk134, hg134, hp⟩ := hp
  have hh134 : ∀ i, i < 134 → g134 i = g124 i := fun i hi => hg134 i ⟨by omega, by omega⟩
  rw [← hk134 0 (by decide)]
  rw [← hk134 134 (by decide)]
  rw [← hk134 0 (by decide)] at hl
  have e135 : g134 0 = .inr (7, [.ref (ad134 1), .ref (ad134 4), .ref (ad134 6), .ref (ad134 8), .ref (ad134 71), .ref (ad134 73), .null]) := by rw [hh134 0 (by decide), e125, hk134 1 (by decide), hk134 4 (by decide), hk134 6 (by decide), hk134 8 (by decide), hk134 71 (by decide), hk134 73 (by decide)]
  have hf136 : FieldAt ca ad134 g134 1 pwG ex := FieldAt.ext (R := 134) (fun i hi => hk134 i (by omega)) (fun i _ hi => hh134 i hi) (by decide) hf126
  have hf137 : TpAt ca ad134 g134 0 (fun _ => 0) := TpAt.ext (R := 134) (fun i hi => hk134 i (by omega)) (fun i _ hi => hh134 i hi) (by decide) hf127
  have hf138 : PkAt ca ad134 g134 6 0 (fun _ => 0) := PkAt.ext (R := 134) (fun i hi => hk134 i (by omega)) (fun i _ hi => hh134 i hi) (by decide) hf128
  have hf139 : EqAt ca ad134 g134 8 1 0 0 0 (fun _ _ => 0) (fun _ => false) (fun _ => 0) := EqAt.ext (R := 134) (fun i hi => hk134 i (by omega)) (fun i _ hi => hh134 i hi) (by decide) hf129
  have hf140 : TrAt ca ad134 g134 fd := TrAt.ext (R := 134) (fun i hi => hk134 i (by omega)) (fun i _ hi => hh134 i hi) (by decide) hf130
  have hf141 : BlkAt ca ad134 g134 0 0 0 (fun _ _ => 0) := BlkAt.ext (R := 134) (fun i hi => hk134 i (by omega)) (fun i _ hi => hh134 i hi) (by decide) hf131
  have hka142 : ∀ i, i < 1 → ad134 i = ad i := fun i hi => (hk134 i (by omega)).trans (hka132 i hi)
  have hs143 : ∀ z, (z < 1 ∧ z ≠ 0) → g134 z = g z := fun z hz => (hh134 z (by omega)).trans (hs133 z hz)
  have hw : Wd D (AA 1 ad sz) s 198 ad134 g134 H locs := hw
  obtain ⟨hCt, hEc⟩ := hp
  refine k_putF C F hw (0) (by omega) e135 rfl in_X7 tyX7_ok nmX7 hnm 6 (by decide) rfl fl_X7_58 rfl (v := .ref (ad134 134)) rfl rfl (Nat.le_of_ble_eq_true rfl) dX7_init_94 (fun H locs hw => ?_)
  have hw : Wd D (AA 1 ad sz) s 198 ad134 (va_up g134 (0) (.inr (7, [.ref (ad134 1), .ref (ad134 4), .ref (ad134 6), .ref (ad134 8), .ref (ad134 71), .ref (ad134 73), .ref (ad134 134)]))) H locs := hw
  obtain ⟨g144, hg144⟩ : ∃ z, z = va_up g134 (0) (.inr (7, [.ref (ad134 1), .ref (ad134 4), .ref (ad134 6), .ref (ad134 8), .ref (ad134 71), .ref (ad134 73), .ref (ad134 134)])) := ⟨_, rfl⟩
  rw [← hg144] at hw
  have hk145 : ∀ z, z ≠ 0 → g144 z = g134 z := fun z hz => by rw [hg144]; exact va_up_ne _ _ hz
  have e146 : g144 (0) = .inr (7, [.ref (ad134 1), .ref (ad134 4), .ref (ad134 6), .ref (ad134 8), .ref (ad134 71), .ref (ad134 73), .ref (ad134 134)]) := by rw [hg144]; exact va_up_self _ _ _
  have e147 : g144 (134) = .inr (1, [.ref (ad134 135), .int (nI 0), .int (nI 0), .int (nI 0), .int (nI 0)]) := (hk145 _ (by omega)).trans hCt
  have hs148 : ∀ z, (z < 1 ∧ z ≠ 0) → g144 z = g z := fun z hz => (hk145 z (by omega)).trans (hs143 z hz)
  have hf149 : FieldAt ca ad134 g144 1 pwG ex := FieldAt.ext (R := 198) (fun _ _ => rfl) (fun i h1 _ => hk145 i (by omega)) (by decide) hf136
  have hf150 : TpAt ca ad134 g144 0 (fun _ => 0) := TpAt.ext (R := 198) (fun _ _ => rfl) (fun i h1 _ => hk145 i (by omega)) (by decide) hf137
  have hf151 : PkAt ca ad134 g144 6 0 (fun _ => 0) := PkAt.ext (R := 198) (fun _ _ => rfl) (fun i h1 _ => hk145 i (by omega)) (by decide) hf138
  have hf152 : EqAt ca ad134 g144 8 1 0 0 0 (fun _ _ => 0) (fun _ => false) (fun _ => 0) := EqAt.ext (R := 198) (fun _ _ => rfl) (fun i h1 _ => hk145 i (by omega)) (by decide) hf139
  have hf153 : TrAt ca ad134 g144 fd := TrAt.ext (R := 198) (fun _ _ => rfl) (fun i h1 _ => hk145 i (by omega)) (by decide) hf140
  have hf154 : BlkAt ca ad134 g144 0 0 0 (fun _ _ => 0) := BlkAt.ext (R := 198) (fun _ _ => rfl) (fun i h1 _ => hk145 i (by omega)) (by decide) hf141
  have hf155 : EqAt ca ad134 g144 135 1 0 0 0 (fun _ _ => 0) (fun _ => false) (fun _ => 0) := EqAt.ext (R := 198) (fun _ _ => rfl) (fun i h1 _ => hk145 i (by omega)) (by decide) hEc
  have hz9 : By (fun _ => 0) := fun _ => by show 0 < 256; decide
  exact hret H locs ls _ _ _ dX7_init_97 hw (⟨hka142, hs148, ex, (fun _ _ => 0), (fun _ => false), htab, e146, hf149, hf150, ⟨_, _, hf151⟩, ⟨0, 0, (0, (fun _ _ => 0), (fun _ => false), (fun _ => 0)), hf152, ⟨fun _ => hz9, hz9⟩⟩, (hf153).1, ⟨fd, (hf153).2, fun k h1 h2 => Or.inl (hfd k h1 h2)⟩, hf154, e147, ⟨(fun _ => 0), hz9, hf155⟩, ⟨by decide, hz9⟩, ⟨Or.inl ⟨rfl, rfl⟩, fun _ => hz9⟩, ⟨Or.inl ⟨rfl, rfl⟩, fun _ => hz9⟩⟩)

theorem m_pw2 {i : Nat} : mt (pwG i) 2 = pwG (i + 1) := by rw [show (2 : Nat) = pwG 1 from rfl, mt_pp]
theorem tn0 {F : Nat → Int32} {i : Nat} (h : ∀ j, j < i → F j = -1) : ∀ j, j < i + 1 → upd F i (-1) j = -1 := fun j hj => by
  by_cases e : j = i
  · subst e; exact upd_self
  · rw [upd_ne e]; exact h j (by omega)
theorem pw0 {F : Nat → Nat} {i : Nat} (h : ∀ j, j < i → F j = pwG j) : ∀ j, j < i + 1 → va_up F i (pwG i) j = pwG j := fun j hj => by
  by_cases e : j = i
  · subst e; exact va_up_self _ _ _
  · rw [va_up_ne _ _ e]; exact h j (by omega)

abbrev rm_X8_init : Room := { frames := 1, cells := 9, slots := 15684, locals := 40 }

set_option maxHeartbeats 800000 in
set_option maxRecDepth 100000 in
/-- X8_init -/
theorem c_X8_init {l : Launch} {D : va_G} {ca : Nat → ClassId} {tB tS : Nat} {ad : Nat → Nat} {g : Nat → va_E} {sz : Nat} (e0 : g 198 = .inr (8, [.int (nI 0), .null, .int (nI 0), .null, .int (nI 0), .int (nI 0), .null, .int (nI 0), .int (nI 0), .null, .int (nI 0), .int (nI 0), .null, .null, .int (nI 0), .null, .null, .int (bI (false)), .null])) : MN l yX8_init cX8_init 3 rm_X8_init D ca tB tS 199 208 ad g sz [.ref (ad 198)] 9 15684 (fun ad1 g1 => (∀ i, i < 199 → ad1 i = ad i) ∧ (∀ i, i < 199 ∧ i ≠ 198 → g1 i = g i) ∧ MInv ca ad1 g1 pwG (nI 0) 0 (fun _ => 0) 0 0 (fun _ _ => 0) 0 0 (fun _ _ => 0) 0 0) := by
  refine m_startN (by decide +kernel) (Nat.le_of_ble_eq_true rfl) (fun p e s m args below meth c ls Q hsz C hnm hl F hAO hw hret => ?_)
  have hl : lv_has ls 3 [(0, .ref (ad 198))] := hl
  generalize s.heap = H at hw ⊢
  generalize ([] : List Loc) = locs at hw ⊢
  refine lv_aload_n C.1 C.2.1 dX8_init_0 rfl (lv_at hl 0 rfl) ?_
  refine k_obj C lo_X8 hl.1 (Nat.le_of_ble_eq_true rfl) dX8_init_1 (Nat.le_of_ble_eq_true rfl) (Nat.le_of_ble_eq_true rfl) ?_
  refine lv_aload_n C.1 C.2.1 dX8_init_4 rfl (lv_at hl 0 rfl) ?_
  refine k_sip C 800 dX8_init_5 (by decide) ?_
  refine k_newB C F hw 800 (by decide) (Nat.le_of_ble_eq_true rfl) (Nat.le_of_ble_eq_true rfl) dX8_init_8 (fun ad1 g1 H hk1 hg1 eN1 hw => ?_)
  rw [← hk1 198 (by decide)]
  rw [← hk1 198 (by decide)] at hl
  have e2 : g1 198 = .inr (8, [.int (nI 0), .null, .int (nI 0), .null, .int (nI 0), .int (nI 0), .null, .int (nI 0), .int (nI 0), .null, .int (nI 0), .int (nI 0), .null, .null, .int (nI 0), .null, .null, .int (bI (false)), .null]) := (hg1 198 (by decide)).trans e0
  have hka3 : ∀ i, i < 199 → ad1 i = ad i := fun i hi => hk1 i hi
  have hs4 : ∀ z, (z < 199 ∧ z ≠ 198) → g1 z = g z := fun z hz => (hg1 z (by omega)).trans ((fun z _ => rfl) z hz)
  have hw : Wd D (AA 199 ad sz) s 200 ad1 g1 H locs := hw
  refine k_putF C F hw (198) (by omega) e2 rfl in_X8 tyX8_ok nmX8 hnm 1 (by decide) rfl fl_X8_7 rfl (v := .ref (ad1 199)) rfl rfl (Nat.le_of_ble_eq_true rfl) dX8_init_10 (fun H locs hw => ?_)
  have hw : Wd D (AA 199 ad sz) s 200 ad1 (va_up g1 (198) (.inr (8, [.int (nI 0), .ref (ad1 199), .int (nI 0), .null, .int (nI 0), .int (nI 0), .null, .int (nI 0), .int (nI 0), .null, .int (nI 0), .int (nI 0), .null, .null, .int (nI 0), .null, .null, .int (bI (false)), .null]))) H locs := hw
  obtain ⟨g5, hg5⟩ : ∃ z, z = va_up g1 (198) (.inr (8, [.int (nI 0), .ref (ad1 199), .int (nI 0), .null, .int (nI 0), .int (nI 0), .null, .int (nI 0), .int (nI 0), .null, .int (nI 0), .int (nI 0), .null, .null, .int (nI 0), .null, .null, .int (bI (false)), .null])) := ⟨_, rfl⟩
  rw [← hg5] at hw
  have hk6 : ∀ z, z ≠ 198 → g5 z = g1 z := fun z hz => by rw [hg5]; exact va_up_ne _ _ hz
  have e7 : g5 (198) = .inr (8, [.int (nI 0), .ref (ad1 199), .int (nI 0), .null, .int (nI 0), .int (nI 0), .null, .int (nI 0), .int (nI 0), .null, .int (nI 0), .int (nI 0), .null, .null, .int (nI 0), .null, .null, .int (bI (false)), .null]) := by rw [hg5]; exact va_up_self _ _ _
  have e8 : g5 (199) = ba ca 800 (fun _ => 0) := (hk6 _ (by omega)).trans eN1
  have hs9 : ∀ z, (z < 199 ∧ z ≠ 198) → g5 z = g z := fun z hz => (hk6 z (by omega)).trans (hs4 z hz)
  refine lv_aload_n C.1 C.2.1 dX8_init_13 rfl (lv_at hl 0 rfl) ?_
  refine k_bip C 49 dX8_init_14 (by decide) ?_
  refine k_newI C F hw 49 (by decide) (Nat.le_of_ble_eq_true rfl) (Nat.le_of_ble_eq_true rfl) dX8_init_16 (fun ad10 g10 H hk10 hg10 eN10 hw => ?_)
  rw [← hk10 198 (by decide)]
  rw [← hk10 198 (by decide)] at hl
  have e11 : g10 198 = .inr (8, [.int (nI 0), .ref (ad10 199), .int (nI 0), .null, .int (nI 0), .int (nI 0), .null, .int (nI 0), .int (nI 0), .null, .int (nI 0), .int (nI 0), .null, .null, .int (nI 0), .null, .null, .int (bI (false)), .null]) := by rw [hg10 198 (by decide), e7, hk10 199 (by decide)]
  have e12 : g10 199 = ba ca 800 (fun _ => 0) := (hg10 199 (by decide)).trans e8
  have hka13 : ∀ i, i < 199 → ad10 i = ad i := fun i hi => (hk10 i (by omega)).trans (hka3 i hi)
  have hs14 : ∀ z, (z < 199 ∧ z ≠ 198) → g10 z = g z := fun z hz => (hg10 z (by omega)).trans (hs9 z hz)
  have hw : Wd D (AA 199 ad sz) s 201 ad10 g10 H locs := hw
  refine k_putF C F hw (198) (by omega) e11 rfl in_X8 tyX8_ok nmX8 hnm 3 (by decide) rfl fl_X8_13 rfl (v := .ref (ad10 200)) rfl rfl (Nat.le_of_ble_eq_true rfl) dX8_init_18 (fun H locs hw => ?_)
  have hw : Wd D (AA 199 ad sz) s 201 ad10 (va_up g10 (198) (.inr (8, [.int (nI 0), .ref (ad10 199), .int (nI 0), .ref (ad10 200), .int (nI 0), .int (nI 0), .null, .int (nI 0), .int (nI 0), .null, .int (nI 0), .int (nI 0), .null, .null, .int (nI 0), .null, .null, .int (bI (false)), .null]))) H locs := hw
  obtain ⟨g15, hg15⟩ : ∃ z, z = va_up g10 (198) (.inr (8, [.int (nI 0), .ref (ad10 199), .int (nI 0), .ref (ad10 200), .int (nI 0), .int (nI 0), .null, .int (nI 0), .int (nI 0), .null, .int (nI 0), .int (nI 0), .null, .null, .int (nI 0), .null, .null, .int (bI (false)), .null])) := ⟨_, rfl⟩
  rw [← hg15] at hw
  have hk16 : ∀ z, z ≠ 198 → g15 z = g10 z := fun z hz => by rw [hg15]; exact va_up_ne _ _ hz
  have e17 : g15 (198) = .inr (8, [.int (nI 0), .ref (ad10 199), .int (nI 0), .ref (ad10 200), .int (nI 0), .int (nI 0), .null, .int (nI 0), .int (nI 0), .null, .int (nI 0), .int (nI 0), .null, .null, .int (nI 0), .null, .null, .int (bI (false)), .null]) := by rw [hg15]; exact va_up_self _ _ _
  have e18 : g15 (199) = ba ca 800 (fun _ => 0) := (hk16 _ (by omega)).trans e12
  have e19 : g15 (200) = na ca 49 (fun _ => 0) := (hk16 _ (by omega)).trans eN10
  have hs20 : ∀ z, (z < 199 ∧ z ≠ 198) → g15 z = g z := fun z hz => (hk16 z (by omega)).trans (hs14 z hz)
  refine lv_aload_n C.1 C.2.1 dX8_init_21 rfl (lv_at hl 0 rfl) ?_
  refine k_sip C 944 dX8_init_22 (by decide) ?_
  refine k_newI C F hw 944 (by decide) (Nat.le_of_ble_eq_true rfl) (Nat.le_of_ble_eq_true rfl) dX8_init_25 (fun ad21 g21 H hk21 hg21 eN21 hw => ?_)
  rw [← hk21 198 (by decide)]
  rw [← hk21 198 (by decide)] at hl
  have e22 : g21 198 = .inr (8, [.int (nI 0), .ref (ad21 199), .int (nI 0), .ref (ad21 200), .int (nI 0), .int (nI 0), .null, .int (nI 0), .int (nI 0), .null, .int (nI 0), .int (nI 0), .null, .null, .int (nI 0), .null, .null, .int (bI (false)), .null]) := by rw [hg21 198 (by decide), e17, hk21 199 (by decide), hk21 200 (by decide)]
  have e23 : g21 199 = ba ca 800 (fun _ => 0) := (hg21 199 (by decide)).trans e18
  have e24 : g21 200 = na ca 49 (fun _ => 0) := (hg21 200 (by decide)).trans e19
  have hka25 : ∀ i, i < 199 → ad21 i = ad i := fun i hi => (hk21 i (by omega)).trans (hka13 i hi)
  have hs26 : ∀ z, (z < 199 ∧ z ≠ 198) → g21 z = g z := fun z hz => (hg21 z (by omega)).trans (hs20 z hz)
  have hw : Wd D (AA 199 ad sz) s 202 ad21 g21 H locs := hw
  refine k_putF C F hw (198) (by omega) e22 rfl in_X8 tyX8_ok nmX8 hnm 6 (by decide) rfl fl_X8_17 rfl (v := .ref (ad21 201)) rfl rfl (Nat.le_of_ble_eq_true rfl) dX8_init_27 (fun H locs hw => ?_)
  have hw : Wd D (AA 199 ad sz) s 202 ad21 (va_up g21 (198) (.inr (8, [.int (nI 0), .ref (ad21 199), .int (nI 0), .ref (ad21 200), .int (nI 0), .int (nI 0), .ref (ad21 201), .int (nI 0), .int (nI 0), .null, .int (nI 0), .int (nI 0), .null, .null, .int (nI 0), .null, .null, .int (bI (false)), .null]))) H locs := hw
  obtain ⟨g27, hg27⟩ : ∃ z, z = va_up g21 (198) (.inr (8, [.int (nI 0), .ref (ad21 199), .int (nI 0), .ref (ad21 200), .int (nI 0), .int (nI 0), .ref (ad21 201), .int (nI 0), .int (nI 0), .null, .int (nI 0), .int (nI 0), .null, .null, .int (nI 0), .null, .null, .int (bI (false)), .null])) := ⟨_, rfl⟩
  rw [← hg27] at hw
  have hk28 : ∀ z, z ≠ 198 → g27 z = g21 z := fun z hz => by rw [hg27]; exact va_up_ne _ _ hz
  have e29 : g27 (198) = .inr (8, [.int (nI 0), .ref (ad21 199), .int (nI 0), .ref (ad21 200), .int (nI 0), .int (nI 0), .ref (ad21 201), .int (nI 0), .int (nI 0), .null, .int (nI 0), .int (nI 0), .null, .null, .int (nI 0), .null, .null, .int (bI (false)), .null]) := by rw [hg27]; exact va_up_self _ _ _
  have e30 : g27 (199) = ba ca 800 (fun _ => 0) := (hk28 _ (by omega)).trans e23
  have e31 : g27 (200) = na ca 49 (fun _ => 0) := (hk28 _ (by omega)).trans e24
  have e32 : g27 (201) = na ca 944 (fun _ => 0) := (hk28 _ (by omega)).trans eN21
  have hs33 : ∀ z, (z < 199 ∧ z ≠ 198) → g27 z = g z := fun z hz => (hk28 z (by omega)).trans (hs26 z hz)
  refine lv_aload_n C.1 C.2.1 dX8_init_30 rfl (lv_at hl 0 rfl) ?_
  refine k_sip C 4425 dX8_init_31 (by decide) ?_
  refine k_newI C F hw 4425 (by decide) (Nat.le_of_ble_eq_true rfl) (Nat.le_of_ble_eq_true rfl) dX8_init_34 (fun ad34 g34 H hk34 hg34 eN34 hw => ?_)
  rw [← hk34 198 (by decide)]
  rw [← hk34 198 (by decide)] at hl
  have e35 : g34 198 = .inr (8, [.int (nI 0), .ref (ad34 199), .int (nI 0), .ref (ad34 200), .int (nI 0), .int (nI 0), .ref (ad34 201), .int (nI 0), .int (nI 0), .null, .int (nI 0), .int (nI 0), .null, .null, .int (nI 0), .null, .null, .int (bI (false)), .null]) := by rw [hg34 198 (by decide), e29, hk34 199 (by decide), hk34 200 (by decide), hk34 201 (by decide)]
  have e36 : g34 199 = ba ca 800 (fun _ => 0) := (hg34 199 (by decide)).trans e30
  have e37 : g34 200 = na ca 49 (fun _ => 0) := (hg34 200 (by decide)).trans e31
  have e38 : g34 201 = na ca 944 (fun _ => 0) := (hg34 201 (by decide)).trans e32
  have hka39 : ∀ i, i < 199 → ad34 i = ad i := fun i hi => (hk34 i (by omega)).trans (hka25 i hi)
  have hs40 : ∀ z, (z < 199 ∧ z ≠ 198) → g34 z = g z := fun z hz => (hg34 z (by omega)).trans (hs33 z hz)
  have hw : Wd D (AA 199 ad sz) s 203 ad34 g34 H locs := hw
  refine k_putF C F hw (198) (by omega) e35 rfl in_X8 tyX8_ok nmX8 hnm 9 (by decide) rfl fl_X8_20 rfl (v := .ref (ad34 202)) rfl rfl (Nat.le_of_ble_eq_true rfl) dX8_init_36 (fun H locs hw => ?_)
  have hw : Wd D (AA 199 ad sz) s 203 ad34 (va_up g34 (198) (.inr (8, [.int (nI 0), .ref (ad34 199), .int (nI 0), .ref (ad34 200), .int (nI 0), .int (nI 0), .ref (ad34 201), .int (nI 0), .int (nI 0), .ref (ad34 202), .int (nI 0), .int (nI 0), .null, .null, .int (nI 0), .null, .null, .int (bI (false)), .null]))) H locs := hw
  obtain ⟨g41, hg41⟩ : ∃ z, z = va_up g34 (198) (.inr (8, [.int (nI 0), .ref (ad34 199), .int (nI 0), .ref (ad34 200), .int (nI 0), .int (nI 0), .ref (ad34 201), .int (nI 0), .int (nI 0), .ref (ad34 202), .int (nI 0), .int (nI 0), .null, .null, .int (nI 0), .null, .null, .int (bI (false)), .null])) := ⟨_, rfl⟩
  rw [← hg41] at hw
  have hk42 : ∀ z, z ≠ 198 → g41 z = g34 z := fun z hz => by rw [hg41]; exact va_up_ne _ _ hz
  have e43 : g41 (198) = .inr (8, [.int (nI 0), .ref (ad34 199), .int (nI 0), .ref (ad34 200), .int (nI 0), .int (nI 0), .ref (ad34 201), .int (nI 0), .int (nI 0), .ref (ad34 202), .int (nI 0), .int (nI 0), .null, .null, .int (nI 0), .null, .null, .int (bI (false)), .null]) := by rw [hg41]; exact va_up_self _ _ _
  have e44 : g41 (199) = ba ca 800 (fun _ => 0) := (hk42 _ (by omega)).trans e36
  have e45 : g41 (200) = na ca 49 (fun _ => 0) := (hk42 _ (by omega)).trans e37
  have e46 : g41 (201) = na ca 944 (fun _ => 0) := (hk42 _ (by omega)).trans e38
  have e47 : g41 (202) = na ca 4425 (fun _ => 0) := (hk42 _ (by omega)).trans eN34
  have hs48 : ∀ z, (z < 199 ∧ z ≠ 198) → g41 z = g z := fun z hz => (hk42 z (by omega)).trans (hs40 z hz)
  refine lv_aload_n C.1 C.2.1 dX8_init_39 rfl (lv_at hl 0 rfl) ?_
  refine k_sip C 9000 dX8_init_40 (by decide) ?_
  refine k_newI C F hw 9000 (by decide) (Nat.le_of_ble_eq_true rfl) (Nat.le_of_ble_eq_true rfl) dX8_init_43 (fun ad49 g49 H hk49 hg49 eN49 hw => ?_)
  rw [← hk49 198 (by decide)]
  rw [← hk49 198 (by decide)] at hl
  have e50 : g49 198 = .inr (8, [.int (nI 0), .ref (ad49 199), .int (nI 0), .ref (ad49 200), .int (nI 0), .int (nI 0), .ref (ad49 201), .int (nI 0), .int (nI 0), .ref (ad49 202), .int (nI 0), .int (nI 0), .null, .null, .int (nI 0), .null, .null, .int (bI (false)), .null]) := by rw [hg49 198 (by decide), e43, hk49 199 (by decide), hk49 200 (by decide), hk49 201 (by decide), hk49 202 (by decide)]
  have e51 : g49 199 = ba ca 800 (fun _ => 0) := (hg49 199 (by decide)).trans e44
  have e52 : g49 200 = na ca 49 (fun _ => 0) := (hg49 200 (by decide)).trans e45
  have e53 : g49 201 = na ca 944 (fun _ => 0) := (hg49 201 (by decide)).trans e46
  have e54 : g49 202 = na ca 4425 (fun _ => 0) := (hg49 202 (by decide)).trans e47
  have hka55 : ∀ i, i < 199 → ad49 i = ad i := fun i hi => (hk49 i (by omega)).trans (hka39 i hi)
  have hs56 : ∀ z, (z < 199 ∧ z ≠ 198) → g49 z = g z := fun z hz => (hg49 z (by omega)).trans (hs48 z hz)
  have hw : Wd D (AA 199 ad sz) s 204 ad49 g49 H locs := hw
  refine k_putF C F hw (198) (by omega) e50 rfl in_X8 tyX8_ok nmX8 hnm 12 (by decide) rfl fl_X8_23 rfl (v := .ref (ad49 203)) rfl rfl (Nat.le_of_ble_eq_true rfl) dX8_init_45 (fun H locs hw => ?_)
  have hw : Wd D (AA 199 ad sz) s 204 ad49 (va_up g49 (198) (.inr (8, [.int (nI 0), .ref (ad49 199), .int (nI 0), .ref (ad49 200), .int (nI 0), .int (nI 0), .ref (ad49 201), .int (nI 0), .int (nI 0), .ref (ad49 202), .int (nI 0), .int (nI 0), .ref (ad49 203), .null, .int (nI 0), .null, .null, .int (bI (false)), .null]))) H locs := hw
  obtain ⟨g57, hg57⟩ : ∃ z, z = va_up g49 (198) (.inr (8, [.int (nI 0), .ref (ad49 199), .int (nI 0), .ref (ad49 200), .int (nI 0), .int (nI 0), .ref (ad49 201), .int (nI 0), .int (nI 0), .ref (ad49 202), .int (nI 0), .int (nI 0), .ref (ad49 203), .null, .int (nI 0), .null, .null, .int (bI (false)), .null])) := ⟨_, rfl⟩
  rw [← hg57] at hw
  have hk58 : ∀ z, z ≠ 198 → g57 z = g49 z := fun z hz => by rw [hg57]; exact va_up_ne _ _ hz
  have e59 : g57 (198) = .inr (8, [.int (nI 0), .ref (ad49 199), .int (nI 0), .ref (ad49 200), .int (nI 0), .int (nI 0), .ref (ad49 201), .int (nI 0), .int (nI 0), .ref (ad49 202), .int (nI 0), .int (nI 0), .ref (ad49 203), .null, .int (nI 0), .null, .null, .int (bI (false)), .null]) := by rw [hg57]; exact va_up_self _ _ _
  have e60 : g57 (199) = ba ca 800 (fun _ => 0) := (hk58 _ (by omega)).trans e51
  have e61 : g57 (200) = na ca 49 (fun _ => 0) := (hk58 _ (by omega)).trans e52
  have e62 : g57 (201) = na ca 944 (fun _ => 0) := (hk58 _ (by omega)).trans e53
  have e63 : g57 (202) = na ca 4425 (fun _ => 0) := (hk58 _ (by omega)).trans e54
  have e64 : g57 (203) = na ca 9000 (fun _ => 0) := (hk58 _ (by omega)).trans eN49
  have hs65 : ∀ z, (z < 199 ∧ z ≠ 198) → g57 z = g z := fun z hz => (hk58 z (by omega)).trans (hs56 z hz)
  refine lv_aload_n C.1 C.2.1 dX8_init_48 rfl (lv_at hl 0 rfl) ?_
  refine k_bip C 120 dX8_init_49 (by decide) ?_
  refine k_newI C F hw 120 (by decide) (Nat.le_of_ble_eq_true rfl) (Nat.le_of_ble_eq_true rfl) dX8_init_51 (fun ad66 g66 H hk66 hg66 eN66 hw => ?_)
  rw [← hk66 198 (by decide)]
  rw [← hk66 198 (by decide)] at hl
  have e67 : g66 198 = .inr (8, [.int (nI 0), .ref (ad66 199), .int (nI 0), .ref (ad66 200), .int (nI 0), .int (nI 0), .ref (ad66 201), .int (nI 0), .int (nI 0), .ref (ad66 202), .int (nI 0), .int (nI 0), .ref (ad66 203), .null, .int (nI 0), .null, .null, .int (bI (false)), .null]) := by rw [hg66 198 (by decide), e59, hk66 199 (by decide), hk66 200 (by decide), hk66 201 (by decide), hk66 202 (by decide), hk66 203 (by decide)]
  have e68 : g66 199 = ba ca 800 (fun _ => 0) := (hg66 199 (by decide)).trans e60
  have e69 : g66 200 = na ca 49 (fun _ => 0) := (hg66 200 (by decide)).trans e61
  have e70 : g66 201 = na ca 944 (fun _ => 0) := (hg66 201 (by decide)).trans e62
  have e71 : g66 202 = na ca 4425 (fun _ => 0) := (hg66 202 (by decide)).trans e63
  have e72 : g66 203 = na ca 9000 (fun _ => 0) := (hg66 203 (by decide)).trans e64
  have hka73 : ∀ i, i < 199 → ad66 i = ad i := fun i hi => (hk66 i (by omega)).trans (hka55 i hi)
  have hs74 : ∀ z, (z < 199 ∧ z ≠ 198) → g66 z = g z := fun z hz => (hg66 z (by omega)).trans (hs65 z hz)
  have hw : Wd D (AA 199 ad sz) s 205 ad66 g66 H locs := hw
  refine k_putF C F hw (198) (by omega) e67 rfl in_X8 tyX8_ok nmX8 hnm 13 (by decide) rfl fl_X8_26 rfl (v := .ref (ad66 204)) rfl rfl (Nat.le_of_ble_eq_true rfl) dX8_init_53 (fun H locs hw => ?_)
  have hw : Wd D (AA 199 ad sz) s 205 ad66 (va_up g66 (198) (.inr (8, [.int (nI 0), .ref (ad66 199), .int (nI 0), .ref (ad66 200), .int (nI 0), .int (nI 0), .ref (ad66 201), .int (nI 0), .int (nI 0), .ref (ad66 202), .int (nI 0), .int (nI 0), .ref (ad66 203), .ref (ad66 204), .int (nI 0), .null, .null, .int (bI (false)), .null]))) H locs := hw
  obtain ⟨g75, hg75⟩ : ∃ z, z = va_up g66 (198) (.inr (8, [.int (nI 0), .ref (ad66 199), .int (nI 0), .ref (ad66 200), .int (nI 0), .int (nI 0), .ref (ad66 201), .int (nI 0), .int (nI 0), .ref (ad66 202), .int (nI 0), .int (nI 0), .ref (ad66 203), .ref (ad66 204), .int (nI 0), .null, .null, .int (bI (false)), .null])) := ⟨_, rfl⟩
  rw [← hg75] at hw
  have hk76 : ∀ z, z ≠ 198 → g75 z = g66 z := fun z hz => by rw [hg75]; exact va_up_ne _ _ hz
  have e77 : g75 (198) = .inr (8, [.int (nI 0), .ref (ad66 199), .int (nI 0), .ref (ad66 200), .int (nI 0), .int (nI 0), .ref (ad66 201), .int (nI 0), .int (nI 0), .ref (ad66 202), .int (nI 0), .int (nI 0), .ref (ad66 203), .ref (ad66 204), .int (nI 0), .null, .null, .int (bI (false)), .null]) := by rw [hg75]; exact va_up_self _ _ _
  have e78 : g75 (199) = ba ca 800 (fun _ => 0) := (hk76 _ (by omega)).trans e68
  have e79 : g75 (200) = na ca 49 (fun _ => 0) := (hk76 _ (by omega)).trans e69
  have e80 : g75 (201) = na ca 944 (fun _ => 0) := (hk76 _ (by omega)).trans e70
  have e81 : g75 (202) = na ca 4425 (fun _ => 0) := (hk76 _ (by omega)).trans e71
  have e82 : g75 (203) = na ca 9000 (fun _ => 0) := (hk76 _ (by omega)).trans e72
  have e83 : g75 (204) = na ca 120 (fun _ => 0) := (hk76 _ (by omega)).trans eN66
  have hs84 : ∀ z, (z < 199 ∧ z ≠ 198) → g75 z = g z := fun z hz => (hk76 z (by omega)).trans (hs74 z hz)
  refine lv_aload_n C.1 C.2.1 dX8_init_56 rfl (lv_at hl 0 rfl) ?_
  refine k_bip C 75 dX8_init_57 (by decide) ?_
  refine k_newI C F hw 75 (by decide) (Nat.le_of_ble_eq_true rfl) (Nat.le_of_ble_eq_true rfl) dX8_init_59 (fun ad85 g85 H hk85 hg85 eN85 hw => ?_)
  rw [← hk85 198 (by decide)]
  rw [← hk85 198 (by decide)] at hl
  have e86 : g85 198 = .inr (8, [.int (nI 0), .ref (ad85 199), .int (nI 0), .ref (ad85 200), .int (nI 0), .int (nI 0), .ref (ad85 201), .int (nI 0), .int (nI 0), .ref (ad85 202), .int (nI 0), .int (nI 0), .ref (ad85 203), .ref (ad85 204), .int (nI 0), .null, .null, .int (bI (false)), .null]) := by rw [hg85 198 (by decide), e77, hk85 199 (by decide), hk85 200 (by decide), hk85 201 (by decide), hk85 202 (by decide), hk85 203 (by decide), hk85 204 (by decide)]
  have e87 : g85 199 = ba ca 800 (fun _ => 0) := (hg85 199 (by decide)).trans e78
  have e88 : g85 200 = na ca 49 (fun _ => 0) := (hg85 200 (by decide)).trans e79
  have e89 : g85 201 = na ca 944 (fun _ => 0) := (hg85 201 (by decide)).trans e80
  have e90 : g85 202 = na ca 4425 (fun _ => 0) := (hg85 202 (by decide)).trans e81
  have e91 : g85 203 = na ca 9000 (fun _ => 0) := (hg85 203 (by decide)).trans e82
  have e92 : g85 204 = na ca 120 (fun _ => 0) := (hg85 204 (by decide)).trans e83
  have hka93 : ∀ i, i < 199 → ad85 i = ad i := fun i hi => (hk85 i (by omega)).trans (hka73 i hi)
  have hs94 : ∀ z, (z < 199 ∧ z ≠ 198) → g85 z = g z := fun z hz => (hg85 z (by omega)).trans (hs84 z hz)
  have hw : Wd D (AA 199 ad sz) s 206 ad85 g85 H locs := hw
  refine k_putF C F hw (198) (by omega) e86 rfl in_X8 tyX8_ok nmX8 hnm 15 (by decide) rfl fl_X8_29 rfl (v := .ref (ad85 205)) rfl rfl (Nat.le_of_ble_eq_true rfl) dX8_init_61 (fun H locs hw => ?_)
  have hw : Wd D (AA 199 ad sz) s 206 ad85 (va_up g85 (198) (.inr (8, [.int (nI 0), .ref (ad85 199), .int (nI 0), .ref (ad85 200), .int (nI 0), .int (nI 0), .ref (ad85 201), .int (nI 0), .int (nI 0), .ref (ad85 202), .int (nI 0), .int (nI 0), .ref (ad85 203), .ref (ad85 204), .int (nI 0), .ref (ad85 205), .null, .int (bI (false)), .null]))) H locs := hw
  obtain ⟨g95, hg95⟩ : ∃ z, z = va_up g85 (198) (.inr (8, [.int (nI 0), .ref (ad85 199), .int (nI 0), .ref (ad85 200), .int (nI 0), .int (nI 0), .ref (ad85 201), .int (nI 0), .int (nI 0), .ref (ad85 202), .int (nI 0), .int (nI 0), .ref (ad85 203), .ref (ad85 204), .int (nI 0), .ref (ad85 205), .null, .int (bI (false)), .null])) := ⟨_, rfl⟩
  rw [← hg95] at hw
  have hk96 : ∀ z, z ≠ 198 → g95 z = g85 z := fun z hz => by rw [hg95]; exact va_up_ne _ _ hz
  have e97 : g95 (198) = .inr (8, [.int (nI 0), .ref (ad85 199), .int (nI 0), .ref (ad85 200), .int (nI 0), .int (nI 0), .ref (ad85 201), .int (nI 0), .int (nI 0), .ref (ad85 202), .int (nI 0), .int (nI 0), .ref (ad85 203), .ref (ad85 204), .int (nI 0), .ref (ad85 205), .null, .int (bI (false)), .null]) := by rw [hg95]; exact va_up_self _ _ _
  have e98 : g95 (199) = ba ca 800 (fun _ => 0) := (hk96 _ (by omega)).trans e87
  have e99 : g95 (200) = na ca 49 (fun _ => 0) := (hk96 _ (by omega)).trans e88
  have e100 : g95 (201) = na ca 944 (fun _ => 0) := (hk96 _ (by omega)).trans e89
  have e101 : g95 (202) = na ca 4425 (fun _ => 0) := (hk96 _ (by omega)).trans e90
  have e102 : g95 (203) = na ca 9000 (fun _ => 0) := (hk96 _ (by omega)).trans e91
  have e103 : g95 (204) = na ca 120 (fun _ => 0) := (hk96 _ (by omega)).trans e92
  have e104 : g95 (205) = na ca 75 (fun _ => 0) := (hk96 _ (by omega)).trans eN85
  have hs105 : ∀ z, (z < 199 ∧ z ≠ 198) → g95 z = g z := fun z hz => (hk96 z (by omega)).trans (hs94 z hz)
  refine lv_aload_n C.1 C.2.1 dX8_init_64 rfl (lv_at hl 0 rfl) ?_
  refine k_sip C 255 dX8_init_65 (by decide) ?_
  refine k_newI C F hw 255 (by decide) (Nat.le_of_ble_eq_true rfl) (Nat.le_of_ble_eq_true rfl) dX8_init_68 (fun ad106 g106 H hk106 hg106 eN106 hw => ?_)
  rw [← hk106 198 (by decide)]
  rw [← hk106 198 (by decide)] at hl
  have e107 : g106 198 = .inr (8, [.int (nI 0), .ref (ad106 199), .int (nI 0), .ref (ad106 200), .int (nI 0), .int (nI 0), .ref (ad106 201), .int (nI 0), .int (nI 0), .ref (ad106 202), .int (nI 0), .int (nI 0), .ref (ad106 203), .ref (ad106 204), .int (nI 0), .ref (ad106 205), .null, .int (bI (false)), .null]) := by rw [hg106 198 (by decide), e97, hk106 199 (by decide), hk106 200 (by decide), hk106 201 (by decide), hk106 202 (by decide), hk106 203 (by decide), hk106 204 (by decide), hk106 205 (by decide)]
  have e108 : g106 199 = ba ca 800 (fun _ => 0) := (hg106 199 (by decide)).trans e98
  have e109 : g106 200 = na ca 49 (fun _ => 0) := (hg106 200 (by decide)).trans e99
  have e110 : g106 201 = na ca 944 (fun _ => 0) := (hg106 201 (by decide)).trans e100
  have e111 : g106 202 = na ca 4425 (fun _ => 0) := (hg106 202 (by decide)).trans e101
  have e112 : g106 203 = na ca 9000 (fun _ => 0) := (hg106 203 (by decide)).trans e102
  have e113 : g106 204 = na ca 120 (fun _ => 0) := (hg106 204 (by decide)).trans e103
  have e114 : g106 205 = na ca 75 (fun _ => 0) := (hg106 205 (by decide)).trans e104
  have hka115 : ∀ i, i < 199 → ad106 i = ad i := fun i hi => (hk106 i (by omega)).trans (hka93 i hi)
  have hs116 : ∀ z, (z < 199 ∧ z ≠ 198) → g106 z = g z := fun z hz => (hg106 z (by omega)).trans (hs105 z hz)
  have hw : Wd D (AA 199 ad sz) s 207 ad106 g106 H locs := hw
  refine k_putF C F hw (198) (by omega) e107 rfl in_X8 tyX8_ok nmX8 hnm 16 (by decide) rfl fl_X8_32 rfl (v := .ref (ad106 206)) rfl rfl (Nat.le_of_ble_eq_true rfl) dX8_init_70 (fun H locs hw => ?_)
  have hw : Wd D (AA 199 ad sz) s 207 ad106 (va_up g106 (198) (.inr (8, [.int (nI 0), .ref (ad106 199), .int (nI 0), .ref (ad106 200), .int (nI 0), .int (nI 0), .ref (ad106 201), .int (nI 0), .int (nI 0), .ref (ad106 202), .int (nI 0), .int (nI 0), .ref (ad106 203), .ref (ad106 204), .int (nI 0), .ref (ad106 205), .ref (ad106 206), .int (bI (false)), .null]))) H locs := hw
  obtain ⟨g117, hg117⟩ : ∃ z, z = va_up g106 (198) (.inr (8, [.int (nI 0), .ref (ad106 199), .int (nI 0), .ref (ad106 200), .int (nI 0), .int (nI 0), .ref (ad106 201), .int (nI 0), .int (nI 0), .ref (ad106 202), .int (nI 0), .int (nI 0), .ref (ad106 203), .ref (ad106 204), .int (nI 0), .ref (ad106 205), .ref (ad106 206), .int (bI (false)), .null])) := ⟨_, rfl⟩
  rw [← hg117] at hw
  have hk118 : ∀ z, z ≠ 198 → g117 z = g106 z := fun z hz => by rw [hg117]; exact va_up_ne _ _ hz
  have e119 : g117 (198) = .inr (8, [.int (nI 0), .ref (ad106 199), .int (nI 0), .ref (ad106 200), .int (nI 0), .int (nI 0), .ref (ad106 201), .int (nI 0), .int (nI 0), .ref (ad106 202), .int (nI 0), .int (nI 0), .ref (ad106 203), .ref (ad106 204), .int (nI 0), .ref (ad106 205), .ref (ad106 206), .int (bI (false)), .null]) := by rw [hg117]; exact va_up_self _ _ _
  have e120 : g117 (199) = ba ca 800 (fun _ => 0) := (hk118 _ (by omega)).trans e108
  have e121 : g117 (200) = na ca 49 (fun _ => 0) := (hk118 _ (by omega)).trans e109
  have e122 : g117 (201) = na ca 944 (fun _ => 0) := (hk118 _ (by omega)).trans e110
  have e123 : g117 (202) = na ca 4425 (fun _ => 0) := (hk118 _ (by omega)).trans e111
  have e124 : g117 (203) = na ca 9000 (fun _ => 0) := (hk118 _ (by omega)).trans e112
  have e125 : g117 (204) = na ca 120 (fun _ => 0) := (hk118 _ (by omega)).trans e113
  have e126 : g117 (205) = na ca 75 (fun _ => 0) := (hk118 _ (by omega)).trans e114
  have e127 : g117 (206) = na ca 255 (fun _ => 0) := (hk118 _ (by omega)).trans eN106
  have hs128 : ∀ z, (z < 199 ∧ z ≠ 198) → g117 z = g z := fun z hz => (hk118 z (by omega)).trans (hs116 z hz)
  refine lv_aload_n C.1 C.2.1 dX8_init_73 rfl (lv_at hl 0 rfl) ?_
  refine k_bip C 16 dX8_init_74 (by decide) ?_
  refine k_newI C F hw 16 (by decide) (Nat.le_of_ble_eq_true rfl) (Nat.le_of_ble_eq_true rfl) dX8_init_76 (fun ad129 g129 H hk129 hg129 eN129 hw => ?_)
  rw [← hk129 198 (by decide)]
  rw [← hk129 198 (by decide)] at hl
  have e130 : g129 198 = .inr (8, [.int (nI 0), .ref (ad129 199), .int (nI 0), .ref (ad129 200), .int (nI 0), .int (nI 0), .ref (ad129 201), .int (nI 0), .int (nI 0), .ref (ad129 202), .int (nI 0), .int (nI 0), .ref (ad129 203), .ref (ad129 204), .int (nI 0), .ref (ad129 205), .ref (ad129 206), .int (bI (false)), .null]) := by rw [hg129 198 (by decide), e119, hk129 199 (by decide), hk129 200 (by decide), hk129 201 (by decide), hk129 202 (by decide), hk129 203 (by decide), hk129 204 (by decide), hk129 205 (by decide), hk129 206 (by decide)]
  have e131 : g129 199 = ba ca 800 (fun _ => 0) := (hg129 199 (by decide)).trans e120
  have e132 : g129 200 = na ca 49 (fun _ => 0) := (hg129 200 (by decide)).trans e121
  have e133 : g129 201 = na ca 944 (fun _ => 0) := (hg129 201 (by decide)).trans e122
  have e134 : g129 202 = na ca 4425 (fun _ => 0) := (hg129 202 (by decide)).trans e123
  have e135 : g129 203 = na ca 9000 (fun _ => 0) := (hg129 203 (by decide)).trans e124
  have e136 : g129 204 = na ca 120 (fun _ => 0) := (hg129 204 (by decide)).trans e125
  have e137 : g129 205 = na ca 75 (fun _ => 0) := (hg129 205 (by decide)).trans e126
  have e138 : g129 206 = na ca 255 (fun _ => 0) := (hg129 206 (by decide)).trans e127
  have hka139 : ∀ i, i < 199 → ad129 i = ad i := fun i hi => (hk129 i (by omega)).trans (hka115 i hi)
  have hs140 : ∀ z, (z < 199 ∧ z ≠ 198) → g129 z = g z := fun z hz => (hg129 z (by omega)).trans (hs128 z hz)
  have hw : Wd D (AA 199 ad sz) s 208 ad129 g129 H locs := hw
  refine k_putF C F hw (198) (by omega) e130 rfl in_X8 tyX8_ok nmX8 hnm 18 (by decide) rfl fl_X8_35 rfl (v := .ref (ad129 207)) rfl rfl (Nat.le_of_ble_eq_true rfl) dX8_init_78 (fun H locs hw => ?_)
  have hw : Wd D (AA 199 ad sz) s 208 ad129 (va_up g129 (198) (.inr (8, [.int (nI 0), .ref (ad129 199), .int (nI 0), .ref (ad129 200), .int (nI 0), .int (nI 0), .ref (ad129 201), .int (nI 0), .int (nI 0), .ref (ad129 202), .int (nI 0), .int (nI 0), .ref (ad129 203), .ref (ad129 204), .int (nI 0), .ref (ad129 205), .ref (ad129 206), .int (bI (false)), .ref (ad129 207)]))) H locs := hw
  obtain ⟨g141, hg141⟩ : ∃ z, z = va_up g129 (198) (.inr (8, [.int (nI 0), .ref (ad129 199), .int (nI 0), .ref (ad129 200), .int (nI 0), .int (nI 0), .ref (ad129 201), .int (nI 0), .int (nI 0), .ref (ad129 202), .int (nI 0), .int (nI 0), .ref (ad129 203), .ref (ad129 204), .int (nI 0), .ref (ad129 205), .ref (ad129 206), .int (bI (false)), .ref (ad129 207)])) := ⟨_, rfl⟩
  rw [← hg141] at hw
  have hk142 : ∀ z, z ≠ 198 → g141 z = g129 z := fun z hz => by rw [hg141]; exact va_up_ne _ _ hz
  have e143 : g141 (198) = .inr (8, [.int (nI 0), .ref (ad129 199), .int (nI 0), .ref (ad129 200), .int (nI 0), .int (nI 0), .ref (ad129 201), .int (nI 0), .int (nI 0), .ref (ad129 202), .int (nI 0), .int (nI 0), .ref (ad129 203), .ref (ad129 204), .int (nI 0), .ref (ad129 205), .ref (ad129 206), .int (bI (false)), .ref (ad129 207)]) := by rw [hg141]; exact va_up_self _ _ _
  have e144 : g141 (199) = ba ca 800 (fun _ => 0) := (hk142 _ (by omega)).trans e131
  have e145 : g141 (200) = na ca 49 (fun _ => 0) := (hk142 _ (by omega)).trans e132
  have e146 : g141 (201) = na ca 944 (fun _ => 0) := (hk142 _ (by omega)).trans e133
  have e147 : g141 (202) = na ca 4425 (fun _ => 0) := (hk142 _ (by omega)).trans e134
  have e148 : g141 (203) = na ca 9000 (fun _ => 0) := (hk142 _ (by omega)).trans e135
  have e149 : g141 (204) = na ca 120 (fun _ => 0) := (hk142 _ (by omega)).trans e136
  have e150 : g141 (205) = na ca 75 (fun _ => 0) := (hk142 _ (by omega)).trans e137
  have e151 : g141 (206) = na ca 255 (fun _ => 0) := (hk142 _ (by omega)).trans e138
  have e152 : g141 (207) = na ca 16 (fun _ => 0) := (hk142 _ (by omega)).trans eN129
  have hs153 : ∀ z, (z < 199 ∧ z ≠ 198) → g141 z = g z := fun z hz => (hk142 z (by omega)).trans (hs140 z hz)
  refine k_icn C 0 dX8_init_81 (by decide) ?_
  refine lv_istore_n (lv' := [(1, .int (nI 0)), (0, .ref (ad129 198))]) C.1 C.2.1 dX8_init_82 rfl hl (by decide) rfl (fun ls hl => ?_)
  have loop83 : ∀ (fuel : Nat) (i : Nat) (tn : Nat → Int32) (gL : Nat → va_E) (H : Heap) (locs : List Loc) (ls : Array Slot), ((49 - i) + 1 ≤ fuel) → (i ≤ 49) → (∀ j, j < i → tn j = -1) → (∀ z, (z < 199 ∧ z ≠ 198) → gL z = g z) → (gL (198) = .inr (8, [.int (nI 0), .ref (ad129 199), .int (nI 0), .ref (ad129 200), .int (nI 0), .int (nI 0), .ref (ad129 201), .int (nI 0), .int (nI 0), .ref (ad129 202), .int (nI 0), .int (nI 0), .ref (ad129 203), .ref (ad129 204), .int (nI 0), .ref (ad129 205), .ref (ad129 206), .int (bI (false)), .ref (ad129 207)])) → (gL (199) = ba ca 800 (fun _ => 0)) → (gL (200) = ia ca 49 (tn)) → (gL (201) = na ca 944 (fun _ => 0)) → (gL (202) = na ca 4425 (fun _ => 0)) → (gL (203) = na ca 9000 (fun _ => 0)) → (gL (204) = na ca 120 (fun _ => 0)) → (gL (205) = na ca 75 (fun _ => 0)) → (gL (206) = na ca 255 (fun _ => 0)) → (gL (207) = na ca 16 (fun _ => 0)) → Wd D (AA 199 ad sz) s 208 ad129 gL H locs → lv_has ls 3 [(0, .ref (ad129 198)), (1, .int (nI i))] → W p l e rm_X8_init s m args below meth c H locs 9 15684 Q (F0 m 83 ls []) := by
    intro fuel
    induction fuel with
    | zero =>
      intro i tn gL H locs ls hfu83
      exact absurd hfu83 (by omega)
    | succ fuel83 ih83 =>
      intro i tn gL H locs ls hfu83 hi htn hsL83 eL83_0 eL83_1 eL83_2 eL83_3 eL83_4 eL83_5 eL83_6 eL83_7 eL83_8 eL83_9 hw hl
      refine lv_iload_n C.1 C.2.1 dX8_init_83 rfl (lv_at hl 1 rfl) ?_
      refine k_bip C 48 dX8_init_84 (by decide) ?_
      refine k_igt (tgt := 102) C dX8_init_86 (by decide) (by omega) (by omega) (fun hc86 => ?_) (fun hc86 => ?_)
      · refine k_icn C 1 dX8_init_102 (by decide) ?_
        refine lv_istore_n (lv' := [(1, .int (nI 1)), (0, .ref (ad129 198))]) C.1 C.2.1 dX8_init_103 rfl hl (by decide) rfl (fun ls hl => ?_)
        refine k_icn C 0 dX8_init_104 (by decide) ?_
        refine lv_istore_n (lv' := [(2, .int (nI 0)), (1, .int (nI 1)), (0, .ref (ad129 198))]) C.1 C.2.1 dX8_init_105 rfl hl (by decide) rfl (fun ls hl => ?_)
        have loop106 : ∀ (fuel : Nat) (j : Nat) (F1 : Nat → Nat) (gL : Nat → va_E) (H : Heap) (locs : List Loc) (ls : Array Slot), ((255 - j) + 1 ≤ fuel) → (j ≤ 255) → (∀ q, q < j → F1 q = pwG q) → (∀ z, (z < 199 ∧ z ≠ 198) → gL z = g z) → (gL (198) = .inr (8, [.int (nI 0), .ref (ad129 199), .int (nI 0), .ref (ad129 200), .int (nI 0), .int (nI 0), .ref (ad129 201), .int (nI 0), .int (nI 0), .ref (ad129 202), .int (nI 0), .int (nI 0), .ref (ad129 203), .ref (ad129 204), .int (nI 0), .ref (ad129 205), .ref (ad129 206), .int (bI (false)), .ref (ad129 207)])) → (gL (199) = ba ca 800 (fun _ => 0)) → (gL (200) = ia ca 49 (tn)) → (gL (201) = na ca 944 (fun _ => 0)) → (gL (202) = na ca 4425 (fun _ => 0)) → (gL (203) = na ca 9000 (fun _ => 0)) → (gL (204) = na ca 120 (fun _ => 0)) → (gL (205) = na ca 75 (fun _ => 0)) → (gL (206) = na ca 255 (F1)) → (gL (207) = na ca 16 (fun _ => 0)) → Wd D (AA 199 ad sz) s 208 ad129 gL H locs → lv_has ls 3 [(0, .ref (ad129 198)), (1, .int (nI (pwG j))), (2, .int (nI j))] → W p l e rm_X8_init s m args below meth c H locs 9 15684 Q (F0 m 106 ls []) := by
          intro fuel
          induction fuel with
          | zero =>
            intro j F1 gL H locs ls hfu106
            exact absurd hfu106 (by omega)
          | succ fuel106 ih106 =>
            intro j F1 gL H locs ls hfu106 hj hF hsL106 eL106_0 eL106_1 eL106_2 eL106_3 eL106_4 eL106_5 eL106_6 eL106_7 eL106_8 eL106_9 hw hl
            refine lv_iload_n C.1 C.2.1 dX8_init_106 rfl (lv_at hl 2 rfl) ?_
            refine k_sip C 255 dX8_init_107 (by decide) ?_
            refine k_ige (tgt := 132) C dX8_init_110 (by decide) (by omega) (by omega) (fun hc110 => ?_) (fun hc110 => ?_)
            · have hw := hw.recell 206 (a' := (255, .inl (fun j => nI (pwG j)))) (by decide) eL106_8 (na_cell (fun q hq => hF q (by omega)) _)
              have hz : ∀ z, z ≠ 206 → va_up gL 206 (na ca 255 pwG) z = gL z := fun z hz => va_up_ne _ _ hz
              have hz9 : By (fun _ => 0) := fun _ => by show 0 < 256; decide
              exact hret H locs ls _ _ _ dX8_init_132 hw (⟨hka139, (fun z h9 => (hz z (by omega)).trans (hsL106 z h9)), (fun _ => 0), 0, false, (fun _ _ => 0), (fun _ => 0), (fun _ => 0), tn, (fun _ => 0), ⟨(hz 198 (by decide)).trans eL106_0, (hz 199 (by decide)).trans eL106_1, (hz 200 (by decide)).trans eL106_2, (hz 201 (by decide)).trans eL106_3, (hz 202 (by decide)).trans eL106_4, (hz 203 (by decide)).trans eL106_5, (hz 204 (by decide)).trans eL106_6, (hz 205 (by decide)).trans eL106_7, va_up_self _ _ _, (hz 207 (by decide)).trans eL106_9⟩, ⟨fun _ => hz9, hz9, fun _ => by show 0 < 75; decide⟩, hz9, fun _ => hz9, fun _ => hz9, ⟨fun k h1 h2 => Or.inl (htn k (by omega)), fun h => absurd rfl h⟩, (fun h => absurd h (by decide)), ⟨by decide, Or.inl ⟨rfl, rfl⟩, Or.inl ⟨rfl, rfl⟩⟩, (fun h => absurd rfl h), hz9, fun j hj => absurd hj (Nat.not_lt_zero _)⟩)
            · refine lv_aload_n C.1 C.2.1 dX8_init_113 rfl (lv_at hl 0 rfl) ?_
              refine k_get C F hw (198) (by omega) eL106_0 rfl in_X8 16 (by decide) fl_X8_32 rfl dX8_init_114 ?_
              refine lv_iload_n C.1 C.2.1 dX8_init_117 rfl (lv_at hl 2 rfl) ?_
              refine lv_iload_n C.1 C.2.1 dX8_init_118 rfl (lv_at hl 1 rfl) ?_
              refine k_iast C F hw (206) (by omega) eL106_8 (j) (pwG j) (by omega) (by decide) dX8_init_119 (fun H locs hw => ?_)
              have hw : Wd D (AA 199 ad sz) s 208 ad129 (va_up gL (206) (na ca 255 (va_up F1 j (pwG j)))) H locs := hw
              obtain ⟨g154, hg154⟩ : ∃ z, z = va_up gL (206) (na ca 255 (va_up F1 j (pwG j))) := ⟨_, rfl⟩
              rw [← hg154] at hw
              have hk155 : ∀ z, z ≠ 206 → g154 z = gL z := fun z hz => by rw [hg154]; exact va_up_ne _ _ hz
              have e156 : g154 (206) = na ca 255 (va_up F1 j (pwG j)) := by rw [hg154]; exact va_up_self _ _ _
              have e157 : g154 (198) = .inr (8, [.int (nI 0), .ref (ad129 199), .int (nI 0), .ref (ad129 200), .int (nI 0), .int (nI 0), .ref (ad129 201), .int (nI 0), .int (nI 0), .ref (ad129 202), .int (nI 0), .int (nI 0), .ref (ad129 203), .ref (ad129 204), .int (nI 0), .ref (ad129 205), .ref (ad129 206), .int (bI (false)), .ref (ad129 207)]) := (hk155 _ (by omega)).trans eL106_0
              have e158 : g154 (199) = ba ca 800 (fun _ => 0) := (hk155 _ (by omega)).trans eL106_1
              have e159 : g154 (200) = ia ca 49 (tn) := (hk155 _ (by omega)).trans eL106_2
              have e160 : g154 (201) = na ca 944 (fun _ => 0) := (hk155 _ (by omega)).trans eL106_3
              have e161 : g154 (202) = na ca 4425 (fun _ => 0) := (hk155 _ (by omega)).trans eL106_4
              have e162 : g154 (203) = na ca 9000 (fun _ => 0) := (hk155 _ (by omega)).trans eL106_5
              have e163 : g154 (204) = na ca 120 (fun _ => 0) := (hk155 _ (by omega)).trans eL106_6
              have e164 : g154 (205) = na ca 75 (fun _ => 0) := (hk155 _ (by omega)).trans eL106_7
              have e165 : g154 (207) = na ca 16 (fun _ => 0) := (hk155 _ (by omega)).trans eL106_9
              have hs166 : ∀ z, (z < 199 ∧ z ≠ 198) → g154 z = g z := fun z hz => (hk155 z (by omega)).trans (hsL106 z hz)
              refine lv_iload_n C.1 C.2.1 dX8_init_120 rfl (lv_at hl 1 rfl) ?_
              refine k_icn C 2 dX8_init_121 (by decide) ?_
              refine k_Si C F hw (As := [.int (nI (pwG j)), .int (nI 2)]) (rest := []) (c_X8_times (pwG j) 2 (pwG_lt j) (by decide)) (va_cwS _ C.2.2.2.2 gm_X8_38 rfl rfl rfl cd_X8_times.2 ⟨by decide, by decide⟩) hl.1 rfl (Nat.le_of_ble_eq_true rfl) dX8_init_122 ⟨by decide, by decide⟩ (fun r167 g168 H locs hp hw => ?_)
              obtain ⟨hr9, hg9⟩ := hp
              rw [hg9] at hw
              subst hr9
              refine k_ti (x' := nI (pwG (j + 1))) (congrArg nI m_pw2) ?_
              refine lv_istore_n (lv' := [(1, .int (nI (pwG (j + 1)))), (0, .ref (ad129 198)), (2, .int (nI j))]) C.1 C.2.1 dX8_init_125 rfl hl (by decide) rfl (fun ls hl => ?_)
              refine k_inc C (j + 1) (lv' := [(2, .int (nI (j + 1))), (1, .int (nI (pwG (j + 1)))), (0, .ref (ad129 198))]) dX8_init_126 hl (k := 2) rfl (inc1 _) (by decide) rfl (fun ls hl => ?_)
              refine lv_goto (tgt := 106) C.1 C.2.1 dX8_init_129 (by decide) ?_
              exact ih106 (j + 1) (va_up F1 j (pwG j)) g154 H locs ls (by omega) (by omega) (pw0 hF) hs166 e157 e158 e159 e160 e161 e162 e163 e164 e156 e165 hw (lv_sub hl [2, 1, 0] rfl)
        exact loop106 _ 0 (fun _ => 0) gL H locs ls (Nat.le_refl _) (by omega) (fun q hq => absurd hq (Nat.not_lt_zero _)) hsL83 eL83_0 eL83_1 eL83_2 eL83_3 eL83_4 eL83_5 eL83_6 eL83_7 eL83_8 eL83_9 hw (lv_sub hl [2, 1, 0] rfl)
      · refine lv_aload_n C.1 C.2.1 dX8_init_89 rfl (lv_at hl 0 rfl) ?_
        refine k_get C F hw (198) (by omega) eL83_0 rfl in_X8 3 (by decide) fl_X8_13 rfl dX8_init_90 ?_
        refine lv_iload_n C.1 C.2.1 dX8_init_93 rfl (lv_at hl 1 rfl) ?_
        refine lv_iconst (v := -1) C.1 C.2.1 dX8_init_94 (by decide) ?_
        refine k_iastR C F hw (200) (by omega) eL83_2 (i) (-1) (by omega) (by decide) dX8_init_95 (fun H locs hw => ?_)
        have hw : Wd D (AA 199 ad sz) s 208 ad129 (va_up gL (200) (ia ca 49 (upd tn i (-1)))) H locs := hw
        obtain ⟨g169, hg169⟩ : ∃ z, z = va_up gL (200) (ia ca 49 (upd tn i (-1))) := ⟨_, rfl⟩
        rw [← hg169] at hw
        have hk170 : ∀ z, z ≠ 200 → g169 z = gL z := fun z hz => by rw [hg169]; exact va_up_ne _ _ hz
        have e171 : g169 (200) = ia ca 49 (upd tn i (-1)) := by rw [hg169]; exact va_up_self _ _ _
        have e172 : g169 (198) = .inr (8, [.int (nI 0), .ref (ad129 199), .int (nI 0), .ref (ad129 200), .int (nI 0), .int (nI 0), .ref (ad129 201), .int (nI 0), .int (nI 0), .ref (ad129 202), .int (nI 0), .int (nI 0), .ref (ad129 203), .ref (ad129 204), .int (nI 0), .ref (ad129 205), .ref (ad129 206), .int (bI (false)), .ref (ad129 207)]) := (hk170 _ (by omega)).trans eL83_0
        have e173 : g169 (199) = ba ca 800 (fun _ => 0) := (hk170 _ (by omega)).trans eL83_1
        have e174 : g169 (201) = na ca 944 (fun _ => 0) := (hk170 _ (by omega)).trans eL83_3
        have e175 : g169 (202) = na ca 4425 (fun _ => 0) := (hk170 _ (by omega)).trans eL83_4
        have e176 : g169 (203) = na ca 9000 (fun _ => 0) := (hk170 _ (by omega)).trans eL83_5
        have e177 : g169 (204) = na ca 120 (fun _ => 0) := (hk170 _ (by omega)).trans eL83_6
        have e178 : g169 (205) = na ca 75 (fun _ => 0) := (hk170 _ (by omega)).trans eL83_7
        have e179 : g169 (206) = na ca 255 (fun _ => 0) := (hk170 _ (by omega)).trans eL83_8
        have e180 : g169 (207) = na ca 16 (fun _ => 0) := (hk170 _ (by omega)).trans eL83_9
        have hs181 : ∀ z, (z < 199 ∧ z ≠ 198) → g169 z = g z := fun z hz => (hk170 z (by omega)).trans (hsL83 z hz)
        refine k_inc C (i + 1) (lv' := [(1, .int (nI (i + 1))), (0, .ref (ad129 198))]) dX8_init_96 hl (k := 1) rfl (inc1 _) (by decide) rfl (fun ls hl => ?_)
        refine lv_goto (tgt := 83) C.1 C.2.1 dX8_init_99 (by decide) ?_
        exact ih83 (i + 1) (upd tn i (-1)) g169 H locs ls (by omega) (by omega) (tn0 htn) hs181 e172 e173 e171 e174 e175 e176 e177 e178 e179 e180 hw (lv_sub hl [1, 0] rfl)
  exact loop83 _ 0 (fun _ => nI 0) g141 H locs ls (Nat.le_refl _) (by omega) (fun j hj => absurd hj (Nat.not_lt_zero _)) hs153 e143 e144 e145 e146 e147 e148 e149 e150 e151 e152 hw (lv_sub hl [1, 0] rfl)
