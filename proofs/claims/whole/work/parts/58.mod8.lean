/-! ===== FountainDeskModel: public methods ===== -/

abbrev rm_X8_end : Room := { frames := 0, cells := 0, slots := 0, locals := 0 }

set_option maxHeartbeats 800000 in
set_option maxRecDepth 100000 in
/-- end -/
theorem c_X8_end {l : Launch} {D : va_G} {ca : Nat → ClassId} {tB tS R : Nat} {ad : Nat → Nat} {g : Nat → va_E} {sz : Nat} (hR : 207 < R) (pm : Nat → Nat) (hpm : PmOk pm) (hT : ∀ k, 1 ≤ k → k ≤ 48 → tnN (fbG pm k) < 1000) (cd : Int32) (ln : Nat) (th : Nat → Nat) (bk bt : Nat) (IN : Nat → Nat → Nat) (ck ct : Nat) (CG : Nat → Nat → Nat) (cn pk : Nat) (hI : MInv ca ad g pm cd ln th bk bt IN ck ct CG cn pk) (n : Int32) : MV l yX8_end cX8_end 2 rm_X8_end D ca tB tS R ad g sz [.ref (ad 198), .int (n)] (fun g1 => (∀ z, z < 198 ∨ 207 < z → g1 z = g z) ∧ ((∃ j, n = nI j ∧ j ≤ ln ∧ MInv ca ad g1 pm (nI 0) j th bk bt IN ck ct CG cn pk) ∨ ((¬ ∃ j, n = nI j ∧ j ≤ ln) ∧ MInv ca ad g1 pm (nI 1) ln th bk bt IN ck ct CG cn pk))) := by
  refine m_startV (by decide +kernel) (Nat.le_of_ble_eq_true rfl) (fun p e s m args below meth c ls Q hsz C hnm hl F hw hret => ?_)
  have hl : lv_has ls 2 [(0, .ref (ad 198)), (1, .int (n))] := hl
  generalize s.heap = H at hw ⊢
  generalize ([] : List Loc) = locs at hw ⊢
  obtain ⟨tp, rw, gt, M, pv, ro, tn, bb, hS⟩ := hI
  obtain ⟨⟨q198, q199, q200, q201, q202, q203, q204, q205, q206, q207⟩, hmb, hbb, hCG, hIN, htn, hgt, hbd, hGr, hth⟩ := hS
  have hbd2 := hbd.2.1
  have hbd3 := hbd.2.2
  have hln := hbd.1
  refine lv_aload_n C.1 C.2.1 dX8_end_0 rfl (lv_at hl 0 rfl) ?_
  refine lv_iload_n C.1 C.2.1 dX8_end_1 rfl (lv_at hl 1 rfl) ?_
  refine lv_if_lt (tgt := 13) C.1 C.2.1 dX8_end_2 (by decide) (fun hc2 => ?_) (fun hc2 => ?_)
  · refine k_icn C 1 dX8_end_13 (by decide) ?_
    refine lv_goto (tgt := 18) C.1 C.2.1 dX8_end_14 (by decide) ?_
    refine k_put C F hw (198) (by omega) q198 rfl in_X8 tyX8_ok nmX8 0 (by decide) fl_X8_42 rfl (v := .int (nI 1)) rfl rfl (Nat.le_of_ble_eq_true rfl) dX8_end_18 (fun H locs hw => ?_)
    have hw : Wd D (AA R ad sz) s R ad (va_up g (198) (.inr (8, [.int (nI 1), .ref (ad 199), .int (nI ln), .ref (ad 200), .int (nI bk), .int (nI bt), .ref (ad 201), .int (nI ck), .int (nI ct), .ref (ad 202), .int (nI cn), .int (nI pk), .ref (ad 203), .ref (ad 204), .int (nI rw), .ref (ad 205), .ref (ad 206), .int (bI (gt)), .ref (ad 207)]))) H locs := hw
    obtain ⟨g1, hg1⟩ : ∃ z, z = va_up g (198) (.inr (8, [.int (nI 1), .ref (ad 199), .int (nI ln), .ref (ad 200), .int (nI bk), .int (nI bt), .ref (ad 201), .int (nI ck), .int (nI ct), .ref (ad 202), .int (nI cn), .int (nI pk), .ref (ad 203), .ref (ad 204), .int (nI rw), .ref (ad 205), .ref (ad 206), .int (bI (gt)), .ref (ad 207)])) := ⟨_, rfl⟩
    rw [← hg1] at hw
    have hk2 : ∀ z, z ≠ 198 → g1 z = g z := fun z hz => by rw [hg1]; exact va_up_ne _ _ hz
    have e3 : g1 (198) = .inr (8, [.int (nI 1), .ref (ad 199), .int (nI ln), .ref (ad 200), .int (nI bk), .int (nI bt), .ref (ad 201), .int (nI ck), .int (nI ct), .ref (ad 202), .int (nI cn), .int (nI pk), .ref (ad 203), .ref (ad 204), .int (nI rw), .ref (ad 205), .ref (ad 206), .int (bI (gt)), .ref (ad 207)]) := by rw [hg1]; exact va_up_self _ _ _
    have e4 : g1 (199) = ba ca 800 (tp) := (hk2 _ (by omega)).trans q199
    have e5 : g1 (200) = ia ca 49 (tn) := (hk2 _ (by omega)).trans q200
    have e6 : g1 (201) = na ca 944 (fi IN) := (hk2 _ (by omega)).trans q201
    have e7 : g1 (202) = na ca 4425 (fl CG) := (hk2 _ (by omega)).trans q202
    have e8 : g1 (203) = na ca 9000 (fl M) := (hk2 _ (by omega)).trans q203
    have e9 : g1 (204) = na ca 120 (pv) := (hk2 _ (by omega)).trans q204
    have e10 : g1 (205) = na ca 75 (ro) := (hk2 _ (by omega)).trans q205
    have e11 : g1 (206) = na ca 255 (pm) := (hk2 _ (by omega)).trans q206
    have e12 : g1 (207) = na ca 16 (bb) := (hk2 _ (by omega)).trans q207
    have hs13 : ∀ z, (z < 198 ∨ 207 < z) → g1 z = g z := fun z hz => hk2 z (by omega)
    refine lv_aload_n C.1 C.2.1 dX8_end_21 rfl (lv_at hl 0 rfl) ?_
    refine lv_aload_n C.1 C.2.1 dX8_end_22 rfl (lv_at hl 0 rfl) ?_
    refine k_get C F hw (198) (by omega) e3 rfl in_X8 0 (by decide) fl_X8_42 rfl dX8_end_23 ?_
    refine k_zne (tgt := 33) C dX8_end_26 (by decide) (by omega) (fun _ => ?_) (fun h => absurd h (by decide))
    refine lv_aload_n C.1 C.2.1 dX8_end_33 rfl (lv_at hl 0 rfl) ?_
    refine k_get C F hw (198) (by omega) e3 rfl in_X8 2 (by decide) fl_X8_46 rfl dX8_end_34 ?_
    refine k_put C F hw (198) (by omega) e3 rfl in_X8 tyX8_ok nmX8 2 (by decide) fl_X8_46 rfl (v := .int (nI ln)) rfl rfl (Nat.le_of_ble_eq_true rfl) dX8_end_37 (fun H locs hw => ?_)
    have hw : Wd D (AA R ad sz) s R ad (va_up g1 (198) (.inr (8, [.int (nI 1), .ref (ad 199), .int (nI ln), .ref (ad 200), .int (nI bk), .int (nI bt), .ref (ad 201), .int (nI ck), .int (nI ct), .ref (ad 202), .int (nI cn), .int (nI pk), .ref (ad 203), .ref (ad 204), .int (nI rw), .ref (ad 205), .ref (ad 206), .int (bI (gt)), .ref (ad 207)]))) H locs := hw
    obtain ⟨g14, hg14⟩ : ∃ z, z = va_up g1 (198) (.inr (8, [.int (nI 1), .ref (ad 199), .int (nI ln), .ref (ad 200), .int (nI bk), .int (nI bt), .ref (ad 201), .int (nI ck), .int (nI ct), .ref (ad 202), .int (nI cn), .int (nI pk), .ref (ad 203), .ref (ad 204), .int (nI rw), .ref (ad 205), .ref (ad 206), .int (bI (gt)), .ref (ad 207)])) := ⟨_, rfl⟩
    rw [← hg14] at hw
    have hk15 : ∀ z, z ≠ 198 → g14 z = g1 z := fun z hz => by rw [hg14]; exact va_up_ne _ _ hz
    have e16 : g14 (198) = .inr (8, [.int (nI 1), .ref (ad 199), .int (nI ln), .ref (ad 200), .int (nI bk), .int (nI bt), .ref (ad 201), .int (nI ck), .int (nI ct), .ref (ad 202), .int (nI cn), .int (nI pk), .ref (ad 203), .ref (ad 204), .int (nI rw), .ref (ad 205), .ref (ad 206), .int (bI (gt)), .ref (ad 207)]) := by rw [hg14]; exact va_up_self _ _ _
    have e17 : g14 (199) = ba ca 800 (tp) := (hk15 _ (by omega)).trans e4
    have e18 : g14 (200) = ia ca 49 (tn) := (hk15 _ (by omega)).trans e5
    have e19 : g14 (201) = na ca 944 (fi IN) := (hk15 _ (by omega)).trans e6
    have e20 : g14 (202) = na ca 4425 (fl CG) := (hk15 _ (by omega)).trans e7
    have e21 : g14 (203) = na ca 9000 (fl M) := (hk15 _ (by omega)).trans e8
    have e22 : g14 (204) = na ca 120 (pv) := (hk15 _ (by omega)).trans e9
    have e23 : g14 (205) = na ca 75 (ro) := (hk15 _ (by omega)).trans e10
    have e24 : g14 (206) = na ca 255 (pm) := (hk15 _ (by omega)).trans e11
    have e25 : g14 (207) = na ca 16 (bb) := (hk15 _ (by omega)).trans e12
    have hs26 : ∀ z, (z < 198 ∨ 207 < z) → g14 z = g z := fun z hz => (hk15 z (by omega)).trans (hs13 z hz)
    have hS27 : MSt ca ad g14 pm (nI (1)) ln th bk bt IN ck ct CG cn pk tp rw gt M pv ro tn bb := ⟨⟨e16, e17, e18, e19, e20, e21, e22, e23, e24, e25⟩, hmb, hbb, hCG, hIN, htn, hgt, hbd, hGr, hth⟩
    exact hret H locs ls _ _ dX8_end_40 hw (⟨hs26, Or.inr ⟨fun ⟨j, h1, h2⟩ => by first | exact absurd hc2 (by rw [h1]; exact nI_pos (by omega)) | exact absurd ((nI_leI (by omega) (by omega)).mpr h2) (by rw [← h1]; exact hc10), ⟨_, _, _, _, _, _, _, _, hS27⟩⟩⟩)
  · refine lv_iload_n C.1 C.2.1 dX8_end_5 rfl (lv_at hl 1 rfl) ?_
    refine lv_aload_n C.1 C.2.1 dX8_end_6 rfl (lv_at hl 0 rfl) ?_
    refine k_get C F hw (198) (by omega) q198 rfl in_X8 2 (by decide) fl_X8_46 rfl dX8_end_7 ?_
    refine lv_icmp_le (tgt := 17) C.1 C.2.1 dX8_end_10 (by decide) (fun hc10 => ?_) (fun hc10 => ?_)
    · obtain ⟨j, hj, rfl⟩ := nI_of hc2
      have hjl : j ≤ ln := (nI_leI hj (by omega)).mp hc10
      refine k_icn C 0 dX8_end_17 (by decide) ?_
      refine k_put C F hw (198) (by omega) q198 rfl in_X8 tyX8_ok nmX8 0 (by decide) fl_X8_42 rfl (v := .int (nI 0)) rfl rfl (Nat.le_of_ble_eq_true rfl) dX8_end_18 (fun H locs hw => ?_)
      have hw : Wd D (AA R ad sz) s R ad (va_up g (198) (.inr (8, [.int (nI 0), .ref (ad 199), .int (nI ln), .ref (ad 200), .int (nI bk), .int (nI bt), .ref (ad 201), .int (nI ck), .int (nI ct), .ref (ad 202), .int (nI cn), .int (nI pk), .ref (ad 203), .ref (ad 204), .int (nI rw), .ref (ad 205), .ref (ad 206), .int (bI (gt)), .ref (ad 207)]))) H locs := hw
      obtain ⟨g28, hg28⟩ : ∃ z, z = va_up g (198) (.inr (8, [.int (nI 0), .ref (ad 199), .int (nI ln), .ref (ad 200), .int (nI bk), .int (nI bt), .ref (ad 201), .int (nI ck), .int (nI ct), .ref (ad 202), .int (nI cn), .int (nI pk), .ref (ad 203), .ref (ad 204), .int (nI rw), .ref (ad 205), .ref (ad 206), .int (bI (gt)), .ref (ad 207)])) := ⟨_, rfl⟩
      rw [← hg28] at hw
      have hk29 : ∀ z, z ≠ 198 → g28 z = g z := fun z hz => by rw [hg28]; exact va_up_ne _ _ hz
      have e30 : g28 (198) = .inr (8, [.int (nI 0), .ref (ad 199), .int (nI ln), .ref (ad 200), .int (nI bk), .int (nI bt), .ref (ad 201), .int (nI ck), .int (nI ct), .ref (ad 202), .int (nI cn), .int (nI pk), .ref (ad 203), .ref (ad 204), .int (nI rw), .ref (ad 205), .ref (ad 206), .int (bI (gt)), .ref (ad 207)]) := by rw [hg28]; exact va_up_self _ _ _
      have e31 : g28 (199) = ba ca 800 (tp) := (hk29 _ (by omega)).trans q199
      have e32 : g28 (200) = ia ca 49 (tn) := (hk29 _ (by omega)).trans q200
      have e33 : g28 (201) = na ca 944 (fi IN) := (hk29 _ (by omega)).trans q201
      have e34 : g28 (202) = na ca 4425 (fl CG) := (hk29 _ (by omega)).trans q202
      have e35 : g28 (203) = na ca 9000 (fl M) := (hk29 _ (by omega)).trans q203
      have e36 : g28 (204) = na ca 120 (pv) := (hk29 _ (by omega)).trans q204
      have e37 : g28 (205) = na ca 75 (ro) := (hk29 _ (by omega)).trans q205
      have e38 : g28 (206) = na ca 255 (pm) := (hk29 _ (by omega)).trans q206
      have e39 : g28 (207) = na ca 16 (bb) := (hk29 _ (by omega)).trans q207
      have hs40 : ∀ z, (z < 198 ∨ 207 < z) → g28 z = g z := fun z hz => hk29 z (by omega)
      refine lv_aload_n C.1 C.2.1 dX8_end_21 rfl (lv_at hl 0 rfl) ?_
      refine lv_aload_n C.1 C.2.1 dX8_end_22 rfl (lv_at hl 0 rfl) ?_
      refine k_get C F hw (198) (by omega) e30 rfl in_X8 0 (by decide) fl_X8_42 rfl dX8_end_23 ?_
      refine k_zne (tgt := 33) C dX8_end_26 (by decide) (by omega) (fun h => absurd h (by decide)) (fun _ => ?_)
      refine lv_iload_n C.1 C.2.1 dX8_end_29 rfl (lv_at hl 1 rfl) ?_
      refine lv_goto (tgt := 37) C.1 C.2.1 dX8_end_30 (by decide) ?_
      refine k_put C F hw (198) (by omega) e30 rfl in_X8 tyX8_ok nmX8 2 (by decide) fl_X8_46 rfl (v := .int (nI j)) rfl rfl (Nat.le_of_ble_eq_true rfl) dX8_end_37 (fun H locs hw => ?_)
      have hw : Wd D (AA R ad sz) s R ad (va_up g28 (198) (.inr (8, [.int (nI 0), .ref (ad 199), .int (nI j), .ref (ad 200), .int (nI bk), .int (nI bt), .ref (ad 201), .int (nI ck), .int (nI ct), .ref (ad 202), .int (nI cn), .int (nI pk), .ref (ad 203), .ref (ad 204), .int (nI rw), .ref (ad 205), .ref (ad 206), .int (bI (gt)), .ref (ad 207)]))) H locs := hw
      obtain ⟨g41, hg41⟩ : ∃ z, z = va_up g28 (198) (.inr (8, [.int (nI 0), .ref (ad 199), .int (nI j), .ref (ad 200), .int (nI bk), .int (nI bt), .ref (ad 201), .int (nI ck), .int (nI ct), .ref (ad 202), .int (nI cn), .int (nI pk), .ref (ad 203), .ref (ad 204), .int (nI rw), .ref (ad 205), .ref (ad 206), .int (bI (gt)), .ref (ad 207)])) := ⟨_, rfl⟩
      rw [← hg41] at hw
      have hk42 : ∀ z, z ≠ 198 → g41 z = g28 z := fun z hz => by rw [hg41]; exact va_up_ne _ _ hz
      have e43 : g41 (198) = .inr (8, [.int (nI 0), .ref (ad 199), .int (nI j), .ref (ad 200), .int (nI bk), .int (nI bt), .ref (ad 201), .int (nI ck), .int (nI ct), .ref (ad 202), .int (nI cn), .int (nI pk), .ref (ad 203), .ref (ad 204), .int (nI rw), .ref (ad 205), .ref (ad 206), .int (bI (gt)), .ref (ad 207)]) := by rw [hg41]; exact va_up_self _ _ _
      have e44 : g41 (199) = ba ca 800 (tp) := (hk42 _ (by omega)).trans e31
      have e45 : g41 (200) = ia ca 49 (tn) := (hk42 _ (by omega)).trans e32
      have e46 : g41 (201) = na ca 944 (fi IN) := (hk42 _ (by omega)).trans e33
      have e47 : g41 (202) = na ca 4425 (fl CG) := (hk42 _ (by omega)).trans e34
      have e48 : g41 (203) = na ca 9000 (fl M) := (hk42 _ (by omega)).trans e35
      have e49 : g41 (204) = na ca 120 (pv) := (hk42 _ (by omega)).trans e36
      have e50 : g41 (205) = na ca 75 (ro) := (hk42 _ (by omega)).trans e37
      have e51 : g41 (206) = na ca 255 (pm) := (hk42 _ (by omega)).trans e38
      have e52 : g41 (207) = na ca 16 (bb) := (hk42 _ (by omega)).trans e39
      have hs53 : ∀ z, (z < 198 ∨ 207 < z) → g41 z = g z := fun z hz => (hk42 z (by omega)).trans (hs40 z hz)
      have hS54 : MSt ca ad g41 pm (nI 0) j th bk bt IN ck ct CG cn pk tp rw gt M pv ro tn bb := ⟨⟨e43, e44, e45, e46, e47, e48, e49, e50, e51, e52⟩, hmb, hbb, hCG, hIN, htn, hgt, ⟨by omega, hbd.2⟩, hGr, ⟨hth.1, fun q hq => hth.2 q (by omega)⟩⟩
      exact hret H locs ls _ _ dX8_end_40 hw (⟨hs53, Or.inl ⟨j, rfl, hjl, ⟨_, _, _, _, _, _, _, _, hS54⟩⟩⟩)
    · refine k_icn C 1 dX8_end_13 (by decide) ?_
      refine lv_goto (tgt := 18) C.1 C.2.1 dX8_end_14 (by decide) ?_
      refine k_put C F hw (198) (by omega) q198 rfl in_X8 tyX8_ok nmX8 0 (by decide) fl_X8_42 rfl (v := .int (nI 1)) rfl rfl (Nat.le_of_ble_eq_true rfl) dX8_end_18 (fun H locs hw => ?_)
      have hw : Wd D (AA R ad sz) s R ad (va_up g (198) (.inr (8, [.int (nI 1), .ref (ad 199), .int (nI ln), .ref (ad 200), .int (nI bk), .int (nI bt), .ref (ad 201), .int (nI ck), .int (nI ct), .ref (ad 202), .int (nI cn), .int (nI pk), .ref (ad 203), .ref (ad 204), .int (nI rw), .ref (ad 205), .ref (ad 206), .int (bI (gt)), .ref (ad 207)]))) H locs := hw
      obtain ⟨g55, hg55⟩ : ∃ z, z = va_up g (198) (.inr (8, [.int (nI 1), .ref (ad 199), .int (nI ln), .ref (ad 200), .int (nI bk), .int (nI bt), .ref (ad 201), .int (nI ck), .int (nI ct), .ref (ad 202), .int (nI cn), .int (nI pk), .ref (ad 203), .ref (ad 204), .int (nI rw), .ref (ad 205), .ref (ad 206), .int (bI (gt)), .ref (ad 207)])) := ⟨_, rfl⟩
      rw [← hg55] at hw
      have hk56 : ∀ z, z ≠ 198 → g55 z = g z := fun z hz => by rw [hg55]; exact va_up_ne _ _ hz
      have e57 : g55 (198) = .inr (8, [.int (nI 1), .ref (ad 199), .int (nI ln), .ref (ad 200), .int (nI bk), .int (nI bt), .ref (ad 201), .int (nI ck), .int (nI ct), .ref (ad 202), .int (nI cn), .int (nI pk), .ref (ad 203), .ref (ad 204), .int (nI rw), .ref (ad 205), .ref (ad 206), .int (bI (gt)), .ref (ad 207)]) := by rw [hg55]; exact va_up_self _ _ _
      have e58 : g55 (199) = ba ca 800 (tp) := (hk56 _ (by omega)).trans q199
      have e59 : g55 (200) = ia ca 49 (tn) := (hk56 _ (by omega)).trans q200
      have e60 : g55 (201) = na ca 944 (fi IN) := (hk56 _ (by omega)).trans q201
      have e61 : g55 (202) = na ca 4425 (fl CG) := (hk56 _ (by omega)).trans q202
      have e62 : g55 (203) = na ca 9000 (fl M) := (hk56 _ (by omega)).trans q203
      have e63 : g55 (204) = na ca 120 (pv) := (hk56 _ (by omega)).trans q204
      have e64 : g55 (205) = na ca 75 (ro) := (hk56 _ (by omega)).trans q205
      have e65 : g55 (206) = na ca 255 (pm) := (hk56 _ (by omega)).trans q206
      have e66 : g55 (207) = na ca 16 (bb) := (hk56 _ (by omega)).trans q207
      have hs67 : ∀ z, (z < 198 ∨ 207 < z) → g55 z = g z := fun z hz => hk56 z (by omega)
      refine lv_aload_n C.1 C.2.1 dX8_end_21 rfl (lv_at hl 0 rfl) ?_
      refine lv_aload_n C.1 C.2.1 dX8_end_22 rfl (lv_at hl 0 rfl) ?_
      refine k_get C F hw (198) (by omega) e57 rfl in_X8 0 (by decide) fl_X8_42 rfl dX8_end_23 ?_
      refine k_zne (tgt := 33) C dX8_end_26 (by decide) (by omega) (fun _ => ?_) (fun h => absurd h (by decide))
      refine lv_aload_n C.1 C.2.1 dX8_end_33 rfl (lv_at hl 0 rfl) ?_
      refine k_get C F hw (198) (by omega) e57 rfl in_X8 2 (by decide) fl_X8_46 rfl dX8_end_34 ?_
      refine k_put C F hw (198) (by omega) e57 rfl in_X8 tyX8_ok nmX8 2 (by decide) fl_X8_46 rfl (v := .int (nI ln)) rfl rfl (Nat.le_of_ble_eq_true rfl) dX8_end_37 (fun H locs hw => ?_)
      have hw : Wd D (AA R ad sz) s R ad (va_up g55 (198) (.inr (8, [.int (nI 1), .ref (ad 199), .int (nI ln), .ref (ad 200), .int (nI bk), .int (nI bt), .ref (ad 201), .int (nI ck), .int (nI ct), .ref (ad 202), .int (nI cn), .int (nI pk), .ref (ad 203), .ref (ad 204), .int (nI rw), .ref (ad 205), .ref (ad 206), .int (bI (gt)), .ref (ad 207)]))) H locs := hw
      obtain ⟨g68, hg68⟩ : ∃ z, z = va_up g55 (198) (.inr (8, [.int (nI 1), .ref (ad 199), .int (nI ln), .ref (ad 200), .int (nI bk), .int (nI bt), .ref (ad 201), .int (nI ck), .int (nI ct), .ref (ad 202), .int (nI cn), .int (nI pk), .ref (ad 203), .ref (ad 204), .int (nI rw), .ref (ad 205), .ref (ad 206), .int (bI (gt)), .ref (ad 207)])) := ⟨_, rfl⟩
      rw [← hg68] at hw
      have hk69 : ∀ z, z ≠ 198 → g68 z = g55 z := fun z hz => by rw [hg68]; exact va_up_ne _ _ hz
      have e70 : g68 (198) = .inr (8, [.int (nI 1), .ref (ad 199), .int (nI ln), .ref (ad 200), .int (nI bk), .int (nI bt), .ref (ad 201), .int (nI ck), .int (nI ct), .ref (ad 202), .int (nI cn), .int (nI pk), .ref (ad 203), .ref (ad 204), .int (nI rw), .ref (ad 205), .ref (ad 206), .int (bI (gt)), .ref (ad 207)]) := by rw [hg68]; exact va_up_self _ _ _
      have e71 : g68 (199) = ba ca 800 (tp) := (hk69 _ (by omega)).trans e58
      have e72 : g68 (200) = ia ca 49 (tn) := (hk69 _ (by omega)).trans e59
      have e73 : g68 (201) = na ca 944 (fi IN) := (hk69 _ (by omega)).trans e60
      have e74 : g68 (202) = na ca 4425 (fl CG) := (hk69 _ (by omega)).trans e61
      have e75 : g68 (203) = na ca 9000 (fl M) := (hk69 _ (by omega)).trans e62
      have e76 : g68 (204) = na ca 120 (pv) := (hk69 _ (by omega)).trans e63
      have e77 : g68 (205) = na ca 75 (ro) := (hk69 _ (by omega)).trans e64
      have e78 : g68 (206) = na ca 255 (pm) := (hk69 _ (by omega)).trans e65
      have e79 : g68 (207) = na ca 16 (bb) := (hk69 _ (by omega)).trans e66
      have hs80 : ∀ z, (z < 198 ∨ 207 < z) → g68 z = g z := fun z hz => (hk69 z (by omega)).trans (hs67 z hz)
      have hS81 : MSt ca ad g68 pm (nI (1)) ln th bk bt IN ck ct CG cn pk tp rw gt M pv ro tn bb := ⟨⟨e70, e71, e72, e73, e74, e75, e76, e77, e78, e79⟩, hmb, hbb, hCG, hIN, htn, hgt, hbd, hGr, hth⟩
      exact hret H locs ls _ _ dX8_end_40 hw (⟨hs80, Or.inr ⟨fun ⟨j, h1, h2⟩ => by first | exact absurd hc2 (by rw [h1]; exact nI_pos (by omega)) | exact absurd ((nI_leI (by omega) (by omega)).mpr h2) (by rw [← h1]; exact hc10), ⟨_, _, _, _, _, _, _, _, hS81⟩⟩⟩)

abbrev rm_X8_turn : Room := { frames := 6, cells := 0, slots := 0, locals := 141 }

set_option maxHeartbeats 800000 in
set_option maxRecDepth 100000 in
/-- turn -/
theorem c_X8_turn {l : Launch} {D : va_G} {ca : Nat → ClassId} {tB tS R : Nat} {ad : Nat → Nat} {g : Nat → va_E} {sz : Nat} (hR : 207 < R) (pm : Nat → Nat) (hpm : PmOk pm) (hT : ∀ k, 1 ≤ k → k ≤ 48 → tnN (fbG pm k) < 1000) (cd : Int32) (ln : Nat) (th : Nat → Nat) (bk bt : Nat) (IN : Nat → Nat → Nat) (ck ct : Nat) (CG : Nat → Nat → Nat) (cn pk : Nat) (hI : MInv ca ad g pm cd ln th bk bt IN ck ct CG cn pk) (k : Int32) : MI l yX8_turn cX8_turn 2 .int rm_X8_turn D ca tB tS R ad g sz [.ref (ad 198), .int (k)] (fun r g1 => (∀ z, z < 198 ∨ 207 < z → g1 z = g z) ∧ ((∃ j : Nat, k = nI j ∧ (1 ≤ j ∧ j ≤ 48) ∧ r = nI (tnN (fbG pm j)) ∧ MInv ca ad g1 pm (nI 0) ln th bk bt IN ck ct CG cn pk) ∨ (¬ (1 ≤ k ∧ k ≤ 48) ∧ MInv ca ad g1 pm (nI 1) ln th bk bt IN ck ct CG cn pk))) := by
  refine m_startI (by decide +kernel) (Nat.le_of_ble_eq_true rfl) (fun p e s m args below meth c ls Q hsz C hl F hw hret => ?_)
  have hl : lv_has ls 2 [(0, .ref (ad 198)), (1, .int (k))] := hl
  generalize s.heap = H at hw ⊢
  generalize ([] : List Loc) = locs at hw ⊢
  obtain ⟨tp, rw, gt, M, pv, ro, tn, bb, hS⟩ := hI
  obtain ⟨⟨q198, q199, q200, q201, q202, q203, q204, q205, q206, q207⟩, hmb, hbb, hCG, hIN, htn, hgt, hbd, hGr, hth⟩ := hS
  have hbd2 := hbd.2.1
  have hbd3 := hbd.2.2
  refine lv_aload_n C.1 C.2.1 dX8_turn_0 rfl (lv_at hl 0 rfl) ?_
  refine lv_iload_n C.1 C.2.1 dX8_turn_1 rfl (lv_at hl 1 rfl) ?_
  refine k_Si C F hw (As := [.int (k)]) (rest := [.ref (ad 198)]) (c_X8_isK k) (va_cwS _ C.2.2.2.2 gm_X8_107 rfl rfl rfl cd_X8_isK.2 ⟨by decide, by decide⟩) hl.1 rfl (Nat.le_of_ble_eq_true rfl) dX8_turn_2 ⟨by decide, by decide⟩ (fun r1 g2 H locs hp hw => ?_)
  obtain ⟨hr9, hg9⟩ := hp
  rw [hg9] at hw
  subst hr9
  refine k_beq (tgt := 12) C dX8_turn_5 (by decide) (fun hc5 => ?_) (fun hc5 => ?_)
  · refine k_icn C 1 dX8_turn_12 (by decide) ?_
    refine k_put C F hw (198) (by omega) q198 rfl in_X8 tyX8_ok nmX8 0 (by decide) fl_X8_42 rfl (v := .int (nI 1)) rfl rfl (Nat.le_of_ble_eq_true rfl) dX8_turn_13 (fun H locs hw => ?_)
    have hw : Wd D (AA R ad sz) s R ad (va_up g (198) (.inr (8, [.int (nI 1), .ref (ad 199), .int (nI ln), .ref (ad 200), .int (nI bk), .int (nI bt), .ref (ad 201), .int (nI ck), .int (nI ct), .ref (ad 202), .int (nI cn), .int (nI pk), .ref (ad 203), .ref (ad 204), .int (nI rw), .ref (ad 205), .ref (ad 206), .int (bI (gt)), .ref (ad 207)]))) H locs := hw
    obtain ⟨g3, hg3⟩ : ∃ z, z = va_up g (198) (.inr (8, [.int (nI 1), .ref (ad 199), .int (nI ln), .ref (ad 200), .int (nI bk), .int (nI bt), .ref (ad 201), .int (nI ck), .int (nI ct), .ref (ad 202), .int (nI cn), .int (nI pk), .ref (ad 203), .ref (ad 204), .int (nI rw), .ref (ad 205), .ref (ad 206), .int (bI (gt)), .ref (ad 207)])) := ⟨_, rfl⟩
    rw [← hg3] at hw
    have hk4 : ∀ z, z ≠ 198 → g3 z = g z := fun z hz => by rw [hg3]; exact va_up_ne _ _ hz
    have e5 : g3 (198) = .inr (8, [.int (nI 1), .ref (ad 199), .int (nI ln), .ref (ad 200), .int (nI bk), .int (nI bt), .ref (ad 201), .int (nI ck), .int (nI ct), .ref (ad 202), .int (nI cn), .int (nI pk), .ref (ad 203), .ref (ad 204), .int (nI rw), .ref (ad 205), .ref (ad 206), .int (bI (gt)), .ref (ad 207)]) := by rw [hg3]; exact va_up_self _ _ _
    have e6 : g3 (199) = ba ca 800 (tp) := (hk4 _ (by omega)).trans q199
    have e7 : g3 (200) = ia ca 49 (tn) := (hk4 _ (by omega)).trans q200
    have e8 : g3 (201) = na ca 944 (fi IN) := (hk4 _ (by omega)).trans q201
    have e9 : g3 (202) = na ca 4425 (fl CG) := (hk4 _ (by omega)).trans q202
    have e10 : g3 (203) = na ca 9000 (fl M) := (hk4 _ (by omega)).trans q203
    have e11 : g3 (204) = na ca 120 (pv) := (hk4 _ (by omega)).trans q204
    have e12 : g3 (205) = na ca 75 (ro) := (hk4 _ (by omega)).trans q205
    have e13 : g3 (206) = na ca 255 (pm) := (hk4 _ (by omega)).trans q206
    have e14 : g3 (207) = na ca 16 (bb) := (hk4 _ (by omega)).trans q207
    have hs15 : ∀ z, (z < 198 ∨ 207 < z) → g3 z = g z := fun z hz => hk4 z (by omega)
    refine lv_aload_n C.1 C.2.1 dX8_turn_16 rfl (lv_at hl 0 rfl) ?_
    refine k_get C F hw (198) (by omega) e5 rfl in_X8 0 (by decide) fl_X8_42 rfl dX8_turn_17 ?_
    refine k_zle (tgt := 27) C dX8_turn_20 (by decide) (by omega) (fun h => absurd h (by decide)) (fun _ => ?_)
    refine k_icn C 0 dX8_turn_23 (by decide) ?_
    refine lv_goto (tgt := 32) C.1 C.2.1 dX8_turn_24 (by decide) ?_
    have hS16 : MSt ca ad g3 pm (nI (1)) ln th bk bt IN ck ct CG cn pk tp rw gt M pv ro tn bb := ⟨⟨e5, e6, e7, e8, e9, e10, e11, e12, e13, e14⟩, hmb, hbb, hCG, hIN, htn, hgt, hbd, hGr, hth⟩
    exact hret H locs ls _ _ _ dX8_turn_32 hw (⟨hs15, Or.inr ⟨of_decide_eq_false hc5, ⟨_, _, _, _, _, _, _, _, hS16⟩⟩⟩)
  · obtain ⟨j, hj, rfl⟩ := nat_of48 (of_decide_eq_true hc5)
    refine k_icn C 0 dX8_turn_8 (by decide) ?_
    refine lv_goto (tgt := 13) C.1 C.2.1 dX8_turn_9 (by decide) ?_
    refine k_put C F hw (198) (by omega) q198 rfl in_X8 tyX8_ok nmX8 0 (by decide) fl_X8_42 rfl (v := .int (nI 0)) rfl rfl (Nat.le_of_ble_eq_true rfl) dX8_turn_13 (fun H locs hw => ?_)
    have hw : Wd D (AA R ad sz) s R ad (va_up g (198) (.inr (8, [.int (nI 0), .ref (ad 199), .int (nI ln), .ref (ad 200), .int (nI bk), .int (nI bt), .ref (ad 201), .int (nI ck), .int (nI ct), .ref (ad 202), .int (nI cn), .int (nI pk), .ref (ad 203), .ref (ad 204), .int (nI rw), .ref (ad 205), .ref (ad 206), .int (bI (gt)), .ref (ad 207)]))) H locs := hw
    obtain ⟨g17, hg17⟩ : ∃ z, z = va_up g (198) (.inr (8, [.int (nI 0), .ref (ad 199), .int (nI ln), .ref (ad 200), .int (nI bk), .int (nI bt), .ref (ad 201), .int (nI ck), .int (nI ct), .ref (ad 202), .int (nI cn), .int (nI pk), .ref (ad 203), .ref (ad 204), .int (nI rw), .ref (ad 205), .ref (ad 206), .int (bI (gt)), .ref (ad 207)])) := ⟨_, rfl⟩
    rw [← hg17] at hw
    have hk18 : ∀ z, z ≠ 198 → g17 z = g z := fun z hz => by rw [hg17]; exact va_up_ne _ _ hz
    have e19 : g17 (198) = .inr (8, [.int (nI 0), .ref (ad 199), .int (nI ln), .ref (ad 200), .int (nI bk), .int (nI bt), .ref (ad 201), .int (nI ck), .int (nI ct), .ref (ad 202), .int (nI cn), .int (nI pk), .ref (ad 203), .ref (ad 204), .int (nI rw), .ref (ad 205), .ref (ad 206), .int (bI (gt)), .ref (ad 207)]) := by rw [hg17]; exact va_up_self _ _ _
    have e20 : g17 (199) = ba ca 800 (tp) := (hk18 _ (by omega)).trans q199
    have e21 : g17 (200) = ia ca 49 (tn) := (hk18 _ (by omega)).trans q200
    have e22 : g17 (201) = na ca 944 (fi IN) := (hk18 _ (by omega)).trans q201
    have e23 : g17 (202) = na ca 4425 (fl CG) := (hk18 _ (by omega)).trans q202
    have e24 : g17 (203) = na ca 9000 (fl M) := (hk18 _ (by omega)).trans q203
    have e25 : g17 (204) = na ca 120 (pv) := (hk18 _ (by omega)).trans q204
    have e26 : g17 (205) = na ca 75 (ro) := (hk18 _ (by omega)).trans q205
    have e27 : g17 (206) = na ca 255 (pm) := (hk18 _ (by omega)).trans q206
    have e28 : g17 (207) = na ca 16 (bb) := (hk18 _ (by omega)).trans q207
    have hs29 : ∀ z, (z < 198 ∨ 207 < z) → g17 z = g z := fun z hz => hk18 z (by omega)
    refine lv_aload_n C.1 C.2.1 dX8_turn_16 rfl (lv_at hl 0 rfl) ?_
    refine k_get C F hw (198) (by omega) e19 rfl in_X8 0 (by decide) fl_X8_42 rfl dX8_turn_17 ?_
    refine k_zle (tgt := 27) C dX8_turn_20 (by decide) (by omega) (fun _ => ?_) (fun h => absurd h (by decide))
    refine lv_aload_n C.1 C.2.1 dX8_turn_27 rfl (lv_at hl 0 rfl) ?_
    refine lv_iload_n C.1 C.2.1 dX8_turn_28 rfl (lv_at hl 1 rfl) ?_
    refine k_Vi C F hw (i := 198) (As := [.int (nI j)]) (rest := []) (c_X8_turnOf hR (nI (0)) ln bk bt ck ct cn pk rw gt e19 ro e26 pm e27 M pv e24 e25 hmb.1 hmb.2.1 hmb.2.2 hpm (fbG pm) (fun k t u _ h2 _ hu => fb_model hpm h2 hu) hT tn e21 j hj (htn.1 j hj.1 hj.2)) (by omega) e19 rfl (cwV _ C.2.2.2.2 gm_X8_110 rfl rfl rfl cd_X8_turnOf ⟨by decide, by decide⟩) hl.1 rfl (Nat.le_of_ble_eq_true rfl) dX8_turn_29 ⟨by decide, by decide⟩ (fun r30 g31 H locs hp hw => ?_)
    obtain ⟨hr9, hs33, u32, gt32, tn32, hmb32, e9832, e0332, e0432, e0532, e0032, htk32, hto32, hgo32⟩ := hp
    subst hr9
    have e34 : g31 (199) = ba ca 800 (tp) := (hs33 _ (by omega)).trans e20
    have e35 : g31 (201) = na ca 944 (fi IN) := (hs33 _ (by omega)).trans e22
    have e36 : g31 (202) = na ca 4425 (fl CG) := (hs33 _ (by omega)).trans e23
    have e37 : g31 (206) = na ca 255 (pm) := (hs33 _ (by omega)).trans e27
    have e38 : g31 (207) = na ca 16 (bb) := (hs33 _ (by omega)).trans e28
    have hs39 : ∀ z, (z < 198 ∨ 207 < z) → g31 z = g z := fun z hz => (hs33 z (by omega)).trans (hs29 z hz)
    have htn32 : TnOk pm tn32 ck := ⟨fun k9 h1 h2 => by by_cases h9 : k9 = j; (rw [h9]; exact Or.inr htk32); (rw [hto32 k9 h9]; exact htn.1 k9 h1 h2), fun h1 => by by_cases h9 : ck = j; (rw [h9]; exact htk32); (rw [hto32 _ h9]; exact htn.2 h1)⟩
    have hgt32 : gt32 = true → ck ≠ 0 ∧ KmOK (ck + 11) (VV pm ck CG) (11 + cn) u32 := fun h => by
      rcases hgo32 with h9 | ⟨h9, h10, h11, h12⟩
      · rw [h9] at h; cases h
      · rw [h] at h9; have h13 := hgt h9.symm; refine ⟨h13.1, ?_⟩; unfold KmOK; rw [h10, h11, h12]; exact h13.2
    have hS40 : MSt ca ad g31 pm (nI (0)) ln th bk bt IN ck ct CG cn pk tp u32.1 gt32 u32.2.1 u32.2.2.1 u32.2.2.2 tn32 bb := ⟨⟨e9832, e34, e0032, e35, e36, e0332, e0432, e0532, e37, e38⟩, hmb32, hbb, hCG, hIN, htn32, hgt32, hbd, hGr, hth⟩
    exact hret H locs ls _ _ _ dX8_turn_32 hw (⟨hs39, Or.inl ⟨j, rfl, hj, rfl, ⟨_, _, _, _, _, _, _, _, hS40⟩⟩⟩)

abbrev rm_X8_byteAt : Room := { frames := 6, cells := 0, slots := 0, locals := 141 }

set_option maxHeartbeats 800000 in
set_option maxRecDepth 100000 in
/-- byteAt -/
theorem c_X8_byteAt {l : Launch} {D : va_G} {ca : Nat → ClassId} {tB tS R : Nat} {ad : Nat → Nat} {g : Nat → va_E} {sz : Nat} (hR : 207 < R) (pm : Nat → Nat) (hpm : PmOk pm) (hT : ∀ k, 1 ≤ k → k ≤ 48 → tnN (fbG pm k) < 1000) (cd : Int32) (ln : Nat) (th : Nat → Nat) (bk bt : Nat) (IN : Nat → Nat → Nat) (ck ct : Nat) (CG : Nat → Nat → Nat) (cn pk : Nat) (hI : MInv ca ad g pm cd ln th bk bt IN ck ct CG cn pk) (xx ix : Int32) : MI l yX8_byteAt cX8_byteAt 3 .int rm_X8_byteAt D ca tB tS R ad g sz [.ref (ad 198), .int (xx), .int (ix)] (fun r g1 => (∀ z, z < 198 ∨ 207 < z → g1 z = g z) ∧ ((bk ≠ 0 ∧ ∃ x i : Nat, xx = nI x ∧ ix = nI i ∧ x < 65536 ∧ i < bt ∧ r = nI (smP pm IN bk x i) ∧ MInv ca ad g1 pm (nI 0) ln th bk bt IN ck ct CG cn pk) ∨ (bk = 0 ∧ MInv ca ad g1 pm (nI 1) ln th bk bt IN ck ct CG cn pk) ∨ (bk ≠ 0 ∧ ¬ (∃ x i : Nat, xx = nI x ∧ ix = nI i ∧ x < 65536 ∧ i < bt) ∧ MInv ca ad g1 pm (nI 2) ln th bk bt IN ck ct CG cn pk))) := by
  refine m_startI (by decide +kernel) (Nat.le_of_ble_eq_true rfl) (fun p e s m args below meth c ls Q hsz C hl F hw hret => ?_)
  have hl : lv_has ls 3 [(0, .ref (ad 198)), (1, .int (xx)), (2, .int (ix))] := hl
  generalize s.heap = H at hw ⊢
  generalize ([] : List Loc) = locs at hw ⊢
  obtain ⟨tp, rw, gt, M, pv, ro, tn, bb, hS⟩ := hI
  obtain ⟨⟨q198, q199, q200, q201, q202, q203, q204, q205, q206, q207⟩, hmb, hbb, hCG, hIN, htn, hgt, hbd, hGr, hth⟩ := hS
  have hbd2 := hbd.2.1
  have hbd3 := hbd.2.2
  refine lv_aload_n C.1 C.2.1 dX8_byteAt_0 rfl (lv_at hl 0 rfl) ?_
  refine lv_aload_n C.1 C.2.1 dX8_byteAt_1 rfl (lv_at hl 0 rfl) ?_
  refine k_get C F hw (198) (by omega) q198 rfl in_X8 4 (by decide) fl_X8_116 rfl dX8_byteAt_2 ?_
  refine k_zne (tgt := 12) C dX8_byteAt_5 (by decide) (by omega) (fun hc5 => ?_) (fun hc5 => ?_)
  · refine lv_iload_n C.1 C.2.1 dX8_byteAt_12 rfl (lv_at hl 1 rfl) ?_
    refine k_Si C F hw (As := [.int (xx)]) (rest := [.ref (ad 198)]) (c_X8_isPacket xx) (va_cwS _ C.2.2.2.2 gm_X8_123 rfl rfl rfl cd_X8_isPacket.2 ⟨by decide, by decide⟩) hl.1 rfl (Nat.le_of_ble_eq_true rfl) dX8_byteAt_13 ⟨by decide, by decide⟩ (fun r1 g2 H locs hp hw => ?_)
    obtain ⟨hr9, hg9⟩ := hp
    rw [hg9] at hw
    subst hr9
    refine k_beq (tgt := 31) C dX8_byteAt_16 (by decide) (fun hc16 => ?_) (fun hc16 => ?_)
    · refine k_icn C 2 dX8_byteAt_31 (by decide) ?_
      refine lv_goto (tgt := 36) C.1 C.2.1 dX8_byteAt_32 (by decide) ?_
      refine k_put C F hw (198) (by omega) q198 rfl in_X8 tyX8_ok nmX8 0 (by decide) fl_X8_42 rfl (v := .int (nI 2)) rfl rfl (Nat.le_of_ble_eq_true rfl) dX8_byteAt_36 (fun H locs hw => ?_)
      have hw : Wd D (AA R ad sz) s R ad (va_up g (198) (.inr (8, [.int (nI 2), .ref (ad 199), .int (nI ln), .ref (ad 200), .int (nI bk), .int (nI bt), .ref (ad 201), .int (nI ck), .int (nI ct), .ref (ad 202), .int (nI cn), .int (nI pk), .ref (ad 203), .ref (ad 204), .int (nI rw), .ref (ad 205), .ref (ad 206), .int (bI (gt)), .ref (ad 207)]))) H locs := hw
      obtain ⟨g3, hg3⟩ : ∃ z, z = va_up g (198) (.inr (8, [.int (nI 2), .ref (ad 199), .int (nI ln), .ref (ad 200), .int (nI bk), .int (nI bt), .ref (ad 201), .int (nI ck), .int (nI ct), .ref (ad 202), .int (nI cn), .int (nI pk), .ref (ad 203), .ref (ad 204), .int (nI rw), .ref (ad 205), .ref (ad 206), .int (bI (gt)), .ref (ad 207)])) := ⟨_, rfl⟩
      rw [← hg3] at hw
      have hk4 : ∀ z, z ≠ 198 → g3 z = g z := fun z hz => by rw [hg3]; exact va_up_ne _ _ hz
      have e5 : g3 (198) = .inr (8, [.int (nI 2), .ref (ad 199), .int (nI ln), .ref (ad 200), .int (nI bk), .int (nI bt), .ref (ad 201), .int (nI ck), .int (nI ct), .ref (ad 202), .int (nI cn), .int (nI pk), .ref (ad 203), .ref (ad 204), .int (nI rw), .ref (ad 205), .ref (ad 206), .int (bI (gt)), .ref (ad 207)]) := by rw [hg3]; exact va_up_self _ _ _
      have e6 : g3 (199) = ba ca 800 (tp) := (hk4 _ (by omega)).trans q199
      have e7 : g3 (200) = ia ca 49 (tn) := (hk4 _ (by omega)).trans q200
      have e8 : g3 (201) = na ca 944 (fi IN) := (hk4 _ (by omega)).trans q201
      have e9 : g3 (202) = na ca 4425 (fl CG) := (hk4 _ (by omega)).trans q202
      have e10 : g3 (203) = na ca 9000 (fl M) := (hk4 _ (by omega)).trans q203
      have e11 : g3 (204) = na ca 120 (pv) := (hk4 _ (by omega)).trans q204
      have e12 : g3 (205) = na ca 75 (ro) := (hk4 _ (by omega)).trans q205
      have e13 : g3 (206) = na ca 255 (pm) := (hk4 _ (by omega)).trans q206
      have e14 : g3 (207) = na ca 16 (bb) := (hk4 _ (by omega)).trans q207
      have hs15 : ∀ z, (z < 198 ∨ 207 < z) → g3 z = g z := fun z hz => hk4 z (by omega)
      refine lv_aload_n C.1 C.2.1 dX8_byteAt_39 rfl (lv_at hl 0 rfl) ?_
      refine k_get C F hw (198) (by omega) e5 rfl in_X8 0 (by decide) fl_X8_42 rfl dX8_byteAt_40 ?_
      refine k_zle (tgt := 48) C dX8_byteAt_43 (by decide) (by omega) (fun h => absurd h (by decide)) (fun _ => ?_)
      refine k_icn C 0 dX8_byteAt_46 (by decide) ?_
      have hS16 : MSt ca ad g3 pm (nI (2)) ln th bk bt IN ck ct CG cn pk tp rw gt M pv ro tn bb := ⟨⟨e5, e6, e7, e8, e9, e10, e11, e12, e13, e14⟩, hmb, hbb, hCG, hIN, htn, hgt, hbd, hGr, hth⟩
      exact hret H locs ls _ _ _ dX8_byteAt_47 hw (⟨hs15, Or.inr (Or.inr ⟨hc5, by first | exact no_x hc16 | exact no_i1 (by omega) hc20 | exact no_i2 (by omega) hc28, ⟨_, _, _, _, _, _, _, _, hS16⟩⟩)⟩)
    · obtain ⟨x, hx, rfl⟩ := nat_of0 (of_decide_eq_true hc16)
      refine lv_iload_n C.1 C.2.1 dX8_byteAt_19 rfl (lv_at hl 2 rfl) ?_
      refine lv_if_lt (tgt := 31) C.1 C.2.1 dX8_byteAt_20 (by decide) (fun hc20 => ?_) (fun hc20 => ?_)
      · refine k_icn C 2 dX8_byteAt_31 (by decide) ?_
        refine lv_goto (tgt := 36) C.1 C.2.1 dX8_byteAt_32 (by decide) ?_
        refine k_put C F hw (198) (by omega) q198 rfl in_X8 tyX8_ok nmX8 0 (by decide) fl_X8_42 rfl (v := .int (nI 2)) rfl rfl (Nat.le_of_ble_eq_true rfl) dX8_byteAt_36 (fun H locs hw => ?_)
        have hw : Wd D (AA R ad sz) s R ad (va_up g (198) (.inr (8, [.int (nI 2), .ref (ad 199), .int (nI ln), .ref (ad 200), .int (nI bk), .int (nI bt), .ref (ad 201), .int (nI ck), .int (nI ct), .ref (ad 202), .int (nI cn), .int (nI pk), .ref (ad 203), .ref (ad 204), .int (nI rw), .ref (ad 205), .ref (ad 206), .int (bI (gt)), .ref (ad 207)]))) H locs := hw
        obtain ⟨g17, hg17⟩ : ∃ z, z = va_up g (198) (.inr (8, [.int (nI 2), .ref (ad 199), .int (nI ln), .ref (ad 200), .int (nI bk), .int (nI bt), .ref (ad 201), .int (nI ck), .int (nI ct), .ref (ad 202), .int (nI cn), .int (nI pk), .ref (ad 203), .ref (ad 204), .int (nI rw), .ref (ad 205), .ref (ad 206), .int (bI (gt)), .ref (ad 207)])) := ⟨_, rfl⟩
        rw [← hg17] at hw
        have hk18 : ∀ z, z ≠ 198 → g17 z = g z := fun z hz => by rw [hg17]; exact va_up_ne _ _ hz
        have e19 : g17 (198) = .inr (8, [.int (nI 2), .ref (ad 199), .int (nI ln), .ref (ad 200), .int (nI bk), .int (nI bt), .ref (ad 201), .int (nI ck), .int (nI ct), .ref (ad 202), .int (nI cn), .int (nI pk), .ref (ad 203), .ref (ad 204), .int (nI rw), .ref (ad 205), .ref (ad 206), .int (bI (gt)), .ref (ad 207)]) := by rw [hg17]; exact va_up_self _ _ _
        have e20 : g17 (199) = ba ca 800 (tp) := (hk18 _ (by omega)).trans q199
        have e21 : g17 (200) = ia ca 49 (tn) := (hk18 _ (by omega)).trans q200
        have e22 : g17 (201) = na ca 944 (fi IN) := (hk18 _ (by omega)).trans q201
        have e23 : g17 (202) = na ca 4425 (fl CG) := (hk18 _ (by omega)).trans q202
        have e24 : g17 (203) = na ca 9000 (fl M) := (hk18 _ (by omega)).trans q203
        have e25 : g17 (204) = na ca 120 (pv) := (hk18 _ (by omega)).trans q204
        have e26 : g17 (205) = na ca 75 (ro) := (hk18 _ (by omega)).trans q205
        have e27 : g17 (206) = na ca 255 (pm) := (hk18 _ (by omega)).trans q206
        have e28 : g17 (207) = na ca 16 (bb) := (hk18 _ (by omega)).trans q207
        have hs29 : ∀ z, (z < 198 ∨ 207 < z) → g17 z = g z := fun z hz => hk18 z (by omega)
        refine lv_aload_n C.1 C.2.1 dX8_byteAt_39 rfl (lv_at hl 0 rfl) ?_
        refine k_get C F hw (198) (by omega) e19 rfl in_X8 0 (by decide) fl_X8_42 rfl dX8_byteAt_40 ?_
        refine k_zle (tgt := 48) C dX8_byteAt_43 (by decide) (by omega) (fun h => absurd h (by decide)) (fun _ => ?_)
        refine k_icn C 0 dX8_byteAt_46 (by decide) ?_
        have hS30 : MSt ca ad g17 pm (nI (2)) ln th bk bt IN ck ct CG cn pk tp rw gt M pv ro tn bb := ⟨⟨e19, e20, e21, e22, e23, e24, e25, e26, e27, e28⟩, hmb, hbb, hCG, hIN, htn, hgt, hbd, hGr, hth⟩
        exact hret H locs ls _ _ _ dX8_byteAt_47 hw (⟨hs29, Or.inr (Or.inr ⟨hc5, by first | exact no_x hc16 | exact no_i1 (by omega) hc20 | exact no_i2 (by omega) hc28, ⟨_, _, _, _, _, _, _, _, hS30⟩⟩)⟩)
      · refine lv_iload_n C.1 C.2.1 dX8_byteAt_23 rfl (lv_at hl 2 rfl) ?_
        refine lv_aload_n C.1 C.2.1 dX8_byteAt_24 rfl (lv_at hl 0 rfl) ?_
        refine k_get C F hw (198) (by omega) q198 rfl in_X8 5 (by decide) fl_X8_119 rfl dX8_byteAt_25 ?_
        refine lv_icmp_lt (tgt := 35) C.1 C.2.1 dX8_byteAt_28 (by decide) (fun hc28 => ?_) (fun hc28 => ?_)
        · obtain ⟨i, hi, rfl⟩ := nI_of hc20
          have hi2 : i < bt := (nI_ltI hi (by omega)).mp hc28
          have hkb : 1 ≤ bk ∧ bk ≤ 48 := by omega
          have hT1 := hT bk hkb.1 hkb.2
          refine k_icn C 0 dX8_byteAt_35 (by decide) ?_
          refine k_put C F hw (198) (by omega) q198 rfl in_X8 tyX8_ok nmX8 0 (by decide) fl_X8_42 rfl (v := .int (nI 0)) rfl rfl (Nat.le_of_ble_eq_true rfl) dX8_byteAt_36 (fun H locs hw => ?_)
          have hw : Wd D (AA R ad sz) s R ad (va_up g (198) (.inr (8, [.int (nI 0), .ref (ad 199), .int (nI ln), .ref (ad 200), .int (nI bk), .int (nI bt), .ref (ad 201), .int (nI ck), .int (nI ct), .ref (ad 202), .int (nI cn), .int (nI pk), .ref (ad 203), .ref (ad 204), .int (nI rw), .ref (ad 205), .ref (ad 206), .int (bI (gt)), .ref (ad 207)]))) H locs := hw
          obtain ⟨g31, hg31⟩ : ∃ z, z = va_up g (198) (.inr (8, [.int (nI 0), .ref (ad 199), .int (nI ln), .ref (ad 200), .int (nI bk), .int (nI bt), .ref (ad 201), .int (nI ck), .int (nI ct), .ref (ad 202), .int (nI cn), .int (nI pk), .ref (ad 203), .ref (ad 204), .int (nI rw), .ref (ad 205), .ref (ad 206), .int (bI (gt)), .ref (ad 207)])) := ⟨_, rfl⟩
          rw [← hg31] at hw
          have hk32 : ∀ z, z ≠ 198 → g31 z = g z := fun z hz => by rw [hg31]; exact va_up_ne _ _ hz
          have e33 : g31 (198) = .inr (8, [.int (nI 0), .ref (ad 199), .int (nI ln), .ref (ad 200), .int (nI bk), .int (nI bt), .ref (ad 201), .int (nI ck), .int (nI ct), .ref (ad 202), .int (nI cn), .int (nI pk), .ref (ad 203), .ref (ad 204), .int (nI rw), .ref (ad 205), .ref (ad 206), .int (bI (gt)), .ref (ad 207)]) := by rw [hg31]; exact va_up_self _ _ _
          have e34 : g31 (199) = ba ca 800 (tp) := (hk32 _ (by omega)).trans q199
          have e35 : g31 (200) = ia ca 49 (tn) := (hk32 _ (by omega)).trans q200
          have e36 : g31 (201) = na ca 944 (fi IN) := (hk32 _ (by omega)).trans q201
          have e37 : g31 (202) = na ca 4425 (fl CG) := (hk32 _ (by omega)).trans q202
          have e38 : g31 (203) = na ca 9000 (fl M) := (hk32 _ (by omega)).trans q203
          have e39 : g31 (204) = na ca 120 (pv) := (hk32 _ (by omega)).trans q204
          have e40 : g31 (205) = na ca 75 (ro) := (hk32 _ (by omega)).trans q205
          have e41 : g31 (206) = na ca 255 (pm) := (hk32 _ (by omega)).trans q206
          have e42 : g31 (207) = na ca 16 (bb) := (hk32 _ (by omega)).trans q207
          have hs43 : ∀ z, (z < 198 ∨ 207 < z) → g31 z = g z := fun z hz => hk32 z (by omega)
          refine lv_aload_n C.1 C.2.1 dX8_byteAt_39 rfl (lv_at hl 0 rfl) ?_
          refine k_get C F hw (198) (by omega) e33 rfl in_X8 0 (by decide) fl_X8_42 rfl dX8_byteAt_40 ?_
          refine k_zle (tgt := 48) C dX8_byteAt_43 (by decide) (by omega) (fun _ => ?_) (fun h => absurd h (by decide))
          refine lv_aload_n C.1 C.2.1 dX8_byteAt_48 rfl (lv_at hl 0 rfl) ?_
          refine lv_aload_n C.1 C.2.1 dX8_byteAt_49 rfl (lv_at hl 0 rfl) ?_
          refine k_get C F hw (198) (by omega) e33 rfl in_X8 4 (by decide) fl_X8_116 rfl dX8_byteAt_50 ?_
          refine lv_aload_n C.1 C.2.1 dX8_byteAt_53 rfl (lv_at hl 0 rfl) ?_
          refine lv_aload_n C.1 C.2.1 dX8_byteAt_54 rfl (lv_at hl 0 rfl) ?_
          refine k_get C F hw (198) (by omega) e33 rfl in_X8 4 (by decide) fl_X8_116 rfl dX8_byteAt_55 ?_
          refine k_Vi C F hw (i := 198) (As := [.int (nI bk)]) (rest := [.int (nI bk), .ref (ad 198)]) (c_X8_turnOf hR (nI (0)) ln bk bt ck ct cn pk rw gt e33 ro e40 pm e41 M pv e38 e39 hmb.1 hmb.2.1 hmb.2.2 hpm (fbG pm) (fun k t u _ h2 _ hu => fb_model hpm h2 hu) hT tn e35 bk hkb (htn.1 bk hkb.1 hkb.2)) (by omega) e33 rfl (cwV _ C.2.2.2.2 gm_X8_110 rfl rfl rfl cd_X8_turnOf ⟨by decide, by decide⟩) hl.1 rfl (Nat.le_of_ble_eq_true rfl) dX8_byteAt_58 ⟨by decide, by decide⟩ (fun r44 g45 H locs hp hw => ?_)
          obtain ⟨hr9, hs47, u46, gt46, tn46, hmb46, e9846, e0346, e0446, e0546, e0046, htk46, hto46, hgo46⟩ := hp
          subst hr9
          have e48 : g45 (199) = ba ca 800 (tp) := (hs47 _ (by omega)).trans e34
          have e49 : g45 (201) = na ca 944 (fi IN) := (hs47 _ (by omega)).trans e36
          have e50 : g45 (202) = na ca 4425 (fl CG) := (hs47 _ (by omega)).trans e37
          have e51 : g45 (206) = na ca 255 (pm) := (hs47 _ (by omega)).trans e41
          have e52 : g45 (207) = na ca 16 (bb) := (hs47 _ (by omega)).trans e42
          have hs53 : ∀ z, (z < 198 ∨ 207 < z) → g45 z = g z := fun z hz => (hs47 z (by omega)).trans (hs43 z hz)
          have htn46 : TnOk pm tn46 ck := ⟨fun k9 h1 h2 => by by_cases h9 : k9 = bk; (rw [h9]; exact Or.inr htk46); (rw [hto46 k9 h9]; exact htn.1 k9 h1 h2), fun h1 => by by_cases h9 : ck = bk; (rw [h9]; exact htk46); (rw [hto46 _ h9]; exact htn.2 h1)⟩
          have hgt46 : gt46 = true → ck ≠ 0 ∧ KmOK (ck + 11) (VV pm ck CG) (11 + cn) u46 := fun h => by
            rcases hgo46 with h9 | ⟨h9, h10, h11, h12⟩
            · rw [h9] at h; cases h
            · rw [h] at h9; have h13 := hgt h9.symm; refine ⟨h13.1, ?_⟩; unfold KmOK; rw [h10, h11, h12]; exact h13.2
          refine lv_iload_n C.1 C.2.1 dX8_byteAt_61 rfl (lv_at hl 1 rfl) ?_
          refine k_Vi C F hw (i := 198) (As := [.int (nI bk), .int (nI (tnN (fbG pm bk))), .int (nI x)]) (rest := []) (c_X8_packet hR (nI (0)) ln bk bt ck ct cn pk u46.1 gt46 e9846 u46.2.2.2 e0546 bk x (tnN (fbG pm bk)) hkb hx (by omega)) (by omega) e9846 rfl (cwV _ C.2.2.2.2 gm_X8_99 rfl rfl rfl cd_X8_packet ⟨by decide, by decide⟩) hl.1 rfl (Nat.le_of_ble_eq_true rfl) dX8_byteAt_62 ⟨by decide, by decide⟩ (fun r54 g55 H locs hp hw => ?_)
          obtain ⟨hr9, hp⟩ := hp
          subst hr9
          obtain ⟨hk56, e57⟩ := hp
          have e58 : g55 (199) = ba ca 800 (tp) := (hk56 _ (by omega)).trans e48
          have e59 : g55 (201) = na ca 944 (fi IN) := (hk56 _ (by omega)).trans e49
          have e60 : g55 (202) = na ca 4425 (fl CG) := (hk56 _ (by omega)).trans e50
          have e61 : g55 (206) = na ca 255 (pm) := (hk56 _ (by omega)).trans e51
          have e62 : g55 (207) = na ca 16 (bb) := (hk56 _ (by omega)).trans e52
          have e63 : g55 (198) = .inr (8, [.int (nI 0), .ref (ad 199), .int (nI ln), .ref (ad 200), .int (nI bk), .int (nI bt), .ref (ad 201), .int (nI ck), .int (nI ct), .ref (ad 202), .int (nI cn), .int (nI pk), .ref (ad 203), .ref (ad 204), .int (nI (u46.1)), .ref (ad 205), .ref (ad 206), .int (bI (gt46)), .ref (ad 207)]) := (hk56 _ (by omega)).trans e9846
          have e64 : g55 (203) = na ca 9000 (fl u46.2.1) := (hk56 _ (by omega)).trans e0346
          have e65 : g55 (204) = na ca 120 (u46.2.2.1) := (hk56 _ (by omega)).trans e0446
          have e66 : g55 (200) = ia ca 49 (tn46) := (hk56 _ (by omega)).trans e0046
          have hs67 : ∀ z, (z < 198 ∨ 207 < z) → g55 z = g z := fun z hz => (hk56 z (by omega)).trans (hs53 z hz)
          refine lv_pop C.1 C.2.1 dX8_byteAt_65 rfl ?_
          refine lv_aload_n C.1 C.2.1 dX8_byteAt_66 rfl (lv_at hl 0 rfl) ?_
          refine lv_iload_n C.1 C.2.1 dX8_byteAt_67 rfl (lv_at hl 2 rfl) ?_
          refine k_Vi C F hw (i := 198) (As := [.int (nI i)]) (rest := []) (c_X8_summed hR (nI (0)) ln bk bt ck ct cn pk u46.1 gt46 e63 (onRow (pkR bk x (tnN (fbG pm bk))) u46.2.2.2) e57 (by_prt (fun c _ => by_pkR _ _ _ c) hmb46.2.1) IN e59 (by omega) i (by omega)) (by omega) e63 rfl (cwV _ C.2.2.2.2 gm_X8_126 rfl rfl rfl cd_X8_summed ⟨by decide, by decide⟩) hl.1 rfl (Nat.le_of_ble_eq_true rfl) dX8_byteAt_68 ⟨by decide, by decide⟩ (fun r68 g69 H locs hp hw => ?_)
          obtain ⟨hr9, hg9⟩ := hp
          rw [hg9] at hw
          subst hr9
          refine k_ti (x' := nI (smP pm IN bk x i)) (by unfold smP; rw [smN_congr (bk + 11) (fun c hc => onRow_at (by omega))]) ?_
          have hS70 : MSt ca ad g55 pm (nI (0)) ln th bk bt IN ck ct CG cn pk tp u46.1 gt46 u46.2.1 u46.2.2.1 (onRow (pkR bk x (tnN (fbG pm bk))) u46.2.2.2) tn46 bb := ⟨⟨e63, e58, e66, e59, e60, e64, e65, e57, e61, e62⟩, ⟨hmb46.1, by_prt (fun c _ => by_pkR _ _ _ c) hmb46.2.1, hmb46.2.2⟩, hbb, hCG, hIN, htn46, hgt46, hbd, hGr, hth⟩
          exact hret H locs ls _ _ _ dX8_byteAt_71 hw (⟨hs67, Or.inl ⟨hc5, x, i, rfl, rfl, hx, hi2, rfl, ⟨_, _, _, _, _, _, _, _, hS70⟩⟩⟩)
        · refine k_icn C 2 dX8_byteAt_31 (by decide) ?_
          refine lv_goto (tgt := 36) C.1 C.2.1 dX8_byteAt_32 (by decide) ?_
          refine k_put C F hw (198) (by omega) q198 rfl in_X8 tyX8_ok nmX8 0 (by decide) fl_X8_42 rfl (v := .int (nI 2)) rfl rfl (Nat.le_of_ble_eq_true rfl) dX8_byteAt_36 (fun H locs hw => ?_)
          have hw : Wd D (AA R ad sz) s R ad (va_up g (198) (.inr (8, [.int (nI 2), .ref (ad 199), .int (nI ln), .ref (ad 200), .int (nI bk), .int (nI bt), .ref (ad 201), .int (nI ck), .int (nI ct), .ref (ad 202), .int (nI cn), .int (nI pk), .ref (ad 203), .ref (ad 204), .int (nI rw), .ref (ad 205), .ref (ad 206), .int (bI (gt)), .ref (ad 207)]))) H locs := hw
          obtain ⟨g71, hg71⟩ : ∃ z, z = va_up g (198) (.inr (8, [.int (nI 2), .ref (ad 199), .int (nI ln), .ref (ad 200), .int (nI bk), .int (nI bt), .ref (ad 201), .int (nI ck), .int (nI ct), .ref (ad 202), .int (nI cn), .int (nI pk), .ref (ad 203), .ref (ad 204), .int (nI rw), .ref (ad 205), .ref (ad 206), .int (bI (gt)), .ref (ad 207)])) := ⟨_, rfl⟩
          rw [← hg71] at hw
          have hk72 : ∀ z, z ≠ 198 → g71 z = g z := fun z hz => by rw [hg71]; exact va_up_ne _ _ hz
          have e73 : g71 (198) = .inr (8, [.int (nI 2), .ref (ad 199), .int (nI ln), .ref (ad 200), .int (nI bk), .int (nI bt), .ref (ad 201), .int (nI ck), .int (nI ct), .ref (ad 202), .int (nI cn), .int (nI pk), .ref (ad 203), .ref (ad 204), .int (nI rw), .ref (ad 205), .ref (ad 206), .int (bI (gt)), .ref (ad 207)]) := by rw [hg71]; exact va_up_self _ _ _
          have e74 : g71 (199) = ba ca 800 (tp) := (hk72 _ (by omega)).trans q199
          have e75 : g71 (200) = ia ca 49 (tn) := (hk72 _ (by omega)).trans q200
          have e76 : g71 (201) = na ca 944 (fi IN) := (hk72 _ (by omega)).trans q201
          have e77 : g71 (202) = na ca 4425 (fl CG) := (hk72 _ (by omega)).trans q202
          have e78 : g71 (203) = na ca 9000 (fl M) := (hk72 _ (by omega)).trans q203
          have e79 : g71 (204) = na ca 120 (pv) := (hk72 _ (by omega)).trans q204
          have e80 : g71 (205) = na ca 75 (ro) := (hk72 _ (by omega)).trans q205
          have e81 : g71 (206) = na ca 255 (pm) := (hk72 _ (by omega)).trans q206
          have e82 : g71 (207) = na ca 16 (bb) := (hk72 _ (by omega)).trans q207
          have hs83 : ∀ z, (z < 198 ∨ 207 < z) → g71 z = g z := fun z hz => hk72 z (by omega)
          refine lv_aload_n C.1 C.2.1 dX8_byteAt_39 rfl (lv_at hl 0 rfl) ?_
          refine k_get C F hw (198) (by omega) e73 rfl in_X8 0 (by decide) fl_X8_42 rfl dX8_byteAt_40 ?_
          refine k_zle (tgt := 48) C dX8_byteAt_43 (by decide) (by omega) (fun h => absurd h (by decide)) (fun _ => ?_)
          refine k_icn C 0 dX8_byteAt_46 (by decide) ?_
          have hS84 : MSt ca ad g71 pm (nI (2)) ln th bk bt IN ck ct CG cn pk tp rw gt M pv ro tn bb := ⟨⟨e73, e74, e75, e76, e77, e78, e79, e80, e81, e82⟩, hmb, hbb, hCG, hIN, htn, hgt, hbd, hGr, hth⟩
          exact hret H locs ls _ _ _ dX8_byteAt_47 hw (⟨hs83, Or.inr (Or.inr ⟨hc5, by first | exact no_x hc16 | exact no_i1 (by omega) hc20 | exact no_i2 (by omega) hc28, ⟨_, _, _, _, _, _, _, _, hS84⟩⟩)⟩)
  · refine k_icn C 1 dX8_byteAt_8 (by decide) ?_
    refine lv_goto (tgt := 36) C.1 C.2.1 dX8_byteAt_9 (by decide) ?_
    refine k_put C F hw (198) (by omega) q198 rfl in_X8 tyX8_ok nmX8 0 (by decide) fl_X8_42 rfl (v := .int (nI 1)) rfl rfl (Nat.le_of_ble_eq_true rfl) dX8_byteAt_36 (fun H locs hw => ?_)
    have hw : Wd D (AA R ad sz) s R ad (va_up g (198) (.inr (8, [.int (nI 1), .ref (ad 199), .int (nI ln), .ref (ad 200), .int (nI bk), .int (nI bt), .ref (ad 201), .int (nI ck), .int (nI ct), .ref (ad 202), .int (nI cn), .int (nI pk), .ref (ad 203), .ref (ad 204), .int (nI rw), .ref (ad 205), .ref (ad 206), .int (bI (gt)), .ref (ad 207)]))) H locs := hw
    obtain ⟨g85, hg85⟩ : ∃ z, z = va_up g (198) (.inr (8, [.int (nI 1), .ref (ad 199), .int (nI ln), .ref (ad 200), .int (nI bk), .int (nI bt), .ref (ad 201), .int (nI ck), .int (nI ct), .ref (ad 202), .int (nI cn), .int (nI pk), .ref (ad 203), .ref (ad 204), .int (nI rw), .ref (ad 205), .ref (ad 206), .int (bI (gt)), .ref (ad 207)])) := ⟨_, rfl⟩
    rw [← hg85] at hw
    have hk86 : ∀ z, z ≠ 198 → g85 z = g z := fun z hz => by rw [hg85]; exact va_up_ne _ _ hz
    have e87 : g85 (198) = .inr (8, [.int (nI 1), .ref (ad 199), .int (nI ln), .ref (ad 200), .int (nI bk), .int (nI bt), .ref (ad 201), .int (nI ck), .int (nI ct), .ref (ad 202), .int (nI cn), .int (nI pk), .ref (ad 203), .ref (ad 204), .int (nI rw), .ref (ad 205), .ref (ad 206), .int (bI (gt)), .ref (ad 207)]) := by rw [hg85]; exact va_up_self _ _ _
    have e88 : g85 (199) = ba ca 800 (tp) := (hk86 _ (by omega)).trans q199
    have e89 : g85 (200) = ia ca 49 (tn) := (hk86 _ (by omega)).trans q200
    have e90 : g85 (201) = na ca 944 (fi IN) := (hk86 _ (by omega)).trans q201
    have e91 : g85 (202) = na ca 4425 (fl CG) := (hk86 _ (by omega)).trans q202
    have e92 : g85 (203) = na ca 9000 (fl M) := (hk86 _ (by omega)).trans q203
    have e93 : g85 (204) = na ca 120 (pv) := (hk86 _ (by omega)).trans q204
    have e94 : g85 (205) = na ca 75 (ro) := (hk86 _ (by omega)).trans q205
    have e95 : g85 (206) = na ca 255 (pm) := (hk86 _ (by omega)).trans q206
    have e96 : g85 (207) = na ca 16 (bb) := (hk86 _ (by omega)).trans q207
    have hs97 : ∀ z, (z < 198 ∨ 207 < z) → g85 z = g z := fun z hz => hk86 z (by omega)
    refine lv_aload_n C.1 C.2.1 dX8_byteAt_39 rfl (lv_at hl 0 rfl) ?_
    refine k_get C F hw (198) (by omega) e87 rfl in_X8 0 (by decide) fl_X8_42 rfl dX8_byteAt_40 ?_
    refine k_zle (tgt := 48) C dX8_byteAt_43 (by decide) (by omega) (fun h => absurd h (by decide)) (fun _ => ?_)
    refine k_icn C 0 dX8_byteAt_46 (by decide) ?_
    have hS98 : MSt ca ad g85 pm (nI (1)) ln th bk bt IN ck ct CG cn pk tp rw gt M pv ro tn bb := ⟨⟨e87, e88, e89, e90, e91, e92, e93, e94, e95, e96⟩, hmb, hbb, hCG, hIN, htn, hgt, hbd, hGr, hth⟩
    exact hret H locs ls _ _ _ dX8_byteAt_47 hw (⟨hs97, Or.inr (Or.inl ⟨hc5, ⟨_, _, _, _, _, _, _, _, hS98⟩⟩)⟩)

theorem pkR_some {k : Nat} (x t : Nat) (hk : 1 ≤ k ∧ k ≤ 48) : ∃ c, c < k + 11 ∧ pkR k x t c = 1 := ⟨pkP k x t 0, (pkP_ok x t hk).1 0 (pkD_pos k x t), mkR_1 ⟨0, pkD_pos k x t, rfl⟩⟩

abbrev rm_X8_row : Room := { frames := 6, cells := 0, slots := 0, locals := 141 }

set_option maxHeartbeats 800000 in
set_option maxRecDepth 100000 in
/-- row -/
theorem c_X8_row {l : Launch} {D : va_G} {ca : Nat → ClassId} {tB tS R : Nat} {ad : Nat → Nat} {g : Nat → va_E} {sz : Nat} (hR : 207 < R) (pm : Nat → Nat) (hpm : PmOk pm) (hT : ∀ k, 1 ≤ k → k ≤ 48 → tnN (fbG pm k) < 1000) (cd : Int32) (ln : Nat) (th : Nat → Nat) (bk bt : Nat) (IN : Nat → Nat → Nat) (ck ct : Nat) (CG : Nat → Nat → Nat) (cn pk : Nat) (hI : MInv ca ad g pm cd ln th bk bt IN ck ct CG cn pk) (kx xx : Int32) (pz : Bool) : MI l yX8_row cX8_row 6 .int rm_X8_row D ca tB tS R ad g sz [.ref (ad 198), .int (kx), .int (xx), .int (bI (pz))] (fun r g1 => (∀ z, z < 198 ∨ 207 < z → g1 z = g z) ∧ ((∃ k x : Nat, kx = nI k ∧ xx = nI x ∧ (1 ≤ k ∧ k ≤ 48) ∧ x < 65536 ∧ (∃ la, la < k + 11 ∧ pkR k x (tnN (fbG pm k)) la = 1 ∧ (∀ c, la < c → c < k + 11 → pkR k x (tnN (fbG pm k)) c = 0) ∧ r = (if pz = true then nI la else nI (pkD k x (tnN (fbG pm k))))) ∧ MInv ca ad g1 pm (nI 0) ln th bk bt IN ck ct CG cn pk) ∨ (¬ (1 ≤ kx ∧ kx ≤ 48) ∧ MInv ca ad g1 pm (nI 1) ln th bk bt IN ck ct CG cn pk) ∨ ((1 ≤ kx ∧ kx ≤ 48) ∧ ¬ (0 ≤ xx ∧ xx < 65536) ∧ MInv ca ad g1 pm (nI 2) ln th bk bt IN ck ct CG cn pk))) := by
  refine m_startI (by decide +kernel) (Nat.le_of_ble_eq_true rfl) (fun p e s m args below meth c ls Q hsz C hl F hw hret => ?_)
  have hl : lv_has ls 6 [(0, .ref (ad 198)), (1, .int (kx)), (2, .int (xx)), (3, .int (bI (pz)))] := hl
  generalize s.heap = H at hw ⊢
  generalize ([] : List Loc) = locs at hw ⊢
  obtain ⟨tp, rw, gt, M, pv, ro, tn, bb, hS⟩ := hI
  obtain ⟨⟨q198, q199, q200, q201, q202, q203, q204, q205, q206, q207⟩, hmb, hbb, hCG, hIN, htn, hgt, hbd, hGr, hth⟩ := hS
  have hbd2 := hbd.2.1
  have hbd3 := hbd.2.2
  refine lv_aload_n C.1 C.2.1 dX8_row_0 rfl (lv_at hl 0 rfl) ?_
  refine lv_iload_n C.1 C.2.1 dX8_row_1 rfl (lv_at hl 1 rfl) ?_
  refine k_Si C F hw (As := [.int (kx)]) (rest := [.ref (ad 198)]) (c_X8_isK kx) (va_cwS _ C.2.2.2.2 gm_X8_107 rfl rfl rfl cd_X8_isK.2 ⟨by decide, by decide⟩) hl.1 rfl (Nat.le_of_ble_eq_true rfl) dX8_row_2 ⟨by decide, by decide⟩ (fun r1 g2 H locs hp hw => ?_)
  obtain ⟨hr9, hg9⟩ := hp
  rw [hg9] at hw
  subst hr9
  refine k_bne (tgt := 12) C dX8_row_5 (by decide) (fun hc5 => ?_) (fun hc5 => ?_)
  · have hkx := of_decide_eq_true hc5
    refine lv_iload_n C.1 C.2.1 dX8_row_12 rfl (lv_at hl 2 rfl) ?_
    refine k_Si C F hw (As := [.int (xx)]) (rest := [.ref (ad 198)]) (c_X8_isPacket xx) (va_cwS _ C.2.2.2.2 gm_X8_123 rfl rfl rfl cd_X8_isPacket.2 ⟨by decide, by decide⟩) hl.1 rfl (Nat.le_of_ble_eq_true rfl) dX8_row_13 ⟨by decide, by decide⟩ (fun r3 g4 H locs hp hw => ?_)
    obtain ⟨hr9, hg9⟩ := hp
    rw [hg9] at hw
    subst hr9
    refine k_beq (tgt := 23) C dX8_row_16 (by decide) (fun hc16 => ?_) (fun hc16 => ?_)
    · refine k_icn C 2 dX8_row_23 (by decide) ?_
      refine k_put C F hw (198) (by omega) q198 rfl in_X8 tyX8_ok nmX8 0 (by decide) fl_X8_42 rfl (v := .int (nI 2)) rfl rfl (Nat.le_of_ble_eq_true rfl) dX8_row_24 (fun H locs hw => ?_)
      have hw : Wd D (AA R ad sz) s R ad (va_up g (198) (.inr (8, [.int (nI 2), .ref (ad 199), .int (nI ln), .ref (ad 200), .int (nI bk), .int (nI bt), .ref (ad 201), .int (nI ck), .int (nI ct), .ref (ad 202), .int (nI cn), .int (nI pk), .ref (ad 203), .ref (ad 204), .int (nI rw), .ref (ad 205), .ref (ad 206), .int (bI (gt)), .ref (ad 207)]))) H locs := hw
      obtain ⟨g5, hg5⟩ : ∃ z, z = va_up g (198) (.inr (8, [.int (nI 2), .ref (ad 199), .int (nI ln), .ref (ad 200), .int (nI bk), .int (nI bt), .ref (ad 201), .int (nI ck), .int (nI ct), .ref (ad 202), .int (nI cn), .int (nI pk), .ref (ad 203), .ref (ad 204), .int (nI rw), .ref (ad 205), .ref (ad 206), .int (bI (gt)), .ref (ad 207)])) := ⟨_, rfl⟩
      rw [← hg5] at hw
      have hk6 : ∀ z, z ≠ 198 → g5 z = g z := fun z hz => by rw [hg5]; exact va_up_ne _ _ hz
      have e7 : g5 (198) = .inr (8, [.int (nI 2), .ref (ad 199), .int (nI ln), .ref (ad 200), .int (nI bk), .int (nI bt), .ref (ad 201), .int (nI ck), .int (nI ct), .ref (ad 202), .int (nI cn), .int (nI pk), .ref (ad 203), .ref (ad 204), .int (nI rw), .ref (ad 205), .ref (ad 206), .int (bI (gt)), .ref (ad 207)]) := by rw [hg5]; exact va_up_self _ _ _
      have e8 : g5 (199) = ba ca 800 (tp) := (hk6 _ (by omega)).trans q199
      have e9 : g5 (200) = ia ca 49 (tn) := (hk6 _ (by omega)).trans q200
      have e10 : g5 (201) = na ca 944 (fi IN) := (hk6 _ (by omega)).trans q201
      have e11 : g5 (202) = na ca 4425 (fl CG) := (hk6 _ (by omega)).trans q202
      have e12 : g5 (203) = na ca 9000 (fl M) := (hk6 _ (by omega)).trans q203
      have e13 : g5 (204) = na ca 120 (pv) := (hk6 _ (by omega)).trans q204
      have e14 : g5 (205) = na ca 75 (ro) := (hk6 _ (by omega)).trans q205
      have e15 : g5 (206) = na ca 255 (pm) := (hk6 _ (by omega)).trans q206
      have e16 : g5 (207) = na ca 16 (bb) := (hk6 _ (by omega)).trans q207
      have hs17 : ∀ z, (z < 198 ∨ 207 < z) → g5 z = g z := fun z hz => hk6 z (by omega)
      refine lv_aload_n C.1 C.2.1 dX8_row_27 rfl (lv_at hl 0 rfl) ?_
      refine k_get C F hw (198) (by omega) e7 rfl in_X8 0 (by decide) fl_X8_42 rfl dX8_row_28 ?_
      refine k_zle (tgt := 36) C dX8_row_31 (by decide) (by omega) (fun h => absurd h (by decide)) (fun _ => ?_)
      refine k_icn C 0 dX8_row_34 (by decide) ?_
      have hS18 : MSt ca ad g5 pm (nI (2)) ln th bk bt IN ck ct CG cn pk tp rw gt M pv ro tn bb := ⟨⟨e7, e8, e9, e10, e11, e12, e13, e14, e15, e16⟩, hmb, hbb, hCG, hIN, htn, hgt, hbd, hGr, hth⟩
      exact hret H locs ls _ _ _ dX8_row_35 hw (⟨hs17, Or.inr (Or.inr ⟨hkx, of_decide_eq_false hc16, ⟨_, _, _, _, _, _, _, _, hS18⟩⟩)⟩)
    · obtain ⟨k, hk, rfl⟩ := nat_of48 (of_decide_eq_true hc5)
      obtain ⟨x, hx, rfl⟩ := nat_of0 (of_decide_eq_true hc16)
      have hT1 := hT k hk.1 hk.2
      refine k_icn C 0 dX8_row_19 (by decide) ?_
      refine lv_goto (tgt := 24) C.1 C.2.1 dX8_row_20 (by decide) ?_
      refine k_put C F hw (198) (by omega) q198 rfl in_X8 tyX8_ok nmX8 0 (by decide) fl_X8_42 rfl (v := .int (nI 0)) rfl rfl (Nat.le_of_ble_eq_true rfl) dX8_row_24 (fun H locs hw => ?_)
      have hw : Wd D (AA R ad sz) s R ad (va_up g (198) (.inr (8, [.int (nI 0), .ref (ad 199), .int (nI ln), .ref (ad 200), .int (nI bk), .int (nI bt), .ref (ad 201), .int (nI ck), .int (nI ct), .ref (ad 202), .int (nI cn), .int (nI pk), .ref (ad 203), .ref (ad 204), .int (nI rw), .ref (ad 205), .ref (ad 206), .int (bI (gt)), .ref (ad 207)]))) H locs := hw
      obtain ⟨g19, hg19⟩ : ∃ z, z = va_up g (198) (.inr (8, [.int (nI 0), .ref (ad 199), .int (nI ln), .ref (ad 200), .int (nI bk), .int (nI bt), .ref (ad 201), .int (nI ck), .int (nI ct), .ref (ad 202), .int (nI cn), .int (nI pk), .ref (ad 203), .ref (ad 204), .int (nI rw), .ref (ad 205), .ref (ad 206), .int (bI (gt)), .ref (ad 207)])) := ⟨_, rfl⟩
      rw [← hg19] at hw
      have hk20 : ∀ z, z ≠ 198 → g19 z = g z := fun z hz => by rw [hg19]; exact va_up_ne _ _ hz
      have e21 : g19 (198) = .inr (8, [.int (nI 0), .ref (ad 199), .int (nI ln), .ref (ad 200), .int (nI bk), .int (nI bt), .ref (ad 201), .int (nI ck), .int (nI ct), .ref (ad 202), .int (nI cn), .int (nI pk), .ref (ad 203), .ref (ad 204), .int (nI rw), .ref (ad 205), .ref (ad 206), .int (bI (gt)), .ref (ad 207)]) := by rw [hg19]; exact va_up_self _ _ _
      have e22 : g19 (199) = ba ca 800 (tp) := (hk20 _ (by omega)).trans q199
      have e23 : g19 (200) = ia ca 49 (tn) := (hk20 _ (by omega)).trans q200
      have e24 : g19 (201) = na ca 944 (fi IN) := (hk20 _ (by omega)).trans q201
      have e25 : g19 (202) = na ca 4425 (fl CG) := (hk20 _ (by omega)).trans q202
      have e26 : g19 (203) = na ca 9000 (fl M) := (hk20 _ (by omega)).trans q203
      have e27 : g19 (204) = na ca 120 (pv) := (hk20 _ (by omega)).trans q204
      have e28 : g19 (205) = na ca 75 (ro) := (hk20 _ (by omega)).trans q205
      have e29 : g19 (206) = na ca 255 (pm) := (hk20 _ (by omega)).trans q206
      have e30 : g19 (207) = na ca 16 (bb) := (hk20 _ (by omega)).trans q207
      have hs31 : ∀ z, (z < 198 ∨ 207 < z) → g19 z = g z := fun z hz => hk20 z (by omega)
      refine lv_aload_n C.1 C.2.1 dX8_row_27 rfl (lv_at hl 0 rfl) ?_
      refine k_get C F hw (198) (by omega) e21 rfl in_X8 0 (by decide) fl_X8_42 rfl dX8_row_28 ?_
      refine k_zle (tgt := 36) C dX8_row_31 (by decide) (by omega) (fun _ => ?_) (fun h => absurd h (by decide))
      refine lv_aload_n C.1 C.2.1 dX8_row_36 rfl (lv_at hl 0 rfl) ?_
      refine lv_iload_n C.1 C.2.1 dX8_row_37 rfl (lv_at hl 1 rfl) ?_
      refine lv_aload_n C.1 C.2.1 dX8_row_38 rfl (lv_at hl 0 rfl) ?_
      refine lv_iload_n C.1 C.2.1 dX8_row_39 rfl (lv_at hl 1 rfl) ?_
      refine k_Vi C F hw (i := 198) (As := [.int (nI k)]) (rest := [.int (nI k), .ref (ad 198)]) (c_X8_turnOf hR (nI (0)) ln bk bt ck ct cn pk rw gt e21 ro e28 pm e29 M pv e26 e27 hmb.1 hmb.2.1 hmb.2.2 hpm (fbG pm) (fun k t u _ h2 _ hu => fb_model hpm h2 hu) hT tn e23 k hk (htn.1 k hk.1 hk.2)) (by omega) e21 rfl (cwV _ C.2.2.2.2 gm_X8_110 rfl rfl rfl cd_X8_turnOf ⟨by decide, by decide⟩) hl.1 rfl (Nat.le_of_ble_eq_true rfl) dX8_row_40 ⟨by decide, by decide⟩ (fun r32 g33 H locs hp hw => ?_)
      obtain ⟨hr9, hs35, u34, gt34, tn34, hmb34, e9834, e0334, e0434, e0534, e0034, htk34, hto34, hgo34⟩ := hp
      subst hr9
      have e36 : g33 (199) = ba ca 800 (tp) := (hs35 _ (by omega)).trans e22
      have e37 : g33 (201) = na ca 944 (fi IN) := (hs35 _ (by omega)).trans e24
      have e38 : g33 (202) = na ca 4425 (fl CG) := (hs35 _ (by omega)).trans e25
      have e39 : g33 (206) = na ca 255 (pm) := (hs35 _ (by omega)).trans e29
      have e40 : g33 (207) = na ca 16 (bb) := (hs35 _ (by omega)).trans e30
      have hs41 : ∀ z, (z < 198 ∨ 207 < z) → g33 z = g z := fun z hz => (hs35 z (by omega)).trans (hs31 z hz)
      have htn34 : TnOk pm tn34 ck := ⟨fun k9 h1 h2 => by by_cases h9 : k9 = k; (rw [h9]; exact Or.inr htk34); (rw [hto34 k9 h9]; exact htn.1 k9 h1 h2), fun h1 => by by_cases h9 : ck = k; (rw [h9]; exact htk34); (rw [hto34 _ h9]; exact htn.2 h1)⟩
      have hgt34 : gt34 = true → ck ≠ 0 ∧ KmOK (ck + 11) (VV pm ck CG) (11 + cn) u34 := fun h => by
        rcases hgo34 with h9 | ⟨h9, h10, h11, h12⟩
        · rw [h9] at h; cases h
        · rw [h] at h9; have h13 := hgt h9.symm; refine ⟨h13.1, ?_⟩; unfold KmOK; rw [h10, h11, h12]; exact h13.2
      refine lv_iload_n C.1 C.2.1 dX8_row_43 rfl (lv_at hl 2 rfl) ?_
      refine k_Vi C F hw (i := 198) (As := [.int (nI k), .int (nI (tnN (fbG pm k))), .int (nI x)]) (rest := []) (c_X8_packet hR (nI (0)) ln bk bt ck ct cn pk u34.1 gt34 e9834 u34.2.2.2 e0534 k x (tnN (fbG pm k)) hk hx (by omega)) (by omega) e9834 rfl (cwV _ C.2.2.2.2 gm_X8_99 rfl rfl rfl cd_X8_packet ⟨by decide, by decide⟩) hl.1 rfl (Nat.le_of_ble_eq_true rfl) dX8_row_44 ⟨by decide, by decide⟩ (fun r42 g43 H locs hp hw => ?_)
      obtain ⟨hr9, hp⟩ := hp
      subst hr9
      obtain ⟨hk44, e45⟩ := hp
      have e46 : g43 (199) = ba ca 800 (tp) := (hk44 _ (by omega)).trans e36
      have e47 : g43 (201) = na ca 944 (fi IN) := (hk44 _ (by omega)).trans e37
      have e48 : g43 (202) = na ca 4425 (fl CG) := (hk44 _ (by omega)).trans e38
      have e49 : g43 (206) = na ca 255 (pm) := (hk44 _ (by omega)).trans e39
      have e50 : g43 (207) = na ca 16 (bb) := (hk44 _ (by omega)).trans e40
      have e51 : g43 (198) = .inr (8, [.int (nI 0), .ref (ad 199), .int (nI ln), .ref (ad 200), .int (nI bk), .int (nI bt), .ref (ad 201), .int (nI ck), .int (nI ct), .ref (ad 202), .int (nI cn), .int (nI pk), .ref (ad 203), .ref (ad 204), .int (nI (u34.1)), .ref (ad 205), .ref (ad 206), .int (bI (gt34)), .ref (ad 207)]) := (hk44 _ (by omega)).trans e9834
      have e52 : g43 (203) = na ca 9000 (fl u34.2.1) := (hk44 _ (by omega)).trans e0334
      have e53 : g43 (204) = na ca 120 (u34.2.2.1) := (hk44 _ (by omega)).trans e0434
      have e54 : g43 (200) = ia ca 49 (tn34) := (hk44 _ (by omega)).trans e0034
      have hs55 : ∀ z, (z < 198 ∨ 207 < z) → g43 z = g z := fun z hz => (hk44 z (by omega)).trans (hs41 z hz)
      refine lv_istore (lv' := [(4, .int (nI (pkD k x (tnN (fbG pm k))))), (0, .ref (ad 198)), (1, .int (nI k)), (2, .int (nI x)), (3, .int (bI (pz)))]) C.1 C.2.1 dX8_row_47 hl (by decide) rfl (fun ls hl => ?_)
      refine lv_iload_n C.1 C.2.1 dX8_row_49 rfl (lv_at hl 2 rfl) ?_
      refine k_bip C 10 dX8_row_50 (by decide) ?_
      refine k_add C dX8_row_52 ?_
      refine lv_istore (lv' := [(5, .int (nI (k + 10))), (4, .int (nI (pkD k x (tnN (fbG pm k))))), (0, .ref (ad 198)), (1, .int (nI k)), (2, .int (nI x)), (3, .int (bI (pz)))]) C.1 C.2.1 dX8_row_53 hl (by decide) rfl (fun ls hl => ?_)
      have loop55 : ∀ (fuel : Nat) (j : Nat) (gL : Nat → va_E) (H : Heap) (locs : List Loc) (ls : Array Slot), (j + 1 ≤ fuel) → (j < k + 11) → (∀ c, j < c → c < k + 11 → pkR k x (tnN (fbG pm k)) c = 0) → (∀ z, (z < 198 ∨ 207 < z) → gL z = g z) → (gL (198) = .inr (8, [.int (nI 0), .ref (ad 199), .int (nI ln), .ref (ad 200), .int (nI bk), .int (nI bt), .ref (ad 201), .int (nI ck), .int (nI ct), .ref (ad 202), .int (nI cn), .int (nI pk), .ref (ad 203), .ref (ad 204), .int (nI (u34.1)), .ref (ad 205), .ref (ad 206), .int (bI (gt34)), .ref (ad 207)])) → (gL (199) = ba ca 800 (tp)) → (gL (200) = ia ca 49 (tn34)) → (gL (201) = na ca 944 (fi IN)) → (gL (202) = na ca 4425 (fl CG)) → (gL (203) = na ca 9000 (fl u34.2.1)) → (gL (204) = na ca 120 (u34.2.2.1)) → (gL (205) = na ca 75 (onRow (pkR k x (tnN (fbG pm k))) u34.2.2.2)) → (gL (206) = na ca 255 (pm)) → (gL (207) = na ca 16 (bb)) → Wd D (AA R ad sz) s R ad gL H locs → lv_has ls 6 [(0, .ref (ad 198)), (1, .int (nI k)), (2, .int (nI x)), (3, .int (bI (pz))), (4, .int (nI (pkD k x (tnN (fbG pm k))))), (5, .int (nI j))] → W p l e rm_X8_row s m args below meth c H locs 0 0 Q (F0 m 55 ls []) := by
        intro fuel
        induction fuel with
        | zero =>
          intro j gL H locs ls hfu55
          exact absurd hfu55 (by omega)
        | succ fuel55 ih55 =>
          intro j gL H locs ls hfu55 hj hz hsL55 eL55_0 eL55_1 eL55_2 eL55_3 eL55_4 eL55_5 eL55_6 eL55_7 eL55_8 eL55_9 hw hl
          refine lv_aload_n C.1 C.2.1 dX8_row_55 rfl (lv_at hl 0 rfl) ?_
          refine k_get C F hw (198) (by omega) eL55_0 rfl in_X8 15 (by decide) fl_X8_29 rfl dX8_row_56 ?_
          refine lv_iload C.1 C.2.1 dX8_row_59 (lv_at hl 5 rfl) ?_
          refine k_iald C F hw (205) (by omega) eL55_7 (j) (by omega) (by decide) dX8_row_61 ?_
          refine k_ti (x' := nI (pkR k x (tnN (fbG pm k)) j)) (by rw [onRow_at (by omega)]) ?_
          have hr01 := pkR_01 k x (tnN (fbG pm k)) j
          refine k_zne (tgt := 71) C dX8_row_62 (by decide) (by omega) (fun hc62 => ?_) (fun hc62 => ?_)
          · refine lv_iload_n C.1 C.2.1 dX8_row_71 rfl (lv_at hl 3 rfl) ?_
            refine k_beq (tgt := 80) C dX8_row_72 (by decide) (fun hc72 => ?_) (fun hc72 => ?_)
            · refine lv_iload C.1 C.2.1 dX8_row_80 (lv_at hl 4 rfl) ?_
              have hS56 : MSt ca ad gL pm (nI (0)) ln th bk bt IN ck ct CG cn pk tp u34.1 gt34 u34.2.1 u34.2.2.1 (onRow (pkR k x (tnN (fbG pm k))) u34.2.2.2) tn34 bb := ⟨⟨eL55_0, eL55_1, eL55_2, eL55_3, eL55_4, eL55_5, eL55_6, eL55_7, eL55_8, eL55_9⟩, ⟨hmb34.1, by_prt (fun c _ => by_pkR _ _ _ c) hmb34.2.1, hmb34.2.2⟩, hbb, hCG, hIN, htn34, hgt34, hbd, hGr, hth⟩
              exact hret H locs ls _ _ _ dX8_row_82 hw (⟨hsL55, Or.inl ⟨k, x, rfl, rfl, hk, hx, ⟨j, hj, by omega, hz, by rw [hc72]; rfl⟩, ⟨_, _, _, _, _, _, _, _, hS56⟩⟩⟩)
            · refine lv_iload C.1 C.2.1 dX8_row_75 (lv_at hl 5 rfl) ?_
              refine lv_goto (tgt := 82) C.1 C.2.1 dX8_row_77 (by decide) ?_
              have hS57 : MSt ca ad gL pm (nI (0)) ln th bk bt IN ck ct CG cn pk tp u34.1 gt34 u34.2.1 u34.2.2.1 (onRow (pkR k x (tnN (fbG pm k))) u34.2.2.2) tn34 bb := ⟨⟨eL55_0, eL55_1, eL55_2, eL55_3, eL55_4, eL55_5, eL55_6, eL55_7, eL55_8, eL55_9⟩, ⟨hmb34.1, by_prt (fun c _ => by_pkR _ _ _ c) hmb34.2.1, hmb34.2.2⟩, hbb, hCG, hIN, htn34, hgt34, hbd, hGr, hth⟩
              exact hret H locs ls _ _ _ dX8_row_82 hw (⟨hsL55, Or.inl ⟨k, x, rfl, rfl, hk, hx, ⟨j, hj, by omega, hz, by rw [hc72]; rfl⟩, ⟨_, _, _, _, _, _, _, _, hS57⟩⟩⟩)
          · have hz0 : pkR k x (tnN (fbG pm k)) j = 0 := by omega
            obtain ⟨q, rfl⟩ : ∃ q, j = q + 1 := by
              rcases Nat.eq_zero_or_pos j with h | h
              · exfalso
                obtain ⟨c9, h1, h2⟩ := pkR_some x (tnN (fbG pm k)) hk
                by_cases h3 : c9 = j
                · rw [h3] at h2; omega
                · have := hz c9 (by omega) h1; omega
              · exact ⟨j - 1, by omega⟩
            refine k_inc C (q) (lv' := [(5, .int (nI q)), (0, .ref (ad 198)), (1, .int (nI k)), (2, .int (nI x)), (3, .int (bI (pz))), (4, .int (nI (pkD k x (tnN (fbG pm k)))))]) dX8_row_65 hl (k := 5) rfl (dec1 _) (by decide) rfl (fun ls hl => ?_)
            refine lv_goto (tgt := 55) C.1 C.2.1 dX8_row_68 (by decide) ?_
            exact ih55 q gL H locs ls (by omega) (by omega) (fun c h1 h2 => by by_cases h : c = q + 1; (rw [h]; exact hz0); exact hz c (by omega) h2) hsL55 eL55_0 eL55_1 eL55_2 eL55_3 eL55_4 eL55_5 eL55_6 eL55_7 eL55_8 eL55_9 hw (lv_sub hl [1, 2, 3, 4, 5, 0] rfl)
      exact loop55 _ (k + 10) g43 H locs ls (Nat.le_refl _) (by omega) (fun c h1 h2 => absurd h1 (by omega)) hs55 e51 e46 e54 e47 e48 e52 e53 e45 e49 e50 hw (lv_sub hl [2, 3, 4, 5, 1, 0] rfl)
  · refine k_icn C 1 dX8_row_8 (by decide) ?_
    refine lv_goto (tgt := 24) C.1 C.2.1 dX8_row_9 (by decide) ?_
    refine k_put C F hw (198) (by omega) q198 rfl in_X8 tyX8_ok nmX8 0 (by decide) fl_X8_42 rfl (v := .int (nI 1)) rfl rfl (Nat.le_of_ble_eq_true rfl) dX8_row_24 (fun H locs hw => ?_)
    have hw : Wd D (AA R ad sz) s R ad (va_up g (198) (.inr (8, [.int (nI 1), .ref (ad 199), .int (nI ln), .ref (ad 200), .int (nI bk), .int (nI bt), .ref (ad 201), .int (nI ck), .int (nI ct), .ref (ad 202), .int (nI cn), .int (nI pk), .ref (ad 203), .ref (ad 204), .int (nI rw), .ref (ad 205), .ref (ad 206), .int (bI (gt)), .ref (ad 207)]))) H locs := hw
    obtain ⟨g58, hg58⟩ : ∃ z, z = va_up g (198) (.inr (8, [.int (nI 1), .ref (ad 199), .int (nI ln), .ref (ad 200), .int (nI bk), .int (nI bt), .ref (ad 201), .int (nI ck), .int (nI ct), .ref (ad 202), .int (nI cn), .int (nI pk), .ref (ad 203), .ref (ad 204), .int (nI rw), .ref (ad 205), .ref (ad 206), .int (bI (gt)), .ref (ad 207)])) := ⟨_, rfl⟩
    rw [← hg58] at hw
    have hk59 : ∀ z, z ≠ 198 → g58 z = g z := fun z hz => by rw [hg58]; exact va_up_ne _ _ hz
    have e60 : g58 (198) = .inr (8, [.int (nI 1), .ref (ad 199), .int (nI ln), .ref (ad 200), .int (nI bk), .int (nI bt), .ref (ad 201), .int (nI ck), .int (nI ct), .ref (ad 202), .int (nI cn), .int (nI pk), .ref (ad 203), .ref (ad 204), .int (nI rw), .ref (ad 205), .ref (ad 206), .int (bI (gt)), .ref (ad 207)]) := by rw [hg58]; exact va_up_self _ _ _
    have e61 : g58 (199) = ba ca 800 (tp) := (hk59 _ (by omega)).trans q199
    have e62 : g58 (200) = ia ca 49 (tn) := (hk59 _ (by omega)).trans q200
    have e63 : g58 (201) = na ca 944 (fi IN) := (hk59 _ (by omega)).trans q201
    have e64 : g58 (202) = na ca 4425 (fl CG) := (hk59 _ (by omega)).trans q202
    have e65 : g58 (203) = na ca 9000 (fl M) := (hk59 _ (by omega)).trans q203
    have e66 : g58 (204) = na ca 120 (pv) := (hk59 _ (by omega)).trans q204
    have e67 : g58 (205) = na ca 75 (ro) := (hk59 _ (by omega)).trans q205
    have e68 : g58 (206) = na ca 255 (pm) := (hk59 _ (by omega)).trans q206
    have e69 : g58 (207) = na ca 16 (bb) := (hk59 _ (by omega)).trans q207
    have hs70 : ∀ z, (z < 198 ∨ 207 < z) → g58 z = g z := fun z hz => hk59 z (by omega)
    refine lv_aload_n C.1 C.2.1 dX8_row_27 rfl (lv_at hl 0 rfl) ?_
    refine k_get C F hw (198) (by omega) e60 rfl in_X8 0 (by decide) fl_X8_42 rfl dX8_row_28 ?_
    refine k_zle (tgt := 36) C dX8_row_31 (by decide) (by omega) (fun h => absurd h (by decide)) (fun _ => ?_)
    refine k_icn C 0 dX8_row_34 (by decide) ?_
    have hS71 : MSt ca ad g58 pm (nI (1)) ln th bk bt IN ck ct CG cn pk tp rw gt M pv ro tn bb := ⟨⟨e60, e61, e62, e63, e64, e65, e66, e67, e68, e69⟩, hmb, hbb, hCG, hIN, htn, hgt, hbd, hGr, hth⟩
    exact hret H locs ls _ _ _ dX8_row_35 hw (⟨hs70, Or.inr (Or.inl ⟨of_decide_eq_false hc5, ⟨_, _, _, _, _, _, _, _, hS71⟩⟩)⟩)

abbrev rm_X8_open : Room := { frames := 6, cells := 0, slots := 0, locals := 141 }

set_option maxHeartbeats 800000 in
set_option maxRecDepth 100000 in
/-- open -/
theorem c_X8_open {l : Launch} {D : va_G} {ca : Nat → ClassId} {tB tS R : Nat} {ad : Nat → Nat} {g : Nat → va_E} {sz : Nat} (hR : 207 < R) (pm : Nat → Nat) (hpm : PmOk pm) (hT : ∀ k, 1 ≤ k → k ≤ 48 → tnN (fbG pm k) < 1000) (cd : Int32) (ln : Nat) (th : Nat → Nat) (bk bt : Nat) (IN : Nat → Nat → Nat) (ck ct : Nat) (CG : Nat → Nat → Nat) (cn pk : Nat) (hI : MInv ca ad g pm cd ln th bk bt IN ck ct CG cn pk) (kx tx : Int32) : MV l yX8_open cX8_open 3 rm_X8_open D ca tB tS R ad g sz [.ref (ad 198), .int (kx), .int (tx)] (fun g1 => (∀ z, z < 198 ∨ 207 < z → g1 z = g z) ∧ ((∃ k t : Nat, kx = nI k ∧ tx = nI t ∧ (1 ≤ k ∧ k ≤ 48) ∧ (1 ≤ t ∧ t ≤ 16) ∧ MInv ca ad g1 pm (nI 0) ln th bk bt IN k t CG 0 0) ∨ ((¬ ((1 ≤ kx ∧ kx ≤ 48) ∧ (1 ≤ tx ∧ tx ≤ 16))) ∧ MInv ca ad g1 pm (nI 1) ln th bk bt IN ck ct CG cn pk))) := by
  refine m_startV (by decide +kernel) (Nat.le_of_ble_eq_true rfl) (fun p e s m args below meth c ls Q hsz C hnm hl F hw hret => ?_)
  have hl : lv_has ls 3 [(0, .ref (ad 198)), (1, .int (kx)), (2, .int (tx))] := hl
  generalize s.heap = H at hw ⊢
  generalize ([] : List Loc) = locs at hw ⊢
  obtain ⟨tp, rw, gt, M, pv, ro, tn, bb, hS⟩ := hI
  obtain ⟨⟨q198, q199, q200, q201, q202, q203, q204, q205, q206, q207⟩, hmb, hbb, hCG, hIN, htn, hgt, hbd, hGr, hth⟩ := hS
  have hbd2 := hbd.2.1
  have hbd3 := hbd.2.2
  refine lv_aload_n C.1 C.2.1 dX8_open_0 rfl (lv_at hl 0 rfl) ?_
  refine lv_iload_n C.1 C.2.1 dX8_open_1 rfl (lv_at hl 1 rfl) ?_
  refine k_Si C F hw (As := [.int (kx)]) (rest := [.ref (ad 198)]) (c_X8_isK kx) (va_cwS _ C.2.2.2.2 gm_X8_107 rfl rfl rfl cd_X8_isK.2 ⟨by decide, by decide⟩) hl.1 rfl (Nat.le_of_ble_eq_true rfl) dX8_open_2 ⟨by decide, by decide⟩ (fun r1 g2 H locs hp hw => ?_)
  obtain ⟨hr9, hg9⟩ := hp
  rw [hg9] at hw
  subst hr9
  refine k_beq (tgt := 19) C dX8_open_5 (by decide) (fun hc5 => ?_) (fun hc5 => ?_)
  · refine k_icn C 1 dX8_open_19 (by decide) ?_
    refine k_put C F hw (198) (by omega) q198 rfl in_X8 tyX8_ok nmX8 0 (by decide) fl_X8_42 rfl (v := .int (nI 1)) rfl rfl (Nat.le_of_ble_eq_true rfl) dX8_open_20 (fun H locs hw => ?_)
    have hw : Wd D (AA R ad sz) s R ad (va_up g (198) (.inr (8, [.int (nI 1), .ref (ad 199), .int (nI ln), .ref (ad 200), .int (nI bk), .int (nI bt), .ref (ad 201), .int (nI ck), .int (nI ct), .ref (ad 202), .int (nI cn), .int (nI pk), .ref (ad 203), .ref (ad 204), .int (nI rw), .ref (ad 205), .ref (ad 206), .int (bI (gt)), .ref (ad 207)]))) H locs := hw
    obtain ⟨g3, hg3⟩ : ∃ z, z = va_up g (198) (.inr (8, [.int (nI 1), .ref (ad 199), .int (nI ln), .ref (ad 200), .int (nI bk), .int (nI bt), .ref (ad 201), .int (nI ck), .int (nI ct), .ref (ad 202), .int (nI cn), .int (nI pk), .ref (ad 203), .ref (ad 204), .int (nI rw), .ref (ad 205), .ref (ad 206), .int (bI (gt)), .ref (ad 207)])) := ⟨_, rfl⟩
    rw [← hg3] at hw
    have hk4 : ∀ z, z ≠ 198 → g3 z = g z := fun z hz => by rw [hg3]; exact va_up_ne _ _ hz
    have e5 : g3 (198) = .inr (8, [.int (nI 1), .ref (ad 199), .int (nI ln), .ref (ad 200), .int (nI bk), .int (nI bt), .ref (ad 201), .int (nI ck), .int (nI ct), .ref (ad 202), .int (nI cn), .int (nI pk), .ref (ad 203), .ref (ad 204), .int (nI rw), .ref (ad 205), .ref (ad 206), .int (bI (gt)), .ref (ad 207)]) := by rw [hg3]; exact va_up_self _ _ _
    have e6 : g3 (199) = ba ca 800 (tp) := (hk4 _ (by omega)).trans q199
    have e7 : g3 (200) = ia ca 49 (tn) := (hk4 _ (by omega)).trans q200
    have e8 : g3 (201) = na ca 944 (fi IN) := (hk4 _ (by omega)).trans q201
    have e9 : g3 (202) = na ca 4425 (fl CG) := (hk4 _ (by omega)).trans q202
    have e10 : g3 (203) = na ca 9000 (fl M) := (hk4 _ (by omega)).trans q203
    have e11 : g3 (204) = na ca 120 (pv) := (hk4 _ (by omega)).trans q204
    have e12 : g3 (205) = na ca 75 (ro) := (hk4 _ (by omega)).trans q205
    have e13 : g3 (206) = na ca 255 (pm) := (hk4 _ (by omega)).trans q206
    have e14 : g3 (207) = na ca 16 (bb) := (hk4 _ (by omega)).trans q207
    have hs15 : ∀ z, (z < 198 ∨ 207 < z) → g3 z = g z := fun z hz => hk4 z (by omega)
    refine lv_aload_n C.1 C.2.1 dX8_open_23 rfl (lv_at hl 0 rfl) ?_
    refine k_get C F hw (198) (by omega) e5 rfl in_X8 0 (by decide) fl_X8_42 rfl dX8_open_24 ?_
    refine k_zne (tgt := 61) C dX8_open_27 (by decide) (by omega) (fun _ => ?_) (fun h => absurd h (by decide))
    have hS16 : MSt ca ad g3 pm (nI (1)) ln th bk bt IN ck ct CG cn pk tp rw gt M pv ro tn bb := ⟨⟨e5, e6, e7, e8, e9, e10, e11, e12, e13, e14⟩, hmb, hbb, hCG, hIN, htn, hgt, hbd, hGr, hth⟩
    exact hret H locs ls _ _ dX8_open_61 hw (⟨hs15, Or.inr ⟨fun z => by first | exact of_decide_eq_false hc12 z.2 | exact of_decide_eq_false hc5 z.1, ⟨_, _, _, _, _, _, _, _, hS16⟩⟩⟩)
  · refine lv_iload_n C.1 C.2.1 dX8_open_8 rfl (lv_at hl 2 rfl) ?_
    refine k_Si C F hw (As := [.int (tx)]) (rest := [.ref (ad 198)]) (c_X8_isT tx) (va_cwS _ C.2.2.2.2 gm_X8_113 rfl rfl rfl cd_X8_isT.2 ⟨by decide, by decide⟩) hl.1 rfl (Nat.le_of_ble_eq_true rfl) dX8_open_9 ⟨by decide, by decide⟩ (fun r17 g18 H locs hp hw => ?_)
    obtain ⟨hr9, hg9⟩ := hp
    rw [hg9] at hw
    subst hr9
    refine k_beq (tgt := 19) C dX8_open_12 (by decide) (fun hc12 => ?_) (fun hc12 => ?_)
    · refine k_icn C 1 dX8_open_19 (by decide) ?_
      refine k_put C F hw (198) (by omega) q198 rfl in_X8 tyX8_ok nmX8 0 (by decide) fl_X8_42 rfl (v := .int (nI 1)) rfl rfl (Nat.le_of_ble_eq_true rfl) dX8_open_20 (fun H locs hw => ?_)
      have hw : Wd D (AA R ad sz) s R ad (va_up g (198) (.inr (8, [.int (nI 1), .ref (ad 199), .int (nI ln), .ref (ad 200), .int (nI bk), .int (nI bt), .ref (ad 201), .int (nI ck), .int (nI ct), .ref (ad 202), .int (nI cn), .int (nI pk), .ref (ad 203), .ref (ad 204), .int (nI rw), .ref (ad 205), .ref (ad 206), .int (bI (gt)), .ref (ad 207)]))) H locs := hw
      obtain ⟨g19, hg19⟩ : ∃ z, z = va_up g (198) (.inr (8, [.int (nI 1), .ref (ad 199), .int (nI ln), .ref (ad 200), .int (nI bk), .int (nI bt), .ref (ad 201), .int (nI ck), .int (nI ct), .ref (ad 202), .int (nI cn), .int (nI pk), .ref (ad 203), .ref (ad 204), .int (nI rw), .ref (ad 205), .ref (ad 206), .int (bI (gt)), .ref (ad 207)])) := ⟨_, rfl⟩
      rw [← hg19] at hw
      have hk20 : ∀ z, z ≠ 198 → g19 z = g z := fun z hz => by rw [hg19]; exact va_up_ne _ _ hz
      have e21 : g19 (198) = .inr (8, [.int (nI 1), .ref (ad 199), .int (nI ln), .ref (ad 200), .int (nI bk), .int (nI bt), .ref (ad 201), .int (nI ck), .int (nI ct), .ref (ad 202), .int (nI cn), .int (nI pk), .ref (ad 203), .ref (ad 204), .int (nI rw), .ref (ad 205), .ref (ad 206), .int (bI (gt)), .ref (ad 207)]) := by rw [hg19]; exact va_up_self _ _ _
      have e22 : g19 (199) = ba ca 800 (tp) := (hk20 _ (by omega)).trans q199
      have e23 : g19 (200) = ia ca 49 (tn) := (hk20 _ (by omega)).trans q200
      have e24 : g19 (201) = na ca 944 (fi IN) := (hk20 _ (by omega)).trans q201
      have e25 : g19 (202) = na ca 4425 (fl CG) := (hk20 _ (by omega)).trans q202
      have e26 : g19 (203) = na ca 9000 (fl M) := (hk20 _ (by omega)).trans q203
      have e27 : g19 (204) = na ca 120 (pv) := (hk20 _ (by omega)).trans q204
      have e28 : g19 (205) = na ca 75 (ro) := (hk20 _ (by omega)).trans q205
      have e29 : g19 (206) = na ca 255 (pm) := (hk20 _ (by omega)).trans q206
      have e30 : g19 (207) = na ca 16 (bb) := (hk20 _ (by omega)).trans q207
      have hs31 : ∀ z, (z < 198 ∨ 207 < z) → g19 z = g z := fun z hz => hk20 z (by omega)
      refine lv_aload_n C.1 C.2.1 dX8_open_23 rfl (lv_at hl 0 rfl) ?_
      refine k_get C F hw (198) (by omega) e21 rfl in_X8 0 (by decide) fl_X8_42 rfl dX8_open_24 ?_
      refine k_zne (tgt := 61) C dX8_open_27 (by decide) (by omega) (fun _ => ?_) (fun h => absurd h (by decide))
      have hS32 : MSt ca ad g19 pm (nI (1)) ln th bk bt IN ck ct CG cn pk tp rw gt M pv ro tn bb := ⟨⟨e21, e22, e23, e24, e25, e26, e27, e28, e29, e30⟩, hmb, hbb, hCG, hIN, htn, hgt, hbd, hGr, hth⟩
      exact hret H locs ls _ _ dX8_open_61 hw (⟨hs31, Or.inr ⟨fun z => by first | exact of_decide_eq_false hc12 z.2 | exact of_decide_eq_false hc5 z.1, ⟨_, _, _, _, _, _, _, _, hS32⟩⟩⟩)
    · obtain ⟨k, hk, rfl⟩ := nat_of48 (of_decide_eq_true hc5)
      obtain ⟨t, ht, rfl⟩ := nat_of16 (of_decide_eq_true hc12)
      refine k_icn C 0 dX8_open_15 (by decide) ?_
      refine lv_goto (tgt := 20) C.1 C.2.1 dX8_open_16 (by decide) ?_
      refine k_put C F hw (198) (by omega) q198 rfl in_X8 tyX8_ok nmX8 0 (by decide) fl_X8_42 rfl (v := .int (nI 0)) rfl rfl (Nat.le_of_ble_eq_true rfl) dX8_open_20 (fun H locs hw => ?_)
      have hw : Wd D (AA R ad sz) s R ad (va_up g (198) (.inr (8, [.int (nI 0), .ref (ad 199), .int (nI ln), .ref (ad 200), .int (nI bk), .int (nI bt), .ref (ad 201), .int (nI ck), .int (nI ct), .ref (ad 202), .int (nI cn), .int (nI pk), .ref (ad 203), .ref (ad 204), .int (nI rw), .ref (ad 205), .ref (ad 206), .int (bI (gt)), .ref (ad 207)]))) H locs := hw
      obtain ⟨g33, hg33⟩ : ∃ z, z = va_up g (198) (.inr (8, [.int (nI 0), .ref (ad 199), .int (nI ln), .ref (ad 200), .int (nI bk), .int (nI bt), .ref (ad 201), .int (nI ck), .int (nI ct), .ref (ad 202), .int (nI cn), .int (nI pk), .ref (ad 203), .ref (ad 204), .int (nI rw), .ref (ad 205), .ref (ad 206), .int (bI (gt)), .ref (ad 207)])) := ⟨_, rfl⟩
      rw [← hg33] at hw
      have hk34 : ∀ z, z ≠ 198 → g33 z = g z := fun z hz => by rw [hg33]; exact va_up_ne _ _ hz
      have e35 : g33 (198) = .inr (8, [.int (nI 0), .ref (ad 199), .int (nI ln), .ref (ad 200), .int (nI bk), .int (nI bt), .ref (ad 201), .int (nI ck), .int (nI ct), .ref (ad 202), .int (nI cn), .int (nI pk), .ref (ad 203), .ref (ad 204), .int (nI rw), .ref (ad 205), .ref (ad 206), .int (bI (gt)), .ref (ad 207)]) := by rw [hg33]; exact va_up_self _ _ _
      have e36 : g33 (199) = ba ca 800 (tp) := (hk34 _ (by omega)).trans q199
      have e37 : g33 (200) = ia ca 49 (tn) := (hk34 _ (by omega)).trans q200
      have e38 : g33 (201) = na ca 944 (fi IN) := (hk34 _ (by omega)).trans q201
      have e39 : g33 (202) = na ca 4425 (fl CG) := (hk34 _ (by omega)).trans q202
      have e40 : g33 (203) = na ca 9000 (fl M) := (hk34 _ (by omega)).trans q203
      have e41 : g33 (204) = na ca 120 (pv) := (hk34 _ (by omega)).trans q204
      have e42 : g33 (205) = na ca 75 (ro) := (hk34 _ (by omega)).trans q205
      have e43 : g33 (206) = na ca 255 (pm) := (hk34 _ (by omega)).trans q206
      have e44 : g33 (207) = na ca 16 (bb) := (hk34 _ (by omega)).trans q207
      have hs45 : ∀ z, (z < 198 ∨ 207 < z) → g33 z = g z := fun z hz => hk34 z (by omega)
      refine lv_aload_n C.1 C.2.1 dX8_open_23 rfl (lv_at hl 0 rfl) ?_
      refine k_get C F hw (198) (by omega) e35 rfl in_X8 0 (by decide) fl_X8_42 rfl dX8_open_24 ?_
      refine k_zne (tgt := 61) C dX8_open_27 (by decide) (by omega) (fun h => absurd h (by decide)) (fun _ => ?_)
      refine lv_aload_n C.1 C.2.1 dX8_open_30 rfl (lv_at hl 0 rfl) ?_
      refine lv_iload_n C.1 C.2.1 dX8_open_31 rfl (lv_at hl 1 rfl) ?_
      refine k_Vi C F hw (i := 198) (As := [.int (nI k)]) (rest := []) (c_X8_turnOf hR (nI (0)) ln bk bt ck ct cn pk rw gt e35 ro e42 pm e43 M pv e40 e41 hmb.1 hmb.2.1 hmb.2.2 hpm (fbG pm) (fun k t u _ h2 _ hu => fb_model hpm h2 hu) hT tn e37 k hk (htn.1 k hk.1 hk.2)) (by omega) e35 rfl (cwV _ C.2.2.2.2 gm_X8_110 rfl rfl rfl cd_X8_turnOf ⟨by decide, by decide⟩) hl.1 rfl (Nat.le_of_ble_eq_true rfl) dX8_open_32 ⟨by decide, by decide⟩ (fun r46 g47 H locs hp hw => ?_)
      obtain ⟨hr9, hs49, u48, gt48, tn48, hmb48, e9848, e0348, e0448, e0548, e0048, htk48, hto48, hgo48⟩ := hp
      subst hr9
      have e50 : g47 (199) = ba ca 800 (tp) := (hs49 _ (by omega)).trans e36
      have e51 : g47 (201) = na ca 944 (fi IN) := (hs49 _ (by omega)).trans e38
      have e52 : g47 (202) = na ca 4425 (fl CG) := (hs49 _ (by omega)).trans e39
      have e53 : g47 (206) = na ca 255 (pm) := (hs49 _ (by omega)).trans e43
      have e54 : g47 (207) = na ca 16 (bb) := (hs49 _ (by omega)).trans e44
      have hs55 : ∀ z, (z < 198 ∨ 207 < z) → g47 z = g z := fun z hz => (hs49 z (by omega)).trans (hs45 z hz)
      have htn48 : TnOk pm tn48 ck := ⟨fun k9 h1 h2 => by by_cases h9 : k9 = k; (rw [h9]; exact Or.inr htk48); (rw [hto48 k9 h9]; exact htn.1 k9 h1 h2), fun h1 => by by_cases h9 : ck = k; (rw [h9]; exact htk48); (rw [hto48 _ h9]; exact htn.2 h1)⟩
      have hgt48 : gt48 = true → ck ≠ 0 ∧ KmOK (ck + 11) (VV pm ck CG) (11 + cn) u48 := fun h => by
        rcases hgo48 with h9 | ⟨h9, h10, h11, h12⟩
        · rw [h9] at h; cases h
        · rw [h] at h9; have h13 := hgt h9.symm; refine ⟨h13.1, ?_⟩; unfold KmOK; rw [h10, h11, h12]; exact h13.2
      have hto2 : TnOk pm tn48 k := ⟨htn48.1, fun _ => htk48⟩
      refine lv_pop C.1 C.2.1 dX8_open_35 rfl ?_
      refine lv_aload_n C.1 C.2.1 dX8_open_36 rfl (lv_at hl 0 rfl) ?_
      refine lv_iload_n C.1 C.2.1 dX8_open_37 rfl (lv_at hl 1 rfl) ?_
      refine k_put C F hw (198) (by omega) e9848 rfl in_X8 tyX8_ok nmX8 7 (by decide) fl_X8_129 rfl (v := .int (nI k)) rfl rfl (Nat.le_of_ble_eq_true rfl) dX8_open_38 (fun H locs hw => ?_)
      have hw : Wd D (AA R ad sz) s R ad (va_up g47 (198) (.inr (8, [.int (nI 0), .ref (ad 199), .int (nI ln), .ref (ad 200), .int (nI bk), .int (nI bt), .ref (ad 201), .int (nI k), .int (nI ct), .ref (ad 202), .int (nI cn), .int (nI pk), .ref (ad 203), .ref (ad 204), .int (nI (u48.1)), .ref (ad 205), .ref (ad 206), .int (bI (gt48)), .ref (ad 207)]))) H locs := hw
      obtain ⟨g56, hg56⟩ : ∃ z, z = va_up g47 (198) (.inr (8, [.int (nI 0), .ref (ad 199), .int (nI ln), .ref (ad 200), .int (nI bk), .int (nI bt), .ref (ad 201), .int (nI k), .int (nI ct), .ref (ad 202), .int (nI cn), .int (nI pk), .ref (ad 203), .ref (ad 204), .int (nI (u48.1)), .ref (ad 205), .ref (ad 206), .int (bI (gt48)), .ref (ad 207)])) := ⟨_, rfl⟩
      rw [← hg56] at hw
      have hk57 : ∀ z, z ≠ 198 → g56 z = g47 z := fun z hz => by rw [hg56]; exact va_up_ne _ _ hz
      have e58 : g56 (198) = .inr (8, [.int (nI 0), .ref (ad 199), .int (nI ln), .ref (ad 200), .int (nI bk), .int (nI bt), .ref (ad 201), .int (nI k), .int (nI ct), .ref (ad 202), .int (nI cn), .int (nI pk), .ref (ad 203), .ref (ad 204), .int (nI (u48.1)), .ref (ad 205), .ref (ad 206), .int (bI (gt48)), .ref (ad 207)]) := by rw [hg56]; exact va_up_self _ _ _
      have e59 : g56 (199) = ba ca 800 (tp) := (hk57 _ (by omega)).trans e50
      have e60 : g56 (201) = na ca 944 (fi IN) := (hk57 _ (by omega)).trans e51
      have e61 : g56 (202) = na ca 4425 (fl CG) := (hk57 _ (by omega)).trans e52
      have e62 : g56 (206) = na ca 255 (pm) := (hk57 _ (by omega)).trans e53
      have e63 : g56 (207) = na ca 16 (bb) := (hk57 _ (by omega)).trans e54
      have e64 : g56 (203) = na ca 9000 (fl u48.2.1) := (hk57 _ (by omega)).trans e0348
      have e65 : g56 (204) = na ca 120 (u48.2.2.1) := (hk57 _ (by omega)).trans e0448
      have e66 : g56 (205) = na ca 75 (u48.2.2.2) := (hk57 _ (by omega)).trans e0548
      have e67 : g56 (200) = ia ca 49 (tn48) := (hk57 _ (by omega)).trans e0048
      have hs68 : ∀ z, (z < 198 ∨ 207 < z) → g56 z = g z := fun z hz => (hk57 z (by omega)).trans (hs55 z hz)
      refine lv_aload_n C.1 C.2.1 dX8_open_41 rfl (lv_at hl 0 rfl) ?_
      refine lv_iload_n C.1 C.2.1 dX8_open_42 rfl (lv_at hl 2 rfl) ?_
      refine k_put C F hw (198) (by omega) e58 rfl in_X8 tyX8_ok nmX8 8 (by decide) fl_X8_132 rfl (v := .int (nI t)) rfl rfl (Nat.le_of_ble_eq_true rfl) dX8_open_43 (fun H locs hw => ?_)
      have hw : Wd D (AA R ad sz) s R ad (va_up g56 (198) (.inr (8, [.int (nI 0), .ref (ad 199), .int (nI ln), .ref (ad 200), .int (nI bk), .int (nI bt), .ref (ad 201), .int (nI k), .int (nI t), .ref (ad 202), .int (nI cn), .int (nI pk), .ref (ad 203), .ref (ad 204), .int (nI (u48.1)), .ref (ad 205), .ref (ad 206), .int (bI (gt48)), .ref (ad 207)]))) H locs := hw
      obtain ⟨g69, hg69⟩ : ∃ z, z = va_up g56 (198) (.inr (8, [.int (nI 0), .ref (ad 199), .int (nI ln), .ref (ad 200), .int (nI bk), .int (nI bt), .ref (ad 201), .int (nI k), .int (nI t), .ref (ad 202), .int (nI cn), .int (nI pk), .ref (ad 203), .ref (ad 204), .int (nI (u48.1)), .ref (ad 205), .ref (ad 206), .int (bI (gt48)), .ref (ad 207)])) := ⟨_, rfl⟩
      rw [← hg69] at hw
      have hk70 : ∀ z, z ≠ 198 → g69 z = g56 z := fun z hz => by rw [hg69]; exact va_up_ne _ _ hz
      have e71 : g69 (198) = .inr (8, [.int (nI 0), .ref (ad 199), .int (nI ln), .ref (ad 200), .int (nI bk), .int (nI bt), .ref (ad 201), .int (nI k), .int (nI t), .ref (ad 202), .int (nI cn), .int (nI pk), .ref (ad 203), .ref (ad 204), .int (nI (u48.1)), .ref (ad 205), .ref (ad 206), .int (bI (gt48)), .ref (ad 207)]) := by rw [hg69]; exact va_up_self _ _ _
      have e72 : g69 (199) = ba ca 800 (tp) := (hk70 _ (by omega)).trans e59
      have e73 : g69 (201) = na ca 944 (fi IN) := (hk70 _ (by omega)).trans e60
      have e74 : g69 (202) = na ca 4425 (fl CG) := (hk70 _ (by omega)).trans e61
      have e75 : g69 (206) = na ca 255 (pm) := (hk70 _ (by omega)).trans e62
      have e76 : g69 (207) = na ca 16 (bb) := (hk70 _ (by omega)).trans e63
      have e77 : g69 (203) = na ca 9000 (fl u48.2.1) := (hk70 _ (by omega)).trans e64
      have e78 : g69 (204) = na ca 120 (u48.2.2.1) := (hk70 _ (by omega)).trans e65
      have e79 : g69 (205) = na ca 75 (u48.2.2.2) := (hk70 _ (by omega)).trans e66
      have e80 : g69 (200) = ia ca 49 (tn48) := (hk70 _ (by omega)).trans e67
      have hs81 : ∀ z, (z < 198 ∨ 207 < z) → g69 z = g z := fun z hz => (hk70 z (by omega)).trans (hs68 z hz)
      refine lv_aload_n C.1 C.2.1 dX8_open_46 rfl (lv_at hl 0 rfl) ?_
      refine k_icn C 0 dX8_open_47 (by decide) ?_
      refine k_put C F hw (198) (by omega) e71 rfl in_X8 tyX8_ok nmX8 17 (by decide) fl_X8_84 rfl (v := .int (bI (false))) (bI_narrow _) rfl (Nat.le_of_ble_eq_true rfl) dX8_open_48 (fun H locs hw => ?_)
      have hw : Wd D (AA R ad sz) s R ad (va_up g69 (198) (.inr (8, [.int (nI 0), .ref (ad 199), .int (nI ln), .ref (ad 200), .int (nI bk), .int (nI bt), .ref (ad 201), .int (nI k), .int (nI t), .ref (ad 202), .int (nI cn), .int (nI pk), .ref (ad 203), .ref (ad 204), .int (nI (u48.1)), .ref (ad 205), .ref (ad 206), .int (bI (false)), .ref (ad 207)]))) H locs := hw
      obtain ⟨g82, hg82⟩ : ∃ z, z = va_up g69 (198) (.inr (8, [.int (nI 0), .ref (ad 199), .int (nI ln), .ref (ad 200), .int (nI bk), .int (nI bt), .ref (ad 201), .int (nI k), .int (nI t), .ref (ad 202), .int (nI cn), .int (nI pk), .ref (ad 203), .ref (ad 204), .int (nI (u48.1)), .ref (ad 205), .ref (ad 206), .int (bI (false)), .ref (ad 207)])) := ⟨_, rfl⟩
      rw [← hg82] at hw
      have hk83 : ∀ z, z ≠ 198 → g82 z = g69 z := fun z hz => by rw [hg82]; exact va_up_ne _ _ hz
      have e84 : g82 (198) = .inr (8, [.int (nI 0), .ref (ad 199), .int (nI ln), .ref (ad 200), .int (nI bk), .int (nI bt), .ref (ad 201), .int (nI k), .int (nI t), .ref (ad 202), .int (nI cn), .int (nI pk), .ref (ad 203), .ref (ad 204), .int (nI (u48.1)), .ref (ad 205), .ref (ad 206), .int (bI (false)), .ref (ad 207)]) := by rw [hg82]; exact va_up_self _ _ _
      have e85 : g82 (199) = ba ca 800 (tp) := (hk83 _ (by omega)).trans e72
      have e86 : g82 (201) = na ca 944 (fi IN) := (hk83 _ (by omega)).trans e73
      have e87 : g82 (202) = na ca 4425 (fl CG) := (hk83 _ (by omega)).trans e74
      have e88 : g82 (206) = na ca 255 (pm) := (hk83 _ (by omega)).trans e75
      have e89 : g82 (207) = na ca 16 (bb) := (hk83 _ (by omega)).trans e76
      have e90 : g82 (203) = na ca 9000 (fl u48.2.1) := (hk83 _ (by omega)).trans e77
      have e91 : g82 (204) = na ca 120 (u48.2.2.1) := (hk83 _ (by omega)).trans e78
      have e92 : g82 (205) = na ca 75 (u48.2.2.2) := (hk83 _ (by omega)).trans e79
      have e93 : g82 (200) = ia ca 49 (tn48) := (hk83 _ (by omega)).trans e80
      have hs94 : ∀ z, (z < 198 ∨ 207 < z) → g82 z = g z := fun z hz => (hk83 z (by omega)).trans (hs81 z hz)
      refine lv_aload_n C.1 C.2.1 dX8_open_51 rfl (lv_at hl 0 rfl) ?_
      refine k_icn C 0 dX8_open_52 (by decide) ?_
      refine k_put C F hw (198) (by omega) e84 rfl in_X8 tyX8_ok nmX8 10 (by decide) fl_X8_135 rfl (v := .int (nI 0)) rfl rfl (Nat.le_of_ble_eq_true rfl) dX8_open_53 (fun H locs hw => ?_)
      have hw : Wd D (AA R ad sz) s R ad (va_up g82 (198) (.inr (8, [.int (nI 0), .ref (ad 199), .int (nI ln), .ref (ad 200), .int (nI bk), .int (nI bt), .ref (ad 201), .int (nI k), .int (nI t), .ref (ad 202), .int (nI 0), .int (nI pk), .ref (ad 203), .ref (ad 204), .int (nI (u48.1)), .ref (ad 205), .ref (ad 206), .int (bI (false)), .ref (ad 207)]))) H locs := hw
      obtain ⟨g95, hg95⟩ : ∃ z, z = va_up g82 (198) (.inr (8, [.int (nI 0), .ref (ad 199), .int (nI ln), .ref (ad 200), .int (nI bk), .int (nI bt), .ref (ad 201), .int (nI k), .int (nI t), .ref (ad 202), .int (nI 0), .int (nI pk), .ref (ad 203), .ref (ad 204), .int (nI (u48.1)), .ref (ad 205), .ref (ad 206), .int (bI (false)), .ref (ad 207)])) := ⟨_, rfl⟩
      rw [← hg95] at hw
      have hk96 : ∀ z, z ≠ 198 → g95 z = g82 z := fun z hz => by rw [hg95]; exact va_up_ne _ _ hz
      have e97 : g95 (198) = .inr (8, [.int (nI 0), .ref (ad 199), .int (nI ln), .ref (ad 200), .int (nI bk), .int (nI bt), .ref (ad 201), .int (nI k), .int (nI t), .ref (ad 202), .int (nI 0), .int (nI pk), .ref (ad 203), .ref (ad 204), .int (nI (u48.1)), .ref (ad 205), .ref (ad 206), .int (bI (false)), .ref (ad 207)]) := by rw [hg95]; exact va_up_self _ _ _
      have e98 : g95 (199) = ba ca 800 (tp) := (hk96 _ (by omega)).trans e85
      have e99 : g95 (201) = na ca 944 (fi IN) := (hk96 _ (by omega)).trans e86
      have e100 : g95 (202) = na ca 4425 (fl CG) := (hk96 _ (by omega)).trans e87
      have e101 : g95 (206) = na ca 255 (pm) := (hk96 _ (by omega)).trans e88
      have e102 : g95 (207) = na ca 16 (bb) := (hk96 _ (by omega)).trans e89
      have e103 : g95 (203) = na ca 9000 (fl u48.2.1) := (hk96 _ (by omega)).trans e90
      have e104 : g95 (204) = na ca 120 (u48.2.2.1) := (hk96 _ (by omega)).trans e91
      have e105 : g95 (205) = na ca 75 (u48.2.2.2) := (hk96 _ (by omega)).trans e92
      have e106 : g95 (200) = ia ca 49 (tn48) := (hk96 _ (by omega)).trans e93
      have hs107 : ∀ z, (z < 198 ∨ 207 < z) → g95 z = g z := fun z hz => (hk96 z (by omega)).trans (hs94 z hz)
      refine lv_aload_n C.1 C.2.1 dX8_open_56 rfl (lv_at hl 0 rfl) ?_
      refine k_icn C 0 dX8_open_57 (by decide) ?_
      refine k_put C F hw (198) (by omega) e97 rfl in_X8 tyX8_ok nmX8 11 (by decide) fl_X8_138 rfl (v := .int (nI 0)) rfl rfl (Nat.le_of_ble_eq_true rfl) dX8_open_58 (fun H locs hw => ?_)
      have hw : Wd D (AA R ad sz) s R ad (va_up g95 (198) (.inr (8, [.int (nI 0), .ref (ad 199), .int (nI ln), .ref (ad 200), .int (nI bk), .int (nI bt), .ref (ad 201), .int (nI k), .int (nI t), .ref (ad 202), .int (nI 0), .int (nI 0), .ref (ad 203), .ref (ad 204), .int (nI (u48.1)), .ref (ad 205), .ref (ad 206), .int (bI (false)), .ref (ad 207)]))) H locs := hw
      obtain ⟨g108, hg108⟩ : ∃ z, z = va_up g95 (198) (.inr (8, [.int (nI 0), .ref (ad 199), .int (nI ln), .ref (ad 200), .int (nI bk), .int (nI bt), .ref (ad 201), .int (nI k), .int (nI t), .ref (ad 202), .int (nI 0), .int (nI 0), .ref (ad 203), .ref (ad 204), .int (nI (u48.1)), .ref (ad 205), .ref (ad 206), .int (bI (false)), .ref (ad 207)])) := ⟨_, rfl⟩
      rw [← hg108] at hw
      have hk109 : ∀ z, z ≠ 198 → g108 z = g95 z := fun z hz => by rw [hg108]; exact va_up_ne _ _ hz
      have e110 : g108 (198) = .inr (8, [.int (nI 0), .ref (ad 199), .int (nI ln), .ref (ad 200), .int (nI bk), .int (nI bt), .ref (ad 201), .int (nI k), .int (nI t), .ref (ad 202), .int (nI 0), .int (nI 0), .ref (ad 203), .ref (ad 204), .int (nI (u48.1)), .ref (ad 205), .ref (ad 206), .int (bI (false)), .ref (ad 207)]) := by rw [hg108]; exact va_up_self _ _ _
      have e111 : g108 (199) = ba ca 800 (tp) := (hk109 _ (by omega)).trans e98
      have e112 : g108 (201) = na ca 944 (fi IN) := (hk109 _ (by omega)).trans e99
      have e113 : g108 (202) = na ca 4425 (fl CG) := (hk109 _ (by omega)).trans e100
      have e114 : g108 (206) = na ca 255 (pm) := (hk109 _ (by omega)).trans e101
      have e115 : g108 (207) = na ca 16 (bb) := (hk109 _ (by omega)).trans e102
      have e116 : g108 (203) = na ca 9000 (fl u48.2.1) := (hk109 _ (by omega)).trans e103
      have e117 : g108 (204) = na ca 120 (u48.2.2.1) := (hk109 _ (by omega)).trans e104
      have e118 : g108 (205) = na ca 75 (u48.2.2.2) := (hk109 _ (by omega)).trans e105
      have e119 : g108 (200) = ia ca 49 (tn48) := (hk109 _ (by omega)).trans e106
      have hs120 : ∀ z, (z < 198 ∨ 207 < z) → g108 z = g z := fun z hz => (hk109 z (by omega)).trans (hs107 z hz)
      have hS121 : MSt ca ad g108 pm (nI 0) ln th bk bt IN k t CG 0 0 tp u48.1 false u48.2.1 u48.2.2.1 u48.2.2.2 tn48 bb := ⟨⟨e110, e111, e119, e112, e113, e116, e117, e118, e114, e115⟩, hmb48, hbb, hCG, hIN, hto2, (fun h => absurd h (by decide)), ⟨hbd.1, hbd.2.1, Or.inr ⟨hk.1, hk.2, ht.1, ht.2⟩⟩, (fun _ => gr_fix pm k CG), hth⟩
      exact hret H locs ls _ _ dX8_open_61 hw (⟨hs120, Or.inl ⟨k, t, rfl, rfl, hk, ht, ⟨_, _, _, _, _, _, _, _, hS121⟩⟩⟩)

abbrev rm_X8_rank : Room := { frames := 0, cells := 0, slots := 0, locals := 0 }

set_option maxHeartbeats 800000 in
set_option maxRecDepth 100000 in
/-- rank -/
theorem c_X8_rank {l : Launch} {D : va_G} {ca : Nat → ClassId} {tB tS R : Nat} {ad : Nat → Nat} {g : Nat → va_E} {sz : Nat} (hR : 207 < R) (pm : Nat → Nat) (hpm : PmOk pm) (hT : ∀ k, 1 ≤ k → k ≤ 48 → tnN (fbG pm k) < 1000) (cd : Int32) (ln : Nat) (th : Nat → Nat) (bk bt : Nat) (IN : Nat → Nat → Nat) (ck ct : Nat) (CG : Nat → Nat → Nat) (cn pk : Nat) (hI : MInv ca ad g pm cd ln th bk bt IN ck ct CG cn pk)  : MI l yX8_rank cX8_rank 1 .int rm_X8_rank D ca tB tS R ad g sz [.ref (ad 198)] (fun r g1 => (∀ z, z < 198 ∨ 207 < z → g1 z = g z) ∧ ((ck ≠ 0 ∧ r = nI (11 + cn) ∧ MInv ca ad g1 pm (nI 0) ln th bk bt IN ck ct CG cn pk) ∨ (ck = 0 ∧ MInv ca ad g1 pm (nI 1) ln th bk bt IN ck ct CG cn pk))) := by
  refine m_startI (by decide +kernel) (Nat.le_of_ble_eq_true rfl) (fun p e s m args below meth c ls Q hsz C hl F hw hret => ?_)
  have hl : lv_has ls 1 [(0, .ref (ad 198))] := hl
  generalize s.heap = H at hw ⊢
  generalize ([] : List Loc) = locs at hw ⊢
  obtain ⟨tp, rw, gt, M, pv, ro, tn, bb, hS⟩ := hI
  obtain ⟨⟨q198, q199, q200, q201, q202, q203, q204, q205, q206, q207⟩, hmb, hbb, hCG, hIN, htn, hgt, hbd, hGr, hth⟩ := hS
  have hbd2 := hbd.2.1
  have hbd3 := hbd.2.2
  refine lv_aload_n C.1 C.2.1 dX8_rank_0 rfl (lv_at hl 0 rfl) ?_
  refine lv_aload_n C.1 C.2.1 dX8_rank_1 rfl (lv_at hl 0 rfl) ?_
  refine k_get C F hw (198) (by omega) q198 rfl in_X8 7 (by decide) fl_X8_129 rfl dX8_rank_2 ?_
  refine k_zne (tgt := 12) C dX8_rank_5 (by decide) (by omega) (fun hc5 => ?_) (fun hc5 => ?_)
  · refine k_icn C 0 dX8_rank_12 (by decide) ?_
    refine k_put C F hw (198) (by omega) q198 rfl in_X8 tyX8_ok nmX8 0 (by decide) fl_X8_42 rfl (v := .int (nI 0)) rfl rfl (Nat.le_of_ble_eq_true rfl) dX8_rank_13 (fun H locs hw => ?_)
    have hw : Wd D (AA R ad sz) s R ad (va_up g (198) (.inr (8, [.int (nI 0), .ref (ad 199), .int (nI ln), .ref (ad 200), .int (nI bk), .int (nI bt), .ref (ad 201), .int (nI ck), .int (nI ct), .ref (ad 202), .int (nI cn), .int (nI pk), .ref (ad 203), .ref (ad 204), .int (nI rw), .ref (ad 205), .ref (ad 206), .int (bI (gt)), .ref (ad 207)]))) H locs := hw
    obtain ⟨g1, hg1⟩ : ∃ z, z = va_up g (198) (.inr (8, [.int (nI 0), .ref (ad 199), .int (nI ln), .ref (ad 200), .int (nI bk), .int (nI bt), .ref (ad 201), .int (nI ck), .int (nI ct), .ref (ad 202), .int (nI cn), .int (nI pk), .ref (ad 203), .ref (ad 204), .int (nI rw), .ref (ad 205), .ref (ad 206), .int (bI (gt)), .ref (ad 207)])) := ⟨_, rfl⟩
    rw [← hg1] at hw
    have hk2 : ∀ z, z ≠ 198 → g1 z = g z := fun z hz => by rw [hg1]; exact va_up_ne _ _ hz
    have e3 : g1 (198) = .inr (8, [.int (nI 0), .ref (ad 199), .int (nI ln), .ref (ad 200), .int (nI bk), .int (nI bt), .ref (ad 201), .int (nI ck), .int (nI ct), .ref (ad 202), .int (nI cn), .int (nI pk), .ref (ad 203), .ref (ad 204), .int (nI rw), .ref (ad 205), .ref (ad 206), .int (bI (gt)), .ref (ad 207)]) := by rw [hg1]; exact va_up_self _ _ _
    have e4 : g1 (199) = ba ca 800 (tp) := (hk2 _ (by omega)).trans q199
    have e5 : g1 (200) = ia ca 49 (tn) := (hk2 _ (by omega)).trans q200
    have e6 : g1 (201) = na ca 944 (fi IN) := (hk2 _ (by omega)).trans q201
    have e7 : g1 (202) = na ca 4425 (fl CG) := (hk2 _ (by omega)).trans q202
    have e8 : g1 (203) = na ca 9000 (fl M) := (hk2 _ (by omega)).trans q203
    have e9 : g1 (204) = na ca 120 (pv) := (hk2 _ (by omega)).trans q204
    have e10 : g1 (205) = na ca 75 (ro) := (hk2 _ (by omega)).trans q205
    have e11 : g1 (206) = na ca 255 (pm) := (hk2 _ (by omega)).trans q206
    have e12 : g1 (207) = na ca 16 (bb) := (hk2 _ (by omega)).trans q207
    have hs13 : ∀ z, (z < 198 ∨ 207 < z) → g1 z = g z := fun z hz => hk2 z (by omega)
    refine lv_aload_n C.1 C.2.1 dX8_rank_16 rfl (lv_at hl 0 rfl) ?_
    refine k_get C F hw (198) (by omega) e3 rfl in_X8 0 (by decide) fl_X8_42 rfl dX8_rank_17 ?_
    refine k_zle (tgt := 27) C dX8_rank_20 (by decide) (by omega) (fun _ => ?_) (fun h => absurd h (by decide))
    refine k_bip C 11 dX8_rank_27 (by decide) ?_
    refine lv_aload_n C.1 C.2.1 dX8_rank_29 rfl (lv_at hl 0 rfl) ?_
    refine k_get C F hw (198) (by omega) e3 rfl in_X8 10 (by decide) fl_X8_135 rfl dX8_rank_30 ?_
    refine k_add C dX8_rank_33 ?_
    have hS14 : MSt ca ad g1 pm (nI (0)) ln th bk bt IN ck ct CG cn pk tp rw gt M pv ro tn bb := ⟨⟨e3, e4, e5, e6, e7, e8, e9, e10, e11, e12⟩, hmb, hbb, hCG, hIN, htn, hgt, hbd, hGr, hth⟩
    exact hret H locs ls _ _ _ dX8_rank_34 hw (⟨hs13, Or.inl ⟨hc5, rfl, ⟨_, _, _, _, _, _, _, _, hS14⟩⟩⟩)
  · refine k_icn C 1 dX8_rank_8 (by decide) ?_
    refine lv_goto (tgt := 13) C.1 C.2.1 dX8_rank_9 (by decide) ?_
    refine k_put C F hw (198) (by omega) q198 rfl in_X8 tyX8_ok nmX8 0 (by decide) fl_X8_42 rfl (v := .int (nI 1)) rfl rfl (Nat.le_of_ble_eq_true rfl) dX8_rank_13 (fun H locs hw => ?_)
    have hw : Wd D (AA R ad sz) s R ad (va_up g (198) (.inr (8, [.int (nI 1), .ref (ad 199), .int (nI ln), .ref (ad 200), .int (nI bk), .int (nI bt), .ref (ad 201), .int (nI ck), .int (nI ct), .ref (ad 202), .int (nI cn), .int (nI pk), .ref (ad 203), .ref (ad 204), .int (nI rw), .ref (ad 205), .ref (ad 206), .int (bI (gt)), .ref (ad 207)]))) H locs := hw
    obtain ⟨g15, hg15⟩ : ∃ z, z = va_up g (198) (.inr (8, [.int (nI 1), .ref (ad 199), .int (nI ln), .ref (ad 200), .int (nI bk), .int (nI bt), .ref (ad 201), .int (nI ck), .int (nI ct), .ref (ad 202), .int (nI cn), .int (nI pk), .ref (ad 203), .ref (ad 204), .int (nI rw), .ref (ad 205), .ref (ad 206), .int (bI (gt)), .ref (ad 207)])) := ⟨_, rfl⟩
    rw [← hg15] at hw
    have hk16 : ∀ z, z ≠ 198 → g15 z = g z := fun z hz => by rw [hg15]; exact va_up_ne _ _ hz
    have e17 : g15 (198) = .inr (8, [.int (nI 1), .ref (ad 199), .int (nI ln), .ref (ad 200), .int (nI bk), .int (nI bt), .ref (ad 201), .int (nI ck), .int (nI ct), .ref (ad 202), .int (nI cn), .int (nI pk), .ref (ad 203), .ref (ad 204), .int (nI rw), .ref (ad 205), .ref (ad 206), .int (bI (gt)), .ref (ad 207)]) := by rw [hg15]; exact va_up_self _ _ _
    have e18 : g15 (199) = ba ca 800 (tp) := (hk16 _ (by omega)).trans q199
    have e19 : g15 (200) = ia ca 49 (tn) := (hk16 _ (by omega)).trans q200
    have e20 : g15 (201) = na ca 944 (fi IN) := (hk16 _ (by omega)).trans q201
    have e21 : g15 (202) = na ca 4425 (fl CG) := (hk16 _ (by omega)).trans q202
    have e22 : g15 (203) = na ca 9000 (fl M) := (hk16 _ (by omega)).trans q203
    have e23 : g15 (204) = na ca 120 (pv) := (hk16 _ (by omega)).trans q204
    have e24 : g15 (205) = na ca 75 (ro) := (hk16 _ (by omega)).trans q205
    have e25 : g15 (206) = na ca 255 (pm) := (hk16 _ (by omega)).trans q206
    have e26 : g15 (207) = na ca 16 (bb) := (hk16 _ (by omega)).trans q207
    have hs27 : ∀ z, (z < 198 ∨ 207 < z) → g15 z = g z := fun z hz => hk16 z (by omega)
    refine lv_aload_n C.1 C.2.1 dX8_rank_16 rfl (lv_at hl 0 rfl) ?_
    refine k_get C F hw (198) (by omega) e17 rfl in_X8 0 (by decide) fl_X8_42 rfl dX8_rank_17 ?_
    refine k_zle (tgt := 27) C dX8_rank_20 (by decide) (by omega) (fun h => absurd h (by decide)) (fun _ => ?_)
    refine k_icn C 0 dX8_rank_23 (by decide) ?_
    refine lv_goto (tgt := 34) C.1 C.2.1 dX8_rank_24 (by decide) ?_
    have hS28 : MSt ca ad g15 pm (nI (1)) ln th bk bt IN ck ct CG cn pk tp rw gt M pv ro tn bb := ⟨⟨e17, e18, e19, e20, e21, e22, e23, e24, e25, e26⟩, hmb, hbb, hCG, hIN, htn, hgt, hbd, hGr, hth⟩
    exact hret H locs ls _ _ _ dX8_rank_34 hw (⟨hs27, Or.inr ⟨hc5, ⟨_, _, _, _, _, _, _, _, hS28⟩⟩⟩)

abbrev rm_X8_product : Room := { frames := 1, cells := 0, slots := 0, locals := 24 }

set_option maxHeartbeats 800000 in
set_option maxRecDepth 100000 in
/-- product -/
theorem c_X8_product {l : Launch} {D : va_G} {ca : Nat → ClassId} {tB tS R : Nat} {ad : Nat → Nat} {g : Nat → va_E} {sz : Nat} (hR : 207 < R) (pm : Nat → Nat) (hpm : PmOk pm) (hT : ∀ k, 1 ≤ k → k ≤ 48 → tnN (fbG pm k) < 1000) (cd : Int32) (ln : Nat) (th : Nat → Nat) (bk bt : Nat) (IN : Nat → Nat → Nat) (ck ct : Nat) (CG : Nat → Nat → Nat) (cn pk : Nat) (hI : MInv ca ad g pm cd ln th bk bt IN ck ct CG cn pk) (a b : Nat) (ha : a < 2 ^ 32) (hb : b < 2 ^ 32) : MI l yX8_product cX8_product 3 .int rm_X8_product D ca tB tS R ad g sz [.ref (ad 198), .int (nI a), .int (nI b)] (fun r g1 => (∀ z, z < 198 ∨ 207 < z → g1 z = g z) ∧ r = nI (mt (a % 2 ^ 8) (b % 2 ^ 8)) ∧ MInv ca ad g1 pm (nI 0) ln th bk bt IN ck ct CG cn pk) := by
  refine m_startI (by decide +kernel) (Nat.le_of_ble_eq_true rfl) (fun p e s m args below meth c ls Q hsz C hl F hw hret => ?_)
  have hl : lv_has ls 3 [(0, .ref (ad 198)), (1, .int (nI a)), (2, .int (nI b))] := hl
  generalize s.heap = H at hw ⊢
  generalize ([] : List Loc) = locs at hw ⊢
  obtain ⟨tp, rw, gt, M, pv, ro, tn, bb, hS⟩ := hI
  obtain ⟨⟨q198, q199, q200, q201, q202, q203, q204, q205, q206, q207⟩, hmb, hbb, hCG, hIN, htn, hgt, hbd, hGr, hth⟩ := hS
  have hbd2 := hbd.2.1
  have hbd3 := hbd.2.2
  refine lv_aload_n C.1 C.2.1 dX8_product_0 rfl (lv_at hl 0 rfl) ?_
  refine k_icn C 0 dX8_product_1 (by decide) ?_
  refine k_put C F hw (198) (by omega) q198 rfl in_X8 tyX8_ok nmX8 0 (by decide) fl_X8_42 rfl (v := .int (nI 0)) rfl rfl (Nat.le_of_ble_eq_true rfl) dX8_product_2 (fun H locs hw => ?_)
  have hw : Wd D (AA R ad sz) s R ad (va_up g (198) (.inr (8, [.int (nI 0), .ref (ad 199), .int (nI ln), .ref (ad 200), .int (nI bk), .int (nI bt), .ref (ad 201), .int (nI ck), .int (nI ct), .ref (ad 202), .int (nI cn), .int (nI pk), .ref (ad 203), .ref (ad 204), .int (nI rw), .ref (ad 205), .ref (ad 206), .int (bI (gt)), .ref (ad 207)]))) H locs := hw
  obtain ⟨g1, hg1⟩ : ∃ z, z = va_up g (198) (.inr (8, [.int (nI 0), .ref (ad 199), .int (nI ln), .ref (ad 200), .int (nI bk), .int (nI bt), .ref (ad 201), .int (nI ck), .int (nI ct), .ref (ad 202), .int (nI cn), .int (nI pk), .ref (ad 203), .ref (ad 204), .int (nI rw), .ref (ad 205), .ref (ad 206), .int (bI (gt)), .ref (ad 207)])) := ⟨_, rfl⟩
  rw [← hg1] at hw
  have hk2 : ∀ z, z ≠ 198 → g1 z = g z := fun z hz => by rw [hg1]; exact va_up_ne _ _ hz
  have e3 : g1 (198) = .inr (8, [.int (nI 0), .ref (ad 199), .int (nI ln), .ref (ad 200), .int (nI bk), .int (nI bt), .ref (ad 201), .int (nI ck), .int (nI ct), .ref (ad 202), .int (nI cn), .int (nI pk), .ref (ad 203), .ref (ad 204), .int (nI rw), .ref (ad 205), .ref (ad 206), .int (bI (gt)), .ref (ad 207)]) := by rw [hg1]; exact va_up_self _ _ _
  have e4 : g1 (199) = ba ca 800 (tp) := (hk2 _ (by omega)).trans q199
  have e5 : g1 (200) = ia ca 49 (tn) := (hk2 _ (by omega)).trans q200
  have e6 : g1 (201) = na ca 944 (fi IN) := (hk2 _ (by omega)).trans q201
  have e7 : g1 (202) = na ca 4425 (fl CG) := (hk2 _ (by omega)).trans q202
  have e8 : g1 (203) = na ca 9000 (fl M) := (hk2 _ (by omega)).trans q203
  have e9 : g1 (204) = na ca 120 (pv) := (hk2 _ (by omega)).trans q204
  have e10 : g1 (205) = na ca 75 (ro) := (hk2 _ (by omega)).trans q205
  have e11 : g1 (206) = na ca 255 (pm) := (hk2 _ (by omega)).trans q206
  have e12 : g1 (207) = na ca 16 (bb) := (hk2 _ (by omega)).trans q207
  have hs13 : ∀ z, (z < 198 ∨ 207 < z) → g1 z = g z := fun z hz => hk2 z (by omega)
  refine lv_iload_n C.1 C.2.1 dX8_product_5 rfl (lv_at hl 1 rfl) ?_
  refine k_sip C 255 dX8_product_6 (by decide) ?_
  refine k_and C 8 dX8_product_9 (by omega) (by decide) ?_
  refine lv_iload_n C.1 C.2.1 dX8_product_10 rfl (lv_at hl 2 rfl) ?_
  refine k_sip C 255 dX8_product_11 (by decide) ?_
  refine k_and C 8 dX8_product_14 (by omega) (by decide) ?_
  refine k_Si C F hw (As := [.int (nI (a % 2 ^ 8)), .int (nI (b % 2 ^ 8))]) (rest := []) (c_X8_times (a % 2 ^ 8) (b % 2 ^ 8) (Nat.mod_lt _ (by decide)) (Nat.mod_lt _ (by decide))) (va_cwS _ C.2.2.2.2 gm_X8_38 rfl rfl rfl cd_X8_times.2 ⟨by decide, by decide⟩) hl.1 rfl (Nat.le_of_ble_eq_true rfl) dX8_product_15 ⟨by decide, by decide⟩ (fun r14 g15 H locs hp hw => ?_)
  obtain ⟨hr9, hg9⟩ := hp
  rw [hg9] at hw
  subst hr9
  have hS16 : MSt ca ad g1 pm (nI (0)) ln th bk bt IN ck ct CG cn pk tp rw gt M pv ro tn bb := ⟨⟨e3, e4, e5, e6, e7, e8, e9, e10, e11, e12⟩, hmb, hbb, hCG, hIN, htn, hgt, hbd, hGr, hth⟩
  exact hret H locs ls _ _ _ dX8_product_18 hw (⟨hs13, rfl, ⟨_, _, _, _, _, _, _, _, hS16⟩⟩)
