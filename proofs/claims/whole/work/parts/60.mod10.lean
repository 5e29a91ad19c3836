/-! ===== FountainDeskModel: give, takeAll, block ===== -/

abbrev rm_X8_give : Room := { frames := 7, cells := 0, slots := 0, locals := 163 }

set_option maxHeartbeats 800000 in
set_option maxRecDepth 100000 in
/-- give -/
theorem c_X8_give {l : Launch} {D : va_G} {ca : Nat → ClassId} {tB tS R : Nat} {ad : Nat → Nat} {g : Nat → va_E} {sz : Nat} (hR : 207 < R) (pm : Nat → Nat) (hpm : PmOk pm) (hT : ∀ k, 1 ≤ k → k ≤ 48 → tnN (fbG pm k) < 1000) (cd : Int32) (ln : Nat) (th : Nat → Nat) (bk bt : Nat) (IN : Nat → Nat → Nat) (ck ct : Nat) (CG : Nat → Nat → Nat) (cn pk : Nat) (hI : MInv ca ad g pm cd ln th bk bt IN ck ct CG cn pk) (xx : Int32) : MI l yX8_give cX8_give 3 .boolean rm_X8_give D ca tB tS R ad g sz [.ref (ad 198), .int (xx)] (fun r g1 => (∀ z, z < 198 ∨ 207 < z → g1 z = g z) ∧ ((ck ≠ 0 ∧ ln = ct ∧ ∃ x : Nat, xx = nI x ∧ x < 65536 ∧ ∃ r1 cn1 pk1, CmR pm ck ct CG cn pk x th r1 cn1 pk1 ∧ ((0 ≤ r1 ∧ r = bI (decide (r1 = 1)) ∧ MInv ca ad g1 pm (nI 0) 0 th bk bt IN ck ct (CgN pm ck ct CG cn x th) cn1 pk1) ∨ (¬ 0 ≤ r1 ∧ MInv ca ad g1 pm (nI 4) ln th bk bt IN ck ct (CgN pm ck ct CG cn x th) cn1 pk1))) ∨ (ck = 0 ∧ MInv ca ad g1 pm (nI 1) ln th bk bt IN ck ct CG cn pk) ∨ (ck ≠ 0 ∧ ¬ (0 ≤ xx ∧ xx < 65536) ∧ MInv ca ad g1 pm (nI 2) ln th bk bt IN ck ct CG cn pk) ∨ (ck ≠ 0 ∧ (0 ≤ xx ∧ xx < 65536) ∧ ln ≠ ct ∧ MInv ca ad g1 pm (nI 3) ln th bk bt IN ck ct CG cn pk))) := by
  refine m_startZ (by decide +kernel) (Nat.le_of_ble_eq_true rfl) (fun p e s m args below meth c ls Q hsz C hl F hw hret => ?_)
  have hl : lv_has ls 3 [(0, .ref (ad 198)), (1, .int (xx))] := hl
  generalize s.heap = H at hw ⊢
  generalize ([] : List Loc) = locs at hw ⊢
  obtain ⟨tp, rw, gt, M, pv, ro, tn, bb, hS⟩ := hI
  obtain ⟨⟨q198, q199, q200, q201, q202, q203, q204, q205, q206, q207⟩, hmb, hbb, hCG, hIN, htn, hgt, hbd, hGr, hth⟩ := hS
  have hbd2 := hbd.2.1
  have hbd3 := hbd.2.2
  have hln := hbd.1
  refine lv_aload_n C.1 C.2.1 dX8_give_0 rfl (lv_at hl 0 rfl) ?_
  refine lv_aload_n C.1 C.2.1 dX8_give_1 rfl (lv_at hl 0 rfl) ?_
  refine k_get C F hw (198) (by omega) q198 rfl in_X8 7 (by decide) fl_X8_129 rfl dX8_give_2 ?_
  refine k_zne (tgt := 12) C dX8_give_5 (by decide) (by omega) (fun hc5 => ?_) (fun hc5 => ?_)
  · have hck : 1 ≤ ck ∧ ck ≤ 48 := by omega
    refine lv_iload_n C.1 C.2.1 dX8_give_12 rfl (lv_at hl 1 rfl) ?_
    refine k_Si C F hw (As := [.int (xx)]) (rest := [.ref (ad 198)]) (c_X8_isPacket xx) (va_cwS _ C.2.2.2.2 gm_X8_123 rfl rfl rfl cd_X8_isPacket.2 ⟨by decide, by decide⟩) hl.1 rfl (Nat.le_of_ble_eq_true rfl) dX8_give_13 ⟨by decide, by decide⟩ (fun r1 g2 H locs hp hw => ?_)
    obtain ⟨hr9, hg9⟩ := hp
    rw [hg9] at hw
    subst hr9
    refine k_bne (tgt := 23) C dX8_give_16 (by decide) (fun hc16 => ?_) (fun hc16 => ?_)
    · obtain ⟨x, hx, rfl⟩ := nat_of0 (of_decide_eq_true hc16)
      refine lv_aload_n C.1 C.2.1 dX8_give_23 rfl (lv_at hl 0 rfl) ?_
      refine k_get C F hw (198) (by omega) q198 rfl in_X8 2 (by decide) fl_X8_46 rfl dX8_give_24 ?_
      refine lv_aload_n C.1 C.2.1 dX8_give_27 rfl (lv_at hl 0 rfl) ?_
      refine k_get C F hw (198) (by omega) q198 rfl in_X8 8 (by decide) fl_X8_132 rfl dX8_give_28 ?_
      refine k_ieq (tgt := 38) C dX8_give_31 (by decide) (by omega) (by omega) (fun hc31 => ?_) (fun hc31 => ?_)
      · refine k_icn C 0 dX8_give_38 (by decide) ?_
        refine k_put C F hw (198) (by omega) q198 rfl in_X8 tyX8_ok nmX8 0 (by decide) fl_X8_42 rfl (v := .int (nI 0)) rfl rfl (Nat.le_of_ble_eq_true rfl) dX8_give_39 (fun H locs hw => ?_)
        have hw : Wd D (AA R ad sz) s R ad (va_up g (198) (.inr (8, [.int (nI 0), .ref (ad 199), .int (nI ln), .ref (ad 200), .int (nI bk), .int (nI bt), .ref (ad 201), .int (nI ck), .int (nI ct), .ref (ad 202), .int (nI cn), .int (nI pk), .ref (ad 203), .ref (ad 204), .int (nI rw), .ref (ad 205), .ref (ad 206), .int (bI (gt)), .ref (ad 207)]))) H locs := hw
        obtain ⟨g3, hg3⟩ : ∃ z, z = va_up g (198) (.inr (8, [.int (nI 0), .ref (ad 199), .int (nI ln), .ref (ad 200), .int (nI bk), .int (nI bt), .ref (ad 201), .int (nI ck), .int (nI ct), .ref (ad 202), .int (nI cn), .int (nI pk), .ref (ad 203), .ref (ad 204), .int (nI rw), .ref (ad 205), .ref (ad 206), .int (bI (gt)), .ref (ad 207)])) := ⟨_, rfl⟩
        rw [← hg3] at hw
        have hk4 : ∀ z, z ≠ 198 → g3 z = g z := fun z hz => by rw [hg3]; exact va_up_ne _ _ hz
        have e5 : g3 (198) = .inr (8, [.int (nI 0), .ref (ad 199), .int (nI ln), .ref (ad 200), .int (nI bk), .int (nI bt), .ref (ad 201), .int (nI ck), .int (nI ct), .ref (ad 202), .int (nI cn), .int (nI pk), .ref (ad 203), .ref (ad 204), .int (nI rw), .ref (ad 205), .ref (ad 206), .int (bI (gt)), .ref (ad 207)]) := by rw [hg3]; exact va_up_self _ _ _
        have e6 : g3 (199) = ba ca 800 (tp) := (hk4 _ (by omega)).trans q199
        have e7 : g3 (200) = ia ca 49 (tn) := (hk4 _ (by omega)).trans q200
        have e8 : g3 (201) = na ca 944 (fi IN) := (hk4 _ (by omega)).trans q201
        have e9 : g3 (202) = na ca 4425 (fl CG) := (hk4 _ (by omega)).trans q202
        have e10 : g3 (203) = na ca 9000 (fl M) := (hk4 _ (by omega)).trans q203
        have e11 : g3 (204) = na ca 120 (pv) := (hk4 _ (by omega)).trans q204
        have e12 : g3 (205) = na ca 75 (ro) := (hk4 _ (by omega)).trans q205
        have e13 : g3 (206) = na ca 255 (pm) := (hk4 _ (by omega)).trans q206
        have e14 : g3 (207) = na ca 16 (bb) := (hk4 _ (by omega)).trans q207
        have hs15 : ∀ z, (z < 198 ∨ 207 < z) → g3 z = g z := fun z hz => hk4 z (by omega)
        refine lv_aload_n C.1 C.2.1 dX8_give_42 rfl (lv_at hl 0 rfl) ?_
        refine k_get C F hw (198) (by omega) e5 rfl in_X8 0 (by decide) fl_X8_42 rfl dX8_give_43 ?_
        refine k_zle (tgt := 51) C dX8_give_46 (by decide) (by omega) (fun _ => ?_) (fun h => absurd h (by decide))
        refine k_icn C 0 dX8_give_51 (by decide) ?_
        refine lv_istore_n (lv' := [(2, .int (nI 0)), (0, .ref (ad 198)), (1, .int (nI x))]) C.1 C.2.1 dX8_give_52 rfl hl (by decide) rfl (fun ls hl => ?_)
        have loop53 : ∀ (fuel : Nat) (i : Nat) (b1 : Nat → Nat) (gL : Nat → va_E) (H : Heap) (locs : List Loc) (ls : Array Slot), ((ct - i) + 1 ≤ fuel) → (i ≤ ct) → (b1 = prt i th bb) → (∀ z, (z < 198 ∨ 207 < z) → gL z = g z) → (gL (198) = .inr (8, [.int (nI 0), .ref (ad 199), .int (nI ln), .ref (ad 200), .int (nI bk), .int (nI bt), .ref (ad 201), .int (nI ck), .int (nI ct), .ref (ad 202), .int (nI cn), .int (nI pk), .ref (ad 203), .ref (ad 204), .int (nI rw), .ref (ad 205), .ref (ad 206), .int (bI (gt)), .ref (ad 207)])) → (gL (199) = ba ca 800 (tp)) → (gL (200) = ia ca 49 (tn)) → (gL (201) = na ca 944 (fi IN)) → (gL (202) = na ca 4425 (fl CG)) → (gL (203) = na ca 9000 (fl M)) → (gL (204) = na ca 120 (pv)) → (gL (205) = na ca 75 (ro)) → (gL (206) = na ca 255 (pm)) → (gL (207) = na ca 16 (b1)) → Wd D (AA R ad sz) s R ad gL H locs → lv_has ls 3 [(0, .ref (ad 198)), (1, .int (nI x)), (2, .int (nI i))] → W p l e rm_X8_give s m args below meth c H locs 0 0 Q (F0 m 53 ls []) := by
          intro fuel
          induction fuel with
          | zero =>
            intro i b1 gL H locs ls hfu53
            exact absurd hfu53 (by omega)
          | succ fuel53 ih53 =>
            intro i b1 gL H locs ls hfu53 hi hb1 hsL53 eL53_0 eL53_1 eL53_2 eL53_3 eL53_4 eL53_5 eL53_6 eL53_7 eL53_8 eL53_9 hw hl
            refine lv_iload_n C.1 C.2.1 dX8_give_53 rfl (lv_at hl 2 rfl) ?_
            refine lv_aload_n C.1 C.2.1 dX8_give_54 rfl (lv_at hl 0 rfl) ?_
            refine k_get C F hw (198) (by omega) eL53_0 rfl in_X8 8 (by decide) fl_X8_132 rfl dX8_give_55 ?_
            refine k_ige (tgt := 83) C dX8_give_58 (by decide) (by omega) (by omega) (fun hc58 => ?_) (fun hc58 => ?_)
            · refine lv_aload_n C.1 C.2.1 dX8_give_83 rfl (lv_at hl 0 rfl) ?_
              refine lv_iload_n C.1 C.2.1 dX8_give_84 rfl (lv_at hl 1 rfl) ?_
              have hb2 : By b1 := by rw [hb1]; exact by_prt (fun c _ => hth.1 c) hbb
              have hS16 : MSt ca ad gL pm (nI 0) ln th bk bt IN ck ct CG cn pk tp rw gt M pv ro tn b1 := ⟨⟨eL53_0, eL53_1, eL53_2, eL53_3, eL53_4, eL53_5, eL53_6, eL53_7, eL53_8, eL53_9⟩, hmb, hb2, hCG, hIN, htn, hgt, hbd, hGr, hth⟩
              refine k_Vi C F hw (i := 198) (As := [.int (nI x)]) (rest := []) (c_X8_comes hR pm hpm hT _ _ _ _ _ _ _ _ _ _ _ _ _ _ _ _ _ _ _ hS16 hck x hx) (by omega) eL53_0 rfl (cwV _ C.2.2.2.2 gm_X8_144 rfl rfl rfl cd_X8_comes ⟨by decide, by decide⟩) hl.1 rfl (Nat.le_of_ble_eq_true rfl) dX8_give_85 ⟨by decide, by decide⟩ (fun r17 g18 H locs hp hw => ?_)
              obtain ⟨hs19, cn1, pk1, hcm, hI1⟩ := hp
              have hbc : ∀ i, i < ct → b1 i = th i := fun j hj => by rw [hb1]; unfold prt; rw [if_pos (by omega)]
              replace hcm := CmR_congr hbc hcm
              rw [CgN_congr hbc] at hI1
              have hs20 : ∀ z, (z < 198 ∨ 207 < z) → g18 z = g z := fun z hz => (hs19 z hz).trans (hsL53 z hz)
              obtain ⟨tp21, rw21, gt21, M21, pv21, ro21, tn21, bb21, hS21⟩ := hI1
              obtain ⟨⟨q19821, q19921, q20021, q20121, q20221, q20321, q20421, q20521, q20621, q20721⟩, hmb21, hbb21, hCG21, hIN21, htn21, hgt21, hbd21, hGr21, hth21⟩ := hS21
              obtain ⟨r1, hr1⟩ : ∃ z, z = r17 := ⟨_, rfl⟩
              rw [← hr1] at hcm
              refine k_ti (x' := r1) (hr1.symm) ?_
              refine lv_istore_n (lv' := [(2, .int (r1)), (0, .ref (ad 198)), (1, .int (nI x))]) C.1 C.2.1 dX8_give_88 rfl hl (by decide) rfl (fun ls hl => ?_)
              refine lv_aload_n C.1 C.2.1 dX8_give_89 rfl (lv_at hl 1 rfl) ?_
              refine lv_iload_n C.1 C.2.1 dX8_give_90 rfl (lv_at hl 0 rfl) ?_
              refine lv_if_ge (tgt := 98) C.1 C.2.1 dX8_give_91 (by decide) (fun hc91 => ?_) (fun hc91 => ?_)
              · refine k_icn C 0 dX8_give_98 (by decide) ?_
                refine k_put C F hw (198) (by omega) q19821 rfl in_X8 tyX8_ok nmX8 0 (by decide) fl_X8_42 rfl (v := .int (nI 0)) rfl rfl (Nat.le_of_ble_eq_true rfl) dX8_give_99 (fun H locs hw => ?_)
                have hw : Wd D (AA R ad sz) s R ad (va_up g18 (198) (.inr (8, [.int (nI 0), .ref (ad 199), .int (nI ln), .ref (ad 200), .int (nI bk), .int (nI bt), .ref (ad 201), .int (nI ck), .int (nI ct), .ref (ad 202), .int (nI cn1), .int (nI pk1), .ref (ad 203), .ref (ad 204), .int (nI rw21), .ref (ad 205), .ref (ad 206), .int (bI (gt21)), .ref (ad 207)]))) H locs := hw
                obtain ⟨g22, hg22⟩ : ∃ z, z = va_up g18 (198) (.inr (8, [.int (nI 0), .ref (ad 199), .int (nI ln), .ref (ad 200), .int (nI bk), .int (nI bt), .ref (ad 201), .int (nI ck), .int (nI ct), .ref (ad 202), .int (nI cn1), .int (nI pk1), .ref (ad 203), .ref (ad 204), .int (nI rw21), .ref (ad 205), .ref (ad 206), .int (bI (gt21)), .ref (ad 207)])) := ⟨_, rfl⟩
                rw [← hg22] at hw
                have hk23 : ∀ z, z ≠ 198 → g22 z = g18 z := fun z hz => by rw [hg22]; exact va_up_ne _ _ hz
                have e24 : g22 (198) = .inr (8, [.int (nI 0), .ref (ad 199), .int (nI ln), .ref (ad 200), .int (nI bk), .int (nI bt), .ref (ad 201), .int (nI ck), .int (nI ct), .ref (ad 202), .int (nI cn1), .int (nI pk1), .ref (ad 203), .ref (ad 204), .int (nI rw21), .ref (ad 205), .ref (ad 206), .int (bI (gt21)), .ref (ad 207)]) := by rw [hg22]; exact va_up_self _ _ _
                have e25 : g22 (199) = ba ca 800 (tp21) := (hk23 _ (by omega)).trans q19921
                have e26 : g22 (200) = ia ca 49 (tn21) := (hk23 _ (by omega)).trans q20021
                have e27 : g22 (201) = na ca 944 (fi IN) := (hk23 _ (by omega)).trans q20121
                have e28 : g22 (202) = na ca 4425 (fl (CgN pm ck ct CG cn x th)) := (hk23 _ (by omega)).trans q20221
                have e29 : g22 (203) = na ca 9000 (fl M21) := (hk23 _ (by omega)).trans q20321
                have e30 : g22 (204) = na ca 120 (pv21) := (hk23 _ (by omega)).trans q20421
                have e31 : g22 (205) = na ca 75 (ro21) := (hk23 _ (by omega)).trans q20521
                have e32 : g22 (206) = na ca 255 (pm) := (hk23 _ (by omega)).trans q20621
                have e33 : g22 (207) = na ca 16 (bb21) := (hk23 _ (by omega)).trans q20721
                have hs34 : ∀ z, (z < 198 ∨ 207 < z) → g22 z = g z := fun z hz => (hk23 z (by omega)).trans (hs20 z hz)
                refine lv_aload_n C.1 C.2.1 dX8_give_102 rfl (lv_at hl 1 rfl) ?_
                refine lv_iload_n C.1 C.2.1 dX8_give_103 rfl (lv_at hl 0 rfl) ?_
                refine lv_if_ge (tgt := 114) C.1 C.2.1 dX8_give_104 (by decide) (fun hc104 => ?_) (fun hc104 => ?_)
                · refine k_icn C 0 dX8_give_114 (by decide) ?_
                  refine k_put C F hw (198) (by omega) e24 rfl in_X8 tyX8_ok nmX8 2 (by decide) fl_X8_46 rfl (v := .int (nI 0)) rfl rfl (Nat.le_of_ble_eq_true rfl) dX8_give_115 (fun H locs hw => ?_)
                  have hw : Wd D (AA R ad sz) s R ad (va_up g22 (198) (.inr (8, [.int (nI 0), .ref (ad 199), .int (nI 0), .ref (ad 200), .int (nI bk), .int (nI bt), .ref (ad 201), .int (nI ck), .int (nI ct), .ref (ad 202), .int (nI cn1), .int (nI pk1), .ref (ad 203), .ref (ad 204), .int (nI rw21), .ref (ad 205), .ref (ad 206), .int (bI (gt21)), .ref (ad 207)]))) H locs := hw
                  obtain ⟨g35, hg35⟩ : ∃ z, z = va_up g22 (198) (.inr (8, [.int (nI 0), .ref (ad 199), .int (nI 0), .ref (ad 200), .int (nI bk), .int (nI bt), .ref (ad 201), .int (nI ck), .int (nI ct), .ref (ad 202), .int (nI cn1), .int (nI pk1), .ref (ad 203), .ref (ad 204), .int (nI rw21), .ref (ad 205), .ref (ad 206), .int (bI (gt21)), .ref (ad 207)])) := ⟨_, rfl⟩
                  rw [← hg35] at hw
                  have hk36 : ∀ z, z ≠ 198 → g35 z = g22 z := fun z hz => by rw [hg35]; exact va_up_ne _ _ hz
                  have e37 : g35 (198) = .inr (8, [.int (nI 0), .ref (ad 199), .int (nI 0), .ref (ad 200), .int (nI bk), .int (nI bt), .ref (ad 201), .int (nI ck), .int (nI ct), .ref (ad 202), .int (nI cn1), .int (nI pk1), .ref (ad 203), .ref (ad 204), .int (nI rw21), .ref (ad 205), .ref (ad 206), .int (bI (gt21)), .ref (ad 207)]) := by rw [hg35]; exact va_up_self _ _ _
                  have e38 : g35 (199) = ba ca 800 (tp21) := (hk36 _ (by omega)).trans e25
                  have e39 : g35 (200) = ia ca 49 (tn21) := (hk36 _ (by omega)).trans e26
                  have e40 : g35 (201) = na ca 944 (fi IN) := (hk36 _ (by omega)).trans e27
                  have e41 : g35 (202) = na ca 4425 (fl (CgN pm ck ct CG cn x th)) := (hk36 _ (by omega)).trans e28
                  have e42 : g35 (203) = na ca 9000 (fl M21) := (hk36 _ (by omega)).trans e29
                  have e43 : g35 (204) = na ca 120 (pv21) := (hk36 _ (by omega)).trans e30
                  have e44 : g35 (205) = na ca 75 (ro21) := (hk36 _ (by omega)).trans e31
                  have e45 : g35 (206) = na ca 255 (pm) := (hk36 _ (by omega)).trans e32
                  have e46 : g35 (207) = na ca 16 (bb21) := (hk36 _ (by omega)).trans e33
                  have hs47 : ∀ z, (z < 198 ∨ 207 < z) → g35 z = g z := fun z hz => (hk36 z (by omega)).trans (hs34 z hz)
                  refine lv_iload_n C.1 C.2.1 dX8_give_118 rfl (lv_at hl 0 rfl) ?_
                  refine k_icn C 1 dX8_give_119 (by decide) ?_
                  refine lv_icmp_ne (tgt := 127) C.1 C.2.1 dX8_give_120 (by decide) (fun hc120 => ?_) (fun hc120 => ?_)
                  · refine k_icn C 0 dX8_give_127 (by decide) ?_
                    have hS48 : MSt ca ad g35 pm (nI 0) 0 th bk bt IN ck ct (CgN pm ck ct CG cn x th) cn1 pk1 tp21 rw21 gt21 M21 pv21 ro21 tn21 bb21 := ⟨⟨e37, e38, e39, e40, e41, e42, e43, e44, e45, e46⟩, hmb21, hbb21, hCG21, hIN21, htn21, hgt21, ⟨Nat.zero_le _, hbd21.2⟩, hGr21, ⟨hth21.1, fun j hj => absurd hj (Nat.not_lt_zero _)⟩⟩
                    exact hret H locs ls _ false _ _ dX8_give_128 hw (by rfl) (⟨hs47, Or.inl ⟨hc5, hc31, x, rfl, hx, r1, cn1, pk1, hcm, Or.inl ⟨hc91, (congrArg bI (decide_eq_false hc120)).symm, ⟨_, _, _, _, _, _, _, _, hS48⟩⟩⟩⟩)
                  · refine k_icn C 1 dX8_give_123 (by decide) ?_
                    refine lv_goto (tgt := 128) C.1 C.2.1 dX8_give_124 (by decide) ?_
                    have hS49 : MSt ca ad g35 pm (nI 0) 0 th bk bt IN ck ct (CgN pm ck ct CG cn x th) cn1 pk1 tp21 rw21 gt21 M21 pv21 ro21 tn21 bb21 := ⟨⟨e37, e38, e39, e40, e41, e42, e43, e44, e45, e46⟩, hmb21, hbb21, hCG21, hIN21, htn21, hgt21, ⟨Nat.zero_le _, hbd21.2⟩, hGr21, ⟨hth21.1, fun j hj => absurd hj (Nat.not_lt_zero _)⟩⟩
                    exact hret H locs ls _ true _ _ dX8_give_128 hw (by rfl) (⟨hs47, Or.inl ⟨hc5, hc31, x, rfl, hx, r1, cn1, pk1, hcm, Or.inl ⟨hc91, (congrArg bI (decide_eq_true hc120)).symm, ⟨_, _, _, _, _, _, _, _, hS49⟩⟩⟩⟩)
                · exact absurd hc91 hc104
              · refine k_icn C 4 dX8_give_94 (by decide) ?_
                refine lv_goto (tgt := 99) C.1 C.2.1 dX8_give_95 (by decide) ?_
                refine k_put C F hw (198) (by omega) q19821 rfl in_X8 tyX8_ok nmX8 0 (by decide) fl_X8_42 rfl (v := .int (nI 4)) rfl rfl (Nat.le_of_ble_eq_true rfl) dX8_give_99 (fun H locs hw => ?_)
                have hw : Wd D (AA R ad sz) s R ad (va_up g18 (198) (.inr (8, [.int (nI 4), .ref (ad 199), .int (nI ln), .ref (ad 200), .int (nI bk), .int (nI bt), .ref (ad 201), .int (nI ck), .int (nI ct), .ref (ad 202), .int (nI cn1), .int (nI pk1), .ref (ad 203), .ref (ad 204), .int (nI rw21), .ref (ad 205), .ref (ad 206), .int (bI (gt21)), .ref (ad 207)]))) H locs := hw
                obtain ⟨g50, hg50⟩ : ∃ z, z = va_up g18 (198) (.inr (8, [.int (nI 4), .ref (ad 199), .int (nI ln), .ref (ad 200), .int (nI bk), .int (nI bt), .ref (ad 201), .int (nI ck), .int (nI ct), .ref (ad 202), .int (nI cn1), .int (nI pk1), .ref (ad 203), .ref (ad 204), .int (nI rw21), .ref (ad 205), .ref (ad 206), .int (bI (gt21)), .ref (ad 207)])) := ⟨_, rfl⟩
                rw [← hg50] at hw
                have hk51 : ∀ z, z ≠ 198 → g50 z = g18 z := fun z hz => by rw [hg50]; exact va_up_ne _ _ hz
                have e52 : g50 (198) = .inr (8, [.int (nI 4), .ref (ad 199), .int (nI ln), .ref (ad 200), .int (nI bk), .int (nI bt), .ref (ad 201), .int (nI ck), .int (nI ct), .ref (ad 202), .int (nI cn1), .int (nI pk1), .ref (ad 203), .ref (ad 204), .int (nI rw21), .ref (ad 205), .ref (ad 206), .int (bI (gt21)), .ref (ad 207)]) := by rw [hg50]; exact va_up_self _ _ _
                have e53 : g50 (199) = ba ca 800 (tp21) := (hk51 _ (by omega)).trans q19921
                have e54 : g50 (200) = ia ca 49 (tn21) := (hk51 _ (by omega)).trans q20021
                have e55 : g50 (201) = na ca 944 (fi IN) := (hk51 _ (by omega)).trans q20121
                have e56 : g50 (202) = na ca 4425 (fl (CgN pm ck ct CG cn x th)) := (hk51 _ (by omega)).trans q20221
                have e57 : g50 (203) = na ca 9000 (fl M21) := (hk51 _ (by omega)).trans q20321
                have e58 : g50 (204) = na ca 120 (pv21) := (hk51 _ (by omega)).trans q20421
                have e59 : g50 (205) = na ca 75 (ro21) := (hk51 _ (by omega)).trans q20521
                have e60 : g50 (206) = na ca 255 (pm) := (hk51 _ (by omega)).trans q20621
                have e61 : g50 (207) = na ca 16 (bb21) := (hk51 _ (by omega)).trans q20721
                have hs62 : ∀ z, (z < 198 ∨ 207 < z) → g50 z = g z := fun z hz => (hk51 z (by omega)).trans (hs20 z hz)
                refine lv_aload_n C.1 C.2.1 dX8_give_102 rfl (lv_at hl 1 rfl) ?_
                refine lv_iload_n C.1 C.2.1 dX8_give_103 rfl (lv_at hl 0 rfl) ?_
                refine lv_if_ge (tgt := 114) C.1 C.2.1 dX8_give_104 (by decide) (fun hc104 => ?_) (fun hc104 => ?_)
                · exact absurd hc104 hc91
                · refine lv_aload_n C.1 C.2.1 dX8_give_107 rfl (lv_at hl 1 rfl) ?_
                  refine k_get C F hw (198) (by omega) e52 rfl in_X8 2 (by decide) fl_X8_46 rfl dX8_give_108 ?_
                  refine lv_goto (tgt := 115) C.1 C.2.1 dX8_give_111 (by decide) ?_
                  refine k_put C F hw (198) (by omega) e52 rfl in_X8 tyX8_ok nmX8 2 (by decide) fl_X8_46 rfl (v := .int (nI ln)) rfl rfl (Nat.le_of_ble_eq_true rfl) dX8_give_115 (fun H locs hw => ?_)
                  have hw : Wd D (AA R ad sz) s R ad (va_up g50 (198) (.inr (8, [.int (nI 4), .ref (ad 199), .int (nI ln), .ref (ad 200), .int (nI bk), .int (nI bt), .ref (ad 201), .int (nI ck), .int (nI ct), .ref (ad 202), .int (nI cn1), .int (nI pk1), .ref (ad 203), .ref (ad 204), .int (nI rw21), .ref (ad 205), .ref (ad 206), .int (bI (gt21)), .ref (ad 207)]))) H locs := hw
                  obtain ⟨g63, hg63⟩ : ∃ z, z = va_up g50 (198) (.inr (8, [.int (nI 4), .ref (ad 199), .int (nI ln), .ref (ad 200), .int (nI bk), .int (nI bt), .ref (ad 201), .int (nI ck), .int (nI ct), .ref (ad 202), .int (nI cn1), .int (nI pk1), .ref (ad 203), .ref (ad 204), .int (nI rw21), .ref (ad 205), .ref (ad 206), .int (bI (gt21)), .ref (ad 207)])) := ⟨_, rfl⟩
                  rw [← hg63] at hw
                  have hk64 : ∀ z, z ≠ 198 → g63 z = g50 z := fun z hz => by rw [hg63]; exact va_up_ne _ _ hz
                  have e65 : g63 (198) = .inr (8, [.int (nI 4), .ref (ad 199), .int (nI ln), .ref (ad 200), .int (nI bk), .int (nI bt), .ref (ad 201), .int (nI ck), .int (nI ct), .ref (ad 202), .int (nI cn1), .int (nI pk1), .ref (ad 203), .ref (ad 204), .int (nI rw21), .ref (ad 205), .ref (ad 206), .int (bI (gt21)), .ref (ad 207)]) := by rw [hg63]; exact va_up_self _ _ _
                  have e66 : g63 (199) = ba ca 800 (tp21) := (hk64 _ (by omega)).trans e53
                  have e67 : g63 (200) = ia ca 49 (tn21) := (hk64 _ (by omega)).trans e54
                  have e68 : g63 (201) = na ca 944 (fi IN) := (hk64 _ (by omega)).trans e55
                  have e69 : g63 (202) = na ca 4425 (fl (CgN pm ck ct CG cn x th)) := (hk64 _ (by omega)).trans e56
                  have e70 : g63 (203) = na ca 9000 (fl M21) := (hk64 _ (by omega)).trans e57
                  have e71 : g63 (204) = na ca 120 (pv21) := (hk64 _ (by omega)).trans e58
                  have e72 : g63 (205) = na ca 75 (ro21) := (hk64 _ (by omega)).trans e59
                  have e73 : g63 (206) = na ca 255 (pm) := (hk64 _ (by omega)).trans e60
                  have e74 : g63 (207) = na ca 16 (bb21) := (hk64 _ (by omega)).trans e61
                  have hs75 : ∀ z, (z < 198 ∨ 207 < z) → g63 z = g z := fun z hz => (hk64 z (by omega)).trans (hs62 z hz)
                  refine lv_iload_n C.1 C.2.1 dX8_give_118 rfl (lv_at hl 0 rfl) ?_
                  refine k_icn C 1 dX8_give_119 (by decide) ?_
                  refine lv_icmp_ne (tgt := 127) C.1 C.2.1 dX8_give_120 (by decide) (fun hc120 => ?_) (fun hc120 => ?_)
                  · refine k_icn C 0 dX8_give_127 (by decide) ?_
                    have hS76 : MSt ca ad g63 pm (nI 4) ln th bk bt IN ck ct (CgN pm ck ct CG cn x th) cn1 pk1 tp21 rw21 gt21 M21 pv21 ro21 tn21 bb21 := ⟨⟨e65, e66, e67, e68, e69, e70, e71, e72, e73, e74⟩, hmb21, hbb21, hCG21, hIN21, htn21, hgt21, hbd21, hGr21, hth21⟩
                    exact hret H locs ls _ false _ _ dX8_give_128 hw (by rfl) (⟨hs75, Or.inl ⟨hc5, hc31, x, rfl, hx, r1, cn1, pk1, hcm, Or.inr ⟨hc91, ⟨_, _, _, _, _, _, _, _, hS76⟩⟩⟩⟩)
                  · refine k_icn C 1 dX8_give_123 (by decide) ?_
                    refine lv_goto (tgt := 128) C.1 C.2.1 dX8_give_124 (by decide) ?_
                    have hS77 : MSt ca ad g63 pm (nI 4) ln th bk bt IN ck ct (CgN pm ck ct CG cn x th) cn1 pk1 tp21 rw21 gt21 M21 pv21 ro21 tn21 bb21 := ⟨⟨e65, e66, e67, e68, e69, e70, e71, e72, e73, e74⟩, hmb21, hbb21, hCG21, hIN21, htn21, hgt21, hbd21, hGr21, hth21⟩
                    exact hret H locs ls _ true _ _ dX8_give_128 hw (by rfl) (⟨hs75, Or.inl ⟨hc5, hc31, x, rfl, hx, r1, cn1, pk1, hcm, Or.inr ⟨hc91, ⟨_, _, _, _, _, _, _, _, hS77⟩⟩⟩⟩)
            · refine lv_aload_n C.1 C.2.1 dX8_give_61 rfl (lv_at hl 0 rfl) ?_
              refine k_get C F hw (198) (by omega) eL53_0 rfl in_X8 18 (by decide) fl_X8_35 rfl dX8_give_62 ?_
              refine lv_iload_n C.1 C.2.1 dX8_give_65 rfl (lv_at hl 2 rfl) ?_
              refine lv_aload_n C.1 C.2.1 dX8_give_66 rfl (lv_at hl 0 rfl) ?_
              refine k_get C F hw (198) (by omega) eL53_0 rfl in_X8 1 (by decide) fl_X8_7 rfl dX8_give_67 ?_
              refine lv_iload_n C.1 C.2.1 dX8_give_70 rfl (lv_at hl 2 rfl) ?_
              refine k_bald C F hw (199) (by omega) eL53_1 (i) (by omega) (by decide) dX8_give_71 ?_
              refine k_sip C 255 dX8_give_72 (by decide) ?_
              refine lv_iand C.1 C.2.1 dX8_give_75 ?_
              refine k_ti (x' := nI (th i)) (hth.2 i (by omega)) ?_
              refine k_iast C F hw (207) (by omega) eL53_9 (i) (th i) (by omega) (by decide) dX8_give_76 (fun H locs hw => ?_)
              have hw : Wd D (AA R ad sz) s R ad (va_up gL (207) (na ca 16 (va_up b1 i (th i)))) H locs := hw
              obtain ⟨g78, hg78⟩ : ∃ z, z = va_up gL (207) (na ca 16 (va_up b1 i (th i))) := ⟨_, rfl⟩
              rw [← hg78] at hw
              have hk79 : ∀ z, z ≠ 207 → g78 z = gL z := fun z hz => by rw [hg78]; exact va_up_ne _ _ hz
              have e80 : g78 (207) = na ca 16 (va_up b1 i (th i)) := by rw [hg78]; exact va_up_self _ _ _
              have e81 : g78 (198) = .inr (8, [.int (nI 0), .ref (ad 199), .int (nI ln), .ref (ad 200), .int (nI bk), .int (nI bt), .ref (ad 201), .int (nI ck), .int (nI ct), .ref (ad 202), .int (nI cn), .int (nI pk), .ref (ad 203), .ref (ad 204), .int (nI rw), .ref (ad 205), .ref (ad 206), .int (bI (gt)), .ref (ad 207)]) := (hk79 _ (by omega)).trans eL53_0
              have e82 : g78 (199) = ba ca 800 (tp) := (hk79 _ (by omega)).trans eL53_1
              have e83 : g78 (200) = ia ca 49 (tn) := (hk79 _ (by omega)).trans eL53_2
              have e84 : g78 (201) = na ca 944 (fi IN) := (hk79 _ (by omega)).trans eL53_3
              have e85 : g78 (202) = na ca 4425 (fl CG) := (hk79 _ (by omega)).trans eL53_4
              have e86 : g78 (203) = na ca 9000 (fl M) := (hk79 _ (by omega)).trans eL53_5
              have e87 : g78 (204) = na ca 120 (pv) := (hk79 _ (by omega)).trans eL53_6
              have e88 : g78 (205) = na ca 75 (ro) := (hk79 _ (by omega)).trans eL53_7
              have e89 : g78 (206) = na ca 255 (pm) := (hk79 _ (by omega)).trans eL53_8
              have hs90 : ∀ z, (z < 198 ∨ 207 < z) → g78 z = g z := fun z hz => (hk79 z (by omega)).trans (hsL53 z hz)
              refine k_inc C (i + 1) (lv' := [(2, .int (nI (i + 1))), (0, .ref (ad 198)), (1, .int (nI x))]) dX8_give_77 hl (k := 2) rfl (inc1 _) (by decide) rfl (fun ls hl => ?_)
              refine lv_goto (tgt := 53) C.1 C.2.1 dX8_give_80 (by decide) ?_
              exact ih53 (i + 1) (va_up b1 i (th i)) g78 H locs ls (by omega) (by omega) (by rw [hb1]; exact prt_s i th bb) hs90 e81 e82 e83 e84 e85 e86 e87 e88 e89 e80 hw (lv_sub hl [1, 2, 0] rfl)
        exact loop53 _ 0 bb g3 H locs ls (Nat.le_refl _) (by omega) ((prt_0 _ _).symm) hs15 e5 e6 e7 e8 e9 e10 e11 e12 e13 e14 hw (lv_sub hl [1, 2, 0] rfl)
      · refine k_icn C 3 dX8_give_34 (by decide) ?_
        refine lv_goto (tgt := 39) C.1 C.2.1 dX8_give_35 (by decide) ?_
        refine k_put C F hw (198) (by omega) q198 rfl in_X8 tyX8_ok nmX8 0 (by decide) fl_X8_42 rfl (v := .int (nI 3)) rfl rfl (Nat.le_of_ble_eq_true rfl) dX8_give_39 (fun H locs hw => ?_)
        have hw : Wd D (AA R ad sz) s R ad (va_up g (198) (.inr (8, [.int (nI 3), .ref (ad 199), .int (nI ln), .ref (ad 200), .int (nI bk), .int (nI bt), .ref (ad 201), .int (nI ck), .int (nI ct), .ref (ad 202), .int (nI cn), .int (nI pk), .ref (ad 203), .ref (ad 204), .int (nI rw), .ref (ad 205), .ref (ad 206), .int (bI (gt)), .ref (ad 207)]))) H locs := hw
        obtain ⟨g91, hg91⟩ : ∃ z, z = va_up g (198) (.inr (8, [.int (nI 3), .ref (ad 199), .int (nI ln), .ref (ad 200), .int (nI bk), .int (nI bt), .ref (ad 201), .int (nI ck), .int (nI ct), .ref (ad 202), .int (nI cn), .int (nI pk), .ref (ad 203), .ref (ad 204), .int (nI rw), .ref (ad 205), .ref (ad 206), .int (bI (gt)), .ref (ad 207)])) := ⟨_, rfl⟩
        rw [← hg91] at hw
        have hk92 : ∀ z, z ≠ 198 → g91 z = g z := fun z hz => by rw [hg91]; exact va_up_ne _ _ hz
        have e93 : g91 (198) = .inr (8, [.int (nI 3), .ref (ad 199), .int (nI ln), .ref (ad 200), .int (nI bk), .int (nI bt), .ref (ad 201), .int (nI ck), .int (nI ct), .ref (ad 202), .int (nI cn), .int (nI pk), .ref (ad 203), .ref (ad 204), .int (nI rw), .ref (ad 205), .ref (ad 206), .int (bI (gt)), .ref (ad 207)]) := by rw [hg91]; exact va_up_self _ _ _
        have e94 : g91 (199) = ba ca 800 (tp) := (hk92 _ (by omega)).trans q199
        have e95 : g91 (200) = ia ca 49 (tn) := (hk92 _ (by omega)).trans q200
        have e96 : g91 (201) = na ca 944 (fi IN) := (hk92 _ (by omega)).trans q201
        have e97 : g91 (202) = na ca 4425 (fl CG) := (hk92 _ (by omega)).trans q202
        have e98 : g91 (203) = na ca 9000 (fl M) := (hk92 _ (by omega)).trans q203
        have e99 : g91 (204) = na ca 120 (pv) := (hk92 _ (by omega)).trans q204
        have e100 : g91 (205) = na ca 75 (ro) := (hk92 _ (by omega)).trans q205
        have e101 : g91 (206) = na ca 255 (pm) := (hk92 _ (by omega)).trans q206
        have e102 : g91 (207) = na ca 16 (bb) := (hk92 _ (by omega)).trans q207
        have hs103 : ∀ z, (z < 198 ∨ 207 < z) → g91 z = g z := fun z hz => hk92 z (by omega)
        refine lv_aload_n C.1 C.2.1 dX8_give_42 rfl (lv_at hl 0 rfl) ?_
        refine k_get C F hw (198) (by omega) e93 rfl in_X8 0 (by decide) fl_X8_42 rfl dX8_give_43 ?_
        refine k_zle (tgt := 51) C dX8_give_46 (by decide) (by omega) (fun h => absurd h (by decide)) (fun _ => ?_)
        refine k_icn C 0 dX8_give_49 (by decide) ?_
        have hS104 : MSt ca ad g91 pm (nI (3)) ln th bk bt IN ck ct CG cn pk tp rw gt M pv ro tn bb := ⟨⟨e93, e94, e95, e96, e97, e98, e99, e100, e101, e102⟩, hmb, hbb, hCG, hIN, htn, hgt, hbd, hGr, hth⟩
        exact hret H locs ls _ false _ _ dX8_give_50 hw (by rfl) (⟨hs103, Or.inr (Or.inr (Or.inr ⟨hc5, of_decide_eq_true hc16, hc31, ⟨_, _, _, _, _, _, _, _, hS104⟩⟩))⟩)
    · refine k_icn C 2 dX8_give_19 (by decide) ?_
      refine lv_goto (tgt := 39) C.1 C.2.1 dX8_give_20 (by decide) ?_
      refine k_put C F hw (198) (by omega) q198 rfl in_X8 tyX8_ok nmX8 0 (by decide) fl_X8_42 rfl (v := .int (nI 2)) rfl rfl (Nat.le_of_ble_eq_true rfl) dX8_give_39 (fun H locs hw => ?_)
      have hw : Wd D (AA R ad sz) s R ad (va_up g (198) (.inr (8, [.int (nI 2), .ref (ad 199), .int (nI ln), .ref (ad 200), .int (nI bk), .int (nI bt), .ref (ad 201), .int (nI ck), .int (nI ct), .ref (ad 202), .int (nI cn), .int (nI pk), .ref (ad 203), .ref (ad 204), .int (nI rw), .ref (ad 205), .ref (ad 206), .int (bI (gt)), .ref (ad 207)]))) H locs := hw
      obtain ⟨g105, hg105⟩ : ∃ z, z = va_up g (198) (.inr (8, [.int (nI 2), .ref (ad 199), .int (nI ln), .ref (ad 200), .int (nI bk), .int (nI bt), .ref (ad 201), .int (nI ck), .int (nI ct), .ref (ad 202), .int (nI cn), .int (nI pk), .ref (ad 203), .ref (ad 204), .int (nI rw), .ref (ad 205), .ref (ad 206), .int (bI (gt)), .ref (ad 207)])) := ⟨_, rfl⟩
      rw [← hg105] at hw
      have hk106 : ∀ z, z ≠ 198 → g105 z = g z := fun z hz => by rw [hg105]; exact va_up_ne _ _ hz
      have e107 : g105 (198) = .inr (8, [.int (nI 2), .ref (ad 199), .int (nI ln), .ref (ad 200), .int (nI bk), .int (nI bt), .ref (ad 201), .int (nI ck), .int (nI ct), .ref (ad 202), .int (nI cn), .int (nI pk), .ref (ad 203), .ref (ad 204), .int (nI rw), .ref (ad 205), .ref (ad 206), .int (bI (gt)), .ref (ad 207)]) := by rw [hg105]; exact va_up_self _ _ _
      have e108 : g105 (199) = ba ca 800 (tp) := (hk106 _ (by omega)).trans q199
      have e109 : g105 (200) = ia ca 49 (tn) := (hk106 _ (by omega)).trans q200
      have e110 : g105 (201) = na ca 944 (fi IN) := (hk106 _ (by omega)).trans q201
      have e111 : g105 (202) = na ca 4425 (fl CG) := (hk106 _ (by omega)).trans q202
      have e112 : g105 (203) = na ca 9000 (fl M) := (hk106 _ (by omega)).trans q203
      have e113 : g105 (204) = na ca 120 (pv) := (hk106 _ (by omega)).trans q204
      have e114 : g105 (205) = na ca 75 (ro) := (hk106 _ (by omega)).trans q205
      have e115 : g105 (206) = na ca 255 (pm) := (hk106 _ (by omega)).trans q206
      have e116 : g105 (207) = na ca 16 (bb) := (hk106 _ (by omega)).trans q207
      have hs117 : ∀ z, (z < 198 ∨ 207 < z) → g105 z = g z := fun z hz => hk106 z (by omega)
      refine lv_aload_n C.1 C.2.1 dX8_give_42 rfl (lv_at hl 0 rfl) ?_
      refine k_get C F hw (198) (by omega) e107 rfl in_X8 0 (by decide) fl_X8_42 rfl dX8_give_43 ?_
      refine k_zle (tgt := 51) C dX8_give_46 (by decide) (by omega) (fun h => absurd h (by decide)) (fun _ => ?_)
      refine k_icn C 0 dX8_give_49 (by decide) ?_
      have hS118 : MSt ca ad g105 pm (nI (2)) ln th bk bt IN ck ct CG cn pk tp rw gt M pv ro tn bb := ⟨⟨e107, e108, e109, e110, e111, e112, e113, e114, e115, e116⟩, hmb, hbb, hCG, hIN, htn, hgt, hbd, hGr, hth⟩
      exact hret H locs ls _ false _ _ dX8_give_50 hw (by rfl) (⟨hs117, Or.inr (Or.inr (Or.inl ⟨hc5, of_decide_eq_false hc16, ⟨_, _, _, _, _, _, _, _, hS118⟩⟩))⟩)
  · refine k_icn C 1 dX8_give_8 (by decide) ?_
    refine lv_goto (tgt := 39) C.1 C.2.1 dX8_give_9 (by decide) ?_
    refine k_put C F hw (198) (by omega) q198 rfl in_X8 tyX8_ok nmX8 0 (by decide) fl_X8_42 rfl (v := .int (nI 1)) rfl rfl (Nat.le_of_ble_eq_true rfl) dX8_give_39 (fun H locs hw => ?_)
    have hw : Wd D (AA R ad sz) s R ad (va_up g (198) (.inr (8, [.int (nI 1), .ref (ad 199), .int (nI ln), .ref (ad 200), .int (nI bk), .int (nI bt), .ref (ad 201), .int (nI ck), .int (nI ct), .ref (ad 202), .int (nI cn), .int (nI pk), .ref (ad 203), .ref (ad 204), .int (nI rw), .ref (ad 205), .ref (ad 206), .int (bI (gt)), .ref (ad 207)]))) H locs := hw
    obtain ⟨g119, hg119⟩ : ∃ z, z = va_up g (198) (.inr (8, [.int (nI 1), .ref (ad 199), .int (nI ln), .ref (ad 200), .int (nI bk), .int (nI bt), .ref (ad 201), .int (nI ck), .int (nI ct), .ref (ad 202), .int (nI cn), .int (nI pk), .ref (ad 203), .ref (ad 204), .int (nI rw), .ref (ad 205), .ref (ad 206), .int (bI (gt)), .ref (ad 207)])) := ⟨_, rfl⟩
    rw [← hg119] at hw
    have hk120 : ∀ z, z ≠ 198 → g119 z = g z := fun z hz => by rw [hg119]; exact va_up_ne _ _ hz
    have e121 : g119 (198) = .inr (8, [.int (nI 1), .ref (ad 199), .int (nI ln), .ref (ad 200), .int (nI bk), .int (nI bt), .ref (ad 201), .int (nI ck), .int (nI ct), .ref (ad 202), .int (nI cn), .int (nI pk), .ref (ad 203), .ref (ad 204), .int (nI rw), .ref (ad 205), .ref (ad 206), .int (bI (gt)), .ref (ad 207)]) := by rw [hg119]; exact va_up_self _ _ _
    have e122 : g119 (199) = ba ca 800 (tp) := (hk120 _ (by omega)).trans q199
    have e123 : g119 (200) = ia ca 49 (tn) := (hk120 _ (by omega)).trans q200
    have e124 : g119 (201) = na ca 944 (fi IN) := (hk120 _ (by omega)).trans q201
    have e125 : g119 (202) = na ca 4425 (fl CG) := (hk120 _ (by omega)).trans q202
    have e126 : g119 (203) = na ca 9000 (fl M) := (hk120 _ (by omega)).trans q203
    have e127 : g119 (204) = na ca 120 (pv) := (hk120 _ (by omega)).trans q204
    have e128 : g119 (205) = na ca 75 (ro) := (hk120 _ (by omega)).trans q205
    have e129 : g119 (206) = na ca 255 (pm) := (hk120 _ (by omega)).trans q206
    have e130 : g119 (207) = na ca 16 (bb) := (hk120 _ (by omega)).trans q207
    have hs131 : ∀ z, (z < 198 ∨ 207 < z) → g119 z = g z := fun z hz => hk120 z (by omega)
    refine lv_aload_n C.1 C.2.1 dX8_give_42 rfl (lv_at hl 0 rfl) ?_
    refine k_get C F hw (198) (by omega) e121 rfl in_X8 0 (by decide) fl_X8_42 rfl dX8_give_43 ?_
    refine k_zle (tgt := 51) C dX8_give_46 (by decide) (by omega) (fun h => absurd h (by decide)) (fun _ => ?_)
    refine k_icn C 0 dX8_give_49 (by decide) ?_
    have hS132 : MSt ca ad g119 pm (nI (1)) ln th bk bt IN ck ct CG cn pk tp rw gt M pv ro tn bb := ⟨⟨e121, e122, e123, e124, e125, e126, e127, e128, e129, e130⟩, hmb, hbb, hCG, hIN, htn, hgt, hbd, hGr, hth⟩
    exact hret H locs ls _ false _ _ dX8_give_50 hw (by rfl) (⟨hs131, Or.inr (Or.inl ⟨hc5, ⟨_, _, _, _, _, _, _, _, hS132⟩⟩)⟩)

abbrev MT : Type := Nat × (Nat → Nat → Nat) × Nat × Nat
def MaR (pm : Nat → Nat) (IN : Nat → Nat → Nat) (ck ct stp : Nat) : Nat → Nat → MT → MT → Prop
  | 0, _, s, r => r = s
  | n + 1, x, s, r => ∃ r1 cn1 pk1, CmR pm ck ct s.2.1 s.2.2.1 s.2.2.2 x (smP pm IN ck x) r1 cn1 pk1 ∧ ((¬ 0 ≤ r1 ∧ r = (s.1, CgN pm ck ct s.2.1 s.2.2.1 x (smP pm IN ck x), cn1, pk1)) ∨ (0 ≤ r1 ∧ MaR pm IN ck ct stp n ((x + stp) % 65536) (s.1 + (if r1 = 1 then 1 else 0), CgN pm ck ct s.2.1 s.2.2.1 x (smP pm IN ck x), cn1, pk1) r))
theorem cm_grow {pm : Nat → Nat} {ck ct cn pk x gr : Nat} {CG : Nat → Nat → Nat} {bb : Nat → Nat} {r1 : Int32} {cn1 pk1 : Nat} (h : CmR pm ck ct CG cn pk x bb r1 cn1 pk1) (h0 : 0 ≤ r1) : nI gr + r1 = nI (gr + (if r1 = 1 then 1 else 0)) := by
  rcases h with h | h | h
  · rw [h.1, if_pos rfl]; exact nI_add gr 1
  · rw [h.1, if_neg (by decide)]; exact nI_add gr 0
  · rw [h.1] at h0; exact absurd h0 (by decide)

abbrev rm_X8_takeAll : Room := { frames := 8, cells := 0, slots := 0, locals := 185 }

set_option maxHeartbeats 800000 in
set_option maxRecDepth 100000 in
/-- takeAll -/
theorem c_X8_takeAll {l : Launch} {D : va_G} {ca : Nat → ClassId} {tB tS R : Nat} {ad : Nat → Nat} {g : Nat → va_E} {sz : Nat} (hR : 207 < R) (pm : Nat → Nat) (hpm : PmOk pm) (hT : ∀ k, 1 ≤ k → k ≤ 48 → tnN (fbG pm k) < 1000) (cd : Int32) (ln : Nat) (th : Nat → Nat) (bk bt : Nat) (IN : Nat → Nat → Nat) (ck ct : Nat) (CG : Nat → Nat → Nat) (cn pk : Nat) (hI : MInv ca ad g pm cd ln th bk bt IN ck ct CG cn pk) (xx nx : Int32) (stp : Nat) (hstp : stp < 2 ^ 32) : MI l yX8_takeAll cX8_takeAll 8 .int rm_X8_takeAll D ca tB tS R ad g sz [.ref (ad 198), .int (xx), .int (nI stp), .int (nx)] (fun r g1 => (∀ z, z < 198 ∨ 207 < z → g1 z = g z) ∧ (((bk ≠ 0 ∧ bk = ck ∧ bt = ct) ∧ ∃ x n gr CG1 cn1 pk1, xx = nI x ∧ x < 65536 ∧ nx = nI n ∧ n ≤ 100 ∧ r = nI gr ∧ MaR pm IN ck ct stp n x (0, CG, cn, pk) (gr, CG1, cn1, pk1) ∧ MInv ca ad g1 pm (nI 0) ln th bk bt IN ck ct CG1 cn1 pk1) ∨ (¬ (bk ≠ 0 ∧ bk = ck ∧ bt = ct) ∧ MInv ca ad g1 pm (nI 1) ln th bk bt IN ck ct CG cn pk) ∨ ((bk ≠ 0 ∧ bk = ck ∧ bt = ct) ∧ ¬ (0 ≤ xx ∧ xx < 65536) ∧ MInv ca ad g1 pm (nI 2) ln th bk bt IN ck ct CG cn pk) ∨ ((bk ≠ 0 ∧ bk = ck ∧ bt = ct) ∧ (0 ≤ xx ∧ xx < 65536) ∧ (¬ ∃ n : Nat, nx = nI n ∧ n ≤ 100) ∧ MInv ca ad g1 pm (nI 3) ln th bk bt IN ck ct CG cn pk))) := by
  refine m_startI (by decide +kernel) (Nat.le_of_ble_eq_true rfl) (fun p e s m args below meth c ls Q hsz C hl F hw hret => ?_)
  have hl : lv_has ls 8 [(0, .ref (ad 198)), (1, .int (xx)), (2, .int (nI stp)), (3, .int (nx))] := hl
  generalize s.heap = H at hw ⊢
  generalize ([] : List Loc) = locs at hw ⊢
  obtain ⟨tp, rw, gt, M, pv, ro, tn, bb, hS⟩ := hI
  obtain ⟨⟨q198, q199, q200, q201, q202, q203, q204, q205, q206, q207⟩, hmb, hbb, hCG, hIN, htn, hgt, hbd, hGr, hth⟩ := hS
  have hbd2 := hbd.2.1
  have hbd3 := hbd.2.2
  refine lv_aload_n C.1 C.2.1 dX8_takeAll_0 rfl (lv_at hl 0 rfl) ?_
  refine lv_aload_n C.1 C.2.1 dX8_takeAll_1 rfl (lv_at hl 0 rfl) ?_
  refine k_Vi C F hw (i := 198) (As := []) (rest := [.ref (ad 198)]) (c_X8_isSame hR cd ln bk bt ck ct cn pk rw gt q198 (by omega)) (by omega) q198 rfl (cwV _ C.2.2.2.2 gm_X8_147 rfl rfl rfl cd_X8_isSame ⟨by decide, by decide⟩) hl.1 rfl (Nat.le_of_ble_eq_true rfl) dX8_takeAll_2 ⟨by decide, by decide⟩ (fun r1 g2 H locs hp hw => ?_)
  obtain ⟨hr9, hg9⟩ := hp
  rw [hg9] at hw
  subst hr9
  refine k_bne (tgt := 12) C dX8_takeAll_5 (by decide) (fun hc5 => ?_) (fun hc5 => ?_)
  · have hsm := of_decide_eq_true hc5
    have hck : 1 ≤ ck ∧ ck ≤ 48 := by omega
    refine lv_iload_n C.1 C.2.1 dX8_takeAll_12 rfl (lv_at hl 1 rfl) ?_
    refine k_Si C F hw (As := [.int (xx)]) (rest := [.ref (ad 198)]) (c_X8_isPacket xx) (va_cwS _ C.2.2.2.2 gm_X8_123 rfl rfl rfl cd_X8_isPacket.2 ⟨by decide, by decide⟩) hl.1 rfl (Nat.le_of_ble_eq_true rfl) dX8_takeAll_13 ⟨by decide, by decide⟩ (fun r3 g4 H locs hp hw => ?_)
    obtain ⟨hr9, hg9⟩ := hp
    rw [hg9] at hw
    subst hr9
    refine k_bne (tgt := 23) C dX8_takeAll_16 (by decide) (fun hc16 => ?_) (fun hc16 => ?_)
    · refine lv_iload_n C.1 C.2.1 dX8_takeAll_23 rfl (lv_at hl 3 rfl) ?_
      refine lv_if_lt (tgt := 33) C.1 C.2.1 dX8_takeAll_24 (by decide) (fun hc24 => ?_) (fun hc24 => ?_)
      · refine k_icn C 3 dX8_takeAll_33 (by decide) ?_
        refine lv_goto (tgt := 38) C.1 C.2.1 dX8_takeAll_34 (by decide) ?_
        refine k_put C F hw (198) (by omega) q198 rfl in_X8 tyX8_ok nmX8 0 (by decide) fl_X8_42 rfl (v := .int (nI 3)) rfl rfl (Nat.le_of_ble_eq_true rfl) dX8_takeAll_38 (fun H locs hw => ?_)
        have hw : Wd D (AA R ad sz) s R ad (va_up g (198) (.inr (8, [.int (nI 3), .ref (ad 199), .int (nI ln), .ref (ad 200), .int (nI bk), .int (nI bt), .ref (ad 201), .int (nI ck), .int (nI ct), .ref (ad 202), .int (nI cn), .int (nI pk), .ref (ad 203), .ref (ad 204), .int (nI rw), .ref (ad 205), .ref (ad 206), .int (bI (gt)), .ref (ad 207)]))) H locs := hw
        obtain ⟨g5, hg5⟩ : ∃ z, z = va_up g (198) (.inr (8, [.int (nI 3), .ref (ad 199), .int (nI ln), .ref (ad 200), .int (nI bk), .int (nI bt), .ref (ad 201), .int (nI ck), .int (nI ct), .ref (ad 202), .int (nI cn), .int (nI pk), .ref (ad 203), .ref (ad 204), .int (nI rw), .ref (ad 205), .ref (ad 206), .int (bI (gt)), .ref (ad 207)])) := ⟨_, rfl⟩
        rw [← hg5] at hw
        have hk6 : ∀ z, z ≠ 198 → g5 z = g z := fun z hz => by rw [hg5]; exact va_up_ne _ _ hz
        have e7 : g5 (198) = .inr (8, [.int (nI 3), .ref (ad 199), .int (nI ln), .ref (ad 200), .int (nI bk), .int (nI bt), .ref (ad 201), .int (nI ck), .int (nI ct), .ref (ad 202), .int (nI cn), .int (nI pk), .ref (ad 203), .ref (ad 204), .int (nI rw), .ref (ad 205), .ref (ad 206), .int (bI (gt)), .ref (ad 207)]) := by rw [hg5]; exact va_up_self _ _ _
        have e8 : g5 (199) = ba ca 800 (tp) := (hk6 _ (by omega)).trans q199
        have e9 : g5 (200) = ia ca 49 (tn) := (hk6 _ (by omega)).trans q200
        have e10 : g5 (201) = na ca 944 (fi IN) := (hk6 _ (by omega)).trans q201
        have e11 : g5 (202) = na ca 4425 (fl CG) := (hk6 _ (by omega)).trans q202
        have e12 : g5 (203) = na ca 9000 (fl M) := (hk6 _ (by omega)).trans q203
        have e13 : g5 (204) = na ca 120 (pv) := (hk6 _ (by omega)).trans q204
        have e14 : g5 (205) = na ca 75 (ro) := (hk6 _ (by omega)).trans q205
        have e15 : g5 (206) = na ca 255 (pm) := (hk6 _ (by omega)).trans q206
        have e16 : g5 (207) = na ca 16 (bb) := (hk6 _ (by omega)).trans q207
        have hs17 : ∀ z, (z < 198 ∨ 207 < z) → g5 z = g z := fun z hz => hk6 z (by omega)
        refine k_icn C 0 dX8_takeAll_41 (by decide) ?_
        refine lv_istore (lv' := [(4, .int (nI 0)), (0, .ref (ad 198)), (1, .int (xx)), (2, .int (nI stp)), (3, .int (nx))]) C.1 C.2.1 dX8_takeAll_42 hl (by decide) rfl (fun ls hl => ?_)
        refine lv_iload_n C.1 C.2.1 dX8_takeAll_44 rfl (lv_at hl 2 rfl) ?_
        refine lv_istore (lv' := [(5, .int (xx)), (4, .int (nI 0)), (0, .ref (ad 198)), (1, .int (xx)), (2, .int (nI stp)), (3, .int (nx))]) C.1 C.2.1 dX8_takeAll_45 hl (by decide) rfl (fun ls hl => ?_)
        refine k_icn C 0 dX8_takeAll_47 (by decide) ?_
        refine lv_istore (lv' := [(6, .int (nI 0)), (5, .int (xx)), (4, .int (nI 0)), (0, .ref (ad 198)), (1, .int (xx)), (2, .int (nI stp)), (3, .int (nx))]) C.1 C.2.1 dX8_takeAll_48 hl (by decide) rfl (fun ls hl => ?_)
        refine lv_iload C.1 C.2.1 dX8_takeAll_50 (lv_at hl 0 rfl) ?_
        refine lv_iload_n C.1 C.2.1 dX8_takeAll_52 rfl (lv_at hl 6 rfl) ?_
        refine lv_icmp_ge (tgt := 101) C.1 C.2.1 dX8_takeAll_53 (by decide) (fun hc53 => ?_) (fun hc53 => ?_)
        · refine lv_iload C.1 C.2.1 dX8_takeAll_101 (lv_at hl 2 rfl) ?_
          have hS18 : MSt ca ad g5 pm (nI (3)) ln th bk bt IN ck ct CG cn pk tp rw gt M pv ro tn bb := ⟨⟨e7, e8, e9, e10, e11, e12, e13, e14, e15, e16⟩, hmb, hbb, hCG, hIN, htn, hgt, hbd, hGr, hth⟩
          exact hret H locs ls _ _ _ dX8_takeAll_103 hw (⟨hs17, Or.inr (Or.inr (Or.inr ⟨hsm, of_decide_eq_true hc16, fun ⟨n, h1, h2⟩ => by first | exact absurd hc24 (by rw [h1]; exact nI_pos (by omega)) | exact hc30 (by rw [h1]; exact nI_le (b := 100) h2 (by decide)), ⟨_, _, _, _, _, _, _, _, hS18⟩⟩))⟩)
        · refine lv_aload_n C.1 C.2.1 dX8_takeAll_56 rfl (lv_at hl 3 rfl) ?_
          refine k_get C F hw (198) (by omega) e7 rfl in_X8 0 (by decide) fl_X8_42 rfl dX8_takeAll_57 ?_
          refine k_zne (tgt := 101) C dX8_takeAll_60 (by decide) (by omega) (fun _ => ?_) (fun h => absurd h (by decide))
          refine lv_iload C.1 C.2.1 dX8_takeAll_101 (lv_at hl 2 rfl) ?_
          have hS19 : MSt ca ad g5 pm (nI (3)) ln th bk bt IN ck ct CG cn pk tp rw gt M pv ro tn bb := ⟨⟨e7, e8, e9, e10, e11, e12, e13, e14, e15, e16⟩, hmb, hbb, hCG, hIN, htn, hgt, hbd, hGr, hth⟩
          exact hret H locs ls _ _ _ dX8_takeAll_103 hw (⟨hs17, Or.inr (Or.inr (Or.inr ⟨hsm, of_decide_eq_true hc16, fun ⟨n, h1, h2⟩ => by first | exact absurd hc24 (by rw [h1]; exact nI_pos (by omega)) | exact hc30 (by rw [h1]; exact nI_le (b := 100) h2 (by decide)), ⟨_, _, _, _, _, _, _, _, hS19⟩⟩))⟩)
      · refine lv_iload_n C.1 C.2.1 dX8_takeAll_27 rfl (lv_at hl 3 rfl) ?_
        refine k_bip C 100 dX8_takeAll_28 (by decide) ?_
        refine lv_icmp_le (tgt := 37) C.1 C.2.1 dX8_takeAll_30 (by decide) (fun hc30 => ?_) (fun hc30 => ?_)
        · obtain ⟨x, hx, rfl⟩ := nat_of0 (of_decide_eq_true hc16)
          obtain ⟨n, hn0, rfl⟩ := nI_of hc24
          have hn1 : n ≤ 100 := (nI_leI hn0 (by decide)).mp hc30
          refine k_icn C 0 dX8_takeAll_37 (by decide) ?_
          refine k_put C F hw (198) (by omega) q198 rfl in_X8 tyX8_ok nmX8 0 (by decide) fl_X8_42 rfl (v := .int (nI 0)) rfl rfl (Nat.le_of_ble_eq_true rfl) dX8_takeAll_38 (fun H locs hw => ?_)
          have hw : Wd D (AA R ad sz) s R ad (va_up g (198) (.inr (8, [.int (nI 0), .ref (ad 199), .int (nI ln), .ref (ad 200), .int (nI bk), .int (nI bt), .ref (ad 201), .int (nI ck), .int (nI ct), .ref (ad 202), .int (nI cn), .int (nI pk), .ref (ad 203), .ref (ad 204), .int (nI rw), .ref (ad 205), .ref (ad 206), .int (bI (gt)), .ref (ad 207)]))) H locs := hw
          obtain ⟨g20, hg20⟩ : ∃ z, z = va_up g (198) (.inr (8, [.int (nI 0), .ref (ad 199), .int (nI ln), .ref (ad 200), .int (nI bk), .int (nI bt), .ref (ad 201), .int (nI ck), .int (nI ct), .ref (ad 202), .int (nI cn), .int (nI pk), .ref (ad 203), .ref (ad 204), .int (nI rw), .ref (ad 205), .ref (ad 206), .int (bI (gt)), .ref (ad 207)])) := ⟨_, rfl⟩
          rw [← hg20] at hw
          have hk21 : ∀ z, z ≠ 198 → g20 z = g z := fun z hz => by rw [hg20]; exact va_up_ne _ _ hz
          have e22 : g20 (198) = .inr (8, [.int (nI 0), .ref (ad 199), .int (nI ln), .ref (ad 200), .int (nI bk), .int (nI bt), .ref (ad 201), .int (nI ck), .int (nI ct), .ref (ad 202), .int (nI cn), .int (nI pk), .ref (ad 203), .ref (ad 204), .int (nI rw), .ref (ad 205), .ref (ad 206), .int (bI (gt)), .ref (ad 207)]) := by rw [hg20]; exact va_up_self _ _ _
          have e23 : g20 (199) = ba ca 800 (tp) := (hk21 _ (by omega)).trans q199
          have e24 : g20 (200) = ia ca 49 (tn) := (hk21 _ (by omega)).trans q200
          have e25 : g20 (201) = na ca 944 (fi IN) := (hk21 _ (by omega)).trans q201
          have e26 : g20 (202) = na ca 4425 (fl CG) := (hk21 _ (by omega)).trans q202
          have e27 : g20 (203) = na ca 9000 (fl M) := (hk21 _ (by omega)).trans q203
          have e28 : g20 (204) = na ca 120 (pv) := (hk21 _ (by omega)).trans q204
          have e29 : g20 (205) = na ca 75 (ro) := (hk21 _ (by omega)).trans q205
          have e30 : g20 (206) = na ca 255 (pm) := (hk21 _ (by omega)).trans q206
          have e31 : g20 (207) = na ca 16 (bb) := (hk21 _ (by omega)).trans q207
          have hs32 : ∀ z, (z < 198 ∨ 207 < z) → g20 z = g z := fun z hz => hk21 z (by omega)
          refine k_icn C 0 dX8_takeAll_41 (by decide) ?_
          refine lv_istore (lv' := [(4, .int (nI 0)), (0, .ref (ad 198)), (1, .int (nI x)), (2, .int (nI stp)), (3, .int (nI n))]) C.1 C.2.1 dX8_takeAll_42 hl (by decide) rfl (fun ls hl => ?_)
          refine lv_iload_n C.1 C.2.1 dX8_takeAll_44 rfl (lv_at hl 2 rfl) ?_
          refine lv_istore (lv' := [(5, .int (nI x)), (4, .int (nI 0)), (0, .ref (ad 198)), (1, .int (nI x)), (2, .int (nI stp)), (3, .int (nI n))]) C.1 C.2.1 dX8_takeAll_45 hl (by decide) rfl (fun ls hl => ?_)
          refine k_icn C 0 dX8_takeAll_47 (by decide) ?_
          refine lv_istore (lv' := [(6, .int (nI 0)), (5, .int (nI x)), (4, .int (nI 0)), (0, .ref (ad 198)), (1, .int (nI x)), (2, .int (nI stp)), (3, .int (nI n))]) C.1 C.2.1 dX8_takeAll_48 hl (by decide) rfl (fun ls hl => ?_)
          have hS33 : MSt ca ad g20 pm (nI (0)) ln th bk bt IN ck ct CG cn pk tp rw gt M pv ro tn bb := ⟨⟨e22, e23, e24, e25, e26, e27, e28, e29, e30, e31⟩, hmb, hbb, hCG, hIN, htn, hgt, hbd, hGr, hth⟩
          have hI0 := (show MInv ca ad g20 pm (nI 0) ln th bk bt IN ck ct CG cn pk from ⟨_, _, _, _, _, _, _, _, hS33⟩)
          have loop50 : ∀ (fuel : Nat) (i : Nat) (a : Nat) (gr : Nat) (CG1 : Nat → Nat → Nat) (cn1 : Nat) (pk1 : Nat) (gL : Nat → va_E) (H : Heap) (locs : List Loc) (ls : Array Slot), ((n - i) + 1 ≤ fuel) → (i ≤ n) → (a < 65536) → (gr ≤ i) → (∀ r9, MaR pm IN ck ct stp (n - i) a (gr, CG1, cn1, pk1) r9 → MaR pm IN ck ct stp n x (0, CG, cn, pk) r9) → (MInv ca ad gL pm (nI 0) ln th bk bt IN ck ct CG1 cn1 pk1) → (∀ z, (z < 198 ∨ 207 < z) → gL z = g z) → Wd D (AA R ad sz) s R ad gL H locs → lv_has ls 8 [(0, .ref (ad 198)), (1, .int (nI x)), (2, .int (nI stp)), (3, .int (nI n)), (4, .int (nI gr)), (5, .int (nI a)), (6, .int (nI i))] → W p l e rm_X8_takeAll s m args below meth c H locs 0 0 Q (F0 m 50 ls []) := by
            intro fuel
            induction fuel with
            | zero =>
              intro i a gr CG1 cn1 pk1 gL H locs ls hfu50
              exact absurd hfu50 (by omega)
            | succ fuel50 ih50 =>
              intro i a gr CG1 cn1 pk1 gL H locs ls hfu50 hi ha hgr hMa hIL hsL50  hw hl
              obtain ⟨tp34, rw34, gt34, M34, pv34, ro34, tn34, bb34, hS34⟩ := hIL
              obtain ⟨⟨q19834, q19934, q20034, q20134, q20234, q20334, q20434, q20534, q20634, q20734⟩, hmb34, hbb34, hCG34, hIN34, htn34, hgt34, hbd34, hGr34, hth34⟩ := hS34
              refine lv_iload C.1 C.2.1 dX8_takeAll_50 (lv_at hl 6 rfl) ?_
              refine lv_iload_n C.1 C.2.1 dX8_takeAll_52 rfl (lv_at hl 3 rfl) ?_
              refine k_ige (tgt := 101) C dX8_takeAll_53 (by decide) (by omega) (by omega) (fun hc53 => ?_) (fun hc53 => ?_)
              · refine lv_iload C.1 C.2.1 dX8_takeAll_101 (lv_at hl 4 rfl) ?_
                have hS35 : MSt ca ad gL pm (nI 0) ln th bk bt IN ck ct CG1 cn1 pk1 tp34 rw34 gt34 M34 pv34 ro34 tn34 bb34 := ⟨⟨q19834, q19934, q20034, q20134, q20234, q20334, q20434, q20534, q20634, q20734⟩, hmb34, hbb34, hCG34, hIN34, htn34, hgt34, hbd34, hGr34, hth34⟩
                exact hret H locs ls _ _ _ dX8_takeAll_103 hw (⟨hsL50, Or.inl ⟨hsm, x, n, gr, _, _, _, rfl, hx, rfl, hn1, rfl, hMa _ (by rw [show n - i = 0 by omega]; rfl), ⟨_, _, _, _, _, _, _, _, hS35⟩⟩⟩)
              · refine lv_aload_n C.1 C.2.1 dX8_takeAll_56 rfl (lv_at hl 0 rfl) ?_
                refine k_get C F hw (198) (by omega) q19834 rfl in_X8 0 (by decide) fl_X8_42 rfl dX8_takeAll_57 ?_
                refine k_zne (tgt := 101) C dX8_takeAll_60 (by decide) (by omega) (fun h => absurd h (by decide)) (fun _ => ?_)
                refine lv_aload_n C.1 C.2.1 dX8_takeAll_63 rfl (lv_at hl 0 rfl) ?_
                refine lv_iload C.1 C.2.1 dX8_takeAll_64 (lv_at hl 5 rfl) ?_
                have hS36 : MSt ca ad gL pm (nI 0) ln th bk bt IN ck ct CG1 cn1 pk1 tp34 rw34 gt34 M34 pv34 ro34 tn34 bb34 := ⟨⟨q19834, q19934, q20034, q20134, q20234, q20334, q20434, q20534, q20634, q20734⟩, hmb34, hbb34, hCG34, hIN34, htn34, hgt34, hbd34, hGr34, hth34⟩
                refine k_Vi C F hw (i := 198) (As := [.int (nI a)]) (rest := []) (c_X8_taken hR pm hpm hT _ _ _ _ _ _ _ _ _ _ _ (⟨_, _, _, _, _, _, _, _, hS36⟩) hck (by omega) (by omega) a ha) (by omega) q19834 rfl (cwV _ C.2.2.2.2 gm_X8_151 rfl rfl rfl cd_X8_taken ⟨by decide, by decide⟩) hl.1 rfl (Nat.le_of_ble_eq_true rfl) dX8_takeAll_66 ⟨by decide, by decide⟩ (fun r37 g38 H locs hp hw => ?_)
                obtain ⟨hs39, cn2, pk2, hcm, hI1⟩ := hp
                have hs40 : ∀ z, (z < 198 ∨ 207 < z) → g38 z = g z := fun z hz => (hs39 z hz).trans (hsL50 z hz)
                obtain ⟨tp41, rw41, gt41, M41, pv41, ro41, tn41, bb41, hS41⟩ := hI1
                obtain ⟨⟨q19841, q19941, q20041, q20141, q20241, q20341, q20441, q20541, q20641, q20741⟩, hmb41, hbb41, hCG41, hIN41, htn41, hgt41, hbd41, hGr41, hth41⟩ := hS41
                obtain ⟨r1, hr1⟩ : ∃ z, z = r37 := ⟨_, rfl⟩
                rw [← hr1] at hcm
                refine k_ti (x' := r1) (hr1.symm) ?_
                refine lv_istore (lv' := [(7, .int (r1)), (0, .ref (ad 198)), (1, .int (nI x)), (2, .int (nI stp)), (3, .int (nI n)), (4, .int (nI gr)), (5, .int (nI a)), (6, .int (nI i))]) C.1 C.2.1 dX8_takeAll_69 hl (by decide) rfl (fun ls hl => ?_)
                refine lv_iload C.1 C.2.1 dX8_takeAll_71 (lv_at hl 0 rfl) ?_
                refine lv_if_ge (tgt := 79) C.1 C.2.1 dX8_takeAll_73 (by decide) (fun hc73 => ?_) (fun hc73 => ?_)
                · refine lv_iload C.1 C.2.1 dX8_takeAll_79 (lv_at hl 5 rfl) ?_
                  refine lv_iload C.1 C.2.1 dX8_takeAll_81 (lv_at hl 0 rfl) ?_
                  refine lv_iadd C.1 C.2.1 dX8_takeAll_83 ?_
                  refine k_ti (x' := nI (gr + (if r1 = 1 then 1 else 0))) (cm_grow hcm hc73) ?_
                  refine lv_istore (lv' := [(4, .int (nI (gr + (if r1 = 1 then 1 else 0)))), (7, .int (r1)), (0, .ref (ad 198)), (1, .int (nI x)), (2, .int (nI stp)), (3, .int (nI n)), (5, .int (nI a)), (6, .int (nI i))]) C.1 C.2.1 dX8_takeAll_84 hl (by decide) rfl (fun ls hl => ?_)
                  refine lv_iload C.1 C.2.1 dX8_takeAll_86 (lv_at hl 6 rfl) ?_
                  refine lv_iload_n C.1 C.2.1 dX8_takeAll_88 rfl (lv_at hl 4 rfl) ?_
                  refine k_add C dX8_takeAll_89 ?_
                  refine k_ti (x' := nI ((a + stp) % 2 ^ 32)) (nI_m32 _) ?_
                  refine lv_ldc (v := 65535) C.1 C.2.1 C.2.2.2.1 (C.2.2.2.2 _ kc_X8_154) dX8_takeAll_90 ?_
                  refine k_ti (show (65535 : Int32) = nI 65535 from by decide) ?_
                  refine k_and C 16 dX8_takeAll_92 (by omega) (by decide) ?_
                  refine k_ti (x' := nI ((a + stp) % 2 ^ 16)) (congrArg nI (by omega)) ?_
                  refine lv_istore (lv' := [(5, .int (nI ((a + stp) % 2 ^ 16))), (4, .int (nI (gr + (if r1 = 1 then 1 else 0)))), (7, .int (r1)), (0, .ref (ad 198)), (1, .int (nI x)), (2, .int (nI stp)), (3, .int (nI n)), (6, .int (nI i))]) C.1 C.2.1 dX8_takeAll_93 hl (by decide) rfl (fun ls hl => ?_)
                  refine k_inc C (i + 1) (lv' := [(6, .int (nI (i + 1))), (5, .int (nI ((a + stp) % 2 ^ 16))), (4, .int (nI (gr + (if r1 = 1 then 1 else 0)))), (7, .int (r1)), (0, .ref (ad 198)), (1, .int (nI x)), (2, .int (nI stp)), (3, .int (nI n))]) dX8_takeAll_95 hl (k := 7) rfl (inc1 _) (by decide) rfl (fun ls hl => ?_)
                  refine lv_goto (tgt := 50) C.1 C.2.1 dX8_takeAll_98 (by decide) ?_
                  have hS42 : MSt ca ad g38 pm (nI 0) ln th bk bt IN ck ct (CgN pm ck ct CG1 cn1 a (smP pm IN ck a)) cn2 pk2 tp41 rw41 gt41 M41 pv41 ro41 tn41 bb41 := ⟨⟨q19841, q19941, q20041, q20141, q20241, q20341, q20441, q20541, q20641, q20741⟩, hmb41, hbb41, hCG41, hIN41, htn41, hgt41, hbd41, hGr41, hth41⟩
                  exact ih50 (i + 1) ((a + stp) % 2 ^ 16) (gr + (if r1 = 1 then 1 else 0)) (CgN pm ck ct CG1 cn1 a (smP pm IN ck a)) cn2 pk2 g38 H locs ls (by omega) (by omega) (Nat.mod_lt _ (by decide)) (by split <;> omega) (fun r9 h9 => hMa r9 (by rw [show n - i = (n - (i + 1)) + 1 by omega]; exact ⟨r1, cn2, pk2, hcm, Or.inr ⟨hc73, h9⟩⟩)) (⟨_, _, _, _, _, _, _, _, hS42⟩) hs40  hw (lv_sub hl [4, 5, 6, 7, 2, 1, 0] rfl)
                · refine lv_iload C.1 C.2.1 dX8_takeAll_76 (lv_at hl 5 rfl) ?_
                  have hS43 : MSt ca ad g38 pm (nI 0) ln th bk bt IN ck ct (CgN pm ck ct CG1 cn1 a (smP pm IN ck a)) cn2 pk2 tp41 rw41 gt41 M41 pv41 ro41 tn41 bb41 := ⟨⟨q19841, q19941, q20041, q20141, q20241, q20341, q20441, q20541, q20641, q20741⟩, hmb41, hbb41, hCG41, hIN41, htn41, hgt41, hbd41, hGr41, hth41⟩
                  exact hret H locs ls _ _ _ dX8_takeAll_78 hw (⟨hs40, Or.inl ⟨hsm, x, n, gr, _, _, _, rfl, hx, rfl, hn1, rfl, hMa _ (by rw [show n - i = (n - (i + 1)) + 1 by omega]; exact ⟨r1, cn2, pk2, hcm, Or.inl ⟨hc73, rfl⟩⟩), ⟨_, _, _, _, _, _, _, _, hS43⟩⟩⟩)
          exact loop50 _ 0 x 0 CG cn pk g20 H locs ls (Nat.le_refl _) (by omega) hx (by omega) (fun r9 h9 => h9) hI0 hs32  hw (lv_sub hl [3, 4, 5, 6, 2, 1, 0] rfl)
        · refine k_icn C 3 dX8_takeAll_33 (by decide) ?_
          refine lv_goto (tgt := 38) C.1 C.2.1 dX8_takeAll_34 (by decide) ?_
          refine k_put C F hw (198) (by omega) q198 rfl in_X8 tyX8_ok nmX8 0 (by decide) fl_X8_42 rfl (v := .int (nI 3)) rfl rfl (Nat.le_of_ble_eq_true rfl) dX8_takeAll_38 (fun H locs hw => ?_)
          have hw : Wd D (AA R ad sz) s R ad (va_up g (198) (.inr (8, [.int (nI 3), .ref (ad 199), .int (nI ln), .ref (ad 200), .int (nI bk), .int (nI bt), .ref (ad 201), .int (nI ck), .int (nI ct), .ref (ad 202), .int (nI cn), .int (nI pk), .ref (ad 203), .ref (ad 204), .int (nI rw), .ref (ad 205), .ref (ad 206), .int (bI (gt)), .ref (ad 207)]))) H locs := hw
          obtain ⟨g44, hg44⟩ : ∃ z, z = va_up g (198) (.inr (8, [.int (nI 3), .ref (ad 199), .int (nI ln), .ref (ad 200), .int (nI bk), .int (nI bt), .ref (ad 201), .int (nI ck), .int (nI ct), .ref (ad 202), .int (nI cn), .int (nI pk), .ref (ad 203), .ref (ad 204), .int (nI rw), .ref (ad 205), .ref (ad 206), .int (bI (gt)), .ref (ad 207)])) := ⟨_, rfl⟩
          rw [← hg44] at hw
          have hk45 : ∀ z, z ≠ 198 → g44 z = g z := fun z hz => by rw [hg44]; exact va_up_ne _ _ hz
          have e46 : g44 (198) = .inr (8, [.int (nI 3), .ref (ad 199), .int (nI ln), .ref (ad 200), .int (nI bk), .int (nI bt), .ref (ad 201), .int (nI ck), .int (nI ct), .ref (ad 202), .int (nI cn), .int (nI pk), .ref (ad 203), .ref (ad 204), .int (nI rw), .ref (ad 205), .ref (ad 206), .int (bI (gt)), .ref (ad 207)]) := by rw [hg44]; exact va_up_self _ _ _
          have e47 : g44 (199) = ba ca 800 (tp) := (hk45 _ (by omega)).trans q199
          have e48 : g44 (200) = ia ca 49 (tn) := (hk45 _ (by omega)).trans q200
          have e49 : g44 (201) = na ca 944 (fi IN) := (hk45 _ (by omega)).trans q201
          have e50 : g44 (202) = na ca 4425 (fl CG) := (hk45 _ (by omega)).trans q202
          have e51 : g44 (203) = na ca 9000 (fl M) := (hk45 _ (by omega)).trans q203
          have e52 : g44 (204) = na ca 120 (pv) := (hk45 _ (by omega)).trans q204
          have e53 : g44 (205) = na ca 75 (ro) := (hk45 _ (by omega)).trans q205
          have e54 : g44 (206) = na ca 255 (pm) := (hk45 _ (by omega)).trans q206
          have e55 : g44 (207) = na ca 16 (bb) := (hk45 _ (by omega)).trans q207
          have hs56 : ∀ z, (z < 198 ∨ 207 < z) → g44 z = g z := fun z hz => hk45 z (by omega)
          refine k_icn C 0 dX8_takeAll_41 (by decide) ?_
          refine lv_istore (lv' := [(4, .int (nI 0)), (0, .ref (ad 198)), (1, .int (xx)), (2, .int (nI stp)), (3, .int (nx))]) C.1 C.2.1 dX8_takeAll_42 hl (by decide) rfl (fun ls hl => ?_)
          refine lv_iload_n C.1 C.2.1 dX8_takeAll_44 rfl (lv_at hl 2 rfl) ?_
          refine lv_istore (lv' := [(5, .int (xx)), (4, .int (nI 0)), (0, .ref (ad 198)), (1, .int (xx)), (2, .int (nI stp)), (3, .int (nx))]) C.1 C.2.1 dX8_takeAll_45 hl (by decide) rfl (fun ls hl => ?_)
          refine k_icn C 0 dX8_takeAll_47 (by decide) ?_
          refine lv_istore (lv' := [(6, .int (nI 0)), (5, .int (xx)), (4, .int (nI 0)), (0, .ref (ad 198)), (1, .int (xx)), (2, .int (nI stp)), (3, .int (nx))]) C.1 C.2.1 dX8_takeAll_48 hl (by decide) rfl (fun ls hl => ?_)
          refine lv_iload C.1 C.2.1 dX8_takeAll_50 (lv_at hl 0 rfl) ?_
          refine lv_iload_n C.1 C.2.1 dX8_takeAll_52 rfl (lv_at hl 6 rfl) ?_
          refine lv_icmp_ge (tgt := 101) C.1 C.2.1 dX8_takeAll_53 (by decide) (fun hc53 => ?_) (fun hc53 => ?_)
          · refine lv_iload C.1 C.2.1 dX8_takeAll_101 (lv_at hl 2 rfl) ?_
            have hS57 : MSt ca ad g44 pm (nI (3)) ln th bk bt IN ck ct CG cn pk tp rw gt M pv ro tn bb := ⟨⟨e46, e47, e48, e49, e50, e51, e52, e53, e54, e55⟩, hmb, hbb, hCG, hIN, htn, hgt, hbd, hGr, hth⟩
            exact hret H locs ls _ _ _ dX8_takeAll_103 hw (⟨hs56, Or.inr (Or.inr (Or.inr ⟨hsm, of_decide_eq_true hc16, fun ⟨n, h1, h2⟩ => by first | exact absurd hc24 (by rw [h1]; exact nI_pos (by omega)) | exact hc30 (by rw [h1]; exact nI_le (b := 100) h2 (by decide)), ⟨_, _, _, _, _, _, _, _, hS57⟩⟩))⟩)
          · refine lv_aload_n C.1 C.2.1 dX8_takeAll_56 rfl (lv_at hl 3 rfl) ?_
            refine k_get C F hw (198) (by omega) e46 rfl in_X8 0 (by decide) fl_X8_42 rfl dX8_takeAll_57 ?_
            refine k_zne (tgt := 101) C dX8_takeAll_60 (by decide) (by omega) (fun _ => ?_) (fun h => absurd h (by decide))
            refine lv_iload C.1 C.2.1 dX8_takeAll_101 (lv_at hl 2 rfl) ?_
            have hS58 : MSt ca ad g44 pm (nI (3)) ln th bk bt IN ck ct CG cn pk tp rw gt M pv ro tn bb := ⟨⟨e46, e47, e48, e49, e50, e51, e52, e53, e54, e55⟩, hmb, hbb, hCG, hIN, htn, hgt, hbd, hGr, hth⟩
            exact hret H locs ls _ _ _ dX8_takeAll_103 hw (⟨hs56, Or.inr (Or.inr (Or.inr ⟨hsm, of_decide_eq_true hc16, fun ⟨n, h1, h2⟩ => by first | exact absurd hc24 (by rw [h1]; exact nI_pos (by omega)) | exact hc30 (by rw [h1]; exact nI_le (b := 100) h2 (by decide)), ⟨_, _, _, _, _, _, _, _, hS58⟩⟩))⟩)
    · refine k_icn C 2 dX8_takeAll_19 (by decide) ?_
      refine lv_goto (tgt := 38) C.1 C.2.1 dX8_takeAll_20 (by decide) ?_
      refine k_put C F hw (198) (by omega) q198 rfl in_X8 tyX8_ok nmX8 0 (by decide) fl_X8_42 rfl (v := .int (nI 2)) rfl rfl (Nat.le_of_ble_eq_true rfl) dX8_takeAll_38 (fun H locs hw => ?_)
      have hw : Wd D (AA R ad sz) s R ad (va_up g (198) (.inr (8, [.int (nI 2), .ref (ad 199), .int (nI ln), .ref (ad 200), .int (nI bk), .int (nI bt), .ref (ad 201), .int (nI ck), .int (nI ct), .ref (ad 202), .int (nI cn), .int (nI pk), .ref (ad 203), .ref (ad 204), .int (nI rw), .ref (ad 205), .ref (ad 206), .int (bI (gt)), .ref (ad 207)]))) H locs := hw
      obtain ⟨g59, hg59⟩ : ∃ z, z = va_up g (198) (.inr (8, [.int (nI 2), .ref (ad 199), .int (nI ln), .ref (ad 200), .int (nI bk), .int (nI bt), .ref (ad 201), .int (nI ck), .int (nI ct), .ref (ad 202), .int (nI cn), .int (nI pk), .ref (ad 203), .ref (ad 204), .int (nI rw), .ref (ad 205), .ref (ad 206), .int (bI (gt)), .ref (ad 207)])) := ⟨_, rfl⟩
      rw [← hg59] at hw
      have hk60 : ∀ z, z ≠ 198 → g59 z = g z := fun z hz => by rw [hg59]; exact va_up_ne _ _ hz
      have e61 : g59 (198) = .inr (8, [.int (nI 2), .ref (ad 199), .int (nI ln), .ref (ad 200), .int (nI bk), .int (nI bt), .ref (ad 201), .int (nI ck), .int (nI ct), .ref (ad 202), .int (nI cn), .int (nI pk), .ref (ad 203), .ref (ad 204), .int (nI rw), .ref (ad 205), .ref (ad 206), .int (bI (gt)), .ref (ad 207)]) := by rw [hg59]; exact va_up_self _ _ _
      have e62 : g59 (199) = ba ca 800 (tp) := (hk60 _ (by omega)).trans q199
      have e63 : g59 (200) = ia ca 49 (tn) := (hk60 _ (by omega)).trans q200
      have e64 : g59 (201) = na ca 944 (fi IN) := (hk60 _ (by omega)).trans q201
      have e65 : g59 (202) = na ca 4425 (fl CG) := (hk60 _ (by omega)).trans q202
      have e66 : g59 (203) = na ca 9000 (fl M) := (hk60 _ (by omega)).trans q203
      have e67 : g59 (204) = na ca 120 (pv) := (hk60 _ (by omega)).trans q204
      have e68 : g59 (205) = na ca 75 (ro) := (hk60 _ (by omega)).trans q205
      have e69 : g59 (206) = na ca 255 (pm) := (hk60 _ (by omega)).trans q206
      have e70 : g59 (207) = na ca 16 (bb) := (hk60 _ (by omega)).trans q207
      have hs71 : ∀ z, (z < 198 ∨ 207 < z) → g59 z = g z := fun z hz => hk60 z (by omega)
      refine k_icn C 0 dX8_takeAll_41 (by decide) ?_
      refine lv_istore (lv' := [(4, .int (nI 0)), (0, .ref (ad 198)), (1, .int (xx)), (2, .int (nI stp)), (3, .int (nx))]) C.1 C.2.1 dX8_takeAll_42 hl (by decide) rfl (fun ls hl => ?_)
      refine lv_iload_n C.1 C.2.1 dX8_takeAll_44 rfl (lv_at hl 2 rfl) ?_
      refine lv_istore (lv' := [(5, .int (xx)), (4, .int (nI 0)), (0, .ref (ad 198)), (1, .int (xx)), (2, .int (nI stp)), (3, .int (nx))]) C.1 C.2.1 dX8_takeAll_45 hl (by decide) rfl (fun ls hl => ?_)
      refine k_icn C 0 dX8_takeAll_47 (by decide) ?_
      refine lv_istore (lv' := [(6, .int (nI 0)), (5, .int (xx)), (4, .int (nI 0)), (0, .ref (ad 198)), (1, .int (xx)), (2, .int (nI stp)), (3, .int (nx))]) C.1 C.2.1 dX8_takeAll_48 hl (by decide) rfl (fun ls hl => ?_)
      refine lv_iload C.1 C.2.1 dX8_takeAll_50 (lv_at hl 0 rfl) ?_
      refine lv_iload_n C.1 C.2.1 dX8_takeAll_52 rfl (lv_at hl 6 rfl) ?_
      refine lv_icmp_ge (tgt := 101) C.1 C.2.1 dX8_takeAll_53 (by decide) (fun hc53 => ?_) (fun hc53 => ?_)
      · refine lv_iload C.1 C.2.1 dX8_takeAll_101 (lv_at hl 2 rfl) ?_
        have hS72 : MSt ca ad g59 pm (nI (2)) ln th bk bt IN ck ct CG cn pk tp rw gt M pv ro tn bb := ⟨⟨e61, e62, e63, e64, e65, e66, e67, e68, e69, e70⟩, hmb, hbb, hCG, hIN, htn, hgt, hbd, hGr, hth⟩
        exact hret H locs ls _ _ _ dX8_takeAll_103 hw (⟨hs71, Or.inr (Or.inr (Or.inl ⟨hsm, of_decide_eq_false hc16, ⟨_, _, _, _, _, _, _, _, hS72⟩⟩))⟩)
      · refine lv_aload_n C.1 C.2.1 dX8_takeAll_56 rfl (lv_at hl 3 rfl) ?_
        refine k_get C F hw (198) (by omega) e61 rfl in_X8 0 (by decide) fl_X8_42 rfl dX8_takeAll_57 ?_
        refine k_zne (tgt := 101) C dX8_takeAll_60 (by decide) (by omega) (fun _ => ?_) (fun h => absurd h (by decide))
        refine lv_iload C.1 C.2.1 dX8_takeAll_101 (lv_at hl 2 rfl) ?_
        have hS73 : MSt ca ad g59 pm (nI (2)) ln th bk bt IN ck ct CG cn pk tp rw gt M pv ro tn bb := ⟨⟨e61, e62, e63, e64, e65, e66, e67, e68, e69, e70⟩, hmb, hbb, hCG, hIN, htn, hgt, hbd, hGr, hth⟩
        exact hret H locs ls _ _ _ dX8_takeAll_103 hw (⟨hs71, Or.inr (Or.inr (Or.inl ⟨hsm, of_decide_eq_false hc16, ⟨_, _, _, _, _, _, _, _, hS73⟩⟩))⟩)
  · refine k_icn C 1 dX8_takeAll_8 (by decide) ?_
    refine lv_goto (tgt := 38) C.1 C.2.1 dX8_takeAll_9 (by decide) ?_
    refine k_put C F hw (198) (by omega) q198 rfl in_X8 tyX8_ok nmX8 0 (by decide) fl_X8_42 rfl (v := .int (nI 1)) rfl rfl (Nat.le_of_ble_eq_true rfl) dX8_takeAll_38 (fun H locs hw => ?_)
    have hw : Wd D (AA R ad sz) s R ad (va_up g (198) (.inr (8, [.int (nI 1), .ref (ad 199), .int (nI ln), .ref (ad 200), .int (nI bk), .int (nI bt), .ref (ad 201), .int (nI ck), .int (nI ct), .ref (ad 202), .int (nI cn), .int (nI pk), .ref (ad 203), .ref (ad 204), .int (nI rw), .ref (ad 205), .ref (ad 206), .int (bI (gt)), .ref (ad 207)]))) H locs := hw
    obtain ⟨g74, hg74⟩ : ∃ z, z = va_up g (198) (.inr (8, [.int (nI 1), .ref (ad 199), .int (nI ln), .ref (ad 200), .int (nI bk), .int (nI bt), .ref (ad 201), .int (nI ck), .int (nI ct), .ref (ad 202), .int (nI cn), .int (nI pk), .ref (ad 203), .ref (ad 204), .int (nI rw), .ref (ad 205), .ref (ad 206), .int (bI (gt)), .ref (ad 207)])) := ⟨_, rfl⟩
    rw [← hg74] at hw
    have hk75 : ∀ z, z ≠ 198 → g74 z = g z := fun z hz => by rw [hg74]; exact va_up_ne _ _ hz
    have e76 : g74 (198) = .inr (8, [.int (nI 1), .ref (ad 199), .int (nI ln), .ref (ad 200), .int (nI bk), .int (nI bt), .ref (ad 201), .int (nI ck), .int (nI ct), .ref (ad 202), .int (nI cn), .int (nI pk), .ref (ad 203), .ref (ad 204), .int (nI rw), .ref (ad 205), .ref (ad 206), .int (bI (gt)), .ref (ad 207)]) := by rw [hg74]; exact va_up_self _ _ _
    have e77 : g74 (199) = ba ca 800 (tp) := (hk75 _ (by omega)).trans q199
    have e78 : g74 (200) = ia ca 49 (tn) := (hk75 _ (by omega)).trans q200
    have e79 : g74 (201) = na ca 944 (fi IN) := (hk75 _ (by omega)).trans q201
    have e80 : g74 (202) = na ca 4425 (fl CG) := (hk75 _ (by omega)).trans q202
    have e81 : g74 (203) = na ca 9000 (fl M) := (hk75 _ (by omega)).trans q203
    have e82 : g74 (204) = na ca 120 (pv) := (hk75 _ (by omega)).trans q204
    have e83 : g74 (205) = na ca 75 (ro) := (hk75 _ (by omega)).trans q205
    have e84 : g74 (206) = na ca 255 (pm) := (hk75 _ (by omega)).trans q206
    have e85 : g74 (207) = na ca 16 (bb) := (hk75 _ (by omega)).trans q207
    have hs86 : ∀ z, (z < 198 ∨ 207 < z) → g74 z = g z := fun z hz => hk75 z (by omega)
    refine k_icn C 0 dX8_takeAll_41 (by decide) ?_
    refine lv_istore (lv' := [(4, .int (nI 0)), (0, .ref (ad 198)), (1, .int (xx)), (2, .int (nI stp)), (3, .int (nx))]) C.1 C.2.1 dX8_takeAll_42 hl (by decide) rfl (fun ls hl => ?_)
    refine lv_iload_n C.1 C.2.1 dX8_takeAll_44 rfl (lv_at hl 2 rfl) ?_
    refine lv_istore (lv' := [(5, .int (xx)), (4, .int (nI 0)), (0, .ref (ad 198)), (1, .int (xx)), (2, .int (nI stp)), (3, .int (nx))]) C.1 C.2.1 dX8_takeAll_45 hl (by decide) rfl (fun ls hl => ?_)
    refine k_icn C 0 dX8_takeAll_47 (by decide) ?_
    refine lv_istore (lv' := [(6, .int (nI 0)), (5, .int (xx)), (4, .int (nI 0)), (0, .ref (ad 198)), (1, .int (xx)), (2, .int (nI stp)), (3, .int (nx))]) C.1 C.2.1 dX8_takeAll_48 hl (by decide) rfl (fun ls hl => ?_)
    refine lv_iload C.1 C.2.1 dX8_takeAll_50 (lv_at hl 0 rfl) ?_
    refine lv_iload_n C.1 C.2.1 dX8_takeAll_52 rfl (lv_at hl 6 rfl) ?_
    refine lv_icmp_ge (tgt := 101) C.1 C.2.1 dX8_takeAll_53 (by decide) (fun hc53 => ?_) (fun hc53 => ?_)
    · refine lv_iload C.1 C.2.1 dX8_takeAll_101 (lv_at hl 2 rfl) ?_
      have hS87 : MSt ca ad g74 pm (nI (1)) ln th bk bt IN ck ct CG cn pk tp rw gt M pv ro tn bb := ⟨⟨e76, e77, e78, e79, e80, e81, e82, e83, e84, e85⟩, hmb, hbb, hCG, hIN, htn, hgt, hbd, hGr, hth⟩
      exact hret H locs ls _ _ _ dX8_takeAll_103 hw (⟨hs86, Or.inr (Or.inl ⟨of_decide_eq_false hc5, ⟨_, _, _, _, _, _, _, _, hS87⟩⟩)⟩)
    · refine lv_aload_n C.1 C.2.1 dX8_takeAll_56 rfl (lv_at hl 3 rfl) ?_
      refine k_get C F hw (198) (by omega) e76 rfl in_X8 0 (by decide) fl_X8_42 rfl dX8_takeAll_57 ?_
      refine k_zne (tgt := 101) C dX8_takeAll_60 (by decide) (by omega) (fun _ => ?_) (fun h => absurd h (by decide))
      refine lv_iload C.1 C.2.1 dX8_takeAll_101 (lv_at hl 2 rfl) ?_
      have hS88 : MSt ca ad g74 pm (nI (1)) ln th bk bt IN ck ct CG cn pk tp rw gt M pv ro tn bb := ⟨⟨e76, e77, e78, e79, e80, e81, e82, e83, e84, e85⟩, hmb, hbb, hCG, hIN, htn, hgt, hbd, hGr, hth⟩
      exact hret H locs ls _ _ _ dX8_takeAll_103 hw (⟨hs86, Or.inr (Or.inl ⟨of_decide_eq_false hc5, ⟨_, _, _, _, _, _, _, _, hS88⟩⟩)⟩)
