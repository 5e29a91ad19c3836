/-! ===== FountainDeskModel: taken, isKnown, first public methods ===== -/
theorem vlV_congr {Rw bb bb' : Nat → Nat} {T : Nat} (h : ∀ i, i < T → bb i = bb' i) : vlV Rw bb T = vlV Rw bb' T := by
  funext c
  unfold vlV
  split
  · exact h _ (by omega)
  · rfl
theorem lnM_congr {pm : Nat → Nat} {ck ct x : Nat} {bb bb' : Nat → Nat} (h : ∀ i, i < ct → bb i = bb' i) : lnM pm ck ct x bb = lnM pm ck ct x bb' := vlV_congr h
theorem CgN_congr {pm : Nat → Nat} {ck ct : Nat} {CG : Nat → Nat → Nat} {cn x : Nat} {bb bb' : Nat → Nat} (h : ∀ i, i < ct → bb i = bb' i) : CgN pm ck ct CG cn x bb = CgN pm ck ct CG cn x bb' := by unfold CgN; rw [lnM_congr h]
theorem CmR_congr {pm : Nat → Nat} {ck ct : Nat} {CG : Nat → Nat → Nat} {cn pk x : Nat} {bb bb' : Nat → Nat} {r : Int32} {cn1 pk1 : Nat} (h : ∀ i, i < ct → bb i = bb' i) (hc : CmR pm ck ct CG cn pk x bb r cn1 pk1) : CmR pm ck ct CG cn pk x bb' r cn1 pk1 := by unfold CmR at hc ⊢; rw [← CgN_congr h]; exact hc
/-- a packet's bytes by the inner rows -/
noncomputable def smP (pm : Nat → Nat) (IN : Nat → Nat → Nat) (k x : Nat) : Nat → Nat := fun i => smN IN (pkR k x (tnN (fbG pm k))) i (k + 11)
theorem by_smP {pm : Nat → Nat} {IN : Nat → Nat → Nat} {k x : Nat} (h : ∀ p, By (IN p)) : By (smP pm IN k x) := fun i => smN_lt h _

abbrev rm_X8_taken : Room := { frames := 7, cells := 0, slots := 0, locals := 163 }

set_option maxHeartbeats 800000 in
set_option maxRecDepth 100000 in
/-- taken -/
theorem c_X8_taken {l : Launch} {D : va_G} {ca : Nat → ClassId} {tB tS R : Nat} {ad : Nat → Nat} {g : Nat → va_E} {sz : Nat} (hR : 207 < R) (pm : Nat → Nat) (hpm : PmOk pm) (hT : ∀ k, 1 ≤ k → k ≤ 48 → tnN (fbG pm k) < 1000) (cd : Int32) (ln : Nat) (th : Nat → Nat) (bk bt : Nat) (IN : Nat → Nat → Nat) (ck ct : Nat) (CG : Nat → Nat → Nat) (cn pk : Nat) (hI : MInv ca ad g pm cd ln th bk bt IN ck ct CG cn pk) (hck : 1 ≤ ck ∧ ck ≤ 48) (hbk : bk = ck) (hbt : bt = ct) (x : Nat) (hx : x < 65536) : MI l yX8_taken cX8_taken 3 .int rm_X8_taken D ca tB tS R ad g sz [.ref (ad 198), .int (nI x)] (fun r g1 => (∀ z, z < 198 ∨ 207 < z → g1 z = g z) ∧ ∃ cn1 pk1, CmR pm ck ct CG cn pk x (smP pm IN ck x) r cn1 pk1 ∧ MInv ca ad g1 pm cd ln th bk bt IN ck ct (CgN pm ck ct CG cn x (smP pm IN ck x)) cn1 pk1) := by
  refine m_startI (by decide +kernel) (Nat.le_of_ble_eq_true rfl) (fun p e s m args below meth c ls Q hsz C hl F hw hret => ?_)
  have hl : lv_has ls 3 [(0, .ref (ad 198)), (1, .int (nI x))] := hl
  generalize s.heap = H at hw ⊢
  generalize ([] : List Loc) = locs at hw ⊢
  obtain ⟨tp, rw, gt, M, pv, ro, tn, bb, hS⟩ := hI
  obtain ⟨⟨q198, q199, q200, q201, q202, q203, q204, q205, q206, q207⟩, hmb, hbb, hCG, hIN, htn, hgt, hbd, hGr, hth⟩ := hS
  have hbd2 := hbd.2.2
  have hT1 := hT ck hck.1 hck.2
  have hkb : 1 ≤ bk ∧ bk ≤ 48 := by omega
  refine lv_aload_n C.1 C.2.1 dX8_taken_0 rfl (lv_at hl 0 rfl) ?_
  refine lv_aload_n C.1 C.2.1 dX8_taken_1 rfl (lv_at hl 0 rfl) ?_
  refine k_get C F hw (198) (by omega) q198 rfl in_X8 4 (by decide) fl_X8_116 rfl dX8_taken_2 ?_
  refine lv_aload_n C.1 C.2.1 dX8_taken_5 rfl (lv_at hl 0 rfl) ?_
  refine lv_aload_n C.1 C.2.1 dX8_taken_6 rfl (lv_at hl 0 rfl) ?_
  refine k_get C F hw (198) (by omega) q198 rfl in_X8 4 (by decide) fl_X8_116 rfl dX8_taken_7 ?_
  refine k_Vi C F hw (i := 198) (As := [.int (nI bk)]) (rest := [.int (nI bk), .ref (ad 198)]) (c_X8_turnOf hR cd ln bk bt ck ct cn pk rw gt q198 ro q205 pm q206 M pv q203 q204 hmb.1 hmb.2.1 hmb.2.2 hpm (fbG pm) (fun k t u _ h2 _ hu => fb_model hpm h2 hu) hT tn q200 bk hkb (htn.1 bk hkb.1 hkb.2)) (by omega) q198 rfl (cwV _ C.2.2.2.2 gm_X8_110 rfl rfl rfl cd_X8_turnOf ⟨by decide, by decide⟩) hl.1 rfl (Nat.le_of_ble_eq_true rfl) dX8_taken_10 ⟨by decide, by decide⟩ (fun r1 g2 H locs hp hw => ?_)
  obtain ⟨hr9, hs4, u3, gt3, tn3, hmb3, e983, e033, e043, e053, e003, htk3, hto3, hgo3⟩ := hp
  subst hr9
  have e5 : g2 (199) = ba ca 800 (tp) := (hs4 _ (by omega)).trans q199
  have e6 : g2 (201) = na ca 944 (fi IN) := (hs4 _ (by omega)).trans q201
  have e7 : g2 (202) = na ca 4425 (fl CG) := (hs4 _ (by omega)).trans q202
  have e8 : g2 (206) = na ca 255 (pm) := (hs4 _ (by omega)).trans q206
  have e9 : g2 (207) = na ca 16 (bb) := (hs4 _ (by omega)).trans q207
  have hs10 : ∀ z, (z < 198 ∨ 207 < z) → g2 z = g z := fun z hz => hs4 z (by omega)
  have htn3 : TnOk pm tn3 ck := ⟨fun k9 h1 h2 => by by_cases h9 : k9 = bk; (rw [h9]; exact Or.inr htk3); (rw [hto3 k9 h9]; exact htn.1 k9 h1 h2), fun h1 => by by_cases h9 : ck = bk; (rw [h9]; exact htk3); (rw [hto3 _ h9]; exact htn.2 h1)⟩
  have hgt3 : gt3 = true → ck ≠ 0 ∧ KmOK (ck + 11) (VV pm ck CG) (11 + cn) u3 := fun h => by
    rcases hgo3 with h9 | ⟨h9, h10, h11, h12⟩
    · rw [h9] at h; cases h
    · rw [h] at h9; have h13 := hgt h9.symm; refine ⟨h13.1, ?_⟩; unfold KmOK; rw [h10, h11, h12]; exact h13.2
  refine k_ti (x' := nI (tnN (fbG pm bk))) (rfl) ?_
  refine lv_iload_n C.1 C.2.1 dX8_taken_13 rfl (lv_at hl 1 rfl) ?_
  refine k_Vi C F hw (i := 198) (As := [.int (nI bk), .int (nI (tnN (fbG pm bk))), .int (nI x)]) (rest := []) (c_X8_packet hR cd ln bk bt ck ct cn pk u3.1 gt3 e983 u3.2.2.2 e053 bk x (tnN (fbG pm bk)) hkb hx (by rw [hbk]; omega)) (by omega) e983 rfl (cwV _ C.2.2.2.2 gm_X8_99 rfl rfl rfl cd_X8_packet ⟨by decide, by decide⟩) hl.1 rfl (Nat.le_of_ble_eq_true rfl) dX8_taken_14 ⟨by decide, by decide⟩ (fun r11 g12 H locs hp hw => ?_)
  obtain ⟨hr9, hp⟩ := hp
  subst hr9
  obtain ⟨hk13, e14⟩ := hp
  have e15 : g12 (199) = ba ca 800 (tp) := (hk13 _ (by omega)).trans e5
  have e16 : g12 (201) = na ca 944 (fi IN) := (hk13 _ (by omega)).trans e6
  have e17 : g12 (202) = na ca 4425 (fl CG) := (hk13 _ (by omega)).trans e7
  have e18 : g12 (206) = na ca 255 (pm) := (hk13 _ (by omega)).trans e8
  have e19 : g12 (207) = na ca 16 (bb) := (hk13 _ (by omega)).trans e9
  have e20 : g12 (198) = .inr (8, [.int (cd), .ref (ad 199), .int (nI ln), .ref (ad 200), .int (nI bk), .int (nI bt), .ref (ad 201), .int (nI ck), .int (nI ct), .ref (ad 202), .int (nI cn), .int (nI pk), .ref (ad 203), .ref (ad 204), .int (nI (u3.1)), .ref (ad 205), .ref (ad 206), .int (bI (gt3)), .ref (ad 207)]) := (hk13 _ (by omega)).trans e983
  have e21 : g12 (203) = na ca 9000 (fl u3.2.1) := (hk13 _ (by omega)).trans e033
  have e22 : g12 (204) = na ca 120 (u3.2.2.1) := (hk13 _ (by omega)).trans e043
  have e23 : g12 (200) = ia ca 49 (tn3) := (hk13 _ (by omega)).trans e003
  have hs24 : ∀ z, (z < 198 ∨ 207 < z) → g12 z = g z := fun z hz => (hk13 z (by omega)).trans (hs10 z hz)
  refine lv_pop C.1 C.2.1 dX8_taken_17 rfl ?_
  refine k_icn C 0 dX8_taken_18 (by decide) ?_
  refine lv_istore_n (lv' := [(2, .int (nI 0)), (0, .ref (ad 198)), (1, .int (nI x))]) C.1 C.2.1 dX8_taken_19 rfl hl (by decide) rfl (fun ls hl => ?_)
  have loop20 : ∀ (fuel : Nat) (i : Nat) (b1 : Nat → Nat) (gL : Nat → va_E) (H : Heap) (locs : List Loc) (ls : Array Slot), ((bt - i) + 1 ≤ fuel) → (i ≤ bt) → (b1 = prt i (smP pm IN bk x) bb) → (∀ z, (z < 198 ∨ 207 < z) → gL z = g z) → (gL (198) = .inr (8, [.int (cd), .ref (ad 199), .int (nI ln), .ref (ad 200), .int (nI bk), .int (nI bt), .ref (ad 201), .int (nI ck), .int (nI ct), .ref (ad 202), .int (nI cn), .int (nI pk), .ref (ad 203), .ref (ad 204), .int (nI (u3.1)), .ref (ad 205), .ref (ad 206), .int (bI (gt3)), .ref (ad 207)])) → (gL (199) = ba ca 800 (tp)) → (gL (200) = ia ca 49 (tn3)) → (gL (201) = na ca 944 (fi IN)) → (gL (202) = na ca 4425 (fl CG)) → (gL (203) = na ca 9000 (fl u3.2.1)) → (gL (204) = na ca 120 (u3.2.2.1)) → (gL (205) = na ca 75 (onRow (pkR bk x (tnN (fbG pm bk))) u3.2.2.2)) → (gL (206) = na ca 255 (pm)) → (gL (207) = na ca 16 (b1)) → Wd D (AA R ad sz) s R ad gL H locs → lv_has ls 3 [(0, .ref (ad 198)), (1, .int (nI x)), (2, .int (nI i))] → W p l e rm_X8_taken s m args below meth c H locs 0 0 Q (F0 m 20 ls []) := by
    intro fuel
    induction fuel with
    | zero =>
      intro i b1 gL H locs ls hfu20
      exact absurd hfu20 (by omega)
    | succ fuel20 ih20 =>
      intro i b1 gL H locs ls hfu20 hi hb1 hsL20 eL20_0 eL20_1 eL20_2 eL20_3 eL20_4 eL20_5 eL20_6 eL20_7 eL20_8 eL20_9 hw hl
      refine lv_iload_n C.1 C.2.1 dX8_taken_20 rfl (lv_at hl 2 rfl) ?_
      refine lv_aload_n C.1 C.2.1 dX8_taken_21 rfl (lv_at hl 0 rfl) ?_
      refine k_get C F hw (198) (by omega) eL20_0 rfl in_X8 5 (by decide) fl_X8_119 rfl dX8_taken_22 ?_
      refine k_ige (tgt := 45) C dX8_taken_25 (by decide) (by omega) (by omega) (fun hc25 => ?_) (fun hc25 => ?_)
      · refine lv_aload_n C.1 C.2.1 dX8_taken_45 rfl (lv_at hl 0 rfl) ?_
        refine lv_iload_n C.1 C.2.1 dX8_taken_46 rfl (lv_at hl 1 rfl) ?_
        have hS25 : MSt ca ad gL pm cd ln th bk bt IN ck ct CG cn pk tp u3.1 gt3 u3.2.1 u3.2.2.1 (onRow (pkR bk x (tnN (fbG pm bk))) u3.2.2.2) tn3 b1 := ⟨⟨eL20_0, eL20_1, eL20_2, eL20_3, eL20_4, eL20_5, eL20_6, eL20_7, eL20_8, eL20_9⟩, ⟨hmb3.1, by_prt (fun c _ => by_pkR _ _ _ c) hmb3.2.1, hmb3.2.2⟩, (by rw [hb1]; exact by_prt (fun c _ => by_smP hIN c) hbb), hCG, hIN, htn3, hgt3, hbd, hGr, hth⟩
        refine k_Vi C F hw (i := 198) (As := [.int (nI x)]) (rest := []) (c_X8_comes hR pm hpm hT _ _ _ _ _ _ _ _ _ _ _ _ _ _ _ _ _ _ _ hS25 hck x hx) (by omega) eL20_0 rfl (cwV _ C.2.2.2.2 gm_X8_144 rfl rfl rfl cd_X8_comes ⟨by decide, by decide⟩) hl.1 rfl (Nat.le_of_ble_eq_true rfl) dX8_taken_47 ⟨by decide, by decide⟩ (fun r26 g27 H locs hp hw => ?_)
        obtain ⟨hs28, cn1, pk1, hcm, hI1⟩ := hp
        have hs29 : ∀ z, (z < 198 ∨ 207 < z) → g27 z = g z := fun z hz => (hs28 z hz).trans (hsL20 z hz)
        have hbc : ∀ i, i < ct → b1 i = smP pm IN ck x i := fun j hj => by rw [hb1]; unfold prt; rw [if_pos (by omega), hbk]
        exact hret H locs ls _ _ _ dX8_taken_50 hw (⟨hs29, cn1, pk1, CmR_congr hbc hcm, by rw [← CgN_congr hbc]; exact hI1⟩)
      · refine lv_aload_n C.1 C.2.1 dX8_taken_28 rfl (lv_at hl 0 rfl) ?_
        refine k_get C F hw (198) (by omega) eL20_0 rfl in_X8 18 (by decide) fl_X8_35 rfl dX8_taken_29 ?_
        refine lv_iload_n C.1 C.2.1 dX8_taken_32 rfl (lv_at hl 2 rfl) ?_
        refine lv_aload_n C.1 C.2.1 dX8_taken_33 rfl (lv_at hl 0 rfl) ?_
        refine lv_iload_n C.1 C.2.1 dX8_taken_34 rfl (lv_at hl 2 rfl) ?_
        refine k_Vi C F hw (i := 198) (As := [.int (nI i)]) (rest := [.int (nI i), .ref (ad 207)]) (c_X8_summed hR cd ln bk bt ck ct cn pk u3.1 gt3 eL20_0 (onRow (pkR bk x (tnN (fbG pm bk))) u3.2.2.2) eL20_7 (by_prt (fun c _ => by_pkR _ _ _ c) hmb3.2.1) IN eL20_3 (by omega) i (by omega)) (by omega) eL20_0 rfl (cwV _ C.2.2.2.2 gm_X8_126 rfl rfl rfl cd_X8_summed ⟨by decide, by decide⟩) hl.1 rfl (Nat.le_of_ble_eq_true rfl) dX8_taken_35 ⟨by decide, by decide⟩ (fun r30 g31 H locs hp hw => ?_)
        obtain ⟨hr9, hg9⟩ := hp
        rw [hg9] at hw
        subst hr9
        refine k_ti (x' := nI (smP pm IN bk x i)) (by unfold smP; rw [smN_congr (bk + 11) (fun c hc => onRow_at (by omega))]) ?_
        refine k_iast C F hw (207) (by omega) eL20_9 (i) (smP pm IN bk x i) (by omega) (by decide) dX8_taken_38 (fun H locs hw => ?_)
        have hw : Wd D (AA R ad sz) s R ad (va_up gL (207) (na ca 16 (va_up b1 i (smP pm IN bk x i)))) H locs := hw
        obtain ⟨g32, hg32⟩ : ∃ z, z = va_up gL (207) (na ca 16 (va_up b1 i (smP pm IN bk x i))) := ⟨_, rfl⟩
        rw [← hg32] at hw
        have hk33 : ∀ z, z ≠ 207 → g32 z = gL z := fun z hz => by rw [hg32]; exact va_up_ne _ _ hz
        have e34 : g32 (207) = na ca 16 (va_up b1 i (smP pm IN bk x i)) := by rw [hg32]; exact va_up_self _ _ _
        have e35 : g32 (199) = ba ca 800 (tp) := (hk33 _ (by omega)).trans eL20_1
        have e36 : g32 (201) = na ca 944 (fi IN) := (hk33 _ (by omega)).trans eL20_3
        have e37 : g32 (202) = na ca 4425 (fl CG) := (hk33 _ (by omega)).trans eL20_4
        have e38 : g32 (206) = na ca 255 (pm) := (hk33 _ (by omega)).trans eL20_8
        have e39 : g32 (198) = .inr (8, [.int (cd), .ref (ad 199), .int (nI ln), .ref (ad 200), .int (nI bk), .int (nI bt), .ref (ad 201), .int (nI ck), .int (nI ct), .ref (ad 202), .int (nI cn), .int (nI pk), .ref (ad 203), .ref (ad 204), .int (nI (u3.1)), .ref (ad 205), .ref (ad 206), .int (bI (gt3)), .ref (ad 207)]) := (hk33 _ (by omega)).trans eL20_0
        have e40 : g32 (203) = na ca 9000 (fl u3.2.1) := (hk33 _ (by omega)).trans eL20_5
        have e41 : g32 (204) = na ca 120 (u3.2.2.1) := (hk33 _ (by omega)).trans eL20_6
        have e42 : g32 (205) = na ca 75 (onRow (pkR bk x (tnN (fbG pm bk))) u3.2.2.2) := (hk33 _ (by omega)).trans eL20_7
        have e43 : g32 (200) = ia ca 49 (tn3) := (hk33 _ (by omega)).trans eL20_2
        have hs44 : ∀ z, (z < 198 ∨ 207 < z) → g32 z = g z := fun z hz => (hk33 z (by omega)).trans (hsL20 z hz)
        refine k_inc C (i + 1) (lv' := [(2, .int (nI (i + 1))), (0, .ref (ad 198)), (1, .int (nI x))]) dX8_taken_39 hl (k := 2) rfl (inc1 _) (by decide) rfl (fun ls hl => ?_)
        refine lv_goto (tgt := 20) C.1 C.2.1 dX8_taken_42 (by decide) ?_
        exact ih20 (i + 1) (va_up b1 i (smP pm IN bk x i)) g32 H locs ls (by omega) (by omega) (by rw [hb1]; exact prt_s i (smP pm IN bk x) bb) hs44 e39 e35 e43 e36 e37 e40 e41 e42 e38 e34 hw (lv_sub hl [1, 2, 0] rfl)
  exact loop20 _ 0 bb g12 H locs ls (Nat.le_refl _) (by omega) ((prt_0 _ _).symm) hs24 e20 e15 e23 e16 e17 e21 e22 e14 e18 e19 hw (lv_sub hl [1, 2, 0] rfl)

abbrev rm_X8_isKnown : Room := { frames := 2, cells := 0, slots := 0, locals := 56 }

set_option maxHeartbeats 800000 in
set_option maxRecDepth 100000 in
/-- isKnown -/
theorem c_X8_isKnown {l : Launch} {D : va_G} {ca : Nat → ClassId} {tB tS R : Nat} {ad : Nat → Nat} {g : Nat → va_E} {sz : Nat} (hR : 207 < R) (cd : Int32) (ln bk bt ck ct cn pk rw : Nat) (gt : Bool) (eM : g 198 = .inr (8, [.int (cd), .ref (ad 199), .int (nI ln), .ref (ad 200), .int (nI bk), .int (nI bt), .ref (ad 201), .int (nI ck), .int (nI ct), .ref (ad 202), .int (nI cn), .int (nI pk), .ref (ad 203), .ref (ad 204), .int (nI rw), .ref (ad 205), .ref (ad 206), .int (bI (gt)), .ref (ad 207)])) (ro : Nat → Nat) (q205 : g 205 = na ca 75 ro) (M : Nat → Nat → Nat) (pv : Nat → Nat) (q203 : g 203 = na ca 9000 (fl M)) (q204 : g 204 = na ca 120 pv) (hM : ∀ r, By (M r)) (hro : By ro) (hpv : ∀ r, pv r < 75) (hrw : rw ≤ 120) (tn : Nat → Int32) (q200 : g 200 = ia ca 49 tn) (t : Nat) (htk : tn ck = nI t) (ht : t ≤ 1000) (hck : 1 ≤ ck ∧ ck ≤ 48) (x : Nat) (hx : x < 65536) : MI l yX8_isKnown cX8_isKnown 2 .boolean rm_X8_isKnown D ca tB tS R ad g sz [.ref (ad 198), .int (nI x)] (fun r g1 => r = bI (zT (mRed rw M pv (onRow (pkR ck x t) ro)) (ck + 11)) ∧ (∀ z, z ≠ 205 → g1 z = g z) ∧ g1 205 = na ca 75 (mRed rw M pv (onRow (pkR ck x t) ro))) := by
  refine m_startZ (by decide +kernel) (Nat.le_of_ble_eq_true rfl) (fun p e s m args below meth c ls Q hsz C hl F hw hret => ?_)
  have hl : lv_has ls 2 [(0, .ref (ad 198)), (1, .int (nI x))] := hl
  generalize s.heap = H at hw ⊢
  generalize ([] : List Loc) = locs at hw ⊢
  refine lv_aload_n C.1 C.2.1 dX8_isKnown_0 rfl (lv_at hl 0 rfl) ?_
  refine lv_aload_n C.1 C.2.1 dX8_isKnown_1 rfl (lv_at hl 0 rfl) ?_
  refine k_get C F hw (198) (by omega) eM rfl in_X8 7 (by decide) fl_X8_129 rfl dX8_isKnown_2 ?_
  refine lv_aload_n C.1 C.2.1 dX8_isKnown_5 rfl (lv_at hl 0 rfl) ?_
  refine k_get C F hw (198) (by omega) eM rfl in_X8 3 (by decide) fl_X8_13 rfl dX8_isKnown_6 ?_
  refine lv_aload_n C.1 C.2.1 dX8_isKnown_9 rfl (lv_at hl 0 rfl) ?_
  refine k_get C F hw (198) (by omega) eM rfl in_X8 7 (by decide) fl_X8_129 rfl dX8_isKnown_10 ?_
  refine k_ialdR C F hw (200) (by omega) q200 (ck) (by omega) (by decide) dX8_isKnown_13 ?_
  refine k_ti (x' := nI (t)) (htk) ?_
  refine lv_iload_n C.1 C.2.1 dX8_isKnown_14 rfl (lv_at hl 1 rfl) ?_
  refine k_Vi C F hw (i := 198) (As := [.int (nI ck), .int (nI t), .int (nI x)]) (rest := []) (c_X8_packet hR cd ln bk bt ck ct cn pk rw gt eM ro q205 ck x t hck hx ht) (by omega) eM rfl (cwV _ C.2.2.2.2 gm_X8_99 rfl rfl rfl cd_X8_packet ⟨by decide, by decide⟩) hl.1 rfl (Nat.le_of_ble_eq_true rfl) dX8_isKnown_15 ⟨by decide, by decide⟩ (fun r1 g2 H locs hp hw => ?_)
  obtain ⟨hr9, hp⟩ := hp
  subst hr9
  obtain ⟨hk3, e4⟩ := hp
  have e5 : g2 (198) = .inr (8, [.int (cd), .ref (ad 199), .int (nI ln), .ref (ad 200), .int (nI bk), .int (nI bt), .ref (ad 201), .int (nI ck), .int (nI ct), .ref (ad 202), .int (nI cn), .int (nI pk), .ref (ad 203), .ref (ad 204), .int (nI rw), .ref (ad 205), .ref (ad 206), .int (bI (gt)), .ref (ad 207)]) := (hk3 _ (by omega)).trans eM
  have e6 : g2 (203) = na ca 9000 (fl M) := (hk3 _ (by omega)).trans q203
  have e7 : g2 (204) = na ca 120 (pv) := (hk3 _ (by omega)).trans q204
  have e8 : g2 (200) = ia ca 49 (tn) := (hk3 _ (by omega)).trans q200
  have hs9 : ∀ z, z ≠ 205 → g2 z = g z := fun z hz => hk3 z (by omega)
  refine lv_pop C.1 C.2.1 dX8_isKnown_18 rfl ?_
  refine lv_aload_n C.1 C.2.1 dX8_isKnown_19 rfl (lv_at hl 0 rfl) ?_
  refine lv_aload_n C.1 C.2.1 dX8_isKnown_20 rfl (lv_at hl 0 rfl) ?_
  refine k_get C F hw (198) (by omega) e5 rfl in_X8 7 (by decide) fl_X8_129 rfl dX8_isKnown_21 ?_
  refine k_bip C 11 dX8_isKnown_24 (by decide) ?_
  refine k_add C dX8_isKnown_26 ?_
  refine k_Vi C F hw (i := 198) (As := [.int (nI (ck + 11))]) (rest := []) (c_X8_isReduced hR cd ln bk bt ck ct cn pk rw gt e5 (onRow (pkR ck x t) ro) e4 M pv e6 e7 hM (by_prt (fun c _ => by_pkR _ _ _ c) hro) hpv hrw (ck + 11) (by omega)) (by omega) e5 rfl (cwV _ C.2.2.2.2 gm_X8_77 rfl rfl rfl cd_X8_isReduced ⟨by decide, by decide⟩) hl.1 rfl (Nat.le_of_ble_eq_true rfl) dX8_isKnown_27 ⟨by decide, by decide⟩ (fun r10 g11 H locs hp hw => ?_)
  obtain ⟨hr9, hp⟩ := hp
  subst hr9
  obtain ⟨hk12, e13⟩ := hp
  have e14 : g11 (198) = .inr (8, [.int (cd), .ref (ad 199), .int (nI ln), .ref (ad 200), .int (nI bk), .int (nI bt), .ref (ad 201), .int (nI ck), .int (nI ct), .ref (ad 202), .int (nI cn), .int (nI pk), .ref (ad 203), .ref (ad 204), .int (nI rw), .ref (ad 205), .ref (ad 206), .int (bI (gt)), .ref (ad 207)]) := (hk12 _ (by omega)).trans e5
  have e15 : g11 (203) = na ca 9000 (fl M) := (hk12 _ (by omega)).trans e6
  have e16 : g11 (204) = na ca 120 (pv) := (hk12 _ (by omega)).trans e7
  have e17 : g11 (200) = ia ca 49 (tn) := (hk12 _ (by omega)).trans e8
  have hs18 : ∀ z, z ≠ 205 → g11 z = g z := fun z hz => (hk12 z (by omega)).trans (hs9 z hz)
  exact hret H locs ls _ (zT (mRed rw M pv (onRow (pkR ck x t) ro)) (ck + 11)) _ _ dX8_isKnown_30 hw (by rfl) (⟨rfl, hs18, e13⟩)

def wB (a b c0 d e0 k : Nat) : Nat := (if k < 4 then a else if k < 8 then b else if k < 12 then c0 else if k < 16 then d else e0) / 2 ^ (24 - 8 * (k % 4)) % 256
def thF (ln : Nat) (th : Nat → Nat) (a b c0 d e0 : Nat) : Nat → Nat := fun j => if ln ≤ j ∧ j < ln + 20 then wB a b c0 d e0 (j - ln) else th j
theorem by_thF {ln : Nat} {th : Nat → Nat} {a b c0 d e0 : Nat} (h : By th) : By (thF ln th a b c0 d e0) := fun j => by
  unfold thF
  split
  · exact Nat.mod_lt _ (by decide)
  · exact h j
theorem fd_step {ln i w : Nat} {th : Nat → Nat} {a b c0 d e0 : Nat} {t1 : Nat → Int32} (hi : i < 20) (hw : w = if i < 4 then a else if i < 8 then b else if i < 12 then c0 else if i < 16 then d else e0) (h : ∀ j, j < ln + i → t1 j &&& 255 = nI (thF ln th a b c0 d e0 j)) :
    ∀ j, j < ln + i + 1 → upd t1 (ln + i) (vp_nar .byte ((nI w >>> (nI (24 - 8 * (i % 4)) &&& 31)).toInt8.toInt32)) j &&& 255 = nI (thF ln th a b c0 d e0 j) := fun j hj => by
  by_cases hx : j = ln + i
  · subst hx
    rw [upd_self, nar_byte _ _ (by omega)]
    unfold thF
    rw [if_pos (show ln ≤ ln + i ∧ ln + i < ln + 20 from ⟨by omega, by omega⟩), show ln + i - ln = i by omega]
    unfold wB
    rw [← hw]
  · rw [upd_ne hx]; exact h j (by omega)

abbrev rm_X8_feed : Room := { frames := 0, cells := 0, slots := 0, locals := 0 }

set_option maxHeartbeats 800000 in
set_option maxRecDepth 100000 in
/-- feed -/
theorem c_X8_feed {l : Launch} {D : va_G} {ca : Nat → ClassId} {tB tS R : Nat} {ad : Nat → Nat} {g : Nat → va_E} {sz : Nat} (hR : 207 < R) (pm : Nat → Nat) (hpm : PmOk pm) (hT : ∀ k, 1 ≤ k → k ≤ 48 → tnN (fbG pm k) < 1000) (cd : Int32) (ln : Nat) (th : Nat → Nat) (bk bt : Nat) (IN : Nat → Nat → Nat) (ck ct : Nat) (CG : Nat → Nat → Nat) (cn pk : Nat) (hI : MInv ca ad g pm cd ln th bk bt IN ck ct CG cn pk) (a b c0 d e0 : Nat) (ha : a < 2 ^ 32) (hb : b < 2 ^ 32) (hc0 : c0 < 2 ^ 32) (hd : d < 2 ^ 32) (he0 : e0 < 2 ^ 32) : MI l yX8_feed cX8_feed 8 .int rm_X8_feed D ca tB tS R ad g sz [.ref (ad 198), .int (nI a), .int (nI b), .int (nI c0), .int (nI d), .int (nI e0)] (fun r g1 => (∀ z, z < 198 ∨ 207 < z → g1 z = g z) ∧ ((ln + 20 ≤ 800 ∧ r = nI (ln + 20) ∧ MInv ca ad g1 pm (nI 0) (ln + 20) (thF ln th a b c0 d e0) bk bt IN ck ct CG cn pk) ∨ (¬ ln + 20 ≤ 800 ∧ MInv ca ad g1 pm (nI 1) ln th bk bt IN ck ct CG cn pk))) := by
  refine m_startI (by decide +kernel) (Nat.le_of_ble_eq_true rfl) (fun p e s m args below meth c ls Q hsz C hl F hw hret => ?_)
  have hl : lv_has ls 8 [(0, .ref (ad 198)), (1, .int (nI a)), (2, .int (nI b)), (3, .int (nI c0)), (4, .int (nI d)), (5, .int (nI e0))] := hl
  generalize s.heap = H at hw ⊢
  generalize ([] : List Loc) = locs at hw ⊢
  obtain ⟨tp, rw, gt, M, pv, ro, tn, bb, hS⟩ := hI
  obtain ⟨⟨q198, q199, q200, q201, q202, q203, q204, q205, q206, q207⟩, hmb, hbb, hCG, hIN, htn, hgt, hbd, hGr, hth⟩ := hS
  have hbd2 := hbd.2.1
  have hbd3 := hbd.2.2
  have hln := hbd.1
  refine lv_aload_n C.1 C.2.1 dX8_feed_0 rfl (lv_at hl 0 rfl) ?_
  refine lv_aload_n C.1 C.2.1 dX8_feed_1 rfl (lv_at hl 0 rfl) ?_
  refine k_get C F hw (198) (by omega) q198 rfl in_X8 2 (by decide) fl_X8_46 rfl dX8_feed_2 ?_
  refine k_bip C 20 dX8_feed_5 (by decide) ?_
  refine k_add C dX8_feed_7 ?_
  refine k_sip C 800 dX8_feed_8 (by decide) ?_
  refine k_ile (tgt := 18) C dX8_feed_11 (by decide) (by omega) (by omega) (fun hc11 => ?_) (fun hc11 => ?_)
  · refine k_icn C 0 dX8_feed_18 (by decide) ?_
    refine k_put C F hw (198) (by omega) q198 rfl in_X8 tyX8_ok nmX8 0 (by decide) fl_X8_42 rfl (v := .int (nI 0)) rfl rfl (Nat.le_of_ble_eq_true rfl) dX8_feed_19 (fun H locs hw => ?_)
    have hw : Wd D (AA R ad sz) s R ad (va_up g (198) (.inr (8, [.int (nI 0), .ref (ad 199), .int (nI ln), .ref (ad 200), .int (nI bk), .int (nI bt), .ref (ad 201), .int (nI ck), .int (nI ct), .ref (ad 202), .int (nI cn), .int (nI pk), .ref (ad 203), .ref (ad 204), .int (nI rw), .ref (ad 205), .ref (ad 206), .int (bI (gt)), .ref (ad 207)]))) H locs := hw
    obtain ⟨g1, hg1⟩ : ∃ z, z = va_up g (198) (.inr (8, [.int (nI 0), .ref (ad 199), .int (nI ln), .ref (ad 200), .int (nI bk), .int (nI bt), .ref (ad 201), .int (nI ck), .int (nI ct), .ref (ad 202), .int (nI cn), .int (nI pk), .ref (ad 203), .ref (ad 204), .int (nI rw), .ref (ad 205), .ref (ad 206), .int (bI (gt)), .ref (ad 207)])) := ⟨_, rfl⟩
    rw [← hg1] at hw
    have hk2 : ∀ z, z ≠ 198 → g1 z = g z := fun z hz => by rw [hg1]; exact va_up_ne _ _ hz
    have e3 : g1 (198) = .inr (8, [.int (nI 0), .ref (ad 199), .int (nI ln), .ref (ad 200), .int (nI bk), .int (nI bt), .ref (ad 201), .int (nI ck), .int (nI ct), .ref (ad 202), .int (nI cn), .int (nI pk), .ref (ad 203), .ref (ad 204), .int (nI rw), .ref (ad 205), .ref (ad 206), .int (bI (gt)), .ref (ad 207)]) := by rw [hg1]; exact va_up_self _ _ _
    have e4 : g1 (199) = ba ca 800 (tp) := (hk2 _ (by omega)).trans q199
    have e5 : g1 (200) = ia ca 49 (tn) := (hk2 _ (by omega)).trans q200
    have e6 : g1 (201) = na ca 944 (fi IN) := (hk2 _ (by omega)).trans q201
    have e7 : g1 (202) = na ca 4425 (fl CG) := (hk2 _ (by omega)).trans q202
    have e8 : g1 (203) = na ca 9000 (fl M) := (hk2 _ (by omega)).trans q203
    have e9 : g1 (204) = na ca 120 (pv) := (hk2 _ (by omega)).trans q204
    have e10 : g1 (205) = na ca 75 (ro) := (hk2 _ (by omega)).trans q205
    have e11 : g1 (206) = na ca 255 (pm) := (hk2 _ (by omega)).trans q206
    have e12 : g1 (207) = na ca 16 (bb) := (hk2 _ (by omega)).trans q207
    have hs13 : ∀ z, (z < 198 ∨ 207 < z) → g1 z = g z := fun z hz => hk2 z (by omega)
    refine lv_aload_n C.1 C.2.1 dX8_feed_22 rfl (lv_at hl 0 rfl) ?_
    refine k_get C F hw (198) (by omega) e3 rfl in_X8 0 (by decide) fl_X8_42 rfl dX8_feed_23 ?_
    refine k_zle (tgt := 31) C dX8_feed_26 (by decide) (by omega) (fun _ => ?_) (fun h => absurd h (by decide))
    refine k_icn C 0 dX8_feed_31 (by decide) ?_
    refine lv_istore (lv' := [(6, .int (nI 0)), (0, .ref (ad 198)), (1, .int (nI a)), (2, .int (nI b)), (3, .int (nI c0)), (4, .int (nI d)), (5, .int (nI e0))]) C.1 C.2.1 dX8_feed_32 hl (by decide) rfl (fun ls hl => ?_)
    have loop34 : ∀ (fuel : Nat) (i : Nat) (t1 : Nat → Int32) (gL : Nat → va_E) (H : Heap) (locs : List Loc) (ls : Array Slot), ((20 - i) + 1 ≤ fuel) → (i ≤ 20) → (∀ j, j < ln + i → t1 j &&& 255 = nI (thF ln th a b c0 d e0 j)) → (∀ z, (z < 198 ∨ 207 < z) → gL z = g z) → (gL (198) = .inr (8, [.int (nI 0), .ref (ad 199), .int (nI (ln + i)), .ref (ad 200), .int (nI bk), .int (nI bt), .ref (ad 201), .int (nI ck), .int (nI ct), .ref (ad 202), .int (nI cn), .int (nI pk), .ref (ad 203), .ref (ad 204), .int (nI rw), .ref (ad 205), .ref (ad 206), .int (bI (gt)), .ref (ad 207)])) → (gL (199) = ba ca 800 (t1)) → (gL (200) = ia ca 49 (tn)) → (gL (201) = na ca 944 (fi IN)) → (gL (202) = na ca 4425 (fl CG)) → (gL (203) = na ca 9000 (fl M)) → (gL (204) = na ca 120 (pv)) → (gL (205) = na ca 75 (ro)) → (gL (206) = na ca 255 (pm)) → (gL (207) = na ca 16 (bb)) → Wd D (AA R ad sz) s R ad gL H locs → lv_has ls 8 [(0, .ref (ad 198)), (1, .int (nI a)), (2, .int (nI b)), (3, .int (nI c0)), (4, .int (nI d)), (5, .int (nI e0)), (6, .int (nI i))] → W p l e rm_X8_feed s m args below meth c H locs 0 0 Q (F0 m 34 ls []) := by
      intro fuel
      induction fuel with
      | zero =>
        intro i t1 gL H locs ls hfu34
        exact absurd hfu34 (by omega)
      | succ fuel34 ih34 =>
        intro i t1 gL H locs ls hfu34 hi ht1 hsL34 eL34_0 eL34_1 eL34_2 eL34_3 eL34_4 eL34_5 eL34_6 eL34_7 eL34_8 eL34_9 hw hl
        refine lv_iload C.1 C.2.1 dX8_feed_34 (lv_at hl 6 rfl) ?_
        refine k_bip C 20 dX8_feed_36 (by decide) ?_
        refine k_ige (tgt := 128) C dX8_feed_38 (by decide) (by omega) (by omega) (fun hc38 => ?_) (fun hc38 => ?_)
        · refine lv_aload_n C.1 C.2.1 dX8_feed_128 rfl (lv_at hl 0 rfl) ?_
          refine k_get C F hw (198) (by omega) eL34_0 rfl in_X8 2 (by decide) fl_X8_46 rfl dX8_feed_129 ?_
          have hi20 : i = 20 := by omega
          subst hi20
          have hS14 : MSt ca ad gL pm (nI 0) (ln + 20) (thF ln th a b c0 d e0) bk bt IN ck ct CG cn pk t1 rw gt M pv ro tn bb := ⟨⟨eL34_0, eL34_1, eL34_2, eL34_3, eL34_4, eL34_5, eL34_6, eL34_7, eL34_8, eL34_9⟩, hmb, hbb, hCG, hIN, htn, hgt, ⟨by omega, hbd.2⟩, hGr, ⟨by_thF hth.1, ht1⟩⟩
          exact hret H locs ls _ _ _ dX8_feed_132 hw (⟨hsL34, Or.inl ⟨by omega, rfl, ⟨_, _, _, _, _, _, _, _, hS14⟩⟩⟩)
        · refine lv_iload C.1 C.2.1 dX8_feed_41 (lv_at hl 6 rfl) ?_
          refine k_icn C 4 dX8_feed_43 (by decide) ?_
          refine k_ige (tgt := 51) C dX8_feed_44 (by decide) (by omega) (by omega) (fun hc44 => ?_) (fun hc44 => ?_)
          · refine lv_iload C.1 C.2.1 dX8_feed_51 (lv_at hl 6 rfl) ?_
            refine k_bip C 8 dX8_feed_53 (by decide) ?_
            refine k_ige (tgt := 62) C dX8_feed_55 (by decide) (by omega) (by omega) (fun hc55 => ?_) (fun hc55 => ?_)
            · refine lv_iload C.1 C.2.1 dX8_feed_62 (lv_at hl 6 rfl) ?_
              refine k_bip C 12 dX8_feed_64 (by decide) ?_
              refine k_ige (tgt := 73) C dX8_feed_66 (by decide) (by omega) (by omega) (fun hc66 => ?_) (fun hc66 => ?_)
              · refine lv_iload C.1 C.2.1 dX8_feed_73 (lv_at hl 6 rfl) ?_
                refine k_bip C 16 dX8_feed_75 (by decide) ?_
                refine k_ige (tgt := 85) C dX8_feed_77 (by decide) (by omega) (by omega) (fun hc77 => ?_) (fun hc77 => ?_)
                · refine lv_iload C.1 C.2.1 dX8_feed_85 (lv_at hl 5 rfl) ?_
                  refine lv_istore (lv' := [(7, .int (nI e0)), (0, .ref (ad 198)), (1, .int (nI a)), (2, .int (nI b)), (3, .int (nI c0)), (4, .int (nI d)), (5, .int (nI e0)), (6, .int (nI i))]) C.1 C.2.1 dX8_feed_87 hl (by decide) rfl (fun ls hl => ?_)
                  refine lv_aload_n C.1 C.2.1 dX8_feed_89 rfl (lv_at hl 1 rfl) ?_
                  refine k_get C F hw (198) (by omega) eL34_0 rfl in_X8 1 (by decide) fl_X8_7 rfl dX8_feed_90 ?_
                  refine lv_aload_n C.1 C.2.1 dX8_feed_93 rfl (lv_at hl 1 rfl) ?_
                  refine k_get C F hw (198) (by omega) eL34_0 rfl in_X8 2 (by decide) fl_X8_46 rfl dX8_feed_94 ?_
                  refine lv_iload C.1 C.2.1 dX8_feed_97 (lv_at hl 0 rfl) ?_
                  refine k_bip C 24 dX8_feed_99 (by decide) ?_
                  refine k_bip C 8 dX8_feed_101 (by decide) ?_
                  refine lv_iload C.1 C.2.1 dX8_feed_103 (lv_at hl 7 rfl) ?_
                  refine k_icn C 4 dX8_feed_105 (by decide) ?_
                  refine k_rem C dX8_feed_106 (by omega) (by omega) (by omega) ?_
                  refine k_mul C dX8_feed_107 ?_
                  refine k_sub C dX8_feed_108 (by omega) ?_
                  refine lv_ishr C.1 C.2.1 dX8_feed_109 ?_
                  refine lv_i2b C.1 C.2.1 dX8_feed_110 rfl ?_
                  refine k_bast C F hw (199) (by omega) eL34_1 (ln + i) (by omega) (by decide) dX8_feed_111 (fun H locs hw => ?_)
                  have hw : Wd D (AA R ad sz) s R ad (va_up gL (199) (ba ca 800 (upd t1 (ln + i) (vp_nar .byte (((nI (e0)) >>> ((nI (24 - (8 * (i % 4)))) &&& 31)).toInt8.toInt32))))) H locs := hw
                  obtain ⟨g15, hg15⟩ : ∃ z, z = va_up gL (199) (ba ca 800 (upd t1 (ln + i) (vp_nar .byte (((nI (e0)) >>> ((nI (24 - (8 * (i % 4)))) &&& 31)).toInt8.toInt32)))) := ⟨_, rfl⟩
                  rw [← hg15] at hw
                  have hk16 : ∀ z, z ≠ 199 → g15 z = gL z := fun z hz => by rw [hg15]; exact va_up_ne _ _ hz
                  have e17 : g15 (199) = ba ca 800 (upd t1 (ln + i) (vp_nar .byte (((nI (e0)) >>> ((nI (24 - (8 * (i % 4)))) &&& 31)).toInt8.toInt32))) := by rw [hg15]; exact va_up_self _ _ _
                  have e18 : g15 (198) = .inr (8, [.int (nI 0), .ref (ad 199), .int (nI (ln + i)), .ref (ad 200), .int (nI bk), .int (nI bt), .ref (ad 201), .int (nI ck), .int (nI ct), .ref (ad 202), .int (nI cn), .int (nI pk), .ref (ad 203), .ref (ad 204), .int (nI rw), .ref (ad 205), .ref (ad 206), .int (bI (gt)), .ref (ad 207)]) := (hk16 _ (by omega)).trans eL34_0
                  have e19 : g15 (200) = ia ca 49 (tn) := (hk16 _ (by omega)).trans eL34_2
                  have e20 : g15 (201) = na ca 944 (fi IN) := (hk16 _ (by omega)).trans eL34_3
                  have e21 : g15 (202) = na ca 4425 (fl CG) := (hk16 _ (by omega)).trans eL34_4
                  have e22 : g15 (203) = na ca 9000 (fl M) := (hk16 _ (by omega)).trans eL34_5
                  have e23 : g15 (204) = na ca 120 (pv) := (hk16 _ (by omega)).trans eL34_6
                  have e24 : g15 (205) = na ca 75 (ro) := (hk16 _ (by omega)).trans eL34_7
                  have e25 : g15 (206) = na ca 255 (pm) := (hk16 _ (by omega)).trans eL34_8
                  have e26 : g15 (207) = na ca 16 (bb) := (hk16 _ (by omega)).trans eL34_9
                  have hs27 : ∀ z, (z < 198 ∨ 207 < z) → g15 z = g z := fun z hz => (hk16 z (by omega)).trans (hsL34 z hz)
                  refine lv_aload_n C.1 C.2.1 dX8_feed_112 rfl (lv_at hl 1 rfl) ?_
                  refine lv_dup C.1 C.2.1 dX8_feed_113 rfl ?_
                  refine k_get C F hw (198) (by omega) e18 rfl in_X8 2 (by decide) fl_X8_46 rfl dX8_feed_114 ?_
                  refine k_icn C 1 dX8_feed_117 (by decide) ?_
                  refine k_add C dX8_feed_118 ?_
                  refine k_put C F hw (198) (by omega) e18 rfl in_X8 tyX8_ok nmX8 2 (by decide) fl_X8_46 rfl (v := .int (nI ((ln + i) + 1))) rfl rfl (Nat.le_of_ble_eq_true rfl) dX8_feed_119 (fun H locs hw => ?_)
                  have hw : Wd D (AA R ad sz) s R ad (va_up g15 (198) (.inr (8, [.int (nI 0), .ref (ad 199), .int (nI ((ln + i) + 1)), .ref (ad 200), .int (nI bk), .int (nI bt), .ref (ad 201), .int (nI ck), .int (nI ct), .ref (ad 202), .int (nI cn), .int (nI pk), .ref (ad 203), .ref (ad 204), .int (nI rw), .ref (ad 205), .ref (ad 206), .int (bI (gt)), .ref (ad 207)]))) H locs := hw
                  obtain ⟨g28, hg28⟩ : ∃ z, z = va_up g15 (198) (.inr (8, [.int (nI 0), .ref (ad 199), .int (nI ((ln + i) + 1)), .ref (ad 200), .int (nI bk), .int (nI bt), .ref (ad 201), .int (nI ck), .int (nI ct), .ref (ad 202), .int (nI cn), .int (nI pk), .ref (ad 203), .ref (ad 204), .int (nI rw), .ref (ad 205), .ref (ad 206), .int (bI (gt)), .ref (ad 207)])) := ⟨_, rfl⟩
                  rw [← hg28] at hw
                  have hk29 : ∀ z, z ≠ 198 → g28 z = g15 z := fun z hz => by rw [hg28]; exact va_up_ne _ _ hz
                  have e30 : g28 (198) = .inr (8, [.int (nI 0), .ref (ad 199), .int (nI ((ln + i) + 1)), .ref (ad 200), .int (nI bk), .int (nI bt), .ref (ad 201), .int (nI ck), .int (nI ct), .ref (ad 202), .int (nI cn), .int (nI pk), .ref (ad 203), .ref (ad 204), .int (nI rw), .ref (ad 205), .ref (ad 206), .int (bI (gt)), .ref (ad 207)]) := by rw [hg28]; exact va_up_self _ _ _
                  have e31 : g28 (199) = ba ca 800 (upd t1 (ln + i) (vp_nar .byte (((nI (e0)) >>> ((nI (24 - (8 * (i % 4)))) &&& 31)).toInt8.toInt32))) := (hk29 _ (by omega)).trans e17
                  have e32 : g28 (200) = ia ca 49 (tn) := (hk29 _ (by omega)).trans e19
                  have e33 : g28 (201) = na ca 944 (fi IN) := (hk29 _ (by omega)).trans e20
                  have e34 : g28 (202) = na ca 4425 (fl CG) := (hk29 _ (by omega)).trans e21
                  have e35 : g28 (203) = na ca 9000 (fl M) := (hk29 _ (by omega)).trans e22
                  have e36 : g28 (204) = na ca 120 (pv) := (hk29 _ (by omega)).trans e23
                  have e37 : g28 (205) = na ca 75 (ro) := (hk29 _ (by omega)).trans e24
                  have e38 : g28 (206) = na ca 255 (pm) := (hk29 _ (by omega)).trans e25
                  have e39 : g28 (207) = na ca 16 (bb) := (hk29 _ (by omega)).trans e26
                  have hs40 : ∀ z, (z < 198 ∨ 207 < z) → g28 z = g z := fun z hz => (hk29 z (by omega)).trans (hs27 z hz)
                  refine k_inc C (i + 1) (lv' := [(6, .int (nI (i + 1))), (7, .int (nI e0)), (0, .ref (ad 198)), (1, .int (nI a)), (2, .int (nI b)), (3, .int (nI c0)), (4, .int (nI d)), (5, .int (nI e0))]) dX8_feed_122 hl (k := 7) rfl (inc1 _) (by decide) rfl (fun ls hl => ?_)
                  refine lv_goto (tgt := 34) C.1 C.2.1 dX8_feed_125 (by decide) ?_
                  exact ih34 (i + 1) (upd t1 (ln + i) (vp_nar .byte (((nI (e0)) >>> ((nI (24 - (8 * (i % 4)))) &&& 31)).toInt8.toInt32))) g28 H locs ls (by omega) (by omega) (fd_step (w := e0) (by omega) (by rw [if_neg (show ¬ i < 4 by omega), if_neg (show ¬ i < 8 by omega), if_neg (show ¬ i < 12 by omega), if_neg (show ¬ i < 16 by omega)]) ht1) hs40 e30 e31 e32 e33 e34 e35 e36 e37 e38 e39 hw (lv_sub hl [2, 3, 4, 5, 6, 7, 0] rfl)
                · refine lv_iload C.1 C.2.1 dX8_feed_80 (lv_at hl 4 rfl) ?_
                  refine lv_goto (tgt := 87) C.1 C.2.1 dX8_feed_82 (by decide) ?_
                  refine lv_istore (lv' := [(7, .int (nI d)), (0, .ref (ad 198)), (1, .int (nI a)), (2, .int (nI b)), (3, .int (nI c0)), (4, .int (nI d)), (5, .int (nI e0)), (6, .int (nI i))]) C.1 C.2.1 dX8_feed_87 hl (by decide) rfl (fun ls hl => ?_)
                  refine lv_aload_n C.1 C.2.1 dX8_feed_89 rfl (lv_at hl 1 rfl) ?_
                  refine k_get C F hw (198) (by omega) eL34_0 rfl in_X8 1 (by decide) fl_X8_7 rfl dX8_feed_90 ?_
                  refine lv_aload_n C.1 C.2.1 dX8_feed_93 rfl (lv_at hl 1 rfl) ?_
                  refine k_get C F hw (198) (by omega) eL34_0 rfl in_X8 2 (by decide) fl_X8_46 rfl dX8_feed_94 ?_
                  refine lv_iload C.1 C.2.1 dX8_feed_97 (lv_at hl 0 rfl) ?_
                  refine k_bip C 24 dX8_feed_99 (by decide) ?_
                  refine k_bip C 8 dX8_feed_101 (by decide) ?_
                  refine lv_iload C.1 C.2.1 dX8_feed_103 (lv_at hl 7 rfl) ?_
                  refine k_icn C 4 dX8_feed_105 (by decide) ?_
                  refine k_rem C dX8_feed_106 (by omega) (by omega) (by omega) ?_
                  refine k_mul C dX8_feed_107 ?_
                  refine k_sub C dX8_feed_108 (by omega) ?_
                  refine lv_ishr C.1 C.2.1 dX8_feed_109 ?_
                  refine lv_i2b C.1 C.2.1 dX8_feed_110 rfl ?_
                  refine k_bast C F hw (199) (by omega) eL34_1 (ln + i) (by omega) (by decide) dX8_feed_111 (fun H locs hw => ?_)
                  have hw : Wd D (AA R ad sz) s R ad (va_up gL (199) (ba ca 800 (upd t1 (ln + i) (vp_nar .byte (((nI (d)) >>> ((nI (24 - (8 * (i % 4)))) &&& 31)).toInt8.toInt32))))) H locs := hw
                  obtain ⟨g41, hg41⟩ : ∃ z, z = va_up gL (199) (ba ca 800 (upd t1 (ln + i) (vp_nar .byte (((nI (d)) >>> ((nI (24 - (8 * (i % 4)))) &&& 31)).toInt8.toInt32)))) := ⟨_, rfl⟩
                  rw [← hg41] at hw
                  have hk42 : ∀ z, z ≠ 199 → g41 z = gL z := fun z hz => by rw [hg41]; exact va_up_ne _ _ hz
                  have e43 : g41 (199) = ba ca 800 (upd t1 (ln + i) (vp_nar .byte (((nI (d)) >>> ((nI (24 - (8 * (i % 4)))) &&& 31)).toInt8.toInt32))) := by rw [hg41]; exact va_up_self _ _ _
                  have e44 : g41 (198) = .inr (8, [.int (nI 0), .ref (ad 199), .int (nI (ln + i)), .ref (ad 200), .int (nI bk), .int (nI bt), .ref (ad 201), .int (nI ck), .int (nI ct), .ref (ad 202), .int (nI cn), .int (nI pk), .ref (ad 203), .ref (ad 204), .int (nI rw), .ref (ad 205), .ref (ad 206), .int (bI (gt)), .ref (ad 207)]) := (hk42 _ (by omega)).trans eL34_0
                  have e45 : g41 (200) = ia ca 49 (tn) := (hk42 _ (by omega)).trans eL34_2
                  have e46 : g41 (201) = na ca 944 (fi IN) := (hk42 _ (by omega)).trans eL34_3
                  have e47 : g41 (202) = na ca 4425 (fl CG) := (hk42 _ (by omega)).trans eL34_4
                  have e48 : g41 (203) = na ca 9000 (fl M) := (hk42 _ (by omega)).trans eL34_5
                  have e49 : g41 (204) = na ca 120 (pv) := (hk42 _ (by omega)).trans eL34_6
                  have e50 : g41 (205) = na ca 75 (ro) := (hk42 _ (by omega)).trans eL34_7
                  have e51 : g41 (206) = na ca 255 (pm) := (hk42 _ (by omega)).trans eL34_8
                  have e52 : g41 (207) = na ca 16 (bb) := (hk42 _ (by omega)).trans eL34_9
                  have hs53 : ∀ z, (z < 198 ∨ 207 < z) → g41 z = g z := fun z hz => (hk42 z (by omega)).trans (hsL34 z hz)
                  refine lv_aload_n C.1 C.2.1 dX8_feed_112 rfl (lv_at hl 1 rfl) ?_
                  refine lv_dup C.1 C.2.1 dX8_feed_113 rfl ?_
                  refine k_get C F hw (198) (by omega) e44 rfl in_X8 2 (by decide) fl_X8_46 rfl dX8_feed_114 ?_
                  refine k_icn C 1 dX8_feed_117 (by decide) ?_
                  refine k_add C dX8_feed_118 ?_
                  refine k_put C F hw (198) (by omega) e44 rfl in_X8 tyX8_ok nmX8 2 (by decide) fl_X8_46 rfl (v := .int (nI ((ln + i) + 1))) rfl rfl (Nat.le_of_ble_eq_true rfl) dX8_feed_119 (fun H locs hw => ?_)
                  have hw : Wd D (AA R ad sz) s R ad (va_up g41 (198) (.inr (8, [.int (nI 0), .ref (ad 199), .int (nI ((ln + i) + 1)), .ref (ad 200), .int (nI bk), .int (nI bt), .ref (ad 201), .int (nI ck), .int (nI ct), .ref (ad 202), .int (nI cn), .int (nI pk), .ref (ad 203), .ref (ad 204), .int (nI rw), .ref (ad 205), .ref (ad 206), .int (bI (gt)), .ref (ad 207)]))) H locs := hw
                  obtain ⟨g54, hg54⟩ : ∃ z, z = va_up g41 (198) (.inr (8, [.int (nI 0), .ref (ad 199), .int (nI ((ln + i) + 1)), .ref (ad 200), .int (nI bk), .int (nI bt), .ref (ad 201), .int (nI ck), .int (nI ct), .ref (ad 202), .int (nI cn), .int (nI pk), .ref (ad 203), .ref (ad 204), .int (nI rw), .ref (ad 205), .ref (ad 206), .int (bI (gt)), .ref (ad 207)])) := ⟨_, rfl⟩
                  rw [← hg54] at hw
                  have hk55 : ∀ z, z ≠ 198 → g54 z = g41 z := fun z hz => by rw [hg54]; exact va_up_ne _ _ hz
                  have e56 : g54 (198) = .inr (8, [.int (nI 0), .ref (ad 199), .int (nI ((ln + i) + 1)), .ref (ad 200), .int (nI bk), .int (nI bt), .ref (ad 201), .int (nI ck), .int (nI ct), .ref (ad 202), .int (nI cn), .int (nI pk), .ref (ad 203), .ref (ad 204), .int (nI rw), .ref (ad 205), .ref (ad 206), .int (bI (gt)), .ref (ad 207)]) := by rw [hg54]; exact va_up_self _ _ _
                  have e57 : g54 (199) = ba ca 800 (upd t1 (ln + i) (vp_nar .byte (((nI (d)) >>> ((nI (24 - (8 * (i % 4)))) &&& 31)).toInt8.toInt32))) := (hk55 _ (by omega)).trans e43
                  have e58 : g54 (200) = ia ca 49 (tn) := (hk55 _ (by omega)).trans e45
                  have e59 : g54 (201) = na ca 944 (fi IN) := (hk55 _ (by omega)).trans e46
                  have e60 : g54 (202) = na ca 4425 (fl CG) := (hk55 _ (by omega)).trans e47
                  have e61 : g54 (203) = na ca 9000 (fl M) := (hk55 _ (by omega)).trans e48
                  have e62 : g54 (204) = na ca 120 (pv) := (hk55 _ (by omega)).trans e49
                  have e63 : g54 (205) = na ca 75 (ro) := (hk55 _ (by omega)).trans e50
                  have e64 : g54 (206) = na ca 255 (pm) := (hk55 _ (by omega)).trans e51
                  have e65 : g54 (207) = na ca 16 (bb) := (hk55 _ (by omega)).trans e52
                  have hs66 : ∀ z, (z < 198 ∨ 207 < z) → g54 z = g z := fun z hz => (hk55 z (by omega)).trans (hs53 z hz)
                  refine k_inc C (i + 1) (lv' := [(6, .int (nI (i + 1))), (7, .int (nI d)), (0, .ref (ad 198)), (1, .int (nI a)), (2, .int (nI b)), (3, .int (nI c0)), (4, .int (nI d)), (5, .int (nI e0))]) dX8_feed_122 hl (k := 7) rfl (inc1 _) (by decide) rfl (fun ls hl => ?_)
                  refine lv_goto (tgt := 34) C.1 C.2.1 dX8_feed_125 (by decide) ?_
                  exact ih34 (i + 1) (upd t1 (ln + i) (vp_nar .byte (((nI (d)) >>> ((nI (24 - (8 * (i % 4)))) &&& 31)).toInt8.toInt32))) g54 H locs ls (by omega) (by omega) (fd_step (w := d) (by omega) (by rw [if_neg (show ¬ i < 4 by omega), if_neg (show ¬ i < 8 by omega), if_neg (show ¬ i < 12 by omega), if_pos (show i < 16 by omega)]) ht1) hs66 e56 e57 e58 e59 e60 e61 e62 e63 e64 e65 hw (lv_sub hl [2, 3, 4, 5, 6, 7, 0] rfl)
              · refine lv_iload_n C.1 C.2.1 dX8_feed_69 rfl (lv_at hl 3 rfl) ?_
                refine lv_goto (tgt := 87) C.1 C.2.1 dX8_feed_70 (by decide) ?_
                refine lv_istore (lv' := [(7, .int (nI c0)), (0, .ref (ad 198)), (1, .int (nI a)), (2, .int (nI b)), (3, .int (nI c0)), (4, .int (nI d)), (5, .int (nI e0)), (6, .int (nI i))]) C.1 C.2.1 dX8_feed_87 hl (by decide) rfl (fun ls hl => ?_)
                refine lv_aload_n C.1 C.2.1 dX8_feed_89 rfl (lv_at hl 1 rfl) ?_
                refine k_get C F hw (198) (by omega) eL34_0 rfl in_X8 1 (by decide) fl_X8_7 rfl dX8_feed_90 ?_
                refine lv_aload_n C.1 C.2.1 dX8_feed_93 rfl (lv_at hl 1 rfl) ?_
                refine k_get C F hw (198) (by omega) eL34_0 rfl in_X8 2 (by decide) fl_X8_46 rfl dX8_feed_94 ?_
                refine lv_iload C.1 C.2.1 dX8_feed_97 (lv_at hl 0 rfl) ?_
                refine k_bip C 24 dX8_feed_99 (by decide) ?_
                refine k_bip C 8 dX8_feed_101 (by decide) ?_
                refine lv_iload C.1 C.2.1 dX8_feed_103 (lv_at hl 7 rfl) ?_
                refine k_icn C 4 dX8_feed_105 (by decide) ?_
                refine k_rem C dX8_feed_106 (by omega) (by omega) (by omega) ?_
                refine k_mul C dX8_feed_107 ?_
                refine k_sub C dX8_feed_108 (by omega) ?_
                refine lv_ishr C.1 C.2.1 dX8_feed_109 ?_
                refine lv_i2b C.1 C.2.1 dX8_feed_110 rfl ?_
                refine k_bast C F hw (199) (by omega) eL34_1 (ln + i) (by omega) (by decide) dX8_feed_111 (fun H locs hw => ?_)
                have hw : Wd D (AA R ad sz) s R ad (va_up gL (199) (ba ca 800 (upd t1 (ln + i) (vp_nar .byte (((nI (c0)) >>> ((nI (24 - (8 * (i % 4)))) &&& 31)).toInt8.toInt32))))) H locs := hw
                obtain ⟨g67, hg67⟩ : ∃ z, z = va_up gL (199) (ba ca 800 (upd t1 (ln + i) (vp_nar .byte (((nI (c0)) >>> ((nI (24 - (8 * (i % 4)))) &&& 31)).toInt8.toInt32)))) := ⟨_, rfl⟩
                rw [← hg67] at hw
                have hk68 : ∀ z, z ≠ 199 → g67 z = gL z := fun z hz => by rw [hg67]; exact va_up_ne _ _ hz
                have e69 : g67 (199) = ba ca 800 (upd t1 (ln + i) (vp_nar .byte (((nI (c0)) >>> ((nI (24 - (8 * (i % 4)))) &&& 31)).toInt8.toInt32))) := by rw [hg67]; exact va_up_self _ _ _
                have e70 : g67 (198) = .inr (8, [.int (nI 0), .ref (ad 199), .int (nI (ln + i)), .ref (ad 200), .int (nI bk), .int (nI bt), .ref (ad 201), .int (nI ck), .int (nI ct), .ref (ad 202), .int (nI cn), .int (nI pk), .ref (ad 203), .ref (ad 204), .int (nI rw), .ref (ad 205), .ref (ad 206), .int (bI (gt)), .ref (ad 207)]) := (hk68 _ (by omega)).trans eL34_0
                have e71 : g67 (200) = ia ca 49 (tn) := (hk68 _ (by omega)).trans eL34_2
                have e72 : g67 (201) = na ca 944 (fi IN) := (hk68 _ (by omega)).trans eL34_3
                have e73 : g67 (202) = na ca 4425 (fl CG) := (hk68 _ (by omega)).trans eL34_4
                have e74 : g67 (203) = na ca 9000 (fl M) := (hk68 _ (by omega)).trans eL34_5
                have e75 : g67 (204) = na ca 120 (pv) := (hk68 _ (by omega)).trans eL34_6
                have e76 : g67 (205) = na ca 75 (ro) := (hk68 _ (by omega)).trans eL34_7
                have e77 : g67 (206) = na ca 255 (pm) := (hk68 _ (by omega)).trans eL34_8
                have e78 : g67 (207) = na ca 16 (bb) := (hk68 _ (by omega)).trans eL34_9
                have hs79 : ∀ z, (z < 198 ∨ 207 < z) → g67 z = g z := fun z hz => (hk68 z (by omega)).trans (hsL34 z hz)
                refine lv_aload_n C.1 C.2.1 dX8_feed_112 rfl (lv_at hl 1 rfl) ?_
                refine lv_dup C.1 C.2.1 dX8_feed_113 rfl ?_
                refine k_get C F hw (198) (by omega) e70 rfl in_X8 2 (by decide) fl_X8_46 rfl dX8_feed_114 ?_
                refine k_icn C 1 dX8_feed_117 (by decide) ?_
                refine k_add C dX8_feed_118 ?_
                refine k_put C F hw (198) (by omega) e70 rfl in_X8 tyX8_ok nmX8 2 (by decide) fl_X8_46 rfl (v := .int (nI ((ln + i) + 1))) rfl rfl (Nat.le_of_ble_eq_true rfl) dX8_feed_119 (fun H locs hw => ?_)
                have hw : Wd D (AA R ad sz) s R ad (va_up g67 (198) (.inr (8, [.int (nI 0), .ref (ad 199), .int (nI ((ln + i) + 1)), .ref (ad 200), .int (nI bk), .int (nI bt), .ref (ad 201), .int (nI ck), .int (nI ct), .ref (ad 202), .int (nI cn), .int (nI pk), .ref (ad 203), .ref (ad 204), .int (nI rw), .ref (ad 205), .ref (ad 206), .int (bI (gt)), .ref (ad 207)]))) H locs := hw
                obtain ⟨g80, hg80⟩ : ∃ z, z = va_up g67 (198) (.inr (8, [.int (nI 0), .ref (ad 199), .int (nI ((ln + i) + 1)), .ref (ad 200), .int (nI bk), .int (nI bt), .ref (ad 201), .int (nI ck), .int (nI ct), .ref (ad 202), .int (nI cn), .int (nI pk), .ref (ad 203), .ref (ad 204), .int (nI rw), .ref (ad 205), .ref (ad 206), .int (bI (gt)), .ref (ad 207)])) := ⟨_, rfl⟩
                rw [← hg80] at hw
                have hk81 : ∀ z, z ≠ 198 → g80 z = g67 z := fun z hz => by rw [hg80]; exact va_up_ne _ _ hz
                have e82 : g80 (198) = .inr (8, [.int (nI 0), .ref (ad 199), .int (nI ((ln + i) + 1)), .ref (ad 200), .int (nI bk), .int (nI bt), .ref (ad 201), .int (nI ck), .int (nI ct), .ref (ad 202), .int (nI cn), .int (nI pk), .ref (ad 203), .ref (ad 204), .int (nI rw), .ref (ad 205), .ref (ad 206), .int (bI (gt)), .ref (ad 207)]) := by rw [hg80]; exact va_up_self _ _ _
                have e83 : g80 (199) = ba ca 800 (upd t1 (ln + i) (vp_nar .byte (((nI (c0)) >>> ((nI (24 - (8 * (i % 4)))) &&& 31)).toInt8.toInt32))) := (hk81 _ (by omega)).trans e69
                have e84 : g80 (200) = ia ca 49 (tn) := (hk81 _ (by omega)).trans e71
                have e85 : g80 (201) = na ca 944 (fi IN) := (hk81 _ (by omega)).trans e72
                have e86 : g80 (202) = na ca 4425 (fl CG) := (hk81 _ (by omega)).trans e73
                have e87 : g80 (203) = na ca 9000 (fl M) := (hk81 _ (by omega)).trans e74
                have e88 : g80 (204) = na ca 120 (pv) := (hk81 _ (by omega)).trans e75
                have e89 : g80 (205) = na ca 75 (ro) := (hk81 _ (by omega)).trans e76
                have e90 : g80 (206) = na ca 255 (pm) := (hk81 _ (by omega)).trans e77
                have e91 : g80 (207) = na ca 16 (bb) := (hk81 _ (by omega)).trans e78
                have hs92 : ∀ z, (z < 198 ∨ 207 < z) → g80 z = g z := fun z hz => (hk81 z (by omega)).trans (hs79 z hz)
                refine k_inc C (i + 1) (lv' := [(6, .int (nI (i + 1))), (7, .int (nI c0)), (0, .ref (ad 198)), (1, .int (nI a)), (2, .int (nI b)), (3, .int (nI c0)), (4, .int (nI d)), (5, .int (nI e0))]) dX8_feed_122 hl (k := 7) rfl (inc1 _) (by decide) rfl (fun ls hl => ?_)
                refine lv_goto (tgt := 34) C.1 C.2.1 dX8_feed_125 (by decide) ?_
                exact ih34 (i + 1) (upd t1 (ln + i) (vp_nar .byte (((nI (c0)) >>> ((nI (24 - (8 * (i % 4)))) &&& 31)).toInt8.toInt32))) g80 H locs ls (by omega) (by omega) (fd_step (w := c0) (by omega) (by rw [if_neg (show ¬ i < 4 by omega), if_neg (show ¬ i < 8 by omega), if_pos (show i < 12 by omega)]) ht1) hs92 e82 e83 e84 e85 e86 e87 e88 e89 e90 e91 hw (lv_sub hl [2, 3, 4, 5, 6, 7, 0] rfl)
            · refine lv_iload_n C.1 C.2.1 dX8_feed_58 rfl (lv_at hl 2 rfl) ?_
              refine lv_goto (tgt := 87) C.1 C.2.1 dX8_feed_59 (by decide) ?_
              refine lv_istore (lv' := [(7, .int (nI b)), (0, .ref (ad 198)), (1, .int (nI a)), (2, .int (nI b)), (3, .int (nI c0)), (4, .int (nI d)), (5, .int (nI e0)), (6, .int (nI i))]) C.1 C.2.1 dX8_feed_87 hl (by decide) rfl (fun ls hl => ?_)
              refine lv_aload_n C.1 C.2.1 dX8_feed_89 rfl (lv_at hl 1 rfl) ?_
              refine k_get C F hw (198) (by omega) eL34_0 rfl in_X8 1 (by decide) fl_X8_7 rfl dX8_feed_90 ?_
              refine lv_aload_n C.1 C.2.1 dX8_feed_93 rfl (lv_at hl 1 rfl) ?_
              refine k_get C F hw (198) (by omega) eL34_0 rfl in_X8 2 (by decide) fl_X8_46 rfl dX8_feed_94 ?_
              refine lv_iload C.1 C.2.1 dX8_feed_97 (lv_at hl 0 rfl) ?_
              refine k_bip C 24 dX8_feed_99 (by decide) ?_
              refine k_bip C 8 dX8_feed_101 (by decide) ?_
              refine lv_iload C.1 C.2.1 dX8_feed_103 (lv_at hl 7 rfl) ?_
              refine k_icn C 4 dX8_feed_105 (by decide) ?_
              refine k_rem C dX8_feed_106 (by omega) (by omega) (by omega) ?_
              refine k_mul C dX8_feed_107 ?_
              refine k_sub C dX8_feed_108 (by omega) ?_
              refine lv_ishr C.1 C.2.1 dX8_feed_109 ?_
              refine lv_i2b C.1 C.2.1 dX8_feed_110 rfl ?_
              refine k_bast C F hw (199) (by omega) eL34_1 (ln + i) (by omega) (by decide) dX8_feed_111 (fun H locs hw => ?_)
              have hw : Wd D (AA R ad sz) s R ad (va_up gL (199) (ba ca 800 (upd t1 (ln + i) (vp_nar .byte (((nI (b)) >>> ((nI (24 - (8 * (i % 4)))) &&& 31)).toInt8.toInt32))))) H locs := hw
              obtain ⟨g93, hg93⟩ : ∃ z, z = va_up gL (199) (ba ca 800 (upd t1 (ln + i) (vp_nar .byte (((nI (b)) >>> ((nI (24 - (8 * (i % 4)))) &&& 31)).toInt8.toInt32)))) := ⟨_, rfl⟩
              rw [← hg93] at hw
              have hk94 : ∀ z, z ≠ 199 → g93 z = gL z := fun z hz => by rw [hg93]; exact va_up_ne _ _ hz
              have e95 : g93 (199) = ba ca 800 (upd t1 (ln + i) (vp_nar .byte (((nI (b)) >>> ((nI (24 - (8 * (i % 4)))) &&& 31)).toInt8.toInt32))) := by rw [hg93]; exact va_up_self _ _ _
              have e96 : g93 (198) = .inr (8, [.int (nI 0), .ref (ad 199), .int (nI (ln + i)), .ref (ad 200), .int (nI bk), .int (nI bt), .ref (ad 201), .int (nI ck), .int (nI ct), .ref (ad 202), .int (nI cn), .int (nI pk), .ref (ad 203), .ref (ad 204), .int (nI rw), .ref (ad 205), .ref (ad 206), .int (bI (gt)), .ref (ad 207)]) := (hk94 _ (by omega)).trans eL34_0
              have e97 : g93 (200) = ia ca 49 (tn) := (hk94 _ (by omega)).trans eL34_2
              have e98 : g93 (201) = na ca 944 (fi IN) := (hk94 _ (by omega)).trans eL34_3
              have e99 : g93 (202) = na ca 4425 (fl CG) := (hk94 _ (by omega)).trans eL34_4
              have e100 : g93 (203) = na ca 9000 (fl M) := (hk94 _ (by omega)).trans eL34_5
              have e101 : g93 (204) = na ca 120 (pv) := (hk94 _ (by omega)).trans eL34_6
              have e102 : g93 (205) = na ca 75 (ro) := (hk94 _ (by omega)).trans eL34_7
              have e103 : g93 (206) = na ca 255 (pm) := (hk94 _ (by omega)).trans eL34_8
              have e104 : g93 (207) = na ca 16 (bb) := (hk94 _ (by omega)).trans eL34_9
              have hs105 : ∀ z, (z < 198 ∨ 207 < z) → g93 z = g z := fun z hz => (hk94 z (by omega)).trans (hsL34 z hz)
              refine lv_aload_n C.1 C.2.1 dX8_feed_112 rfl (lv_at hl 1 rfl) ?_
              refine lv_dup C.1 C.2.1 dX8_feed_113 rfl ?_
              refine k_get C F hw (198) (by omega) e96 rfl in_X8 2 (by decide) fl_X8_46 rfl dX8_feed_114 ?_
              refine k_icn C 1 dX8_feed_117 (by decide) ?_
              refine k_add C dX8_feed_118 ?_
              refine k_put C F hw (198) (by omega) e96 rfl in_X8 tyX8_ok nmX8 2 (by decide) fl_X8_46 rfl (v := .int (nI ((ln + i) + 1))) rfl rfl (Nat.le_of_ble_eq_true rfl) dX8_feed_119 (fun H locs hw => ?_)
              have hw : Wd D (AA R ad sz) s R ad (va_up g93 (198) (.inr (8, [.int (nI 0), .ref (ad 199), .int (nI ((ln + i) + 1)), .ref (ad 200), .int (nI bk), .int (nI bt), .ref (ad 201), .int (nI ck), .int (nI ct), .ref (ad 202), .int (nI cn), .int (nI pk), .ref (ad 203), .ref (ad 204), .int (nI rw), .ref (ad 205), .ref (ad 206), .int (bI (gt)), .ref (ad 207)]))) H locs := hw
              obtain ⟨g106, hg106⟩ : ∃ z, z = va_up g93 (198) (.inr (8, [.int (nI 0), .ref (ad 199), .int (nI ((ln + i) + 1)), .ref (ad 200), .int (nI bk), .int (nI bt), .ref (ad 201), .int (nI ck), .int (nI ct), .ref (ad 202), .int (nI cn), .int (nI pk), .ref (ad 203), .ref (ad 204), .int (nI rw), .ref (ad 205), .ref (ad 206), .int (bI (gt)), .ref (ad 207)])) := ⟨_, rfl⟩
              rw [← hg106] at hw
              have hk107 : ∀ z, z ≠ 198 → g106 z = g93 z := fun z hz => by rw [hg106]; exact va_up_ne _ _ hz
              have e108 : g106 (198) = .inr (8, [.int (nI 0), .ref (ad 199), .int (nI ((ln + i) + 1)), .ref (ad 200), .int (nI bk), .int (nI bt), .ref (ad 201), .int (nI ck), .int (nI ct), .ref (ad 202), .int (nI cn), .int (nI pk), .ref (ad 203), .ref (ad 204), .int (nI rw), .ref (ad 205), .ref (ad 206), .int (bI (gt)), .ref (ad 207)]) := by rw [hg106]; exact va_up_self _ _ _
              have e109 : g106 (199) = ba ca 800 (upd t1 (ln + i) (vp_nar .byte (((nI (b)) >>> ((nI (24 - (8 * (i % 4)))) &&& 31)).toInt8.toInt32))) := (hk107 _ (by omega)).trans e95
              have e110 : g106 (200) = ia ca 49 (tn) := (hk107 _ (by omega)).trans e97
              have e111 : g106 (201) = na ca 944 (fi IN) := (hk107 _ (by omega)).trans e98
              have e112 : g106 (202) = na ca 4425 (fl CG) := (hk107 _ (by omega)).trans e99
              have e113 : g106 (203) = na ca 9000 (fl M) := (hk107 _ (by omega)).trans e100
              have e114 : g106 (204) = na ca 120 (pv) := (hk107 _ (by omega)).trans e101
              have e115 : g106 (205) = na ca 75 (ro) := (hk107 _ (by omega)).trans e102
              have e116 : g106 (206) = na ca 255 (pm) := (hk107 _ (by omega)).trans e103
              have e117 : g106 (207) = na ca 16 (bb) := (hk107 _ (by omega)).trans e104
              have hs118 : ∀ z, (z < 198 ∨ 207 < z) → g106 z = g z := fun z hz => (hk107 z (by omega)).trans (hs105 z hz)
              refine k_inc C (i + 1) (lv' := [(6, .int (nI (i + 1))), (7, .int (nI b)), (0, .ref (ad 198)), (1, .int (nI a)), (2, .int (nI b)), (3, .int (nI c0)), (4, .int (nI d)), (5, .int (nI e0))]) dX8_feed_122 hl (k := 7) rfl (inc1 _) (by decide) rfl (fun ls hl => ?_)
              refine lv_goto (tgt := 34) C.1 C.2.1 dX8_feed_125 (by decide) ?_
              exact ih34 (i + 1) (upd t1 (ln + i) (vp_nar .byte (((nI (b)) >>> ((nI (24 - (8 * (i % 4)))) &&& 31)).toInt8.toInt32))) g106 H locs ls (by omega) (by omega) (fd_step (w := b) (by omega) (by rw [if_neg (show ¬ i < 4 by omega), if_pos (show i < 8 by omega)]) ht1) hs118 e108 e109 e110 e111 e112 e113 e114 e115 e116 e117 hw (lv_sub hl [2, 3, 4, 5, 6, 7, 0] rfl)
          · refine lv_iload_n C.1 C.2.1 dX8_feed_47 rfl (lv_at hl 1 rfl) ?_
            refine lv_goto (tgt := 87) C.1 C.2.1 dX8_feed_48 (by decide) ?_
            refine lv_istore (lv' := [(7, .int (nI a)), (0, .ref (ad 198)), (1, .int (nI a)), (2, .int (nI b)), (3, .int (nI c0)), (4, .int (nI d)), (5, .int (nI e0)), (6, .int (nI i))]) C.1 C.2.1 dX8_feed_87 hl (by decide) rfl (fun ls hl => ?_)
            refine lv_aload_n C.1 C.2.1 dX8_feed_89 rfl (lv_at hl 1 rfl) ?_
            refine k_get C F hw (198) (by omega) eL34_0 rfl in_X8 1 (by decide) fl_X8_7 rfl dX8_feed_90 ?_
            refine lv_aload_n C.1 C.2.1 dX8_feed_93 rfl (lv_at hl 1 rfl) ?_
            refine k_get C F hw (198) (by omega) eL34_0 rfl in_X8 2 (by decide) fl_X8_46 rfl dX8_feed_94 ?_
            refine lv_iload C.1 C.2.1 dX8_feed_97 (lv_at hl 0 rfl) ?_
            refine k_bip C 24 dX8_feed_99 (by decide) ?_
            refine k_bip C 8 dX8_feed_101 (by decide) ?_
            refine lv_iload C.1 C.2.1 dX8_feed_103 (lv_at hl 7 rfl) ?_
            refine k_icn C 4 dX8_feed_105 (by decide) ?_
            refine k_rem C dX8_feed_106 (by omega) (by omega) (by omega) ?_
            refine k_mul C dX8_feed_107 ?_
            refine k_sub C dX8_feed_108 (by omega) ?_
            refine lv_ishr C.1 C.2.1 dX8_feed_109 ?_
            refine lv_i2b C.1 C.2.1 dX8_feed_110 rfl ?_
            refine k_bast C F hw (199) (by omega) eL34_1 (ln + i) (by omega) (by decide) dX8_feed_111 (fun H locs hw => ?_)
            have hw : Wd D (AA R ad sz) s R ad (va_up gL (199) (ba ca 800 (upd t1 (ln + i) (vp_nar .byte (((nI (a)) >>> ((nI (24 - (8 * (i % 4)))) &&& 31)).toInt8.toInt32))))) H locs := hw
            obtain ⟨g119, hg119⟩ : ∃ z, z = va_up gL (199) (ba ca 800 (upd t1 (ln + i) (vp_nar .byte (((nI (a)) >>> ((nI (24 - (8 * (i % 4)))) &&& 31)).toInt8.toInt32)))) := ⟨_, rfl⟩
            rw [← hg119] at hw
            have hk120 : ∀ z, z ≠ 199 → g119 z = gL z := fun z hz => by rw [hg119]; exact va_up_ne _ _ hz
            have e121 : g119 (199) = ba ca 800 (upd t1 (ln + i) (vp_nar .byte (((nI (a)) >>> ((nI (24 - (8 * (i % 4)))) &&& 31)).toInt8.toInt32))) := by rw [hg119]; exact va_up_self _ _ _
            have e122 : g119 (198) = .inr (8, [.int (nI 0), .ref (ad 199), .int (nI (ln + i)), .ref (ad 200), .int (nI bk), .int (nI bt), .ref (ad 201), .int (nI ck), .int (nI ct), .ref (ad 202), .int (nI cn), .int (nI pk), .ref (ad 203), .ref (ad 204), .int (nI rw), .ref (ad 205), .ref (ad 206), .int (bI (gt)), .ref (ad 207)]) := (hk120 _ (by omega)).trans eL34_0
            have e123 : g119 (200) = ia ca 49 (tn) := (hk120 _ (by omega)).trans eL34_2
            have e124 : g119 (201) = na ca 944 (fi IN) := (hk120 _ (by omega)).trans eL34_3
            have e125 : g119 (202) = na ca 4425 (fl CG) := (hk120 _ (by omega)).trans eL34_4
            have e126 : g119 (203) = na ca 9000 (fl M) := (hk120 _ (by omega)).trans eL34_5
            have e127 : g119 (204) = na ca 120 (pv) := (hk120 _ (by omega)).trans eL34_6
            have e128 : g119 (205) = na ca 75 (ro) := (hk120 _ (by omega)).trans eL34_7
            have e129 : g119 (206) = na ca 255 (pm) := (hk120 _ (by omega)).trans eL34_8
            have e130 : g119 (207) = na ca 16 (bb) := (hk120 _ (by omega)).trans eL34_9
            have hs131 : ∀ z, (z < 198 ∨ 207 < z) → g119 z = g z := fun z hz => (hk120 z (by omega)).trans (hsL34 z hz)
            refine lv_aload_n C.1 C.2.1 dX8_feed_112 rfl (lv_at hl 1 rfl) ?_
            refine lv_dup C.1 C.2.1 dX8_feed_113 rfl ?_
            refine k_get C F hw (198) (by omega) e122 rfl in_X8 2 (by decide) fl_X8_46 rfl dX8_feed_114 ?_
            refine k_icn C 1 dX8_feed_117 (by decide) ?_
            refine k_add C dX8_feed_118 ?_
            refine k_put C F hw (198) (by omega) e122 rfl in_X8 tyX8_ok nmX8 2 (by decide) fl_X8_46 rfl (v := .int (nI ((ln + i) + 1))) rfl rfl (Nat.le_of_ble_eq_true rfl) dX8_feed_119 (fun H locs hw => ?_)
            have hw : Wd D (AA R ad sz) s R ad (va_up g119 (198) (.inr (8, [.int (nI 0), .ref (ad 199), .int (nI ((ln + i) + 1)), .ref (ad 200), .int (nI bk), .int (nI bt), .ref (ad 201), .int (nI ck), .int (nI ct), .ref (ad 202), .int (nI cn), .int (nI pk), .ref (ad 203), .ref (ad 204), .int (nI rw), .ref (ad 205), .ref (ad 206), .int (bI (gt)), .ref (ad 207)]))) H locs := hw
            obtain ⟨g132, hg132⟩ : ∃ z, z = va_up g119 (198) (.inr (8, [.int (nI 0), .ref (ad 199), .int (nI ((ln + i) + 1)), .ref (ad 200), .int (nI bk), .int (nI bt), .ref (ad 201), .int (nI ck), .int (nI ct), .ref (ad 202), .int (nI cn), .int (nI pk), .ref (ad 203), .ref (ad 204), .int (nI rw), .ref (ad 205), .ref (ad 206), .int (bI (gt)), .ref (ad 207)])) := ⟨_, rfl⟩
            rw [← hg132] at hw
            have hk133 : ∀ z, z ≠ 198 → g132 z = g119 z := fun z hz => by rw [hg132]; exact va_up_ne _ _ hz
            have e134 : g132 (198) = .inr (8, [.int (nI 0), .ref (ad 199), .int (nI ((ln + i) + 1)), .ref (ad 200), .int (nI bk), .int (nI bt), .ref (ad 201), .int (nI ck), .int (nI ct), .ref (ad 202), .int (nI cn), .int (nI pk), .ref (ad 203), .ref (ad 204), .int (nI rw), .ref (ad 205), .ref (ad 206), .int (bI (gt)), .ref (ad 207)]) := by rw [hg132]; exact va_up_self _ _ _
            have e135 : g132 (199) = ba ca 800 (upd t1 (ln + i) (vp_nar .byte (((nI (a)) >>> ((nI (24 - (8 * (i % 4)))) &&& 31)).toInt8.toInt32))) := (hk133 _ (by omega)).trans e121
            have e136 : g132 (200) = ia ca 49 (tn) := (hk133 _ (by omega)).trans e123
            have e137 : g132 (201) = na ca 944 (fi IN) := (hk133 _ (by omega)).trans e124
            have e138 : g132 (202) = na ca 4425 (fl CG) := (hk133 _ (by omega)).trans e125
            have e139 : g132 (203) = na ca 9000 (fl M) := (hk133 _ (by omega)).trans e126
            have e140 : g132 (204) = na ca 120 (pv) := (hk133 _ (by omega)).trans e127
            have e141 : g132 (205) = na ca 75 (ro) := (hk133 _ (by omega)).trans e128
            have e142 : g132 (206) = na ca 255 (pm) := (hk133 _ (by omega)).trans e129
            have e143 : g132 (207) = na ca 16 (bb) := (hk133 _ (by omega)).trans e130
            have hs144 : ∀ z, (z < 198 ∨ 207 < z) → g132 z = g z := fun z hz => (hk133 z (by omega)).trans (hs131 z hz)
            refine k_inc C (i + 1) (lv' := [(6, .int (nI (i + 1))), (7, .int (nI a)), (0, .ref (ad 198)), (1, .int (nI a)), (2, .int (nI b)), (3, .int (nI c0)), (4, .int (nI d)), (5, .int (nI e0))]) dX8_feed_122 hl (k := 7) rfl (inc1 _) (by decide) rfl (fun ls hl => ?_)
            refine lv_goto (tgt := 34) C.1 C.2.1 dX8_feed_125 (by decide) ?_
            exact ih34 (i + 1) (upd t1 (ln + i) (vp_nar .byte (((nI (a)) >>> ((nI (24 - (8 * (i % 4)))) &&& 31)).toInt8.toInt32))) g132 H locs ls (by omega) (by omega) (fd_step (w := a) (by omega) (by rw [if_pos (show i < 4 by omega)]) ht1) hs144 e134 e135 e136 e137 e138 e139 e140 e141 e142 e143 hw (lv_sub hl [2, 3, 4, 5, 6, 7, 0] rfl)
    exact loop34 _ 0 tp g1 H locs ls (Nat.le_refl _) (by omega) (fun j hj => by rw [hth.2 j hj]; unfold thF; rw [if_neg (by omega)]) hs13 e3 e4 e5 e6 e7 e8 e9 e10 e11 e12 hw (lv_sub hl [1, 2, 3, 4, 5, 6, 0] rfl)
  · refine k_icn C 1 dX8_feed_14 (by decide) ?_
    refine lv_goto (tgt := 19) C.1 C.2.1 dX8_feed_15 (by decide) ?_
    refine k_put C F hw (198) (by omega) q198 rfl in_X8 tyX8_ok nmX8 0 (by decide) fl_X8_42 rfl (v := .int (nI 1)) rfl rfl (Nat.le_of_ble_eq_true rfl) dX8_feed_19 (fun H locs hw => ?_)
    have hw : Wd D (AA R ad sz) s R ad (va_up g (198) (.inr (8, [.int (nI 1), .ref (ad 199), .int (nI ln), .ref (ad 200), .int (nI bk), .int (nI bt), .ref (ad 201), .int (nI ck), .int (nI ct), .ref (ad 202), .int (nI cn), .int (nI pk), .ref (ad 203), .ref (ad 204), .int (nI rw), .ref (ad 205), .ref (ad 206), .int (bI (gt)), .ref (ad 207)]))) H locs := hw
    obtain ⟨g145, hg145⟩ : ∃ z, z = va_up g (198) (.inr (8, [.int (nI 1), .ref (ad 199), .int (nI ln), .ref (ad 200), .int (nI bk), .int (nI bt), .ref (ad 201), .int (nI ck), .int (nI ct), .ref (ad 202), .int (nI cn), .int (nI pk), .ref (ad 203), .ref (ad 204), .int (nI rw), .ref (ad 205), .ref (ad 206), .int (bI (gt)), .ref (ad 207)])) := ⟨_, rfl⟩
    rw [← hg145] at hw
    have hk146 : ∀ z, z ≠ 198 → g145 z = g z := fun z hz => by rw [hg145]; exact va_up_ne _ _ hz
    have e147 : g145 (198) = .inr (8, [.int (nI 1), .ref (ad 199), .int (nI ln), .ref (ad 200), .int (nI bk), .int (nI bt), .ref (ad 201), .int (nI ck), .int (nI ct), .ref (ad 202), .int (nI cn), .int (nI pk), .ref (ad 203), .ref (ad 204), .int (nI rw), .ref (ad 205), .ref (ad 206), .int (bI (gt)), .ref (ad 207)]) := by rw [hg145]; exact va_up_self _ _ _
    have e148 : g145 (199) = ba ca 800 (tp) := (hk146 _ (by omega)).trans q199
    have e149 : g145 (200) = ia ca 49 (tn) := (hk146 _ (by omega)).trans q200
    have e150 : g145 (201) = na ca 944 (fi IN) := (hk146 _ (by omega)).trans q201
    have e151 : g145 (202) = na ca 4425 (fl CG) := (hk146 _ (by omega)).trans q202
    have e152 : g145 (203) = na ca 9000 (fl M) := (hk146 _ (by omega)).trans q203
    have e153 : g145 (204) = na ca 120 (pv) := (hk146 _ (by omega)).trans q204
    have e154 : g145 (205) = na ca 75 (ro) := (hk146 _ (by omega)).trans q205
    have e155 : g145 (206) = na ca 255 (pm) := (hk146 _ (by omega)).trans q206
    have e156 : g145 (207) = na ca 16 (bb) := (hk146 _ (by omega)).trans q207
    have hs157 : ∀ z, (z < 198 ∨ 207 < z) → g145 z = g z := fun z hz => hk146 z (by omega)
    refine lv_aload_n C.1 C.2.1 dX8_feed_22 rfl (lv_at hl 0 rfl) ?_
    refine k_get C F hw (198) (by omega) e147 rfl in_X8 0 (by decide) fl_X8_42 rfl dX8_feed_23 ?_
    refine k_zle (tgt := 31) C dX8_feed_26 (by decide) (by omega) (fun h => absurd h (by decide)) (fun _ => ?_)
    refine k_icn C 0 dX8_feed_29 (by decide) ?_
    have hS158 : MSt ca ad g145 pm (nI (1)) ln th bk bt IN ck ct CG cn pk tp rw gt M pv ro tn bb := ⟨⟨e147, e148, e149, e150, e151, e152, e153, e154, e155, e156⟩, hmb, hbb, hCG, hIN, htn, hgt, hbd, hGr, hth⟩
    exact hret H locs ls _ _ _ dX8_feed_30 hw (⟨hs157, Or.inr ⟨by omega, ⟨_, _, _, _, _, _, _, _, hS158⟩⟩⟩)
