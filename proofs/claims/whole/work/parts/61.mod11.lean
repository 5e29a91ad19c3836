/-! ===== FountainDeskModel: block ===== -/
/-- line x of a block: packet x with the tape's bytes -/
noncomputable def bkV (pm : Nat → Nat) (k t : Nat) (th : Nat → Nat) : Nat → Nat → Nat := fun x => vlV (pkR k x (tnN (fbG pm k))) (fun i => th (t * x + i)) t
theorem by_bkV {pm th : Nat → Nat} {k t : Nat} (h : By th) (x : Nat) : By (bkV pm k t th x) := by_vlV (by_pkR _ _ _) (fun i => h _)
theorem blk_gr {pm th : Nat → Nat} {k t : Nat} (hk : k ≤ 48) (hT : tnN (fbG pm k) < 1000) : Gr (k + 11) (VV pm k (bkV pm k t th)) (11 + k) := by
  refine Gr_congr (fun i hi c hc => ?_) (fbG_iff.mp (tnN_ok hT))
  unfold VV
  split
  · rfl
  · unfold bkV vlV; rw [if_neg (by omega)]

abbrev rm_X8_block : Room := { frames := 6, cells := 0, slots := 0, locals := 141 }

theorem bs_ne {L n : Nat} {M : Nat → Nat → Nat} {pv : Nat → Nat} (h : Bs L n M pv) {q r : Nat} (hq : q < n) (hr : r < n) (hne : q ≠ r) : pv q ≠ pv r := fun e => by
  have h1 := (h q hq).2.1
  have h2 := (h r hr).2.2 q hq hne
  rw [e] at h1
  omega

theorem bl_no {ln k t k' t' : Nat} (h : ¬ ln = k * t) (h1 : nI k = nI k') (h2 : nI t = nI t') (hk : 1 ≤ k ∧ k ≤ 48) (ht : 1 ≤ t ∧ t ≤ 16) (hk' : 1 ≤ k' ∧ k' ≤ 48) (ht' : 1 ≤ t' ∧ t' ≤ 16) (h5 : ln = k' * t') : False := by
  rw [nI_eq (by omega) (by omega)] at h1 h2
  subst h1 h2
  exact h h5

set_option maxHeartbeats 800000 in
set_option maxRecDepth 100000 in
/-- block -/
theorem c_X8_block {l : Launch} {D : va_G} {ca : Nat → ClassId} {tB tS R : Nat} {ad : Nat → Nat} {g : Nat → va_E} {sz : Nat} (hR : 207 < R) (pm : Nat → Nat) (hpm : PmOk pm) (hT : ∀ k, 1 ≤ k → k ≤ 48 → tnN (fbG pm k) < 1000) (cd : Int32) (ln : Nat) (th : Nat → Nat) (bk bt : Nat) (IN : Nat → Nat → Nat) (ck ct : Nat) (CG : Nat → Nat → Nat) (cn pk : Nat) (hI : MInv ca ad g pm cd ln th bk bt IN ck ct CG cn pk) (kx tx : Int32) : MV l yX8_block cX8_block 7 rm_X8_block D ca tB tS R ad g sz [.ref (ad 198), .int (kx), .int (tx)] (fun g1 => (∀ z, z < 198 ∨ 207 < z → g1 z = g z) ∧ ((∃ k t : Nat, kx = nI k ∧ tx = nI t ∧ (1 ≤ k ∧ k ≤ 48) ∧ (1 ≤ t ∧ t ≤ 16) ∧ ln = k * t ∧ ∃ IN1 u, KmOK (k + 11) (VV pm k (bkV pm k t th)) (11 + k) u ∧ MBy u ∧ (∀ r, r < k + 11 → ∀ i, i < t → IN1 (u.2.2.1 r) i = u.2.1 r (59 + i)) ∧ MInv ca ad g1 pm (nI 0) 0 th k t IN1 ck ct CG cn pk) ∨ ((¬ ∃ k t : Nat, kx = nI k ∧ tx = nI t ∧ (1 ≤ k ∧ k ≤ 48) ∧ (1 ≤ t ∧ t ≤ 16) ∧ ln = k * t) ∧ MInv ca ad g1 pm (nI 1) ln th bk bt IN ck ct CG cn pk))) := by
  refine m_startV (by decide +kernel) (Nat.le_of_ble_eq_true rfl) (fun p e s m args below meth c ls Q hsz C hnm hl F hw hret => ?_)
  have hl : lv_has ls 7 [(0, .ref (ad 198)), (1, .int (kx)), (2, .int (tx))] := hl
  generalize s.heap = H at hw ⊢
  generalize ([] : List Loc) = locs at hw ⊢
  obtain ⟨tp, rw, gt, M, pv, ro, tn, bb, hS⟩ := hI
  obtain ⟨⟨q198, q199, q200, q201, q202, q203, q204, q205, q206, q207⟩, hmb, hbb, hCG, hIN, htn, hgt, hbd, hGr, hth⟩ := hS
  have hbd2 := hbd.2.1
  have hbd3 := hbd.2.2
  have hln := hbd.1
  refine lv_aload_n C.1 C.2.1 dX8_block_0 rfl (lv_at hl 0 rfl) ?_
  refine lv_iload_n C.1 C.2.1 dX8_block_1 rfl (lv_at hl 1 rfl) ?_
  refine k_Si C F hw (As := [.int (kx)]) (rest := [.ref (ad 198)]) (c_X8_isK kx) (va_cwS _ C.2.2.2.2 gm_X8_107 rfl rfl rfl cd_X8_isK.2 ⟨by decide, by decide⟩) hl.1 rfl (Nat.le_of_ble_eq_true rfl) dX8_block_2 ⟨by decide, by decide⟩ (fun r1 g2 H locs hp hw => ?_)
  obtain ⟨hr9, hg9⟩ := hp
  rw [hg9] at hw
  subst hr9
  refine k_beq (tgt := 25) C dX8_block_5 (by decide) (fun hc5 => ?_) (fun hc5 => ?_)
  · refine k_icn C 1 dX8_block_25 (by decide) ?_
    refine lv_goto (tgt := 30) C.1 C.2.1 dX8_block_26 (by decide) ?_
    refine k_put C F hw (198) (by omega) q198 rfl in_X8 tyX8_ok nmX8 0 (by decide) fl_X8_42 rfl (v := .int (nI 1)) rfl rfl (Nat.le_of_ble_eq_true rfl) dX8_block_30 (fun H locs hw => ?_)
    have hw : Wd D (AA R ad sz) s R ad (va_up g (198) (.inr (8, [.int (nI 1), .ref (ad 199), .int (nI ln), .ref (ad 200), .int (nI bk), .int (nI bt), .ref (ad 201), .int (nI ck), .int (nI ct), .ref (ad 202), .int (nI cn), .int (nI pk), .ref (ad 203), .ref (ad 204), .int (nI rw), .ref (ad 205), .ref (ad 206), .int (bI (gt)), .ref (ad 207)]))) H locs := hw
    obtain ⟨g3, hg3⟩ : ∃ z, z = va_up g (198) (.inr (8, [.int (nI 1), .ref (ad 199), .int (nI ln), .ref (ad 200), .int (nI bk), .int (nI bt), .ref (ad 201), .int (nI ck), .int (nI ct), .ref (ad 202), .int (nI cn), .int (nI pk), .ref (ad 203), .ref (ad 204), .int (nI rw), .ref (ad 205), .ref (ad 206), .int (bI (gt)), .ref (ad 207)])) := ⟨_, rfl⟩
    rw [← hg3] at hw
    have hk4 : ∀ z, z ≠ 198 → g3 z = g z := fun z hz => by rw [hg3]; exact va_up_ne _ _ hz
    have e5 : g3 (198) = .inr (8, [.int (nI 1), .ref (ad 199), .int (nI ln), .ref (ad 200), .int (nI bk), .int (nI bt), .ref (ad 201), .int (nI ck), .int (nI ct), .ref (ad 202), .int (nI cn), .int (nI pk), .ref (ad 203), .ref (ad 204), .int (nI rw), .ref (ad 205), .ref (ad 206), .int (bI (gt)), .ref (ad 207)]) := by rw [hg3]; exact va_up_self _ _ _
    have e6 : g3 (199) = ba ca 800 (tp) := (hk4 _ (by omega)).trans q199
    have e7 : g3 (200) = ia ca 49 (tn) := (hk4 _ (by omega)).trans q200
    have e8 : g3 (201) = na ca 944 (fi IN) := (hk4 _ (by omega)).trans q201
    have e9 : g3 (202) = na ca 4425 (fl CG) := (hk4 _ (by omega)).trans q202
    have e10 : g3 (203) = na ca 9000 (fl M) := (hk4 _ (by omega)).trans q203
    have e11 : g3 (204) = na ca 120 (pv) := (hk4 _ (by omega)).trans q204
    have e12 : g3 (205) = na ca 75 (ro) := (hk4 _ (by omega)).trans q205
    have e13 : g3 (206) = na ca 255 (pm) := (hk4 _ (by omega)).trans q206
    have e14 : g3 (207) = na ca 16 (bb) := (hk4 _ (by omega)).trans q207
    have hs15 : ∀ z, (z < 198 ∨ 207 < z) → g3 z = g z := fun z hz => hk4 z (by omega)
    refine lv_aload_n C.1 C.2.1 dX8_block_33 rfl (lv_at hl 0 rfl) ?_
    refine k_get C F hw (198) (by omega) e5 rfl in_X8 0 (by decide) fl_X8_42 rfl dX8_block_34 ?_
    refine k_zle (tgt := 41) C dX8_block_37 (by decide) (by omega) (fun h => absurd h (by decide)) (fun _ => ?_)
    have hS16 : MSt ca ad g3 pm (nI (1)) ln th bk bt IN ck ct CG cn pk tp rw gt M pv ro tn bb := ⟨⟨e5, e6, e7, e8, e9, e10, e11, e12, e13, e14⟩, hmb, hbb, hCG, hIN, htn, hgt, hbd, hGr, hth⟩
    exact hret H locs ls _ _ dX8_block_40 hw (⟨hs15, Or.inr ⟨fun ⟨k, t, h1, h2, h3, h4, h5⟩ => by first | (subst h1; exact of_decide_eq_false hc5 ⟨nI_le (a := 1) h3.1 (by omega), nI_le (b := 48) h3.2 (by decide)⟩) | (subst h2; exact of_decide_eq_false hc12 ⟨nI_le (a := 1) h4.1 (by omega), nI_le (b := 16) h4.2 (by decide)⟩) | (exact bl_no hc22 h1 h2 hk ht h3 h4 h5), ⟨_, _, _, _, _, _, _, _, hS16⟩⟩⟩)
  · refine lv_iload_n C.1 C.2.1 dX8_block_8 rfl (lv_at hl 2 rfl) ?_
    refine k_Si C F hw (As := [.int (tx)]) (rest := [.ref (ad 198)]) (c_X8_isT tx) (va_cwS _ C.2.2.2.2 gm_X8_113 rfl rfl rfl cd_X8_isT.2 ⟨by decide, by decide⟩) hl.1 rfl (Nat.le_of_ble_eq_true rfl) dX8_block_9 ⟨by decide, by decide⟩ (fun r17 g18 H locs hp hw => ?_)
    obtain ⟨hr9, hg9⟩ := hp
    rw [hg9] at hw
    subst hr9
    refine k_beq (tgt := 25) C dX8_block_12 (by decide) (fun hc12 => ?_) (fun hc12 => ?_)
    · refine k_icn C 1 dX8_block_25 (by decide) ?_
      refine lv_goto (tgt := 30) C.1 C.2.1 dX8_block_26 (by decide) ?_
      refine k_put C F hw (198) (by omega) q198 rfl in_X8 tyX8_ok nmX8 0 (by decide) fl_X8_42 rfl (v := .int (nI 1)) rfl rfl (Nat.le_of_ble_eq_true rfl) dX8_block_30 (fun H locs hw => ?_)
      have hw : Wd D (AA R ad sz) s R ad (va_up g (198) (.inr (8, [.int (nI 1), .ref (ad 199), .int (nI ln), .ref (ad 200), .int (nI bk), .int (nI bt), .ref (ad 201), .int (nI ck), .int (nI ct), .ref (ad 202), .int (nI cn), .int (nI pk), .ref (ad 203), .ref (ad 204), .int (nI rw), .ref (ad 205), .ref (ad 206), .int (bI (gt)), .ref (ad 207)]))) H locs := hw
      obtain ⟨g19, hg19⟩ : ∃ z, z = va_up g (198) (.inr (8, [.int (nI 1), .ref (ad 199), .int (nI ln), .ref (ad 200), .int (nI bk), .int (nI bt), .ref (ad 201), .int (nI ck), .int (nI ct), .ref (ad 202), .int (nI cn), .int (nI pk), .ref (ad 203), .ref (ad 204), .int (nI rw), .ref (ad 205), .ref (ad 206), .int (bI (gt)), .ref (ad 207)])) := ⟨_, rfl⟩
      rw [← hg19] at hw
      have hk20 : ∀ z, z ≠ 198 → g19 z = g z := fun z hz => by rw [hg19]; exact va_up_ne _ _ hz
      have e21 : g19 (198) = .inr (8, [.int (nI 1), .ref (ad 199), .int (nI ln), .ref (ad 200), .int (nI bk), .int (nI bt), .ref (ad 201), .int (nI ck), .int (nI ct), .ref (ad 202), .int (nI cn), .int (nI pk), .ref (ad 203), .ref (ad 204), .int (nI rw), .ref (ad 205), .ref (ad 206), .int (bI (gt)), .ref (ad 207)]) := by rw [hg19]; exact va_up_self _ _ _
      have e22 : g19 (199) = ba ca 800 (tp) := (hk20 _ (by omega)).trans q199
      have e23 : g19 (200) = ia ca 49 (tn) := (hk20 _ (by omega)).trans q200
      have e24 : g19 (201) = na ca 944 (fi IN) := (hk20 _ (by omega)).trans q201
      have e25 : g19 (202) = na ca 4425 (fl CG) := (hk20 _ (by omega)).trans q202
      have e26 : g19 (203) = na ca 9000 (fl M) := (hk20 _ (by omega)).trans q203
      have e27 : g19 (204) = na ca 120 (pv) := (hk20 _ (by omega)).trans q204
      have e28 : g19 (205) = na ca 75 (ro) := (hk20 _ (by omega)).trans q205
      have e29 : g19 (206) = na ca 255 (pm) := (hk20 _ (by omega)).trans q206
      have e30 : g19 (207) = na ca 16 (bb) := (hk20 _ (by omega)).trans q207
      have hs31 : ∀ z, (z < 198 ∨ 207 < z) → g19 z = g z := fun z hz => hk20 z (by omega)
      refine lv_aload_n C.1 C.2.1 dX8_block_33 rfl (lv_at hl 0 rfl) ?_
      refine k_get C F hw (198) (by omega) e21 rfl in_X8 0 (by decide) fl_X8_42 rfl dX8_block_34 ?_
      refine k_zle (tgt := 41) C dX8_block_37 (by decide) (by omega) (fun h => absurd h (by decide)) (fun _ => ?_)
      have hS32 : MSt ca ad g19 pm (nI (1)) ln th bk bt IN ck ct CG cn pk tp rw gt M pv ro tn bb := ⟨⟨e21, e22, e23, e24, e25, e26, e27, e28, e29, e30⟩, hmb, hbb, hCG, hIN, htn, hgt, hbd, hGr, hth⟩
      exact hret H locs ls _ _ dX8_block_40 hw (⟨hs31, Or.inr ⟨fun ⟨k, t, h1, h2, h3, h4, h5⟩ => by first | (subst h1; exact of_decide_eq_false hc5 ⟨nI_le (a := 1) h3.1 (by omega), nI_le (b := 48) h3.2 (by decide)⟩) | (subst h2; exact of_decide_eq_false hc12 ⟨nI_le (a := 1) h4.1 (by omega), nI_le (b := 16) h4.2 (by decide)⟩) | (exact bl_no hc22 h1 h2 hk ht h3 h4 h5), ⟨_, _, _, _, _, _, _, _, hS32⟩⟩⟩)
    · obtain ⟨k, hk, rfl⟩ := nat_of48 (of_decide_eq_true hc5)
      obtain ⟨t, ht, rfl⟩ := nat_of16 (of_decide_eq_true hc12)
      have hkt : k * t ≤ 48 * 16 := Nat.mul_le_mul hk.2 ht.2
      have hT1 := hT k hk.1 hk.2
      refine lv_aload_n C.1 C.2.1 dX8_block_15 rfl (lv_at hl 0 rfl) ?_
      refine k_get C F hw (198) (by omega) q198 rfl in_X8 2 (by decide) fl_X8_46 rfl dX8_block_16 ?_
      refine lv_iload_n C.1 C.2.1 dX8_block_19 rfl (lv_at hl 1 rfl) ?_
      refine lv_iload_n C.1 C.2.1 dX8_block_20 rfl (lv_at hl 2 rfl) ?_
      refine k_mul C dX8_block_21 ?_
      refine k_ieq (tgt := 29) C dX8_block_22 (by decide) (by omega) (by omega) (fun hc22 => ?_) (fun hc22 => ?_)
      · refine k_icn C 0 dX8_block_29 (by decide) ?_
        refine k_put C F hw (198) (by omega) q198 rfl in_X8 tyX8_ok nmX8 0 (by decide) fl_X8_42 rfl (v := .int (nI 0)) rfl rfl (Nat.le_of_ble_eq_true rfl) dX8_block_30 (fun H locs hw => ?_)
        have hw : Wd D (AA R ad sz) s R ad (va_up g (198) (.inr (8, [.int (nI 0), .ref (ad 199), .int (nI ln), .ref (ad 200), .int (nI bk), .int (nI bt), .ref (ad 201), .int (nI ck), .int (nI ct), .ref (ad 202), .int (nI cn), .int (nI pk), .ref (ad 203), .ref (ad 204), .int (nI rw), .ref (ad 205), .ref (ad 206), .int (bI (gt)), .ref (ad 207)]))) H locs := hw
        obtain ⟨g33, hg33⟩ : ∃ z, z = va_up g (198) (.inr (8, [.int (nI 0), .ref (ad 199), .int (nI ln), .ref (ad 200), .int (nI bk), .int (nI bt), .ref (ad 201), .int (nI ck), .int (nI ct), .ref (ad 202), .int (nI cn), .int (nI pk), .ref (ad 203), .ref (ad 204), .int (nI rw), .ref (ad 205), .ref (ad 206), .int (bI (gt)), .ref (ad 207)])) := ⟨_, rfl⟩
        rw [← hg33] at hw
        have hk34 : ∀ z, z ≠ 198 → g33 z = g z := fun z hz => by rw [hg33]; exact va_up_ne _ _ hz
        have e35 : g33 (198) = .inr (8, [.int (nI 0), .ref (ad 199), .int (nI ln), .ref (ad 200), .int (nI bk), .int (nI bt), .ref (ad 201), .int (nI ck), .int (nI ct), .ref (ad 202), .int (nI cn), .int (nI pk), .ref (ad 203), .ref (ad 204), .int (nI rw), .ref (ad 205), .ref (ad 206), .int (bI (gt)), .ref (ad 207)]) := by rw [hg33]; exact va_up_self _ _ _
        have e36 : g33 (199) = ba ca 800 (tp) := (hk34 _ (by omega)).trans q199
        have e37 : g33 (200) = ia ca 49 (tn) := (hk34 _ (by omega)).trans q200
        have e38 : g33 (201) = na ca 944 (fi IN) := (hk34 _ (by omega)).trans q201
        have e39 : g33 (202) = na ca 4425 (fl CG) := (hk34 _ (by omega)).trans q202
        have e40 : g33 (203) = na ca 9000 (fl M) := (hk34 _ (by omega)).trans q203
        have e41 : g33 (204) = na ca 120 (pv) := (hk34 _ (by omega)).trans q204
        have e42 : g33 (205) = na ca 75 (ro) := (hk34 _ (by omega)).trans q205
        have e43 : g33 (206) = na ca 255 (pm) := (hk34 _ (by omega)).trans q206
        have e44 : g33 (207) = na ca 16 (bb) := (hk34 _ (by omega)).trans q207
        have hs45 : ∀ z, (z < 198 ∨ 207 < z) → g33 z = g z := fun z hz => hk34 z (by omega)
        refine lv_aload_n C.1 C.2.1 dX8_block_33 rfl (lv_at hl 0 rfl) ?_
        refine k_get C F hw (198) (by omega) e35 rfl in_X8 0 (by decide) fl_X8_42 rfl dX8_block_34 ?_
        refine k_zle (tgt := 41) C dX8_block_37 (by decide) (by omega) (fun _ => ?_) (fun h => absurd h (by decide))
        refine lv_aload_n C.1 C.2.1 dX8_block_41 rfl (lv_at hl 0 rfl) ?_
        refine lv_iload_n C.1 C.2.1 dX8_block_42 rfl (lv_at hl 1 rfl) ?_
        refine k_Vi C F hw (i := 198) (As := [.int (nI k)]) (rest := []) (c_X8_turnOf hR (nI (0)) ln bk bt ck ct cn pk rw gt e35 ro e42 pm e43 M pv e40 e41 hmb.1 hmb.2.1 hmb.2.2 hpm (fbG pm) (fun k t u _ h2 _ hu => fb_model hpm h2 hu) hT tn e37 k hk (htn.1 k hk.1 hk.2)) (by omega) e35 rfl (cwV _ C.2.2.2.2 gm_X8_110 rfl rfl rfl cd_X8_turnOf ⟨by decide, by decide⟩) hl.1 rfl (Nat.le_of_ble_eq_true rfl) dX8_block_43 ⟨by decide, by decide⟩ (fun r46 g47 H locs hp hw => ?_)
        obtain ⟨hr9, hs49, u48, gt48, tn48, hmb48, e9848, e0348, e0448, e0548, e0048, htk48, hto48, hgo48⟩ := hp
        subst hr9
        have e50 : g47 (199) = ba ca 800 (tp) := (hs49 _ (by omega)).trans e36
        have e51 : g47 (201) = na ca 944 (fi IN) := (hs49 _ (by omega)).trans e38
        have e52 : g47 (202) = na ca 4425 (fl CG) := (hs49 _ (by omega)).trans e39
        have e53 : g47 (206) = na ca 255 (pm) := (hs49 _ (by omega)).trans e43
        have e54 : g47 (207) = na ca 16 (bb) := (hs49 _ (by omega)).trans e44
        have hs55 : ∀ z, (z < 198 ∨ 207 < z) → g47 z = g z := fun z hz => (hs49 z (by omega)).trans (hs45 z hz)
        have htn48 : TnOk pm tn48 ck := ⟨fun k9 h1 h2 => by by_cases h9 : k9 = k; (rw [h9]; exact Or.inr htk48); (rw [hto48 k9 h9]; exact htn.1 k9 h1 h2), fun h1 => by by_cases h9 : ck = k; (rw [h9]; exact htk48); (rw [hto48 _ h9]; exact htn.2 h1)⟩
        have hgt48 : gt48 = true → ck ≠ 0 ∧ KmOK (ck + 11) (VV pm ck CG) (11 + cn) u48 := fun h => by
          rcases hgo48 with h9 | ⟨h9, h10, h11, h12⟩
          · rw [h9] at h; cases h
          · rw [h] at h9; have h13 := hgt h9.symm; refine ⟨h13.1, ?_⟩; unfold KmOK; rw [h10, h11, h12]; exact h13.2
        refine lv_istore_n (lv' := [(3, .int (nI (tnN (fbG pm k)))), (0, .ref (ad 198)), (1, .int (nI k)), (2, .int (nI t))]) C.1 C.2.1 dX8_block_46 rfl hl (by decide) rfl (fun ls hl => ?_)
        refine lv_iload_n C.1 C.2.1 dX8_block_47 rfl (lv_at hl 2 rfl) ?_
        refine k_bip C 11 dX8_block_48 (by decide) ?_
        refine k_add C dX8_block_50 ?_
        refine lv_istore (lv' := [(4, .int (nI (k + 11))), (3, .int (nI (tnN (fbG pm k)))), (0, .ref (ad 198)), (1, .int (nI k)), (2, .int (nI t))]) C.1 C.2.1 dX8_block_51 hl (by decide) rfl (fun ls hl => ?_)
        refine lv_aload_n C.1 C.2.1 dX8_block_53 rfl (lv_at hl 2 rfl) ?_
        refine lv_iload_n C.1 C.2.1 dX8_block_54 rfl (lv_at hl 3 rfl) ?_
        refine k_Vv C F hw (i := 198) (As := [.int (nI k)]) (rest := []) (c_X8_start hR (nI (0)) ln bk bt ck ct cn pk u48.1 gt48 e9848 u48.2.2.2 e0548 pm e53 u48.2.1 u48.2.2.1 e0348 e0448 hmb48.1 hmb48.2.1 hmb48.2.2 hpm k hk) (by omega) e9848 rfl (cwV _ C.2.2.2.2 gm_X8_95 rfl rfl rfl cd_X8_start ⟨by decide, by decide⟩) hl.1 rfl (Nat.le_of_ble_eq_true rfl) dX8_block_55 ⟨by decide, by decide⟩ (fun g57 H locs hp hw => ?_)
        obtain ⟨hs58, e59, e60, e61, e62⟩ := hp
        have e63 : g57 (199) = ba ca 800 (tp) := (hs58 _ (by omega)).trans e50
        have e64 : g57 (201) = na ca 944 (fi IN) := (hs58 _ (by omega)).trans e51
        have e65 : g57 (202) = na ca 4425 (fl CG) := (hs58 _ (by omega)).trans e52
        have e66 : g57 (206) = na ca 255 (pm) := (hs58 _ (by omega)).trans e53
        have e67 : g57 (207) = na ca 16 (bb) := (hs58 _ (by omega)).trans e54
        have e68 : g57 (200) = ia ca 49 (tn48) := (hs58 _ (by omega)).trans e0048
        have hs69 : ∀ z, (z < 198 ∨ 207 < z) → g57 z = g z := fun z hz => (hs58 z (by omega)).trans (hs55 z hz)
        refine k_icn C 0 dX8_block_58 (by decide) ?_
        refine lv_istore (lv' := [(5, .int (nI 0)), (4, .int (nI (k + 11))), (3, .int (nI (tnN (fbG pm k)))), (0, .ref (ad 198)), (1, .int (nI k)), (2, .int (nI t))]) C.1 C.2.1 dX8_block_59 hl (by decide) rfl (fun ls hl => ?_)
        have hA := mStart_by (u := (u48.1, u48.2.1, u48.2.2.1, u48.2.2.2)) (k := k) hpm hk.2 hmb48
        have loop61 : ∀ (fuel : Nat) (x : Nat) (u : MS) (gL : Nat → va_E) (H : Heap) (locs : List Loc) (ls : Array Slot), ((k - x) + 1 ≤ fuel) → (x ≤ k) → (u = mLines (k + 11) (bkV pm k t th) x (mStart pm k (u48.1, u48.2.1, u48.2.2.1, u48.2.2.2))) → (∀ z, (z < 198 ∨ 207 < z) → gL z = g z) → (gL (198) = .inr (8, [.int (nI 0), .ref (ad 199), .int (nI ln), .ref (ad 200), .int (nI bk), .int (nI bt), .ref (ad 201), .int (nI ck), .int (nI ct), .ref (ad 202), .int (nI cn), .int (nI pk), .ref (ad 203), .ref (ad 204), .int (nI (u.1)), .ref (ad 205), .ref (ad 206), .int (bI (false)), .ref (ad 207)])) → (gL (199) = ba ca 800 (tp)) → (gL (200) = ia ca 49 (tn48)) → (gL (201) = na ca 944 (fi IN)) → (gL (202) = na ca 4425 (fl CG)) → (gL (203) = na ca 9000 (fl u.2.1)) → (gL (204) = na ca 120 (u.2.2.1)) → (gL (205) = na ca 75 (u.2.2.2)) → (gL (206) = na ca 255 (pm)) → (gL (207) = na ca 16 (bb)) → Wd D (AA R ad sz) s R ad gL H locs → lv_has ls 7 [(0, .ref (ad 198)), (1, .int (nI k)), (2, .int (nI t)), (3, .int (nI (tnN (fbG pm k)))), (4, .int (nI (k + 11))), (5, .int (nI x))] → W p l e rm_X8_block s m args below meth c H locs 0 0 Q (F0 m 61 ls []) := by
          intro fuel
          induction fuel with
          | zero =>
            intro x u gL H locs ls hfu61
            exact absurd hfu61 (by omega)
          | succ fuel61 ih61 =>
            intro x u gL H locs ls hfu61 hx hu hsL61 eL61_0 eL61_1 eL61_2 eL61_3 eL61_4 eL61_5 eL61_6 eL61_7 eL61_8 eL61_9 hw hl
            have hub := mLines_by (L := k + 11) (V := (bkV pm k t th)) (u := (mStart pm k (u48.1, u48.2.1, u48.2.2.1, u48.2.2.2))) (by omega) hA.1 x (fun i _ => by_bkV hth.1 i)
            rw [← hu] at hub
            have hub2 : u.1 ≤ 11 + x := Nat.le_trans hub.2 (by have := hA.2; omega)
            refine lv_iload C.1 C.2.1 dX8_block_61 (lv_at hl 5 rfl) ?_
            refine lv_iload_n C.1 C.2.1 dX8_block_63 rfl (lv_at hl 1 rfl) ?_
            refine k_ige (tgt := 130) C dX8_block_64 (by decide) (by omega) (by omega) (fun hc64 => ?_) (fun hc64 => ?_)
            · have hxk : x = k := by omega
              obtain ⟨hkm, hmu⟩ := km_vv (u := (u48.1, u48.2.1, u48.2.2.1, u48.2.2.2)) hpm hk.2 hmb48 (fun i _ => by_bkV hth.1 i) (blk_gr (t := t) (th := th) hk.2 hT1)
              rw [hxk] at hu
              rw [← hu] at hkm hmu
              have hu1 : u.1 = 11 + k := hkm.1
              refine k_icn C 0 dX8_block_130 (by decide) ?_
              refine lv_istore (lv' := [(5, .int (nI 0)), (0, .ref (ad 198)), (1, .int (nI k)), (2, .int (nI t)), (3, .int (nI (tnN (fbG pm k)))), (4, .int (nI (k + 11)))]) C.1 C.2.1 dX8_block_131 hl (by decide) rfl (fun ls hl => ?_)
              have loop133 : ∀ (fuel : Nat) (r : Nat) (I1 : Nat → Nat → Nat) (gL : Nat → va_E) (H : Heap) (locs : List Loc) (ls : Array Slot), ((k + 11 - r) + 1 ≤ fuel) → (r ≤ k + 11) → (∀ q, q < r → ∀ i, i < t → I1 (u.2.2.1 q) i = u.2.1 q (59 + i)) → (∀ p, By (I1 p)) → (∀ z, (z < 198 ∨ 207 < z) → gL z = g z) → (gL (198) = .inr (8, [.int (nI 0), .ref (ad 199), .int (nI ln), .ref (ad 200), .int (nI bk), .int (nI bt), .ref (ad 201), .int (nI ck), .int (nI ct), .ref (ad 202), .int (nI cn), .int (nI pk), .ref (ad 203), .ref (ad 204), .int (nI (u.1)), .ref (ad 205), .ref (ad 206), .int (bI (false)), .ref (ad 207)])) → (gL (199) = ba ca 800 (tp)) → (gL (200) = ia ca 49 (tn48)) → (gL (201) = na ca 944 (fi I1)) → (gL (202) = na ca 4425 (fl CG)) → (gL (203) = na ca 9000 (fl u.2.1)) → (gL (204) = na ca 120 (u.2.2.1)) → (gL (205) = na ca 75 (u.2.2.2)) → (gL (206) = na ca 255 (pm)) → (gL (207) = na ca 16 (bb)) → Wd D (AA R ad sz) s R ad gL H locs → lv_has ls 7 [(0, .ref (ad 198)), (1, .int (nI k)), (2, .int (nI t)), (3, .int (nI (tnN (fbG pm k)))), (4, .int (nI (k + 11))), (5, .int (nI r))] → W p l e rm_X8_block s m args below meth c H locs 0 0 Q (F0 m 133 ls []) := by
                intro fuel
                induction fuel with
                | zero =>
                  intro r I1 gL H locs ls hfu133
                  exact absurd hfu133 (by omega)
                | succ fuel133 ih133 =>
                  intro r I1 gL H locs ls hfu133 hr hI1 hIb hsL133 eL133_0 eL133_1 eL133_2 eL133_3 eL133_4 eL133_5 eL133_6 eL133_7 eL133_8 eL133_9 hw hl
                  refine lv_iload C.1 C.2.1 dX8_block_133 (lv_at hl 5 rfl) ?_
                  refine lv_iload C.1 C.2.1 dX8_block_135 (lv_at hl 4 rfl) ?_
                  refine k_ige (tgt := 195) C dX8_block_137 (by decide) (by omega) (by omega) (fun hc137 => ?_) (fun hc137 => ?_)
                  · refine lv_aload_n C.1 C.2.1 dX8_block_195 rfl (lv_at hl 0 rfl) ?_
                    refine lv_iload_n C.1 C.2.1 dX8_block_196 rfl (lv_at hl 1 rfl) ?_
                    refine k_put C F hw (198) (by omega) eL133_0 rfl in_X8 tyX8_ok nmX8 4 (by decide) fl_X8_116 rfl (v := .int (nI k)) rfl rfl (Nat.le_of_ble_eq_true rfl) dX8_block_197 (fun H locs hw => ?_)
                    have hw : Wd D (AA R ad sz) s R ad (va_up gL (198) (.inr (8, [.int (nI 0), .ref (ad 199), .int (nI ln), .ref (ad 200), .int (nI k), .int (nI bt), .ref (ad 201), .int (nI ck), .int (nI ct), .ref (ad 202), .int (nI cn), .int (nI pk), .ref (ad 203), .ref (ad 204), .int (nI (u.1)), .ref (ad 205), .ref (ad 206), .int (bI (false)), .ref (ad 207)]))) H locs := hw
                    obtain ⟨g70, hg70⟩ : ∃ z, z = va_up gL (198) (.inr (8, [.int (nI 0), .ref (ad 199), .int (nI ln), .ref (ad 200), .int (nI k), .int (nI bt), .ref (ad 201), .int (nI ck), .int (nI ct), .ref (ad 202), .int (nI cn), .int (nI pk), .ref (ad 203), .ref (ad 204), .int (nI (u.1)), .ref (ad 205), .ref (ad 206), .int (bI (false)), .ref (ad 207)])) := ⟨_, rfl⟩
                    rw [← hg70] at hw
                    have hk71 : ∀ z, z ≠ 198 → g70 z = gL z := fun z hz => by rw [hg70]; exact va_up_ne _ _ hz
                    have e72 : g70 (198) = .inr (8, [.int (nI 0), .ref (ad 199), .int (nI ln), .ref (ad 200), .int (nI k), .int (nI bt), .ref (ad 201), .int (nI ck), .int (nI ct), .ref (ad 202), .int (nI cn), .int (nI pk), .ref (ad 203), .ref (ad 204), .int (nI (u.1)), .ref (ad 205), .ref (ad 206), .int (bI (false)), .ref (ad 207)]) := by rw [hg70]; exact va_up_self _ _ _
                    have e73 : g70 (199) = ba ca 800 (tp) := (hk71 _ (by omega)).trans eL133_1
                    have e74 : g70 (201) = na ca 944 (fi I1) := (hk71 _ (by omega)).trans eL133_3
                    have e75 : g70 (202) = na ca 4425 (fl CG) := (hk71 _ (by omega)).trans eL133_4
                    have e76 : g70 (206) = na ca 255 (pm) := (hk71 _ (by omega)).trans eL133_8
                    have e77 : g70 (207) = na ca 16 (bb) := (hk71 _ (by omega)).trans eL133_9
                    have e78 : g70 (200) = ia ca 49 (tn48) := (hk71 _ (by omega)).trans eL133_2
                    have e79 : g70 (203) = na ca 9000 (fl u.2.1) := (hk71 _ (by omega)).trans eL133_5
                    have e80 : g70 (204) = na ca 120 (u.2.2.1) := (hk71 _ (by omega)).trans eL133_6
                    have e81 : g70 (205) = na ca 75 (u.2.2.2) := (hk71 _ (by omega)).trans eL133_7
                    have hs82 : ∀ z, (z < 198 ∨ 207 < z) → g70 z = g z := fun z hz => (hk71 z (by omega)).trans (hsL133 z hz)
                    refine lv_aload_n C.1 C.2.1 dX8_block_200 rfl (lv_at hl 0 rfl) ?_
                    refine lv_iload_n C.1 C.2.1 dX8_block_201 rfl (lv_at hl 2 rfl) ?_
                    refine k_put C F hw (198) (by omega) e72 rfl in_X8 tyX8_ok nmX8 5 (by decide) fl_X8_119 rfl (v := .int (nI t)) rfl rfl (Nat.le_of_ble_eq_true rfl) dX8_block_202 (fun H locs hw => ?_)
                    have hw : Wd D (AA R ad sz) s R ad (va_up g70 (198) (.inr (8, [.int (nI 0), .ref (ad 199), .int (nI ln), .ref (ad 200), .int (nI k), .int (nI t), .ref (ad 201), .int (nI ck), .int (nI ct), .ref (ad 202), .int (nI cn), .int (nI pk), .ref (ad 203), .ref (ad 204), .int (nI (u.1)), .ref (ad 205), .ref (ad 206), .int (bI (false)), .ref (ad 207)]))) H locs := hw
                    obtain ⟨g83, hg83⟩ : ∃ z, z = va_up g70 (198) (.inr (8, [.int (nI 0), .ref (ad 199), .int (nI ln), .ref (ad 200), .int (nI k), .int (nI t), .ref (ad 201), .int (nI ck), .int (nI ct), .ref (ad 202), .int (nI cn), .int (nI pk), .ref (ad 203), .ref (ad 204), .int (nI (u.1)), .ref (ad 205), .ref (ad 206), .int (bI (false)), .ref (ad 207)])) := ⟨_, rfl⟩
                    rw [← hg83] at hw
                    have hk84 : ∀ z, z ≠ 198 → g83 z = g70 z := fun z hz => by rw [hg83]; exact va_up_ne _ _ hz
                    have e85 : g83 (198) = .inr (8, [.int (nI 0), .ref (ad 199), .int (nI ln), .ref (ad 200), .int (nI k), .int (nI t), .ref (ad 201), .int (nI ck), .int (nI ct), .ref (ad 202), .int (nI cn), .int (nI pk), .ref (ad 203), .ref (ad 204), .int (nI (u.1)), .ref (ad 205), .ref (ad 206), .int (bI (false)), .ref (ad 207)]) := by rw [hg83]; exact va_up_self _ _ _
                    have e86 : g83 (199) = ba ca 800 (tp) := (hk84 _ (by omega)).trans e73
                    have e87 : g83 (201) = na ca 944 (fi I1) := (hk84 _ (by omega)).trans e74
                    have e88 : g83 (202) = na ca 4425 (fl CG) := (hk84 _ (by omega)).trans e75
                    have e89 : g83 (206) = na ca 255 (pm) := (hk84 _ (by omega)).trans e76
                    have e90 : g83 (207) = na ca 16 (bb) := (hk84 _ (by omega)).trans e77
                    have e91 : g83 (200) = ia ca 49 (tn48) := (hk84 _ (by omega)).trans e78
                    have e92 : g83 (203) = na ca 9000 (fl u.2.1) := (hk84 _ (by omega)).trans e79
                    have e93 : g83 (204) = na ca 120 (u.2.2.1) := (hk84 _ (by omega)).trans e80
                    have e94 : g83 (205) = na ca 75 (u.2.2.2) := (hk84 _ (by omega)).trans e81
                    have hs95 : ∀ z, (z < 198 ∨ 207 < z) → g83 z = g z := fun z hz => (hk84 z (by omega)).trans (hs82 z hz)
                    refine lv_aload_n C.1 C.2.1 dX8_block_205 rfl (lv_at hl 0 rfl) ?_
                    refine k_icn C 0 dX8_block_206 (by decide) ?_
                    refine k_put C F hw (198) (by omega) e85 rfl in_X8 tyX8_ok nmX8 2 (by decide) fl_X8_46 rfl (v := .int (nI 0)) rfl rfl (Nat.le_of_ble_eq_true rfl) dX8_block_207 (fun H locs hw => ?_)
                    have hw : Wd D (AA R ad sz) s R ad (va_up g83 (198) (.inr (8, [.int (nI 0), .ref (ad 199), .int (nI 0), .ref (ad 200), .int (nI k), .int (nI t), .ref (ad 201), .int (nI ck), .int (nI ct), .ref (ad 202), .int (nI cn), .int (nI pk), .ref (ad 203), .ref (ad 204), .int (nI (u.1)), .ref (ad 205), .ref (ad 206), .int (bI (false)), .ref (ad 207)]))) H locs := hw
                    obtain ⟨g96, hg96⟩ : ∃ z, z = va_up g83 (198) (.inr (8, [.int (nI 0), .ref (ad 199), .int (nI 0), .ref (ad 200), .int (nI k), .int (nI t), .ref (ad 201), .int (nI ck), .int (nI ct), .ref (ad 202), .int (nI cn), .int (nI pk), .ref (ad 203), .ref (ad 204), .int (nI (u.1)), .ref (ad 205), .ref (ad 206), .int (bI (false)), .ref (ad 207)])) := ⟨_, rfl⟩
                    rw [← hg96] at hw
                    have hk97 : ∀ z, z ≠ 198 → g96 z = g83 z := fun z hz => by rw [hg96]; exact va_up_ne _ _ hz
                    have e98 : g96 (198) = .inr (8, [.int (nI 0), .ref (ad 199), .int (nI 0), .ref (ad 200), .int (nI k), .int (nI t), .ref (ad 201), .int (nI ck), .int (nI ct), .ref (ad 202), .int (nI cn), .int (nI pk), .ref (ad 203), .ref (ad 204), .int (nI (u.1)), .ref (ad 205), .ref (ad 206), .int (bI (false)), .ref (ad 207)]) := by rw [hg96]; exact va_up_self _ _ _
                    have e99 : g96 (199) = ba ca 800 (tp) := (hk97 _ (by omega)).trans e86
                    have e100 : g96 (201) = na ca 944 (fi I1) := (hk97 _ (by omega)).trans e87
                    have e101 : g96 (202) = na ca 4425 (fl CG) := (hk97 _ (by omega)).trans e88
                    have e102 : g96 (206) = na ca 255 (pm) := (hk97 _ (by omega)).trans e89
                    have e103 : g96 (207) = na ca 16 (bb) := (hk97 _ (by omega)).trans e90
                    have e104 : g96 (200) = ia ca 49 (tn48) := (hk97 _ (by omega)).trans e91
                    have e105 : g96 (203) = na ca 9000 (fl u.2.1) := (hk97 _ (by omega)).trans e92
                    have e106 : g96 (204) = na ca 120 (u.2.2.1) := (hk97 _ (by omega)).trans e93
                    have e107 : g96 (205) = na ca 75 (u.2.2.2) := (hk97 _ (by omega)).trans e94
                    have hs108 : ∀ z, (z < 198 ∨ 207 < z) → g96 z = g z := fun z hz => (hk97 z (by omega)).trans (hs95 z hz)
                    have hS109 : MSt ca ad g96 pm (nI 0) 0 th k t I1 ck ct CG cn pk tp u.1 false u.2.1 u.2.2.1 u.2.2.2 tn48 bb := ⟨⟨e98, e99, e104, e100, e101, e105, e106, e107, e102, e103⟩, hmu, hbb, hCG, hIb, htn48, (fun h => absurd h (by decide)), ⟨Nat.zero_le _, Or.inr ⟨hk.1, hk.2, ht.1, ht.2⟩, hbd.2.2⟩, hGr, ⟨hth.1, fun j hj => absurd hj (Nat.not_lt_zero _)⟩⟩
                    exact hret H locs ls _ _ dX8_block_210 hw (⟨hs108, Or.inl ⟨k, t, rfl, rfl, hk, ht, hc22, I1, u, hkm, hmu, fun q hq i hi => hI1 q (by omega) i hi, ⟨_, _, _, _, _, _, _, _, hS109⟩⟩⟩)
                  · refine k_icn C 0 dX8_block_140 (by decide) ?_
                    refine lv_istore (lv' := [(6, .int (nI 0)), (0, .ref (ad 198)), (1, .int (nI k)), (2, .int (nI t)), (3, .int (nI (tnN (fbG pm k)))), (4, .int (nI (k + 11))), (5, .int (nI r))]) C.1 C.2.1 dX8_block_141 hl (by decide) rfl (fun ls hl => ?_)
                    have hpr := hkm.2.1 r (by omega)
                    have loop143 : ∀ (fuel : Nat) (i : Nat) (I2 : Nat → Nat → Nat) (gL : Nat → va_E) (H : Heap) (locs : List Loc) (ls : Array Slot), ((t - i) + 1 ≤ fuel) → (i ≤ t) → (∀ q, q < r → ∀ i, i < t → I2 (u.2.2.1 q) i = u.2.1 q (59 + i)) → (∀ j, j < i → I2 (u.2.2.1 r) j = u.2.1 r (59 + j)) → (∀ p, By (I2 p)) → (∀ z, (z < 198 ∨ 207 < z) → gL z = g z) → (gL (198) = .inr (8, [.int (nI 0), .ref (ad 199), .int (nI ln), .ref (ad 200), .int (nI bk), .int (nI bt), .ref (ad 201), .int (nI ck), .int (nI ct), .ref (ad 202), .int (nI cn), .int (nI pk), .ref (ad 203), .ref (ad 204), .int (nI (u.1)), .ref (ad 205), .ref (ad 206), .int (bI (false)), .ref (ad 207)])) → (gL (199) = ba ca 800 (tp)) → (gL (200) = ia ca 49 (tn48)) → (gL (201) = na ca 944 (fi I2)) → (gL (202) = na ca 4425 (fl CG)) → (gL (203) = na ca 9000 (fl u.2.1)) → (gL (204) = na ca 120 (u.2.2.1)) → (gL (205) = na ca 75 (u.2.2.2)) → (gL (206) = na ca 255 (pm)) → (gL (207) = na ca 16 (bb)) → Wd D (AA R ad sz) s R ad gL H locs → lv_has ls 7 [(0, .ref (ad 198)), (1, .int (nI k)), (2, .int (nI t)), (3, .int (nI (tnN (fbG pm k)))), (4, .int (nI (k + 11))), (5, .int (nI r)), (6, .int (nI i))] → W p l e rm_X8_block s m args below meth c H locs 0 0 Q (F0 m 143 ls []) := by
                      intro fuel
                      induction fuel with
                      | zero =>
                        intro i I2 gL H locs ls hfu143
                        exact absurd hfu143 (by omega)
                      | succ fuel143 ih143 =>
                        intro i I2 gL H locs ls hfu143 hi hI2 hI3 hIb2 hsL143 eL143_0 eL143_1 eL143_2 eL143_3 eL143_4 eL143_5 eL143_6 eL143_7 eL143_8 eL143_9 hw hl
                        refine lv_iload C.1 C.2.1 dX8_block_143 (lv_at hl 6 rfl) ?_
                        refine lv_iload_n C.1 C.2.1 dX8_block_145 rfl (lv_at hl 2 rfl) ?_
                        refine k_ige (tgt := 189) C dX8_block_146 (by decide) (by omega) (by omega) (fun hc146 => ?_) (fun hc146 => ?_)
                        · refine k_inc C (r + 1) (lv' := [(5, .int (nI (r + 1))), (0, .ref (ad 198)), (1, .int (nI k)), (2, .int (nI t)), (3, .int (nI (tnN (fbG pm k)))), (4, .int (nI (k + 11))), (6, .int (nI i))]) dX8_block_189 hl (k := 5) rfl (inc1 _) (by decide) rfl (fun ls hl => ?_)
                          refine lv_goto (tgt := 133) C.1 C.2.1 dX8_block_192 (by decide) ?_
                          exact ih133 (r + 1) I2 gL H locs ls (by omega) (by omega) (fun q hq i2 h2 => by by_cases h : q = r; (rw [h]; exact hI3 i2 (by omega)); exact hI2 q (by omega) i2 h2) hIb2 hsL143 eL143_0 eL143_1 eL143_2 eL143_3 eL143_4 eL143_5 eL143_6 eL143_7 eL143_8 eL143_9 hw (lv_sub hl [1, 2, 3, 4, 5, 0] rfl)
                        · refine lv_aload_n C.1 C.2.1 dX8_block_149 rfl (lv_at hl 0 rfl) ?_
                          refine k_get C F hw (198) (by omega) eL143_0 rfl in_X8 6 (by decide) fl_X8_17 rfl dX8_block_150 ?_
                          refine k_bip C 16 dX8_block_153 (by decide) ?_
                          refine lv_aload_n C.1 C.2.1 dX8_block_155 rfl (lv_at hl 0 rfl) ?_
                          refine k_get C F hw (198) (by omega) eL143_0 rfl in_X8 13 (by decide) fl_X8_26 rfl dX8_block_156 ?_
                          refine lv_iload C.1 C.2.1 dX8_block_159 (lv_at hl 5 rfl) ?_
                          refine k_iald C F hw (204) (by omega) eL143_6 (r) (by omega) (by decide) dX8_block_161 ?_
                          refine k_mul C dX8_block_162 ?_
                          refine lv_iload C.1 C.2.1 dX8_block_163 (lv_at hl 6 rfl) ?_
                          refine k_add C dX8_block_165 ?_
                          refine lv_aload_n C.1 C.2.1 dX8_block_166 rfl (lv_at hl 0 rfl) ?_
                          refine k_get C F hw (198) (by omega) eL143_0 rfl in_X8 12 (by decide) fl_X8_23 rfl dX8_block_167 ?_
                          refine k_bip C 75 dX8_block_170 (by decide) ?_
                          refine lv_iload C.1 C.2.1 dX8_block_172 (lv_at hl 5 rfl) ?_
                          refine k_mul C dX8_block_174 ?_
                          refine k_bip C 59 dX8_block_175 (by decide) ?_
                          refine k_add C dX8_block_177 ?_
                          refine lv_iload C.1 C.2.1 dX8_block_178 (lv_at hl 6 rfl) ?_
                          refine k_add C dX8_block_180 ?_
                          refine k_iald C F hw (203) (by omega) eL143_5 (((75 * r) + 59) + i) (by omega) (by decide) dX8_block_181 ?_
                          refine k_ti (x' := nI (u.2.1 r (59 + i))) (by rw [show 75 * r + 59 + i = 75 * r + (59 + i) by omega, fl_at (by omega)]) ?_
                          refine k_iast C F hw (201) (by omega) eL143_3 ((16 * (u.2.2.1 r)) + i) (u.2.1 r (59 + i)) (by omega) (by decide) dX8_block_182 (fun H locs hw => ?_)
                          have hw : Wd D (AA R ad sz) s R ad (va_up gL (201) (na ca 944 (va_up (fi I2) ((16 * (u.2.2.1 r)) + i) (u.2.1 r (59 + i))))) H locs := hw
                          obtain ⟨g110, hg110⟩ : ∃ z, z = va_up gL (201) (na ca 944 (va_up (fi I2) ((16 * (u.2.2.1 r)) + i) (u.2.1 r (59 + i)))) := ⟨_, rfl⟩
                          rw [← hg110] at hw
                          have hk111 : ∀ z, z ≠ 201 → g110 z = gL z := fun z hz => by rw [hg110]; exact va_up_ne _ _ hz
                          have e112 : g110 (201) = na ca 944 (va_up (fi I2) ((16 * (u.2.2.1 r)) + i) (u.2.1 r (59 + i))) := by rw [hg110]; exact va_up_self _ _ _
                          have e113 : g110 (199) = ba ca 800 (tp) := (hk111 _ (by omega)).trans eL143_1
                          have e114 : g110 (202) = na ca 4425 (fl CG) := (hk111 _ (by omega)).trans eL143_4
                          have e115 : g110 (206) = na ca 255 (pm) := (hk111 _ (by omega)).trans eL143_8
                          have e116 : g110 (207) = na ca 16 (bb) := (hk111 _ (by omega)).trans eL143_9
                          have e117 : g110 (200) = ia ca 49 (tn48) := (hk111 _ (by omega)).trans eL143_2
                          have e118 : g110 (198) = .inr (8, [.int (nI 0), .ref (ad 199), .int (nI ln), .ref (ad 200), .int (nI bk), .int (nI bt), .ref (ad 201), .int (nI ck), .int (nI ct), .ref (ad 202), .int (nI cn), .int (nI pk), .ref (ad 203), .ref (ad 204), .int (nI (u.1)), .ref (ad 205), .ref (ad 206), .int (bI (false)), .ref (ad 207)]) := (hk111 _ (by omega)).trans eL143_0
                          have e119 : g110 (203) = na ca 9000 (fl u.2.1) := (hk111 _ (by omega)).trans eL143_5
                          have e120 : g110 (204) = na ca 120 (u.2.2.1) := (hk111 _ (by omega)).trans eL143_6
                          have e121 : g110 (205) = na ca 75 (u.2.2.2) := (hk111 _ (by omega)).trans eL143_7
                          have hs122 : ∀ z, (z < 198 ∨ 207 < z) → g110 z = g z := fun z hz => (hk111 z (by omega)).trans (hsL143 z hz)
                          have e123 : g110 (201) = na ca 944 (fi (va_up I2 (u.2.2.1 r) (va_up (I2 (u.2.2.1 r)) i (u.2.1 r (59 + i))))) := by rw [e112, fi_up (by omega)]
                          refine k_inc C (i + 1) (lv' := [(6, .int (nI (i + 1))), (0, .ref (ad 198)), (1, .int (nI k)), (2, .int (nI t)), (3, .int (nI (tnN (fbG pm k)))), (4, .int (nI (k + 11))), (5, .int (nI r))]) dX8_block_183 hl (k := 6) rfl (inc1 _) (by decide) rfl (fun ls hl => ?_)
                          refine lv_goto (tgt := 143) C.1 C.2.1 dX8_block_186 (by decide) ?_
                          exact ih143 (i + 1) (va_up I2 (u.2.2.1 r) (va_up (I2 (u.2.2.1 r)) i (u.2.1 r (59 + i)))) g110 H locs ls (by omega) (by omega) (fun q hq i2 h2 => by rw [va_up_ne _ _ (bs_ne hkm.2.1 (by omega) (by omega) (by omega))]; exact hI2 q hq i2 h2) (fun j hj => by rw [va_up_self]; by_cases h : j = i; (rw [h, va_up_self]); (rw [va_up_ne _ _ h]; exact hI3 j (by omega))) (By2.up' hIb2 (By.up (hIb2 _) (hmu.1 _ _))) hs122 e118 e113 e117 e123 e114 e119 e120 e121 e115 e116 hw (lv_sub hl [1, 2, 3, 4, 5, 6, 0] rfl)
                    exact loop143 _ 0 I1 gL H locs ls (Nat.le_refl _) (by omega) hI1 (fun j hj => absurd hj (Nat.not_lt_zero _)) hIb hsL133 eL133_0 eL133_1 eL133_2 eL133_3 eL133_4 eL133_5 eL133_6 eL133_7 eL133_8 eL133_9 hw (lv_sub hl [1, 2, 3, 4, 5, 6, 0] rfl)
              exact loop133 _ 0 IN gL H locs ls (Nat.le_refl _) (by omega) (fun q hq => absurd hq (Nat.not_lt_zero _)) hIN hsL61 eL61_0 eL61_1 eL61_2 eL61_3 eL61_4 eL61_5 eL61_6 eL61_7 eL61_8 eL61_9 hw (lv_sub hl [1, 2, 3, 4, 5, 0] rfl)
            · refine lv_aload_n C.1 C.2.1 dX8_block_67 rfl (lv_at hl 0 rfl) ?_
              refine lv_iload_n C.1 C.2.1 dX8_block_68 rfl (lv_at hl 1 rfl) ?_
              refine lv_iload_n C.1 C.2.1 dX8_block_69 rfl (lv_at hl 3 rfl) ?_
              refine lv_iload C.1 C.2.1 dX8_block_70 (lv_at hl 5 rfl) ?_
              refine k_Vi C F hw (i := 198) (As := [.int (nI k), .int (nI (tnN (fbG pm k))), .int (nI x)]) (rest := []) (c_X8_packet hR (nI (0)) ln bk bt ck ct cn pk u.1 false eL61_0 u.2.2.2 eL61_7 k x (tnN (fbG pm k)) hk (by omega) (by omega)) (by omega) eL61_0 rfl (cwV _ C.2.2.2.2 gm_X8_99 rfl rfl rfl cd_X8_packet ⟨by decide, by decide⟩) hl.1 rfl (Nat.le_of_ble_eq_true rfl) dX8_block_72 ⟨by decide, by decide⟩ (fun r124 g125 H locs hp hw => ?_)
              obtain ⟨hr9, hp⟩ := hp
              subst hr9
              obtain ⟨hk126, e127⟩ := hp
              have e128 : g125 (199) = ba ca 800 (tp) := (hk126 _ (by omega)).trans eL61_1
              have e129 : g125 (201) = na ca 944 (fi IN) := (hk126 _ (by omega)).trans eL61_3
              have e130 : g125 (202) = na ca 4425 (fl CG) := (hk126 _ (by omega)).trans eL61_4
              have e131 : g125 (206) = na ca 255 (pm) := (hk126 _ (by omega)).trans eL61_8
              have e132 : g125 (207) = na ca 16 (bb) := (hk126 _ (by omega)).trans eL61_9
              have e133 : g125 (200) = ia ca 49 (tn48) := (hk126 _ (by omega)).trans eL61_2
              have e134 : g125 (198) = .inr (8, [.int (nI 0), .ref (ad 199), .int (nI ln), .ref (ad 200), .int (nI bk), .int (nI bt), .ref (ad 201), .int (nI ck), .int (nI ct), .ref (ad 202), .int (nI cn), .int (nI pk), .ref (ad 203), .ref (ad 204), .int (nI (u.1)), .ref (ad 205), .ref (ad 206), .int (bI (false)), .ref (ad 207)]) := (hk126 _ (by omega)).trans eL61_0
              have e135 : g125 (203) = na ca 9000 (fl u.2.1) := (hk126 _ (by omega)).trans eL61_5
              have e136 : g125 (204) = na ca 120 (u.2.2.1) := (hk126 _ (by omega)).trans eL61_6
              have hs137 : ∀ z, (z < 198 ∨ 207 < z) → g125 z = g z := fun z hz => (hk126 z (by omega)).trans (hsL61 z hz)
              refine lv_pop C.1 C.2.1 dX8_block_75 rfl ?_
              refine k_icn C 0 dX8_block_76 (by decide) ?_
              refine lv_istore (lv' := [(6, .int (nI 0)), (0, .ref (ad 198)), (1, .int (nI k)), (2, .int (nI t)), (3, .int (nI (tnN (fbG pm k)))), (4, .int (nI (k + 11))), (5, .int (nI x))]) C.1 C.2.1 dX8_block_77 hl (by decide) rfl (fun ls hl => ?_)
              have htx : t * x + t ≤ ln := by
                have h9 := Nat.mul_le_mul_left t (show x + 1 ≤ k by omega)
                rw [Nat.mul_succ, Nat.mul_comm t k] at h9
                omega
              have loop79 : ∀ (fuel : Nat) (i : Nat) (f1 : Nat → Nat) (gL : Nat → va_E) (H : Heap) (locs : List Loc) (ls : Array Slot), ((t - i) + 1 ≤ fuel) → (i ≤ t) → (f1 = onRow (vlV (pkR k x (tnN (fbG pm k))) (fun i => th (t * x + i)) i) u.2.2.2) → (∀ z, (z < 198 ∨ 207 < z) → gL z = g z) → (gL (198) = .inr (8, [.int (nI 0), .ref (ad 199), .int (nI ln), .ref (ad 200), .int (nI bk), .int (nI bt), .ref (ad 201), .int (nI ck), .int (nI ct), .ref (ad 202), .int (nI cn), .int (nI pk), .ref (ad 203), .ref (ad 204), .int (nI (u.1)), .ref (ad 205), .ref (ad 206), .int (bI (false)), .ref (ad 207)])) → (gL (199) = ba ca 800 (tp)) → (gL (200) = ia ca 49 (tn48)) → (gL (201) = na ca 944 (fi IN)) → (gL (202) = na ca 4425 (fl CG)) → (gL (203) = na ca 9000 (fl u.2.1)) → (gL (204) = na ca 120 (u.2.2.1)) → (gL (205) = na ca 75 (f1)) → (gL (206) = na ca 255 (pm)) → (gL (207) = na ca 16 (bb)) → Wd D (AA R ad sz) s R ad gL H locs → lv_has ls 7 [(0, .ref (ad 198)), (1, .int (nI k)), (2, .int (nI t)), (3, .int (nI (tnN (fbG pm k)))), (4, .int (nI (k + 11))), (5, .int (nI x)), (6, .int (nI i))] → W p l e rm_X8_block s m args below meth c H locs 0 0 Q (F0 m 79 ls []) := by
                intro fuel
                induction fuel with
                | zero =>
                  intro i f1 gL H locs ls hfu79
                  exact absurd hfu79 (by omega)
                | succ fuel79 ih79 =>
                  intro i f1 gL H locs ls hfu79 hi hf1 hsL79 eL79_0 eL79_1 eL79_2 eL79_3 eL79_4 eL79_5 eL79_6 eL79_7 eL79_8 eL79_9 hw hl
                  refine lv_iload C.1 C.2.1 dX8_block_79 (lv_at hl 6 rfl) ?_
                  refine lv_iload_n C.1 C.2.1 dX8_block_81 rfl (lv_at hl 2 rfl) ?_
                  refine k_ige (tgt := 117) C dX8_block_82 (by decide) (by omega) (by omega) (fun hc82 => ?_) (fun hc82 => ?_)
                  · have e138 : gL (205) = na ca 75 (onRow (bkV pm k t th x) u.2.2.2) := by rw [eL79_7, hf1, show i = t by omega, bkV]
                    refine lv_aload_n C.1 C.2.1 dX8_block_117 rfl (lv_at hl 0 rfl) ?_
                    refine lv_iload C.1 C.2.1 dX8_block_118 (lv_at hl 4 rfl) ?_
                    refine k_Vi C F hw (i := 198) (As := [.int (nI (k + 11))]) (rest := []) (c_X8_isAdded hR (nI (0)) ln bk bt ck ct cn pk u.1 false eL79_0 (onRow (bkV pm k t th x) u.2.2.2) e138 u.2.1 u.2.2.1 eL79_5 eL79_6 hub.1.1 (by_prt (fun c _ => by_bkV hth.1 x c) hub.1.2.1) hub.1.2.2 (by omega) (k + 11) (by omega)) (by omega) eL79_0 rfl (cwV _ C.2.2.2.2 gm_X8_92 rfl rfl rfl cd_X8_isAdded ⟨by decide, by decide⟩) hl.1 rfl (Nat.le_of_ble_eq_true rfl) dX8_block_120 ⟨by decide, by decide⟩ (fun r139 g140 H locs hp hw => ?_)
                    obtain ⟨hr9, hs141, e142, e143, e144, e145⟩ := hp
                    subst hr9
                    have e146 : g140 (199) = ba ca 800 (tp) := (hs141 _ (by omega)).trans eL79_1
                    have e147 : g140 (201) = na ca 944 (fi IN) := (hs141 _ (by omega)).trans eL79_3
                    have e148 : g140 (202) = na ca 4425 (fl CG) := (hs141 _ (by omega)).trans eL79_4
                    have e149 : g140 (206) = na ca 255 (pm) := (hs141 _ (by omega)).trans eL79_8
                    have e150 : g140 (207) = na ca 16 (bb) := (hs141 _ (by omega)).trans eL79_9
                    have e151 : g140 (200) = ia ca 49 (tn48) := (hs141 _ (by omega)).trans eL79_2
                    have hs152 : ∀ z, (z < 198 ∨ 207 < z) → g140 z = g z := fun z hz => (hs141 z (by omega)).trans (hsL79 z hz)
                    refine lv_pop C.1 C.2.1 dX8_block_123 rfl ?_
                    refine k_inc C (x + 1) (lv' := [(5, .int (nI (x + 1))), (0, .ref (ad 198)), (1, .int (nI k)), (2, .int (nI t)), (3, .int (nI (tnN (fbG pm k)))), (4, .int (nI (k + 11))), (6, .int (nI i))]) dX8_block_124 hl (k := 5) rfl (inc1 _) (by decide) rfl (fun ls hl => ?_)
                    refine lv_goto (tgt := 61) C.1 C.2.1 dX8_block_127 (by decide) ?_
                    exact ih61 (x + 1) (mPut (k + 11) (bkV pm k t th x) u) g140 H locs ls (by omega) (by omega) (by rw [hu]; rfl) hs152 e142 e146 e151 e147 e148 e143 e144 e145 e149 e150 hw (lv_sub hl [1, 2, 3, 4, 5, 0] rfl)
                  · refine lv_aload_n C.1 C.2.1 dX8_block_85 rfl (lv_at hl 0 rfl) ?_
                    refine k_get C F hw (198) (by omega) eL79_0 rfl in_X8 15 (by decide) fl_X8_29 rfl dX8_block_86 ?_
                    refine k_bip C 59 dX8_block_89 (by decide) ?_
                    refine lv_iload C.1 C.2.1 dX8_block_91 (lv_at hl 6 rfl) ?_
                    refine k_add C dX8_block_93 ?_
                    refine lv_aload_n C.1 C.2.1 dX8_block_94 rfl (lv_at hl 0 rfl) ?_
                    refine k_get C F hw (198) (by omega) eL79_0 rfl in_X8 1 (by decide) fl_X8_7 rfl dX8_block_95 ?_
                    refine lv_iload_n C.1 C.2.1 dX8_block_98 rfl (lv_at hl 2 rfl) ?_
                    refine lv_iload C.1 C.2.1 dX8_block_99 (lv_at hl 5 rfl) ?_
                    refine k_mul C dX8_block_101 ?_
                    refine lv_iload C.1 C.2.1 dX8_block_102 (lv_at hl 6 rfl) ?_
                    refine k_add C dX8_block_104 ?_
                    refine k_bald C F hw (199) (by omega) eL79_1 ((t * x) + i) (by omega) (by decide) dX8_block_105 ?_
                    refine k_sip C 255 dX8_block_106 (by decide) ?_
                    refine lv_iand C.1 C.2.1 dX8_block_109 ?_
                    refine k_ti (x' := nI (th (t * x + i))) (hth.2 (t * x + i) (by omega)) ?_
                    refine k_iast C F hw (205) (by omega) eL79_7 (59 + i) (th (t * x + i)) (by omega) (by decide) dX8_block_110 (fun H locs hw => ?_)
                    have hw : Wd D (AA R ad sz) s R ad (va_up gL (205) (na ca 75 (va_up f1 (59 + i) (th (t * x + i))))) H locs := hw
                    obtain ⟨g153, hg153⟩ : ∃ z, z = va_up gL (205) (na ca 75 (va_up f1 (59 + i) (th (t * x + i)))) := ⟨_, rfl⟩
                    rw [← hg153] at hw
                    have hk154 : ∀ z, z ≠ 205 → g153 z = gL z := fun z hz => by rw [hg153]; exact va_up_ne _ _ hz
                    have e155 : g153 (205) = na ca 75 (va_up f1 (59 + i) (th (t * x + i))) := by rw [hg153]; exact va_up_self _ _ _
                    have e156 : g153 (199) = ba ca 800 (tp) := (hk154 _ (by omega)).trans eL79_1
                    have e157 : g153 (201) = na ca 944 (fi IN) := (hk154 _ (by omega)).trans eL79_3
                    have e158 : g153 (202) = na ca 4425 (fl CG) := (hk154 _ (by omega)).trans eL79_4
                    have e159 : g153 (206) = na ca 255 (pm) := (hk154 _ (by omega)).trans eL79_8
                    have e160 : g153 (207) = na ca 16 (bb) := (hk154 _ (by omega)).trans eL79_9
                    have e161 : g153 (200) = ia ca 49 (tn48) := (hk154 _ (by omega)).trans eL79_2
                    have e162 : g153 (198) = .inr (8, [.int (nI 0), .ref (ad 199), .int (nI ln), .ref (ad 200), .int (nI bk), .int (nI bt), .ref (ad 201), .int (nI ck), .int (nI ct), .ref (ad 202), .int (nI cn), .int (nI pk), .ref (ad 203), .ref (ad 204), .int (nI (u.1)), .ref (ad 205), .ref (ad 206), .int (bI (false)), .ref (ad 207)]) := (hk154 _ (by omega)).trans eL79_0
                    have e163 : g153 (203) = na ca 9000 (fl u.2.1) := (hk154 _ (by omega)).trans eL79_5
                    have e164 : g153 (204) = na ca 120 (u.2.2.1) := (hk154 _ (by omega)).trans eL79_6
                    have hs165 : ∀ z, (z < 198 ∨ 207 < z) → g153 z = g z := fun z hz => (hk154 z (by omega)).trans (hsL79 z hz)
                    refine k_inc C (i + 1) (lv' := [(6, .int (nI (i + 1))), (0, .ref (ad 198)), (1, .int (nI k)), (2, .int (nI t)), (3, .int (nI (tnN (fbG pm k)))), (4, .int (nI (k + 11))), (5, .int (nI x))]) dX8_block_111 hl (k := 6) rfl (inc1 _) (by decide) rfl (fun ls hl => ?_)
                    refine lv_goto (tgt := 79) C.1 C.2.1 dX8_block_114 (by decide) ?_
                    exact ih79 (i + 1) (va_up f1 (59 + i) (th (t * x + i))) g153 H locs ls (by omega) (by omega) (by rw [hf1, onRow_up (by omega)]; exact congrArg (fun z => onRow z u.2.2.2) (vlV_s (pkR k x (tnN (fbG pm k))) (fun i => th (t * x + i)) i)) hs165 e162 e156 e161 e157 e158 e163 e164 e155 e159 e160 hw (lv_sub hl [1, 2, 3, 4, 5, 6, 0] rfl)
              exact loop79 _ 0 (onRow (pkR k x (tnN (fbG pm k))) u.2.2.2) g125 H locs ls (Nat.le_refl _) (by omega) (by rw [vlV_0]) hs137 e134 e128 e133 e129 e130 e135 e136 e127 e131 e132 hw (lv_sub hl [1, 2, 3, 4, 5, 6, 0] rfl)
        exact loop61 _ 0 (mStart pm k (u48.1, u48.2.1, u48.2.2.1, u48.2.2.2)) g57 H locs ls (Nat.le_refl _) (by omega) rfl hs69 e59 e63 e68 e64 e65 e60 e61 e62 e66 e67 hw (lv_sub hl [3, 4, 5, 2, 1, 0] rfl)
      · refine k_icn C 1 dX8_block_25 (by decide) ?_
        refine lv_goto (tgt := 30) C.1 C.2.1 dX8_block_26 (by decide) ?_
        refine k_put C F hw (198) (by omega) q198 rfl in_X8 tyX8_ok nmX8 0 (by decide) fl_X8_42 rfl (v := .int (nI 1)) rfl rfl (Nat.le_of_ble_eq_true rfl) dX8_block_30 (fun H locs hw => ?_)
        have hw : Wd D (AA R ad sz) s R ad (va_up g (198) (.inr (8, [.int (nI 1), .ref (ad 199), .int (nI ln), .ref (ad 200), .int (nI bk), .int (nI bt), .ref (ad 201), .int (nI ck), .int (nI ct), .ref (ad 202), .int (nI cn), .int (nI pk), .ref (ad 203), .ref (ad 204), .int (nI rw), .ref (ad 205), .ref (ad 206), .int (bI (gt)), .ref (ad 207)]))) H locs := hw
        obtain ⟨g166, hg166⟩ : ∃ z, z = va_up g (198) (.inr (8, [.int (nI 1), .ref (ad 199), .int (nI ln), .ref (ad 200), .int (nI bk), .int (nI bt), .ref (ad 201), .int (nI ck), .int (nI ct), .ref (ad 202), .int (nI cn), .int (nI pk), .ref (ad 203), .ref (ad 204), .int (nI rw), .ref (ad 205), .ref (ad 206), .int (bI (gt)), .ref (ad 207)])) := ⟨_, rfl⟩
        rw [← hg166] at hw
        have hk167 : ∀ z, z ≠ 198 → g166 z = g z := fun z hz => by rw [hg166]; exact va_up_ne _ _ hz
        have e168 : g166 (198) = .inr (8, [.int (nI 1), .ref (ad 199), .int (nI ln), .ref (ad 200), .int (nI bk), .int (nI bt), .ref (ad 201), .int (nI ck), .int (nI ct), .ref (ad 202), .int (nI cn), .int (nI pk), .ref (ad 203), .ref (ad 204), .int (nI rw), .ref (ad 205), .ref (ad 206), .int (bI (gt)), .ref (ad 207)]) := by rw [hg166]; exact va_up_self _ _ _
        have e169 : g166 (199) = ba ca 800 (tp) := (hk167 _ (by omega)).trans q199
        have e170 : g166 (200) = ia ca 49 (tn) := (hk167 _ (by omega)).trans q200
        have e171 : g166 (201) = na ca 944 (fi IN) := (hk167 _ (by omega)).trans q201
        have e172 : g166 (202) = na ca 4425 (fl CG) := (hk167 _ (by omega)).trans q202
        have e173 : g166 (203) = na ca 9000 (fl M) := (hk167 _ (by omega)).trans q203
        have e174 : g166 (204) = na ca 120 (pv) := (hk167 _ (by omega)).trans q204
        have e175 : g166 (205) = na ca 75 (ro) := (hk167 _ (by omega)).trans q205
        have e176 : g166 (206) = na ca 255 (pm) := (hk167 _ (by omega)).trans q206
        have e177 : g166 (207) = na ca 16 (bb) := (hk167 _ (by omega)).trans q207
        have hs178 : ∀ z, (z < 198 ∨ 207 < z) → g166 z = g z := fun z hz => hk167 z (by omega)
        refine lv_aload_n C.1 C.2.1 dX8_block_33 rfl (lv_at hl 0 rfl) ?_
        refine k_get C F hw (198) (by omega) e168 rfl in_X8 0 (by decide) fl_X8_42 rfl dX8_block_34 ?_
        refine k_zle (tgt := 41) C dX8_block_37 (by decide) (by omega) (fun h => absurd h (by decide)) (fun _ => ?_)
        have hS179 : MSt ca ad g166 pm (nI (1)) ln th bk bt IN ck ct CG cn pk tp rw gt M pv ro tn bb := ⟨⟨e168, e169, e170, e171, e172, e173, e174, e175, e176, e177⟩, hmb, hbb, hCG, hIN, htn, hgt, hbd, hGr, hth⟩
        exact hret H locs ls _ _ dX8_block_40 hw (⟨hs178, Or.inr ⟨fun ⟨k, t, h1, h2, h3, h4, h5⟩ => by first | (subst h1; exact of_decide_eq_false hc5 ⟨nI_le (a := 1) h3.1 (by omega), nI_le (b := 48) h3.2 (by decide)⟩) | (subst h2; exact of_decide_eq_false hc12 ⟨nI_le (a := 1) h4.1 (by omega), nI_le (b := 16) h4.2 (by decide)⟩) | (exact bl_no hc22 h1 h2 hk ht h3 h4 h5), ⟨_, _, _, _, _, _, _, _, hS179⟩⟩⟩)
