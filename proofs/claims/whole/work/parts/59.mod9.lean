/-! ===== FountainDeskModel: public methods, second half ===== -/

theorem zt_ks {pm : Nat → Nat} {ck cn x t : Nat} {CG : Nat → Nat → Nat} {u : MS} {ro : Nat → Nat} (hk : ck ≤ 48) (hu : MBy u) (h : KmOK (ck + 11) (VV pm ck CG) (11 + cn) u) : zT (mRed u.1 u.2.1 u.2.2.1 (onRow (pkR ck x t) ro)) (ck + 11) = true ↔ KS (ck + 11) 0 (VV pm ck CG) (11 + cn) (pkR ck x t) := by
  rw [← h.2.2 0 (by omega) _ (by_pkR ck x t), zT_iff]
  constructor
  · intro h1 c hc
    rw [← h1 c hc]
    exact red_congr hu.2.2 (fun c hc => (onRow_at hc).symm) _ c (rel_lt (by omega) (by decide) hc)
  · intro h1 c hc
    rw [← h1 c hc]
    exact red_congr hu.2.2 (fun c hc => onRow_at hc) _ c (rel_lt (by omega) (by decide) hc)
theorem by_red {n : Nat} {M : Nat → Nat → Nat} {pv v : Nat → Nat} (hv : By v) : By (mRed n M pv v) → By (mRed n M pv v) := id

abbrev rm_X8_follows : Room := { frames := 5, cells := 0, slots := 0, locals := 118 }

set_option maxHeartbeats 800000 in
set_option maxRecDepth 100000 in
/-- follows -/
theorem c_X8_follows {l : Launch} {D : va_G} {ca : Nat → ClassId} {tB tS R : Nat} {ad : Nat → Nat} {g : Nat → va_E} {sz : Nat} (hR : 207 < R) (pm : Nat → Nat) (hpm : PmOk pm) (hT : ∀ k, 1 ≤ k → k ≤ 48 → tnN (fbG pm k) < 1000) (cd : Int32) (ln : Nat) (th : Nat → Nat) (bk bt : Nat) (IN : Nat → Nat → Nat) (ck ct : Nat) (CG : Nat → Nat → Nat) (cn pk : Nat) (hI : MInv ca ad g pm cd ln th bk bt IN ck ct CG cn pk) (xx : Int32) : MI l yX8_follows cX8_follows 2 .boolean rm_X8_follows D ca tB tS R ad g sz [.ref (ad 198), .int (xx)] (fun r g1 => (∀ z, z < 198 ∨ 207 < z → g1 z = g z) ∧ ((ck ≠ 0 ∧ ∃ x : Nat, xx = nI x ∧ x < 65536 ∧ ∃ b : Bool, r = bI b ∧ (b = true ↔ KS (ck + 11) 0 (VV pm ck CG) (11 + cn) (pkR ck x (tnN (fbG pm ck)))) ∧ MInv ca ad g1 pm (nI 0) ln th bk bt IN ck ct CG cn pk) ∨ (ck = 0 ∧ MInv ca ad g1 pm (nI 1) ln th bk bt IN ck ct CG cn pk) ∨ (ck ≠ 0 ∧ ¬ (0 ≤ xx ∧ xx < 65536) ∧ MInv ca ad g1 pm (nI 2) ln th bk bt IN ck ct CG cn pk))) := by
  refine m_startZ (by decide +kernel) (Nat.le_of_ble_eq_true rfl) (fun p e s m args below meth c ls Q hsz C hl F hw hret => ?_)
  have hl : lv_has ls 2 [(0, .ref (ad 198)), (1, .int (xx))] := hl
  generalize s.heap = H at hw ⊢
  generalize ([] : List Loc) = locs at hw ⊢
  obtain ⟨tp, rw, gt, M, pv, ro, tn, bb, hS⟩ := hI
  obtain ⟨⟨q198, q199, q200, q201, q202, q203, q204, q205, q206, q207⟩, hmb, hbb, hCG, hIN, htn, hgt, hbd, hGr, hth⟩ := hS
  have hbd2 := hbd.2.1
  have hbd3 := hbd.2.2
  refine lv_aload_n C.1 C.2.1 dX8_follows_0 rfl (lv_at hl 0 rfl) ?_
  refine lv_aload_n C.1 C.2.1 dX8_follows_1 rfl (lv_at hl 0 rfl) ?_
  refine k_get C F hw (198) (by omega) q198 rfl in_X8 7 (by decide) fl_X8_129 rfl dX8_follows_2 ?_
  refine k_zne (tgt := 12) C dX8_follows_5 (by decide) (by omega) (fun hc5 => ?_) (fun hc5 => ?_)
  · have hck : 1 ≤ ck ∧ ck ≤ 48 := by omega
    have hT1 := hT ck hck.1 hck.2
    have hcn := gr_le hpm hck.2 (fun i _ => hCG i) (hGr (by omega))
    refine lv_iload_n C.1 C.2.1 dX8_follows_12 rfl (lv_at hl 1 rfl) ?_
    refine k_Si C F hw (As := [.int (xx)]) (rest := [.ref (ad 198)]) (c_X8_isPacket xx) (va_cwS _ C.2.2.2.2 gm_X8_123 rfl rfl rfl cd_X8_isPacket.2 ⟨by decide, by decide⟩) hl.1 rfl (Nat.le_of_ble_eq_true rfl) dX8_follows_13 ⟨by decide, by decide⟩ (fun r1 g2 H locs hp hw => ?_)
    obtain ⟨hr9, hg9⟩ := hp
    rw [hg9] at hw
    subst hr9
    refine k_beq (tgt := 23) C dX8_follows_16 (by decide) (fun hc16 => ?_) (fun hc16 => ?_)
    · refine k_icn C 2 dX8_follows_23 (by decide) ?_
      refine k_put C F hw (198) (by omega) q198 rfl in_X8 tyX8_ok nmX8 0 (by decide) fl_X8_42 rfl (v := .int (nI 2)) rfl rfl (Nat.le_of_ble_eq_true rfl) dX8_follows_24 (fun H locs hw => ?_)
      have hw : Wd D (AA R ad sz) s R ad (va_up g (198) (.inr (8, [.int (nI 2), .ref (ad 199), .int (nI ln), .ref (ad 200), .int (nI bk), .int (nI bt), .ref (ad 201), .int (nI ck), .int (nI ct), .ref (ad 202), .int (nI cn), .int (nI pk), .ref (ad 203), .ref (ad 204), .int (nI rw), .ref (ad 205), .ref (ad 206), .int (bI (gt)), .ref (ad 207)]))) H locs := hw
      obtain ⟨g3, hg3⟩ : ∃ z, z = va_up g (198) (.inr (8, [.int (nI 2), .ref (ad 199), .int (nI ln), .ref (ad 200), .int (nI bk), .int (nI bt), .ref (ad 201), .int (nI ck), .int (nI ct), .ref (ad 202), .int (nI cn), .int (nI pk), .ref (ad 203), .ref (ad 204), .int (nI rw), .ref (ad 205), .ref (ad 206), .int (bI (gt)), .ref (ad 207)])) := ⟨_, rfl⟩
      rw [← hg3] at hw
      have hk4 : ∀ z, z ≠ 198 → g3 z = g z := fun z hz => by rw [hg3]; exact va_up_ne _ _ hz
      have e5 : g3 (198) = .inr (8, [.int (nI 2), .ref (ad 199), .int (nI ln), .ref (ad 200), .int (nI bk), .int (nI bt), .ref (ad 201), .int (nI ck), .int (nI ct), .ref (ad 202), .int (nI cn), .int (nI pk), .ref (ad 203), .ref (ad 204), .int (nI rw), .ref (ad 205), .ref (ad 206), .int (bI (gt)), .ref (ad 207)]) := by rw [hg3]; exact va_up_self _ _ _
      have e6 : g3 (199) = ba ca 800 (tp) := (hk4 _ (by omega)).trans q199
      have e7 : g3 (200) = ia ca 49 (tn) := (hk4 _ (by omega)).trans q200
      have e8 : g3 (201) = na ca 944 (fi IN) := (hk4 _ (by omega)).trans q201
      have e9 : g3 (202) = na ca 4425 (fl CG) := (hk4 _ (by omega)).trans q202
      have e10 : g3 (203) = na ca 9000 (fl M) := (hk4 _ (by omega)).trans q203
      have e11 : g3 (204) = na ca 120 (pv) := (hk4 _ (by omega)).trans q204
      have e12 : g3 (205) = na ca 75 (ro) := (hk4 _ (by omega)).trans q205
      have e13 : g3 (206) = na ca 255 (pm) := (hk4 _ (by omega)).trans q206
      have e14 : g3 (207) = na ca 16 (bb) := (hk4 _ (by omega)).trans q207
      have hs15 : ∀ z, (z < 198 ∨ 207 < z) → g3 z = g z := fun z hz => hk4 z (by omega)
      refine lv_aload_n C.1 C.2.1 dX8_follows_27 rfl (lv_at hl 0 rfl) ?_
      refine k_get C F hw (198) (by omega) e5 rfl in_X8 0 (by decide) fl_X8_42 rfl dX8_follows_28 ?_
      refine k_zle (tgt := 36) C dX8_follows_31 (by decide) (by omega) (fun h => absurd h (by decide)) (fun _ => ?_)
      refine k_icn C 0 dX8_follows_34 (by decide) ?_
      have hS16 : MSt ca ad g3 pm (nI (2)) ln th bk bt IN ck ct CG cn pk tp rw gt M pv ro tn bb := ⟨⟨e5, e6, e7, e8, e9, e10, e11, e12, e13, e14⟩, hmb, hbb, hCG, hIN, htn, hgt, hbd, hGr, hth⟩
      exact hret H locs ls _ false _ _ dX8_follows_35 hw (by rfl) (⟨hs15, Or.inr (Or.inr ⟨hc5, of_decide_eq_false hc16, ⟨_, _, _, _, _, _, _, _, hS16⟩⟩)⟩)
    · obtain ⟨x, hx, rfl⟩ := nat_of0 (of_decide_eq_true hc16)
      refine k_icn C 0 dX8_follows_19 (by decide) ?_
      refine lv_goto (tgt := 24) C.1 C.2.1 dX8_follows_20 (by decide) ?_
      refine k_put C F hw (198) (by omega) q198 rfl in_X8 tyX8_ok nmX8 0 (by decide) fl_X8_42 rfl (v := .int (nI 0)) rfl rfl (Nat.le_of_ble_eq_true rfl) dX8_follows_24 (fun H locs hw => ?_)
      have hw : Wd D (AA R ad sz) s R ad (va_up g (198) (.inr (8, [.int (nI 0), .ref (ad 199), .int (nI ln), .ref (ad 200), .int (nI bk), .int (nI bt), .ref (ad 201), .int (nI ck), .int (nI ct), .ref (ad 202), .int (nI cn), .int (nI pk), .ref (ad 203), .ref (ad 204), .int (nI rw), .ref (ad 205), .ref (ad 206), .int (bI (gt)), .ref (ad 207)]))) H locs := hw
      obtain ⟨g17, hg17⟩ : ∃ z, z = va_up g (198) (.inr (8, [.int (nI 0), .ref (ad 199), .int (nI ln), .ref (ad 200), .int (nI bk), .int (nI bt), .ref (ad 201), .int (nI ck), .int (nI ct), .ref (ad 202), .int (nI cn), .int (nI pk), .ref (ad 203), .ref (ad 204), .int (nI rw), .ref (ad 205), .ref (ad 206), .int (bI (gt)), .ref (ad 207)])) := ⟨_, rfl⟩
      rw [← hg17] at hw
      have hk18 : ∀ z, z ≠ 198 → g17 z = g z := fun z hz => by rw [hg17]; exact va_up_ne _ _ hz
      have e19 : g17 (198) = .inr (8, [.int (nI 0), .ref (ad 199), .int (nI ln), .ref (ad 200), .int (nI bk), .int (nI bt), .ref (ad 201), .int (nI ck), .int (nI ct), .ref (ad 202), .int (nI cn), .int (nI pk), .ref (ad 203), .ref (ad 204), .int (nI rw), .ref (ad 205), .ref (ad 206), .int (bI (gt)), .ref (ad 207)]) := by rw [hg17]; exact va_up_self _ _ _
      have e20 : g17 (199) = ba ca 800 (tp) := (hk18 _ (by omega)).trans q199
      have e21 : g17 (200) = ia ca 49 (tn) := (hk18 _ (by omega)).trans q200
      have e22 : g17 (201) = na ca 944 (fi IN) := (hk18 _ (by omega)).trans q201
      have e23 : g17 (202) = na ca 4425 (fl CG) := (hk18 _ (by omega)).trans q202
      have e24 : g17 (203) = na ca 9000 (fl M) := (hk18 _ (by omega)).trans q203
      have e25 : g17 (204) = na ca 120 (pv) := (hk18 _ (by omega)).trans q204
      have e26 : g17 (205) = na ca 75 (ro) := (hk18 _ (by omega)).trans q205
      have e27 : g17 (206) = na ca 255 (pm) := (hk18 _ (by omega)).trans q206
      have e28 : g17 (207) = na ca 16 (bb) := (hk18 _ (by omega)).trans q207
      have hs29 : ∀ z, (z < 198 ∨ 207 < z) → g17 z = g z := fun z hz => hk18 z (by omega)
      refine lv_aload_n C.1 C.2.1 dX8_follows_27 rfl (lv_at hl 0 rfl) ?_
      refine k_get C F hw (198) (by omega) e19 rfl in_X8 0 (by decide) fl_X8_42 rfl dX8_follows_28 ?_
      refine k_zle (tgt := 36) C dX8_follows_31 (by decide) (by omega) (fun _ => ?_) (fun h => absurd h (by decide))
      refine lv_aload_n C.1 C.2.1 dX8_follows_36 rfl (lv_at hl 0 rfl) ?_
      refine k_Vv C F hw (i := 198) (As := []) (rest := []) (c_X8_gather hR (nI (0)) ln bk bt ck ct cn pk rw gt e19 ro e26 pm e27 M pv e24 e25 hmb.1 hmb.2.1 hmb.2.2 hpm CG e23 hCG hck (by omega)) (by omega) e19 rfl (cwV _ C.2.2.2.2 gm_X8_141 rfl rfl rfl cd_X8_gather ⟨by decide, by decide⟩) hl.1 rfl (Nat.le_of_ble_eq_true rfl) dX8_follows_37 ⟨by decide, by decide⟩ (fun g31 H locs hp hw => ?_)
      obtain ⟨hkm32, hmb32⟩ := ga_ok (gt := gt) (u := (rw, M, pv, ro)) hpm hck.2 hmb hCG (hGr (by omega)) (fun h => (hgt h).2)
      generalize gaS pm ck cn CG gt (rw, M, pv, ro) = v32 at hp hkm32 hmb32
      obtain ⟨hs33, e9832, e0332, e0432, e0532⟩ := hp
      have e34 : g31 (199) = ba ca 800 (tp) := (hs33 _ (by omega)).trans e20
      have e35 : g31 (200) = ia ca 49 (tn) := (hs33 _ (by omega)).trans e21
      have e36 : g31 (201) = na ca 944 (fi IN) := (hs33 _ (by omega)).trans e22
      have e37 : g31 (202) = na ca 4425 (fl CG) := (hs33 _ (by omega)).trans e23
      have e38 : g31 (206) = na ca 255 (pm) := (hs33 _ (by omega)).trans e27
      have e39 : g31 (207) = na ca 16 (bb) := (hs33 _ (by omega)).trans e28
      have hs40 : ∀ z, (z < 198 ∨ 207 < z) → g31 z = g z := fun z hz => (hs33 z (by omega)).trans (hs29 z hz)
      have hgt32 : true = true → ck ≠ 0 ∧ KmOK (ck + 11) (VV pm ck CG) (11 + cn) v32 := fun _ => ⟨by omega, hkm32⟩
      have hv1 : v32.1 = 11 + cn := hkm32.1
      refine lv_aload_n C.1 C.2.1 dX8_follows_40 rfl (lv_at hl 0 rfl) ?_
      refine lv_iload_n C.1 C.2.1 dX8_follows_41 rfl (lv_at hl 1 rfl) ?_
      refine k_Vi C F hw (i := 198) (As := [.int (nI x)]) (rest := []) (c_X8_isKnown hR (nI (0)) ln bk bt ck ct cn pk v32.1 true e9832 v32.2.2.2 e0532 v32.2.1 v32.2.2.1 e0332 e0432 hmb32.1 hmb32.2.1 hmb32.2.2 (by omega) tn e35 (tnN (fbG pm ck)) (htn.2 (by omega)) (by omega) hck x hx) (by omega) e9832 rfl (cwV _ C.2.2.2.2 gm_X8_155 rfl rfl rfl cd_X8_isKnown ⟨by decide, by decide⟩) hl.1 rfl (Nat.le_of_ble_eq_true rfl) dX8_follows_42 ⟨by decide, by decide⟩ (fun r41 g42 H locs hp hw => ?_)
      obtain ⟨hr9, hp⟩ := hp
      subst hr9
      obtain ⟨hk43, e44⟩ := hp
      have e45 : g42 (199) = ba ca 800 (tp) := (hk43 _ (by omega)).trans e34
      have e46 : g42 (200) = ia ca 49 (tn) := (hk43 _ (by omega)).trans e35
      have e47 : g42 (201) = na ca 944 (fi IN) := (hk43 _ (by omega)).trans e36
      have e48 : g42 (202) = na ca 4425 (fl CG) := (hk43 _ (by omega)).trans e37
      have e49 : g42 (206) = na ca 255 (pm) := (hk43 _ (by omega)).trans e38
      have e50 : g42 (207) = na ca 16 (bb) := (hk43 _ (by omega)).trans e39
      have e51 : g42 (198) = .inr (8, [.int (nI 0), .ref (ad 199), .int (nI ln), .ref (ad 200), .int (nI bk), .int (nI bt), .ref (ad 201), .int (nI ck), .int (nI ct), .ref (ad 202), .int (nI cn), .int (nI pk), .ref (ad 203), .ref (ad 204), .int (nI (v32.1)), .ref (ad 205), .ref (ad 206), .int (bI (true)), .ref (ad 207)]) := (hk43 _ (by omega)).trans e9832
      have e52 : g42 (203) = na ca 9000 (fl v32.2.1) := (hk43 _ (by omega)).trans e0332
      have e53 : g42 (204) = na ca 120 (v32.2.2.1) := (hk43 _ (by omega)).trans e0432
      have hs54 : ∀ z, (z < 198 ∨ 207 < z) → g42 z = g z := fun z hz => (hk43 z (by omega)).trans (hs40 z hz)
      have hrb55 : By (mRed v32.1 v32.2.1 v32.2.2.1 (onRow (pkR ck x (tnN (fbG pm ck))) v32.2.2.2)) := by_mred (by_prt (fun c _ => by_pkR _ _ _ c) hmb32.2.1) _
      have hg56 : true = true → ck ≠ 0 ∧ KmOK (ck + 11) (VV pm ck CG) (11 + cn) (v32.1, v32.2.1, v32.2.2.1, mRed v32.1 v32.2.1 v32.2.2.1 (onRow (pkR ck x (tnN (fbG pm ck))) v32.2.2.2)) := fun _ => ⟨by omega, hkm32.1, hkm32.2.1, hkm32.2.2⟩
      have hS57 : MSt ca ad g42 pm (nI (0)) ln th bk bt IN ck ct CG cn pk tp v32.1 true v32.2.1 v32.2.2.1 (mRed v32.1 v32.2.1 v32.2.2.1 (onRow (pkR ck x (tnN (fbG pm ck))) v32.2.2.2)) tn bb := ⟨⟨e51, e45, e46, e47, e48, e52, e53, e44, e49, e50⟩, ⟨hmb32.1, hrb55, hmb32.2.2⟩, hbb, hCG, hIN, htn, hg56, hbd, hGr, hth⟩
      exact hret H locs ls _ (zT (mRed v32.1 v32.2.1 v32.2.2.1 (onRow (pkR ck x (tnN (fbG pm ck))) v32.2.2.2)) (ck + 11)) _ _ dX8_follows_45 hw (by rfl) (⟨hs54, Or.inl ⟨hc5, x, rfl, hx, _, rfl, zt_ks hck.2 hmb32 hkm32, ⟨_, _, _, _, _, _, _, _, hS57⟩⟩⟩)
  · refine k_icn C 1 dX8_follows_8 (by decide) ?_
    refine lv_goto (tgt := 24) C.1 C.2.1 dX8_follows_9 (by decide) ?_
    refine k_put C F hw (198) (by omega) q198 rfl in_X8 tyX8_ok nmX8 0 (by decide) fl_X8_42 rfl (v := .int (nI 1)) rfl rfl (Nat.le_of_ble_eq_true rfl) dX8_follows_24 (fun H locs hw => ?_)
    have hw : Wd D (AA R ad sz) s R ad (va_up g (198) (.inr (8, [.int (nI 1), .ref (ad 199), .int (nI ln), .ref (ad 200), .int (nI bk), .int (nI bt), .ref (ad 201), .int (nI ck), .int (nI ct), .ref (ad 202), .int (nI cn), .int (nI pk), .ref (ad 203), .ref (ad 204), .int (nI rw), .ref (ad 205), .ref (ad 206), .int (bI (gt)), .ref (ad 207)]))) H locs := hw
    obtain ⟨g58, hg58⟩ : ∃ z, z = va_up g (198) (.inr (8, [.int (nI 1), .ref (ad 199), .int (nI ln), .ref (ad 200), .int (nI bk), .int (nI bt), .ref (ad 201), .int (nI ck), .int (nI ct), .ref (ad 202), .int (nI cn), .int (nI pk), .ref (ad 203), .ref (ad 204), .int (nI rw), .ref (ad 205), .ref (ad 206), .int (bI (gt)), .ref (ad 207)])) := ⟨_, rfl⟩
    rw [← hg58] at hw
    have hk59 : ∀ z, z ≠ 198 → g58 z = g z := fun z hz => by rw [hg58]; exact va_up_ne _ _ hz
    have e60 : g58 (198) = .inr (8, [.int (nI 1), .ref (ad 199), .int (nI ln), .ref (ad 200), .int (nI bk), .int (nI bt), .ref (ad 201), .int (nI ck), .int (nI ct), .ref (ad 202), .int (nI cn), .int (nI pk), .ref (ad 203), .ref (ad 204), .int (nI rw), .ref (ad 205), .ref (ad 206), .int (bI (gt)), .ref (ad 207)]) := by rw [hg58]; exact va_up_self _ _ _
    have e61 : g58 (199) = ba ca 800 (tp) := (hk59 _ (by omega)).trans q199
    have e62 : g58 (200) = ia ca 49 (tn) := (hk59 _ (by omega)).trans q200
    have e63 : g58 (201) = na ca 944 (fi IN) := (hk59 _ (by omega)).trans q201
    have e64 : g58 (202) = na ca 4425 (fl CG) := (hk59 _ (by omega)).trans q202
    have e65 : g58 (203) = na ca 9000 (fl M) := (hk59 _ (by omega)).trans q203
    have e66 : g58 (204) = na ca 120 (pv) := (hk59 _ (by omega)).trans q204
    have e67 : g58 (205) = na ca 75 (ro) := (hk59 _ (by omega)).trans q205
    have e68 : g58 (206) = na ca 255 (pm) := (hk59 _ (by omega)).trans q206
    have e69 : g58 (207) = na ca 16 (bb) := (hk59 _ (by omega)).trans q207
    have hs70 : ∀ z, (z < 198 ∨ 207 < z) → g58 z = g z := fun z hz => hk59 z (by omega)
    refine lv_aload_n C.1 C.2.1 dX8_follows_27 rfl (lv_at hl 0 rfl) ?_
    refine k_get C F hw (198) (by omega) e60 rfl in_X8 0 (by decide) fl_X8_42 rfl dX8_follows_28 ?_
    refine k_zle (tgt := 36) C dX8_follows_31 (by decide) (by omega) (fun h => absurd h (by decide)) (fun _ => ?_)
    refine k_icn C 0 dX8_follows_34 (by decide) ?_
    have hS71 : MSt ca ad g58 pm (nI (1)) ln th bk bt IN ck ct CG cn pk tp rw gt M pv ro tn bb := ⟨⟨e60, e61, e62, e63, e64, e65, e66, e67, e68, e69⟩, hmb, hbb, hCG, hIN, htn, hgt, hbd, hGr, hth⟩
    exact hret H locs ls _ false _ _ dX8_follows_35 hw (by rfl) (⟨hs70, Or.inr (Or.inl ⟨hc5, ⟨_, _, _, _, _, _, _, _, hS71⟩⟩)⟩)

abbrev rm_X8_known : Room := { frames := 5, cells := 0, slots := 0, locals := 118 }

set_option maxHeartbeats 800000 in
set_option maxRecDepth 100000 in
/-- known -/
theorem c_X8_known {l : Launch} {D : va_G} {ca : Nat → ClassId} {tB tS R : Nat} {ad : Nat → Nat} {g : Nat → va_E} {sz : Nat} (hR : 207 < R) (pm : Nat → Nat) (hpm : PmOk pm) (hT : ∀ k, 1 ≤ k → k ≤ 48 → tnN (fbG pm k) < 1000) (cd : Int32) (ln : Nat) (th : Nat → Nat) (bk bt : Nat) (IN : Nat → Nat → Nat) (ck ct : Nat) (CG : Nat → Nat → Nat) (cn pk : Nat) (hI : MInv ca ad g pm cd ln th bk bt IN ck ct CG cn pk) (xx ix : Int32) : MI l yX8_known cX8_known 3 .int rm_X8_known D ca tB tS R ad g sz [.ref (ad 198), .int (xx), .int (ix)] (fun r g1 => (∀ z, z < 198 ∨ 207 < z → g1 z = g z) ∧ ((ck ≠ 0 ∧ ∃ x i : Nat, xx = nI x ∧ ix = nI i ∧ x < 65536 ∧ i < ct ∧ KS (ck + 11) 0 (VV pm ck CG) (11 + cn) (pkR ck x (tnN (fbG pm ck))) ∧ (∃ u, KmOK (ck + 11) (VV pm ck CG) (11 + cn) u ∧ MBy u ∧ r = nI (mRed u.1 u.2.1 u.2.2.1 (pkR ck x (tnN (fbG pm ck))) (59 + i))) ∧ MInv ca ad g1 pm (nI 0) ln th bk bt IN ck ct CG cn pk) ∨ (ck = 0 ∧ MInv ca ad g1 pm (nI 1) ln th bk bt IN ck ct CG cn pk) ∨ (ck ≠ 0 ∧ ¬ (0 ≤ xx ∧ xx < 65536) ∧ MInv ca ad g1 pm (nI 2) ln th bk bt IN ck ct CG cn pk) ∨ (ck ≠ 0 ∧ (∃ x : Nat, xx = nI x ∧ x < 65536 ∧ ¬ KS (ck + 11) 0 (VV pm ck CG) (11 + cn) (pkR ck x (tnN (fbG pm ck)))) ∧ MInv ca ad g1 pm (nI 1) ln th bk bt IN ck ct CG cn pk) ∨ (ck ≠ 0 ∧ (∃ x : Nat, xx = nI x ∧ x < 65536 ∧ KS (ck + 11) 0 (VV pm ck CG) (11 + cn) (pkR ck x (tnN (fbG pm ck)))) ∧ (¬ ∃ i : Nat, ix = nI i ∧ i < ct) ∧ MInv ca ad g1 pm (nI 2) ln th bk bt IN ck ct CG cn pk))) := by
  refine m_startI (by decide +kernel) (Nat.le_of_ble_eq_true rfl) (fun p e s m args below meth c ls Q hsz C hl F hw hret => ?_)
  have hl : lv_has ls 3 [(0, .ref (ad 198)), (1, .int (xx)), (2, .int (ix))] := hl
  generalize s.heap = H at hw ⊢
  generalize ([] : List Loc) = locs at hw ⊢
  obtain ⟨tp, rw, gt, M, pv, ro, tn, bb, hS⟩ := hI
  obtain ⟨⟨q198, q199, q200, q201, q202, q203, q204, q205, q206, q207⟩, hmb, hbb, hCG, hIN, htn, hgt, hbd, hGr, hth⟩ := hS
  have hbd2 := hbd.2.1
  have hbd3 := hbd.2.2
  refine lv_aload_n C.1 C.2.1 dX8_known_0 rfl (lv_at hl 0 rfl) ?_
  refine lv_aload_n C.1 C.2.1 dX8_known_1 rfl (lv_at hl 0 rfl) ?_
  refine k_get C F hw (198) (by omega) q198 rfl in_X8 7 (by decide) fl_X8_129 rfl dX8_known_2 ?_
  refine k_zne (tgt := 12) C dX8_known_5 (by decide) (by omega) (fun hc5 => ?_) (fun hc5 => ?_)
  · have hck : 1 ≤ ck ∧ ck ≤ 48 := by omega
    have hT1 := hT ck hck.1 hck.2
    have hcn := gr_le hpm hck.2 (fun i _ => hCG i) (hGr (by omega))
    refine lv_iload_n C.1 C.2.1 dX8_known_12 rfl (lv_at hl 1 rfl) ?_
    refine k_Si C F hw (As := [.int (xx)]) (rest := [.ref (ad 198)]) (c_X8_isPacket xx) (va_cwS _ C.2.2.2.2 gm_X8_123 rfl rfl rfl cd_X8_isPacket.2 ⟨by decide, by decide⟩) hl.1 rfl (Nat.le_of_ble_eq_true rfl) dX8_known_13 ⟨by decide, by decide⟩ (fun r1 g2 H locs hp hw => ?_)
    obtain ⟨hr9, hg9⟩ := hp
    rw [hg9] at hw
    subst hr9
    refine k_beq (tgt := 23) C dX8_known_16 (by decide) (fun hc16 => ?_) (fun hc16 => ?_)
    · refine k_icn C 2 dX8_known_23 (by decide) ?_
      refine k_put C F hw (198) (by omega) q198 rfl in_X8 tyX8_ok nmX8 0 (by decide) fl_X8_42 rfl (v := .int (nI 2)) rfl rfl (Nat.le_of_ble_eq_true rfl) dX8_known_24 (fun H locs hw => ?_)
      have hw : Wd D (AA R ad sz) s R ad (va_up g (198) (.inr (8, [.int (nI 2), .ref (ad 199), .int (nI ln), .ref (ad 200), .int (nI bk), .int (nI bt), .ref (ad 201), .int (nI ck), .int (nI ct), .ref (ad 202), .int (nI cn), .int (nI pk), .ref (ad 203), .ref (ad 204), .int (nI rw), .ref (ad 205), .ref (ad 206), .int (bI (gt)), .ref (ad 207)]))) H locs := hw
      obtain ⟨g3, hg3⟩ : ∃ z, z = va_up g (198) (.inr (8, [.int (nI 2), .ref (ad 199), .int (nI ln), .ref (ad 200), .int (nI bk), .int (nI bt), .ref (ad 201), .int (nI ck), .int (nI ct), .ref (ad 202), .int (nI cn), .int (nI pk), .ref (ad 203), .ref (ad 204), .int (nI rw), .ref (ad 205), .ref (ad 206), .int (bI (gt)), .ref (ad 207)])) := ⟨_, rfl⟩
      rw [← hg3] at hw
      have hk4 : ∀ z, z ≠ 198 → g3 z = g z := fun z hz => by rw [hg3]; exact va_up_ne _ _ hz
      have e5 : g3 (198) = .inr (8, [.int (nI 2), .ref (ad 199), .int (nI ln), .ref (ad 200), .int (nI bk), .int (nI bt), .ref (ad 201), .int (nI ck), .int (nI ct), .ref (ad 202), .int (nI cn), .int (nI pk), .ref (ad 203), .ref (ad 204), .int (nI rw), .ref (ad 205), .ref (ad 206), .int (bI (gt)), .ref (ad 207)]) := by rw [hg3]; exact va_up_self _ _ _
      have e6 : g3 (199) = ba ca 800 (tp) := (hk4 _ (by omega)).trans q199
      have e7 : g3 (200) = ia ca 49 (tn) := (hk4 _ (by omega)).trans q200
      have e8 : g3 (201) = na ca 944 (fi IN) := (hk4 _ (by omega)).trans q201
      have e9 : g3 (202) = na ca 4425 (fl CG) := (hk4 _ (by omega)).trans q202
      have e10 : g3 (203) = na ca 9000 (fl M) := (hk4 _ (by omega)).trans q203
      have e11 : g3 (204) = na ca 120 (pv) := (hk4 _ (by omega)).trans q204
      have e12 : g3 (205) = na ca 75 (ro) := (hk4 _ (by omega)).trans q205
      have e13 : g3 (206) = na ca 255 (pm) := (hk4 _ (by omega)).trans q206
      have e14 : g3 (207) = na ca 16 (bb) := (hk4 _ (by omega)).trans q207
      have hs15 : ∀ z, (z < 198 ∨ 207 < z) → g3 z = g z := fun z hz => hk4 z (by omega)
      refine lv_aload_n C.1 C.2.1 dX8_known_27 rfl (lv_at hl 0 rfl) ?_
      refine k_get C F hw (198) (by omega) e5 rfl in_X8 0 (by decide) fl_X8_42 rfl dX8_known_28 ?_
      refine k_zle (tgt := 36) C dX8_known_31 (by decide) (by omega) (fun h => absurd h (by decide)) (fun _ => ?_)
      refine k_icn C 0 dX8_known_34 (by decide) ?_
      have hS16 : MSt ca ad g3 pm (nI (2)) ln th bk bt IN ck ct CG cn pk tp rw gt M pv ro tn bb := ⟨⟨e5, e6, e7, e8, e9, e10, e11, e12, e13, e14⟩, hmb, hbb, hCG, hIN, htn, hgt, hbd, hGr, hth⟩
      exact hret H locs ls _ _ _ dX8_known_35 hw (⟨hs15, Or.inr (Or.inr (Or.inl ⟨hc5, of_decide_eq_false hc16, ⟨_, _, _, _, _, _, _, _, hS16⟩⟩))⟩)
    · obtain ⟨x, hx, rfl⟩ := nat_of0 (of_decide_eq_true hc16)
      refine k_icn C 0 dX8_known_19 (by decide) ?_
      refine lv_goto (tgt := 24) C.1 C.2.1 dX8_known_20 (by decide) ?_
      refine k_put C F hw (198) (by omega) q198 rfl in_X8 tyX8_ok nmX8 0 (by decide) fl_X8_42 rfl (v := .int (nI 0)) rfl rfl (Nat.le_of_ble_eq_true rfl) dX8_known_24 (fun H locs hw => ?_)
      have hw : Wd D (AA R ad sz) s R ad (va_up g (198) (.inr (8, [.int (nI 0), .ref (ad 199), .int (nI ln), .ref (ad 200), .int (nI bk), .int (nI bt), .ref (ad 201), .int (nI ck), .int (nI ct), .ref (ad 202), .int (nI cn), .int (nI pk), .ref (ad 203), .ref (ad 204), .int (nI rw), .ref (ad 205), .ref (ad 206), .int (bI (gt)), .ref (ad 207)]))) H locs := hw
      obtain ⟨g17, hg17⟩ : ∃ z, z = va_up g (198) (.inr (8, [.int (nI 0), .ref (ad 199), .int (nI ln), .ref (ad 200), .int (nI bk), .int (nI bt), .ref (ad 201), .int (nI ck), .int (nI ct), .ref (ad 202), .int (nI cn), .int (nI pk), .ref (ad 203), .ref (ad 204), .int (nI rw), .ref (ad 205), .ref (ad 206), .int (bI (gt)), .ref (ad 207)])) := ⟨_, rfl⟩
      rw [← hg17] at hw
      have hk18 : ∀ z, z ≠ 198 → g17 z = g z := fun z hz => by rw [hg17]; exact va_up_ne _ _ hz
      have e19 : g17 (198) = .inr (8, [.int (nI 0), .ref (ad 199), .int (nI ln), .ref (ad 200), .int (nI bk), .int (nI bt), .ref (ad 201), .int (nI ck), .int (nI ct), .ref (ad 202), .int (nI cn), .int (nI pk), .ref (ad 203), .ref (ad 204), .int (nI rw), .ref (ad 205), .ref (ad 206), .int (bI (gt)), .ref (ad 207)]) := by rw [hg17]; exact va_up_self _ _ _
      have e20 : g17 (199) = ba ca 800 (tp) := (hk18 _ (by omega)).trans q199
      have e21 : g17 (200) = ia ca 49 (tn) := (hk18 _ (by omega)).trans q200
      have e22 : g17 (201) = na ca 944 (fi IN) := (hk18 _ (by omega)).trans q201
      have e23 : g17 (202) = na ca 4425 (fl CG) := (hk18 _ (by omega)).trans q202
      have e24 : g17 (203) = na ca 9000 (fl M) := (hk18 _ (by omega)).trans q203
      have e25 : g17 (204) = na ca 120 (pv) := (hk18 _ (by omega)).trans q204
      have e26 : g17 (205) = na ca 75 (ro) := (hk18 _ (by omega)).trans q205
      have e27 : g17 (206) = na ca 255 (pm) := (hk18 _ (by omega)).trans q206
      have e28 : g17 (207) = na ca 16 (bb) := (hk18 _ (by omega)).trans q207
      have hs29 : ∀ z, (z < 198 ∨ 207 < z) → g17 z = g z := fun z hz => hk18 z (by omega)
      refine lv_aload_n C.1 C.2.1 dX8_known_27 rfl (lv_at hl 0 rfl) ?_
      refine k_get C F hw (198) (by omega) e19 rfl in_X8 0 (by decide) fl_X8_42 rfl dX8_known_28 ?_
      refine k_zle (tgt := 36) C dX8_known_31 (by decide) (by omega) (fun _ => ?_) (fun h => absurd h (by decide))
      refine lv_aload_n C.1 C.2.1 dX8_known_36 rfl (lv_at hl 0 rfl) ?_
      refine k_Vv C F hw (i := 198) (As := []) (rest := []) (c_X8_gather hR (nI (0)) ln bk bt ck ct cn pk rw gt e19 ro e26 pm e27 M pv e24 e25 hmb.1 hmb.2.1 hmb.2.2 hpm CG e23 hCG hck (by omega)) (by omega) e19 rfl (cwV _ C.2.2.2.2 gm_X8_141 rfl rfl rfl cd_X8_gather ⟨by decide, by decide⟩) hl.1 rfl (Nat.le_of_ble_eq_true rfl) dX8_known_37 ⟨by decide, by decide⟩ (fun g31 H locs hp hw => ?_)
      obtain ⟨hkm32, hmb32⟩ := ga_ok (gt := gt) (u := (rw, M, pv, ro)) hpm hck.2 hmb hCG (hGr (by omega)) (fun h => (hgt h).2)
      generalize gaS pm ck cn CG gt (rw, M, pv, ro) = v32 at hp hkm32 hmb32
      obtain ⟨hs33, e9832, e0332, e0432, e0532⟩ := hp
      have e34 : g31 (199) = ba ca 800 (tp) := (hs33 _ (by omega)).trans e20
      have e35 : g31 (200) = ia ca 49 (tn) := (hs33 _ (by omega)).trans e21
      have e36 : g31 (201) = na ca 944 (fi IN) := (hs33 _ (by omega)).trans e22
      have e37 : g31 (202) = na ca 4425 (fl CG) := (hs33 _ (by omega)).trans e23
      have e38 : g31 (206) = na ca 255 (pm) := (hs33 _ (by omega)).trans e27
      have e39 : g31 (207) = na ca 16 (bb) := (hs33 _ (by omega)).trans e28
      have hs40 : ∀ z, (z < 198 ∨ 207 < z) → g31 z = g z := fun z hz => (hs33 z (by omega)).trans (hs29 z hz)
      have hgt32 : true = true → ck ≠ 0 ∧ KmOK (ck + 11) (VV pm ck CG) (11 + cn) v32 := fun _ => ⟨by omega, hkm32⟩
      have hv1 : v32.1 = 11 + cn := hkm32.1
      refine lv_aload_n C.1 C.2.1 dX8_known_40 rfl (lv_at hl 0 rfl) ?_
      refine lv_iload_n C.1 C.2.1 dX8_known_41 rfl (lv_at hl 1 rfl) ?_
      refine k_Vi C F hw (i := 198) (As := [.int (nI x)]) (rest := []) (c_X8_isKnown hR (nI (0)) ln bk bt ck ct cn pk v32.1 true e9832 v32.2.2.2 e0532 v32.2.1 v32.2.2.1 e0332 e0432 hmb32.1 hmb32.2.1 hmb32.2.2 (by omega) tn e35 (tnN (fbG pm ck)) (htn.2 (by omega)) (by omega) hck x hx) (by omega) e9832 rfl (cwV _ C.2.2.2.2 gm_X8_155 rfl rfl rfl cd_X8_isKnown ⟨by decide, by decide⟩) hl.1 rfl (Nat.le_of_ble_eq_true rfl) dX8_known_42 ⟨by decide, by decide⟩ (fun r41 g42 H locs hp hw => ?_)
      obtain ⟨hr9, hp⟩ := hp
      subst hr9
      obtain ⟨hk43, e44⟩ := hp
      have e45 : g42 (199) = ba ca 800 (tp) := (hk43 _ (by omega)).trans e34
      have e46 : g42 (200) = ia ca 49 (tn) := (hk43 _ (by omega)).trans e35
      have e47 : g42 (201) = na ca 944 (fi IN) := (hk43 _ (by omega)).trans e36
      have e48 : g42 (202) = na ca 4425 (fl CG) := (hk43 _ (by omega)).trans e37
      have e49 : g42 (206) = na ca 255 (pm) := (hk43 _ (by omega)).trans e38
      have e50 : g42 (207) = na ca 16 (bb) := (hk43 _ (by omega)).trans e39
      have e51 : g42 (198) = .inr (8, [.int (nI 0), .ref (ad 199), .int (nI ln), .ref (ad 200), .int (nI bk), .int (nI bt), .ref (ad 201), .int (nI ck), .int (nI ct), .ref (ad 202), .int (nI cn), .int (nI pk), .ref (ad 203), .ref (ad 204), .int (nI (v32.1)), .ref (ad 205), .ref (ad 206), .int (bI (true)), .ref (ad 207)]) := (hk43 _ (by omega)).trans e9832
      have e52 : g42 (203) = na ca 9000 (fl v32.2.1) := (hk43 _ (by omega)).trans e0332
      have e53 : g42 (204) = na ca 120 (v32.2.2.1) := (hk43 _ (by omega)).trans e0432
      have hs54 : ∀ z, (z < 198 ∨ 207 < z) → g42 z = g z := fun z hz => (hk43 z (by omega)).trans (hs40 z hz)
      have hrb55 : By (mRed v32.1 v32.2.1 v32.2.2.1 (onRow (pkR ck x (tnN (fbG pm ck))) v32.2.2.2)) := by_mred (by_prt (fun c _ => by_pkR _ _ _ c) hmb32.2.1) _
      refine k_bne (tgt := 55) C dX8_known_45 (by decide) (fun hc45 => ?_) (fun hc45 => ?_)
      · refine lv_aload_n C.1 C.2.1 dX8_known_55 rfl (lv_at hl 0 rfl) ?_
        refine lv_iload_n C.1 C.2.1 dX8_known_56 rfl (lv_at hl 2 rfl) ?_
        refine lv_if_lt (tgt := 68) C.1 C.2.1 dX8_known_57 (by decide) (fun hc57 => ?_) (fun hc57 => ?_)
        · refine k_icn C 2 dX8_known_68 (by decide) ?_
          refine lv_goto (tgt := 73) C.1 C.2.1 dX8_known_69 (by decide) ?_
          refine k_put C F hw (198) (by omega) e51 rfl in_X8 tyX8_ok nmX8 0 (by decide) fl_X8_42 rfl (v := .int (nI 2)) rfl rfl (Nat.le_of_ble_eq_true rfl) dX8_known_73 (fun H locs hw => ?_)
          have hw : Wd D (AA R ad sz) s R ad (va_up g42 (198) (.inr (8, [.int (nI 2), .ref (ad 199), .int (nI ln), .ref (ad 200), .int (nI bk), .int (nI bt), .ref (ad 201), .int (nI ck), .int (nI ct), .ref (ad 202), .int (nI cn), .int (nI pk), .ref (ad 203), .ref (ad 204), .int (nI (v32.1)), .ref (ad 205), .ref (ad 206), .int (bI (true)), .ref (ad 207)]))) H locs := hw
          obtain ⟨g56, hg56⟩ : ∃ z, z = va_up g42 (198) (.inr (8, [.int (nI 2), .ref (ad 199), .int (nI ln), .ref (ad 200), .int (nI bk), .int (nI bt), .ref (ad 201), .int (nI ck), .int (nI ct), .ref (ad 202), .int (nI cn), .int (nI pk), .ref (ad 203), .ref (ad 204), .int (nI (v32.1)), .ref (ad 205), .ref (ad 206), .int (bI (true)), .ref (ad 207)])) := ⟨_, rfl⟩
          rw [← hg56] at hw
          have hk57 : ∀ z, z ≠ 198 → g56 z = g42 z := fun z hz => by rw [hg56]; exact va_up_ne _ _ hz
          have e58 : g56 (198) = .inr (8, [.int (nI 2), .ref (ad 199), .int (nI ln), .ref (ad 200), .int (nI bk), .int (nI bt), .ref (ad 201), .int (nI ck), .int (nI ct), .ref (ad 202), .int (nI cn), .int (nI pk), .ref (ad 203), .ref (ad 204), .int (nI (v32.1)), .ref (ad 205), .ref (ad 206), .int (bI (true)), .ref (ad 207)]) := by rw [hg56]; exact va_up_self _ _ _
          have e59 : g56 (199) = ba ca 800 (tp) := (hk57 _ (by omega)).trans e45
          have e60 : g56 (200) = ia ca 49 (tn) := (hk57 _ (by omega)).trans e46
          have e61 : g56 (201) = na ca 944 (fi IN) := (hk57 _ (by omega)).trans e47
          have e62 : g56 (202) = na ca 4425 (fl CG) := (hk57 _ (by omega)).trans e48
          have e63 : g56 (206) = na ca 255 (pm) := (hk57 _ (by omega)).trans e49
          have e64 : g56 (207) = na ca 16 (bb) := (hk57 _ (by omega)).trans e50
          have e65 : g56 (203) = na ca 9000 (fl v32.2.1) := (hk57 _ (by omega)).trans e52
          have e66 : g56 (204) = na ca 120 (v32.2.2.1) := (hk57 _ (by omega)).trans e53
          have e67 : g56 (205) = na ca 75 (mRed v32.1 v32.2.1 v32.2.2.1 (onRow (pkR ck x (tnN (fbG pm ck))) v32.2.2.2)) := (hk57 _ (by omega)).trans e44
          have hs68 : ∀ z, (z < 198 ∨ 207 < z) → g56 z = g z := fun z hz => (hk57 z (by omega)).trans (hs54 z hz)
          refine lv_aload_n C.1 C.2.1 dX8_known_76 rfl (lv_at hl 0 rfl) ?_
          refine k_get C F hw (198) (by omega) e58 rfl in_X8 0 (by decide) fl_X8_42 rfl dX8_known_77 ?_
          refine k_zle (tgt := 87) C dX8_known_80 (by decide) (by omega) (fun h => absurd h (by decide)) (fun _ => ?_)
          refine k_icn C 0 dX8_known_83 (by decide) ?_
          refine lv_goto (tgt := 96) C.1 C.2.1 dX8_known_84 (by decide) ?_
          have hg69 : true = true → ck ≠ 0 ∧ KmOK (ck + 11) (VV pm ck CG) (11 + cn) (v32.1, v32.2.1, v32.2.2.1, mRed v32.1 v32.2.1 v32.2.2.1 (onRow (pkR ck x (tnN (fbG pm ck))) v32.2.2.2)) := fun _ => ⟨by omega, hkm32.1, hkm32.2.1, hkm32.2.2⟩
          have hS70 : MSt ca ad g56 pm (nI (2)) ln th bk bt IN ck ct CG cn pk tp v32.1 true v32.2.1 v32.2.2.1 (mRed v32.1 v32.2.1 v32.2.2.1 (onRow (pkR ck x (tnN (fbG pm ck))) v32.2.2.2)) tn bb := ⟨⟨e58, e59, e60, e61, e62, e65, e66, e67, e63, e64⟩, ⟨hmb32.1, hrb55, hmb32.2.2⟩, hbb, hCG, hIN, htn, hg69, hbd, hGr, hth⟩
          exact hret H locs ls _ _ _ dX8_known_96 hw (⟨hs68, Or.inr (Or.inr (Or.inr (Or.inr ⟨hc5, ⟨x, rfl, hx, (zt_ks hck.2 hmb32 hkm32).mp hc45⟩, (fun ⟨i, h1, h2⟩ => by first | exact absurd hc57 (by rw [h1]; exact nI_pos (by omega)) | exact hc65 (by rw [h1]; exact nI_lt h2 (by omega))), ⟨_, _, _, _, _, _, _, _, hS70⟩⟩)))⟩)
        · refine lv_iload_n C.1 C.2.1 dX8_known_60 rfl (lv_at hl 2 rfl) ?_
          refine lv_aload_n C.1 C.2.1 dX8_known_61 rfl (lv_at hl 0 rfl) ?_
          refine k_get C F hw (198) (by omega) e51 rfl in_X8 8 (by decide) fl_X8_132 rfl dX8_known_62 ?_
          refine lv_icmp_lt (tgt := 72) C.1 C.2.1 dX8_known_65 (by decide) (fun hc65 => ?_) (fun hc65 => ?_)
          · obtain ⟨i, hi, rfl⟩ := nI_of hc57
            have hi2 : i < ct := (nI_ltI hi (by omega)).mp hc65
            refine k_icn C 0 dX8_known_72 (by decide) ?_
            refine k_put C F hw (198) (by omega) e51 rfl in_X8 tyX8_ok nmX8 0 (by decide) fl_X8_42 rfl (v := .int (nI 0)) rfl rfl (Nat.le_of_ble_eq_true rfl) dX8_known_73 (fun H locs hw => ?_)
            have hw : Wd D (AA R ad sz) s R ad (va_up g42 (198) (.inr (8, [.int (nI 0), .ref (ad 199), .int (nI ln), .ref (ad 200), .int (nI bk), .int (nI bt), .ref (ad 201), .int (nI ck), .int (nI ct), .ref (ad 202), .int (nI cn), .int (nI pk), .ref (ad 203), .ref (ad 204), .int (nI (v32.1)), .ref (ad 205), .ref (ad 206), .int (bI (true)), .ref (ad 207)]))) H locs := hw
            obtain ⟨g71, hg71⟩ : ∃ z, z = va_up g42 (198) (.inr (8, [.int (nI 0), .ref (ad 199), .int (nI ln), .ref (ad 200), .int (nI bk), .int (nI bt), .ref (ad 201), .int (nI ck), .int (nI ct), .ref (ad 202), .int (nI cn), .int (nI pk), .ref (ad 203), .ref (ad 204), .int (nI (v32.1)), .ref (ad 205), .ref (ad 206), .int (bI (true)), .ref (ad 207)])) := ⟨_, rfl⟩
            rw [← hg71] at hw
            have hk72 : ∀ z, z ≠ 198 → g71 z = g42 z := fun z hz => by rw [hg71]; exact va_up_ne _ _ hz
            have e73 : g71 (198) = .inr (8, [.int (nI 0), .ref (ad 199), .int (nI ln), .ref (ad 200), .int (nI bk), .int (nI bt), .ref (ad 201), .int (nI ck), .int (nI ct), .ref (ad 202), .int (nI cn), .int (nI pk), .ref (ad 203), .ref (ad 204), .int (nI (v32.1)), .ref (ad 205), .ref (ad 206), .int (bI (true)), .ref (ad 207)]) := by rw [hg71]; exact va_up_self _ _ _
            have e74 : g71 (199) = ba ca 800 (tp) := (hk72 _ (by omega)).trans e45
            have e75 : g71 (200) = ia ca 49 (tn) := (hk72 _ (by omega)).trans e46
            have e76 : g71 (201) = na ca 944 (fi IN) := (hk72 _ (by omega)).trans e47
            have e77 : g71 (202) = na ca 4425 (fl CG) := (hk72 _ (by omega)).trans e48
            have e78 : g71 (206) = na ca 255 (pm) := (hk72 _ (by omega)).trans e49
            have e79 : g71 (207) = na ca 16 (bb) := (hk72 _ (by omega)).trans e50
            have e80 : g71 (203) = na ca 9000 (fl v32.2.1) := (hk72 _ (by omega)).trans e52
            have e81 : g71 (204) = na ca 120 (v32.2.2.1) := (hk72 _ (by omega)).trans e53
            have e82 : g71 (205) = na ca 75 (mRed v32.1 v32.2.1 v32.2.2.1 (onRow (pkR ck x (tnN (fbG pm ck))) v32.2.2.2)) := (hk72 _ (by omega)).trans e44
            have hs83 : ∀ z, (z < 198 ∨ 207 < z) → g71 z = g z := fun z hz => (hk72 z (by omega)).trans (hs54 z hz)
            refine lv_aload_n C.1 C.2.1 dX8_known_76 rfl (lv_at hl 0 rfl) ?_
            refine k_get C F hw (198) (by omega) e73 rfl in_X8 0 (by decide) fl_X8_42 rfl dX8_known_77 ?_
            refine k_zle (tgt := 87) C dX8_known_80 (by decide) (by omega) (fun _ => ?_) (fun h => absurd h (by decide))
            refine lv_aload_n C.1 C.2.1 dX8_known_87 rfl (lv_at hl 0 rfl) ?_
            refine k_get C F hw (198) (by omega) e73 rfl in_X8 15 (by decide) fl_X8_29 rfl dX8_known_88 ?_
            refine k_bip C 59 dX8_known_91 (by decide) ?_
            refine lv_iload_n C.1 C.2.1 dX8_known_93 rfl (lv_at hl 2 rfl) ?_
            refine k_add C dX8_known_94 ?_
            refine k_iald C F hw (205) (by omega) e82 (59 + i) (by omega) (by decide) dX8_known_95 ?_
            have hg84 : true = true → ck ≠ 0 ∧ KmOK (ck + 11) (VV pm ck CG) (11 + cn) (v32.1, v32.2.1, v32.2.2.1, mRed v32.1 v32.2.1 v32.2.2.1 (onRow (pkR ck x (tnN (fbG pm ck))) v32.2.2.2)) := fun _ => ⟨by omega, hkm32.1, hkm32.2.1, hkm32.2.2⟩
            have hS85 : MSt ca ad g71 pm (nI (0)) ln th bk bt IN ck ct CG cn pk tp v32.1 true v32.2.1 v32.2.2.1 (mRed v32.1 v32.2.1 v32.2.2.1 (onRow (pkR ck x (tnN (fbG pm ck))) v32.2.2.2)) tn bb := ⟨⟨e73, e74, e75, e76, e77, e80, e81, e82, e78, e79⟩, ⟨hmb32.1, hrb55, hmb32.2.2⟩, hbb, hCG, hIN, htn, hg84, hbd, hGr, hth⟩
            exact hret H locs ls _ _ _ dX8_known_96 hw (⟨hs83, Or.inl ⟨hc5, x, i, rfl, rfl, hx, hi2, (zt_ks hck.2 hmb32 hkm32).mp hc45, ⟨v32, hkm32, hmb32, congrArg nI (red_congr hmb32.2.2 (fun c hc => onRow_at hc) _ _ (by omega))⟩, ⟨_, _, _, _, _, _, _, _, hS85⟩⟩⟩)
          · refine k_icn C 2 dX8_known_68 (by decide) ?_
            refine lv_goto (tgt := 73) C.1 C.2.1 dX8_known_69 (by decide) ?_
            refine k_put C F hw (198) (by omega) e51 rfl in_X8 tyX8_ok nmX8 0 (by decide) fl_X8_42 rfl (v := .int (nI 2)) rfl rfl (Nat.le_of_ble_eq_true rfl) dX8_known_73 (fun H locs hw => ?_)
            have hw : Wd D (AA R ad sz) s R ad (va_up g42 (198) (.inr (8, [.int (nI 2), .ref (ad 199), .int (nI ln), .ref (ad 200), .int (nI bk), .int (nI bt), .ref (ad 201), .int (nI ck), .int (nI ct), .ref (ad 202), .int (nI cn), .int (nI pk), .ref (ad 203), .ref (ad 204), .int (nI (v32.1)), .ref (ad 205), .ref (ad 206), .int (bI (true)), .ref (ad 207)]))) H locs := hw
            obtain ⟨g86, hg86⟩ : ∃ z, z = va_up g42 (198) (.inr (8, [.int (nI 2), .ref (ad 199), .int (nI ln), .ref (ad 200), .int (nI bk), .int (nI bt), .ref (ad 201), .int (nI ck), .int (nI ct), .ref (ad 202), .int (nI cn), .int (nI pk), .ref (ad 203), .ref (ad 204), .int (nI (v32.1)), .ref (ad 205), .ref (ad 206), .int (bI (true)), .ref (ad 207)])) := ⟨_, rfl⟩
            rw [← hg86] at hw
            have hk87 : ∀ z, z ≠ 198 → g86 z = g42 z := fun z hz => by rw [hg86]; exact va_up_ne _ _ hz
            have e88 : g86 (198) = .inr (8, [.int (nI 2), .ref (ad 199), .int (nI ln), .ref (ad 200), .int (nI bk), .int (nI bt), .ref (ad 201), .int (nI ck), .int (nI ct), .ref (ad 202), .int (nI cn), .int (nI pk), .ref (ad 203), .ref (ad 204), .int (nI (v32.1)), .ref (ad 205), .ref (ad 206), .int (bI (true)), .ref (ad 207)]) := by rw [hg86]; exact va_up_self _ _ _
            have e89 : g86 (199) = ba ca 800 (tp) := (hk87 _ (by omega)).trans e45
            have e90 : g86 (200) = ia ca 49 (tn) := (hk87 _ (by omega)).trans e46
            have e91 : g86 (201) = na ca 944 (fi IN) := (hk87 _ (by omega)).trans e47
            have e92 : g86 (202) = na ca 4425 (fl CG) := (hk87 _ (by omega)).trans e48
            have e93 : g86 (206) = na ca 255 (pm) := (hk87 _ (by omega)).trans e49
            have e94 : g86 (207) = na ca 16 (bb) := (hk87 _ (by omega)).trans e50
            have e95 : g86 (203) = na ca 9000 (fl v32.2.1) := (hk87 _ (by omega)).trans e52
            have e96 : g86 (204) = na ca 120 (v32.2.2.1) := (hk87 _ (by omega)).trans e53
            have e97 : g86 (205) = na ca 75 (mRed v32.1 v32.2.1 v32.2.2.1 (onRow (pkR ck x (tnN (fbG pm ck))) v32.2.2.2)) := (hk87 _ (by omega)).trans e44
            have hs98 : ∀ z, (z < 198 ∨ 207 < z) → g86 z = g z := fun z hz => (hk87 z (by omega)).trans (hs54 z hz)
            refine lv_aload_n C.1 C.2.1 dX8_known_76 rfl (lv_at hl 0 rfl) ?_
            refine k_get C F hw (198) (by omega) e88 rfl in_X8 0 (by decide) fl_X8_42 rfl dX8_known_77 ?_
            refine k_zle (tgt := 87) C dX8_known_80 (by decide) (by omega) (fun h => absurd h (by decide)) (fun _ => ?_)
            refine k_icn C 0 dX8_known_83 (by decide) ?_
            refine lv_goto (tgt := 96) C.1 C.2.1 dX8_known_84 (by decide) ?_
            have hg99 : true = true → ck ≠ 0 ∧ KmOK (ck + 11) (VV pm ck CG) (11 + cn) (v32.1, v32.2.1, v32.2.2.1, mRed v32.1 v32.2.1 v32.2.2.1 (onRow (pkR ck x (tnN (fbG pm ck))) v32.2.2.2)) := fun _ => ⟨by omega, hkm32.1, hkm32.2.1, hkm32.2.2⟩
            have hS100 : MSt ca ad g86 pm (nI (2)) ln th bk bt IN ck ct CG cn pk tp v32.1 true v32.2.1 v32.2.2.1 (mRed v32.1 v32.2.1 v32.2.2.1 (onRow (pkR ck x (tnN (fbG pm ck))) v32.2.2.2)) tn bb := ⟨⟨e88, e89, e90, e91, e92, e95, e96, e97, e93, e94⟩, ⟨hmb32.1, hrb55, hmb32.2.2⟩, hbb, hCG, hIN, htn, hg99, hbd, hGr, hth⟩
            exact hret H locs ls _ _ _ dX8_known_96 hw (⟨hs98, Or.inr (Or.inr (Or.inr (Or.inr ⟨hc5, ⟨x, rfl, hx, (zt_ks hck.2 hmb32 hkm32).mp hc45⟩, (fun ⟨i, h1, h2⟩ => by first | exact absurd hc57 (by rw [h1]; exact nI_pos (by omega)) | exact hc65 (by rw [h1]; exact nI_lt h2 (by omega))), ⟨_, _, _, _, _, _, _, _, hS100⟩⟩)))⟩)
      · refine lv_aload_n C.1 C.2.1 dX8_known_48 rfl (lv_at hl 0 rfl) ?_
        refine k_icn C 1 dX8_known_49 (by decide) ?_
        refine k_put C F hw (198) (by omega) e51 rfl in_X8 tyX8_ok nmX8 0 (by decide) fl_X8_42 rfl (v := .int (nI 1)) rfl rfl (Nat.le_of_ble_eq_true rfl) dX8_known_50 (fun H locs hw => ?_)
        have hw : Wd D (AA R ad sz) s R ad (va_up g42 (198) (.inr (8, [.int (nI 1), .ref (ad 199), .int (nI ln), .ref (ad 200), .int (nI bk), .int (nI bt), .ref (ad 201), .int (nI ck), .int (nI ct), .ref (ad 202), .int (nI cn), .int (nI pk), .ref (ad 203), .ref (ad 204), .int (nI (v32.1)), .ref (ad 205), .ref (ad 206), .int (bI (true)), .ref (ad 207)]))) H locs := hw
        obtain ⟨g101, hg101⟩ : ∃ z, z = va_up g42 (198) (.inr (8, [.int (nI 1), .ref (ad 199), .int (nI ln), .ref (ad 200), .int (nI bk), .int (nI bt), .ref (ad 201), .int (nI ck), .int (nI ct), .ref (ad 202), .int (nI cn), .int (nI pk), .ref (ad 203), .ref (ad 204), .int (nI (v32.1)), .ref (ad 205), .ref (ad 206), .int (bI (true)), .ref (ad 207)])) := ⟨_, rfl⟩
        rw [← hg101] at hw
        have hk102 : ∀ z, z ≠ 198 → g101 z = g42 z := fun z hz => by rw [hg101]; exact va_up_ne _ _ hz
        have e103 : g101 (198) = .inr (8, [.int (nI 1), .ref (ad 199), .int (nI ln), .ref (ad 200), .int (nI bk), .int (nI bt), .ref (ad 201), .int (nI ck), .int (nI ct), .ref (ad 202), .int (nI cn), .int (nI pk), .ref (ad 203), .ref (ad 204), .int (nI (v32.1)), .ref (ad 205), .ref (ad 206), .int (bI (true)), .ref (ad 207)]) := by rw [hg101]; exact va_up_self _ _ _
        have e104 : g101 (199) = ba ca 800 (tp) := (hk102 _ (by omega)).trans e45
        have e105 : g101 (200) = ia ca 49 (tn) := (hk102 _ (by omega)).trans e46
        have e106 : g101 (201) = na ca 944 (fi IN) := (hk102 _ (by omega)).trans e47
        have e107 : g101 (202) = na ca 4425 (fl CG) := (hk102 _ (by omega)).trans e48
        have e108 : g101 (206) = na ca 255 (pm) := (hk102 _ (by omega)).trans e49
        have e109 : g101 (207) = na ca 16 (bb) := (hk102 _ (by omega)).trans e50
        have e110 : g101 (203) = na ca 9000 (fl v32.2.1) := (hk102 _ (by omega)).trans e52
        have e111 : g101 (204) = na ca 120 (v32.2.2.1) := (hk102 _ (by omega)).trans e53
        have e112 : g101 (205) = na ca 75 (mRed v32.1 v32.2.1 v32.2.2.1 (onRow (pkR ck x (tnN (fbG pm ck))) v32.2.2.2)) := (hk102 _ (by omega)).trans e44
        have hs113 : ∀ z, (z < 198 ∨ 207 < z) → g101 z = g z := fun z hz => (hk102 z (by omega)).trans (hs54 z hz)
        refine k_icn C 0 dX8_known_53 (by decide) ?_
        have hg114 : true = true → ck ≠ 0 ∧ KmOK (ck + 11) (VV pm ck CG) (11 + cn) (v32.1, v32.2.1, v32.2.2.1, mRed v32.1 v32.2.1 v32.2.2.1 (onRow (pkR ck x (tnN (fbG pm ck))) v32.2.2.2)) := fun _ => ⟨by omega, hkm32.1, hkm32.2.1, hkm32.2.2⟩
        have hS115 : MSt ca ad g101 pm (nI (1)) ln th bk bt IN ck ct CG cn pk tp v32.1 true v32.2.1 v32.2.2.1 (mRed v32.1 v32.2.1 v32.2.2.1 (onRow (pkR ck x (tnN (fbG pm ck))) v32.2.2.2)) tn bb := ⟨⟨e103, e104, e105, e106, e107, e110, e111, e112, e108, e109⟩, ⟨hmb32.1, hrb55, hmb32.2.2⟩, hbb, hCG, hIN, htn, hg114, hbd, hGr, hth⟩
        exact hret H locs ls _ _ _ dX8_known_54 hw (⟨hs113, Or.inr (Or.inr (Or.inr (Or.inl ⟨hc5, ⟨x, rfl, hx, fun h => by rw [(zt_ks hck.2 hmb32 hkm32).mpr h] at hc45; cases hc45⟩, ⟨_, _, _, _, _, _, _, _, hS115⟩⟩)))⟩)
  · refine k_icn C 1 dX8_known_8 (by decide) ?_
    refine lv_goto (tgt := 24) C.1 C.2.1 dX8_known_9 (by decide) ?_
    refine k_put C F hw (198) (by omega) q198 rfl in_X8 tyX8_ok nmX8 0 (by decide) fl_X8_42 rfl (v := .int (nI 1)) rfl rfl (Nat.le_of_ble_eq_true rfl) dX8_known_24 (fun H locs hw => ?_)
    have hw : Wd D (AA R ad sz) s R ad (va_up g (198) (.inr (8, [.int (nI 1), .ref (ad 199), .int (nI ln), .ref (ad 200), .int (nI bk), .int (nI bt), .ref (ad 201), .int (nI ck), .int (nI ct), .ref (ad 202), .int (nI cn), .int (nI pk), .ref (ad 203), .ref (ad 204), .int (nI rw), .ref (ad 205), .ref (ad 206), .int (bI (gt)), .ref (ad 207)]))) H locs := hw
    obtain ⟨g116, hg116⟩ : ∃ z, z = va_up g (198) (.inr (8, [.int (nI 1), .ref (ad 199), .int (nI ln), .ref (ad 200), .int (nI bk), .int (nI bt), .ref (ad 201), .int (nI ck), .int (nI ct), .ref (ad 202), .int (nI cn), .int (nI pk), .ref (ad 203), .ref (ad 204), .int (nI rw), .ref (ad 205), .ref (ad 206), .int (bI (gt)), .ref (ad 207)])) := ⟨_, rfl⟩
    rw [← hg116] at hw
    have hk117 : ∀ z, z ≠ 198 → g116 z = g z := fun z hz => by rw [hg116]; exact va_up_ne _ _ hz
    have e118 : g116 (198) = .inr (8, [.int (nI 1), .ref (ad 199), .int (nI ln), .ref (ad 200), .int (nI bk), .int (nI bt), .ref (ad 201), .int (nI ck), .int (nI ct), .ref (ad 202), .int (nI cn), .int (nI pk), .ref (ad 203), .ref (ad 204), .int (nI rw), .ref (ad 205), .ref (ad 206), .int (bI (gt)), .ref (ad 207)]) := by rw [hg116]; exact va_up_self _ _ _
    have e119 : g116 (199) = ba ca 800 (tp) := (hk117 _ (by omega)).trans q199
    have e120 : g116 (200) = ia ca 49 (tn) := (hk117 _ (by omega)).trans q200
    have e121 : g116 (201) = na ca 944 (fi IN) := (hk117 _ (by omega)).trans q201
    have e122 : g116 (202) = na ca 4425 (fl CG) := (hk117 _ (by omega)).trans q202
    have e123 : g116 (203) = na ca 9000 (fl M) := (hk117 _ (by omega)).trans q203
    have e124 : g116 (204) = na ca 120 (pv) := (hk117 _ (by omega)).trans q204
    have e125 : g116 (205) = na ca 75 (ro) := (hk117 _ (by omega)).trans q205
    have e126 : g116 (206) = na ca 255 (pm) := (hk117 _ (by omega)).trans q206
    have e127 : g116 (207) = na ca 16 (bb) := (hk117 _ (by omega)).trans q207
    have hs128 : ∀ z, (z < 198 ∨ 207 < z) → g116 z = g z := fun z hz => hk117 z (by omega)
    refine lv_aload_n C.1 C.2.1 dX8_known_27 rfl (lv_at hl 0 rfl) ?_
    refine k_get C F hw (198) (by omega) e118 rfl in_X8 0 (by decide) fl_X8_42 rfl dX8_known_28 ?_
    refine k_zle (tgt := 36) C dX8_known_31 (by decide) (by omega) (fun h => absurd h (by decide)) (fun _ => ?_)
    refine k_icn C 0 dX8_known_34 (by decide) ?_
    have hS129 : MSt ca ad g116 pm (nI (1)) ln th bk bt IN ck ct CG cn pk tp rw gt M pv ro tn bb := ⟨⟨e118, e119, e120, e121, e122, e123, e124, e125, e126, e127⟩, hmb, hbb, hCG, hIN, htn, hgt, hbd, hGr, hth⟩
    exact hret H locs ls _ _ _ dX8_known_35 hw (⟨hs128, Or.inr (Or.inl ⟨hc5, ⟨_, _, _, _, _, _, _, _, hS129⟩⟩)⟩)

theorem cnt_t {dv : Nat → Bool} {i v : Nat} (hv : v = cntN dv i) (h : dv i = true) : v + 1 = cntN dv (i + 1) := by unfold cntN at hv ⊢; rw [fr_s, if_pos h, hv]
theorem cnt_f {dv : Nat → Bool} {i v : Nat} (hv : v = cntN dv i) (h : ¬ dv i = true) : v + 0 = cntN dv (i + 1) := by unfold cntN at hv ⊢; rw [fr_s, if_neg h, hv]; rfl
theorem cnt_le (dv : Nat → Bool) : ∀ n, cntN dv n ≤ n
  | 0 => Nat.le_refl _
  | n + 1 => by
    have := cnt_le dv n
    unfold cntN at this ⊢
    rw [fr_s]
    split <;> omega

abbrev rm_X8_count : Room := { frames := 5, cells := 0, slots := 0, locals := 118 }

set_option maxHeartbeats 800000 in
set_option maxRecDepth 100000 in
/-- count -/
theorem c_X8_count {l : Launch} {D : va_G} {ca : Nat → ClassId} {tB tS R : Nat} {ad : Nat → Nat} {g : Nat → va_E} {sz : Nat} (hR : 207 < R) (pm : Nat → Nat) (hpm : PmOk pm) (hT : ∀ k, 1 ≤ k → k ≤ 48 → tnN (fbG pm k) < 1000) (cd : Int32) (ln : Nat) (th : Nat → Nat) (bk bt : Nat) (IN : Nat → Nat → Nat) (ck ct : Nat) (CG : Nat → Nat → Nat) (cn pk : Nat) (hI : MInv ca ad g pm cd ln th bk bt IN ck ct CG cn pk) (dv : Nat → Bool) (hdv : ck ≠ 0 → ∀ x, x < ck → (dv x = true ↔ KS (ck + 11) 0 (VV pm ck CG) (11 + cn) (pkR ck x (tnN (fbG pm ck))))) (what : Int32) : MI l yX8_count cX8_count 4 .int rm_X8_count D ca tB tS R ad g sz [.ref (ad 198), .int (what)] (fun r g1 => (∀ z, z < 198 ∨ 207 < z → g1 z = g z) ∧ ((∃ j : Nat, what = nI j ∧ j ≤ 6 ∧ r = nI (if j = 0 then ln else if j = 1 then bk else if j = 2 then bt else if j = 3 then ck else if j = 4 then ct else if j = 5 then pk else cntN dv ck) ∧ MInv ca ad g1 pm (nI 0) ln th bk bt IN ck ct CG cn pk) ∨ ((¬ ∃ j : Nat, what = nI j ∧ j ≤ 6) ∧ MInv ca ad g1 pm (nI 1) ln th bk bt IN ck ct CG cn pk))) := by
  refine m_startI (by decide +kernel) (Nat.le_of_ble_eq_true rfl) (fun p e s m args below meth c ls Q hsz C hl F hw hret => ?_)
  have hl : lv_has ls 4 [(0, .ref (ad 198)), (1, .int (what))] := hl
  generalize s.heap = H at hw ⊢
  generalize ([] : List Loc) = locs at hw ⊢
  obtain ⟨tp, rw, gt, M, pv, ro, tn, bb, hS⟩ := hI
  obtain ⟨⟨q198, q199, q200, q201, q202, q203, q204, q205, q206, q207⟩, hmb, hbb, hCG, hIN, htn, hgt, hbd, hGr, hth⟩ := hS
  have hbd2 := hbd.2.1
  have hbd3 := hbd.2.2
  refine lv_aload_n C.1 C.2.1 dX8_count_0 rfl (lv_at hl 0 rfl) ?_
  refine lv_iload_n C.1 C.2.1 dX8_count_1 rfl (lv_at hl 1 rfl) ?_
  refine lv_if_lt (tgt := 11) C.1 C.2.1 dX8_count_2 (by decide) (fun hc2 => ?_) (fun hc2 => ?_)
  · refine k_icn C 1 dX8_count_11 (by decide) ?_
    refine lv_goto (tgt := 16) C.1 C.2.1 dX8_count_12 (by decide) ?_
    refine k_put C F hw (198) (by omega) q198 rfl in_X8 tyX8_ok nmX8 0 (by decide) fl_X8_42 rfl (v := .int (nI 1)) rfl rfl (Nat.le_of_ble_eq_true rfl) dX8_count_16 (fun H locs hw => ?_)
    have hw : Wd D (AA R ad sz) s R ad (va_up g (198) (.inr (8, [.int (nI 1), .ref (ad 199), .int (nI ln), .ref (ad 200), .int (nI bk), .int (nI bt), .ref (ad 201), .int (nI ck), .int (nI ct), .ref (ad 202), .int (nI cn), .int (nI pk), .ref (ad 203), .ref (ad 204), .int (nI rw), .ref (ad 205), .ref (ad 206), .int (bI (gt)), .ref (ad 207)]))) H locs := hw
    obtain ⟨g1, hg1⟩ : ∃ z, z = va_up g (198) (.inr (8, [.int (nI 1), .ref (ad 199), .int (nI ln), .ref (ad 200), .int (nI bk), .int (nI bt), .ref (ad 201), .int (nI ck), .int (nI ct), .ref (ad 202), .int (nI cn), .int (nI pk), .ref (ad 203), .ref (ad 204), .int (nI rw), .ref (ad 205), .ref (ad 206), .int (bI (gt)), .ref (ad 207)])) := ⟨_, rfl⟩
    rw [← hg1] at hw
    have hk2 : ∀ z, z ≠ 198 → g1 z = g z := fun z hz => by rw [hg1]; exact va_up_ne _ _ hz
    have e3 : g1 (198) = .inr (8, [.int (nI 1), .ref (ad 199), .int (nI ln), .ref (ad 200), .int (nI bk), .int (nI bt), .ref (ad 201), .int (nI ck), .int (nI ct), .ref (ad 202), .int (nI cn), .int (nI pk), .ref (ad 203), .ref (ad 204), .int (nI rw), .ref (ad 205), .ref (ad 206), .int (bI (gt)), .ref (ad 207)]) := by rw [hg1]; exact va_up_self _ _ _
    have e4 : g1 (199) = ba ca 800 (tp) := (hk2 _ (by omega)).trans q199
    have e5 : g1 (200) = ia ca 49 (tn) := (hk2 _ (by omega)).trans q200
    have e6 : g1 (201) = na ca 944 (fi IN) := (hk2 _ (by omega)).trans q201
    have e7 : g1 (202) = na ca 4425 (fl CG) := (hk2 _ (by omega)).trans q202
    have e8 : g1 (203) = na ca 9000 (fl M) := (hk2 _ (by omega)).trans q203
    have e9 : g1 (204) = na ca 120 (pv) := (hk2 _ (by omega)).trans q204
    have e10 : g1 (205) = na ca 75 (ro) := (hk2 _ (by omega)).trans q205
    have e11 : g1 (206) = na ca 255 (pm) := (hk2 _ (by omega)).trans q206
    have e12 : g1 (207) = na ca 16 (bb) := (hk2 _ (by omega)).trans q207
    have hs13 : ∀ z, (z < 198 ∨ 207 < z) → g1 z = g z := fun z hz => hk2 z (by omega)
    refine lv_aload_n C.1 C.2.1 dX8_count_19 rfl (lv_at hl 0 rfl) ?_
    refine k_get C F hw (198) (by omega) e3 rfl in_X8 0 (by decide) fl_X8_42 rfl dX8_count_20 ?_
    refine k_zle (tgt := 28) C dX8_count_23 (by decide) (by omega) (fun h => absurd h (by decide)) (fun _ => ?_)
    refine k_icn C 0 dX8_count_26 (by decide) ?_
    have hS14 : MSt ca ad g1 pm (nI (1)) ln th bk bt IN ck ct CG cn pk tp rw gt M pv ro tn bb := ⟨⟨e3, e4, e5, e6, e7, e8, e9, e10, e11, e12⟩, hmb, hbb, hCG, hIN, htn, hgt, hbd, hGr, hth⟩
    exact hret H locs ls _ _ _ dX8_count_27 hw (⟨hs13, Or.inr ⟨fun ⟨j, h1, h2⟩ => by first | exact absurd hc2 (by rw [h1]; exact nI_pos (by omega)) | exact hc8 (by rw [h1]; exact nI_le (b := 6) h2 (by decide)), ⟨_, _, _, _, _, _, _, _, hS14⟩⟩⟩)
  · refine lv_iload_n C.1 C.2.1 dX8_count_5 rfl (lv_at hl 1 rfl) ?_
    refine k_bip C 6 dX8_count_6 (by decide) ?_
    refine lv_icmp_le (tgt := 15) C.1 C.2.1 dX8_count_8 (by decide) (fun hc8 => ?_) (fun hc8 => ?_)
    · obtain ⟨j, hj, rfl⟩ := nI_of hc2
      have hj6 : j ≤ 6 := (nI_leI hj (by decide)).mp hc8
      refine k_icn C 0 dX8_count_15 (by decide) ?_
      refine k_put C F hw (198) (by omega) q198 rfl in_X8 tyX8_ok nmX8 0 (by decide) fl_X8_42 rfl (v := .int (nI 0)) rfl rfl (Nat.le_of_ble_eq_true rfl) dX8_count_16 (fun H locs hw => ?_)
      have hw : Wd D (AA R ad sz) s R ad (va_up g (198) (.inr (8, [.int (nI 0), .ref (ad 199), .int (nI ln), .ref (ad 200), .int (nI bk), .int (nI bt), .ref (ad 201), .int (nI ck), .int (nI ct), .ref (ad 202), .int (nI cn), .int (nI pk), .ref (ad 203), .ref (ad 204), .int (nI rw), .ref (ad 205), .ref (ad 206), .int (bI (gt)), .ref (ad 207)]))) H locs := hw
      obtain ⟨g15, hg15⟩ : ∃ z, z = va_up g (198) (.inr (8, [.int (nI 0), .ref (ad 199), .int (nI ln), .ref (ad 200), .int (nI bk), .int (nI bt), .ref (ad 201), .int (nI ck), .int (nI ct), .ref (ad 202), .int (nI cn), .int (nI pk), .ref (ad 203), .ref (ad 204), .int (nI rw), .ref (ad 205), .ref (ad 206), .int (bI (gt)), .ref (ad 207)])) := ⟨_, rfl⟩
      rw [← hg15] at hw
      have hk16 : ∀ z, z ≠ 198 → g15 z = g z := fun z hz => by rw [hg15]; exact va_up_ne _ _ hz
      have e17 : g15 (198) = .inr (8, [.int (nI 0), .ref (ad 199), .int (nI ln), .ref (ad 200), .int (nI bk), .int (nI bt), .ref (ad 201), .int (nI ck), .int (nI ct), .ref (ad 202), .int (nI cn), .int (nI pk), .ref (ad 203), .ref (ad 204), .int (nI rw), .ref (ad 205), .ref (ad 206), .int (bI (gt)), .ref (ad 207)]) := by rw [hg15]; exact va_up_self _ _ _
      have e18 : g15 (199) = ba ca 800 (tp) := (hk16 _ (by omega)).trans q199
      have e19 : g15 (200) = ia ca 49 (tn) := (hk16 _ (by omega)).trans q200
      have e20 : g15 (201) = na ca 944 (fi IN) := (hk16 _ (by omega)).trans q201
      have e21 : g15 (202) = na ca 4425 (fl CG) := (hk16 _ (by omega)).trans q202
      have e22 : g15 (203) = na ca 9000 (fl M) := (hk16 _ (by omega)).trans q203
      have e23 : g15 (204) = na ca 120 (pv) := (hk16 _ (by omega)).trans q204
      have e24 : g15 (205) = na ca 75 (ro) := (hk16 _ (by omega)).trans q205
      have e25 : g15 (206) = na ca 255 (pm) := (hk16 _ (by omega)).trans q206
      have e26 : g15 (207) = na ca 16 (bb) := (hk16 _ (by omega)).trans q207
      have hs27 : ∀ z, (z < 198 ∨ 207 < z) → g15 z = g z := fun z hz => hk16 z (by omega)
      refine lv_aload_n C.1 C.2.1 dX8_count_19 rfl (lv_at hl 0 rfl) ?_
      refine k_get C F hw (198) (by omega) e17 rfl in_X8 0 (by decide) fl_X8_42 rfl dX8_count_20 ?_
      refine k_zle (tgt := 28) C dX8_count_23 (by decide) (by omega) (fun _ => ?_) (fun h => absurd h (by decide))
      refine lv_iload_n C.1 C.2.1 dX8_count_28 rfl (lv_at hl 1 rfl) ?_
      refine k_bip C 6 dX8_count_29 (by decide) ?_
      refine k_ige (tgt := 98) C dX8_count_31 (by decide) (by omega) (by omega) (fun hc31 => ?_) (fun hc31 => ?_)
      · refine k_icn C 0 dX8_count_98 (by decide) ?_
        refine lv_istore_n (lv' := [(2, .int (nI 0)), (0, .ref (ad 198)), (1, .int (nI j))]) C.1 C.2.1 dX8_count_99 rfl hl (by decide) rfl (fun ls hl => ?_)
        refine lv_aload_n C.1 C.2.1 dX8_count_100 rfl (lv_at hl 1 rfl) ?_
        refine k_get C F hw (198) (by omega) e17 rfl in_X8 7 (by decide) fl_X8_129 rfl dX8_count_101 ?_
        refine k_zle (tgt := 111) C dX8_count_104 (by decide) (by omega) (fun hc104 => ?_) (fun hc104 => ?_)
        · have hck0 : ck = 0 := hc104
          refine k_icn C 0 dX8_count_111 (by decide) ?_
          refine lv_istore_n (lv' := [(3, .int (nI 0)), (2, .int (nI 0)), (0, .ref (ad 198)), (1, .int (nI j))]) C.1 C.2.1 dX8_count_112 rfl hl (by decide) rfl (fun ls hl => ?_)
          refine lv_iload_n C.1 C.2.1 dX8_count_113 rfl (lv_at hl 0 rfl) ?_
          refine lv_aload_n C.1 C.2.1 dX8_count_114 rfl (lv_at hl 2 rfl) ?_
          refine k_get C F hw (198) (by omega) e17 rfl in_X8 7 (by decide) fl_X8_129 rfl dX8_count_115 ?_
          refine k_ige (tgt := 143) C dX8_count_118 (by decide) (by omega) (by omega) (fun hc118 => ?_) (fun hc118 => ?_)
          · refine lv_iload_n C.1 C.2.1 dX8_count_143 rfl (lv_at hl 1 rfl) ?_
            have hS28 : MSt ca ad g15 pm (nI (0)) ln th bk bt IN ck ct CG cn pk tp rw gt M pv ro tn bb := ⟨⟨e17, e18, e19, e20, e21, e22, e23, e24, e25, e26⟩, hmb, hbb, hCG, hIN, htn, hgt, hbd, hGr, hth⟩
            exact hret H locs ls _ _ _ dX8_count_144 hw (⟨hs27, Or.inl ⟨j, rfl, hj6, by rw [show j = 6 by omega, hck0]; rfl, ⟨_, _, _, _, _, _, _, _, hS28⟩⟩⟩)
          · exfalso; omega
        · have hck : 1 ≤ ck ∧ ck ≤ 48 := by omega
          have hT1 := hT ck hck.1 hck.2
          have hcn := gr_le hpm hck.2 (fun i _ => hCG i) (hGr (by omega))
          refine lv_aload_n C.1 C.2.1 dX8_count_107 rfl (lv_at hl 1 rfl) ?_
          refine k_Vv C F hw (i := 198) (As := []) (rest := []) (c_X8_gather hR (nI (0)) ln bk bt ck ct cn pk rw gt e17 ro e24 pm e25 M pv e22 e23 hmb.1 hmb.2.1 hmb.2.2 hpm CG e21 hCG hck (by omega)) (by omega) e17 rfl (cwV _ C.2.2.2.2 gm_X8_141 rfl rfl rfl cd_X8_gather ⟨by decide, by decide⟩) hl.1 rfl (Nat.le_of_ble_eq_true rfl) dX8_count_108 ⟨by decide, by decide⟩ (fun g30 H locs hp hw => ?_)
          obtain ⟨hkm31, hmb31⟩ := ga_ok (gt := gt) (u := (rw, M, pv, ro)) hpm hck.2 hmb hCG (hGr (by omega)) (fun h => (hgt h).2)
          generalize gaS pm ck cn CG gt (rw, M, pv, ro) = v31 at hp hkm31 hmb31
          obtain ⟨hs32, e9831, e0331, e0431, e0531⟩ := hp
          have e33 : g30 (199) = ba ca 800 (tp) := (hs32 _ (by omega)).trans e18
          have e34 : g30 (200) = ia ca 49 (tn) := (hs32 _ (by omega)).trans e19
          have e35 : g30 (201) = na ca 944 (fi IN) := (hs32 _ (by omega)).trans e20
          have e36 : g30 (202) = na ca 4425 (fl CG) := (hs32 _ (by omega)).trans e21
          have e37 : g30 (206) = na ca 255 (pm) := (hs32 _ (by omega)).trans e25
          have e38 : g30 (207) = na ca 16 (bb) := (hs32 _ (by omega)).trans e26
          have hs39 : ∀ z, (z < 198 ∨ 207 < z) → g30 z = g z := fun z hz => (hs32 z (by omega)).trans (hs27 z hz)
          have hgt31 : true = true → ck ≠ 0 ∧ KmOK (ck + 11) (VV pm ck CG) (11 + cn) v31 := fun _ => ⟨by omega, hkm31⟩
          refine k_icn C 0 dX8_count_111 (by decide) ?_
          refine lv_istore_n (lv' := [(3, .int (nI 0)), (2, .int (nI 0)), (0, .ref (ad 198)), (1, .int (nI j))]) C.1 C.2.1 dX8_count_112 rfl hl (by decide) rfl (fun ls hl => ?_)
          have hv1 : v31.1 = 11 + cn := hkm31.1
          have loop113 : ∀ (fuel : Nat) (i : Nat) (v : Nat) (f1 : Nat → Nat) (gL : Nat → va_E) (H : Heap) (locs : List Loc) (ls : Array Slot), ((ck - i) + 1 ≤ fuel) → (i ≤ ck) → (v = cntN dv i) → (By f1) → (∀ z, (z < 198 ∨ 207 < z) → gL z = g z) → (gL (198) = .inr (8, [.int (nI 0), .ref (ad 199), .int (nI ln), .ref (ad 200), .int (nI bk), .int (nI bt), .ref (ad 201), .int (nI ck), .int (nI ct), .ref (ad 202), .int (nI cn), .int (nI pk), .ref (ad 203), .ref (ad 204), .int (nI (v31.1)), .ref (ad 205), .ref (ad 206), .int (bI (true)), .ref (ad 207)])) → (gL (199) = ba ca 800 (tp)) → (gL (200) = ia ca 49 (tn)) → (gL (201) = na ca 944 (fi IN)) → (gL (202) = na ca 4425 (fl CG)) → (gL (203) = na ca 9000 (fl v31.2.1)) → (gL (204) = na ca 120 (v31.2.2.1)) → (gL (205) = na ca 75 (f1)) → (gL (206) = na ca 255 (pm)) → (gL (207) = na ca 16 (bb)) → Wd D (AA R ad sz) s R ad gL H locs → lv_has ls 4 [(0, .ref (ad 198)), (1, .int (nI j)), (2, .int (nI v)), (3, .int (nI i))] → W p l e rm_X8_count s m args below meth c H locs 0 0 Q (F0 m 113 ls []) := by
            intro fuel
            induction fuel with
            | zero =>
              intro i v f1 gL H locs ls hfu113
              exact absurd hfu113 (by omega)
            | succ fuel113 ih113 =>
              intro i v f1 gL H locs ls hfu113 hi hv hf1 hsL113 eL113_0 eL113_1 eL113_2 eL113_3 eL113_4 eL113_5 eL113_6 eL113_7 eL113_8 eL113_9 hw hl
              have hvle : v ≤ i := by rw [hv]; exact cnt_le dv i
              refine lv_iload_n C.1 C.2.1 dX8_count_113 rfl (lv_at hl 3 rfl) ?_
              refine lv_aload_n C.1 C.2.1 dX8_count_114 rfl (lv_at hl 0 rfl) ?_
              refine k_get C F hw (198) (by omega) eL113_0 rfl in_X8 7 (by decide) fl_X8_129 rfl dX8_count_115 ?_
              refine k_ige (tgt := 143) C dX8_count_118 (by decide) (by omega) (by omega) (fun hc118 => ?_) (fun hc118 => ?_)
              · refine lv_iload_n C.1 C.2.1 dX8_count_143 rfl (lv_at hl 2 rfl) ?_
                have hvc : v = cntN dv ck := by rw [hv, show i = ck by omega]
                have hg40 : true = true → ck ≠ 0 ∧ KmOK (ck + 11) (VV pm ck CG) (11 + cn) (v31.1, v31.2.1, v31.2.2.1, f1) := fun _ => ⟨by omega, hkm31.1, hkm31.2.1, hkm31.2.2⟩
                have hS41 : MSt ca ad gL pm (nI (0)) ln th bk bt IN ck ct CG cn pk tp v31.1 true v31.2.1 v31.2.2.1 f1 tn bb := ⟨⟨eL113_0, eL113_1, eL113_2, eL113_3, eL113_4, eL113_5, eL113_6, eL113_7, eL113_8, eL113_9⟩, ⟨hmb31.1, hf1, hmb31.2.2⟩, hbb, hCG, hIN, htn, hg40, hbd, hGr, hth⟩
                exact hret H locs ls _ _ _ dX8_count_144 hw (⟨hsL113, Or.inl ⟨j, rfl, hj6, by rw [show j = 6 by omega, hvc]; rfl, ⟨_, _, _, _, _, _, _, _, hS41⟩⟩⟩)
              · refine lv_iload_n C.1 C.2.1 dX8_count_121 rfl (lv_at hl 2 rfl) ?_
                refine lv_aload_n C.1 C.2.1 dX8_count_122 rfl (lv_at hl 0 rfl) ?_
                refine lv_iload_n C.1 C.2.1 dX8_count_123 rfl (lv_at hl 3 rfl) ?_
                refine k_Vi C F hw (i := 198) (As := [.int (nI i)]) (rest := [.int (nI v)]) (c_X8_isKnown hR (nI (0)) ln bk bt ck ct cn pk v31.1 true eL113_0 f1 eL113_7 v31.2.1 v31.2.2.1 eL113_5 eL113_6 hmb31.1 hf1 hmb31.2.2 (by omega) tn eL113_2 (tnN (fbG pm ck)) (htn.2 (by omega)) (by omega) hck i (by omega)) (by omega) eL113_0 rfl (cwV _ C.2.2.2.2 gm_X8_155 rfl rfl rfl cd_X8_isKnown ⟨by decide, by decide⟩) hl.1 rfl (Nat.le_of_ble_eq_true rfl) dX8_count_124 ⟨by decide, by decide⟩ (fun r42 g43 H locs hp hw => ?_)
                obtain ⟨hr9, hp⟩ := hp
                subst hr9
                obtain ⟨hk44, e45⟩ := hp
                have e46 : g43 (199) = ba ca 800 (tp) := (hk44 _ (by omega)).trans eL113_1
                have e47 : g43 (200) = ia ca 49 (tn) := (hk44 _ (by omega)).trans eL113_2
                have e48 : g43 (201) = na ca 944 (fi IN) := (hk44 _ (by omega)).trans eL113_3
                have e49 : g43 (202) = na ca 4425 (fl CG) := (hk44 _ (by omega)).trans eL113_4
                have e50 : g43 (206) = na ca 255 (pm) := (hk44 _ (by omega)).trans eL113_8
                have e51 : g43 (207) = na ca 16 (bb) := (hk44 _ (by omega)).trans eL113_9
                have e52 : g43 (198) = .inr (8, [.int (nI 0), .ref (ad 199), .int (nI ln), .ref (ad 200), .int (nI bk), .int (nI bt), .ref (ad 201), .int (nI ck), .int (nI ct), .ref (ad 202), .int (nI cn), .int (nI pk), .ref (ad 203), .ref (ad 204), .int (nI (v31.1)), .ref (ad 205), .ref (ad 206), .int (bI (true)), .ref (ad 207)]) := (hk44 _ (by omega)).trans eL113_0
                have e53 : g43 (203) = na ca 9000 (fl v31.2.1) := (hk44 _ (by omega)).trans eL113_5
                have e54 : g43 (204) = na ca 120 (v31.2.2.1) := (hk44 _ (by omega)).trans eL113_6
                have hs55 : ∀ z, (z < 198 ∨ 207 < z) → g43 z = g z := fun z hz => (hk44 z (by omega)).trans (hsL113 z hz)
                have hrb56 : By (mRed v31.1 v31.2.1 v31.2.2.1 (onRow (pkR ck i (tnN (fbG pm ck))) f1)) := by_mred (by_prt (fun c _ => by_pkR _ _ _ c) hf1) _
                refine k_beq (tgt := 134) C dX8_count_127 (by decide) (fun hc127 => ?_) (fun hc127 => ?_)
                · refine k_icn C 0 dX8_count_134 (by decide) ?_
                  refine k_add C dX8_count_135 ?_
                  refine lv_istore_n (lv' := [(2, .int (nI (v + 0))), (0, .ref (ad 198)), (1, .int (nI j)), (3, .int (nI i))]) C.1 C.2.1 dX8_count_136 rfl hl (by decide) rfl (fun ls hl => ?_)
                  refine k_inc C (i + 1) (lv' := [(3, .int (nI (i + 1))), (2, .int (nI (v + 0))), (0, .ref (ad 198)), (1, .int (nI j))]) dX8_count_137 hl (k := 3) rfl (inc1 _) (by decide) rfl (fun ls hl => ?_)
                  refine lv_goto (tgt := 113) C.1 C.2.1 dX8_count_140 (by decide) ?_
                  exact ih113 (i + 1) (v + 0) (mRed v31.1 v31.2.1 v31.2.2.1 (onRow (pkR ck i (tnN (fbG pm ck))) f1)) g43 H locs ls (by omega) (by omega) (cnt_f hv (fun h => by rw [(zt_ks hck.2 hmb31 hkm31).mpr ((hdv (by omega) i (by omega)).mp h)] at hc127; cases hc127)) hrb56 hs55 e52 e46 e47 e48 e49 e53 e54 e45 e50 e51 hw (lv_sub hl [2, 3, 1, 0] rfl)
                · refine k_icn C 1 dX8_count_130 (by decide) ?_
                  refine lv_goto (tgt := 135) C.1 C.2.1 dX8_count_131 (by decide) ?_
                  refine k_add C dX8_count_135 ?_
                  refine lv_istore_n (lv' := [(2, .int (nI (v + 1))), (0, .ref (ad 198)), (1, .int (nI j)), (3, .int (nI i))]) C.1 C.2.1 dX8_count_136 rfl hl (by decide) rfl (fun ls hl => ?_)
                  refine k_inc C (i + 1) (lv' := [(3, .int (nI (i + 1))), (2, .int (nI (v + 1))), (0, .ref (ad 198)), (1, .int (nI j))]) dX8_count_137 hl (k := 3) rfl (inc1 _) (by decide) rfl (fun ls hl => ?_)
                  refine lv_goto (tgt := 113) C.1 C.2.1 dX8_count_140 (by decide) ?_
                  exact ih113 (i + 1) (v + 1) (mRed v31.1 v31.2.1 v31.2.2.1 (onRow (pkR ck i (tnN (fbG pm ck))) f1)) g43 H locs ls (by omega) (by omega) (cnt_t hv ((hdv (by omega) i (by omega)).mpr ((zt_ks hck.2 hmb31 hkm31).mp hc127))) hrb56 hs55 e52 e46 e47 e48 e49 e53 e54 e45 e50 e51 hw (lv_sub hl [2, 3, 1, 0] rfl)
          exact loop113 _ 0 0 v31.2.2.2 g30 H locs ls (Nat.le_refl _) (by omega) rfl hmb31.2.1 hs39 e9831 e33 e34 e35 e36 e0331 e0431 e0531 e37 e38 hw (lv_sub hl [2, 3, 1, 0] rfl)
      · refine lv_iload_n C.1 C.2.1 dX8_count_34 rfl (lv_at hl 1 rfl) ?_
        refine k_zne (tgt := 45) C dX8_count_35 (by decide) (by omega) (fun hc35 => ?_) (fun hc35 => ?_)
        · refine lv_iload_n C.1 C.2.1 dX8_count_45 rfl (lv_at hl 1 rfl) ?_
          refine k_icn C 1 dX8_count_46 (by decide) ?_
          refine k_ine (tgt := 57) C dX8_count_47 (by decide) (by omega) (by omega) (fun hc47 => ?_) (fun hc47 => ?_)
          · refine lv_iload_n C.1 C.2.1 dX8_count_57 rfl (lv_at hl 1 rfl) ?_
            refine k_icn C 2 dX8_count_58 (by decide) ?_
            refine k_ine (tgt := 69) C dX8_count_59 (by decide) (by omega) (by omega) (fun hc59 => ?_) (fun hc59 => ?_)
            · refine lv_iload_n C.1 C.2.1 dX8_count_69 rfl (lv_at hl 1 rfl) ?_
              refine k_icn C 3 dX8_count_70 (by decide) ?_
              refine k_ine (tgt := 81) C dX8_count_71 (by decide) (by omega) (by omega) (fun hc71 => ?_) (fun hc71 => ?_)
              · refine lv_iload_n C.1 C.2.1 dX8_count_81 rfl (lv_at hl 1 rfl) ?_
                refine k_icn C 4 dX8_count_82 (by decide) ?_
                refine k_ine (tgt := 93) C dX8_count_83 (by decide) (by omega) (by omega) (fun hc83 => ?_) (fun hc83 => ?_)
                · refine lv_aload_n C.1 C.2.1 dX8_count_93 rfl (lv_at hl 0 rfl) ?_
                  refine k_get C F hw (198) (by omega) e17 rfl in_X8 11 (by decide) fl_X8_138 rfl dX8_count_94 ?_
                  have hS57 : MSt ca ad g15 pm (nI (0)) ln th bk bt IN ck ct CG cn pk tp rw gt M pv ro tn bb := ⟨⟨e17, e18, e19, e20, e21, e22, e23, e24, e25, e26⟩, hmb, hbb, hCG, hIN, htn, hgt, hbd, hGr, hth⟩
                  exact hret H locs ls _ _ _ dX8_count_97 hw (⟨hs27, Or.inl ⟨j, rfl, hj6, by rw [show j = 5 by omega]; rfl, ⟨_, _, _, _, _, _, _, _, hS57⟩⟩⟩)
                · refine lv_aload_n C.1 C.2.1 dX8_count_86 rfl (lv_at hl 0 rfl) ?_
                  refine k_get C F hw (198) (by omega) e17 rfl in_X8 8 (by decide) fl_X8_132 rfl dX8_count_87 ?_
                  refine lv_goto (tgt := 97) C.1 C.2.1 dX8_count_90 (by decide) ?_
                  have hS58 : MSt ca ad g15 pm (nI (0)) ln th bk bt IN ck ct CG cn pk tp rw gt M pv ro tn bb := ⟨⟨e17, e18, e19, e20, e21, e22, e23, e24, e25, e26⟩, hmb, hbb, hCG, hIN, htn, hgt, hbd, hGr, hth⟩
                  exact hret H locs ls _ _ _ dX8_count_97 hw (⟨hs27, Or.inl ⟨j, rfl, hj6, by rw [show j = 4 by omega]; rfl, ⟨_, _, _, _, _, _, _, _, hS58⟩⟩⟩)
              · refine lv_aload_n C.1 C.2.1 dX8_count_74 rfl (lv_at hl 0 rfl) ?_
                refine k_get C F hw (198) (by omega) e17 rfl in_X8 7 (by decide) fl_X8_129 rfl dX8_count_75 ?_
                refine lv_goto (tgt := 97) C.1 C.2.1 dX8_count_78 (by decide) ?_
                have hS59 : MSt ca ad g15 pm (nI (0)) ln th bk bt IN ck ct CG cn pk tp rw gt M pv ro tn bb := ⟨⟨e17, e18, e19, e20, e21, e22, e23, e24, e25, e26⟩, hmb, hbb, hCG, hIN, htn, hgt, hbd, hGr, hth⟩
                exact hret H locs ls _ _ _ dX8_count_97 hw (⟨hs27, Or.inl ⟨j, rfl, hj6, by rw [show j = 3 by omega]; rfl, ⟨_, _, _, _, _, _, _, _, hS59⟩⟩⟩)
            · refine lv_aload_n C.1 C.2.1 dX8_count_62 rfl (lv_at hl 0 rfl) ?_
              refine k_get C F hw (198) (by omega) e17 rfl in_X8 5 (by decide) fl_X8_119 rfl dX8_count_63 ?_
              refine lv_goto (tgt := 97) C.1 C.2.1 dX8_count_66 (by decide) ?_
              have hS60 : MSt ca ad g15 pm (nI (0)) ln th bk bt IN ck ct CG cn pk tp rw gt M pv ro tn bb := ⟨⟨e17, e18, e19, e20, e21, e22, e23, e24, e25, e26⟩, hmb, hbb, hCG, hIN, htn, hgt, hbd, hGr, hth⟩
              exact hret H locs ls _ _ _ dX8_count_97 hw (⟨hs27, Or.inl ⟨j, rfl, hj6, by rw [show j = 2 by omega]; rfl, ⟨_, _, _, _, _, _, _, _, hS60⟩⟩⟩)
          · refine lv_aload_n C.1 C.2.1 dX8_count_50 rfl (lv_at hl 0 rfl) ?_
            refine k_get C F hw (198) (by omega) e17 rfl in_X8 4 (by decide) fl_X8_116 rfl dX8_count_51 ?_
            refine lv_goto (tgt := 97) C.1 C.2.1 dX8_count_54 (by decide) ?_
            have hS61 : MSt ca ad g15 pm (nI (0)) ln th bk bt IN ck ct CG cn pk tp rw gt M pv ro tn bb := ⟨⟨e17, e18, e19, e20, e21, e22, e23, e24, e25, e26⟩, hmb, hbb, hCG, hIN, htn, hgt, hbd, hGr, hth⟩
            exact hret H locs ls _ _ _ dX8_count_97 hw (⟨hs27, Or.inl ⟨j, rfl, hj6, by rw [show j = 1 by omega]; rfl, ⟨_, _, _, _, _, _, _, _, hS61⟩⟩⟩)
        · refine lv_aload_n C.1 C.2.1 dX8_count_38 rfl (lv_at hl 0 rfl) ?_
          refine k_get C F hw (198) (by omega) e17 rfl in_X8 2 (by decide) fl_X8_46 rfl dX8_count_39 ?_
          refine lv_goto (tgt := 97) C.1 C.2.1 dX8_count_42 (by decide) ?_
          have hS62 : MSt ca ad g15 pm (nI (0)) ln th bk bt IN ck ct CG cn pk tp rw gt M pv ro tn bb := ⟨⟨e17, e18, e19, e20, e21, e22, e23, e24, e25, e26⟩, hmb, hbb, hCG, hIN, htn, hgt, hbd, hGr, hth⟩
          exact hret H locs ls _ _ _ dX8_count_97 hw (⟨hs27, Or.inl ⟨j, rfl, hj6, by rw [show j = 0 by omega]; rfl, ⟨_, _, _, _, _, _, _, _, hS62⟩⟩⟩)
    · refine k_icn C 1 dX8_count_11 (by decide) ?_
      refine lv_goto (tgt := 16) C.1 C.2.1 dX8_count_12 (by decide) ?_
      refine k_put C F hw (198) (by omega) q198 rfl in_X8 tyX8_ok nmX8 0 (by decide) fl_X8_42 rfl (v := .int (nI 1)) rfl rfl (Nat.le_of_ble_eq_true rfl) dX8_count_16 (fun H locs hw => ?_)
      have hw : Wd D (AA R ad sz) s R ad (va_up g (198) (.inr (8, [.int (nI 1), .ref (ad 199), .int (nI ln), .ref (ad 200), .int (nI bk), .int (nI bt), .ref (ad 201), .int (nI ck), .int (nI ct), .ref (ad 202), .int (nI cn), .int (nI pk), .ref (ad 203), .ref (ad 204), .int (nI rw), .ref (ad 205), .ref (ad 206), .int (bI (gt)), .ref (ad 207)]))) H locs := hw
      obtain ⟨g63, hg63⟩ : ∃ z, z = va_up g (198) (.inr (8, [.int (nI 1), .ref (ad 199), .int (nI ln), .ref (ad 200), .int (nI bk), .int (nI bt), .ref (ad 201), .int (nI ck), .int (nI ct), .ref (ad 202), .int (nI cn), .int (nI pk), .ref (ad 203), .ref (ad 204), .int (nI rw), .ref (ad 205), .ref (ad 206), .int (bI (gt)), .ref (ad 207)])) := ⟨_, rfl⟩
      rw [← hg63] at hw
      have hk64 : ∀ z, z ≠ 198 → g63 z = g z := fun z hz => by rw [hg63]; exact va_up_ne _ _ hz
      have e65 : g63 (198) = .inr (8, [.int (nI 1), .ref (ad 199), .int (nI ln), .ref (ad 200), .int (nI bk), .int (nI bt), .ref (ad 201), .int (nI ck), .int (nI ct), .ref (ad 202), .int (nI cn), .int (nI pk), .ref (ad 203), .ref (ad 204), .int (nI rw), .ref (ad 205), .ref (ad 206), .int (bI (gt)), .ref (ad 207)]) := by rw [hg63]; exact va_up_self _ _ _
      have e66 : g63 (199) = ba ca 800 (tp) := (hk64 _ (by omega)).trans q199
      have e67 : g63 (200) = ia ca 49 (tn) := (hk64 _ (by omega)).trans q200
      have e68 : g63 (201) = na ca 944 (fi IN) := (hk64 _ (by omega)).trans q201
      have e69 : g63 (202) = na ca 4425 (fl CG) := (hk64 _ (by omega)).trans q202
      have e70 : g63 (203) = na ca 9000 (fl M) := (hk64 _ (by omega)).trans q203
      have e71 : g63 (204) = na ca 120 (pv) := (hk64 _ (by omega)).trans q204
      have e72 : g63 (205) = na ca 75 (ro) := (hk64 _ (by omega)).trans q205
      have e73 : g63 (206) = na ca 255 (pm) := (hk64 _ (by omega)).trans q206
      have e74 : g63 (207) = na ca 16 (bb) := (hk64 _ (by omega)).trans q207
      have hs75 : ∀ z, (z < 198 ∨ 207 < z) → g63 z = g z := fun z hz => hk64 z (by omega)
      refine lv_aload_n C.1 C.2.1 dX8_count_19 rfl (lv_at hl 0 rfl) ?_
      refine k_get C F hw (198) (by omega) e65 rfl in_X8 0 (by decide) fl_X8_42 rfl dX8_count_20 ?_
      refine k_zle (tgt := 28) C dX8_count_23 (by decide) (by omega) (fun h => absurd h (by decide)) (fun _ => ?_)
      refine k_icn C 0 dX8_count_26 (by decide) ?_
      have hS76 : MSt ca ad g63 pm (nI (1)) ln th bk bt IN ck ct CG cn pk tp rw gt M pv ro tn bb := ⟨⟨e65, e66, e67, e68, e69, e70, e71, e72, e73, e74⟩, hmb, hbb, hCG, hIN, htn, hgt, hbd, hGr, hth⟩
      exact hret H locs ls _ _ _ dX8_count_27 hw (⟨hs75, Or.inr ⟨fun ⟨j, h1, h2⟩ => by first | exact absurd hc2 (by rw [h1]; exact nI_pos (by omega)) | exact hc8 (by rw [h1]; exact nI_le (b := 6) h2 (by decide)), ⟨_, _, _, _, _, _, _, _, hS76⟩⟩⟩)

abbrev rm_X8_take : Room := { frames := 8, cells := 0, slots := 0, locals := 185 }

set_option maxHeartbeats 800000 in
set_option maxRecDepth 100000 in
/-- take -/
theorem c_X8_take {l : Launch} {D : va_G} {ca : Nat → ClassId} {tB tS R : Nat} {ad : Nat → Nat} {g : Nat → va_E} {sz : Nat} (hR : 207 < R) (pm : Nat → Nat) (hpm : PmOk pm) (hT : ∀ k, 1 ≤ k → k ≤ 48 → tnN (fbG pm k) < 1000) (cd : Int32) (ln : Nat) (th : Nat → Nat) (bk bt : Nat) (IN : Nat → Nat → Nat) (ck ct : Nat) (CG : Nat → Nat → Nat) (cn pk : Nat) (hI : MInv ca ad g pm cd ln th bk bt IN ck ct CG cn pk) (xx : Int32) : MI l yX8_take cX8_take 3 .boolean rm_X8_take D ca tB tS R ad g sz [.ref (ad 198), .int (xx)] (fun r g1 => (∀ z, z < 198 ∨ 207 < z → g1 z = g z) ∧ (((bk ≠ 0 ∧ bk = ck ∧ bt = ct) ∧ ∃ x : Nat, xx = nI x ∧ x < 65536 ∧ ∃ r1 cn1 pk1, CmR pm ck ct CG cn pk x (smP pm IN ck x) r1 cn1 pk1 ∧ ((0 ≤ r1 ∧ r = bI (decide (r1 = 1)) ∧ MInv ca ad g1 pm (nI 0) ln th bk bt IN ck ct (CgN pm ck ct CG cn x (smP pm IN ck x)) cn1 pk1) ∨ (¬ 0 ≤ r1 ∧ MInv ca ad g1 pm (nI 3) ln th bk bt IN ck ct (CgN pm ck ct CG cn x (smP pm IN ck x)) cn1 pk1))) ∨ (¬ (bk ≠ 0 ∧ bk = ck ∧ bt = ct) ∧ MInv ca ad g1 pm (nI 1) ln th bk bt IN ck ct CG cn pk) ∨ ((bk ≠ 0 ∧ bk = ck ∧ bt = ct) ∧ ¬ (0 ≤ xx ∧ xx < 65536) ∧ MInv ca ad g1 pm (nI 2) ln th bk bt IN ck ct CG cn pk))) := by
  refine m_startZ (by decide +kernel) (Nat.le_of_ble_eq_true rfl) (fun p e s m args below meth c ls Q hsz C hl F hw hret => ?_)
  have hl : lv_has ls 3 [(0, .ref (ad 198)), (1, .int (xx))] := hl
  generalize s.heap = H at hw ⊢
  generalize ([] : List Loc) = locs at hw ⊢
  obtain ⟨tp, rw, gt, M, pv, ro, tn, bb, hS⟩ := hI
  obtain ⟨⟨q198, q199, q200, q201, q202, q203, q204, q205, q206, q207⟩, hmb, hbb, hCG, hIN, htn, hgt, hbd, hGr, hth⟩ := hS
  have hbd2 := hbd.2.1
  have hbd3 := hbd.2.2
  refine lv_aload_n C.1 C.2.1 dX8_take_0 rfl (lv_at hl 0 rfl) ?_
  refine lv_aload_n C.1 C.2.1 dX8_take_1 rfl (lv_at hl 0 rfl) ?_
  refine k_Vi C F hw (i := 198) (As := []) (rest := [.ref (ad 198)]) (c_X8_isSame hR cd ln bk bt ck ct cn pk rw gt q198 (by omega)) (by omega) q198 rfl (cwV _ C.2.2.2.2 gm_X8_147 rfl rfl rfl cd_X8_isSame ⟨by decide, by decide⟩) hl.1 rfl (Nat.le_of_ble_eq_true rfl) dX8_take_2 ⟨by decide, by decide⟩ (fun r1 g2 H locs hp hw => ?_)
  obtain ⟨hr9, hg9⟩ := hp
  rw [hg9] at hw
  subst hr9
  refine k_bne (tgt := 12) C dX8_take_5 (by decide) (fun hc5 => ?_) (fun hc5 => ?_)
  · have hsm := of_decide_eq_true hc5
    have hck : 1 ≤ ck ∧ ck ≤ 48 := by omega
    refine lv_iload_n C.1 C.2.1 dX8_take_12 rfl (lv_at hl 1 rfl) ?_
    refine k_Si C F hw (As := [.int (xx)]) (rest := [.ref (ad 198)]) (c_X8_isPacket xx) (va_cwS _ C.2.2.2.2 gm_X8_123 rfl rfl rfl cd_X8_isPacket.2 ⟨by decide, by decide⟩) hl.1 rfl (Nat.le_of_ble_eq_true rfl) dX8_take_13 ⟨by decide, by decide⟩ (fun r3 g4 H locs hp hw => ?_)
    obtain ⟨hr9, hg9⟩ := hp
    rw [hg9] at hw
    subst hr9
    refine k_beq (tgt := 23) C dX8_take_16 (by decide) (fun hc16 => ?_) (fun hc16 => ?_)
    · refine k_icn C 2 dX8_take_23 (by decide) ?_
      refine k_put C F hw (198) (by omega) q198 rfl in_X8 tyX8_ok nmX8 0 (by decide) fl_X8_42 rfl (v := .int (nI 2)) rfl rfl (Nat.le_of_ble_eq_true rfl) dX8_take_24 (fun H locs hw => ?_)
      have hw : Wd D (AA R ad sz) s R ad (va_up g (198) (.inr (8, [.int (nI 2), .ref (ad 199), .int (nI ln), .ref (ad 200), .int (nI bk), .int (nI bt), .ref (ad 201), .int (nI ck), .int (nI ct), .ref (ad 202), .int (nI cn), .int (nI pk), .ref (ad 203), .ref (ad 204), .int (nI rw), .ref (ad 205), .ref (ad 206), .int (bI (gt)), .ref (ad 207)]))) H locs := hw
      obtain ⟨g5, hg5⟩ : ∃ z, z = va_up g (198) (.inr (8, [.int (nI 2), .ref (ad 199), .int (nI ln), .ref (ad 200), .int (nI bk), .int (nI bt), .ref (ad 201), .int (nI ck), .int (nI ct), .ref (ad 202), .int (nI cn), .int (nI pk), .ref (ad 203), .ref (ad 204), .int (nI rw), .ref (ad 205), .ref (ad 206), .int (bI (gt)), .ref (ad 207)])) := ⟨_, rfl⟩
      rw [← hg5] at hw
      have hk6 : ∀ z, z ≠ 198 → g5 z = g z := fun z hz => by rw [hg5]; exact va_up_ne _ _ hz
      have e7 : g5 (198) = .inr (8, [.int (nI 2), .ref (ad 199), .int (nI ln), .ref (ad 200), .int (nI bk), .int (nI bt), .ref (ad 201), .int (nI ck), .int (nI ct), .ref (ad 202), .int (nI cn), .int (nI pk), .ref (ad 203), .ref (ad 204), .int (nI rw), .ref (ad 205), .ref (ad 206), .int (bI (gt)), .ref (ad 207)]) := by rw [hg5]; exact va_up_self _ _ _
      have e8 : g5 (199) = ba ca 800 (tp) := (hk6 _ (by omega)).trans q199
      have e9 : g5 (200) = ia ca 49 (tn) := (hk6 _ (by omega)).trans q200
      have e10 : g5 (201) = na ca 944 (fi IN) := (hk6 _ (by omega)).trans q201
      have e11 : g5 (202) = na ca 4425 (fl CG) := (hk6 _ (by omega)).trans q202
      have e12 : g5 (203) = na ca 9000 (fl M) := (hk6 _ (by omega)).trans q203
      have e13 : g5 (204) = na ca 120 (pv) := (hk6 _ (by omega)).trans q204
      have e14 : g5 (205) = na ca 75 (ro) := (hk6 _ (by omega)).trans q205
      have e15 : g5 (206) = na ca 255 (pm) := (hk6 _ (by omega)).trans q206
      have e16 : g5 (207) = na ca 16 (bb) := (hk6 _ (by omega)).trans q207
      have hs17 : ∀ z, (z < 198 ∨ 207 < z) → g5 z = g z := fun z hz => hk6 z (by omega)
      refine lv_aload_n C.1 C.2.1 dX8_take_27 rfl (lv_at hl 0 rfl) ?_
      refine k_get C F hw (198) (by omega) e7 rfl in_X8 0 (by decide) fl_X8_42 rfl dX8_take_28 ?_
      refine k_zle (tgt := 36) C dX8_take_31 (by decide) (by omega) (fun h => absurd h (by decide)) (fun _ => ?_)
      refine k_icn C 0 dX8_take_34 (by decide) ?_
      have hS18 : MSt ca ad g5 pm (nI (2)) ln th bk bt IN ck ct CG cn pk tp rw gt M pv ro tn bb := ⟨⟨e7, e8, e9, e10, e11, e12, e13, e14, e15, e16⟩, hmb, hbb, hCG, hIN, htn, hgt, hbd, hGr, hth⟩
      exact hret H locs ls _ false _ _ dX8_take_35 hw (by rfl) (⟨hs17, Or.inr (Or.inr ⟨hsm, of_decide_eq_false hc16, ⟨_, _, _, _, _, _, _, _, hS18⟩⟩)⟩)
    · obtain ⟨x, hx, rfl⟩ := nat_of0 (of_decide_eq_true hc16)
      refine k_icn C 0 dX8_take_19 (by decide) ?_
      refine lv_goto (tgt := 24) C.1 C.2.1 dX8_take_20 (by decide) ?_
      refine k_put C F hw (198) (by omega) q198 rfl in_X8 tyX8_ok nmX8 0 (by decide) fl_X8_42 rfl (v := .int (nI 0)) rfl rfl (Nat.le_of_ble_eq_true rfl) dX8_take_24 (fun H locs hw => ?_)
      have hw : Wd D (AA R ad sz) s R ad (va_up g (198) (.inr (8, [.int (nI 0), .ref (ad 199), .int (nI ln), .ref (ad 200), .int (nI bk), .int (nI bt), .ref (ad 201), .int (nI ck), .int (nI ct), .ref (ad 202), .int (nI cn), .int (nI pk), .ref (ad 203), .ref (ad 204), .int (nI rw), .ref (ad 205), .ref (ad 206), .int (bI (gt)), .ref (ad 207)]))) H locs := hw
      obtain ⟨g19, hg19⟩ : ∃ z, z = va_up g (198) (.inr (8, [.int (nI 0), .ref (ad 199), .int (nI ln), .ref (ad 200), .int (nI bk), .int (nI bt), .ref (ad 201), .int (nI ck), .int (nI ct), .ref (ad 202), .int (nI cn), .int (nI pk), .ref (ad 203), .ref (ad 204), .int (nI rw), .ref (ad 205), .ref (ad 206), .int (bI (gt)), .ref (ad 207)])) := ⟨_, rfl⟩
      rw [← hg19] at hw
      have hk20 : ∀ z, z ≠ 198 → g19 z = g z := fun z hz => by rw [hg19]; exact va_up_ne _ _ hz
      have e21 : g19 (198) = .inr (8, [.int (nI 0), .ref (ad 199), .int (nI ln), .ref (ad 200), .int (nI bk), .int (nI bt), .ref (ad 201), .int (nI ck), .int (nI ct), .ref (ad 202), .int (nI cn), .int (nI pk), .ref (ad 203), .ref (ad 204), .int (nI rw), .ref (ad 205), .ref (ad 206), .int (bI (gt)), .ref (ad 207)]) := by rw [hg19]; exact va_up_self _ _ _
      have e22 : g19 (199) = ba ca 800 (tp) := (hk20 _ (by omega)).trans q199
      have e23 : g19 (200) = ia ca 49 (tn) := (hk20 _ (by omega)).trans q200
      have e24 : g19 (201) = na ca 944 (fi IN) := (hk20 _ (by omega)).trans q201
      have e25 : g19 (202) = na ca 4425 (fl CG) := (hk20 _ (by omega)).trans q202
      have e26 : g19 (203) = na ca 9000 (fl M) := (hk20 _ (by omega)).trans q203
      have e27 : g19 (204) = na ca 120 (pv) := (hk20 _ (by omega)).trans q204
      have e28 : g19 (205) = na ca 75 (ro) := (hk20 _ (by omega)).trans q205
      have e29 : g19 (206) = na ca 255 (pm) := (hk20 _ (by omega)).trans q206
      have e30 : g19 (207) = na ca 16 (bb) := (hk20 _ (by omega)).trans q207
      have hs31 : ∀ z, (z < 198 ∨ 207 < z) → g19 z = g z := fun z hz => hk20 z (by omega)
      refine lv_aload_n C.1 C.2.1 dX8_take_27 rfl (lv_at hl 0 rfl) ?_
      refine k_get C F hw (198) (by omega) e21 rfl in_X8 0 (by decide) fl_X8_42 rfl dX8_take_28 ?_
      refine k_zle (tgt := 36) C dX8_take_31 (by decide) (by omega) (fun _ => ?_) (fun h => absurd h (by decide))
      refine lv_aload_n C.1 C.2.1 dX8_take_36 rfl (lv_at hl 0 rfl) ?_
      refine lv_iload_n C.1 C.2.1 dX8_take_37 rfl (lv_at hl 1 rfl) ?_
      have hS32 : MSt ca ad g19 pm (nI (0)) ln th bk bt IN ck ct CG cn pk tp rw gt M pv ro tn bb := ⟨⟨e21, e22, e23, e24, e25, e26, e27, e28, e29, e30⟩, hmb, hbb, hCG, hIN, htn, hgt, hbd, hGr, hth⟩
      refine k_Vi C F hw (i := 198) (As := [.int (nI x)]) (rest := []) (c_X8_taken hR pm hpm hT _ _ _ _ _ _ _ _ _ _ _ (⟨_, _, _, _, _, _, _, _, hS32⟩) hck (by omega) (by omega) x hx) (by omega) e21 rfl (cwV _ C.2.2.2.2 gm_X8_151 rfl rfl rfl cd_X8_taken ⟨by decide, by decide⟩) hl.1 rfl (Nat.le_of_ble_eq_true rfl) dX8_take_38 ⟨by decide, by decide⟩ (fun r33 g34 H locs hp hw => ?_)
      obtain ⟨hs35, cn1, pk1, hcm, hI1⟩ := hp
      have hs36 : ∀ z, (z < 198 ∨ 207 < z) → g34 z = g z := fun z hz => (hs35 z hz).trans (hs31 z hz)
      obtain ⟨tp37, rw37, gt37, M37, pv37, ro37, tn37, bb37, hS37⟩ := hI1
      obtain ⟨⟨q19837, q19937, q20037, q20137, q20237, q20337, q20437, q20537, q20637, q20737⟩, hmb37, hbb37, hCG37, hIN37, htn37, hgt37, hbd37, hGr37, hth37⟩ := hS37
      obtain ⟨r1, hr1⟩ : ∃ z, z = r33 := ⟨_, rfl⟩
      rw [← hr1] at hcm
      refine k_ti (x' := r1) (hr1.symm) ?_
      refine lv_istore_n (lv' := [(2, .int (r1)), (0, .ref (ad 198)), (1, .int (nI x))]) C.1 C.2.1 dX8_take_41 rfl hl (by decide) rfl (fun ls hl => ?_)
      refine lv_aload_n C.1 C.2.1 dX8_take_42 rfl (lv_at hl 1 rfl) ?_
      refine lv_iload_n C.1 C.2.1 dX8_take_43 rfl (lv_at hl 0 rfl) ?_
      refine lv_if_ge (tgt := 51) C.1 C.2.1 dX8_take_44 (by decide) (fun hc44 => ?_) (fun hc44 => ?_)
      · refine k_icn C 0 dX8_take_51 (by decide) ?_
        refine k_put C F hw (198) (by omega) q19837 rfl in_X8 tyX8_ok nmX8 0 (by decide) fl_X8_42 rfl (v := .int (nI 0)) rfl rfl (Nat.le_of_ble_eq_true rfl) dX8_take_52 (fun H locs hw => ?_)
        have hw : Wd D (AA R ad sz) s R ad (va_up g34 (198) (.inr (8, [.int (nI 0), .ref (ad 199), .int (nI ln), .ref (ad 200), .int (nI bk), .int (nI bt), .ref (ad 201), .int (nI ck), .int (nI ct), .ref (ad 202), .int (nI cn1), .int (nI pk1), .ref (ad 203), .ref (ad 204), .int (nI rw37), .ref (ad 205), .ref (ad 206), .int (bI (gt37)), .ref (ad 207)]))) H locs := hw
        obtain ⟨g38, hg38⟩ : ∃ z, z = va_up g34 (198) (.inr (8, [.int (nI 0), .ref (ad 199), .int (nI ln), .ref (ad 200), .int (nI bk), .int (nI bt), .ref (ad 201), .int (nI ck), .int (nI ct), .ref (ad 202), .int (nI cn1), .int (nI pk1), .ref (ad 203), .ref (ad 204), .int (nI rw37), .ref (ad 205), .ref (ad 206), .int (bI (gt37)), .ref (ad 207)])) := ⟨_, rfl⟩
        rw [← hg38] at hw
        have hk39 : ∀ z, z ≠ 198 → g38 z = g34 z := fun z hz => by rw [hg38]; exact va_up_ne _ _ hz
        have e40 : g38 (198) = .inr (8, [.int (nI 0), .ref (ad 199), .int (nI ln), .ref (ad 200), .int (nI bk), .int (nI bt), .ref (ad 201), .int (nI ck), .int (nI ct), .ref (ad 202), .int (nI cn1), .int (nI pk1), .ref (ad 203), .ref (ad 204), .int (nI rw37), .ref (ad 205), .ref (ad 206), .int (bI (gt37)), .ref (ad 207)]) := by rw [hg38]; exact va_up_self _ _ _
        have e41 : g38 (199) = ba ca 800 (tp37) := (hk39 _ (by omega)).trans q19937
        have e42 : g38 (200) = ia ca 49 (tn37) := (hk39 _ (by omega)).trans q20037
        have e43 : g38 (201) = na ca 944 (fi IN) := (hk39 _ (by omega)).trans q20137
        have e44 : g38 (202) = na ca 4425 (fl (CgN pm ck ct CG cn x (smP pm IN ck x))) := (hk39 _ (by omega)).trans q20237
        have e45 : g38 (203) = na ca 9000 (fl M37) := (hk39 _ (by omega)).trans q20337
        have e46 : g38 (204) = na ca 120 (pv37) := (hk39 _ (by omega)).trans q20437
        have e47 : g38 (205) = na ca 75 (ro37) := (hk39 _ (by omega)).trans q20537
        have e48 : g38 (206) = na ca 255 (pm) := (hk39 _ (by omega)).trans q20637
        have e49 : g38 (207) = na ca 16 (bb37) := (hk39 _ (by omega)).trans q20737
        have hs50 : ∀ z, (z < 198 ∨ 207 < z) → g38 z = g z := fun z hz => (hk39 z (by omega)).trans (hs36 z hz)
        refine lv_iload_n C.1 C.2.1 dX8_take_55 rfl (lv_at hl 0 rfl) ?_
        refine k_icn C 1 dX8_take_56 (by decide) ?_
        refine lv_icmp_ne (tgt := 64) C.1 C.2.1 dX8_take_57 (by decide) (fun hc57 => ?_) (fun hc57 => ?_)
        · refine k_icn C 0 dX8_take_64 (by decide) ?_
          have hS51 : MSt ca ad g38 pm (nI 0) ln th bk bt IN ck ct (CgN pm ck ct CG cn x (smP pm IN ck x)) cn1 pk1 tp37 rw37 gt37 M37 pv37 ro37 tn37 bb37 := ⟨⟨e40, e41, e42, e43, e44, e45, e46, e47, e48, e49⟩, hmb37, hbb37, hCG37, hIN37, htn37, hgt37, hbd37, hGr37, hth37⟩
          exact hret H locs ls _ false _ _ dX8_take_65 hw (by rfl) (⟨hs50, Or.inl ⟨hsm, x, rfl, hx, r1, cn1, pk1, hcm, Or.inl ⟨hc44, (congrArg bI (decide_eq_false hc57)).symm, ⟨_, _, _, _, _, _, _, _, hS51⟩⟩⟩⟩)
        · refine k_icn C 1 dX8_take_60 (by decide) ?_
          refine lv_goto (tgt := 65) C.1 C.2.1 dX8_take_61 (by decide) ?_
          have hS52 : MSt ca ad g38 pm (nI 0) ln th bk bt IN ck ct (CgN pm ck ct CG cn x (smP pm IN ck x)) cn1 pk1 tp37 rw37 gt37 M37 pv37 ro37 tn37 bb37 := ⟨⟨e40, e41, e42, e43, e44, e45, e46, e47, e48, e49⟩, hmb37, hbb37, hCG37, hIN37, htn37, hgt37, hbd37, hGr37, hth37⟩
          exact hret H locs ls _ true _ _ dX8_take_65 hw (by rfl) (⟨hs50, Or.inl ⟨hsm, x, rfl, hx, r1, cn1, pk1, hcm, Or.inl ⟨hc44, (congrArg bI (decide_eq_true hc57)).symm, ⟨_, _, _, _, _, _, _, _, hS52⟩⟩⟩⟩)
      · refine k_icn C 3 dX8_take_47 (by decide) ?_
        refine lv_goto (tgt := 52) C.1 C.2.1 dX8_take_48 (by decide) ?_
        refine k_put C F hw (198) (by omega) q19837 rfl in_X8 tyX8_ok nmX8 0 (by decide) fl_X8_42 rfl (v := .int (nI 3)) rfl rfl (Nat.le_of_ble_eq_true rfl) dX8_take_52 (fun H locs hw => ?_)
        have hw : Wd D (AA R ad sz) s R ad (va_up g34 (198) (.inr (8, [.int (nI 3), .ref (ad 199), .int (nI ln), .ref (ad 200), .int (nI bk), .int (nI bt), .ref (ad 201), .int (nI ck), .int (nI ct), .ref (ad 202), .int (nI cn1), .int (nI pk1), .ref (ad 203), .ref (ad 204), .int (nI rw37), .ref (ad 205), .ref (ad 206), .int (bI (gt37)), .ref (ad 207)]))) H locs := hw
        obtain ⟨g53, hg53⟩ : ∃ z, z = va_up g34 (198) (.inr (8, [.int (nI 3), .ref (ad 199), .int (nI ln), .ref (ad 200), .int (nI bk), .int (nI bt), .ref (ad 201), .int (nI ck), .int (nI ct), .ref (ad 202), .int (nI cn1), .int (nI pk1), .ref (ad 203), .ref (ad 204), .int (nI rw37), .ref (ad 205), .ref (ad 206), .int (bI (gt37)), .ref (ad 207)])) := ⟨_, rfl⟩
        rw [← hg53] at hw
        have hk54 : ∀ z, z ≠ 198 → g53 z = g34 z := fun z hz => by rw [hg53]; exact va_up_ne _ _ hz
        have e55 : g53 (198) = .inr (8, [.int (nI 3), .ref (ad 199), .int (nI ln), .ref (ad 200), .int (nI bk), .int (nI bt), .ref (ad 201), .int (nI ck), .int (nI ct), .ref (ad 202), .int (nI cn1), .int (nI pk1), .ref (ad 203), .ref (ad 204), .int (nI rw37), .ref (ad 205), .ref (ad 206), .int (bI (gt37)), .ref (ad 207)]) := by rw [hg53]; exact va_up_self _ _ _
        have e56 : g53 (199) = ba ca 800 (tp37) := (hk54 _ (by omega)).trans q19937
        have e57 : g53 (200) = ia ca 49 (tn37) := (hk54 _ (by omega)).trans q20037
        have e58 : g53 (201) = na ca 944 (fi IN) := (hk54 _ (by omega)).trans q20137
        have e59 : g53 (202) = na ca 4425 (fl (CgN pm ck ct CG cn x (smP pm IN ck x))) := (hk54 _ (by omega)).trans q20237
        have e60 : g53 (203) = na ca 9000 (fl M37) := (hk54 _ (by omega)).trans q20337
        have e61 : g53 (204) = na ca 120 (pv37) := (hk54 _ (by omega)).trans q20437
        have e62 : g53 (205) = na ca 75 (ro37) := (hk54 _ (by omega)).trans q20537
        have e63 : g53 (206) = na ca 255 (pm) := (hk54 _ (by omega)).trans q20637
        have e64 : g53 (207) = na ca 16 (bb37) := (hk54 _ (by omega)).trans q20737
        have hs65 : ∀ z, (z < 198 ∨ 207 < z) → g53 z = g z := fun z hz => (hk54 z (by omega)).trans (hs36 z hz)
        refine lv_iload_n C.1 C.2.1 dX8_take_55 rfl (lv_at hl 0 rfl) ?_
        refine k_icn C 1 dX8_take_56 (by decide) ?_
        refine lv_icmp_ne (tgt := 64) C.1 C.2.1 dX8_take_57 (by decide) (fun hc57 => ?_) (fun hc57 => ?_)
        · refine k_icn C 0 dX8_take_64 (by decide) ?_
          have hS66 : MSt ca ad g53 pm (nI 3) ln th bk bt IN ck ct (CgN pm ck ct CG cn x (smP pm IN ck x)) cn1 pk1 tp37 rw37 gt37 M37 pv37 ro37 tn37 bb37 := ⟨⟨e55, e56, e57, e58, e59, e60, e61, e62, e63, e64⟩, hmb37, hbb37, hCG37, hIN37, htn37, hgt37, hbd37, hGr37, hth37⟩
          exact hret H locs ls _ false _ _ dX8_take_65 hw (by rfl) (⟨hs65, Or.inl ⟨hsm, x, rfl, hx, r1, cn1, pk1, hcm, Or.inr ⟨hc44, ⟨_, _, _, _, _, _, _, _, hS66⟩⟩⟩⟩)
        · refine k_icn C 1 dX8_take_60 (by decide) ?_
          refine lv_goto (tgt := 65) C.1 C.2.1 dX8_take_61 (by decide) ?_
          have hS67 : MSt ca ad g53 pm (nI 3) ln th bk bt IN ck ct (CgN pm ck ct CG cn x (smP pm IN ck x)) cn1 pk1 tp37 rw37 gt37 M37 pv37 ro37 tn37 bb37 := ⟨⟨e55, e56, e57, e58, e59, e60, e61, e62, e63, e64⟩, hmb37, hbb37, hCG37, hIN37, htn37, hgt37, hbd37, hGr37, hth37⟩
          exact hret H locs ls _ true _ _ dX8_take_65 hw (by rfl) (⟨hs65, Or.inl ⟨hsm, x, rfl, hx, r1, cn1, pk1, hcm, Or.inr ⟨hc44, ⟨_, _, _, _, _, _, _, _, hS67⟩⟩⟩⟩)
  · refine k_icn C 1 dX8_take_8 (by decide) ?_
    refine lv_goto (tgt := 24) C.1 C.2.1 dX8_take_9 (by decide) ?_
    refine k_put C F hw (198) (by omega) q198 rfl in_X8 tyX8_ok nmX8 0 (by decide) fl_X8_42 rfl (v := .int (nI 1)) rfl rfl (Nat.le_of_ble_eq_true rfl) dX8_take_24 (fun H locs hw => ?_)
    have hw : Wd D (AA R ad sz) s R ad (va_up g (198) (.inr (8, [.int (nI 1), .ref (ad 199), .int (nI ln), .ref (ad 200), .int (nI bk), .int (nI bt), .ref (ad 201), .int (nI ck), .int (nI ct), .ref (ad 202), .int (nI cn), .int (nI pk), .ref (ad 203), .ref (ad 204), .int (nI rw), .ref (ad 205), .ref (ad 206), .int (bI (gt)), .ref (ad 207)]))) H locs := hw
    obtain ⟨g68, hg68⟩ : ∃ z, z = va_up g (198) (.inr (8, [.int (nI 1), .ref (ad 199), .int (nI ln), .ref (ad 200), .int (nI bk), .int (nI bt), .ref (ad 201), .int (nI ck), .int (nI ct), .ref (ad 202), .int (nI cn), .int (nI pk), .ref (ad 203), .ref (ad 204), .int (nI rw), .ref (ad 205), .ref (ad 206), .int (bI (gt)), .ref (ad 207)])) := ⟨_, rfl⟩
    rw [← hg68] at hw
    have hk69 : ∀ z, z ≠ 198 → g68 z = g z := fun z hz => by rw [hg68]; exact va_up_ne _ _ hz
    have e70 : g68 (198) = .inr (8, [.int (nI 1), .ref (ad 199), .int (nI ln), .ref (ad 200), .int (nI bk), .int (nI bt), .ref (ad 201), .int (nI ck), .int (nI ct), .ref (ad 202), .int (nI cn), .int (nI pk), .ref (ad 203), .ref (ad 204), .int (nI rw), .ref (ad 205), .ref (ad 206), .int (bI (gt)), .ref (ad 207)]) := by rw [hg68]; exact va_up_self _ _ _
    have e71 : g68 (199) = ba ca 800 (tp) := (hk69 _ (by omega)).trans q199
    have e72 : g68 (200) = ia ca 49 (tn) := (hk69 _ (by omega)).trans q200
    have e73 : g68 (201) = na ca 944 (fi IN) := (hk69 _ (by omega)).trans q201
    have e74 : g68 (202) = na ca 4425 (fl CG) := (hk69 _ (by omega)).trans q202
    have e75 : g68 (203) = na ca 9000 (fl M) := (hk69 _ (by omega)).trans q203
    have e76 : g68 (204) = na ca 120 (pv) := (hk69 _ (by omega)).trans q204
    have e77 : g68 (205) = na ca 75 (ro) := (hk69 _ (by omega)).trans q205
    have e78 : g68 (206) = na ca 255 (pm) := (hk69 _ (by omega)).trans q206
    have e79 : g68 (207) = na ca 16 (bb) := (hk69 _ (by omega)).trans q207
    have hs80 : ∀ z, (z < 198 ∨ 207 < z) → g68 z = g z := fun z hz => hk69 z (by omega)
    refine lv_aload_n C.1 C.2.1 dX8_take_27 rfl (lv_at hl 0 rfl) ?_
    refine k_get C F hw (198) (by omega) e70 rfl in_X8 0 (by decide) fl_X8_42 rfl dX8_take_28 ?_
    refine k_zle (tgt := 36) C dX8_take_31 (by decide) (by omega) (fun h => absurd h (by decide)) (fun _ => ?_)
    refine k_icn C 0 dX8_take_34 (by decide) ?_
    have hS81 : MSt ca ad g68 pm (nI (1)) ln th bk bt IN ck ct CG cn pk tp rw gt M pv ro tn bb := ⟨⟨e70, e71, e72, e73, e74, e75, e76, e77, e78, e79⟩, hmb, hbb, hCG, hIN, htn, hgt, hbd, hGr, hth⟩
    exact hret H locs ls _ false _ _ dX8_take_35 hw (by rfl) (⟨hs80, Or.inr (Or.inl ⟨of_decide_eq_false hc5, ⟨_, _, _, _, _, _, _, _, hS81⟩⟩)⟩)
