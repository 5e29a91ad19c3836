/-! ===== FountainDeskModel: its state ===== -/
def TnOk (pm : Nat → Nat) (tn : Nat → Int32) (ck : Nat) : Prop := (∀ k, 1 ≤ k → k ≤ 48 → tn k = -1 ∨ tn k = nI (tnN (fbG pm k))) ∧ (ck ≠ 0 → tn ck = nI (tnN (fbG pm ck)))
def MBd (ln bk bt ck ct : Nat) : Prop := ln ≤ 800 ∧ (bk = 0 ∧ bt = 0 ∨ 1 ≤ bk ∧ bk ≤ 48 ∧ 1 ≤ bt ∧ bt ≤ 16) ∧ (ck = 0 ∧ ct = 0 ∨ 1 ≤ ck ∧ ck ≤ 48 ∧ 1 ≤ ct ∧ ct ≤ 16)
def MSt (ca : Nat → ClassId) (ad : Nat → Nat) (g : Nat → va_E) (pm : Nat → Nat) (cd : Int32) (ln : Nat) (th : Nat → Nat) (bk bt : Nat) (IN : Nat → Nat → Nat) (ck ct : Nat) (CG : Nat → Nat → Nat) (cn pk : Nat) (tp : Nat → Int32) (rw : Nat) (gt : Bool) (M : Nat → Nat → Nat) (pv ro : Nat → Nat) (tn : Nat → Int32) (bb : Nat → Nat) : Prop :=
  (g 198 = .inr (8, [.int (cd), .ref (ad 199), .int (nI ln), .ref (ad 200), .int (nI bk), .int (nI bt), .ref (ad 201), .int (nI ck), .int (nI ct), .ref (ad 202), .int (nI cn), .int (nI pk), .ref (ad 203), .ref (ad 204), .int (nI rw), .ref (ad 205), .ref (ad 206), .int (bI (gt)), .ref (ad 207)]) ∧ g 199 = ba ca 800 tp ∧ g 200 = ia ca 49 tn ∧ g 201 = na ca 944 (fi IN) ∧ g 202 = na ca 4425 (fl CG) ∧ g 203 = na ca 9000 (fl M) ∧ g 204 = na ca 120 pv ∧ g 205 = na ca 75 ro ∧ g 206 = na ca 255 pm ∧ g 207 = na ca 16 bb) ∧
  MBy (rw, M, pv, ro) ∧ By bb ∧ (∀ r, By (CG r)) ∧ (∀ r, By (IN r)) ∧ TnOk pm tn ck ∧ (gt = true → ck ≠ 0 ∧ KmOK (ck + 11) (VV pm ck CG) (11 + cn) (rw, M, pv, ro)) ∧ MBd ln bk bt ck ct ∧ (ck ≠ 0 → Gr (ck + 11) (VV pm ck CG) (11 + cn)) ∧ By th ∧ (∀ j, j < ln → tp j &&& 255 = nI (th j))
def MInv (ca : Nat → ClassId) (ad : Nat → Nat) (g : Nat → va_E) (pm : Nat → Nat) (cd : Int32) (ln : Nat) (th : Nat → Nat) (bk bt : Nat) (IN : Nat → Nat → Nat) (ck ct : Nat) (CG : Nat → Nat → Nat) (cn pk : Nat) : Prop := ∃ tp rw gt M pv ro tn bb, MSt ca ad g pm cd ln th bk bt IN ck ct CG cn pk tp rw gt M pv ro tn bb
theorem KmOK_congr {L n : Nat} {V V' : Nat → Nat → Nat} {u : MS} (hL : L ≤ 59) (h : ∀ i, i < n → ∀ c, c < 75 → V i c = V' i c) (hk : KmOK L V n u) : KmOK L V' n u :=
  ⟨hk.1, hk.2.1, fun T hT v hv => (hk.2.2 T hT v hv).trans ⟨KS_congr (fun i hi c hc => h i hi c (rel_lt hL hT hc)) (fun _ _ => rfl), KS_congr (fun i hi c hc => (h i hi c (rel_lt hL hT hc)).symm) (fun _ _ => rfl)⟩⟩
theorem gr_le {pm : Nat → Nat} {k n : Nat} {X : Nat → Nat → Nat} (hp : PmOk pm) (hk : k ≤ 48) (hX : ∀ i, i < n → By (X i)) (hg : Gr (k + 11) (VV pm k X) (11 + n)) : n ≤ k := by
  have h := km_vv (u := (0, fun _ _ => 0, fun _ => 0, fun _ => 0)) hp hk ⟨fun r c => by show 0 < 256; decide, fun c => by show 0 < 256; decide, fun r => by show 0 < 75; decide⟩ hX hg
  have h1 := bs_le h.1.2.1
  have h2 := h.1.1
  omega
theorem ga_ok {pm : Nat → Nat} {ck cn : Nat} {CG : Nat → Nat → Nat} {gt : Bool} {u : MS} (hp : PmOk pm) (hk : ck ≤ 48) (hu : MBy u) (hCG : ∀ r, By (CG r)) (hg : Gr (ck + 11) (VV pm ck CG) (11 + cn)) (h : gt = true → KmOK (ck + 11) (VV pm ck CG) (11 + cn) u) : KmOK (ck + 11) (VV pm ck CG) (11 + cn) (gaS pm ck cn CG gt u) ∧ MBy (gaS pm ck cn CG gt u) := by
  cases gt with
  | true => rw [gaS_t rfl]; exact ⟨h rfl, hu⟩
  | false => rw [gaS_f rfl]; exact km_vv hp hk hu (fun i _ => hCG i) hg
noncomputable def lnM (pm : Nat → Nat) (ck ct x : Nat) (bb : Nat → Nat) : Nat → Nat := vlV (pkR ck x (tnN (fbG pm ck))) bb ct
noncomputable def CgN (pm : Nat → Nat) (ck ct : Nat) (CG : Nat → Nat → Nat) (cn x : Nat) (bb : Nat → Nat) : Nat → Nat → Nat := va_up CG cn (onRow (lnM pm ck ct x bb) (CG cn))
theorem vlV_0 (Rw bb : Nat → Nat) : vlV Rw bb 0 = Rw := by funext c; unfold vlV; rw [if_neg (by omega)]
theorem vlV_s (Rw bb : Nat → Nat) (i : Nat) : va_up (vlV Rw bb i) (59 + i) (bb i) = vlV Rw bb (i + 1) := by
  funext c
  unfold vlV
  by_cases hc : c = 59 + i
  · subst hc; rw [va_up_self, if_pos (by omega), show 59 + i - 59 = i by omega]
  · rw [va_up_ne _ _ hc]
    by_cases h : 59 ≤ c ∧ c < 59 + i
    · rw [if_pos h, if_pos (by omega)]
    · rw [if_neg h, if_neg (by omega)]
theorem by_vlV {Rw bb : Nat → Nat} {T : Nat} (h1 : By Rw) (h2 : By bb) : By (vlV Rw bb T) := fun c => by
  unfold vlV
  split
  · exact h2 _
  · exact h1 _
theorem by_lnM (pm : Nat → Nat) (ck ct x : Nat) {bb : Nat → Nat} (h : By bb) : By (lnM pm ck ct x bb) := by_vlV (by_pkR _ _ _) h
theorem by_CgN {pm : Nat → Nat} {ck ct : Nat} {CG : Nat → Nat → Nat} {cn x : Nat} {bb : Nat → Nat} (h : ∀ r, By (CG r)) (hb : By bb) : ∀ r, By (CgN pm ck ct CG cn x bb r) := By2.up' h (by_prt (fun c _ => by_lnM pm ck ct x hb c) (h cn))
theorem VV_old {pm : Nat → Nat} {ck ct : Nat} {CG : Nat → Nat → Nat} {cn x : Nat} {bb : Nat → Nat} : ∀ i, i < 11 + cn → ∀ c, c < 75 → VV pm ck CG i c = VV pm ck (CgN pm ck ct CG cn x bb) i c := fun i hi c _ => by
  unfold VV CgN
  split
  · rfl
  · rw [va_up_ne _ _ (by omega)]
theorem VV_new {pm : Nat → Nat} {ck ct : Nat} {CG : Nat → Nat → Nat} {cn x : Nat} {bb : Nat → Nat} : VV pm ck (CgN pm ck ct CG cn x bb) (11 + cn) = onRow (lnM pm ck ct x bb) (CG cn) := by
  rw [VV_x]; unfold CgN; rw [va_up_self]
/-- what comes of a line: 1 it grows, 0 it follows, -1 it contradicts -/
def CmR (pm : Nat → Nat) (ck ct : Nat) (CG : Nat → Nat → Nat) (cn pk : Nat) (x : Nat) (bb : Nat → Nat) (r : Int32) (cn1 pk1 : Nat) : Prop :=
  (r = 1 ∧ ¬ KS (ck + 11) 0 (VV pm ck (CgN pm ck ct CG cn x bb)) (11 + cn) (VV pm ck (CgN pm ck ct CG cn x bb) (11 + cn)) ∧ cn1 = cn + 1 ∧ pk1 = pk + 1) ∨
  (r = 0 ∧ (KS (ck + 11) 0 (VV pm ck (CgN pm ck ct CG cn x bb)) (11 + cn) (VV pm ck (CgN pm ck ct CG cn x bb) (11 + cn)) ∧ KS (ck + 11) ct (VV pm ck (CgN pm ck ct CG cn x bb)) (11 + cn) (VV pm ck (CgN pm ck ct CG cn x bb) (11 + cn))) ∧ cn1 = cn ∧ pk1 = pk + 1) ∨
  (r = -1 ∧ (KS (ck + 11) 0 (VV pm ck (CgN pm ck ct CG cn x bb)) (11 + cn) (VV pm ck (CgN pm ck ct CG cn x bb) (11 + cn)) ∧ ¬ KS (ck + 11) ct (VV pm ck (CgN pm ck ct CG cn x bb)) (11 + cn) (VV pm ck (CgN pm ck ct CG cn x bb) (11 + cn))) ∧ cn1 = cn ∧ pk1 = pk)
theorem cm_pure {pm : Nat → Nat} {ck ct cn x : Nat} {CG : Nat → Nat → Nat} {bb : Nat → Nat} {u : MS} (hp : PmOk pm) (hk : ck ≤ 48) (hct : ct ≤ 16) (hu : MBy u) (hCG : ∀ r, By (CG r)) (hbb : By bb) (hg : Gr (ck + 11) (VV pm ck CG) (11 + cn)) (h : KmOK (ck + 11) (VV pm ck CG) (11 + cn) u) :
    MBy (mPut (ck + 11) (lnM pm ck ct x bb) u) ∧
    (mPutB (ck + 11) (lnM pm ck ct x bb) u = true → ¬ KS (ck + 11) 0 (VV pm ck (CgN pm ck ct CG cn x bb)) (11 + cn) (VV pm ck (CgN pm ck ct CG cn x bb) (11 + cn)) ∧ KmOK (ck + 11) (VV pm ck (CgN pm ck ct CG cn x bb)) (11 + (cn + 1)) (mPut (ck + 11) (lnM pm ck ct x bb) u) ∧ Gr (ck + 11) (VV pm ck (CgN pm ck ct CG cn x bb)) (11 + (cn + 1))) ∧
    (mPutB (ck + 11) (lnM pm ck ct x bb) u = false → KS (ck + 11) 0 (VV pm ck (CgN pm ck ct CG cn x bb)) (11 + cn) (VV pm ck (CgN pm ck ct CG cn x bb) (11 + cn)) ∧ KmOK (ck + 11) (VV pm ck (CgN pm ck ct CG cn x bb)) (11 + cn) (mPut (ck + 11) (lnM pm ck ct x bb) u) ∧ Gr (ck + 11) (VV pm ck (CgN pm ck ct CG cn x bb)) (11 + cn) ∧
      ((∀ i, i < ct → (mPut (ck + 11) (lnM pm ck ct x bb) u).2.2.2 (59 + i) = 0) ↔ KS (ck + 11) ct (VV pm ck (CgN pm ck ct CG cn x bb)) (11 + cn) (VV pm ck (CgN pm ck ct CG cn x bb) (11 + cn)))) := by
  have hL : ck + 11 ≤ 59 := by omega
  have hk2 : KmOK (ck + 11) (VV pm ck (CgN pm ck ct CG cn x bb)) (11 + cn) u := KmOK_congr hL VV_old h
  have hg2 : Gr (ck + 11) (VV pm ck (CgN pm ck ct CG cn x bb)) (11 + cn) := Gr_congr (fun i hi c hc => VV_old i hi c (by omega)) hg
  have hV : By (VV pm ck (CgN pm ck ct CG cn x bb) (11 + cn)) := by rw [VV_new]; exact by_prt (fun c _ => by_lnM pm ck ct x hbb c) (hCG cn)
  have e1 : mPut (ck + 11) (VV pm ck (CgN pm ck ct CG cn x bb) (11 + cn)) u = mPut (ck + 11) (lnM pm ck ct x bb) u := by unfold mPut; rw [VV_new, onRow_on]
  have e2 : mPutB (ck + 11) (VV pm ck (CgN pm ck ct CG cn x bb) (11 + cn)) u = mPutB (ck + 11) (lnM pm ck ct x bb) u := by unfold mPutB; rw [VV_new, onRow_on]
  refine ⟨mPut_by hL (by_lnM pm ck ct x hbb) hu, fun hB => ?_, fun hB => ?_⟩
  · have hn : ¬ KS (ck + 11) 0 (VV pm ck (CgN pm ck ct CG cn x bb)) (11 + cn) (VV pm ck (CgN pm ck ct CG cn x bb) (11 + cn)) := fun hks => by
      have := (mPut_no hL hu hV hk2 hks).1
      rw [e2, hB] at this
      cases this
    have hy := (mPut_yes hL hu hV hk2 hn).2
    rw [e1] at hy
    refine ⟨hn, hy, fun i hi => ?_⟩
    by_cases hin : i = 11 + cn
    · rw [hin]; exact hn
    · exact hg2 i (by omega)
  · have hks : KS (ck + 11) 0 (VV pm ck (CgN pm ck ct CG cn x bb)) (11 + cn) (VV pm ck (CgN pm ck ct CG cn x bb) (11 + cn)) := Classical.byContradiction (fun hn => by
      have := (mPut_yes hL hu hV hk2 hn).1
      rw [e2, hB] at this
      cases this)
    obtain ⟨_, h2, h3⟩ := mPut_no hL hu hV hk2 hks
    rw [e1] at h2 h3
    refine ⟨hks, h2, hg2, ?_⟩
    rw [← hk2.2.2 ct hct _ hV]
    have hz0 := (hk2.2.2 0 (by omega) _ hV).mpr hks
    constructor
    · intro h4 c hc
      rcases hc with hc | hc
      · exact hz0 c (Or.inl hc)
      · have := h4 (c - 59) (by omega)
        rw [show 59 + (c - 59) = c by omega, h3 c (by omega)] at this
        exact this
    · intro h4 i hi
      rw [h3 (59 + i) (by omega)]
      exact h4 (59 + i) (Or.inr ⟨by omega, by omega⟩)

abbrev rm_X8_comes : Room := { frames := 6, cells := 0, slots := 0, locals := 141 }

set_option maxHeartbeats 800000 in
set_option maxRecDepth 100000 in
/-- comes -/
theorem c_X8_comes {l : Launch} {D : va_G} {ca : Nat → ClassId} {tB tS R : Nat} {ad : Nat → Nat} {g : Nat → va_E} {sz : Nat} (hR : 207 < R) (pm : Nat → Nat) (hpm : PmOk pm) (hT : ∀ k, 1 ≤ k → k ≤ 48 → tnN (fbG pm k) < 1000) (cd : Int32) (ln : Nat) (th : Nat → Nat) (bk bt : Nat) (IN : Nat → Nat → Nat) (ck ct : Nat) (CG : Nat → Nat → Nat) (cn pk : Nat) (tp : Nat → Int32) (rw : Nat) (gt : Bool) (M : Nat → Nat → Nat) (pv ro : Nat → Nat) (tn : Nat → Int32) (bb : Nat → Nat) (hS : MSt ca ad g pm cd ln th bk bt IN ck ct CG cn pk tp rw gt M pv ro tn bb) (hck : 1 ≤ ck ∧ ck ≤ 48) (x : Nat) (hx : x < 65536) : MI l yX8_comes cX8_comes 3 .int rm_X8_comes D ca tB tS R ad g sz [.ref (ad 198), .int (nI x)] (fun r g1 => (∀ z, z < 198 ∨ 207 < z → g1 z = g z) ∧ ∃ cn1 pk1, CmR pm ck ct CG cn pk x bb r cn1 pk1 ∧ MInv ca ad g1 pm cd ln th bk bt IN ck ct (CgN pm ck ct CG cn x bb) cn1 pk1) := by
  refine m_startI (by decide +kernel) (Nat.le_of_ble_eq_true rfl) (fun p e s m args below meth c ls Q hsz C hl F hw hret => ?_)
  have hl : lv_has ls 3 [(0, .ref (ad 198)), (1, .int (nI x))] := hl
  generalize s.heap = H at hw ⊢
  generalize ([] : List Loc) = locs at hw ⊢
  obtain ⟨⟨q198, q199, q200, q201, q202, q203, q204, q205, q206, q207⟩, hmb, hbb, hCG, hIN, htn, hgt, hbd, hGr, hth⟩ := hS
  have hcn := gr_le hpm hck.2 (fun i _ => hCG i) (hGr (by omega))
  have hbd2 := hbd.2.2
  have hT1 := hT ck hck.1 hck.2
  refine lv_aload_n C.1 C.2.1 dX8_comes_0 rfl (lv_at hl 0 rfl) ?_
  refine lv_aload_n C.1 C.2.1 dX8_comes_1 rfl (lv_at hl 0 rfl) ?_
  refine k_get C F hw (198) (by omega) q198 rfl in_X8 7 (by decide) fl_X8_129 rfl dX8_comes_2 ?_
  refine k_Vi C F hw (i := 198) (As := [.int (nI ck)]) (rest := []) (c_X8_turnOf hR cd ln bk bt ck ct cn pk rw gt q198 ro q205 pm q206 M pv q203 q204 hmb.1 hmb.2.1 hmb.2.2 hpm (fbG pm) (fun k t u _ h2 _ hu => fb_model hpm h2 hu) hT tn q200 ck hck (htn.1 ck hck.1 hck.2)) (by omega) q198 rfl (cwV _ C.2.2.2.2 gm_X8_110 rfl rfl rfl cd_X8_turnOf ⟨by decide, by decide⟩) hl.1 rfl (Nat.le_of_ble_eq_true rfl) dX8_comes_5 ⟨by decide, by decide⟩ (fun r1 g2 H locs hp hw => ?_)
  obtain ⟨hr9, hs4, u3, gt3, tn3, hmb3, e983, e033, e043, e053, e003, htk3, hto3, hgo3⟩ := hp
  subst hr9
  have e5 : g2 (199) = ba ca 800 (tp) := (hs4 _ (by omega)).trans q199
  have e6 : g2 (201) = na ca 944 (fi IN) := (hs4 _ (by omega)).trans q201
  have e7 : g2 (202) = na ca 4425 (fl CG) := (hs4 _ (by omega)).trans q202
  have e8 : g2 (206) = na ca 255 (pm) := (hs4 _ (by omega)).trans q206
  have e9 : g2 (207) = na ca 16 (bb) := (hs4 _ (by omega)).trans q207
  have hs10 : ∀ z, (z < 198 ∨ 207 < z) → g2 z = g z := fun z hz => hs4 z (by omega)
  have htn3 : TnOk pm tn3 ck := ⟨fun k9 h1 h2 => by by_cases h9 : k9 = ck; (rw [h9]; exact Or.inr htk3); (rw [hto3 k9 h9]; exact htn.1 k9 h1 h2), fun h1 => by by_cases h9 : ck = ck; (rw [h9]; exact htk3); (rw [hto3 _ h9]; exact htn.2 h1)⟩
  have hgt3 : gt3 = true → ck ≠ 0 ∧ KmOK (ck + 11) (VV pm ck CG) (11 + cn) u3 := fun h => by
    rcases hgo3 with h9 | ⟨h9, h10, h11, h12⟩
    · rw [h9] at h; cases h
    · rw [h] at h9; have h13 := hgt h9.symm; refine ⟨h13.1, ?_⟩; unfold KmOK; rw [h10, h11, h12]; exact h13.2
  refine lv_pop C.1 C.2.1 dX8_comes_8 rfl ?_
  refine lv_aload_n C.1 C.2.1 dX8_comes_9 rfl (lv_at hl 0 rfl) ?_
  refine k_Vv C F hw (i := 198) (As := []) (rest := []) (c_X8_gather hR cd ln bk bt ck ct cn pk u3.1 gt3 e983 u3.2.2.2 e053 pm e8 u3.2.1 u3.2.2.1 e033 e043 hmb3.1 hmb3.2.1 hmb3.2.2 hpm CG e7 hCG hck (by omega)) (by omega) e983 rfl (cwV _ C.2.2.2.2 gm_X8_141 rfl rfl rfl cd_X8_gather ⟨by decide, by decide⟩) hl.1 rfl (Nat.le_of_ble_eq_true rfl) dX8_comes_10 ⟨by decide, by decide⟩ (fun g12 H locs hp hw => ?_)
  obtain ⟨hkm13, hmb13⟩ := ga_ok (gt := gt3) (u := (u3.1, u3.2.1, u3.2.2.1, u3.2.2.2)) hpm hck.2 hmb3 hCG (hGr (by omega)) (fun h => (hgt3 h).2)
  generalize gaS pm ck cn CG gt3 (u3.1, u3.2.1, u3.2.2.1, u3.2.2.2) = v13 at hp hkm13 hmb13
  obtain ⟨hs14, e9813, e0313, e0413, e0513⟩ := hp
  have e15 : g12 (199) = ba ca 800 (tp) := (hs14 _ (by omega)).trans e5
  have e16 : g12 (201) = na ca 944 (fi IN) := (hs14 _ (by omega)).trans e6
  have e17 : g12 (202) = na ca 4425 (fl CG) := (hs14 _ (by omega)).trans e7
  have e18 : g12 (206) = na ca 255 (pm) := (hs14 _ (by omega)).trans e8
  have e19 : g12 (207) = na ca 16 (bb) := (hs14 _ (by omega)).trans e9
  have e20 : g12 (200) = ia ca 49 (tn3) := (hs14 _ (by omega)).trans e003
  have hs21 : ∀ z, (z < 198 ∨ 207 < z) → g12 z = g z := fun z hz => (hs14 z (by omega)).trans (hs10 z hz)
  have hgt13 : true = true → ck ≠ 0 ∧ KmOK (ck + 11) (VV pm ck CG) (11 + cn) v13 := fun _ => ⟨by omega, hkm13⟩
  refine lv_aload_n C.1 C.2.1 dX8_comes_13 rfl (lv_at hl 0 rfl) ?_
  refine lv_aload_n C.1 C.2.1 dX8_comes_14 rfl (lv_at hl 0 rfl) ?_
  refine k_get C F hw (198) (by omega) e9813 rfl in_X8 7 (by decide) fl_X8_129 rfl dX8_comes_15 ?_
  refine lv_aload_n C.1 C.2.1 dX8_comes_18 rfl (lv_at hl 0 rfl) ?_
  refine k_get C F hw (198) (by omega) e9813 rfl in_X8 3 (by decide) fl_X8_13 rfl dX8_comes_19 ?_
  refine lv_aload_n C.1 C.2.1 dX8_comes_22 rfl (lv_at hl 0 rfl) ?_
  refine k_get C F hw (198) (by omega) e9813 rfl in_X8 7 (by decide) fl_X8_129 rfl dX8_comes_23 ?_
  refine k_ialdR C F hw (200) (by omega) e20 (ck) (by omega) (by decide) dX8_comes_26 ?_
  refine k_ti (x' := nI (tnN (fbG pm ck))) (htn3.2 (by omega)) ?_
  refine lv_iload_n C.1 C.2.1 dX8_comes_27 rfl (lv_at hl 1 rfl) ?_
  refine k_Vi C F hw (i := 198) (As := [.int (nI ck), .int (nI (tnN (fbG pm ck))), .int (nI x)]) (rest := []) (c_X8_packet hR cd ln bk bt ck ct cn pk v13.1 true e9813 v13.2.2.2 e0513 ck x (tnN (fbG pm ck)) hck hx (by omega)) (by omega) e9813 rfl (cwV _ C.2.2.2.2 gm_X8_99 rfl rfl rfl cd_X8_packet ⟨by decide, by decide⟩) hl.1 rfl (Nat.le_of_ble_eq_true rfl) dX8_comes_28 ⟨by decide, by decide⟩ (fun r22 g23 H locs hp hw => ?_)
  obtain ⟨hr9, hp⟩ := hp
  subst hr9
  obtain ⟨hk24, e25⟩ := hp
  have e26 : g23 (199) = ba ca 800 (tp) := (hk24 _ (by omega)).trans e15
  have e27 : g23 (201) = na ca 944 (fi IN) := (hk24 _ (by omega)).trans e16
  have e28 : g23 (202) = na ca 4425 (fl CG) := (hk24 _ (by omega)).trans e17
  have e29 : g23 (206) = na ca 255 (pm) := (hk24 _ (by omega)).trans e18
  have e30 : g23 (207) = na ca 16 (bb) := (hk24 _ (by omega)).trans e19
  have e31 : g23 (200) = ia ca 49 (tn3) := (hk24 _ (by omega)).trans e20
  have e32 : g23 (198) = .inr (8, [.int (cd), .ref (ad 199), .int (nI ln), .ref (ad 200), .int (nI bk), .int (nI bt), .ref (ad 201), .int (nI ck), .int (nI ct), .ref (ad 202), .int (nI cn), .int (nI pk), .ref (ad 203), .ref (ad 204), .int (nI (v13.1)), .ref (ad 205), .ref (ad 206), .int (bI (true)), .ref (ad 207)]) := (hk24 _ (by omega)).trans e9813
  have e33 : g23 (203) = na ca 9000 (fl v13.2.1) := (hk24 _ (by omega)).trans e0313
  have e34 : g23 (204) = na ca 120 (v13.2.2.1) := (hk24 _ (by omega)).trans e0413
  have hs35 : ∀ z, (z < 198 ∨ 207 < z) → g23 z = g z := fun z hz => (hk24 z (by omega)).trans (hs21 z hz)
  refine lv_pop C.1 C.2.1 dX8_comes_31 rfl ?_
  refine k_icn C 0 dX8_comes_32 (by decide) ?_
  refine lv_istore_n (lv' := [(2, .int (nI 0)), (0, .ref (ad 198)), (1, .int (nI x))]) C.1 C.2.1 dX8_comes_33 rfl hl (by decide) rfl (fun ls hl => ?_)
  have loop34 : ∀ (fuel : Nat) (i : Nat) (f1 : Nat → Nat) (gL : Nat → va_E) (H : Heap) (locs : List Loc) (ls : Array Slot), ((ct - i) + 1 ≤ fuel) → (i ≤ ct) → (f1 = onRow (vlV (pkR ck x (tnN (fbG pm ck))) bb i) v13.2.2.2) → (∀ z, (z < 198 ∨ 207 < z) → gL z = g z) → (gL (198) = .inr (8, [.int (cd), .ref (ad 199), .int (nI ln), .ref (ad 200), .int (nI bk), .int (nI bt), .ref (ad 201), .int (nI ck), .int (nI ct), .ref (ad 202), .int (nI cn), .int (nI pk), .ref (ad 203), .ref (ad 204), .int (nI (v13.1)), .ref (ad 205), .ref (ad 206), .int (bI (true)), .ref (ad 207)])) → (gL (199) = ba ca 800 (tp)) → (gL (200) = ia ca 49 (tn3)) → (gL (201) = na ca 944 (fi IN)) → (gL (202) = na ca 4425 (fl CG)) → (gL (203) = na ca 9000 (fl v13.2.1)) → (gL (204) = na ca 120 (v13.2.2.1)) → (gL (205) = na ca 75 (f1)) → (gL (206) = na ca 255 (pm)) → (gL (207) = na ca 16 (bb)) → Wd D (AA R ad sz) s R ad gL H locs → lv_has ls 3 [(0, .ref (ad 198)), (1, .int (nI x)), (2, .int (nI i))] → W p l e rm_X8_comes s m args below meth c H locs 0 0 Q (F0 m 34 ls []) := by
    intro fuel
    induction fuel with
    | zero =>
      intro i f1 gL H locs ls hfu34
      exact absurd hfu34 (by omega)
    | succ fuel34 ih34 =>
      intro i f1 gL H locs ls hfu34 hi hf1 hsL34 eL34_0 eL34_1 eL34_2 eL34_3 eL34_4 eL34_5 eL34_6 eL34_7 eL34_8 eL34_9 hw hl
      refine lv_iload_n C.1 C.2.1 dX8_comes_34 rfl (lv_at hl 2 rfl) ?_
      refine lv_aload_n C.1 C.2.1 dX8_comes_35 rfl (lv_at hl 0 rfl) ?_
      refine k_get C F hw (198) (by omega) eL34_0 rfl in_X8 8 (by decide) fl_X8_132 rfl dX8_comes_36 ?_
      refine k_ige (tgt := 63) C dX8_comes_39 (by decide) (by omega) (by omega) (fun hc39 => ?_) (fun hc39 => ?_)
      · have e36 : gL (205) = na ca 75 (onRow (lnM pm ck ct x bb) v13.2.2.2) := by rw [eL34_7, hf1, show i = ct by omega, lnM]
        refine k_icn C 0 dX8_comes_63 (by decide) ?_
        refine lv_istore_n (lv' := [(2, .int (nI 0)), (0, .ref (ad 198)), (1, .int (nI x))]) C.1 C.2.1 dX8_comes_64 rfl hl (by decide) rfl (fun ls hl => ?_)
        have loop65 : ∀ (fuel : Nat) (j : Nat) (C1 : Nat → Nat → Nat) (gL : Nat → va_E) (H : Heap) (locs : List Loc) (ls : Array Slot), ((75 - j) + 1 ≤ fuel) → (j ≤ 75) → (C1 = va_up CG cn (prt j (lnM pm ck ct x bb) (CG cn))) → (∀ z, (z < 198 ∨ 207 < z) → gL z = g z) → (gL (198) = .inr (8, [.int (cd), .ref (ad 199), .int (nI ln), .ref (ad 200), .int (nI bk), .int (nI bt), .ref (ad 201), .int (nI ck), .int (nI ct), .ref (ad 202), .int (nI cn), .int (nI pk), .ref (ad 203), .ref (ad 204), .int (nI (v13.1)), .ref (ad 205), .ref (ad 206), .int (bI (true)), .ref (ad 207)])) → (gL (199) = ba ca 800 (tp)) → (gL (200) = ia ca 49 (tn3)) → (gL (201) = na ca 944 (fi IN)) → (gL (202) = na ca 4425 (fl C1)) → (gL (203) = na ca 9000 (fl v13.2.1)) → (gL (204) = na ca 120 (v13.2.2.1)) → (gL (205) = na ca 75 (onRow (lnM pm ck ct x bb) v13.2.2.2)) → (gL (206) = na ca 255 (pm)) → (gL (207) = na ca 16 (bb)) → Wd D (AA R ad sz) s R ad gL H locs → lv_has ls 3 [(0, .ref (ad 198)), (1, .int (nI x)), (2, .int (nI j))] → W p l e rm_X8_comes s m args below meth c H locs 0 0 Q (F0 m 65 ls []) := by
          intro fuel
          induction fuel with
          | zero =>
            intro j C1 gL H locs ls hfu65
            exact absurd hfu65 (by omega)
          | succ fuel65 ih65 =>
            intro j C1 gL H locs ls hfu65 hj hC1 hsL65 eL65_0 eL65_1 eL65_2 eL65_3 eL65_4 eL65_5 eL65_6 eL65_7 eL65_8 eL65_9 hw hl
            refine lv_iload_n C.1 C.2.1 dX8_comes_65 rfl (lv_at hl 2 rfl) ?_
            refine k_bip C 75 dX8_comes_66 (by decide) ?_
            refine k_ige (tgt := 97) C dX8_comes_68 (by decide) (by omega) (by omega) (fun hc68 => ?_) (fun hc68 => ?_)
            · have e37 : gL (202) = na ca 4425 (fl (CgN pm ck ct CG cn x bb)) := by rw [eL65_4, hC1, show j = 75 by omega, ← onRow_prt, ← CgN]
              obtain ⟨hP1, hP2, hP3⟩ := cm_pure (x := x) (ct := ct) hpm hck.2 (by omega) hmb13 hCG hbb (hGr (by omega)) hkm13
              have hv1 : v13.1 = 11 + cn := hkm13.1
              refine lv_aload_n C.1 C.2.1 dX8_comes_97 rfl (lv_at hl 0 rfl) ?_
              refine lv_aload_n C.1 C.2.1 dX8_comes_98 rfl (lv_at hl 0 rfl) ?_
              refine k_get C F hw (198) (by omega) eL65_0 rfl in_X8 7 (by decide) fl_X8_129 rfl dX8_comes_99 ?_
              refine k_bip C 11 dX8_comes_102 (by decide) ?_
              refine k_add C dX8_comes_104 ?_
              refine k_Vi C F hw (i := 198) (As := [.int (nI (ck + 11))]) (rest := []) (c_X8_isAdded hR cd ln bk bt ck ct cn pk v13.1 true eL65_0 (onRow (lnM pm ck ct x bb) v13.2.2.2) eL65_7 v13.2.1 v13.2.2.1 eL65_5 eL65_6 hmb13.1 (by_prt (fun c _ => by_lnM pm ck ct x hbb c) hmb13.2.1) hmb13.2.2 (by omega) (ck + 11) (by omega)) (by omega) eL65_0 rfl (cwV _ C.2.2.2.2 gm_X8_92 rfl rfl rfl cd_X8_isAdded ⟨by decide, by decide⟩) hl.1 rfl (Nat.le_of_ble_eq_true rfl) dX8_comes_105 ⟨by decide, by decide⟩ (fun r38 g39 H locs hp hw => ?_)
              obtain ⟨hr9, hs40, e41, e42, e43, e44⟩ := hp
              subst hr9
              have e45 : g39 (199) = ba ca 800 (tp) := (hs40 _ (by omega)).trans eL65_1
              have e46 : g39 (201) = na ca 944 (fi IN) := (hs40 _ (by omega)).trans eL65_3
              have e47 : g39 (202) = na ca 4425 (fl (CgN pm ck ct CG cn x bb)) := (hs40 _ (by omega)).trans e37
              have e48 : g39 (206) = na ca 255 (pm) := (hs40 _ (by omega)).trans eL65_8
              have e49 : g39 (207) = na ca 16 (bb) := (hs40 _ (by omega)).trans eL65_9
              have e50 : g39 (200) = ia ca 49 (tn3) := (hs40 _ (by omega)).trans eL65_2
              have hs51 : ∀ z, (z < 198 ∨ 207 < z) → g39 z = g z := fun z hz => (hs40 z (by omega)).trans (hsL65 z hz)
              refine k_ti (x' := bI (mPutB (ck + 11) (lnM pm ck ct x bb) v13)) rfl ?_
              obtain ⟨a, ha⟩ : ∃ a, a = (mPut (ck + 11) (lnM pm ck ct x bb) v13) := ⟨_, rfl⟩
              have e56 : g39 (198) = .inr (8, [.int (cd), .ref (ad 199), .int (nI ln), .ref (ad 200), .int (nI bk), .int (nI bt), .ref (ad 201), .int (nI ck), .int (nI ct), .ref (ad 202), .int (nI cn), .int (nI pk), .ref (ad 203), .ref (ad 204), .int (nI (a.1)), .ref (ad 205), .ref (ad 206), .int (bI (true)), .ref (ad 207)]) := by rw [ha]; exact e41
              have e57 : g39 (203) = na ca 9000 (fl a.2.1) := by rw [ha]; exact e42
              have e58 : g39 (204) = na ca 120 (a.2.2.1) := by rw [ha]; exact e43
              have e59 : g39 (205) = na ca 75 (a.2.2.2) := by rw [ha]; exact e44
              rw [← ha] at hP1 hP2 hP3
              refine k_beq (tgt := 133) C dX8_comes_108 (by decide) (fun hc108 => ?_) (fun hc108 => ?_)
              · obtain ⟨hQ1, hQ2, hQ3, hQ4⟩ := hP3 hc108
                refine k_icn C 0 dX8_comes_133 (by decide) ?_
                refine lv_istore_n (lv' := [(2, .int (nI 0)), (0, .ref (ad 198)), (1, .int (nI x))]) C.1 C.2.1 dX8_comes_134 rfl hl (by decide) rfl (fun ls hl => ?_)
                have loop135 : ∀ (fuel : Nat) (i : Nat) (gL : Nat → va_E) (H : Heap) (locs : List Loc) (ls : Array Slot), ((ct - i) + 1 ≤ fuel) → (i ≤ ct) → (∀ j, j < i → a.2.2.2 (59 + j) = 0) → (∀ z, (z < 198 ∨ 207 < z) → gL z = g z) → (gL (198) = .inr (8, [.int (cd), .ref (ad 199), .int (nI ln), .ref (ad 200), .int (nI bk), .int (nI bt), .ref (ad 201), .int (nI ck), .int (nI ct), .ref (ad 202), .int (nI cn), .int (nI pk), .ref (ad 203), .ref (ad 204), .int (nI (a.1)), .ref (ad 205), .ref (ad 206), .int (bI (true)), .ref (ad 207)])) → (gL (199) = ba ca 800 (tp)) → (gL (200) = ia ca 49 (tn3)) → (gL (201) = na ca 944 (fi IN)) → (gL (202) = na ca 4425 (fl (CgN pm ck ct CG cn x bb))) → (gL (203) = na ca 9000 (fl a.2.1)) → (gL (204) = na ca 120 (a.2.2.1)) → (gL (205) = na ca 75 (a.2.2.2)) → (gL (206) = na ca 255 (pm)) → (gL (207) = na ca 16 (bb)) → Wd D (AA R ad sz) s R ad gL H locs → lv_has ls 3 [(0, .ref (ad 198)), (1, .int (nI x)), (2, .int (nI i))] → W p l e rm_X8_comes s m args below meth c H locs 0 0 Q (F0 m 135 ls []) := by
                  intro fuel
                  induction fuel with
                  | zero =>
                    intro i gL H locs ls hfu135
                    exact absurd hfu135 (by omega)
                  | succ fuel135 ih135 =>
                    intro i gL H locs ls hfu135 hi hz hsL135 eL135_0 eL135_1 eL135_2 eL135_3 eL135_4 eL135_5 eL135_6 eL135_7 eL135_8 eL135_9 hw hl
                    refine lv_iload_n C.1 C.2.1 dX8_comes_135 rfl (lv_at hl 2 rfl) ?_
                    refine lv_aload_n C.1 C.2.1 dX8_comes_136 rfl (lv_at hl 0 rfl) ?_
                    refine k_get C F hw (198) (by omega) eL135_0 rfl in_X8 8 (by decide) fl_X8_132 rfl dX8_comes_137 ?_
                    refine k_ige (tgt := 163) C dX8_comes_140 (by decide) (by omega) (by omega) (fun hc140 => ?_) (fun hc140 => ?_)
                    · refine lv_aload_n C.1 C.2.1 dX8_comes_163 rfl (lv_at hl 0 rfl) ?_
                      refine lv_dup C.1 C.2.1 dX8_comes_164 rfl ?_
                      refine k_get C F hw (198) (by omega) eL135_0 rfl in_X8 11 (by decide) fl_X8_138 rfl dX8_comes_165 ?_
                      refine k_icn C 1 dX8_comes_168 (by decide) ?_
                      refine k_add C dX8_comes_169 ?_
                      refine k_put C F hw (198) (by omega) eL135_0 rfl in_X8 tyX8_ok nmX8 11 (by decide) fl_X8_138 rfl (v := .int (nI (pk + 1))) rfl rfl (Nat.le_of_ble_eq_true rfl) dX8_comes_170 (fun H locs hw => ?_)
                      have hw : Wd D (AA R ad sz) s R ad (va_up gL (198) (.inr (8, [.int (cd), .ref (ad 199), .int (nI ln), .ref (ad 200), .int (nI bk), .int (nI bt), .ref (ad 201), .int (nI ck), .int (nI ct), .ref (ad 202), .int (nI cn), .int (nI (pk + 1)), .ref (ad 203), .ref (ad 204), .int (nI (a.1)), .ref (ad 205), .ref (ad 206), .int (bI (true)), .ref (ad 207)]))) H locs := hw
                      obtain ⟨g60, hg60⟩ : ∃ z, z = va_up gL (198) (.inr (8, [.int (cd), .ref (ad 199), .int (nI ln), .ref (ad 200), .int (nI bk), .int (nI bt), .ref (ad 201), .int (nI ck), .int (nI ct), .ref (ad 202), .int (nI cn), .int (nI (pk + 1)), .ref (ad 203), .ref (ad 204), .int (nI (a.1)), .ref (ad 205), .ref (ad 206), .int (bI (true)), .ref (ad 207)])) := ⟨_, rfl⟩
                      rw [← hg60] at hw
                      have hk61 : ∀ z, z ≠ 198 → g60 z = gL z := fun z hz => by rw [hg60]; exact va_up_ne _ _ hz
                      have e62 : g60 (198) = .inr (8, [.int (cd), .ref (ad 199), .int (nI ln), .ref (ad 200), .int (nI bk), .int (nI bt), .ref (ad 201), .int (nI ck), .int (nI ct), .ref (ad 202), .int (nI cn), .int (nI (pk + 1)), .ref (ad 203), .ref (ad 204), .int (nI (a.1)), .ref (ad 205), .ref (ad 206), .int (bI (true)), .ref (ad 207)]) := by rw [hg60]; exact va_up_self _ _ _
                      have e63 : g60 (199) = ba ca 800 (tp) := (hk61 _ (by omega)).trans eL135_1
                      have e64 : g60 (201) = na ca 944 (fi IN) := (hk61 _ (by omega)).trans eL135_3
                      have e65 : g60 (202) = na ca 4425 (fl (CgN pm ck ct CG cn x bb)) := (hk61 _ (by omega)).trans eL135_4
                      have e66 : g60 (206) = na ca 255 (pm) := (hk61 _ (by omega)).trans eL135_8
                      have e67 : g60 (207) = na ca 16 (bb) := (hk61 _ (by omega)).trans eL135_9
                      have e68 : g60 (200) = ia ca 49 (tn3) := (hk61 _ (by omega)).trans eL135_2
                      have e69 : g60 (203) = na ca 9000 (fl a.2.1) := (hk61 _ (by omega)).trans eL135_5
                      have e70 : g60 (204) = na ca 120 (a.2.2.1) := (hk61 _ (by omega)).trans eL135_6
                      have e71 : g60 (205) = na ca 75 (a.2.2.2) := (hk61 _ (by omega)).trans eL135_7
                      have hs72 : ∀ z, (z < 198 ∨ 207 < z) → g60 z = g z := fun z hz => (hk61 z (by omega)).trans (hsL135 z hz)
                      refine k_icn C 0 dX8_comes_173 (by decide) ?_
                      have hS73 : MSt ca ad g60 pm cd ln th bk bt IN ck ct (CgN pm ck ct CG cn x bb) cn (pk + 1) tp a.1 true a.2.1 a.2.2.1 a.2.2.2 tn3 bb := ⟨⟨e62, e63, e68, e64, e65, e69, e70, e71, e66, e67⟩, hP1, hbb, (by_CgN hCG hbb), hIN, htn3, (fun _ => ⟨by omega, hQ2⟩), hbd, (fun _ => hQ3), hth⟩
                      exact hret H locs ls _ _ _ dX8_comes_174 hw (⟨hs72, cn, pk + 1, Or.inr (Or.inl ⟨rfl, ⟨hQ1, hQ4.mp (fun j hj => hz j (by omega))⟩, rfl, rfl⟩), _, _, _, _, _, _, _, _, hS73⟩)
                    · refine lv_aload_n C.1 C.2.1 dX8_comes_143 rfl (lv_at hl 0 rfl) ?_
                      refine k_get C F hw (198) (by omega) eL135_0 rfl in_X8 15 (by decide) fl_X8_29 rfl dX8_comes_144 ?_
                      refine k_bip C 59 dX8_comes_147 (by decide) ?_
                      refine lv_iload_n C.1 C.2.1 dX8_comes_149 rfl (lv_at hl 2 rfl) ?_
                      refine k_add C dX8_comes_150 ?_
                      refine k_iald C F hw (205) (by omega) eL135_7 (59 + i) (by omega) (by decide) dX8_comes_151 ?_
                      have hai := hP1.2.1 (59 + i)
                      refine k_zeq (tgt := 157) C dX8_comes_152 (by decide) (by omega) (fun hc152 => ?_) (fun hc152 => ?_)
                      · refine k_inc C (i + 1) (lv' := [(2, .int (nI (i + 1))), (0, .ref (ad 198)), (1, .int (nI x))]) dX8_comes_157 hl (k := 2) rfl (inc1 _) (by decide) rfl (fun ls hl => ?_)
                        refine lv_goto (tgt := 135) C.1 C.2.1 dX8_comes_160 (by decide) ?_
                        exact ih135 (i + 1) gL H locs ls (by omega) (by omega) (fun j hj => by by_cases h : j = i; (rw [h]; exact hc152); exact hz j (by omega)) hsL135 eL135_0 eL135_1 eL135_2 eL135_3 eL135_4 eL135_5 eL135_6 eL135_7 eL135_8 eL135_9 hw (lv_sub hl [1, 2, 0] rfl)
                      · refine lv_iconst (v := -1) C.1 C.2.1 dX8_comes_155 (by decide) ?_
                        have hS74 : MSt ca ad gL pm cd ln th bk bt IN ck ct (CgN pm ck ct CG cn x bb) cn pk tp a.1 true a.2.1 a.2.2.1 a.2.2.2 tn3 bb := ⟨⟨eL135_0, eL135_1, eL135_2, eL135_3, eL135_4, eL135_5, eL135_6, eL135_7, eL135_8, eL135_9⟩, hP1, hbb, (by_CgN hCG hbb), hIN, htn3, (fun _ => ⟨by omega, hQ2⟩), hbd, (fun _ => hQ3), hth⟩
                        exact hret H locs ls _ _ _ dX8_comes_156 hw (⟨hsL135, cn, pk, Or.inr (Or.inr ⟨rfl, ⟨hQ1, fun h9 => hc152 (hQ4.mpr h9 i (by omega))⟩, rfl, rfl⟩), _, _, _, _, _, _, _, _, hS74⟩)
                exact loop135 _ 0 g39 H locs ls (Nat.le_refl _) (by omega) (fun j hj => absurd hj (Nat.not_lt_zero _)) hs51 e56 e45 e50 e46 e47 e57 e58 e59 e48 e49 hw (lv_sub hl [1, 2, 0] rfl)
              · refine lv_aload_n C.1 C.2.1 dX8_comes_111 rfl (lv_at hl 0 rfl) ?_
                refine lv_dup C.1 C.2.1 dX8_comes_112 rfl ?_
                refine k_get C F hw (198) (by omega) e56 rfl in_X8 10 (by decide) fl_X8_135 rfl dX8_comes_113 ?_
                refine k_icn C 1 dX8_comes_116 (by decide) ?_
                refine k_add C dX8_comes_117 ?_
                refine k_put C F hw (198) (by omega) e56 rfl in_X8 tyX8_ok nmX8 10 (by decide) fl_X8_135 rfl (v := .int (nI (cn + 1))) rfl rfl (Nat.le_of_ble_eq_true rfl) dX8_comes_118 (fun H locs hw => ?_)
                have hw : Wd D (AA R ad sz) s R ad (va_up g39 (198) (.inr (8, [.int (cd), .ref (ad 199), .int (nI ln), .ref (ad 200), .int (nI bk), .int (nI bt), .ref (ad 201), .int (nI ck), .int (nI ct), .ref (ad 202), .int (nI (cn + 1)), .int (nI pk), .ref (ad 203), .ref (ad 204), .int (nI (a.1)), .ref (ad 205), .ref (ad 206), .int (bI (true)), .ref (ad 207)]))) H locs := hw
                obtain ⟨g75, hg75⟩ : ∃ z, z = va_up g39 (198) (.inr (8, [.int (cd), .ref (ad 199), .int (nI ln), .ref (ad 200), .int (nI bk), .int (nI bt), .ref (ad 201), .int (nI ck), .int (nI ct), .ref (ad 202), .int (nI (cn + 1)), .int (nI pk), .ref (ad 203), .ref (ad 204), .int (nI (a.1)), .ref (ad 205), .ref (ad 206), .int (bI (true)), .ref (ad 207)])) := ⟨_, rfl⟩
                rw [← hg75] at hw
                have hk76 : ∀ z, z ≠ 198 → g75 z = g39 z := fun z hz => by rw [hg75]; exact va_up_ne _ _ hz
                have e77 : g75 (198) = .inr (8, [.int (cd), .ref (ad 199), .int (nI ln), .ref (ad 200), .int (nI bk), .int (nI bt), .ref (ad 201), .int (nI ck), .int (nI ct), .ref (ad 202), .int (nI (cn + 1)), .int (nI pk), .ref (ad 203), .ref (ad 204), .int (nI (a.1)), .ref (ad 205), .ref (ad 206), .int (bI (true)), .ref (ad 207)]) := by rw [hg75]; exact va_up_self _ _ _
                have e78 : g75 (199) = ba ca 800 (tp) := (hk76 _ (by omega)).trans e45
                have e79 : g75 (201) = na ca 944 (fi IN) := (hk76 _ (by omega)).trans e46
                have e80 : g75 (202) = na ca 4425 (fl (CgN pm ck ct CG cn x bb)) := (hk76 _ (by omega)).trans e47
                have e81 : g75 (206) = na ca 255 (pm) := (hk76 _ (by omega)).trans e48
                have e82 : g75 (207) = na ca 16 (bb) := (hk76 _ (by omega)).trans e49
                have e83 : g75 (200) = ia ca 49 (tn3) := (hk76 _ (by omega)).trans e50
                have e84 : g75 (203) = na ca 9000 (fl a.2.1) := (hk76 _ (by omega)).trans e57
                have e85 : g75 (204) = na ca 120 (a.2.2.1) := (hk76 _ (by omega)).trans e58
                have e86 : g75 (205) = na ca 75 (a.2.2.2) := (hk76 _ (by omega)).trans e59
                have hs87 : ∀ z, (z < 198 ∨ 207 < z) → g75 z = g z := fun z hz => (hk76 z (by omega)).trans (hs51 z hz)
                refine lv_aload_n C.1 C.2.1 dX8_comes_121 rfl (lv_at hl 0 rfl) ?_
                refine lv_dup C.1 C.2.1 dX8_comes_122 rfl ?_
                refine k_get C F hw (198) (by omega) e77 rfl in_X8 11 (by decide) fl_X8_138 rfl dX8_comes_123 ?_
                refine k_icn C 1 dX8_comes_126 (by decide) ?_
                refine k_add C dX8_comes_127 ?_
                refine k_put C F hw (198) (by omega) e77 rfl in_X8 tyX8_ok nmX8 11 (by decide) fl_X8_138 rfl (v := .int (nI (pk + 1))) rfl rfl (Nat.le_of_ble_eq_true rfl) dX8_comes_128 (fun H locs hw => ?_)
                have hw : Wd D (AA R ad sz) s R ad (va_up g75 (198) (.inr (8, [.int (cd), .ref (ad 199), .int (nI ln), .ref (ad 200), .int (nI bk), .int (nI bt), .ref (ad 201), .int (nI ck), .int (nI ct), .ref (ad 202), .int (nI (cn + 1)), .int (nI (pk + 1)), .ref (ad 203), .ref (ad 204), .int (nI (a.1)), .ref (ad 205), .ref (ad 206), .int (bI (true)), .ref (ad 207)]))) H locs := hw
                obtain ⟨g88, hg88⟩ : ∃ z, z = va_up g75 (198) (.inr (8, [.int (cd), .ref (ad 199), .int (nI ln), .ref (ad 200), .int (nI bk), .int (nI bt), .ref (ad 201), .int (nI ck), .int (nI ct), .ref (ad 202), .int (nI (cn + 1)), .int (nI (pk + 1)), .ref (ad 203), .ref (ad 204), .int (nI (a.1)), .ref (ad 205), .ref (ad 206), .int (bI (true)), .ref (ad 207)])) := ⟨_, rfl⟩
                rw [← hg88] at hw
                have hk89 : ∀ z, z ≠ 198 → g88 z = g75 z := fun z hz => by rw [hg88]; exact va_up_ne _ _ hz
                have e90 : g88 (198) = .inr (8, [.int (cd), .ref (ad 199), .int (nI ln), .ref (ad 200), .int (nI bk), .int (nI bt), .ref (ad 201), .int (nI ck), .int (nI ct), .ref (ad 202), .int (nI (cn + 1)), .int (nI (pk + 1)), .ref (ad 203), .ref (ad 204), .int (nI (a.1)), .ref (ad 205), .ref (ad 206), .int (bI (true)), .ref (ad 207)]) := by rw [hg88]; exact va_up_self _ _ _
                have e91 : g88 (199) = ba ca 800 (tp) := (hk89 _ (by omega)).trans e78
                have e92 : g88 (201) = na ca 944 (fi IN) := (hk89 _ (by omega)).trans e79
                have e93 : g88 (202) = na ca 4425 (fl (CgN pm ck ct CG cn x bb)) := (hk89 _ (by omega)).trans e80
                have e94 : g88 (206) = na ca 255 (pm) := (hk89 _ (by omega)).trans e81
                have e95 : g88 (207) = na ca 16 (bb) := (hk89 _ (by omega)).trans e82
                have e96 : g88 (200) = ia ca 49 (tn3) := (hk89 _ (by omega)).trans e83
                have e97 : g88 (203) = na ca 9000 (fl a.2.1) := (hk89 _ (by omega)).trans e84
                have e98 : g88 (204) = na ca 120 (a.2.2.1) := (hk89 _ (by omega)).trans e85
                have e99 : g88 (205) = na ca 75 (a.2.2.2) := (hk89 _ (by omega)).trans e86
                have hs100 : ∀ z, (z < 198 ∨ 207 < z) → g88 z = g z := fun z hz => (hk89 z (by omega)).trans (hs87 z hz)
                refine k_icn C 1 dX8_comes_131 (by decide) ?_
                obtain ⟨hQ1, hQ2, hQ3⟩ := hP2 hc108
                have hS101 : MSt ca ad g88 pm cd ln th bk bt IN ck ct (CgN pm ck ct CG cn x bb) (cn + 1) (pk + 1) tp a.1 true a.2.1 a.2.2.1 a.2.2.2 tn3 bb := ⟨⟨e90, e91, e96, e92, e93, e97, e98, e99, e94, e95⟩, hP1, hbb, (by_CgN hCG hbb), hIN, htn3, (fun _ => ⟨by omega, hQ2⟩), hbd, (fun _ => hQ3), hth⟩
                exact hret H locs ls _ _ _ dX8_comes_132 hw (⟨hs100, cn + 1, pk + 1, Or.inl ⟨rfl, hQ1, rfl, rfl⟩, _, _, _, _, _, _, _, _, hS101⟩)
            · refine lv_aload_n C.1 C.2.1 dX8_comes_71 rfl (lv_at hl 0 rfl) ?_
              refine k_get C F hw (198) (by omega) eL65_0 rfl in_X8 9 (by decide) fl_X8_20 rfl dX8_comes_72 ?_
              refine k_bip C 75 dX8_comes_75 (by decide) ?_
              refine lv_aload_n C.1 C.2.1 dX8_comes_77 rfl (lv_at hl 0 rfl) ?_
              refine k_get C F hw (198) (by omega) eL65_0 rfl in_X8 10 (by decide) fl_X8_135 rfl dX8_comes_78 ?_
              refine k_mul C dX8_comes_81 ?_
              refine lv_iload_n C.1 C.2.1 dX8_comes_82 rfl (lv_at hl 2 rfl) ?_
              refine k_add C dX8_comes_83 ?_
              refine lv_aload_n C.1 C.2.1 dX8_comes_84 rfl (lv_at hl 0 rfl) ?_
              refine k_get C F hw (198) (by omega) eL65_0 rfl in_X8 15 (by decide) fl_X8_29 rfl dX8_comes_85 ?_
              refine lv_iload_n C.1 C.2.1 dX8_comes_88 rfl (lv_at hl 2 rfl) ?_
              refine k_iald C F hw (205) (by omega) eL65_7 (j) (by omega) (by decide) dX8_comes_89 ?_
              refine k_ti (x' := nI (lnM pm ck ct x bb j)) (by rw [onRow_at (by omega)]) ?_
              refine k_iast C F hw (202) (by omega) eL65_4 ((75 * cn) + j) (lnM pm ck ct x bb j) (by omega) (by decide) dX8_comes_90 (fun H locs hw => ?_)
              have hw : Wd D (AA R ad sz) s R ad (va_up gL (202) (na ca 4425 (va_up (fl C1) ((75 * cn) + j) (lnM pm ck ct x bb j)))) H locs := hw
              obtain ⟨g102, hg102⟩ : ∃ z, z = va_up gL (202) (na ca 4425 (va_up (fl C1) ((75 * cn) + j) (lnM pm ck ct x bb j))) := ⟨_, rfl⟩
              rw [← hg102] at hw
              have hk103 : ∀ z, z ≠ 202 → g102 z = gL z := fun z hz => by rw [hg102]; exact va_up_ne _ _ hz
              have e104 : g102 (202) = na ca 4425 (va_up (fl C1) ((75 * cn) + j) (lnM pm ck ct x bb j)) := by rw [hg102]; exact va_up_self _ _ _
              have e105 : g102 (199) = ba ca 800 (tp) := (hk103 _ (by omega)).trans eL65_1
              have e106 : g102 (201) = na ca 944 (fi IN) := (hk103 _ (by omega)).trans eL65_3
              have e107 : g102 (206) = na ca 255 (pm) := (hk103 _ (by omega)).trans eL65_8
              have e108 : g102 (207) = na ca 16 (bb) := (hk103 _ (by omega)).trans eL65_9
              have e109 : g102 (200) = ia ca 49 (tn3) := (hk103 _ (by omega)).trans eL65_2
              have e110 : g102 (198) = .inr (8, [.int (cd), .ref (ad 199), .int (nI ln), .ref (ad 200), .int (nI bk), .int (nI bt), .ref (ad 201), .int (nI ck), .int (nI ct), .ref (ad 202), .int (nI cn), .int (nI pk), .ref (ad 203), .ref (ad 204), .int (nI (v13.1)), .ref (ad 205), .ref (ad 206), .int (bI (true)), .ref (ad 207)]) := (hk103 _ (by omega)).trans eL65_0
              have e111 : g102 (203) = na ca 9000 (fl v13.2.1) := (hk103 _ (by omega)).trans eL65_5
              have e112 : g102 (204) = na ca 120 (v13.2.2.1) := (hk103 _ (by omega)).trans eL65_6
              have e113 : g102 (205) = na ca 75 (onRow (lnM pm ck ct x bb) v13.2.2.2) := (hk103 _ (by omega)).trans eL65_7
              have hs114 : ∀ z, (z < 198 ∨ 207 < z) → g102 z = g z := fun z hz => (hk103 z (by omega)).trans (hsL65 z hz)
              have e115 : g102 (202) = na ca 4425 (fl (va_up C1 cn (va_up (C1 cn) j (lnM pm ck ct x bb j)))) := by rw [e104, fl_up (by omega)]
              refine k_inc C (j + 1) (lv' := [(2, .int (nI (j + 1))), (0, .ref (ad 198)), (1, .int (nI x))]) dX8_comes_91 hl (k := 2) rfl (inc1 _) (by decide) rfl (fun ls hl => ?_)
              refine lv_goto (tgt := 65) C.1 C.2.1 dX8_comes_94 (by decide) ?_
              exact ih65 (j + 1) (va_up C1 cn (va_up (C1 cn) j (lnM pm ck ct x bb j))) g102 H locs ls (by omega) (by omega) (by rw [show C1 cn = prt j (lnM pm ck ct x bb) (CG cn) from by rw [hC1, va_up_self], hC1, up_up]; exact congrArg _ (prt_s j (lnM pm ck ct x bb) (CG cn))) hs114 e110 e105 e109 e106 e115 e111 e112 e113 e107 e108 hw (lv_sub hl [1, 2, 0] rfl)
        exact loop65 _ 0 CG gL H locs ls (Nat.le_refl _) (by omega) (by rw [prt_0, up_id]) hsL34 eL34_0 eL34_1 eL34_2 eL34_3 eL34_4 eL34_5 eL34_6 e36 eL34_8 eL34_9 hw (lv_sub hl [1, 2, 0] rfl)
      · refine lv_aload_n C.1 C.2.1 dX8_comes_42 rfl (lv_at hl 0 rfl) ?_
        refine k_get C F hw (198) (by omega) eL34_0 rfl in_X8 15 (by decide) fl_X8_29 rfl dX8_comes_43 ?_
        refine k_bip C 59 dX8_comes_46 (by decide) ?_
        refine lv_iload_n C.1 C.2.1 dX8_comes_48 rfl (lv_at hl 2 rfl) ?_
        refine k_add C dX8_comes_49 ?_
        refine lv_aload_n C.1 C.2.1 dX8_comes_50 rfl (lv_at hl 0 rfl) ?_
        refine k_get C F hw (198) (by omega) eL34_0 rfl in_X8 18 (by decide) fl_X8_35 rfl dX8_comes_51 ?_
        refine lv_iload_n C.1 C.2.1 dX8_comes_54 rfl (lv_at hl 2 rfl) ?_
        refine k_iald C F hw (207) (by omega) eL34_9 (i) (by omega) (by decide) dX8_comes_55 ?_
        refine k_iast C F hw (205) (by omega) eL34_7 (59 + i) (bb i) (by omega) (by decide) dX8_comes_56 (fun H locs hw => ?_)
        have hw : Wd D (AA R ad sz) s R ad (va_up gL (205) (na ca 75 (va_up f1 (59 + i) (bb i)))) H locs := hw
        obtain ⟨g116, hg116⟩ : ∃ z, z = va_up gL (205) (na ca 75 (va_up f1 (59 + i) (bb i))) := ⟨_, rfl⟩
        rw [← hg116] at hw
        have hk117 : ∀ z, z ≠ 205 → g116 z = gL z := fun z hz => by rw [hg116]; exact va_up_ne _ _ hz
        have e118 : g116 (205) = na ca 75 (va_up f1 (59 + i) (bb i)) := by rw [hg116]; exact va_up_self _ _ _
        have e119 : g116 (199) = ba ca 800 (tp) := (hk117 _ (by omega)).trans eL34_1
        have e120 : g116 (201) = na ca 944 (fi IN) := (hk117 _ (by omega)).trans eL34_3
        have e121 : g116 (202) = na ca 4425 (fl CG) := (hk117 _ (by omega)).trans eL34_4
        have e122 : g116 (206) = na ca 255 (pm) := (hk117 _ (by omega)).trans eL34_8
        have e123 : g116 (207) = na ca 16 (bb) := (hk117 _ (by omega)).trans eL34_9
        have e124 : g116 (200) = ia ca 49 (tn3) := (hk117 _ (by omega)).trans eL34_2
        have e125 : g116 (198) = .inr (8, [.int (cd), .ref (ad 199), .int (nI ln), .ref (ad 200), .int (nI bk), .int (nI bt), .ref (ad 201), .int (nI ck), .int (nI ct), .ref (ad 202), .int (nI cn), .int (nI pk), .ref (ad 203), .ref (ad 204), .int (nI (v13.1)), .ref (ad 205), .ref (ad 206), .int (bI (true)), .ref (ad 207)]) := (hk117 _ (by omega)).trans eL34_0
        have e126 : g116 (203) = na ca 9000 (fl v13.2.1) := (hk117 _ (by omega)).trans eL34_5
        have e127 : g116 (204) = na ca 120 (v13.2.2.1) := (hk117 _ (by omega)).trans eL34_6
        have hs128 : ∀ z, (z < 198 ∨ 207 < z) → g116 z = g z := fun z hz => (hk117 z (by omega)).trans (hsL34 z hz)
        refine k_inc C (i + 1) (lv' := [(2, .int (nI (i + 1))), (0, .ref (ad 198)), (1, .int (nI x))]) dX8_comes_57 hl (k := 2) rfl (inc1 _) (by decide) rfl (fun ls hl => ?_)
        refine lv_goto (tgt := 34) C.1 C.2.1 dX8_comes_60 (by decide) ?_
        exact ih34 (i + 1) (va_up f1 (59 + i) (bb i)) g116 H locs ls (by omega) (by omega) (by rw [hf1, onRow_up (by omega), vlV_s]) hs128 e125 e119 e124 e120 e121 e126 e127 e118 e122 e123 hw (lv_sub hl [1, 2, 0] rfl)
  exact loop34 _ 0 (onRow (pkR ck x (tnN (fbG pm ck))) v13.2.2.2) g23 H locs ls (Nat.le_refl _) (by omega) (by rw [vlV_0]) hs35 e32 e26 e31 e27 e28 e33 e34 e25 e29 e30 hw (lv_sub hl [1, 2, 0] rfl)
