/-! ===== FountainDesk: catching, deriving ===== -/
theorem drv_ex : ∃ f : (Nat → Nat) → (Nat → Nat) → Nat → Nat → Nat → Nat → EqS → (Nat → Nat) → Bool, ∀ pw ex k T x t s pl, f pw ex k T x t s pl = decide (leadN T (lnRed pw ex (k + 11) T s.2.1 s.2.2.1 (lnPk T (pkOut k x t pl).2.1 (pkOut k x t pl).1 s.2.2.2)) (k + 11) = 0) := ⟨_, fun _ _ _ _ _ _ _ _ => rfl⟩
theorem EqAtS_mk {ca : Nat → ClassId} {ad : Nat → Nat} {g : Nat → va_E} {b f L T rk : Nat} {M : Nat → Nat → Nat} {ld : Nat → Bool} {ln : Nat → Nat} (h : EqAt ca ad g b f L T rk M ld ln) : EqAtS ca ad g b f L T (rk, M, ld, ln) := h
theorem drS_by {pw ex : Nat → Nat} {L T v : Nat} {pl : Nat → Nat} {s : EqS} (hp : PwOk pw) (h : EqBy s) : EqBy (s.1, s.2.1, s.2.2.1, lnRed pw ex L T s.2.1 s.2.2.1 (lnPk T v pl s.2.2.2)) := by
  have h1 : By (lnRed pw ex L T s.2.1 s.2.2.1 (lnPk T v pl s.2.2.2)) := By.red hp (By.pk h.2)
  exact And.intro h.1 h1
noncomputable def drv : (Nat → Nat) → (Nat → Nat) → Nat → Nat → Nat → Nat → EqS → (Nat → Nat) → Bool := Classical.choose drv_ex
theorem drv_eq (pw ex : Nat → Nat) (k T x t : Nat) (s : EqS) (pl : Nat → Nat) : drv pw ex k T x t s pl = decide (leadN T (lnRed pw ex (k + 11) T s.2.1 s.2.2.1 (lnPk T (pkOut k x t pl).2.1 (pkOut k x t pl).1 s.2.2.2)) (k + 11) = 0) := Classical.choose_spec drv_ex pw ex k T x t s pl

abbrev rm_X7_catchFromBlock : Room := { frames := 4, cells := 0, slots := 0, locals := 94 }

set_option maxHeartbeats 800000 in
set_option maxRecDepth 100000 in
/-- X7_catchFromBlock -/
theorem c_X7_catchFromBlock {l : Launch} {D : va_G} {ca : Nat → ClassId} {tB tS R : Nat} {ad : Nat → Nat} {g : Nat → va_E} {sz : Nat} (pw ex : Nat → Nat) (hF : FieldAt ca ad g 1 pw ex) (hX : ExOk ex) (hP : PwOk pw) (hR : 197 < R) (eO : DeskAt ad g) (ck ct ctn cn : Nat) (hC : CtAt ca ad g ck ct ctn cn) (hck : 1 ≤ ck ∧ ck ≤ 48) (hct : 1 ≤ ct ∧ ct ≤ 16) (hctn : ctn ≤ 1000) (s0 : EqS) (hE : EqAtS ca ad g 135 1 (ck + 11) ct s0) (hB0 : EqBy s0) (v0 : Nat) (pl0 : Nat → Nat) (hK : PkAt ca ad g 6 v0 pl0) (x : Nat) (hx : x < 65536) (bk bt btn : Nat) (BM : Nat → Nat → Nat) (hB : BlkAt ca ad g bk bt btn BM) (hBM : ∀ p, By (BM p))  : MI l yX7_catchFromBlock cX7_catchFromBlock 3 .int rm_X7_catchFromBlock D ca tB tS R ad g sz [.ref (ad 0), .int (nI x)] (fun r g1 => (∀ z, (z < 6 ∨ 7 < z ∧ z < 134 ∨ 197 < z) → g1 z = g z) ∧ r = learnR pw ex (ck + 11) ct (inS ct (fun i => vlN BM (pkOut ck x ctn pl0).1 i (pkOut ck x ctn pl0).2.1) (pkOut ck x ctn pl0) s0) ∧ CtAt ca ad g1 ck ct ctn (if learnR pw ex (ck + 11) ct (inS ct (fun i => vlN BM (pkOut ck x ctn pl0).1 i (pkOut ck x ctn pl0).2.1) (pkOut ck x ctn pl0) s0) = -1 then cn else cn + 1) ∧ EqAtS ca ad g1 135 1 (ck + 11) ct (learnS pw ex (ck + 11) ct (inS ct (fun i => vlN BM (pkOut ck x ctn pl0).1 i (pkOut ck x ctn pl0).2.1) (pkOut ck x ctn pl0) s0)) ∧ EqBy (inS ct (fun i => vlN BM (pkOut ck x ctn pl0).1 i (pkOut ck x ctn pl0).2.1) (pkOut ck x ctn pl0) s0) ∧ PkWf ca ad g1) := by
  refine m_startI (by decide +kernel) (Nat.le_of_ble_eq_true rfl) (fun p e s m args below meth c ls Q hsz C hl F hw hret => ?_)
  have hl : lv_has ls 3 [(0, .ref (ad 0)), (1, .int (nI x))] := hl
  generalize s.heap = H at hw ⊢
  generalize ([] : List Loc) = locs at hw ⊢
  refine lv_aload_n C.1 C.2.1 dX7_catchFromBlock_0 rfl (lv_at hl 0 rfl) ?_
  refine k_get C F hw (0) (by omega) eO rfl in_X7 2 (by decide) fl_X7_26 rfl dX7_catchFromBlock_1 ?_
  refine lv_aload_n C.1 C.2.1 dX7_catchFromBlock_4 rfl (lv_at hl 0 rfl) ?_
  refine k_get C F hw (0) (by omega) eO rfl in_X7 6 (by decide) fl_X7_58 rfl dX7_catchFromBlock_5 ?_
  refine k_getN C F hw (134) (by omega) hC rfl in_X1 1 (by decide) fl_X7_147 rfl dX7_catchFromBlock_8 ?_
  refine lv_iload_n C.1 C.2.1 dX7_catchFromBlock_11 rfl (lv_at hl 1 rfl) ?_
  refine lv_aload_n C.1 C.2.1 dX7_catchFromBlock_12 rfl (lv_at hl 0 rfl) ?_
  refine k_get C F hw (0) (by omega) eO rfl in_X7 6 (by decide) fl_X7_58 rfl dX7_catchFromBlock_13 ?_
  refine k_getN C F hw (134) (by omega) hC rfl in_X1 3 (by decide) fl_X7_191 rfl dX7_catchFromBlock_16 ?_
  refine k_Vv C F hw (i := 6) (As := [.int (nI ck), .int (nI x), .int (nI ctn)]) (rest := []) (c_X4_find 6 ck x ctn v0 pl0 (by omega) hck hx hctn hK.1 hK.2) (by omega) hK.1 rfl (cwV _ C.2.2.2.2 gm_X7_116 rfl rfl rfl cd_X4_find ⟨by decide, by decide⟩) hl.1 rfl (Nat.le_of_ble_eq_true rfl) dX7_catchFromBlock_19 ⟨by decide, by decide⟩ (fun g2 H locs hp hw => ?_)
  obtain ⟨hs3, e4, e5⟩ := hp
  have e6 : g2 (0) = .inr (7, [.ref (ad 1), .ref (ad 4), .ref (ad 6), .ref (ad 8), .ref (ad 71), .ref (ad 73), .ref (ad 134)]) := (hs3 _ (by omega)).trans eO
  have e7 : g2 (1) = .inr (3, [.ref (ad (1 + 1)), .ref (ad (1 + 2))]) := (hs3 _ (by omega)).trans hF.1
  have e8 : g2 (1 + 1) = na ca 510 (pw) := (hs3 _ (by omega)).trans hF.2.1
  have e9 : g2 (1 + 2) = na ca 256 (ex) := (hs3 _ (by omega)).trans hF.2.2
  have e10 : g2 (134) = .inr (1, [.ref (ad 135), .int (nI ck), .int (nI ct), .int (nI ctn), .int (nI cn)]) := (hs3 _ (by omega)).trans hC
  have e11 : g2 (135) = .inr (2, [.ref (ad 1), .ref (ad (135 + 1)), .ref (ad (135 + 61)), .ref (ad (135 + 62)), .int (nI (ck + 11)), .int (nI ct), .int (nI (s0.1))]) := (hs3 _ (by omega)).trans hE.1
  have e12 : g2 (135 + 1) = qa ca 59 (fun i => if i < 59 then some (ad (135 + 2 + i)) else none) := (hs3 _ (by omega)).trans hE.2.1
  have e13 : g2 (135 + 61) = za ca 59 (s0.2.2.1) := (hs3 _ (by omega)).trans hE.2.2.2.1
  have e14 : g2 (135 + 62) = na ca 75 (s0.2.2.2) := (hs3 _ (by omega)).trans hE.2.2.2.2
  have e15 : g2 (73) = .inr (0, [.ref (ad 74), .int (nI bk), .int (nI bt), .int (nI btn)]) := (hs3 _ (by omega)).trans hB.1
  have e16 : g2 (74) = qa ca 59 (fun i => if i < 59 then some (ad (75 + i)) else none) := (hs3 _ (by omega)).trans hB.2.1
  have hr17 : ∀ p9, p9 < 59 → g2 (135 + 2 + p9) = na ca 75 (s0.2.1 p9) := fun p9 hp9 => (hs3 _ (by omega)).trans (hE.2.2.1 p9 hp9)
  have hr18 : ∀ p9, p9 < 59 → g2 (75 + p9) = na ca 16 (BM p9) := fun p9 hp9 => (hs3 _ (by omega)).trans (hB.2.2 p9 hp9)
  have hs19 : ∀ z, (z < 6 ∨ 7 < z ∧ z < 134 ∨ 197 < z) → g2 z = g z := fun z hz => hs3 z (by omega)
  have hpk := pkOut_ok ck x ctn pl0 (by omega)
  refine lv_aload_n C.1 C.2.1 dX7_catchFromBlock_22 rfl (lv_at hl 0 rfl) ?_
  refine k_get C F hw (0) (by omega) e6 rfl in_X7 6 (by decide) fl_X7_58 rfl dX7_catchFromBlock_23 ?_
  refine k_getN C F hw (134) (by omega) e10 rfl in_X1 0 (by decide) fl_X7_152 rfl dX7_catchFromBlock_26 ?_
  refine lv_aload_n C.1 C.2.1 dX7_catchFromBlock_29 rfl (lv_at hl 0 rfl) ?_
  refine k_get C F hw (0) (by omega) e6 rfl in_X7 2 (by decide) fl_X7_26 rfl dX7_catchFromBlock_30 ?_
  have hE20 : EqAt ca ad g2 135 1 (ck + 11) ct s0.1 s0.2.1 s0.2.2.1 s0.2.2.2 := ⟨e11, e12, hr17, e13, e14⟩
  have hK21 : PkAt ca ad g2 6 ((pkOut ck x ctn pl0).2.1) ((pkOut ck x ctn pl0).1) := ⟨e4, e5⟩
  refine k_Vv C F hw (i := 135) (As := [.ref (ad 6)]) (rest := []) (c_X2_setLine 135 1 (ck + 11) ct s0.1 s0.2.1 s0.2.2.1 s0.2.2.2 hE20 (by omega) (by omega) (by omega) 6 ((pkOut ck x ctn pl0).2.1) ((pkOut ck x ctn pl0).1) hK21 (by omega) (by omega) (fun j hj => by have := hpk.1 j hj; omega)) (by omega) e11 rfl (cwV _ C.2.2.2.2 gm_X7_177 rfl rfl rfl cd_X2_setLine ⟨by decide, by decide⟩) hl.1 rfl (Nat.le_of_ble_eq_true rfl) dX7_catchFromBlock_33 ⟨by decide, by decide⟩ (fun g23 H locs hp hw => ?_)
  obtain ⟨hs24, hE25⟩ := hp
  have e26 : g23 (0) = .inr (7, [.ref (ad 1), .ref (ad 4), .ref (ad 6), .ref (ad 8), .ref (ad 71), .ref (ad 73), .ref (ad 134)]) := (hs24 _ (by omega)).trans e6
  have e27 : g23 (1) = .inr (3, [.ref (ad (1 + 1)), .ref (ad (1 + 2))]) := (hs24 _ (by omega)).trans e7
  have e28 : g23 (1 + 1) = na ca 510 (pw) := (hs24 _ (by omega)).trans e8
  have e29 : g23 (1 + 2) = na ca 256 (ex) := (hs24 _ (by omega)).trans e9
  have e30 : g23 (134) = .inr (1, [.ref (ad 135), .int (nI ck), .int (nI ct), .int (nI ctn), .int (nI cn)]) := (hs24 _ (by omega)).trans e10
  have e31 : g23 (73) = .inr (0, [.ref (ad 74), .int (nI bk), .int (nI bt), .int (nI btn)]) := (hs24 _ (by omega)).trans e15
  have e32 : g23 (74) = qa ca 59 (fun i => if i < 59 then some (ad (75 + i)) else none) := (hs24 _ (by omega)).trans e16
  have e33 : g23 (6) = .inr (4, [.ref (ad (6 + 1)), .int (nI ((pkOut ck x ctn pl0).2.1))]) := (hs24 _ (by omega)).trans e4
  have e34 : g23 (6 + 1) = na ca 59 ((pkOut ck x ctn pl0).1) := (hs24 _ (by omega)).trans e5
  have hr35 : ∀ p9, p9 < 59 → g23 (75 + p9) = na ca 16 (BM p9) := fun p9 hp9 => (hs24 _ (by omega)).trans (hr18 p9 hp9)
  have hs36 : ∀ z, (z < 6 ∨ 7 < z ∧ z < 134 ∨ 197 < z) → g23 z = g z := fun z hz => (hs24 z (by omega)).trans (hs19 z hz)
  refine k_icn C 0 dX7_catchFromBlock_36 (by decide) ?_
  refine lv_istore_n (lv' := [(2, .int (nI 0)), (0, .ref (ad 0)), (1, .int (nI x))]) C.1 C.2.1 dX7_catchFromBlock_37 rfl hl (by decide) rfl (fun ls hl => ?_)
  have loop38 : ∀ (fuel : Nat) (i : Nat) (f1 : Nat → Nat) (gL : Nat → va_E) (H : Heap) (locs : List Loc) (ls : Array Slot), ((ct - i) + 1 ≤ fuel) → (i ≤ ct) → (f1 = fr (lnVal1 (fun i => vlN BM (pkOut ck x ctn pl0).1 i (pkOut ck x ctn pl0).2.1)) i (lnPk ct (pkOut ck x ctn pl0).2.1 (pkOut ck x ctn pl0).1 s0.2.2.2)) → (∀ z, (z < 6 ∨ 7 < z ∧ z < 134 ∨ 197 < z) → gL z = g z) → (gL (135) = .inr (2, [.ref (ad 1), .ref (ad (135 + 1)), .ref (ad (135 + 61)), .ref (ad (135 + 62)), .int (nI (ck + 11)), .int (nI ct), .int (nI (s0.1))])) → (gL (135 + 1) = qa ca 59 (fun i => if i < 59 then some (ad (135 + 2 + i)) else none)) → (gL (135 + 61) = za ca 59 (s0.2.2.1)) → (gL (135 + 62) = na ca 75 (f1)) → (gL (6) = .inr (4, [.ref (ad (6 + 1)), .int (nI ((pkOut ck x ctn pl0).2.1))])) → (gL (6 + 1) = na ca 59 ((pkOut ck x ctn pl0).1)) → (gL (134) = .inr (1, [.ref (ad 135), .int (nI ck), .int (nI ct), .int (nI ctn), .int (nI cn)])) → (∀ p9, p9 < 59 → gL (135 + 2 + p9) = na ca 75 (s0.2.1 p9)) → Wd D (AA R ad sz) s R ad gL H locs → lv_has ls 3 [(0, .ref (ad 0)), (1, .int (nI x)), (2, .int (nI i))] → W p l e rm_X7_catchFromBlock s m args below meth c H locs 0 0 Q (F0 m 38 ls []) := by
    intro fuel
    induction fuel with
    | zero =>
      intro i f1 gL H locs ls hfu38
      exact absurd hfu38 (by omega)
    | succ fuel38 ih38 =>
      intro i f1 gL H locs ls hfu38 hi hf1 hsL38 eL38_0 eL38_1 eL38_2 eL38_3 eL38_4 eL38_5 eL38_6 hrL38_1 hw hl
      have e37 : gL (0) = .inr (7, [.ref (ad 1), .ref (ad 4), .ref (ad 6), .ref (ad 8), .ref (ad 71), .ref (ad 73), .ref (ad 134)]) := (hsL38 _ (by omega)).trans eO
      have e38 : gL (1) = .inr (3, [.ref (ad (1 + 1)), .ref (ad (1 + 2))]) := (hsL38 _ (by omega)).trans hF.1
      have e39 : gL (1 + 1) = na ca 510 (pw) := (hsL38 _ (by omega)).trans hF.2.1
      have e40 : gL (1 + 2) = na ca 256 (ex) := (hsL38 _ (by omega)).trans hF.2.2
      have e41 : gL (73) = .inr (0, [.ref (ad 74), .int (nI bk), .int (nI bt), .int (nI btn)]) := (hsL38 _ (by omega)).trans hB.1
      have e42 : gL (74) = qa ca 59 (fun i => if i < 59 then some (ad (75 + i)) else none) := (hsL38 _ (by omega)).trans hB.2.1
      have hr43 : ∀ p9, p9 < 59 → gL (75 + p9) = na ca 16 (BM p9) := fun p9 hp9 => (hsL38 _ (by omega)).trans (hB.2.2 p9 hp9)
      refine lv_iload_n C.1 C.2.1 dX7_catchFromBlock_38 rfl (lv_at hl 2 rfl) ?_
      refine lv_aload_n C.1 C.2.1 dX7_catchFromBlock_39 rfl (lv_at hl 0 rfl) ?_
      refine k_get C F hw (0) (by omega) e37 rfl in_X7 6 (by decide) fl_X7_58 rfl dX7_catchFromBlock_40 ?_
      refine k_getN C F hw (134) (by omega) eL38_6 rfl in_X1 2 (by decide) fl_X7_148 rfl dX7_catchFromBlock_43 ?_
      refine k_ige (tgt := 78) C dX7_catchFromBlock_46 (by decide) (by omega) (by omega) (fun hc46 => ?_) (fun hc46 => ?_)
      · refine lv_aload_n C.1 C.2.1 dX7_catchFromBlock_78 rfl (lv_at hl 0 rfl) ?_
        refine k_get C F hw (0) (by omega) e37 rfl in_X7 6 (by decide) fl_X7_58 rfl dX7_catchFromBlock_79 ?_
        have hfe : f1 = lnVal (fun i => vlN BM (pkOut ck x ctn pl0).1 i (pkOut ck x ctn pl0).2.1) ct (lnPk ct (pkOut ck x ctn pl0).2.1 (pkOut ck x ctn pl0).1 s0.2.2.2) := by rw [hf1, show i = ct by omega]; rfl
        have hE44 : EqAt ca ad gL 135 1 (ck + 11) ct s0.1 s0.2.1 s0.2.2.1 f1 := ⟨eL38_0, eL38_1, hrL38_1, eL38_2, eL38_3⟩
        have hF45 : FieldAt ca ad gL 1 pw ex := ⟨e38, e39, e40⟩
        have hEi : EqAtS ca ad gL 135 1 (ck + 11) ct (inS ct (fun i => vlN BM (pkOut ck x ctn pl0).1 i (pkOut ck x ctn pl0).2.1) (pkOut ck x ctn pl0) s0) := by rw [hfe] at hE44; exact hE44
        have hbi : EqBy (inS ct (fun i => vlN BM (pkOut ck x ctn pl0).1 i (pkOut ck x ctn pl0).2.1) (pkOut ck x ctn pl0) s0) := inS_by (fun i _ => vlN_by hBM _) hB0
        refine k_Vi C F hw (i := 134) (As := []) (rest := []) (c_X1_catchLine pw ex hF45 hX hP hR ck ct ctn cn eL38_6 (ck + 11) ct (inS ct (fun i => vlN BM (pkOut ck x ctn pl0).1 i (pkOut ck x ctn pl0).2.1) (pkOut ck x ctn pl0) s0) hEi hbi (by omega) (by omega)) (by omega) eL38_6 rfl (cwV _ C.2.2.2.2 gm_X7_192 rfl rfl rfl cd_X1_catchLine ⟨by decide, by decide⟩) hl.1 rfl (Nat.le_of_ble_eq_true rfl) dX7_catchFromBlock_82 ⟨by decide, by decide⟩ (fun r46 g47 H locs hp hw => ?_)
        obtain ⟨hs48, hr9, hC50, hE49⟩ := hp
        subst hr9
        have e51 : g47 (0) = .inr (7, [.ref (ad 1), .ref (ad 4), .ref (ad 6), .ref (ad 8), .ref (ad 71), .ref (ad 73), .ref (ad 134)]) := (hs48 _ (by omega)).trans e37
        have e52 : g47 (1) = .inr (3, [.ref (ad (1 + 1)), .ref (ad (1 + 2))]) := (hs48 _ (by omega)).trans e38
        have e53 : g47 (1 + 1) = na ca 510 (pw) := (hs48 _ (by omega)).trans e39
        have e54 : g47 (1 + 2) = na ca 256 (ex) := (hs48 _ (by omega)).trans e40
        have e55 : g47 (73) = .inr (0, [.ref (ad 74), .int (nI bk), .int (nI bt), .int (nI btn)]) := (hs48 _ (by omega)).trans e41
        have e56 : g47 (74) = qa ca 59 (fun i => if i < 59 then some (ad (75 + i)) else none) := (hs48 _ (by omega)).trans e42
        have e57 : g47 (6) = .inr (4, [.ref (ad (6 + 1)), .int (nI ((pkOut ck x ctn pl0).2.1))]) := (hs48 _ (by omega)).trans eL38_4
        have e58 : g47 (6 + 1) = na ca 59 ((pkOut ck x ctn pl0).1) := (hs48 _ (by omega)).trans eL38_5
        have hr59 : ∀ p9, p9 < 59 → g47 (75 + p9) = na ca 16 (BM p9) := fun p9 hp9 => (hs48 _ (by omega)).trans (hr43 p9 hp9)
        have hs60 : ∀ z, (z < 6 ∨ 7 < z ∧ z < 134 ∨ 197 < z) → g47 z = g z := fun z hz => (hs48 z (by omega)).trans (hsL38 z hz)
        have hK61 : PkAt ca ad g47 6 ((pkOut ck x ctn pl0).2.1) ((pkOut ck x ctn pl0).1) := ⟨e57, e58⟩
        exact hret H locs ls _ _ _ dX7_catchFromBlock_85 hw (⟨hs60, rfl, hC50, hE49, hbi, ⟨_, _, hK61⟩⟩)
      · refine lv_aload_n C.1 C.2.1 dX7_catchFromBlock_49 rfl (lv_at hl 0 rfl) ?_
        refine k_get C F hw (0) (by omega) e37 rfl in_X7 6 (by decide) fl_X7_58 rfl dX7_catchFromBlock_50 ?_
        refine k_getN C F hw (134) (by omega) eL38_6 rfl in_X1 0 (by decide) fl_X7_152 rfl dX7_catchFromBlock_53 ?_
        refine lv_iload_n C.1 C.2.1 dX7_catchFromBlock_56 rfl (lv_at hl 2 rfl) ?_
        refine lv_aload_n C.1 C.2.1 dX7_catchFromBlock_57 rfl (lv_at hl 0 rfl) ?_
        refine k_get C F hw (0) (by omega) e37 rfl in_X7 5 (by decide) fl_X7_51 rfl dX7_catchFromBlock_58 ?_
        refine lv_aload_n C.1 C.2.1 dX7_catchFromBlock_61 rfl (lv_at hl 0 rfl) ?_
        refine k_get C F hw (0) (by omega) e37 rfl in_X7 2 (by decide) fl_X7_26 rfl dX7_catchFromBlock_62 ?_
        refine lv_iload_n C.1 C.2.1 dX7_catchFromBlock_65 rfl (lv_at hl 2 rfl) ?_
        have hB62 : BlkAt ca ad gL bk bt btn BM := ⟨e41, e42, hr43⟩
        have hK63 : PkAt ca ad gL 6 ((pkOut ck x ctn pl0).2.1) ((pkOut ck x ctn pl0).1) := ⟨eL38_4, eL38_5⟩
        refine k_Vi C F hw (i := 73) (As := [.ref (ad 6), .int (nI i)]) (rest := [.int (nI i), .ref (ad 135)]) (c_X0_valueOf hR bk bt btn BM hB62 ((pkOut ck x ctn pl0).2.1) ((pkOut ck x ctn pl0).1) hK63 (by omega) (fun j hj => by have := hpk.1 j hj; omega) i (by omega)) (by omega) e41 rfl (cwV _ C.2.2.2.2 gm_X7_119 rfl rfl rfl cd_X0_valueOf ⟨by decide, by decide⟩) hl.1 rfl (Nat.le_of_ble_eq_true rfl) dX7_catchFromBlock_66 ⟨by decide, by decide⟩ (fun r64 g65 H locs hp hw => ?_)
        obtain ⟨hr9, hg9⟩ := hp
        rw [hg9] at hw
        subst hr9
        have hE66 : EqAt ca ad gL 135 1 (ck + 11) ct s0.1 s0.2.1 s0.2.2.1 f1 := ⟨eL38_0, eL38_1, hrL38_1, eL38_2, eL38_3⟩
        refine k_Vv C F hw (i := 135) (As := [.int (nI i), .int (nI (vlN BM (pkOut ck x ctn pl0).1 i (pkOut ck x ctn pl0).2.1))]) (rest := []) (c_X2_setValue 135 1 (ck + 11) ct s0.1 s0.2.1 s0.2.2.1 f1 hE66 (by omega) (by omega) (by omega) i (vlN BM (pkOut ck x ctn pl0).1 i (pkOut ck x ctn pl0).2.1) (by omega)) (by omega) eL38_0 rfl (cwV _ C.2.2.2.2 gm_X7_185 rfl rfl rfl cd_X2_setValue ⟨by decide, by decide⟩) hl.1 rfl (Nat.le_of_ble_eq_true rfl) dX7_catchFromBlock_69 ⟨by decide, by decide⟩ (fun g68 H locs hp hw => ?_)
        obtain ⟨hs69, hE70⟩ := hp
        have e71 : g68 (0) = .inr (7, [.ref (ad 1), .ref (ad 4), .ref (ad 6), .ref (ad 8), .ref (ad 71), .ref (ad 73), .ref (ad 134)]) := (hs69 _ (by omega)).trans e37
        have e72 : g68 (1) = .inr (3, [.ref (ad (1 + 1)), .ref (ad (1 + 2))]) := (hs69 _ (by omega)).trans e38
        have e73 : g68 (1 + 1) = na ca 510 (pw) := (hs69 _ (by omega)).trans e39
        have e74 : g68 (1 + 2) = na ca 256 (ex) := (hs69 _ (by omega)).trans e40
        have e75 : g68 (134) = .inr (1, [.ref (ad 135), .int (nI ck), .int (nI ct), .int (nI ctn), .int (nI cn)]) := (hs69 _ (by omega)).trans eL38_6
        have e76 : g68 (73) = .inr (0, [.ref (ad 74), .int (nI bk), .int (nI bt), .int (nI btn)]) := (hs69 _ (by omega)).trans e41
        have e77 : g68 (74) = qa ca 59 (fun i => if i < 59 then some (ad (75 + i)) else none) := (hs69 _ (by omega)).trans e42
        have e78 : g68 (6) = .inr (4, [.ref (ad (6 + 1)), .int (nI ((pkOut ck x ctn pl0).2.1))]) := (hs69 _ (by omega)).trans eL38_4
        have e79 : g68 (6 + 1) = na ca 59 ((pkOut ck x ctn pl0).1) := (hs69 _ (by omega)).trans eL38_5
        have hr80 : ∀ p9, p9 < 59 → g68 (75 + p9) = na ca 16 (BM p9) := fun p9 hp9 => (hs69 _ (by omega)).trans (hr43 p9 hp9)
        have hs81 : ∀ z, (z < 6 ∨ 7 < z ∧ z < 134 ∨ 197 < z) → g68 z = g z := fun z hz => (hs69 z (by omega)).trans (hsL38 z hz)
        refine k_inc C (i + 1) (lv' := [(2, .int (nI (i + 1))), (0, .ref (ad 0)), (1, .int (nI x))]) dX7_catchFromBlock_72 hl (k := 2) rfl (inc1 _) (by decide) rfl (fun ls hl => ?_)
        refine lv_goto (tgt := 38) C.1 C.2.1 dX7_catchFromBlock_75 (by decide) ?_
        exact ih38 (i + 1) (va_up f1 i (vlN BM (pkOut ck x ctn pl0).1 i (pkOut ck x ctn pl0).2.1)) g68 H locs ls (by omega) (by omega) (by rw [fr_s, ← hf1]; rfl) hs81 hE70.1 hE70.2.1 hE70.2.2.2.1 hE70.2.2.2.2 e78 e79 e75 hE70.2.2.1 hw (lv_sub hl [1, 2, 0] rfl)
  exact loop38 _ 0 (lnPk ct (pkOut ck x ctn pl0).2.1 (pkOut ck x ctn pl0).1 s0.2.2.2) g23 H locs ls (Nat.le_refl _) (by omega) ((fr_0 _ _).symm) hs36 hE25.1 hE25.2.1 hE25.2.2.2.1 hE25.2.2.2.2 e33 e34 e30 hE25.2.2.1 hw (lv_sub hl [1, 2, 0] rfl)

abbrev rm_X7_catchFromTape : Room := { frames := 4, cells := 0, slots := 0, locals := 94 }

set_option maxHeartbeats 800000 in
set_option maxRecDepth 100000 in
/-- X7_catchFromTape -/
theorem c_X7_catchFromTape {l : Launch} {D : va_G} {ca : Nat → ClassId} {tB tS R : Nat} {ad : Nat → Nat} {g : Nat → va_E} {sz : Nat} (pw ex : Nat → Nat) (hF : FieldAt ca ad g 1 pw ex) (hX : ExOk ex) (hP : PwOk pw) (hR : 197 < R) (eO : DeskAt ad g) (ck ct ctn cn : Nat) (hC : CtAt ca ad g ck ct ctn cn) (hck : 1 ≤ ck ∧ ck ≤ 48) (hct : 1 ≤ ct ∧ ct ≤ 16) (hctn : ctn ≤ 1000) (s0 : EqS) (hE : EqAtS ca ad g 135 1 (ck + 11) ct s0) (hB0 : EqBy s0) (v0 : Nat) (pl0 : Nat → Nat) (hK : PkAt ca ad g 6 v0 pl0) (x : Nat) (hx : x < 65536) (len : Nat) (h : Nat → Nat) (hT4 : TpAt ca ad g len h) (hh : By h)  : MI l yX7_catchFromTape cX7_catchFromTape 3 .int rm_X7_catchFromTape D ca tB tS R ad g sz [.ref (ad 0), .int (nI x)] (fun r g1 => (∀ z, (z < 6 ∨ 7 < z ∧ z < 134 ∨ 197 < z) → g1 z = g z) ∧ r = learnR pw ex (ck + 11) ct (inS ct h (pkOut ck x ctn pl0) s0) ∧ CtAt ca ad g1 ck ct ctn (if learnR pw ex (ck + 11) ct (inS ct h (pkOut ck x ctn pl0) s0) = -1 then cn else cn + 1) ∧ EqAtS ca ad g1 135 1 (ck + 11) ct (learnS pw ex (ck + 11) ct (inS ct h (pkOut ck x ctn pl0) s0)) ∧ EqBy (inS ct h (pkOut ck x ctn pl0) s0) ∧ PkWf ca ad g1) := by
  refine m_startI (by decide +kernel) (Nat.le_of_ble_eq_true rfl) (fun p e s m args below meth c ls Q hsz C hl F hw hret => ?_)
  have hl : lv_has ls 3 [(0, .ref (ad 0)), (1, .int (nI x))] := hl
  generalize s.heap = H at hw ⊢
  generalize ([] : List Loc) = locs at hw ⊢
  refine lv_aload_n C.1 C.2.1 dX7_catchFromTape_0 rfl (lv_at hl 0 rfl) ?_
  refine k_get C F hw (0) (by omega) eO rfl in_X7 2 (by decide) fl_X7_26 rfl dX7_catchFromTape_1 ?_
  refine lv_aload_n C.1 C.2.1 dX7_catchFromTape_4 rfl (lv_at hl 0 rfl) ?_
  refine k_get C F hw (0) (by omega) eO rfl in_X7 6 (by decide) fl_X7_58 rfl dX7_catchFromTape_5 ?_
  refine k_getN C F hw (134) (by omega) hC rfl in_X1 1 (by decide) fl_X7_147 rfl dX7_catchFromTape_8 ?_
  refine lv_iload_n C.1 C.2.1 dX7_catchFromTape_11 rfl (lv_at hl 1 rfl) ?_
  refine lv_aload_n C.1 C.2.1 dX7_catchFromTape_12 rfl (lv_at hl 0 rfl) ?_
  refine k_get C F hw (0) (by omega) eO rfl in_X7 6 (by decide) fl_X7_58 rfl dX7_catchFromTape_13 ?_
  refine k_getN C F hw (134) (by omega) hC rfl in_X1 3 (by decide) fl_X7_191 rfl dX7_catchFromTape_16 ?_
  refine k_Vv C F hw (i := 6) (As := [.int (nI ck), .int (nI x), .int (nI ctn)]) (rest := []) (c_X4_find 6 ck x ctn v0 pl0 (by omega) hck hx hctn hK.1 hK.2) (by omega) hK.1 rfl (cwV _ C.2.2.2.2 gm_X7_116 rfl rfl rfl cd_X4_find ⟨by decide, by decide⟩) hl.1 rfl (Nat.le_of_ble_eq_true rfl) dX7_catchFromTape_19 ⟨by decide, by decide⟩ (fun g2 H locs hp hw => ?_)
  obtain ⟨hs3, e4, e5⟩ := hp
  have e6 : g2 (0) = .inr (7, [.ref (ad 1), .ref (ad 4), .ref (ad 6), .ref (ad 8), .ref (ad 71), .ref (ad 73), .ref (ad 134)]) := (hs3 _ (by omega)).trans eO
  have e7 : g2 (1) = .inr (3, [.ref (ad (1 + 1)), .ref (ad (1 + 2))]) := (hs3 _ (by omega)).trans hF.1
  have e8 : g2 (1 + 1) = na ca 510 (pw) := (hs3 _ (by omega)).trans hF.2.1
  have e9 : g2 (1 + 2) = na ca 256 (ex) := (hs3 _ (by omega)).trans hF.2.2
  have e10 : g2 (134) = .inr (1, [.ref (ad 135), .int (nI ck), .int (nI ct), .int (nI ctn), .int (nI cn)]) := (hs3 _ (by omega)).trans hC
  have e11 : g2 (135) = .inr (2, [.ref (ad 1), .ref (ad (135 + 1)), .ref (ad (135 + 61)), .ref (ad (135 + 62)), .int (nI (ck + 11)), .int (nI ct), .int (nI (s0.1))]) := (hs3 _ (by omega)).trans hE.1
  have e12 : g2 (135 + 1) = qa ca 59 (fun i => if i < 59 then some (ad (135 + 2 + i)) else none) := (hs3 _ (by omega)).trans hE.2.1
  have e13 : g2 (135 + 61) = za ca 59 (s0.2.2.1) := (hs3 _ (by omega)).trans hE.2.2.2.1
  have e14 : g2 (135 + 62) = na ca 75 (s0.2.2.2) := (hs3 _ (by omega)).trans hE.2.2.2.2
  have e15 : g2 (4) = .inr (5, [.ref (ad (4 + 1)), .int (nI len)]) := (hs3 _ (by omega)).trans hT4.1
  have e16 : g2 (4 + 1) = na ca 800 (h) := (hs3 _ (by omega)).trans hT4.2
  have hr17 : ∀ p9, p9 < 59 → g2 (135 + 2 + p9) = na ca 75 (s0.2.1 p9) := fun p9 hp9 => (hs3 _ (by omega)).trans (hE.2.2.1 p9 hp9)
  have hs18 : ∀ z, (z < 6 ∨ 7 < z ∧ z < 134 ∨ 197 < z) → g2 z = g z := fun z hz => hs3 z (by omega)
  have hpk := pkOut_ok ck x ctn pl0 (by omega)
  refine lv_aload_n C.1 C.2.1 dX7_catchFromTape_22 rfl (lv_at hl 0 rfl) ?_
  refine k_get C F hw (0) (by omega) e6 rfl in_X7 6 (by decide) fl_X7_58 rfl dX7_catchFromTape_23 ?_
  refine k_getN C F hw (134) (by omega) e10 rfl in_X1 0 (by decide) fl_X7_152 rfl dX7_catchFromTape_26 ?_
  refine lv_aload_n C.1 C.2.1 dX7_catchFromTape_29 rfl (lv_at hl 0 rfl) ?_
  refine k_get C F hw (0) (by omega) e6 rfl in_X7 2 (by decide) fl_X7_26 rfl dX7_catchFromTape_30 ?_
  have hE19 : EqAt ca ad g2 135 1 (ck + 11) ct s0.1 s0.2.1 s0.2.2.1 s0.2.2.2 := ⟨e11, e12, hr17, e13, e14⟩
  have hK20 : PkAt ca ad g2 6 ((pkOut ck x ctn pl0).2.1) ((pkOut ck x ctn pl0).1) := ⟨e4, e5⟩
  refine k_Vv C F hw (i := 135) (As := [.ref (ad 6)]) (rest := []) (c_X2_setLine 135 1 (ck + 11) ct s0.1 s0.2.1 s0.2.2.1 s0.2.2.2 hE19 (by omega) (by omega) (by omega) 6 ((pkOut ck x ctn pl0).2.1) ((pkOut ck x ctn pl0).1) hK20 (by omega) (by omega) (fun j hj => by have := hpk.1 j hj; omega)) (by omega) e11 rfl (cwV _ C.2.2.2.2 gm_X7_177 rfl rfl rfl cd_X2_setLine ⟨by decide, by decide⟩) hl.1 rfl (Nat.le_of_ble_eq_true rfl) dX7_catchFromTape_33 ⟨by decide, by decide⟩ (fun g22 H locs hp hw => ?_)
  obtain ⟨hs23, hE24⟩ := hp
  have e25 : g22 (0) = .inr (7, [.ref (ad 1), .ref (ad 4), .ref (ad 6), .ref (ad 8), .ref (ad 71), .ref (ad 73), .ref (ad 134)]) := (hs23 _ (by omega)).trans e6
  have e26 : g22 (1) = .inr (3, [.ref (ad (1 + 1)), .ref (ad (1 + 2))]) := (hs23 _ (by omega)).trans e7
  have e27 : g22 (1 + 1) = na ca 510 (pw) := (hs23 _ (by omega)).trans e8
  have e28 : g22 (1 + 2) = na ca 256 (ex) := (hs23 _ (by omega)).trans e9
  have e29 : g22 (134) = .inr (1, [.ref (ad 135), .int (nI ck), .int (nI ct), .int (nI ctn), .int (nI cn)]) := (hs23 _ (by omega)).trans e10
  have e30 : g22 (4) = .inr (5, [.ref (ad (4 + 1)), .int (nI len)]) := (hs23 _ (by omega)).trans e15
  have e31 : g22 (4 + 1) = na ca 800 (h) := (hs23 _ (by omega)).trans e16
  have e32 : g22 (6) = .inr (4, [.ref (ad (6 + 1)), .int (nI ((pkOut ck x ctn pl0).2.1))]) := (hs23 _ (by omega)).trans e4
  have e33 : g22 (6 + 1) = na ca 59 ((pkOut ck x ctn pl0).1) := (hs23 _ (by omega)).trans e5
  have hs34 : ∀ z, (z < 6 ∨ 7 < z ∧ z < 134 ∨ 197 < z) → g22 z = g z := fun z hz => (hs23 z (by omega)).trans (hs18 z hz)
  refine k_icn C 0 dX7_catchFromTape_36 (by decide) ?_
  refine lv_istore_n (lv' := [(2, .int (nI 0)), (0, .ref (ad 0)), (1, .int (nI x))]) C.1 C.2.1 dX7_catchFromTape_37 rfl hl (by decide) rfl (fun ls hl => ?_)
  have loop38 : ∀ (fuel : Nat) (i : Nat) (f1 : Nat → Nat) (gL : Nat → va_E) (H : Heap) (locs : List Loc) (ls : Array Slot), ((ct - i) + 1 ≤ fuel) → (i ≤ ct) → (f1 = fr (lnVal1 h) i (lnPk ct (pkOut ck x ctn pl0).2.1 (pkOut ck x ctn pl0).1 s0.2.2.2)) → (∀ z, (z < 6 ∨ 7 < z ∧ z < 134 ∨ 197 < z) → gL z = g z) → (gL (135) = .inr (2, [.ref (ad 1), .ref (ad (135 + 1)), .ref (ad (135 + 61)), .ref (ad (135 + 62)), .int (nI (ck + 11)), .int (nI ct), .int (nI (s0.1))])) → (gL (135 + 1) = qa ca 59 (fun i => if i < 59 then some (ad (135 + 2 + i)) else none)) → (gL (135 + 61) = za ca 59 (s0.2.2.1)) → (gL (135 + 62) = na ca 75 (f1)) → (gL (6) = .inr (4, [.ref (ad (6 + 1)), .int (nI ((pkOut ck x ctn pl0).2.1))])) → (gL (6 + 1) = na ca 59 ((pkOut ck x ctn pl0).1)) → (gL (134) = .inr (1, [.ref (ad 135), .int (nI ck), .int (nI ct), .int (nI ctn), .int (nI cn)])) → (∀ p9, p9 < 59 → gL (135 + 2 + p9) = na ca 75 (s0.2.1 p9)) → Wd D (AA R ad sz) s R ad gL H locs → lv_has ls 3 [(0, .ref (ad 0)), (1, .int (nI x)), (2, .int (nI i))] → W p l e rm_X7_catchFromTape s m args below meth c H locs 0 0 Q (F0 m 38 ls []) := by
    intro fuel
    induction fuel with
    | zero =>
      intro i f1 gL H locs ls hfu38
      exact absurd hfu38 (by omega)
    | succ fuel38 ih38 =>
      intro i f1 gL H locs ls hfu38 hi hf1 hsL38 eL38_0 eL38_1 eL38_2 eL38_3 eL38_4 eL38_5 eL38_6 hrL38_0 hw hl
      have e35 : gL (0) = .inr (7, [.ref (ad 1), .ref (ad 4), .ref (ad 6), .ref (ad 8), .ref (ad 71), .ref (ad 73), .ref (ad 134)]) := (hsL38 _ (by omega)).trans eO
      have e36 : gL (1) = .inr (3, [.ref (ad (1 + 1)), .ref (ad (1 + 2))]) := (hsL38 _ (by omega)).trans hF.1
      have e37 : gL (1 + 1) = na ca 510 (pw) := (hsL38 _ (by omega)).trans hF.2.1
      have e38 : gL (1 + 2) = na ca 256 (ex) := (hsL38 _ (by omega)).trans hF.2.2
      have e39 : gL (4) = .inr (5, [.ref (ad (4 + 1)), .int (nI len)]) := (hsL38 _ (by omega)).trans hT4.1
      have e40 : gL (4 + 1) = na ca 800 (h) := (hsL38 _ (by omega)).trans hT4.2
      refine lv_iload_n C.1 C.2.1 dX7_catchFromTape_38 rfl (lv_at hl 2 rfl) ?_
      refine lv_aload_n C.1 C.2.1 dX7_catchFromTape_39 rfl (lv_at hl 0 rfl) ?_
      refine k_get C F hw (0) (by omega) e35 rfl in_X7 6 (by decide) fl_X7_58 rfl dX7_catchFromTape_40 ?_
      refine k_getN C F hw (134) (by omega) eL38_6 rfl in_X1 2 (by decide) fl_X7_148 rfl dX7_catchFromTape_43 ?_
      refine k_ige (tgt := 75) C dX7_catchFromTape_46 (by decide) (by omega) (by omega) (fun hc46 => ?_) (fun hc46 => ?_)
      · refine lv_aload_n C.1 C.2.1 dX7_catchFromTape_75 rfl (lv_at hl 0 rfl) ?_
        refine k_get C F hw (0) (by omega) e35 rfl in_X7 6 (by decide) fl_X7_58 rfl dX7_catchFromTape_76 ?_
        have hfe : f1 = lnVal h ct (lnPk ct (pkOut ck x ctn pl0).2.1 (pkOut ck x ctn pl0).1 s0.2.2.2) := by rw [hf1, show i = ct by omega]; rfl
        have hE41 : EqAt ca ad gL 135 1 (ck + 11) ct s0.1 s0.2.1 s0.2.2.1 f1 := ⟨eL38_0, eL38_1, hrL38_0, eL38_2, eL38_3⟩
        have hF42 : FieldAt ca ad gL 1 pw ex := ⟨e36, e37, e38⟩
        have hEi : EqAtS ca ad gL 135 1 (ck + 11) ct (inS ct h (pkOut ck x ctn pl0) s0) := by rw [hfe] at hE41; exact hE41
        have hbi : EqBy (inS ct h (pkOut ck x ctn pl0) s0) := inS_by (fun i _ => hh _) hB0
        refine k_Vi C F hw (i := 134) (As := []) (rest := []) (c_X1_catchLine pw ex hF42 hX hP hR ck ct ctn cn eL38_6 (ck + 11) ct (inS ct h (pkOut ck x ctn pl0) s0) hEi hbi (by omega) (by omega)) (by omega) eL38_6 rfl (cwV _ C.2.2.2.2 gm_X7_192 rfl rfl rfl cd_X1_catchLine ⟨by decide, by decide⟩) hl.1 rfl (Nat.le_of_ble_eq_true rfl) dX7_catchFromTape_79 ⟨by decide, by decide⟩ (fun r43 g44 H locs hp hw => ?_)
        obtain ⟨hs45, hr9, hC47, hE46⟩ := hp
        subst hr9
        have e48 : g44 (0) = .inr (7, [.ref (ad 1), .ref (ad 4), .ref (ad 6), .ref (ad 8), .ref (ad 71), .ref (ad 73), .ref (ad 134)]) := (hs45 _ (by omega)).trans e35
        have e49 : g44 (1) = .inr (3, [.ref (ad (1 + 1)), .ref (ad (1 + 2))]) := (hs45 _ (by omega)).trans e36
        have e50 : g44 (1 + 1) = na ca 510 (pw) := (hs45 _ (by omega)).trans e37
        have e51 : g44 (1 + 2) = na ca 256 (ex) := (hs45 _ (by omega)).trans e38
        have e52 : g44 (4) = .inr (5, [.ref (ad (4 + 1)), .int (nI len)]) := (hs45 _ (by omega)).trans e39
        have e53 : g44 (4 + 1) = na ca 800 (h) := (hs45 _ (by omega)).trans e40
        have e54 : g44 (6) = .inr (4, [.ref (ad (6 + 1)), .int (nI ((pkOut ck x ctn pl0).2.1))]) := (hs45 _ (by omega)).trans eL38_4
        have e55 : g44 (6 + 1) = na ca 59 ((pkOut ck x ctn pl0).1) := (hs45 _ (by omega)).trans eL38_5
        have hs56 : ∀ z, (z < 6 ∨ 7 < z ∧ z < 134 ∨ 197 < z) → g44 z = g z := fun z hz => (hs45 z (by omega)).trans (hsL38 z hz)
        have hK57 : PkAt ca ad g44 6 ((pkOut ck x ctn pl0).2.1) ((pkOut ck x ctn pl0).1) := ⟨e54, e55⟩
        exact hret H locs ls _ _ _ dX7_catchFromTape_82 hw (⟨hs56, rfl, hC47, hE46, hbi, ⟨_, _, hK57⟩⟩)
      · refine lv_aload_n C.1 C.2.1 dX7_catchFromTape_49 rfl (lv_at hl 0 rfl) ?_
        refine k_get C F hw (0) (by omega) e35 rfl in_X7 6 (by decide) fl_X7_58 rfl dX7_catchFromTape_50 ?_
        refine k_getN C F hw (134) (by omega) eL38_6 rfl in_X1 0 (by decide) fl_X7_152 rfl dX7_catchFromTape_53 ?_
        refine lv_iload_n C.1 C.2.1 dX7_catchFromTape_56 rfl (lv_at hl 2 rfl) ?_
        refine lv_aload_n C.1 C.2.1 dX7_catchFromTape_57 rfl (lv_at hl 0 rfl) ?_
        refine k_get C F hw (0) (by omega) e35 rfl in_X7 1 (by decide) fl_X7_19 rfl dX7_catchFromTape_58 ?_
        refine k_getN C F hw (4) (by omega) e39 rfl in_X5 0 (by decide) fl_X7_181 rfl dX7_catchFromTape_61 ?_
        refine lv_iload_n C.1 C.2.1 dX7_catchFromTape_64 rfl (lv_at hl 2 rfl) ?_
        refine k_iald C F hw (4 + 1) (by omega) e40 (i) (by omega) (by decide) dX7_catchFromTape_65 ?_
        have hE58 : EqAt ca ad gL 135 1 (ck + 11) ct s0.1 s0.2.1 s0.2.2.1 f1 := ⟨eL38_0, eL38_1, hrL38_0, eL38_2, eL38_3⟩
        refine k_Vv C F hw (i := 135) (As := [.int (nI i), .int (nI (h i))]) (rest := []) (c_X2_setValue 135 1 (ck + 11) ct s0.1 s0.2.1 s0.2.2.1 f1 hE58 (by omega) (by omega) (by omega) i (h i) (by omega)) (by omega) eL38_0 rfl (cwV _ C.2.2.2.2 gm_X7_185 rfl rfl rfl cd_X2_setValue ⟨by decide, by decide⟩) hl.1 rfl (Nat.le_of_ble_eq_true rfl) dX7_catchFromTape_66 ⟨by decide, by decide⟩ (fun g60 H locs hp hw => ?_)
        obtain ⟨hs61, hE62⟩ := hp
        have e63 : g60 (0) = .inr (7, [.ref (ad 1), .ref (ad 4), .ref (ad 6), .ref (ad 8), .ref (ad 71), .ref (ad 73), .ref (ad 134)]) := (hs61 _ (by omega)).trans e35
        have e64 : g60 (1) = .inr (3, [.ref (ad (1 + 1)), .ref (ad (1 + 2))]) := (hs61 _ (by omega)).trans e36
        have e65 : g60 (1 + 1) = na ca 510 (pw) := (hs61 _ (by omega)).trans e37
        have e66 : g60 (1 + 2) = na ca 256 (ex) := (hs61 _ (by omega)).trans e38
        have e67 : g60 (134) = .inr (1, [.ref (ad 135), .int (nI ck), .int (nI ct), .int (nI ctn), .int (nI cn)]) := (hs61 _ (by omega)).trans eL38_6
        have e68 : g60 (4) = .inr (5, [.ref (ad (4 + 1)), .int (nI len)]) := (hs61 _ (by omega)).trans e39
        have e69 : g60 (4 + 1) = na ca 800 (h) := (hs61 _ (by omega)).trans e40
        have e70 : g60 (6) = .inr (4, [.ref (ad (6 + 1)), .int (nI ((pkOut ck x ctn pl0).2.1))]) := (hs61 _ (by omega)).trans eL38_4
        have e71 : g60 (6 + 1) = na ca 59 ((pkOut ck x ctn pl0).1) := (hs61 _ (by omega)).trans eL38_5
        have hs72 : ∀ z, (z < 6 ∨ 7 < z ∧ z < 134 ∨ 197 < z) → g60 z = g z := fun z hz => (hs61 z (by omega)).trans (hsL38 z hz)
        refine k_inc C (i + 1) (lv' := [(2, .int (nI (i + 1))), (0, .ref (ad 0)), (1, .int (nI x))]) dX7_catchFromTape_69 hl (k := 2) rfl (inc1 _) (by decide) rfl (fun ls hl => ?_)
        refine lv_goto (tgt := 38) C.1 C.2.1 dX7_catchFromTape_72 (by decide) ?_
        exact ih38 (i + 1) (va_up f1 i (h i)) g60 H locs ls (by omega) (by omega) (by rw [fr_s, ← hf1]; rfl) hs72 hE62.1 hE62.2.1 hE62.2.2.2.1 hE62.2.2.2.2 e70 e71 e67 hE62.2.2.1 hw (lv_sub hl [1, 2, 0] rfl)
  exact loop38 _ 0 (lnPk ct (pkOut ck x ctn pl0).2.1 (pkOut ck x ctn pl0).1 s0.2.2.2) g22 H locs ls (Nat.le_refl _) (by omega) ((fr_0 _ _).symm) hs34 hE24.1 hE24.2.1 hE24.2.2.2.1 hE24.2.2.2.2 e32 e33 e29 hE24.2.2.1 hw (lv_sub hl [1, 2, 0] rfl)

abbrev rm_X7_catcherDerives : Room := { frames := 3, cells := 0, slots := 0, locals := 78 }

set_option maxHeartbeats 800000 in
set_option maxRecDepth 100000 in
/-- FountainDesk.catcherDerives -/
theorem c_X7_catcherDerives {l : Launch} {D : va_G} {ca : Nat → ClassId} {tB tS R : Nat} {ad : Nat → Nat} {g : Nat → va_E} {sz : Nat} (pw ex : Nat → Nat) (hF : FieldAt ca ad g 1 pw ex) (hX : ExOk ex) (hP : PwOk pw) (hR : 197 < R) (eO : DeskAt ad g) (ck ct ctn cn : Nat) (hC : CtAt ca ad g ck ct ctn cn) (hck : 1 ≤ ck ∧ ck ≤ 48) (hct : 1 ≤ ct ∧ ct ≤ 16) (hctn : ctn ≤ 1000) (s0 : EqS) (hE : EqAtS ca ad g 135 1 (ck + 11) ct s0) (hB0 : EqBy s0) (v0 : Nat) (pl0 : Nat → Nat) (hK : PkAt ca ad g 6 v0 pl0) (x : Nat) (hx : x < 65536)  : MI l yX7_catcherDerives cX7_catcherDerives 2 .boolean rm_X7_catcherDerives D ca tB tS R ad g sz [.ref (ad 0), .int (nI x)] (fun r g1 => (∀ z, (z < 6 ∨ 7 < z ∧ z < 134 ∨ 197 < z) → g1 z = g z) ∧ r = bI (drv pw ex ck ct x ctn s0 pl0) ∧ CtAt ca ad g1 ck ct ctn cn ∧ EqAt ca ad g1 135 1 (ck + 11) ct s0.1 s0.2.1 s0.2.2.1 (lnRed pw ex (ck + 11) ct s0.2.1 s0.2.2.1 (lnPk ct (pkOut ck x ctn pl0).2.1 (pkOut ck x ctn pl0).1 s0.2.2.2)) ∧ By (lnRed pw ex (ck + 11) ct s0.2.1 s0.2.2.1 (lnPk ct (pkOut ck x ctn pl0).2.1 (pkOut ck x ctn pl0).1 s0.2.2.2)) ∧ PkWf ca ad g1) := by
  refine m_startZ (by decide +kernel) (Nat.le_of_ble_eq_true rfl) (fun p e s m args below meth c ls Q hsz C hl F hw hret => ?_)
  have hl : lv_has ls 2 [(0, .ref (ad 0)), (1, .int (nI x))] := hl
  generalize s.heap = H at hw ⊢
  generalize ([] : List Loc) = locs at hw ⊢
  refine lv_aload_n C.1 C.2.1 dX7_catcherDerives_0 rfl (lv_at hl 0 rfl) ?_
  refine k_get C F hw (0) (by omega) eO rfl in_X7 2 (by decide) fl_X7_26 rfl dX7_catcherDerives_1 ?_
  refine lv_aload_n C.1 C.2.1 dX7_catcherDerives_4 rfl (lv_at hl 0 rfl) ?_
  refine k_get C F hw (0) (by omega) eO rfl in_X7 6 (by decide) fl_X7_58 rfl dX7_catcherDerives_5 ?_
  refine k_getN C F hw (134) (by omega) hC rfl in_X1 1 (by decide) fl_X7_147 rfl dX7_catcherDerives_8 ?_
  refine lv_iload_n C.1 C.2.1 dX7_catcherDerives_11 rfl (lv_at hl 1 rfl) ?_
  refine lv_aload_n C.1 C.2.1 dX7_catcherDerives_12 rfl (lv_at hl 0 rfl) ?_
  refine k_get C F hw (0) (by omega) eO rfl in_X7 6 (by decide) fl_X7_58 rfl dX7_catcherDerives_13 ?_
  refine k_getN C F hw (134) (by omega) hC rfl in_X1 3 (by decide) fl_X7_191 rfl dX7_catcherDerives_16 ?_
  refine k_Vv C F hw (i := 6) (As := [.int (nI ck), .int (nI x), .int (nI ctn)]) (rest := []) (c_X4_find 6 ck x ctn v0 pl0 (by omega) hck hx hctn hK.1 hK.2) (by omega) hK.1 rfl (cwV _ C.2.2.2.2 gm_X7_116 rfl rfl rfl cd_X4_find ⟨by decide, by decide⟩) hl.1 rfl (Nat.le_of_ble_eq_true rfl) dX7_catcherDerives_19 ⟨by decide, by decide⟩ (fun g2 H locs hp hw => ?_)
  obtain ⟨hs3, e4, e5⟩ := hp
  have e6 : g2 (0) = .inr (7, [.ref (ad 1), .ref (ad 4), .ref (ad 6), .ref (ad 8), .ref (ad 71), .ref (ad 73), .ref (ad 134)]) := (hs3 _ (by omega)).trans eO
  have e7 : g2 (1) = .inr (3, [.ref (ad (1 + 1)), .ref (ad (1 + 2))]) := (hs3 _ (by omega)).trans hF.1
  have e8 : g2 (1 + 1) = na ca 510 (pw) := (hs3 _ (by omega)).trans hF.2.1
  have e9 : g2 (1 + 2) = na ca 256 (ex) := (hs3 _ (by omega)).trans hF.2.2
  have e10 : g2 (134) = .inr (1, [.ref (ad 135), .int (nI ck), .int (nI ct), .int (nI ctn), .int (nI cn)]) := (hs3 _ (by omega)).trans hC
  have e11 : g2 (135) = .inr (2, [.ref (ad 1), .ref (ad (135 + 1)), .ref (ad (135 + 61)), .ref (ad (135 + 62)), .int (nI (ck + 11)), .int (nI ct), .int (nI (s0.1))]) := (hs3 _ (by omega)).trans hE.1
  have e12 : g2 (135 + 1) = qa ca 59 (fun i => if i < 59 then some (ad (135 + 2 + i)) else none) := (hs3 _ (by omega)).trans hE.2.1
  have e13 : g2 (135 + 61) = za ca 59 (s0.2.2.1) := (hs3 _ (by omega)).trans hE.2.2.2.1
  have e14 : g2 (135 + 62) = na ca 75 (s0.2.2.2) := (hs3 _ (by omega)).trans hE.2.2.2.2
  have hr15 : ∀ p9, p9 < 59 → g2 (135 + 2 + p9) = na ca 75 (s0.2.1 p9) := fun p9 hp9 => (hs3 _ (by omega)).trans (hE.2.2.1 p9 hp9)
  have hs16 : ∀ z, (z < 6 ∨ 7 < z ∧ z < 134 ∨ 197 < z) → g2 z = g z := fun z hz => hs3 z (by omega)
  have hpk := pkOut_ok ck x ctn pl0 (by omega)
  refine lv_aload_n C.1 C.2.1 dX7_catcherDerives_22 rfl (lv_at hl 0 rfl) ?_
  refine k_get C F hw (0) (by omega) e6 rfl in_X7 6 (by decide) fl_X7_58 rfl dX7_catcherDerives_23 ?_
  refine k_getN C F hw (134) (by omega) e10 rfl in_X1 0 (by decide) fl_X7_152 rfl dX7_catcherDerives_26 ?_
  refine lv_aload_n C.1 C.2.1 dX7_catcherDerives_29 rfl (lv_at hl 0 rfl) ?_
  refine k_get C F hw (0) (by omega) e6 rfl in_X7 2 (by decide) fl_X7_26 rfl dX7_catcherDerives_30 ?_
  have hE17 : EqAt ca ad g2 135 1 (ck + 11) ct s0.1 s0.2.1 s0.2.2.1 s0.2.2.2 := ⟨e11, e12, hr15, e13, e14⟩
  have hF18 : FieldAt ca ad g2 1 pw ex := ⟨e7, e8, e9⟩
  have hK19 : PkAt ca ad g2 6 ((pkOut ck x ctn pl0).2.1) ((pkOut ck x ctn pl0).1) := ⟨e4, e5⟩
  refine k_Vi C F hw (i := 135) (As := [.ref (ad 6)]) (rest := []) (c_X2_derive 135 1 (ck + 11) ct s0.1 s0.2.1 s0.2.2.1 s0.2.2.2 hE17 (by omega) (by omega) (by omega) pw ex hF18 hX hP (by omega) hB0.1 hB0.2 6 ((pkOut ck x ctn pl0).2.1) ((pkOut ck x ctn pl0).1) hK19 (by omega) (by omega) (fun j hj => by have := hpk.1 j hj; omega)) (by omega) e11 rfl (cwV _ C.2.2.2.2 gm_X7_195 rfl rfl rfl cd_X2_derive ⟨by decide, by decide⟩) hl.1 rfl (Nat.le_of_ble_eq_true rfl) dX7_catcherDerives_33 ⟨by decide, by decide⟩ (fun r20 g21 H locs hp hw => ?_)
  obtain ⟨hs22, hr9, hE23⟩ := hp
  have hr8 : r20 = bI (drv pw ex ck ct x ctn s0 pl0) := by rw [hr9, drv_eq]
  clear hr9
  subst hr8
  have e24 : g21 (0) = .inr (7, [.ref (ad 1), .ref (ad 4), .ref (ad 6), .ref (ad 8), .ref (ad 71), .ref (ad 73), .ref (ad 134)]) := (hs22 _ (by omega)).trans e6
  have e25 : g21 (1) = .inr (3, [.ref (ad (1 + 1)), .ref (ad (1 + 2))]) := (hs22 _ (by omega)).trans e7
  have e26 : g21 (1 + 1) = na ca 510 (pw) := (hs22 _ (by omega)).trans e8
  have e27 : g21 (1 + 2) = na ca 256 (ex) := (hs22 _ (by omega)).trans e9
  have e28 : g21 (134) = .inr (1, [.ref (ad 135), .int (nI ck), .int (nI ct), .int (nI ctn), .int (nI cn)]) := (hs22 _ (by omega)).trans e10
  have e29 : g21 (6) = .inr (4, [.ref (ad (6 + 1)), .int (nI ((pkOut ck x ctn pl0).2.1))]) := (hs22 _ (by omega)).trans e4
  have e30 : g21 (6 + 1) = na ca 59 ((pkOut ck x ctn pl0).1) := (hs22 _ (by omega)).trans e5
  have hs31 : ∀ z, (z < 6 ∨ 7 < z ∧ z < 134 ∨ 197 < z) → g21 z = g z := fun z hz => (hs22 z (by omega)).trans (hs16 z hz)
  have hK32 : PkAt ca ad g21 6 ((pkOut ck x ctn pl0).2.1) ((pkOut ck x ctn pl0).1) := ⟨e29, e30⟩
  exact hret H locs ls _ (drv pw ex ck ct x ctn s0 pl0) _ _ dX7_catcherDerives_36 hw (by rfl) (⟨hs31, rfl, e28, hE23, By.red hP (By.pk hB0.2), ⟨_, _, hK32⟩⟩)
