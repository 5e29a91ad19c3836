/-! ===== FountainDesk: its private methods ===== -/
def DeskAt (ad : Nat → Nat) (g : Nat → va_E) : Prop := g 0 = .inr (7, [.ref (ad 1), .ref (ad 4), .ref (ad 6), .ref (ad 8), .ref (ad 71), .ref (ad 73), .ref (ad 134)])
def TpAt (ca : Nat → ClassId) (ad : Nat → Nat) (g : Nat → va_E) (len : Nat) (h : Nat → Nat) : Prop := g 4 = .inr (5, [.ref (ad (4 + 1)), .int (nI len)]) ∧ g (4 + 1) = na ca 800 h
def lnVal1 (V : Nat → Nat) (i : Nat) (ln : Nat → Nat) : Nat → Nat := va_up ln i (V i)
def lnVal (V : Nat → Nat) (T : Nat) (ln : Nat → Nat) : Nat → Nat := fr (lnVal1 V) T ln
theorem By.val {V ln : Nat → Nat} {T : Nat} (hV : ∀ i, i < T → V i < 256) (h : By ln) : By (lnVal V T ln) := by
  unfold lnVal
  induction T with
  | zero => exact h
  | succ n ih => exact By.up (ih (fun i hi => hV i (by omega))) (hV n (by omega))
/-- the line of a packet with values -/
noncomputable def inS (T : Nat) (V : Nat → Nat) (o : (Nat → Nat) × Nat × Nat) (s : EqS) : EqS := (s.1, s.2.1, s.2.2.1, lnVal V T (lnPk T o.2.1 o.1 s.2.2.2))
theorem inS_by {T : Nat} {V : Nat → Nat} {o : (Nat → Nat) × Nat × Nat} {s : EqS} (hV : ∀ i, i < T → V i < 256) (h : EqBy s) : EqBy (inS T V o s) := ⟨h.1, By.val hV (By.pk h.2)⟩
noncomputable def svSt (pw ex : Nat → Nat) (k T t : Nat) (h : Nat → Nat) (x : Nat) (s : FlS) : FlS := (learnS pw ex (k + 11) T (inS T (fun i => h (x * T + i)) (pkOut k x t s.2.1) s.1), (pkOut k x t s.2.1).1, (pkOut k x t s.2.1).2.1)
theorem svSt_1 (pw ex : Nat → Nat) (k T t : Nat) (h : Nat → Nat) (x : Nat) (s : FlS) : (svSt pw ex k T t h x s).1 = learnS pw ex (k + 11) T (inS T (fun i => h (x * T + i)) (pkOut k x t s.2.1) s.1) := rfl
noncomputable def svAt (pw ex : Nat → Nat) (k T t : Nat) (h : Nat → Nat) (s : EqS) (pl : Nat → Nat) (x : Nat) : FlS := fr (svSt pw ex k T t h) x (startS pw ex k T s, pl, 0)
theorem svAt_s (pw ex : Nat → Nat) (k T t : Nat) (h : Nat → Nat) (s : EqS) (pl : Nat → Nat) (x : Nat) : svAt pw ex k T t h s pl (x + 1) = svSt pw ex k T t h x (svAt pw ex k T t h s pl x) := by
  unfold svAt
  rw [fr_s]
theorem svAt_0 (pw ex : Nat → Nat) (k T t : Nat) (h : Nat → Nat) (s : EqS) (pl : Nat → Nat) : svAt pw ex k T t h s pl 0 = (startS pw ex k T s, pl, 0) := by
  unfold svAt
  rw [fr_0]
theorem vlN_by {BM : Nat → Nat → Nat} {pl : Nat → Nat} {i : Nat} (h : ∀ p, By (BM p)) : ∀ v, vlN BM pl i v < 256
  | 0 => Nat.lt_of_lt_of_le (show 0 < 1 by decide) (by decide)
  | v + 1 => xor_by (vlN_by h v) (h _ _)

abbrev rm_X7_isSymbolCount : Room := { frames := 0, cells := 0, slots := 0, locals := 0 }

set_option maxHeartbeats 800000 in
set_option maxRecDepth 100000 in
theorem c_X7_isSymbolCount {l : Launch} {D : va_G} {ca : Nat → ClassId} {tB tS R : Nat} {ad : Nat → Nat} {g : Nat → va_E} {sz : Nat} (k : Int32) : MI l yX7_isSymbolCount cX7_isSymbolCount 1 .boolean rm_X7_isSymbolCount D ca tB tS R ad g sz [.int (k)] (fun r g1 => r = bI (decide (1 ≤ k ∧ k ≤ 48)) ∧ g1 = g) := by
  refine m_startZ (by decide +kernel) (Nat.le_of_ble_eq_true rfl) (fun p e s m args below meth c ls Q hsz C hl F hw hret => ?_)
  have hl : lv_has ls 1 [(0, .int (k))] := hl
  generalize s.heap = H at hw ⊢
  generalize ([] : List Loc) = locs at hw ⊢
  refine lv_iload_n C.1 C.2.1 dX7_isSymbolCount_0 rfl (lv_at hl 0 rfl) ?_
  refine k_icn C 1 dX7_isSymbolCount_1 (by decide) ?_
  refine lv_icmp_lt (tgt := 15) C.1 C.2.1 dX7_isSymbolCount_2 (by decide) (fun hc2 => ?_) (fun hc2 => ?_)
  · refine k_icn C 0 dX7_isSymbolCount_15 (by decide) ?_
    exact hret H locs ls _ false _ _ dX7_isSymbolCount_16 hw (by rfl) (⟨by rw [show decide (1 ≤ k ∧ k ≤ 48) = false from decide_eq_false (fun z => by first | exact absurd z.1 (Int32.not_le.mpr hc2) | exact absurd z.2 (Int32.not_le.mpr hc8))], rfl⟩)
  · refine lv_iload_n C.1 C.2.1 dX7_isSymbolCount_5 rfl (lv_at hl 0 rfl) ?_
    refine k_bip C 48 dX7_isSymbolCount_6 (by decide) ?_
    refine lv_icmp_gt (tgt := 15) C.1 C.2.1 dX7_isSymbolCount_8 (by decide) (fun hc8 => ?_) (fun hc8 => ?_)
    · refine k_icn C 0 dX7_isSymbolCount_15 (by decide) ?_
      exact hret H locs ls _ false _ _ dX7_isSymbolCount_16 hw (by rfl) (⟨by rw [show decide (1 ≤ k ∧ k ≤ 48) = false from decide_eq_false (fun z => by first | exact absurd z.1 (Int32.not_le.mpr hc2) | exact absurd z.2 (Int32.not_le.mpr hc8))], rfl⟩)
    · refine k_icn C 1 dX7_isSymbolCount_11 (by decide) ?_
      refine lv_goto (tgt := 16) C.1 C.2.1 dX7_isSymbolCount_12 (by decide) ?_
      exact hret H locs ls _ true _ _ dX7_isSymbolCount_16 hw (by rfl) (⟨by rw [show decide (1 ≤ k ∧ k ≤ 48) = true from decide_eq_true ⟨Int32.not_lt.mp hc2, Int32.not_lt.mp hc8⟩], rfl⟩)

abbrev rm_X7_isByteCount : Room := { frames := 0, cells := 0, slots := 0, locals := 0 }

set_option maxHeartbeats 800000 in
set_option maxRecDepth 100000 in
theorem c_X7_isByteCount {l : Launch} {D : va_G} {ca : Nat → ClassId} {tB tS R : Nat} {ad : Nat → Nat} {g : Nat → va_E} {sz : Nat} (k : Int32) : MI l yX7_isByteCount cX7_isByteCount 1 .boolean rm_X7_isByteCount D ca tB tS R ad g sz [.int (k)] (fun r g1 => r = bI (decide (1 ≤ k ∧ k ≤ 16)) ∧ g1 = g) := by
  refine m_startZ (by decide +kernel) (Nat.le_of_ble_eq_true rfl) (fun p e s m args below meth c ls Q hsz C hl F hw hret => ?_)
  have hl : lv_has ls 1 [(0, .int (k))] := hl
  generalize s.heap = H at hw ⊢
  generalize ([] : List Loc) = locs at hw ⊢
  refine lv_iload_n C.1 C.2.1 dX7_isByteCount_0 rfl (lv_at hl 0 rfl) ?_
  refine k_icn C 1 dX7_isByteCount_1 (by decide) ?_
  refine lv_icmp_lt (tgt := 15) C.1 C.2.1 dX7_isByteCount_2 (by decide) (fun hc2 => ?_) (fun hc2 => ?_)
  · refine k_icn C 0 dX7_isByteCount_15 (by decide) ?_
    exact hret H locs ls _ false _ _ dX7_isByteCount_16 hw (by rfl) (⟨by rw [show decide (1 ≤ k ∧ k ≤ 16) = false from decide_eq_false (fun z => by first | exact absurd z.1 (Int32.not_le.mpr hc2) | exact absurd z.2 (Int32.not_le.mpr hc8))], rfl⟩)
  · refine lv_iload_n C.1 C.2.1 dX7_isByteCount_5 rfl (lv_at hl 0 rfl) ?_
    refine k_bip C 16 dX7_isByteCount_6 (by decide) ?_
    refine lv_icmp_gt (tgt := 15) C.1 C.2.1 dX7_isByteCount_8 (by decide) (fun hc8 => ?_) (fun hc8 => ?_)
    · refine k_icn C 0 dX7_isByteCount_15 (by decide) ?_
      exact hret H locs ls _ false _ _ dX7_isByteCount_16 hw (by rfl) (⟨by rw [show decide (1 ≤ k ∧ k ≤ 16) = false from decide_eq_false (fun z => by first | exact absurd z.1 (Int32.not_le.mpr hc2) | exact absurd z.2 (Int32.not_le.mpr hc8))], rfl⟩)
    · refine k_icn C 1 dX7_isByteCount_11 (by decide) ?_
      refine lv_goto (tgt := 16) C.1 C.2.1 dX7_isByteCount_12 (by decide) ?_
      exact hret H locs ls _ true _ _ dX7_isByteCount_16 hw (by rfl) (⟨by rw [show decide (1 ≤ k ∧ k ≤ 16) = true from decide_eq_true ⟨Int32.not_lt.mp hc2, Int32.not_lt.mp hc8⟩], rfl⟩)

abbrev rm_X7_isPacket : Room := { frames := 0, cells := 0, slots := 0, locals := 0 }

set_option maxHeartbeats 800000 in
set_option maxRecDepth 100000 in
theorem c_X7_isPacket {l : Launch} {D : va_G} {ca : Nat → ClassId} {tB tS R : Nat} {ad : Nat → Nat} {g : Nat → va_E} {sz : Nat} (k : Int32) : MI l yX7_isPacket cX7_isPacket 1 .boolean rm_X7_isPacket D ca tB tS R ad g sz [.int (k)] (fun r g1 => r = bI (decide (0 ≤ k ∧ k < 65536)) ∧ g1 = g) := by
  refine m_startZ (by decide +kernel) (Nat.le_of_ble_eq_true rfl) (fun p e s m args below meth c ls Q hsz C hl F hw hret => ?_)
  have hl : lv_has ls 1 [(0, .int (k))] := hl
  generalize s.heap = H at hw ⊢
  generalize ([] : List Loc) = locs at hw ⊢
  refine lv_iload_n C.1 C.2.1 dX7_isPacket_0 rfl (lv_at hl 0 rfl) ?_
  refine lv_if_lt (tgt := 14) C.1 C.2.1 dX7_isPacket_1 (by decide) (fun hc1 => ?_) (fun hc1 => ?_)
  · refine k_icn C 0 dX7_isPacket_14 (by decide) ?_
    exact hret H locs ls _ false _ _ dX7_isPacket_15 hw (by rfl) (⟨by rw [show decide (0 ≤ k ∧ k < 65536) = false from decide_eq_false (fun z => by first | exact absurd hc1 (Int32.not_lt.mpr z.1) | exact absurd z.2 (Int32.not_lt.mpr hc7))], rfl⟩)
  · refine lv_iload_n C.1 C.2.1 dX7_isPacket_4 rfl (lv_at hl 0 rfl) ?_
    refine lv_ldc (v := 65536) C.1 C.2.1 C.2.2.2.1 (C.2.2.2.2 _ kc_X7_140) dX7_isPacket_5 ?_
    refine k_ti (show (65536 : Int32) = nI 65536 from by decide) ?_
    refine lv_icmp_ge (tgt := 14) C.1 C.2.1 dX7_isPacket_7 (by decide) (fun hc7 => ?_) (fun hc7 => ?_)
    · refine k_icn C 0 dX7_isPacket_14 (by decide) ?_
      exact hret H locs ls _ false _ _ dX7_isPacket_15 hw (by rfl) (⟨by rw [show decide (0 ≤ k ∧ k < 65536) = false from decide_eq_false (fun z => by first | exact absurd hc1 (Int32.not_lt.mpr z.1) | exact absurd z.2 (Int32.not_lt.mpr hc7))], rfl⟩)
    · refine k_icn C 1 dX7_isPacket_10 (by decide) ?_
      refine lv_goto (tgt := 15) C.1 C.2.1 dX7_isPacket_11 (by decide) ?_
      exact hret H locs ls _ true _ _ dX7_isPacket_15 hw (by rfl) (⟨by rw [show decide (0 ≤ k ∧ k < 65536) = true from decide_eq_true ⟨Int32.not_lt.mp hc1, Int32.not_le.mp hc7⟩], rfl⟩)

abbrev rm_X7_blockFitsCatcher : Room := { frames := 0, cells := 0, slots := 0, locals := 0 }

set_option maxHeartbeats 800000 in
set_option maxRecDepth 100000 in
theorem c_X7_blockFitsCatcher {l : Launch} {D : va_G} {ca : Nat → ClassId} {tB tS R : Nat} {ad : Nat → Nat} {g : Nat → va_E} {sz : Nat} (hR : 197 < R) (eO : DeskAt ad g) (bk bt btn : Nat) (BM : Nat → Nat → Nat) (hB : BlkAt ca ad g bk bt btn BM) (ck ct ctn cn : Nat) (hC : CtAt ca ad g ck ct ctn cn) (h1 : bk ≤ 48 ∧ bt ≤ 16 ∧ ck ≤ 48 ∧ ct ≤ 16) : MI l yX7_blockFitsCatcher cX7_blockFitsCatcher 1 .boolean rm_X7_blockFitsCatcher D ca tB tS R ad g sz [.ref (ad 0)] (fun r g1 => r = bI (decide (bk ≠ 0 ∧ bk = ck ∧ bt = ct)) ∧ g1 = g) := by
  refine m_startZ (by decide +kernel) (Nat.le_of_ble_eq_true rfl) (fun p e s m args below meth c ls Q hsz C hl F hw hret => ?_)
  have hl : lv_has ls 1 [(0, .ref (ad 0))] := hl
  generalize s.heap = H at hw ⊢
  generalize ([] : List Loc) = locs at hw ⊢
  refine lv_aload_n C.1 C.2.1 dX7_blockFitsCatcher_0 rfl (lv_at hl 0 rfl) ?_
  refine k_get C F hw (0) (by omega) eO rfl in_X7 5 (by decide) fl_X7_51 rfl dX7_blockFitsCatcher_1 ?_
  refine k_getN C F hw (73) (by omega) hB.1 rfl in_X0 1 (by decide) fl_X7_98 rfl dX7_blockFitsCatcher_4 ?_
  refine k_zeq (tgt := 48) C dX7_blockFitsCatcher_7 (by decide) (by omega) (fun hc7 => ?_) (fun hc7 => ?_)
  · refine k_icn C 0 dX7_blockFitsCatcher_48 (by decide) ?_
    exact hret H locs ls _ false _ _ dX7_blockFitsCatcher_49 hw (by rfl) (⟨by rw [show decide (bk ≠ 0 ∧ bk = ck ∧ bt = ct) = false from decide_eq_false (by omega)], rfl⟩)
  · refine lv_aload_n C.1 C.2.1 dX7_blockFitsCatcher_10 rfl (lv_at hl 0 rfl) ?_
    refine k_get C F hw (0) (by omega) eO rfl in_X7 5 (by decide) fl_X7_51 rfl dX7_blockFitsCatcher_11 ?_
    refine k_getN C F hw (73) (by omega) hB.1 rfl in_X0 1 (by decide) fl_X7_98 rfl dX7_blockFitsCatcher_14 ?_
    refine lv_aload_n C.1 C.2.1 dX7_blockFitsCatcher_17 rfl (lv_at hl 0 rfl) ?_
    refine k_get C F hw (0) (by omega) eO rfl in_X7 6 (by decide) fl_X7_58 rfl dX7_blockFitsCatcher_18 ?_
    refine k_getN C F hw (134) (by omega) hC rfl in_X1 1 (by decide) fl_X7_147 rfl dX7_blockFitsCatcher_21 ?_
    refine k_ine (tgt := 48) C dX7_blockFitsCatcher_24 (by decide) (by omega) (by omega) (fun hc24 => ?_) (fun hc24 => ?_)
    · refine k_icn C 0 dX7_blockFitsCatcher_48 (by decide) ?_
      exact hret H locs ls _ false _ _ dX7_blockFitsCatcher_49 hw (by rfl) (⟨by rw [show decide (bk ≠ 0 ∧ bk = ck ∧ bt = ct) = false from decide_eq_false (by omega)], rfl⟩)
    · refine lv_aload_n C.1 C.2.1 dX7_blockFitsCatcher_27 rfl (lv_at hl 0 rfl) ?_
      refine k_get C F hw (0) (by omega) eO rfl in_X7 5 (by decide) fl_X7_51 rfl dX7_blockFitsCatcher_28 ?_
      refine k_getN C F hw (73) (by omega) hB.1 rfl in_X0 2 (by decide) fl_X7_107 rfl dX7_blockFitsCatcher_31 ?_
      refine lv_aload_n C.1 C.2.1 dX7_blockFitsCatcher_34 rfl (lv_at hl 0 rfl) ?_
      refine k_get C F hw (0) (by omega) eO rfl in_X7 6 (by decide) fl_X7_58 rfl dX7_blockFitsCatcher_35 ?_
      refine k_getN C F hw (134) (by omega) hC rfl in_X1 2 (by decide) fl_X7_148 rfl dX7_blockFitsCatcher_38 ?_
      refine k_ine (tgt := 48) C dX7_blockFitsCatcher_41 (by decide) (by omega) (by omega) (fun hc41 => ?_) (fun hc41 => ?_)
      · refine k_icn C 0 dX7_blockFitsCatcher_48 (by decide) ?_
        exact hret H locs ls _ false _ _ dX7_blockFitsCatcher_49 hw (by rfl) (⟨by rw [show decide (bk ≠ 0 ∧ bk = ck ∧ bt = ct) = false from decide_eq_false (by omega)], rfl⟩)
      · refine k_icn C 1 dX7_blockFitsCatcher_44 (by decide) ?_
        refine lv_goto (tgt := 49) C.1 C.2.1 dX7_blockFitsCatcher_45 (by decide) ?_
        exact hret H locs ls _ true _ _ dX7_blockFitsCatcher_49 hw (by rfl) (⟨by rw [show decide (bk ≠ 0 ∧ bk = ck ∧ bt = ct) = true from decide_eq_true (by omega)], rfl⟩)

abbrev rm_X7_solveTape : Room := { frames := 4, cells := 0, slots := 0, locals := 96 }

set_option maxHeartbeats 800000 in
set_option maxRecDepth 100000 in
/-- FountainDesk.solveTape -/
theorem c_X7_solveTape {l : Launch} {D : va_G} {ca : Nat → ClassId} {tB tS R : Nat} {ad : Nat → Nat} {g : Nat → va_E} {sz : Nat} (pw ex : Nat → Nat) (hF : FieldAt ca ad g 1 pw ex) (hX : ExOk ex) (hP : PwOk pw) (hR : 197 < R) (eO : DeskAt ad g) (len : Nat) (h : Nat → Nat) (hT4 : TpAt ca ad g len h) (hh : By h) (L0 T0 : Nat) (s0 : EqS) (hE : EqAtS ca ad g 8 1 L0 T0 s0) (hB0 : EqBy s0) (v0 : Nat) (pl0 : Nat → Nat) (hK : PkAt ca ad g 6 v0 pl0) (k T t : Nat) (hk : 1 ≤ k ∧ k ≤ 48) (hT : 1 ≤ T ∧ T ≤ 16) (ht : t ≤ 1000) : MV l yX7_solveTape cX7_solveTape 6 rm_X7_solveTape D ca tB tS R ad g sz [.ref (ad 0), .int (nI k), .int (nI T), .int (nI t)] (fun g1 => (∀ z, (z < 6 ∨ 70 < z) → g1 z = g z) ∧ EqAtS ca ad g1 8 1 (k + 11) T (svAt pw ex k T t h s0 pl0 k).1 ∧ EqBy (svAt pw ex k T t h s0 pl0 k).1 ∧ PkWf ca ad g1) := by
  refine m_startV (by decide +kernel) (Nat.le_of_ble_eq_true rfl) (fun p e s m args below meth c ls Q hsz C hnm hl F hw hret => ?_)
  have hl : lv_has ls 6 [(0, .ref (ad 0)), (1, .int (nI k)), (2, .int (nI T)), (3, .int (nI t))] := hl
  generalize s.heap = H at hw ⊢
  generalize ([] : List Loc) = locs at hw ⊢
  refine lv_aload_n C.1 C.2.1 dX7_solveTape_0 rfl (lv_at hl 0 rfl) ?_
  refine k_get C F hw (0) (by omega) eO rfl in_X7 3 (by decide) fl_X7_35 rfl dX7_solveTape_1 ?_
  refine lv_iload_n C.1 C.2.1 dX7_solveTape_4 rfl (lv_at hl 1 rfl) ?_
  refine lv_iload_n C.1 C.2.1 dX7_solveTape_5 rfl (lv_at hl 2 rfl) ?_
  have hE1 : EqAt ca ad g 8 1 L0 T0 s0.1 s0.2.1 s0.2.2.1 s0.2.2.2 := ⟨hE.1, hE.2.1, hE.2.2.1, hE.2.2.2.1, hE.2.2.2.2⟩
  have hF2 : FieldAt ca ad g 1 pw ex := ⟨hF.1, hF.2.1, hF.2.2⟩
  refine k_Vv C F hw (i := 8) (As := [.int (nI k), .int (nI T)]) (rest := []) (c_X2_start 8 1 L0 T0 s0.1 s0.2.1 s0.2.2.1 s0.2.2.2 hE1 (by omega) pw ex hF2 hX hP (by omega) hB0.1 hB0.2 k T hk (by omega)) (by omega) hE.1 rfl (cwV _ C.2.2.2.2 gm_X7_173 rfl rfl rfl cd_X2_start ⟨by decide, by decide⟩) hl.1 rfl (Nat.le_of_ble_eq_true rfl) dX7_solveTape_6 ⟨by decide, by decide⟩ (fun g4 H locs hp hw => ?_)
  obtain ⟨hs5, hE6⟩ := hp
  have e7 : g4 (0) = .inr (7, [.ref (ad 1), .ref (ad 4), .ref (ad 6), .ref (ad 8), .ref (ad 71), .ref (ad 73), .ref (ad 134)]) := (hs5 _ (by omega)).trans eO
  have e8 : g4 (1) = .inr (3, [.ref (ad (1 + 1)), .ref (ad (1 + 2))]) := (hs5 _ (by omega)).trans hF.1
  have e9 : g4 (1 + 1) = na ca 510 (pw) := (hs5 _ (by omega)).trans hF.2.1
  have e10 : g4 (1 + 2) = na ca 256 (ex) := (hs5 _ (by omega)).trans hF.2.2
  have e11 : g4 (4) = .inr (5, [.ref (ad (4 + 1)), .int (nI len)]) := (hs5 _ (by omega)).trans hT4.1
  have e12 : g4 (4 + 1) = na ca 800 (h) := (hs5 _ (by omega)).trans hT4.2
  have e13 : g4 (6) = .inr (4, [.ref (ad (6 + 1)), .int (nI v0)]) := (hs5 _ (by omega)).trans hK.1
  have e14 : g4 (6 + 1) = na ca 59 (pl0) := (hs5 _ (by omega)).trans hK.2
  have hs15 : ∀ z, (z < 6 ∨ 70 < z) → g4 z = g z := fun z hz => hs5 z (by omega)
  have hst := startS_by (pw := pw) (ex := ex) (k := k) (T := T) hP hB0
  refine k_icn C 0 dX7_solveTape_9 (by decide) ?_
  refine lv_istore (lv' := [(4, .int (nI 0)), (0, .ref (ad 0)), (1, .int (nI k)), (2, .int (nI T)), (3, .int (nI t))]) C.1 C.2.1 dX7_solveTape_10 hl (by decide) rfl (fun ls hl => ?_)
  have loop12 : ∀ (fuel : Nat) (x : Nat) (sv : FlS) (v : Nat) (gL : Nat → va_E) (H : Heap) (locs : List Loc) (ls : Array Slot), ((k - x) + 1 ≤ fuel) → (x ≤ k) → (sv = svAt pw ex k T t h s0 pl0 x) → (EqBy sv.1) → (sv.1.1 ≤ 11 + x) → (∀ z, (z < 6 ∨ 70 < z) → gL z = g z) → (gL (8) = .inr (2, [.ref (ad 1), .ref (ad (8 + 1)), .ref (ad (8 + 61)), .ref (ad (8 + 62)), .int (nI (k + 11)), .int (nI T), .int (nI (sv.1.1))])) → (gL (8 + 1) = qa ca 59 (fun i => if i < 59 then some (ad (8 + 2 + i)) else none)) → (gL (8 + 61) = za ca 59 (sv.1.2.2.1)) → (gL (8 + 62) = na ca 75 (sv.1.2.2.2)) → (gL (6) = .inr (4, [.ref (ad (6 + 1)), .int (nI v)])) → (gL (6 + 1) = na ca 59 (sv.2.1)) → (∀ p9, p9 < 59 → gL (8 + 2 + p9) = na ca 75 (sv.1.2.1 p9)) → Wd D (AA R ad sz) s R ad gL H locs → lv_has ls 6 [(0, .ref (ad 0)), (1, .int (nI k)), (2, .int (nI T)), (3, .int (nI t)), (4, .int (nI x))] → W p l e rm_X7_solveTape s m args below meth c H locs 0 0 Q (F0 m 12 ls []) := by
    intro fuel
    induction fuel with
    | zero =>
      intro x sv v gL H locs ls hfu12
      exact absurd hfu12 (by omega)
    | succ fuel12 ih12 =>
      intro x sv v gL H locs ls hfu12 hx hsv hsb hsr hsL12 eL12_0 eL12_1 eL12_2 eL12_3 eL12_4 eL12_5 hrL12_0 hw hl
      have e16 : gL (0) = .inr (7, [.ref (ad 1), .ref (ad 4), .ref (ad 6), .ref (ad 8), .ref (ad 71), .ref (ad 73), .ref (ad 134)]) := (hsL12 _ (by omega)).trans eO
      have e17 : gL (1) = .inr (3, [.ref (ad (1 + 1)), .ref (ad (1 + 2))]) := (hsL12 _ (by omega)).trans hF.1
      have e18 : gL (1 + 1) = na ca 510 (pw) := (hsL12 _ (by omega)).trans hF.2.1
      have e19 : gL (1 + 2) = na ca 256 (ex) := (hsL12 _ (by omega)).trans hF.2.2
      have e20 : gL (4) = .inr (5, [.ref (ad (4 + 1)), .int (nI len)]) := (hsL12 _ (by omega)).trans hT4.1
      have e21 : gL (4 + 1) = na ca 800 (h) := (hsL12 _ (by omega)).trans hT4.2
      refine lv_iload C.1 C.2.1 dX7_solveTape_12 (lv_at hl 4 rfl) ?_
      refine lv_iload_n C.1 C.2.1 dX7_solveTape_14 rfl (lv_at hl 1 rfl) ?_
      refine k_ige (tgt := 93) C dX7_solveTape_15 (by decide) (by omega) (by omega) (fun hc15 => ?_) (fun hc15 => ?_)
      · have hE22 : EqAt ca ad gL 8 1 (k + 11) T sv.1.1 sv.1.2.1 sv.1.2.2.1 sv.1.2.2.2 := ⟨eL12_0, eL12_1, hrL12_0, eL12_2, eL12_3⟩
        have hK23 : PkAt ca ad gL 6 v sv.2.1 := ⟨eL12_4, eL12_5⟩
        have hxk : x = k := by omega
        subst hxk
        exact hret H locs ls _ _ dX7_solveTape_93 hw (⟨hsL12, by rw [← hsv]; exact hE22, by rw [← hsv]; exact hsb, ⟨_, _, hK23⟩⟩)
      · refine lv_aload_n C.1 C.2.1 dX7_solveTape_18 rfl (lv_at hl 0 rfl) ?_
        refine k_get C F hw (0) (by omega) e16 rfl in_X7 2 (by decide) fl_X7_26 rfl dX7_solveTape_19 ?_
        refine lv_iload_n C.1 C.2.1 dX7_solveTape_22 rfl (lv_at hl 1 rfl) ?_
        refine lv_iload C.1 C.2.1 dX7_solveTape_23 (lv_at hl 4 rfl) ?_
        refine lv_iload_n C.1 C.2.1 dX7_solveTape_25 rfl (lv_at hl 3 rfl) ?_
        refine k_Vv C F hw (i := 6) (As := [.int (nI k), .int (nI x), .int (nI t)]) (rest := []) (c_X4_find 6 k x t v sv.2.1 (by omega) hk (by omega) (by omega) eL12_4 eL12_5) (by omega) eL12_4 rfl (cwV _ C.2.2.2.2 gm_X7_116 rfl rfl rfl cd_X4_find ⟨by decide, by decide⟩) hl.1 rfl (Nat.le_of_ble_eq_true rfl) dX7_solveTape_26 ⟨by decide, by decide⟩ (fun g25 H locs hp hw => ?_)
        obtain ⟨hs26, e27, e28⟩ := hp
        have e29 : g25 (0) = .inr (7, [.ref (ad 1), .ref (ad 4), .ref (ad 6), .ref (ad 8), .ref (ad 71), .ref (ad 73), .ref (ad 134)]) := (hs26 _ (by omega)).trans e16
        have e30 : g25 (1) = .inr (3, [.ref (ad (1 + 1)), .ref (ad (1 + 2))]) := (hs26 _ (by omega)).trans e17
        have e31 : g25 (1 + 1) = na ca 510 (pw) := (hs26 _ (by omega)).trans e18
        have e32 : g25 (1 + 2) = na ca 256 (ex) := (hs26 _ (by omega)).trans e19
        have e33 : g25 (4) = .inr (5, [.ref (ad (4 + 1)), .int (nI len)]) := (hs26 _ (by omega)).trans e20
        have e34 : g25 (4 + 1) = na ca 800 (h) := (hs26 _ (by omega)).trans e21
        have e35 : g25 (8) = .inr (2, [.ref (ad 1), .ref (ad (8 + 1)), .ref (ad (8 + 61)), .ref (ad (8 + 62)), .int (nI (k + 11)), .int (nI T), .int (nI (sv.1.1))]) := (hs26 _ (by omega)).trans eL12_0
        have e36 : g25 (8 + 1) = qa ca 59 (fun i => if i < 59 then some (ad (8 + 2 + i)) else none) := (hs26 _ (by omega)).trans eL12_1
        have e37 : g25 (8 + 61) = za ca 59 (sv.1.2.2.1) := (hs26 _ (by omega)).trans eL12_2
        have e38 : g25 (8 + 62) = na ca 75 (sv.1.2.2.2) := (hs26 _ (by omega)).trans eL12_3
        have hr39 : ∀ p9, p9 < 59 → g25 (8 + 2 + p9) = na ca 75 (sv.1.2.1 p9) := fun p9 hp9 => (hs26 _ (by omega)).trans (hrL12_0 p9 hp9)
        have hs40 : ∀ z, (z < 6 ∨ 70 < z) → g25 z = g z := fun z hz => (hs26 z (by omega)).trans (hsL12 z hz)
        have hpk := pkOut_ok k x t sv.2.1 (by omega)
        refine lv_aload_n C.1 C.2.1 dX7_solveTape_29 rfl (lv_at hl 0 rfl) ?_
        refine k_get C F hw (0) (by omega) e29 rfl in_X7 3 (by decide) fl_X7_35 rfl dX7_solveTape_30 ?_
        refine lv_aload_n C.1 C.2.1 dX7_solveTape_33 rfl (lv_at hl 0 rfl) ?_
        refine k_get C F hw (0) (by omega) e29 rfl in_X7 2 (by decide) fl_X7_26 rfl dX7_solveTape_34 ?_
        have hE41 : EqAt ca ad g25 8 1 (k + 11) T sv.1.1 sv.1.2.1 sv.1.2.2.1 sv.1.2.2.2 := ⟨e35, e36, hr39, e37, e38⟩
        have hK42 : PkAt ca ad g25 6 ((pkOut k x t sv.2.1).2.1) ((pkOut k x t sv.2.1).1) := ⟨e27, e28⟩
        refine k_Vv C F hw (i := 8) (As := [.ref (ad 6)]) (rest := []) (c_X2_setLine 8 1 (k + 11) T sv.1.1 sv.1.2.1 sv.1.2.2.1 sv.1.2.2.2 hE41 (by omega) (by omega) (by omega) 6 ((pkOut k x t sv.2.1).2.1) ((pkOut k x t sv.2.1).1) hK42 (by omega) (by omega) (fun j hj => by have := hpk.1 j hj; omega)) (by omega) e35 rfl (cwV _ C.2.2.2.2 gm_X7_177 rfl rfl rfl cd_X2_setLine ⟨by decide, by decide⟩) hl.1 rfl (Nat.le_of_ble_eq_true rfl) dX7_solveTape_37 ⟨by decide, by decide⟩ (fun g44 H locs hp hw => ?_)
        obtain ⟨hs45, hE46⟩ := hp
        have e47 : g44 (0) = .inr (7, [.ref (ad 1), .ref (ad 4), .ref (ad 6), .ref (ad 8), .ref (ad 71), .ref (ad 73), .ref (ad 134)]) := (hs45 _ (by omega)).trans e29
        have e48 : g44 (1) = .inr (3, [.ref (ad (1 + 1)), .ref (ad (1 + 2))]) := (hs45 _ (by omega)).trans e30
        have e49 : g44 (1 + 1) = na ca 510 (pw) := (hs45 _ (by omega)).trans e31
        have e50 : g44 (1 + 2) = na ca 256 (ex) := (hs45 _ (by omega)).trans e32
        have e51 : g44 (4) = .inr (5, [.ref (ad (4 + 1)), .int (nI len)]) := (hs45 _ (by omega)).trans e33
        have e52 : g44 (4 + 1) = na ca 800 (h) := (hs45 _ (by omega)).trans e34
        have e53 : g44 (6) = .inr (4, [.ref (ad (6 + 1)), .int (nI ((pkOut k x t sv.2.1).2.1))]) := (hs45 _ (by omega)).trans e27
        have e54 : g44 (6 + 1) = na ca 59 ((pkOut k x t sv.2.1).1) := (hs45 _ (by omega)).trans e28
        have hs55 : ∀ z, (z < 6 ∨ 70 < z) → g44 z = g z := fun z hz => (hs45 z (by omega)).trans (hs40 z hz)
        refine k_icn C 0 dX7_solveTape_40 (by decide) ?_
        refine lv_istore (lv' := [(5, .int (nI 0)), (0, .ref (ad 0)), (1, .int (nI k)), (2, .int (nI T)), (3, .int (nI t)), (4, .int (nI x))]) C.1 C.2.1 dX7_solveTape_41 hl (by decide) rfl (fun ls hl => ?_)
        have loop43 : ∀ (fuel : Nat) (i : Nat) (f1 : Nat → Nat) (gL : Nat → va_E) (H : Heap) (locs : List Loc) (ls : Array Slot), ((T - i) + 1 ≤ fuel) → (i ≤ T) → (f1 = fr (lnVal1 (fun i => h (x * T + i))) i (lnPk T (pkOut k x t sv.2.1).2.1 (pkOut k x t sv.2.1).1 sv.1.2.2.2)) → (∀ z, (z < 6 ∨ 70 < z) → gL z = g z) → (gL (8) = .inr (2, [.ref (ad 1), .ref (ad (8 + 1)), .ref (ad (8 + 61)), .ref (ad (8 + 62)), .int (nI (k + 11)), .int (nI T), .int (nI (sv.1.1))])) → (gL (8 + 1) = qa ca 59 (fun i => if i < 59 then some (ad (8 + 2 + i)) else none)) → (gL (8 + 61) = za ca 59 (sv.1.2.2.1)) → (gL (8 + 62) = na ca 75 (f1)) → (gL (6) = .inr (4, [.ref (ad (6 + 1)), .int (nI ((pkOut k x t sv.2.1).2.1))])) → (gL (6 + 1) = na ca 59 ((pkOut k x t sv.2.1).1)) → (∀ p9, p9 < 59 → gL (8 + 2 + p9) = na ca 75 (sv.1.2.1 p9)) → Wd D (AA R ad sz) s R ad gL H locs → lv_has ls 6 [(0, .ref (ad 0)), (1, .int (nI k)), (2, .int (nI T)), (3, .int (nI t)), (4, .int (nI x)), (5, .int (nI i))] → W p l e rm_X7_solveTape s m args below meth c H locs 0 0 Q (F0 m 43 ls []) := by
          intro fuel
          induction fuel with
          | zero =>
            intro i f1 gL H locs ls hfu43
            exact absurd hfu43 (by omega)
          | succ fuel43 ih43 =>
            intro i f1 gL H locs ls hfu43 hi hf1 hsL43 eL43_0 eL43_1 eL43_2 eL43_3 eL43_4 eL43_5 hrL43_0 hw hl
            have e56 : gL (0) = .inr (7, [.ref (ad 1), .ref (ad 4), .ref (ad 6), .ref (ad 8), .ref (ad 71), .ref (ad 73), .ref (ad 134)]) := (hsL43 _ (by omega)).trans eO
            have e57 : gL (1) = .inr (3, [.ref (ad (1 + 1)), .ref (ad (1 + 2))]) := (hsL43 _ (by omega)).trans hF.1
            have e58 : gL (1 + 1) = na ca 510 (pw) := (hsL43 _ (by omega)).trans hF.2.1
            have e59 : gL (1 + 2) = na ca 256 (ex) := (hsL43 _ (by omega)).trans hF.2.2
            have e60 : gL (4) = .inr (5, [.ref (ad (4 + 1)), .int (nI len)]) := (hsL43 _ (by omega)).trans hT4.1
            have e61 : gL (4 + 1) = na ca 800 (h) := (hsL43 _ (by omega)).trans hT4.2
            refine lv_iload C.1 C.2.1 dX7_solveTape_43 (lv_at hl 5 rfl) ?_
            refine lv_iload_n C.1 C.2.1 dX7_solveTape_45 rfl (lv_at hl 2 rfl) ?_
            refine k_ige (tgt := 79) C dX7_solveTape_46 (by decide) (by omega) (by omega) (fun hc46 => ?_) (fun hc46 => ?_)
            · refine lv_aload_n C.1 C.2.1 dX7_solveTape_79 rfl (lv_at hl 0 rfl) ?_
              refine k_get C F hw (0) (by omega) e56 rfl in_X7 3 (by decide) fl_X7_35 rfl dX7_solveTape_80 ?_
              have hfe : f1 = lnVal (fun i => h (x * T + i)) T (lnPk T (pkOut k x t sv.2.1).2.1 (pkOut k x t sv.2.1).1 sv.1.2.2.2) := by rw [hf1, show i = T by omega]; rfl
              have hE62 : EqAt ca ad gL 8 1 (k + 11) T sv.1.1 sv.1.2.1 sv.1.2.2.1 f1 := ⟨eL43_0, eL43_1, hrL43_0, eL43_2, eL43_3⟩
              have hF63 : FieldAt ca ad gL 1 pw ex := ⟨e57, e58, e59⟩
              have hEi : EqAtS ca ad gL 8 1 (k + 11) T (inS T (fun i => h (x * T + i)) (pkOut k x t sv.2.1) sv.1) := by rw [hfe] at hE62; exact hE62
              have hbi : EqBy (inS T (fun i => h (x * T + i)) (pkOut k x t sv.2.1) sv.1) := inS_by (fun i _ => hh _) hsb
              refine k_Vi C F hw (i := 8) (As := []) (rest := []) (c_X2_learn 8 1 (k + 11) T _ _ _ _ hEi (by omega) (by omega) (by omega) pw ex hF63 hX hP (by omega) hbi.1 hbi.2) (by omega) eL43_0 rfl (cwV _ C.2.2.2.2 gm_X7_188 rfl rfl rfl cd_X2_learn ⟨by decide, by decide⟩) hl.1 rfl (Nat.le_of_ble_eq_true rfl) dX7_solveTape_83 ⟨by decide, by decide⟩ (fun r64 g65 H locs hp hw => ?_)
              obtain ⟨hs66, -, hE67⟩ := hp
              have e68 : g65 (0) = .inr (7, [.ref (ad 1), .ref (ad 4), .ref (ad 6), .ref (ad 8), .ref (ad 71), .ref (ad 73), .ref (ad 134)]) := (hs66 _ (by omega)).trans e56
              have e69 : g65 (1) = .inr (3, [.ref (ad (1 + 1)), .ref (ad (1 + 2))]) := (hs66 _ (by omega)).trans e57
              have e70 : g65 (1 + 1) = na ca 510 (pw) := (hs66 _ (by omega)).trans e58
              have e71 : g65 (1 + 2) = na ca 256 (ex) := (hs66 _ (by omega)).trans e59
              have e72 : g65 (4) = .inr (5, [.ref (ad (4 + 1)), .int (nI len)]) := (hs66 _ (by omega)).trans e60
              have e73 : g65 (4 + 1) = na ca 800 (h) := (hs66 _ (by omega)).trans e61
              have e74 : g65 (6) = .inr (4, [.ref (ad (6 + 1)), .int (nI ((pkOut k x t sv.2.1).2.1))]) := (hs66 _ (by omega)).trans eL43_4
              have e75 : g65 (6 + 1) = na ca 59 ((pkOut k x t sv.2.1).1) := (hs66 _ (by omega)).trans eL43_5
              have hs76 : ∀ z, (z < 6 ∨ 70 < z) → g65 z = g z := fun z hz => (hs66 z (by omega)).trans (hsL43 z hz)
              refine lv_pop C.1 C.2.1 dX7_solveTape_86 rfl ?_
              refine k_inc C (x + 1) (lv' := [(4, .int (nI (x + 1))), (0, .ref (ad 0)), (1, .int (nI k)), (2, .int (nI T)), (3, .int (nI t)), (5, .int (nI i))]) dX7_solveTape_87 hl (k := 4) rfl (inc1 _) (by decide) rfl (fun ls hl => ?_)
              refine lv_goto (tgt := 12) C.1 C.2.1 dX7_solveTape_90 (by decide) ?_
              exact ih12 (x + 1) (svSt pw ex k T t h x sv) ((pkOut k x t sv.2.1).2.1) g65 H locs ls (by omega) (by omega) (by rw [svAt_s, ← hsv]) (by rw [svSt_1]; exact learnS_by hP (inS_by (fun i _ => hh _) hsb)) (by rw [svSt_1]; exact Nat.le_trans (learnS_rk _ _ _ _ _) (Nat.succ_le_succ hsr)) hs76 hE67.1 hE67.2.1 hE67.2.2.2.1 hE67.2.2.2.2 e74 e75 hE67.2.2.1 hw (lv_sub hl [1, 2, 3, 4, 0] rfl)
            · refine lv_aload_n C.1 C.2.1 dX7_solveTape_49 rfl (lv_at hl 0 rfl) ?_
              refine k_get C F hw (0) (by omega) e56 rfl in_X7 3 (by decide) fl_X7_35 rfl dX7_solveTape_50 ?_
              refine lv_iload C.1 C.2.1 dX7_solveTape_53 (lv_at hl 5 rfl) ?_
              refine lv_aload_n C.1 C.2.1 dX7_solveTape_55 rfl (lv_at hl 0 rfl) ?_
              refine k_get C F hw (0) (by omega) e56 rfl in_X7 1 (by decide) fl_X7_19 rfl dX7_solveTape_56 ?_
              refine k_getN C F hw (4) (by omega) e60 rfl in_X5 0 (by decide) fl_X7_181 rfl dX7_solveTape_59 ?_
              refine lv_iload C.1 C.2.1 dX7_solveTape_62 (lv_at hl 4 rfl) ?_
              refine lv_iload_n C.1 C.2.1 dX7_solveTape_64 rfl (lv_at hl 2 rfl) ?_
              refine k_mul C dX7_solveTape_65 ?_
              refine lv_iload C.1 C.2.1 dX7_solveTape_66 (lv_at hl 5 rfl) ?_
              refine k_add C dX7_solveTape_68 ?_
              have hxT : x * T + i < 800 := by have h9 : (x + 1) * T ≤ 48 * 16 := Nat.mul_le_mul (by omega) (by omega); rw [Nat.add_mul] at h9; omega
              refine k_iald C F hw (4 + 1) (by omega) e61 ((x * T) + i) (by omega) (by decide) dX7_solveTape_69 ?_
              have hE77 : EqAt ca ad gL 8 1 (k + 11) T sv.1.1 sv.1.2.1 sv.1.2.2.1 f1 := ⟨eL43_0, eL43_1, hrL43_0, eL43_2, eL43_3⟩
              refine k_Vv C F hw (i := 8) (As := [.int (nI i), .int (nI (h ((x * T) + i)))]) (rest := []) (c_X2_setValue 8 1 (k + 11) T sv.1.1 sv.1.2.1 sv.1.2.2.1 f1 hE77 (by omega) (by omega) (by omega) i (h (x * T + i)) (by omega)) (by omega) eL43_0 rfl (cwV _ C.2.2.2.2 gm_X7_185 rfl rfl rfl cd_X2_setValue ⟨by decide, by decide⟩) hl.1 rfl (Nat.le_of_ble_eq_true rfl) dX7_solveTape_70 ⟨by decide, by decide⟩ (fun g79 H locs hp hw => ?_)
              obtain ⟨hs80, hE81⟩ := hp
              have e82 : g79 (0) = .inr (7, [.ref (ad 1), .ref (ad 4), .ref (ad 6), .ref (ad 8), .ref (ad 71), .ref (ad 73), .ref (ad 134)]) := (hs80 _ (by omega)).trans e56
              have e83 : g79 (1) = .inr (3, [.ref (ad (1 + 1)), .ref (ad (1 + 2))]) := (hs80 _ (by omega)).trans e57
              have e84 : g79 (1 + 1) = na ca 510 (pw) := (hs80 _ (by omega)).trans e58
              have e85 : g79 (1 + 2) = na ca 256 (ex) := (hs80 _ (by omega)).trans e59
              have e86 : g79 (4) = .inr (5, [.ref (ad (4 + 1)), .int (nI len)]) := (hs80 _ (by omega)).trans e60
              have e87 : g79 (4 + 1) = na ca 800 (h) := (hs80 _ (by omega)).trans e61
              have e88 : g79 (6) = .inr (4, [.ref (ad (6 + 1)), .int (nI ((pkOut k x t sv.2.1).2.1))]) := (hs80 _ (by omega)).trans eL43_4
              have e89 : g79 (6 + 1) = na ca 59 ((pkOut k x t sv.2.1).1) := (hs80 _ (by omega)).trans eL43_5
              have hs90 : ∀ z, (z < 6 ∨ 70 < z) → g79 z = g z := fun z hz => (hs80 z (by omega)).trans (hsL43 z hz)
              refine k_inc C (i + 1) (lv' := [(5, .int (nI (i + 1))), (0, .ref (ad 0)), (1, .int (nI k)), (2, .int (nI T)), (3, .int (nI t)), (4, .int (nI x))]) dX7_solveTape_73 hl (k := 5) rfl (inc1 _) (by decide) rfl (fun ls hl => ?_)
              refine lv_goto (tgt := 43) C.1 C.2.1 dX7_solveTape_76 (by decide) ?_
              exact ih43 (i + 1) (va_up f1 i (h (x * T + i))) g79 H locs ls (by omega) (by omega) (by rw [fr_s, ← hf1]; rfl) hs90 hE81.1 hE81.2.1 hE81.2.2.2.1 hE81.2.2.2.2 e88 e89 hE81.2.2.1 hw (lv_sub hl [1, 2, 3, 4, 5, 0] rfl)
        exact loop43 _ 0 (lnPk T (pkOut k x t sv.2.1).2.1 (pkOut k x t sv.2.1).1 sv.1.2.2.2) g44 H locs ls (Nat.le_refl _) (by omega) ((fr_0 _ _).symm) hs55 hE46.1 hE46.2.1 hE46.2.2.2.1 hE46.2.2.2.2 e53 e54 hE46.2.2.1 hw (lv_sub hl [1, 2, 3, 4, 5, 0] rfl)
  exact loop12 _ 0 (startS pw ex k T s0, pl0, 0) v0 g4 H locs ls (Nat.le_refl _) (by omega) ((svAt_0 _ _ _ _ _ _ _ _).symm) hst.1 hst.2 hs15 hE6.1 hE6.2.1 hE6.2.2.2.1 hE6.2.2.2.2 e13 e14 hE6.2.2.1 hw (lv_sub hl [1, 2, 3, 4, 0] rfl)
