/-! ===== FountainDeskModel: rows ===== -/
def fxA (pm : Nat → Nat) (k i j c : Nat) : Nat := if c = k + i then 1 else if c < j then pm (c * (i - 6) % 255) else 0
def fxB (k i j c : Nat) : Nat := if c = k + i then 1 else if c < j ∧ (c % 7 = i ∨ (c + (1 + c / 7 % 6)) % 7 = i ∨ (c + 2 * (1 + c / 7 % 6)) % 7 = i) then 1 else 0
/-- the eleven fixed rows -/
def fxV (pm : Nat → Nat) (k i : Nat) : Nat → Nat := if 7 ≤ i then fxA pm k i (k + 7) else fxB k i k
theorem fxA_s {pm : Nat → Nat} {k i j : Nat} (h : j < k + i) : va_up (fxA pm k i j) j (pm (j * (i - 6) % 255)) = fxA pm k i (j + 1) := by
  funext c
  unfold fxA
  by_cases hc : c = j
  · subst hc; rw [va_up_self, if_neg (by omega), if_pos (by omega)]
  · rw [va_up_ne _ _ hc]
    by_cases h1 : c = k + i
    · rw [if_pos h1, if_pos h1]
    · rw [if_neg h1, if_neg h1]
      by_cases h2 : c < j
      · rw [if_pos h2, if_pos (by omega)]
      · rw [if_neg h2, if_neg (by omega)]
theorem fxB_t {k i j : Nat} (h : j < k) (h1 : j % 7 = i ∨ (j + (1 + j / 7 % 6)) % 7 = i ∨ (j + 2 * (1 + j / 7 % 6)) % 7 = i) : va_up (fxB k i j) j 1 = fxB k i (j + 1) := by
  funext c
  unfold fxB
  by_cases hc : c = j
  · subst hc; rw [va_up_self, if_neg (by omega), if_pos ⟨by omega, h1⟩]
  · rw [va_up_ne _ _ hc]
    by_cases h1 : c = k + i
    · rw [if_pos h1, if_pos h1]
    · rw [if_neg h1, if_neg h1]
      by_cases h2 : c < j
      · simp only [h2, show c < j + 1 by omega]
      · simp only [h2, show ¬ c < j + 1 by omega]
theorem fxB_f {k i j : Nat} (h : j < k) (h1 : ¬ (j % 7 = i ∨ (j + (1 + j / 7 % 6)) % 7 = i ∨ (j + 2 * (1 + j / 7 % 6)) % 7 = i)) : va_up (fxB k i j) j 0 = fxB k i (j + 1) := by
  funext c
  unfold fxB
  by_cases hc : c = j
  · subst hc; rw [va_up_self, if_neg (by omega), if_neg (fun z => h1 z.2)]
  · rw [va_up_ne _ _ hc]
    by_cases h1 : c = k + i
    · rw [if_pos h1, if_pos h1]
    · rw [if_neg h1, if_neg h1]
      by_cases h2 : c < j
      · simp only [h2, show c < j + 1 by omega]
      · simp only [h2, show ¬ c < j + 1 by omega]
theorem fxA_0 (pm : Nat → Nat) (k i : Nat) : va_up (fun _ => 0) (k + i) 1 = fxA pm k i 0 := by
  funext c
  unfold fxA
  by_cases hc : c = k + i
  · rw [hc, va_up_self, if_pos rfl]
  · rw [va_up_ne _ _ hc, if_neg hc, if_neg (Nat.not_lt_zero _)]
theorem fxB_0 (k i : Nat) : va_up (fun _ => 0) (k + i) 1 = fxB k i 0 := by
  funext c
  unfold fxB
  by_cases hc : c = k + i
  · rw [hc, va_up_self, if_pos rfl]
  · rw [va_up_ne _ _ hc, if_neg hc, if_neg (fun z => Nat.not_lt_zero _ z.1)]

abbrev rm_X8_isK : Room := { frames := 0, cells := 0, slots := 0, locals := 0 }

set_option maxHeartbeats 800000 in
set_option maxRecDepth 100000 in
theorem c_X8_isK {l : Launch} {D : va_G} {ca : Nat → ClassId} {tB tS R : Nat} {ad : Nat → Nat} {g : Nat → va_E} {sz : Nat} (k : Int32) : MI l yX8_isK cX8_isK 1 .boolean rm_X8_isK D ca tB tS R ad g sz [.int (k)] (fun r g1 => r = bI (decide (1 ≤ k ∧ k ≤ 48)) ∧ g1 = g) := by
  refine m_startZ (by decide +kernel) (Nat.le_of_ble_eq_true rfl) (fun p e s m args below meth c ls Q hsz C hl F hw hret => ?_)
  have hl : lv_has ls 1 [(0, .int (k))] := hl
  generalize s.heap = H at hw ⊢
  generalize ([] : List Loc) = locs at hw ⊢
  refine lv_iload_n C.1 C.2.1 dX8_isK_0 rfl (lv_at hl 0 rfl) ?_
  refine k_icn C 1 dX8_isK_1 (by decide) ?_
  refine lv_icmp_lt (tgt := 15) C.1 C.2.1 dX8_isK_2 (by decide) (fun hc2 => ?_) (fun hc2 => ?_)
  · refine k_icn C 0 dX8_isK_15 (by decide) ?_
    exact hret H locs ls _ false _ _ dX8_isK_16 hw (by rfl) (⟨by rw [show decide (1 ≤ k ∧ k ≤ 48) = false from decide_eq_false (fun z => by first | exact absurd z.1 (Int32.not_le.mpr hc2) | exact absurd z.2 (Int32.not_le.mpr hc8))], rfl⟩)
  · refine lv_iload_n C.1 C.2.1 dX8_isK_5 rfl (lv_at hl 0 rfl) ?_
    refine k_bip C 48 dX8_isK_6 (by decide) ?_
    refine lv_icmp_gt (tgt := 15) C.1 C.2.1 dX8_isK_8 (by decide) (fun hc8 => ?_) (fun hc8 => ?_)
    · refine k_icn C 0 dX8_isK_15 (by decide) ?_
      exact hret H locs ls _ false _ _ dX8_isK_16 hw (by rfl) (⟨by rw [show decide (1 ≤ k ∧ k ≤ 48) = false from decide_eq_false (fun z => by first | exact absurd z.1 (Int32.not_le.mpr hc2) | exact absurd z.2 (Int32.not_le.mpr hc8))], rfl⟩)
    · refine k_icn C 1 dX8_isK_11 (by decide) ?_
      refine lv_goto (tgt := 16) C.1 C.2.1 dX8_isK_12 (by decide) ?_
      exact hret H locs ls _ true _ _ dX8_isK_16 hw (by rfl) (⟨by rw [show decide (1 ≤ k ∧ k ≤ 48) = true from decide_eq_true ⟨Int32.not_lt.mp hc2, Int32.not_lt.mp hc8⟩], rfl⟩)

abbrev rm_X8_isT : Room := { frames := 0, cells := 0, slots := 0, locals := 0 }

set_option maxHeartbeats 800000 in
set_option maxRecDepth 100000 in
theorem c_X8_isT {l : Launch} {D : va_G} {ca : Nat → ClassId} {tB tS R : Nat} {ad : Nat → Nat} {g : Nat → va_E} {sz : Nat} (k : Int32) : MI l yX8_isT cX8_isT 1 .boolean rm_X8_isT D ca tB tS R ad g sz [.int (k)] (fun r g1 => r = bI (decide (1 ≤ k ∧ k ≤ 16)) ∧ g1 = g) := by
  refine m_startZ (by decide +kernel) (Nat.le_of_ble_eq_true rfl) (fun p e s m args below meth c ls Q hsz C hl F hw hret => ?_)
  have hl : lv_has ls 1 [(0, .int (k))] := hl
  generalize s.heap = H at hw ⊢
  generalize ([] : List Loc) = locs at hw ⊢
  refine lv_iload_n C.1 C.2.1 dX8_isT_0 rfl (lv_at hl 0 rfl) ?_
  refine k_icn C 1 dX8_isT_1 (by decide) ?_
  refine lv_icmp_lt (tgt := 15) C.1 C.2.1 dX8_isT_2 (by decide) (fun hc2 => ?_) (fun hc2 => ?_)
  · refine k_icn C 0 dX8_isT_15 (by decide) ?_
    exact hret H locs ls _ false _ _ dX8_isT_16 hw (by rfl) (⟨by rw [show decide (1 ≤ k ∧ k ≤ 16) = false from decide_eq_false (fun z => by first | exact absurd z.1 (Int32.not_le.mpr hc2) | exact absurd z.2 (Int32.not_le.mpr hc8))], rfl⟩)
  · refine lv_iload_n C.1 C.2.1 dX8_isT_5 rfl (lv_at hl 0 rfl) ?_
    refine k_bip C 16 dX8_isT_6 (by decide) ?_
    refine lv_icmp_gt (tgt := 15) C.1 C.2.1 dX8_isT_8 (by decide) (fun hc8 => ?_) (fun hc8 => ?_)
    · refine k_icn C 0 dX8_isT_15 (by decide) ?_
      exact hret H locs ls _ false _ _ dX8_isT_16 hw (by rfl) (⟨by rw [show decide (1 ≤ k ∧ k ≤ 16) = false from decide_eq_false (fun z => by first | exact absurd z.1 (Int32.not_le.mpr hc2) | exact absurd z.2 (Int32.not_le.mpr hc8))], rfl⟩)
    · refine k_icn C 1 dX8_isT_11 (by decide) ?_
      refine lv_goto (tgt := 16) C.1 C.2.1 dX8_isT_12 (by decide) ?_
      exact hret H locs ls _ true _ _ dX8_isT_16 hw (by rfl) (⟨by rw [show decide (1 ≤ k ∧ k ≤ 16) = true from decide_eq_true ⟨Int32.not_lt.mp hc2, Int32.not_lt.mp hc8⟩], rfl⟩)

abbrev rm_X8_isPacket : Room := { frames := 0, cells := 0, slots := 0, locals := 0 }

set_option maxHeartbeats 800000 in
set_option maxRecDepth 100000 in
theorem c_X8_isPacket {l : Launch} {D : va_G} {ca : Nat → ClassId} {tB tS R : Nat} {ad : Nat → Nat} {g : Nat → va_E} {sz : Nat} (k : Int32) : MI l yX8_isPacket cX8_isPacket 1 .boolean rm_X8_isPacket D ca tB tS R ad g sz [.int (k)] (fun r g1 => r = bI (decide (0 ≤ k ∧ k < 65536)) ∧ g1 = g) := by
  refine m_startZ (by decide +kernel) (Nat.le_of_ble_eq_true rfl) (fun p e s m args below meth c ls Q hsz C hl F hw hret => ?_)
  have hl : lv_has ls 1 [(0, .int (k))] := hl
  generalize s.heap = H at hw ⊢
  generalize ([] : List Loc) = locs at hw ⊢
  refine lv_iload_n C.1 C.2.1 dX8_isPacket_0 rfl (lv_at hl 0 rfl) ?_
  refine lv_if_lt (tgt := 14) C.1 C.2.1 dX8_isPacket_1 (by decide) (fun hc1 => ?_) (fun hc1 => ?_)
  · refine k_icn C 0 dX8_isPacket_14 (by decide) ?_
    exact hret H locs ls _ false _ _ dX8_isPacket_15 hw (by rfl) (⟨by rw [show decide (0 ≤ k ∧ k < 65536) = false from decide_eq_false (fun z => by first | exact absurd z.1 (Int32.not_le.mpr hc1) | exact absurd z.2 (Int32.not_lt.mpr hc7))], rfl⟩)
  · refine lv_iload_n C.1 C.2.1 dX8_isPacket_4 rfl (lv_at hl 0 rfl) ?_
    refine lv_ldc (v := 65536) C.1 C.2.1 C.2.2.2.1 (C.2.2.2.2 _ kc_X8_122) dX8_isPacket_5 ?_
    refine k_ti (show (65536 : Int32) = nI 65536 from by decide) ?_
    refine lv_icmp_ge (tgt := 14) C.1 C.2.1 dX8_isPacket_7 (by decide) (fun hc7 => ?_) (fun hc7 => ?_)
    · refine k_icn C 0 dX8_isPacket_14 (by decide) ?_
      exact hret H locs ls _ false _ _ dX8_isPacket_15 hw (by rfl) (⟨by rw [show decide (0 ≤ k ∧ k < 65536) = false from decide_eq_false (fun z => by first | exact absurd z.1 (Int32.not_le.mpr hc1) | exact absurd z.2 (Int32.not_lt.mpr hc7))], rfl⟩)
    · refine k_icn C 1 dX8_isPacket_10 (by decide) ?_
      refine lv_goto (tgt := 15) C.1 C.2.1 dX8_isPacket_11 (by decide) ?_
      exact hret H locs ls _ true _ _ dX8_isPacket_15 hw (by rfl) (⟨by rw [show decide (0 ≤ k ∧ k < 65536) = true from decide_eq_true ⟨Int32.not_lt.mp hc1, Int32.not_le.mp hc7⟩], rfl⟩)

abbrev rm_X8_thrown : Room := { frames := 0, cells := 0, slots := 0, locals := 0 }

set_option maxHeartbeats 800000 in
set_option maxRecDepth 100000 in
theorem c_X8_thrown {l : Launch} {D : va_G} {ca : Nat → ClassId} {tB tS R : Nat} {ad : Nat → Nat} {g : Nat → va_E} {sz : Nat} (hR : 207 < R) (cd : Int32) (ln bk bt ck ct cn pk rw : Nat) (gt : Bool) (eM : g 198 = .inr (8, [.int (cd), .ref (ad 199), .int (nI ln), .ref (ad 200), .int (nI bk), .int (nI bt), .ref (ad 201), .int (nI ck), .int (nI ct), .ref (ad 202), .int (nI cn), .int (nI pk), .ref (ad 203), .ref (ad 204), .int (nI rw), .ref (ad 205), .ref (ad 206), .int (bI (gt)), .ref (ad 207)]))  : MI l yX8_thrown cX8_thrown 1 .int rm_X8_thrown D ca tB tS R ad g sz [.ref (ad 198)] (fun r g1 => r = cd ∧ g1 = g) := by
  refine m_startI (by decide +kernel) (Nat.le_of_ble_eq_true rfl) (fun p e s m args below meth c ls Q hsz C hl F hw hret => ?_)
  have hl : lv_has ls 1 [(0, .ref (ad 198))] := hl
  generalize s.heap = H at hw ⊢
  generalize ([] : List Loc) = locs at hw ⊢
  refine lv_aload_n C.1 C.2.1 dX8_thrown_0 rfl (lv_at hl 0 rfl) ?_
  refine k_get C F hw (198) (by omega) eM rfl in_X8 0 (by decide) fl_X8_42 rfl dX8_thrown_1 ?_
  exact hret H locs ls _ _ _ dX8_thrown_4 hw (⟨rfl, rfl⟩)

abbrev rm_X8_blank : Room := { frames := 0, cells := 0, slots := 0, locals := 0 }

set_option maxHeartbeats 800000 in
set_option maxRecDepth 100000 in
/-- blank -/
theorem c_X8_blank {l : Launch} {D : va_G} {ca : Nat → ClassId} {tB tS R : Nat} {ad : Nat → Nat} {g : Nat → va_E} {sz : Nat} (hR : 207 < R) (cd : Int32) (ln bk bt ck ct cn pk rw : Nat) (gt : Bool) (eM : g 198 = .inr (8, [.int (cd), .ref (ad 199), .int (nI ln), .ref (ad 200), .int (nI bk), .int (nI bt), .ref (ad 201), .int (nI ck), .int (nI ct), .ref (ad 202), .int (nI cn), .int (nI pk), .ref (ad 203), .ref (ad 204), .int (nI rw), .ref (ad 205), .ref (ad 206), .int (bI (gt)), .ref (ad 207)])) (ro : Nat → Nat) (q205 : g 205 = na ca 75 ro)  : MV l yX8_blank cX8_blank 2 rm_X8_blank D ca tB tS R ad g sz [.ref (ad 198)] (fun g1 => (∀ z, z ≠ 205 → g1 z = g z) ∧ g1 205 = na ca 75 (fFill 75 0 ro)) := by
  refine m_startV (by decide +kernel) (Nat.le_of_ble_eq_true rfl) (fun p e s m args below meth c ls Q hsz C hnm hl F hw hret => ?_)
  have hl : lv_has ls 2 [(0, .ref (ad 198))] := hl
  generalize s.heap = H at hw ⊢
  generalize ([] : List Loc) = locs at hw ⊢
  refine k_icn C 0 dX8_blank_0 (by decide) ?_
  refine lv_istore_n (lv' := [(1, .int (nI 0)), (0, .ref (ad 198))]) C.1 C.2.1 dX8_blank_1 rfl hl (by decide) rfl (fun ls hl => ?_)
  have loop2 : ∀ (fuel : Nat) (i : Nat) (f1 : Nat → Nat) (gL : Nat → va_E) (H : Heap) (locs : List Loc) (ls : Array Slot), ((75 - i) + 1 ≤ fuel) → (i ≤ 75) → (f1 = fFill i 0 ro) → (∀ z, z ≠ 205 → gL z = g z) → (gL (205) = na ca 75 (f1)) → Wd D (AA R ad sz) s R ad gL H locs → lv_has ls 2 [(0, .ref (ad 198)), (1, .int (nI i))] → W p l e rm_X8_blank s m args below meth c H locs 0 0 Q (F0 m 2 ls []) := by
    intro fuel
    induction fuel with
    | zero =>
      intro i f1 gL H locs ls hfu2
      exact absurd hfu2 (by omega)
    | succ fuel2 ih2 =>
      intro i f1 gL H locs ls hfu2 hi hf1 hsL2 eL2_0 hw hl
      have e1 : gL (198) = .inr (8, [.int (cd), .ref (ad 199), .int (nI ln), .ref (ad 200), .int (nI bk), .int (nI bt), .ref (ad 201), .int (nI ck), .int (nI ct), .ref (ad 202), .int (nI cn), .int (nI pk), .ref (ad 203), .ref (ad 204), .int (nI rw), .ref (ad 205), .ref (ad 206), .int (bI (gt)), .ref (ad 207)]) := (hsL2 _ (by omega)).trans eM
      refine lv_iload_n C.1 C.2.1 dX8_blank_2 rfl (lv_at hl 1 rfl) ?_
      refine k_bip C 75 dX8_blank_3 (by decide) ?_
      refine k_ige (tgt := 21) C dX8_blank_5 (by decide) (by omega) (by omega) (fun hc5 => ?_) (fun hc5 => ?_)
      · exact hret H locs ls _ _ dX8_blank_21 hw (⟨hsL2, by rw [eL2_0, hf1, show i = 75 by omega]⟩)
      · refine lv_aload_n C.1 C.2.1 dX8_blank_8 rfl (lv_at hl 0 rfl) ?_
        refine k_get C F hw (198) (by omega) e1 rfl in_X8 15 (by decide) fl_X8_29 rfl dX8_blank_9 ?_
        refine lv_iload_n C.1 C.2.1 dX8_blank_12 rfl (lv_at hl 1 rfl) ?_
        refine k_icn C 0 dX8_blank_13 (by decide) ?_
        refine k_iast C F hw (205) (by omega) eL2_0 (i) (0) (by omega) (by decide) dX8_blank_14 (fun H locs hw => ?_)
        have hw : Wd D (AA R ad sz) s R ad (va_up gL (205) (na ca 75 (va_up f1 i 0))) H locs := hw
        obtain ⟨g2, hg2⟩ : ∃ z, z = va_up gL (205) (na ca 75 (va_up f1 i 0)) := ⟨_, rfl⟩
        rw [← hg2] at hw
        have hk3 : ∀ z, z ≠ 205 → g2 z = gL z := fun z hz => by rw [hg2]; exact va_up_ne _ _ hz
        have e4 : g2 (205) = na ca 75 (va_up f1 i 0) := by rw [hg2]; exact va_up_self _ _ _
        have e5 : g2 (198) = .inr (8, [.int (cd), .ref (ad 199), .int (nI ln), .ref (ad 200), .int (nI bk), .int (nI bt), .ref (ad 201), .int (nI ck), .int (nI ct), .ref (ad 202), .int (nI cn), .int (nI pk), .ref (ad 203), .ref (ad 204), .int (nI rw), .ref (ad 205), .ref (ad 206), .int (bI (gt)), .ref (ad 207)]) := (hk3 _ (by omega)).trans e1
        have hs6 : ∀ z, z ≠ 205 → g2 z = g z := fun z hz => (hk3 z (by omega)).trans (hsL2 z hz)
        refine k_inc C (i + 1) (lv' := [(1, .int (nI (i + 1))), (0, .ref (ad 198))]) dX8_blank_15 hl (k := 1) rfl (inc1 _) (by decide) rfl (fun ls hl => ?_)
        refine lv_goto (tgt := 2) C.1 C.2.1 dX8_blank_18 (by decide) ?_
        exact ih2 (i + 1) (va_up f1 i 0) g2 H locs ls (by omega) (by omega) (by rw [hf1, fFill_s]) hs6 e4 hw (lv_sub hl [1, 0] rfl)
  exact loop2 _ 0 ro g H locs ls (Nat.le_refl _) (by omega) ((fFill_0 0 ro).symm) (fun z _ => rfl) q205 hw (lv_sub hl [1, 0] rfl)

abbrev rm_X8_fixed : Room := { frames := 1, cells := 0, slots := 0, locals := 21 }

set_option maxHeartbeats 800000 in
set_option maxRecDepth 100000 in
/-- fixed -/
theorem c_X8_fixed {l : Launch} {D : va_G} {ca : Nat → ClassId} {tB tS R : Nat} {ad : Nat → Nat} {g : Nat → va_E} {sz : Nat} (hR : 207 < R) (cd : Int32) (ln bk bt ck ct cn pk rw : Nat) (gt : Bool) (eM : g 198 = .inr (8, [.int (cd), .ref (ad 199), .int (nI ln), .ref (ad 200), .int (nI bk), .int (nI bt), .ref (ad 201), .int (nI ck), .int (nI ct), .ref (ad 202), .int (nI cn), .int (nI pk), .ref (ad 203), .ref (ad 204), .int (nI rw), .ref (ad 205), .ref (ad 206), .int (bI (gt)), .ref (ad 207)])) (ro : Nat → Nat) (q205 : g 205 = na ca 75 ro) (pm : Nat → Nat) (q206 : g 206 = na ca 255 pm) (k i : Nat) (hk : 1 ≤ k ∧ k ≤ 48) (hi : i < 11) : MV l yX8_fixed cX8_fixed 5 rm_X8_fixed D ca tB tS R ad g sz [.ref (ad 198), .int (nI k), .int (nI i)] (fun g1 => (∀ z, z ≠ 205 → g1 z = g z) ∧ g1 205 = na ca 75 (onRow (fxV pm k i) ro)) := by
  refine m_startV (by decide +kernel) (Nat.le_of_ble_eq_true rfl) (fun p e s m args below meth c ls Q hsz C hnm hl F hw hret => ?_)
  have hl : lv_has ls 5 [(0, .ref (ad 198)), (1, .int (nI k)), (2, .int (nI i))] := hl
  generalize s.heap = H at hw ⊢
  generalize ([] : List Loc) = locs at hw ⊢
  refine lv_aload_n C.1 C.2.1 dX8_fixed_0 rfl (lv_at hl 0 rfl) ?_
  refine k_Vv C F hw (i := 198) (As := []) (rest := []) (c_X8_blank hR cd ln bk bt ck ct cn pk rw gt eM ro q205) (by omega) eM rfl (cwV _ C.2.2.2.2 gm_X8_55 rfl rfl rfl cd_X8_blank ⟨by decide, by decide⟩) hl.1 rfl (Nat.le_of_ble_eq_true rfl) dX8_fixed_1 ⟨by decide, by decide⟩ (fun g2 H locs hp hw => ?_)
  obtain ⟨hk3, e4⟩ := hp
  have e5 : g2 (198) = .inr (8, [.int (cd), .ref (ad 199), .int (nI ln), .ref (ad 200), .int (nI bk), .int (nI bt), .ref (ad 201), .int (nI ck), .int (nI ct), .ref (ad 202), .int (nI cn), .int (nI pk), .ref (ad 203), .ref (ad 204), .int (nI rw), .ref (ad 205), .ref (ad 206), .int (bI (gt)), .ref (ad 207)]) := (hk3 _ (by omega)).trans eM
  have e6 : g2 (206) = na ca 255 (pm) := (hk3 _ (by omega)).trans q206
  have hs7 : ∀ z, z ≠ 205 → g2 z = g z := fun z hz => hk3 z (by omega)
  refine lv_aload_n C.1 C.2.1 dX8_fixed_4 rfl (lv_at hl 0 rfl) ?_
  refine k_get C F hw (198) (by omega) e5 rfl in_X8 15 (by decide) fl_X8_29 rfl dX8_fixed_5 ?_
  refine lv_iload_n C.1 C.2.1 dX8_fixed_8 rfl (lv_at hl 1 rfl) ?_
  refine lv_iload_n C.1 C.2.1 dX8_fixed_9 rfl (lv_at hl 2 rfl) ?_
  refine k_add C dX8_fixed_10 ?_
  refine k_icn C 1 dX8_fixed_11 (by decide) ?_
  refine k_iast C F hw (205) (by omega) e4 (k + i) (1) (by omega) (by decide) dX8_fixed_12 (fun H locs hw => ?_)
  have hw : Wd D (AA R ad sz) s R ad (va_up g2 (205) (na ca 75 (va_up (fFill 75 0 ro) (k + i) 1))) H locs := hw
  obtain ⟨g8, hg8⟩ : ∃ z, z = va_up g2 (205) (na ca 75 (va_up (fFill 75 0 ro) (k + i) 1)) := ⟨_, rfl⟩
  rw [← hg8] at hw
  have hk9 : ∀ z, z ≠ 205 → g8 z = g2 z := fun z hz => by rw [hg8]; exact va_up_ne _ _ hz
  have e10 : g8 (205) = na ca 75 (va_up (fFill 75 0 ro) (k + i) 1) := by rw [hg8]; exact va_up_self _ _ _
  have e11 : g8 (198) = .inr (8, [.int (cd), .ref (ad 199), .int (nI ln), .ref (ad 200), .int (nI bk), .int (nI bt), .ref (ad 201), .int (nI ck), .int (nI ct), .ref (ad 202), .int (nI cn), .int (nI pk), .ref (ad 203), .ref (ad 204), .int (nI rw), .ref (ad 205), .ref (ad 206), .int (bI (gt)), .ref (ad 207)]) := (hk9 _ (by omega)).trans e5
  have e12 : g8 (206) = na ca 255 (pm) := (hk9 _ (by omega)).trans e6
  have hs13 : ∀ z, z ≠ 205 → g8 z = g z := fun z hz => (hk9 z (by omega)).trans (hs7 z hz)
  refine lv_iload_n C.1 C.2.1 dX8_fixed_13 rfl (lv_at hl 2 rfl) ?_
  refine k_bip C 7 dX8_fixed_14 (by decide) ?_
  refine k_ilt (tgt := 52) C dX8_fixed_16 (by decide) (by omega) (by omega) (fun hc16 => ?_) (fun hc16 => ?_)
  · refine k_icn C 0 dX8_fixed_52 (by decide) ?_
    refine lv_istore_n (lv' := [(3, .int (nI 0)), (0, .ref (ad 198)), (1, .int (nI k)), (2, .int (nI i))]) C.1 C.2.1 dX8_fixed_53 rfl hl (by decide) rfl (fun ls hl => ?_)
    have loop54 : ∀ (fuel : Nat) (j : Nat) (f1 : Nat → Nat) (gL : Nat → va_E) (H : Heap) (locs : List Loc) (ls : Array Slot), ((k - j) + 1 ≤ fuel) → (j ≤ k) → (f1 = onRow (fxB k i j) ro) → (∀ z, z ≠ 205 → gL z = g z) → (gL (205) = na ca 75 (f1)) → Wd D (AA R ad sz) s R ad gL H locs → lv_has ls 5 [(0, .ref (ad 198)), (1, .int (nI k)), (2, .int (nI i)), (3, .int (nI j))] → W p l e rm_X8_fixed s m args below meth c H locs 0 0 Q (F0 m 54 ls []) := by
      intro fuel
      induction fuel with
      | zero =>
        intro j f1 gL H locs ls hfu54
        exact absurd hfu54 (by omega)
      | succ fuel54 ih54 =>
        intro j f1 gL H locs ls hfu54 hj hf1 hsL54 eL54_0 hw hl
        have e14 : gL (198) = .inr (8, [.int (cd), .ref (ad 199), .int (nI ln), .ref (ad 200), .int (nI bk), .int (nI bt), .ref (ad 201), .int (nI ck), .int (nI ct), .ref (ad 202), .int (nI cn), .int (nI pk), .ref (ad 203), .ref (ad 204), .int (nI rw), .ref (ad 205), .ref (ad 206), .int (bI (gt)), .ref (ad 207)]) := (hsL54 _ (by omega)).trans eM
        have e15 : gL (206) = na ca 255 (pm) := (hsL54 _ (by omega)).trans q206
        refine lv_iload_n C.1 C.2.1 dX8_fixed_54 rfl (lv_at hl 3 rfl) ?_
        refine lv_iload_n C.1 C.2.1 dX8_fixed_55 rfl (lv_at hl 1 rfl) ?_
        refine k_ige (tgt := 119) C dX8_fixed_56 (by decide) (by omega) (by omega) (fun hc56 => ?_) (fun hc56 => ?_)
        · exact hret H locs ls _ _ dX8_fixed_119 hw (⟨hsL54, by rw [eL54_0, hf1, show j = k by omega, fxV, if_neg (by omega)]⟩)
        · refine k_icn C 1 dX8_fixed_59 (by decide) ?_
          refine lv_iload_n C.1 C.2.1 dX8_fixed_60 rfl (lv_at hl 3 rfl) ?_
          refine k_bip C 7 dX8_fixed_61 (by decide) ?_
          refine k_div C dX8_fixed_63 (by omega) (by omega) (by omega) ?_
          refine k_bip C 6 dX8_fixed_64 (by decide) ?_
          refine k_rem C dX8_fixed_66 (by omega) (by omega) (by omega) ?_
          refine k_add C dX8_fixed_67 ?_
          refine lv_istore (lv' := [(4, .int (nI (1 + ((j / 7) % 6)))), (0, .ref (ad 198)), (1, .int (nI k)), (2, .int (nI i)), (3, .int (nI j))]) C.1 C.2.1 dX8_fixed_68 hl (by decide) rfl (fun ls hl => ?_)
          refine lv_aload_n C.1 C.2.1 dX8_fixed_70 rfl (lv_at hl 1 rfl) ?_
          refine k_get C F hw (198) (by omega) e14 rfl in_X8 15 (by decide) fl_X8_29 rfl dX8_fixed_71 ?_
          refine lv_iload_n C.1 C.2.1 dX8_fixed_74 rfl (lv_at hl 4 rfl) ?_
          refine lv_iload_n C.1 C.2.1 dX8_fixed_75 rfl (lv_at hl 4 rfl) ?_
          refine k_bip C 7 dX8_fixed_76 (by decide) ?_
          refine k_rem C dX8_fixed_78 (by omega) (by omega) (by omega) ?_
          refine lv_iload_n C.1 C.2.1 dX8_fixed_79 rfl (lv_at hl 3 rfl) ?_
          refine k_ieq (tgt := 107) C dX8_fixed_80 (by decide) (by omega) (by omega) (fun hc80 => ?_) (fun hc80 => ?_)
          · refine k_icn C 1 dX8_fixed_107 (by decide) ?_
            refine lv_goto (tgt := 112) C.1 C.2.1 dX8_fixed_108 (by decide) ?_
            refine k_iast C F hw (205) (by omega) eL54_0 (j) (1) (by omega) (by decide) dX8_fixed_112 (fun H locs hw => ?_)
            have hw : Wd D (AA R ad sz) s R ad (va_up gL (205) (na ca 75 (va_up f1 j 1))) H locs := hw
            obtain ⟨g16, hg16⟩ : ∃ z, z = va_up gL (205) (na ca 75 (va_up f1 j 1)) := ⟨_, rfl⟩
            rw [← hg16] at hw
            have hk17 : ∀ z, z ≠ 205 → g16 z = gL z := fun z hz => by rw [hg16]; exact va_up_ne _ _ hz
            have e18 : g16 (205) = na ca 75 (va_up f1 j 1) := by rw [hg16]; exact va_up_self _ _ _
            have e19 : g16 (198) = .inr (8, [.int (cd), .ref (ad 199), .int (nI ln), .ref (ad 200), .int (nI bk), .int (nI bt), .ref (ad 201), .int (nI ck), .int (nI ct), .ref (ad 202), .int (nI cn), .int (nI pk), .ref (ad 203), .ref (ad 204), .int (nI rw), .ref (ad 205), .ref (ad 206), .int (bI (gt)), .ref (ad 207)]) := (hk17 _ (by omega)).trans e14
            have e20 : g16 (206) = na ca 255 (pm) := (hk17 _ (by omega)).trans e15
            have hs21 : ∀ z, z ≠ 205 → g16 z = g z := fun z hz => (hk17 z (by omega)).trans (hsL54 z hz)
            refine k_inc C (j + 1) (lv' := [(3, .int (nI (j + 1))), (4, .int (nI (1 + ((j / 7) % 6)))), (0, .ref (ad 198)), (1, .int (nI k)), (2, .int (nI i))]) dX8_fixed_113 hl (k := 4) rfl (inc1 _) (by decide) rfl (fun ls hl => ?_)
            refine lv_goto (tgt := 54) C.1 C.2.1 dX8_fixed_116 (by decide) ?_
            exact ih54 (j + 1) (va_up f1 j 1) g16 H locs ls (by omega) (by omega) (by rw [hf1, onRow_up (by omega), fxB_t (by omega) (by omega)]) hs21 e18 hw (lv_sub hl [2, 3, 4, 0] rfl)
          · refine lv_iload_n C.1 C.2.1 dX8_fixed_83 rfl (lv_at hl 4 rfl) ?_
            refine lv_iload C.1 C.2.1 dX8_fixed_84 (lv_at hl 0 rfl) ?_
            refine k_add C dX8_fixed_86 ?_
            refine k_bip C 7 dX8_fixed_87 (by decide) ?_
            refine k_rem C dX8_fixed_89 (by omega) (by omega) (by omega) ?_
            refine lv_iload_n C.1 C.2.1 dX8_fixed_90 rfl (lv_at hl 3 rfl) ?_
            refine k_ieq (tgt := 107) C dX8_fixed_91 (by decide) (by omega) (by omega) (fun hc91 => ?_) (fun hc91 => ?_)
            · refine k_icn C 1 dX8_fixed_107 (by decide) ?_
              refine lv_goto (tgt := 112) C.1 C.2.1 dX8_fixed_108 (by decide) ?_
              refine k_iast C F hw (205) (by omega) eL54_0 (j) (1) (by omega) (by decide) dX8_fixed_112 (fun H locs hw => ?_)
              have hw : Wd D (AA R ad sz) s R ad (va_up gL (205) (na ca 75 (va_up f1 j 1))) H locs := hw
              obtain ⟨g22, hg22⟩ : ∃ z, z = va_up gL (205) (na ca 75 (va_up f1 j 1)) := ⟨_, rfl⟩
              rw [← hg22] at hw
              have hk23 : ∀ z, z ≠ 205 → g22 z = gL z := fun z hz => by rw [hg22]; exact va_up_ne _ _ hz
              have e24 : g22 (205) = na ca 75 (va_up f1 j 1) := by rw [hg22]; exact va_up_self _ _ _
              have e25 : g22 (198) = .inr (8, [.int (cd), .ref (ad 199), .int (nI ln), .ref (ad 200), .int (nI bk), .int (nI bt), .ref (ad 201), .int (nI ck), .int (nI ct), .ref (ad 202), .int (nI cn), .int (nI pk), .ref (ad 203), .ref (ad 204), .int (nI rw), .ref (ad 205), .ref (ad 206), .int (bI (gt)), .ref (ad 207)]) := (hk23 _ (by omega)).trans e14
              have e26 : g22 (206) = na ca 255 (pm) := (hk23 _ (by omega)).trans e15
              have hs27 : ∀ z, z ≠ 205 → g22 z = g z := fun z hz => (hk23 z (by omega)).trans (hsL54 z hz)
              refine k_inc C (j + 1) (lv' := [(3, .int (nI (j + 1))), (4, .int (nI (1 + ((j / 7) % 6)))), (0, .ref (ad 198)), (1, .int (nI k)), (2, .int (nI i))]) dX8_fixed_113 hl (k := 4) rfl (inc1 _) (by decide) rfl (fun ls hl => ?_)
              refine lv_goto (tgt := 54) C.1 C.2.1 dX8_fixed_116 (by decide) ?_
              exact ih54 (j + 1) (va_up f1 j 1) g22 H locs ls (by omega) (by omega) (by rw [hf1, onRow_up (by omega), fxB_t (by omega) (by omega)]) hs27 e24 hw (lv_sub hl [2, 3, 4, 0] rfl)
            · refine lv_iload_n C.1 C.2.1 dX8_fixed_94 rfl (lv_at hl 4 rfl) ?_
              refine k_icn C 2 dX8_fixed_95 (by decide) ?_
              refine lv_iload C.1 C.2.1 dX8_fixed_96 (lv_at hl 0 rfl) ?_
              refine k_mul C dX8_fixed_98 ?_
              refine k_add C dX8_fixed_99 ?_
              refine k_bip C 7 dX8_fixed_100 (by decide) ?_
              refine k_rem C dX8_fixed_102 (by omega) (by omega) (by omega) ?_
              refine lv_iload_n C.1 C.2.1 dX8_fixed_103 rfl (lv_at hl 3 rfl) ?_
              refine k_ine (tgt := 111) C dX8_fixed_104 (by decide) (by omega) (by omega) (fun hc104 => ?_) (fun hc104 => ?_)
              · refine k_icn C 0 dX8_fixed_111 (by decide) ?_
                refine k_iast C F hw (205) (by omega) eL54_0 (j) (0) (by omega) (by decide) dX8_fixed_112 (fun H locs hw => ?_)
                have hw : Wd D (AA R ad sz) s R ad (va_up gL (205) (na ca 75 (va_up f1 j 0))) H locs := hw
                obtain ⟨g28, hg28⟩ : ∃ z, z = va_up gL (205) (na ca 75 (va_up f1 j 0)) := ⟨_, rfl⟩
                rw [← hg28] at hw
                have hk29 : ∀ z, z ≠ 205 → g28 z = gL z := fun z hz => by rw [hg28]; exact va_up_ne _ _ hz
                have e30 : g28 (205) = na ca 75 (va_up f1 j 0) := by rw [hg28]; exact va_up_self _ _ _
                have e31 : g28 (198) = .inr (8, [.int (cd), .ref (ad 199), .int (nI ln), .ref (ad 200), .int (nI bk), .int (nI bt), .ref (ad 201), .int (nI ck), .int (nI ct), .ref (ad 202), .int (nI cn), .int (nI pk), .ref (ad 203), .ref (ad 204), .int (nI rw), .ref (ad 205), .ref (ad 206), .int (bI (gt)), .ref (ad 207)]) := (hk29 _ (by omega)).trans e14
                have e32 : g28 (206) = na ca 255 (pm) := (hk29 _ (by omega)).trans e15
                have hs33 : ∀ z, z ≠ 205 → g28 z = g z := fun z hz => (hk29 z (by omega)).trans (hsL54 z hz)
                refine k_inc C (j + 1) (lv' := [(3, .int (nI (j + 1))), (4, .int (nI (1 + ((j / 7) % 6)))), (0, .ref (ad 198)), (1, .int (nI k)), (2, .int (nI i))]) dX8_fixed_113 hl (k := 4) rfl (inc1 _) (by decide) rfl (fun ls hl => ?_)
                refine lv_goto (tgt := 54) C.1 C.2.1 dX8_fixed_116 (by decide) ?_
                exact ih54 (j + 1) (va_up f1 j 0) g28 H locs ls (by omega) (by omega) (by rw [hf1, onRow_up (by omega), fxB_f (by omega) (by omega)]) hs33 e30 hw (lv_sub hl [2, 3, 4, 0] rfl)
              · refine k_icn C 1 dX8_fixed_107 (by decide) ?_
                refine lv_goto (tgt := 112) C.1 C.2.1 dX8_fixed_108 (by decide) ?_
                refine k_iast C F hw (205) (by omega) eL54_0 (j) (1) (by omega) (by decide) dX8_fixed_112 (fun H locs hw => ?_)
                have hw : Wd D (AA R ad sz) s R ad (va_up gL (205) (na ca 75 (va_up f1 j 1))) H locs := hw
                obtain ⟨g34, hg34⟩ : ∃ z, z = va_up gL (205) (na ca 75 (va_up f1 j 1)) := ⟨_, rfl⟩
                rw [← hg34] at hw
                have hk35 : ∀ z, z ≠ 205 → g34 z = gL z := fun z hz => by rw [hg34]; exact va_up_ne _ _ hz
                have e36 : g34 (205) = na ca 75 (va_up f1 j 1) := by rw [hg34]; exact va_up_self _ _ _
                have e37 : g34 (198) = .inr (8, [.int (cd), .ref (ad 199), .int (nI ln), .ref (ad 200), .int (nI bk), .int (nI bt), .ref (ad 201), .int (nI ck), .int (nI ct), .ref (ad 202), .int (nI cn), .int (nI pk), .ref (ad 203), .ref (ad 204), .int (nI rw), .ref (ad 205), .ref (ad 206), .int (bI (gt)), .ref (ad 207)]) := (hk35 _ (by omega)).trans e14
                have e38 : g34 (206) = na ca 255 (pm) := (hk35 _ (by omega)).trans e15
                have hs39 : ∀ z, z ≠ 205 → g34 z = g z := fun z hz => (hk35 z (by omega)).trans (hsL54 z hz)
                refine k_inc C (j + 1) (lv' := [(3, .int (nI (j + 1))), (4, .int (nI (1 + ((j / 7) % 6)))), (0, .ref (ad 198)), (1, .int (nI k)), (2, .int (nI i))]) dX8_fixed_113 hl (k := 4) rfl (inc1 _) (by decide) rfl (fun ls hl => ?_)
                refine lv_goto (tgt := 54) C.1 C.2.1 dX8_fixed_116 (by decide) ?_
                exact ih54 (j + 1) (va_up f1 j 1) g34 H locs ls (by omega) (by omega) (by rw [hf1, onRow_up (by omega), fxB_t (by omega) (by omega)]) hs39 e36 hw (lv_sub hl [2, 3, 4, 0] rfl)
    exact loop54 _ 0 (va_up (fFill 75 0 ro) (k + i) 1) g8 H locs ls (Nat.le_refl _) (by omega) (by rw [onRow_fill, onRow_up (by omega), fxB_0]) hs13 e10 hw (lv_sub hl [1, 2, 3, 0] rfl)
  · refine k_icn C 0 dX8_fixed_19 (by decide) ?_
    refine lv_istore_n (lv' := [(3, .int (nI 0)), (0, .ref (ad 198)), (1, .int (nI k)), (2, .int (nI i))]) C.1 C.2.1 dX8_fixed_20 rfl hl (by decide) rfl (fun ls hl => ?_)
    have loop21 : ∀ (fuel : Nat) (j : Nat) (f1 : Nat → Nat) (gL : Nat → va_E) (H : Heap) (locs : List Loc) (ls : Array Slot), ((k + 7 - j) + 1 ≤ fuel) → (j ≤ k + 7) → (f1 = onRow (fxA pm k i j) ro) → (∀ z, z ≠ 205 → gL z = g z) → (gL (205) = na ca 75 (f1)) → Wd D (AA R ad sz) s R ad gL H locs → lv_has ls 5 [(0, .ref (ad 198)), (1, .int (nI k)), (2, .int (nI i)), (3, .int (nI j))] → W p l e rm_X8_fixed s m args below meth c H locs 0 0 Q (F0 m 21 ls []) := by
      intro fuel
      induction fuel with
      | zero =>
        intro j f1 gL H locs ls hfu21
        exact absurd hfu21 (by omega)
      | succ fuel21 ih21 =>
        intro j f1 gL H locs ls hfu21 hj hf1 hsL21 eL21_0 hw hl
        have e40 : gL (198) = .inr (8, [.int (cd), .ref (ad 199), .int (nI ln), .ref (ad 200), .int (nI bk), .int (nI bt), .ref (ad 201), .int (nI ck), .int (nI ct), .ref (ad 202), .int (nI cn), .int (nI pk), .ref (ad 203), .ref (ad 204), .int (nI rw), .ref (ad 205), .ref (ad 206), .int (bI (gt)), .ref (ad 207)]) := (hsL21 _ (by omega)).trans eM
        have e41 : gL (206) = na ca 255 (pm) := (hsL21 _ (by omega)).trans q206
        refine lv_iload_n C.1 C.2.1 dX8_fixed_21 rfl (lv_at hl 3 rfl) ?_
        refine lv_iload_n C.1 C.2.1 dX8_fixed_22 rfl (lv_at hl 1 rfl) ?_
        refine k_bip C 7 dX8_fixed_23 (by decide) ?_
        refine k_add C dX8_fixed_25 ?_
        refine k_ige (tgt := 51) C dX8_fixed_26 (by decide) (by omega) (by omega) (fun hc26 => ?_) (fun hc26 => ?_)
        · exact hret H locs ls _ _ dX8_fixed_51 hw (⟨hsL21, by rw [eL21_0, hf1, show j = k + 7 by omega, fxV, if_pos (by omega)]⟩)
        · refine lv_aload_n C.1 C.2.1 dX8_fixed_29 rfl (lv_at hl 0 rfl) ?_
          refine k_get C F hw (198) (by omega) e40 rfl in_X8 15 (by decide) fl_X8_29 rfl dX8_fixed_30 ?_
          refine lv_iload_n C.1 C.2.1 dX8_fixed_33 rfl (lv_at hl 3 rfl) ?_
          refine lv_aload_n C.1 C.2.1 dX8_fixed_34 rfl (lv_at hl 0 rfl) ?_
          refine lv_iload_n C.1 C.2.1 dX8_fixed_35 rfl (lv_at hl 3 rfl) ?_
          refine lv_iload_n C.1 C.2.1 dX8_fixed_36 rfl (lv_at hl 2 rfl) ?_
          refine k_bip C 6 dX8_fixed_37 (by decide) ?_
          refine k_sub C dX8_fixed_39 (by omega) ?_
          refine k_mul C dX8_fixed_40 ?_
          have hji : j * (i - 6) ≤ 59 * 11 := Nat.mul_le_mul (by omega) (by omega)
          refine k_Vi C F hw (i := 198) (As := [.int (nI (j * (i - 6)))]) (rest := [.int (nI j), .ref (ad 205)]) (c_X8_power hR cd ln bk bt ck ct cn pk rw gt e40 pm e41 (j * (i - 6)) (by omega)) (by omega) e40 rfl (cwV _ C.2.2.2.2 gm_X8_58 rfl rfl rfl cd_X8_power ⟨by decide, by decide⟩) hl.1 rfl (Nat.le_of_ble_eq_true rfl) dX8_fixed_41 ⟨by decide, by decide⟩ (fun r42 g43 H locs hp hw => ?_)
          obtain ⟨hr9, hg9⟩ := hp
          rw [hg9] at hw
          subst hr9
          refine k_iast C F hw (205) (by omega) eL21_0 (j) (pm (j * (i - 6) % 255)) (by omega) (by decide) dX8_fixed_44 (fun H locs hw => ?_)
          have hw : Wd D (AA R ad sz) s R ad (va_up gL (205) (na ca 75 (va_up f1 j (pm (j * (i - 6) % 255))))) H locs := hw
          obtain ⟨g44, hg44⟩ : ∃ z, z = va_up gL (205) (na ca 75 (va_up f1 j (pm (j * (i - 6) % 255)))) := ⟨_, rfl⟩
          rw [← hg44] at hw
          have hk45 : ∀ z, z ≠ 205 → g44 z = gL z := fun z hz => by rw [hg44]; exact va_up_ne _ _ hz
          have e46 : g44 (205) = na ca 75 (va_up f1 j (pm (j * (i - 6) % 255))) := by rw [hg44]; exact va_up_self _ _ _
          have e47 : g44 (198) = .inr (8, [.int (cd), .ref (ad 199), .int (nI ln), .ref (ad 200), .int (nI bk), .int (nI bt), .ref (ad 201), .int (nI ck), .int (nI ct), .ref (ad 202), .int (nI cn), .int (nI pk), .ref (ad 203), .ref (ad 204), .int (nI rw), .ref (ad 205), .ref (ad 206), .int (bI (gt)), .ref (ad 207)]) := (hk45 _ (by omega)).trans e40
          have e48 : g44 (206) = na ca 255 (pm) := (hk45 _ (by omega)).trans e41
          have hs49 : ∀ z, z ≠ 205 → g44 z = g z := fun z hz => (hk45 z (by omega)).trans (hsL21 z hz)
          refine k_inc C (j + 1) (lv' := [(3, .int (nI (j + 1))), (0, .ref (ad 198)), (1, .int (nI k)), (2, .int (nI i))]) dX8_fixed_45 hl (k := 3) rfl (inc1 _) (by decide) rfl (fun ls hl => ?_)
          refine lv_goto (tgt := 21) C.1 C.2.1 dX8_fixed_48 (by decide) ?_
          exact ih21 (j + 1) (va_up f1 j (pm (j * (i - 6) % 255))) g44 H locs ls (by omega) (by omega) (by rw [hf1, onRow_up (by omega), fxA_s (by omega)]) hs49 e46 hw (lv_sub hl [1, 2, 3, 0] rfl)
    exact loop21 _ 0 (va_up (fFill 75 0 ro) (k + i) 1) g8 H locs ls (Nat.le_refl _) (by omega) (by rw [onRow_fill, onRow_up (by omega), fxA_0 pm]) hs13 e10 hw (lv_sub hl [1, 2, 3, 0] rfl)

abbrev rm_X8_packet : Room := { frames := 1, cells := 0, slots := 0, locals := 25 }

set_option maxHeartbeats 800000 in
set_option maxRecDepth 100000 in
/-- packet -/
theorem c_X8_packet {l : Launch} {D : va_G} {ca : Nat → ClassId} {tB tS R : Nat} {ad : Nat → Nat} {g : Nat → va_E} {sz : Nat} (hR : 207 < R) (cd : Int32) (ln bk bt ck ct cn pk rw : Nat) (gt : Bool) (eM : g 198 = .inr (8, [.int (cd), .ref (ad 199), .int (nI ln), .ref (ad 200), .int (nI bk), .int (nI bt), .ref (ad 201), .int (nI ck), .int (nI ct), .ref (ad 202), .int (nI cn), .int (nI pk), .ref (ad 203), .ref (ad 204), .int (nI rw), .ref (ad 205), .ref (ad 206), .int (bI (gt)), .ref (ad 207)])) (ro : Nat → Nat) (q205 : g 205 = na ca 75 ro) (k x t : Nat) (hk : 1 ≤ k ∧ k ≤ 48) (hx : x < 65536) (ht : t ≤ 1000) : MI l yX8_packet cX8_packet 12 .int rm_X8_packet D ca tB tS R ad g sz [.ref (ad 198), .int (nI k), .int (nI t), .int (nI x)] (fun r g1 => r = nI (pkD k x t) ∧ (∀ z, z ≠ 205 → g1 z = g z) ∧ g1 205 = na ca 75 (onRow (pkR k x t) ro)) := by
  refine m_startI (by decide +kernel) (Nat.le_of_ble_eq_true rfl) (fun p e s m args below meth c ls Q hsz C hl F hw hret => ?_)
  have hl : lv_has ls 12 [(0, .ref (ad 198)), (1, .int (nI k)), (2, .int (nI t)), (3, .int (nI x))] := hl
  generalize s.heap = H at hw ⊢
  generalize ([] : List Loc) = locs at hw ⊢
  obtain ⟨t1, t2, t3, t4, -⟩ := lp_tab (k + 11) (by omega) (by omega)
  refine lv_aload_n C.1 C.2.1 dX8_packet_0 rfl (lv_at hl 0 rfl) ?_
  refine k_Vv C F hw (i := 198) (As := []) (rest := []) (c_X8_blank hR cd ln bk bt ck ct cn pk rw gt eM ro q205) (by omega) eM rfl (cwV _ C.2.2.2.2 gm_X8_55 rfl rfl rfl cd_X8_blank ⟨by decide, by decide⟩) hl.1 rfl (Nat.le_of_ble_eq_true rfl) dX8_packet_1 ⟨by decide, by decide⟩ (fun g2 H locs hp hw => ?_)
  obtain ⟨hk3, e4⟩ := hp
  have e5 : g2 (198) = .inr (8, [.int (cd), .ref (ad 199), .int (nI ln), .ref (ad 200), .int (nI bk), .int (nI bt), .ref (ad 201), .int (nI ck), .int (nI ct), .ref (ad 202), .int (nI cn), .int (nI pk), .ref (ad 203), .ref (ad 204), .int (nI rw), .ref (ad 205), .ref (ad 206), .int (bI (gt)), .ref (ad 207)]) := (hk3 _ (by omega)).trans eM
  have hs6 : ∀ z, z ≠ 205 → g2 z = g z := fun z hz => hk3 z (by omega)
  refine lv_iload_n C.1 C.2.1 dX8_packet_4 rfl (lv_at hl 1 rfl) ?_
  refine k_bip C 11 dX8_packet_5 (by decide) ?_
  refine k_add C dX8_packet_7 ?_
  refine lv_istore (lv' := [(4, .int (nI (k + 11))), (0, .ref (ad 198)), (1, .int (nI k)), (2, .int (nI t)), (3, .int (nI x))]) C.1 C.2.1 dX8_packet_8 hl (by decide) rfl (fun ls hl => ?_)
  refine lv_iload_n C.1 C.2.1 dX8_packet_10 rfl (lv_at hl 4 rfl) ?_
  refine lv_i2l C.1 C.2.1 dX8_packet_11 rfl ?_
  refine lv_ldc2 (v := 65536) C.1 C.2.1 C.2.2.2.1 (C.2.2.2.2 _ kc_X8_62) dX8_packet_12 ?_
  refine lv_iload_n C.1 C.2.1 dX8_packet_15 rfl (lv_at hl 3 rfl) ?_
  refine lv_i2l C.1 C.2.1 dX8_packet_16 rfl ?_
  refine lv_lmul C.1 C.2.1 dX8_packet_17 ?_
  refine lv_ladd C.1 C.2.1 dX8_packet_18 ?_
  refine k_tl (x' := lN (x + 65536 * t)) (by rw [nI_l (by omega), nI_l (by omega), show (65536 : Int64) = lN 65536 from by decide, lN_mul, lN_add]) ?_
  refine lv_lstore (lv' := [(5, .long (lN (x + 65536 * t))), (4, .int (nI (k + 11))), (0, .ref (ad 198)), (1, .int (nI k)), (2, .int (nI t)), (3, .int (nI x))]) C.1 C.2.1 dX8_packet_19 hl (by decide) rfl (fun ls hl => ?_)
  refine lv_lload C.1 C.2.1 dX8_packet_21 (lv_at hl 0 rfl) ?_
  refine k_icn C 0 dX8_packet_23 (by decide) ?_
  refine k_sip C 1000 dX8_packet_24 (by decide) ?_
  refine k_Si C F hw (As := [.long (lN (x + 65536 * t)), .int (nI 0), .int (nI 1000)]) (rest := []) (c_X8_chance (x + 65536 * t) 0 (1000) (by decide) (by omega) (by omega)) (va_cwS _ C.2.2.2.2 gm_X8_64 rfl rfl rfl cd_X8_chance.2 ⟨by decide, by decide⟩) hl.1 rfl (Nat.le_of_ble_eq_true rfl) dX8_packet_27 ⟨by decide, by decide⟩ (fun r7 g8 H locs hp hw => ?_)
  obtain ⟨hr9, hg9⟩ := hp
  rw [hg9] at hw
  subst hr9
  have hch0 := chN_lt (x + 65536 * t) 0 (show 0 < 1000 by omega)
  refine k_Si C F hw (As := [.int (nI (chN (x + 65536 * t) 0 (1000)))]) (rest := []) (c_X8_degree (chN (x + 65536 * t) 0 1000) hch0) (va_cwS _ C.2.2.2.2 gm_X8_68 rfl rfl rfl cd_X8_degree.2 ⟨by decide, by decide⟩) hl.1 rfl (Nat.le_of_ble_eq_true rfl) dX8_packet_30 ⟨by decide, by decide⟩ (fun r9 g10 H locs hp hw => ?_)
  obtain ⟨hr9, hg9⟩ := hp
  rw [hg9] at hw
  subst hr9
  have hsz1 := szN_le (chN (x + 65536 * t) 0 1000)
  refine lv_istore (lv' := [(7, .int (nI (szN (chN (x + 65536 * t) 0 1000)))), (5, .long (lN (x + 65536 * t))), (4, .int (nI (k + 11))), (0, .ref (ad 198)), (1, .int (nI k)), (2, .int (nI t)), (3, .int (nI x))]) C.1 C.2.1 dX8_packet_33 hl (by decide) rfl (fun ls hl => ?_)
  refine lv_iload C.1 C.2.1 dX8_packet_35 (lv_at hl 0 rfl) ?_
  refine lv_iload C.1 C.2.1 dX8_packet_37 (lv_at hl 2 rfl) ?_
  refine k_ile (tgt := 47) C dX8_packet_39 (by decide) (by omega) (by omega) (fun hc39 => ?_) (fun hc39 => ?_)
  · refine lv_iload C.1 C.2.1 dX8_packet_47 (lv_at hl 0 rfl) ?_
    refine k_ti (x' := nI (pkD k x t)) (by congr 1; unfold pkD; omega) ?_
    have hD1 : pkD k x t ≤ 59 := by unfold pkD; omega
    refine lv_istore (lv' := [(7, .int (nI (pkD k x t))), (5, .long (lN (x + 65536 * t))), (4, .int (nI (k + 11))), (0, .ref (ad 198)), (1, .int (nI k)), (2, .int (nI t)), (3, .int (nI x))]) C.1 C.2.1 dX8_packet_49 hl (by decide) rfl (fun ls hl => ?_)
    refine lv_iload C.1 C.2.1 dX8_packet_51 (lv_at hl 2 rfl) ?_
    refine k_Si C F hw (As := [.int (nI (k + 11))]) (rest := []) (c_X8_prime (k + 11) (by omega) (by omega)) (va_cwS _ C.2.2.2.2 gm_X8_71 rfl rfl rfl cd_X8_prime.2 ⟨by decide, by decide⟩) hl.1 rfl (Nat.le_of_ble_eq_true rfl) dX8_packet_53 ⟨by decide, by decide⟩ (fun r11 g12 H locs hp hw => ?_)
    obtain ⟨hr9, hg9⟩ := hp
    rw [hg9] at hw
    subst hr9
    refine lv_istore (lv' := [(8, .int (nI (lpN (k + 11)))), (7, .int (nI (pkD k x t))), (5, .long (lN (x + 65536 * t))), (4, .int (nI (k + 11))), (0, .ref (ad 198)), (1, .int (nI k)), (2, .int (nI t)), (3, .int (nI x))]) C.1 C.2.1 dX8_packet_56 hl (by decide) rfl (fun ls hl => ?_)
    refine lv_lload C.1 C.2.1 dX8_packet_58 (lv_at hl 2 rfl) ?_
    refine k_icn C 2 dX8_packet_60 (by decide) ?_
    refine lv_iload C.1 C.2.1 dX8_packet_61 (lv_at hl 0 rfl) ?_
    refine k_Si C F hw (As := [.long (lN (x + 65536 * t)), .int (nI 2), .int (nI (lpN (k + 11)))]) (rest := []) (c_X8_chance (x + 65536 * t) 2 (lpN (k + 11)) (by decide) (by omega) (by omega)) (va_cwS _ C.2.2.2.2 gm_X8_64 rfl rfl rfl cd_X8_chance.2 ⟨by decide, by decide⟩) hl.1 rfl (Nat.le_of_ble_eq_true rfl) dX8_packet_63 ⟨by decide, by decide⟩ (fun r13 g14 H locs hp hw => ?_)
    obtain ⟨hr9, hg9⟩ := hp
    rw [hg9] at hw
    subst hr9
    have hch2 := chN_lt (x + 65536 * t) 2 (show 0 < lpN (k + 11) by omega)
    refine k_ti (x' := nI (pkA k x t)) (rfl) ?_
    refine lv_istore (lv' := [(9, .int (nI (pkA k x t))), (8, .int (nI (lpN (k + 11)))), (7, .int (nI (pkD k x t))), (5, .long (lN (x + 65536 * t))), (4, .int (nI (k + 11))), (0, .ref (ad 198)), (1, .int (nI k)), (2, .int (nI t)), (3, .int (nI x))]) C.1 C.2.1 dX8_packet_66 hl (by decide) rfl (fun ls hl => ?_)
    refine k_icn C 1 dX8_packet_68 (by decide) ?_
    refine lv_lload C.1 C.2.1 dX8_packet_69 (lv_at hl 3 rfl) ?_
    refine k_icn C 1 dX8_packet_71 (by decide) ?_
    refine lv_iload C.1 C.2.1 dX8_packet_72 (lv_at hl 1 rfl) ?_
    refine k_icn C 1 dX8_packet_74 (by decide) ?_
    refine k_sub C dX8_packet_75 (by omega) ?_
    refine k_Si C F hw (As := [.long (lN (x + 65536 * t)), .int (nI 1), .int (nI ((lpN (k + 11)) - 1))]) (rest := [.int (nI 1)]) (c_X8_chance (x + 65536 * t) 1 (lpN (k + 11) - 1) (by decide) (by omega) (by omega)) (va_cwS _ C.2.2.2.2 gm_X8_64 rfl rfl rfl cd_X8_chance.2 ⟨by decide, by decide⟩) hl.1 rfl (Nat.le_of_ble_eq_true rfl) dX8_packet_76 ⟨by decide, by decide⟩ (fun r15 g16 H locs hp hw => ?_)
    obtain ⟨hr9, hg9⟩ := hp
    rw [hg9] at hw
    subst hr9
    have hch1 := chN_lt (x + 65536 * t) 1 (show 0 < lpN (k + 11) - 1 by omega)
    refine k_add C dX8_packet_79 ?_
    refine k_ti (x' := nI (pkT k x t)) (rfl) ?_
    have hA1 : pkA k x t < lpN (k + 11) := hch2
    have hT1 : pkT k x t < 100 := by unfold pkT; omega
    refine lv_istore (lv' := [(10, .int (nI (pkT k x t))), (9, .int (nI (pkA k x t))), (8, .int (nI (lpN (k + 11)))), (7, .int (nI (pkD k x t))), (5, .long (lN (x + 65536 * t))), (4, .int (nI (k + 11))), (0, .ref (ad 198)), (1, .int (nI k)), (2, .int (nI t)), (3, .int (nI x))]) C.1 C.2.1 dX8_packet_80 hl (by decide) rfl (fun ls hl => ?_)
    refine k_icn C 0 dX8_packet_82 (by decide) ?_
    refine lv_istore (lv' := [(11, .int (nI 0)), (10, .int (nI (pkT k x t))), (9, .int (nI (pkA k x t))), (8, .int (nI (lpN (k + 11)))), (7, .int (nI (pkD k x t))), (5, .long (lN (x + 65536 * t))), (4, .int (nI (k + 11))), (0, .ref (ad 198)), (1, .int (nI k)), (2, .int (nI t)), (3, .int (nI x))]) C.1 C.2.1 dX8_packet_83 hl (by decide) rfl (fun ls hl => ?_)
    have loop85 : ∀ (fuel : Nat) (i : Nat) (a : Nat) (pl : Nat → Nat) (v : Nat) (f1 : Nat → Nat) (gL : Nat → va_E) (H : Heap) (locs : List Loc) (ls : Array Slot), ((lpN (k + 11) - i) + 1 ≤ fuel) → (i ≤ lpN (k + 11)) → (a < lpN (k + 11)) → (v ≤ pkD k x t) → (pkRun (k + 11) (lpN (k + 11)) (pkT k x t) (pkD k x t) (lpN (k + 11) - i) (pl, v, a) = pkOut k x t (fun _ => 0)) → (f1 = onRow (mkR pl v) ro) → (∀ z, z ≠ 205 → gL z = g z) → (gL (205) = na ca 75 (f1)) → Wd D (AA R ad sz) s R ad gL H locs → lv_has ls 12 [(0, .ref (ad 198)), (1, .int (nI k)), (2, .int (nI t)), (3, .int (nI x)), (4, .int (nI (k + 11))), (5, .long (lN (x + 65536 * t))), (7, .int (nI (pkD k x t))), (8, .int (nI (lpN (k + 11)))), (9, .int (nI a)), (10, .int (nI (pkT k x t))), (11, .int (nI v))] → W p l e rm_X8_packet s m args below meth c H locs 0 0 Q (F0 m 85 ls []) := by
      intro fuel
      induction fuel with
      | zero =>
        intro i a pl v f1 gL H locs ls hfu85
        exact absurd hfu85 (by omega)
      | succ fuel85 ih85 =>
        intro i a pl v f1 gL H locs ls hfu85 hi ha hv hrun hf1 hsL85 eL85_0 hw hl
        have e17 : gL (198) = .inr (8, [.int (cd), .ref (ad 199), .int (nI ln), .ref (ad 200), .int (nI bk), .int (nI bt), .ref (ad 201), .int (nI ck), .int (nI ct), .ref (ad 202), .int (nI cn), .int (nI pk), .ref (ad 203), .ref (ad 204), .int (nI rw), .ref (ad 205), .ref (ad 206), .int (bI (gt)), .ref (ad 207)]) := (hsL85 _ (by omega)).trans eM
        refine lv_iload C.1 C.2.1 dX8_packet_85 (lv_at hl 10 rfl) ?_
        refine lv_iload C.1 C.2.1 dX8_packet_87 (lv_at hl 6 rfl) ?_
        refine k_ige (tgt := 123) C dX8_packet_89 (by decide) (by omega) (by omega) (fun hc89 => ?_) (fun hc89 => ?_)
        · have ho : (pl, v, a) = pkOut k x t (fun _ => 0) := by rw [pk_stop (by show pkD k x t ≤ v; omega)] at hrun; exact hrun
          refine lv_iload C.1 C.2.1 dX8_packet_123 (lv_at hl 6 rfl) ?_
          exact hret H locs ls _ _ _ dX8_packet_125 hw (⟨rfl, hsL85, by rw [eL85_0, hf1, show v = pkD k x t by omega, show pl = pkP k x t from by unfold pkP; rw [← ho]]; rfl⟩)
        · have hil : i < lpN (k + 11) := by
            rcases Nat.lt_or_ge i (lpN (k + 11)) with h | h
            · exact h
            · rw [show lpN (k + 11) - i = 0 by omega] at hrun
              have h9 := (pkOut_wk x t (fun _ => 0) hk).1
              rw [← hrun] at h9
              have h9 : v = pkD k x t := h9
              omega
          refine lv_iload C.1 C.2.1 dX8_packet_92 (lv_at hl 8 rfl) ?_
          refine lv_iload C.1 C.2.1 dX8_packet_94 (lv_at hl 4 rfl) ?_
          refine k_ige (tgt := 110) C dX8_packet_96 (by decide) (by omega) (by omega) (fun hc96 => ?_) (fun hc96 => ?_)
          · refine lv_iload C.1 C.2.1 dX8_packet_110 (lv_at hl 8 rfl) ?_
            refine lv_iload C.1 C.2.1 dX8_packet_112 (lv_at hl 9 rfl) ?_
            refine k_add C dX8_packet_114 ?_
            refine lv_iload C.1 C.2.1 dX8_packet_115 (lv_at hl 7 rfl) ?_
            refine k_rem C dX8_packet_117 (by omega) (by omega) (by omega) ?_
            refine lv_istore (lv' := [(9, .int (nI ((a + (pkT k x t)) % (lpN (k + 11))))), (0, .ref (ad 198)), (1, .int (nI k)), (2, .int (nI t)), (3, .int (nI x)), (4, .int (nI (k + 11))), (5, .long (lN (x + 65536 * t))), (7, .int (nI (pkD k x t))), (8, .int (nI (lpN (k + 11)))), (10, .int (nI (pkT k x t))), (11, .int (nI v))]) C.1 C.2.1 dX8_packet_118 hl (by decide) rfl (fun ls hl => ?_)
            refine lv_goto (tgt := 85) C.1 C.2.1 dX8_packet_120 (by decide) ?_
            exact ih85 (i + 1) ((a + pkT k x t) % lpN (k + 11)) pl v f1 gL H locs ls (by omega) (by omega) (Nat.mod_lt _ (by omega)) (by omega) (by have h9 := pk_go hrun (by omega) (by show v < _; omega); simpa [pkStep, show ¬ a < k + 11 by omega] using h9) hf1 hsL85 eL85_0 hw (lv_sub hl [1, 2, 3, 4, 5, 6, 7, 8, 0, 9, 10] rfl)
          · refine lv_aload_n C.1 C.2.1 dX8_packet_99 rfl (lv_at hl 0 rfl) ?_
            refine k_get C F hw (198) (by omega) e17 rfl in_X8 15 (by decide) fl_X8_29 rfl dX8_packet_100 ?_
            refine lv_iload C.1 C.2.1 dX8_packet_103 (lv_at hl 8 rfl) ?_
            refine k_icn C 1 dX8_packet_105 (by decide) ?_
            refine k_iast C F hw (205) (by omega) eL85_0 (a) (1) (by omega) (by decide) dX8_packet_106 (fun H locs hw => ?_)
            have hw : Wd D (AA R ad sz) s R ad (va_up gL (205) (na ca 75 (va_up f1 a 1))) H locs := hw
            obtain ⟨g18, hg18⟩ : ∃ z, z = va_up gL (205) (na ca 75 (va_up f1 a 1)) := ⟨_, rfl⟩
            rw [← hg18] at hw
            have hk19 : ∀ z, z ≠ 205 → g18 z = gL z := fun z hz => by rw [hg18]; exact va_up_ne _ _ hz
            have e20 : g18 (205) = na ca 75 (va_up f1 a 1) := by rw [hg18]; exact va_up_self _ _ _
            have e21 : g18 (198) = .inr (8, [.int (cd), .ref (ad 199), .int (nI ln), .ref (ad 200), .int (nI bk), .int (nI bt), .ref (ad 201), .int (nI ck), .int (nI ct), .ref (ad 202), .int (nI cn), .int (nI pk), .ref (ad 203), .ref (ad 204), .int (nI rw), .ref (ad 205), .ref (ad 206), .int (bI (gt)), .ref (ad 207)]) := (hk19 _ (by omega)).trans e17
            have hs22 : ∀ z, z ≠ 205 → g18 z = g z := fun z hz => (hk19 z (by omega)).trans (hsL85 z hz)
            refine k_inc C (v + 1) (lv' := [(11, .int (nI (v + 1))), (0, .ref (ad 198)), (1, .int (nI k)), (2, .int (nI t)), (3, .int (nI x)), (4, .int (nI (k + 11))), (5, .long (lN (x + 65536 * t))), (7, .int (nI (pkD k x t))), (8, .int (nI (lpN (k + 11)))), (9, .int (nI a)), (10, .int (nI (pkT k x t)))]) dX8_packet_107 hl (k := 10) rfl (inc1 _) (by decide) rfl (fun ls hl => ?_)
            refine lv_iload C.1 C.2.1 dX8_packet_110 (lv_at hl 9 rfl) ?_
            refine lv_iload C.1 C.2.1 dX8_packet_112 (lv_at hl 10 rfl) ?_
            refine k_add C dX8_packet_114 ?_
            refine lv_iload C.1 C.2.1 dX8_packet_115 (lv_at hl 8 rfl) ?_
            refine k_rem C dX8_packet_117 (by omega) (by omega) (by omega) ?_
            refine lv_istore (lv' := [(9, .int (nI ((a + (pkT k x t)) % (lpN (k + 11))))), (11, .int (nI (v + 1))), (0, .ref (ad 198)), (1, .int (nI k)), (2, .int (nI t)), (3, .int (nI x)), (4, .int (nI (k + 11))), (5, .long (lN (x + 65536 * t))), (7, .int (nI (pkD k x t))), (8, .int (nI (lpN (k + 11)))), (10, .int (nI (pkT k x t)))]) C.1 C.2.1 dX8_packet_118 hl (by decide) rfl (fun ls hl => ?_)
            refine lv_goto (tgt := 85) C.1 C.2.1 dX8_packet_120 (by decide) ?_
            exact ih85 (i + 1) ((a + pkT k x t) % lpN (k + 11)) (va_up pl v a) (v + 1) (va_up f1 a 1) g18 H locs ls (by omega) (by omega) (Nat.mod_lt _ (by omega)) (by omega) (by have h9 := pk_go hrun (by omega) (by show v < _; omega); simpa [pkStep, show a < k + 11 by omega] using h9) (by rw [hf1, onRow_up (by omega), mkR_up]) hs22 e20 hw (lv_sub hl [2, 3, 4, 5, 6, 7, 8, 9, 0, 10, 1] rfl)
    exact loop85 _ 0 (pkA k x t) (fun _ => 0) 0 (fFill 75 0 ro) g2 H locs ls (Nat.le_refl _) (by omega) hA1 (by omega) ((pkOut_eq k x t (fun _ => 0)).symm) (by rw [mkR_z, onRow_fill]) hs6 e4 hw (lv_sub hl [7, 8, 9, 10, 6, 5, 4, 3, 2, 1, 0] rfl)
  · refine lv_iload C.1 C.2.1 dX8_packet_42 (lv_at hl 2 rfl) ?_
    refine lv_goto (tgt := 49) C.1 C.2.1 dX8_packet_44 (by decide) ?_
    refine k_ti (x' := nI (pkD k x t)) (by congr 1; unfold pkD; omega) ?_
    have hD1 : pkD k x t ≤ 59 := by unfold pkD; omega
    refine lv_istore (lv' := [(7, .int (nI (pkD k x t))), (5, .long (lN (x + 65536 * t))), (4, .int (nI (k + 11))), (0, .ref (ad 198)), (1, .int (nI k)), (2, .int (nI t)), (3, .int (nI x))]) C.1 C.2.1 dX8_packet_49 hl (by decide) rfl (fun ls hl => ?_)
    refine lv_iload C.1 C.2.1 dX8_packet_51 (lv_at hl 2 rfl) ?_
    refine k_Si C F hw (As := [.int (nI (k + 11))]) (rest := []) (c_X8_prime (k + 11) (by omega) (by omega)) (va_cwS _ C.2.2.2.2 gm_X8_71 rfl rfl rfl cd_X8_prime.2 ⟨by decide, by decide⟩) hl.1 rfl (Nat.le_of_ble_eq_true rfl) dX8_packet_53 ⟨by decide, by decide⟩ (fun r23 g24 H locs hp hw => ?_)
    obtain ⟨hr9, hg9⟩ := hp
    rw [hg9] at hw
    subst hr9
    refine lv_istore (lv' := [(8, .int (nI (lpN (k + 11)))), (7, .int (nI (pkD k x t))), (5, .long (lN (x + 65536 * t))), (4, .int (nI (k + 11))), (0, .ref (ad 198)), (1, .int (nI k)), (2, .int (nI t)), (3, .int (nI x))]) C.1 C.2.1 dX8_packet_56 hl (by decide) rfl (fun ls hl => ?_)
    refine lv_lload C.1 C.2.1 dX8_packet_58 (lv_at hl 2 rfl) ?_
    refine k_icn C 2 dX8_packet_60 (by decide) ?_
    refine lv_iload C.1 C.2.1 dX8_packet_61 (lv_at hl 0 rfl) ?_
    refine k_Si C F hw (As := [.long (lN (x + 65536 * t)), .int (nI 2), .int (nI (lpN (k + 11)))]) (rest := []) (c_X8_chance (x + 65536 * t) 2 (lpN (k + 11)) (by decide) (by omega) (by omega)) (va_cwS _ C.2.2.2.2 gm_X8_64 rfl rfl rfl cd_X8_chance.2 ⟨by decide, by decide⟩) hl.1 rfl (Nat.le_of_ble_eq_true rfl) dX8_packet_63 ⟨by decide, by decide⟩ (fun r25 g26 H locs hp hw => ?_)
    obtain ⟨hr9, hg9⟩ := hp
    rw [hg9] at hw
    subst hr9
    have hch2 := chN_lt (x + 65536 * t) 2 (show 0 < lpN (k + 11) by omega)
    refine k_ti (x' := nI (pkA k x t)) (rfl) ?_
    refine lv_istore (lv' := [(9, .int (nI (pkA k x t))), (8, .int (nI (lpN (k + 11)))), (7, .int (nI (pkD k x t))), (5, .long (lN (x + 65536 * t))), (4, .int (nI (k + 11))), (0, .ref (ad 198)), (1, .int (nI k)), (2, .int (nI t)), (3, .int (nI x))]) C.1 C.2.1 dX8_packet_66 hl (by decide) rfl (fun ls hl => ?_)
    refine k_icn C 1 dX8_packet_68 (by decide) ?_
    refine lv_lload C.1 C.2.1 dX8_packet_69 (lv_at hl 3 rfl) ?_
    refine k_icn C 1 dX8_packet_71 (by decide) ?_
    refine lv_iload C.1 C.2.1 dX8_packet_72 (lv_at hl 1 rfl) ?_
    refine k_icn C 1 dX8_packet_74 (by decide) ?_
    refine k_sub C dX8_packet_75 (by omega) ?_
    refine k_Si C F hw (As := [.long (lN (x + 65536 * t)), .int (nI 1), .int (nI ((lpN (k + 11)) - 1))]) (rest := [.int (nI 1)]) (c_X8_chance (x + 65536 * t) 1 (lpN (k + 11) - 1) (by decide) (by omega) (by omega)) (va_cwS _ C.2.2.2.2 gm_X8_64 rfl rfl rfl cd_X8_chance.2 ⟨by decide, by decide⟩) hl.1 rfl (Nat.le_of_ble_eq_true rfl) dX8_packet_76 ⟨by decide, by decide⟩ (fun r27 g28 H locs hp hw => ?_)
    obtain ⟨hr9, hg9⟩ := hp
    rw [hg9] at hw
    subst hr9
    have hch1 := chN_lt (x + 65536 * t) 1 (show 0 < lpN (k + 11) - 1 by omega)
    refine k_add C dX8_packet_79 ?_
    refine k_ti (x' := nI (pkT k x t)) (rfl) ?_
    have hA1 : pkA k x t < lpN (k + 11) := hch2
    have hT1 : pkT k x t < 100 := by unfold pkT; omega
    refine lv_istore (lv' := [(10, .int (nI (pkT k x t))), (9, .int (nI (pkA k x t))), (8, .int (nI (lpN (k + 11)))), (7, .int (nI (pkD k x t))), (5, .long (lN (x + 65536 * t))), (4, .int (nI (k + 11))), (0, .ref (ad 198)), (1, .int (nI k)), (2, .int (nI t)), (3, .int (nI x))]) C.1 C.2.1 dX8_packet_80 hl (by decide) rfl (fun ls hl => ?_)
    refine k_icn C 0 dX8_packet_82 (by decide) ?_
    refine lv_istore (lv' := [(11, .int (nI 0)), (10, .int (nI (pkT k x t))), (9, .int (nI (pkA k x t))), (8, .int (nI (lpN (k + 11)))), (7, .int (nI (pkD k x t))), (5, .long (lN (x + 65536 * t))), (4, .int (nI (k + 11))), (0, .ref (ad 198)), (1, .int (nI k)), (2, .int (nI t)), (3, .int (nI x))]) C.1 C.2.1 dX8_packet_83 hl (by decide) rfl (fun ls hl => ?_)
    have loop85 : ∀ (fuel : Nat) (i : Nat) (a : Nat) (pl : Nat → Nat) (v : Nat) (f1 : Nat → Nat) (gL : Nat → va_E) (H : Heap) (locs : List Loc) (ls : Array Slot), ((lpN (k + 11) - i) + 1 ≤ fuel) → (i ≤ lpN (k + 11)) → (a < lpN (k + 11)) → (v ≤ pkD k x t) → (pkRun (k + 11) (lpN (k + 11)) (pkT k x t) (pkD k x t) (lpN (k + 11) - i) (pl, v, a) = pkOut k x t (fun _ => 0)) → (f1 = onRow (mkR pl v) ro) → (∀ z, z ≠ 205 → gL z = g z) → (gL (205) = na ca 75 (f1)) → Wd D (AA R ad sz) s R ad gL H locs → lv_has ls 12 [(0, .ref (ad 198)), (1, .int (nI k)), (2, .int (nI t)), (3, .int (nI x)), (4, .int (nI (k + 11))), (5, .long (lN (x + 65536 * t))), (7, .int (nI (pkD k x t))), (8, .int (nI (lpN (k + 11)))), (9, .int (nI a)), (10, .int (nI (pkT k x t))), (11, .int (nI v))] → W p l e rm_X8_packet s m args below meth c H locs 0 0 Q (F0 m 85 ls []) := by
      intro fuel
      induction fuel with
      | zero =>
        intro i a pl v f1 gL H locs ls hfu85
        exact absurd hfu85 (by omega)
      | succ fuel85 ih85 =>
        intro i a pl v f1 gL H locs ls hfu85 hi ha hv hrun hf1 hsL85 eL85_0 hw hl
        have e29 : gL (198) = .inr (8, [.int (cd), .ref (ad 199), .int (nI ln), .ref (ad 200), .int (nI bk), .int (nI bt), .ref (ad 201), .int (nI ck), .int (nI ct), .ref (ad 202), .int (nI cn), .int (nI pk), .ref (ad 203), .ref (ad 204), .int (nI rw), .ref (ad 205), .ref (ad 206), .int (bI (gt)), .ref (ad 207)]) := (hsL85 _ (by omega)).trans eM
        refine lv_iload C.1 C.2.1 dX8_packet_85 (lv_at hl 10 rfl) ?_
        refine lv_iload C.1 C.2.1 dX8_packet_87 (lv_at hl 6 rfl) ?_
        refine k_ige (tgt := 123) C dX8_packet_89 (by decide) (by omega) (by omega) (fun hc89 => ?_) (fun hc89 => ?_)
        · have ho : (pl, v, a) = pkOut k x t (fun _ => 0) := by rw [pk_stop (by show pkD k x t ≤ v; omega)] at hrun; exact hrun
          refine lv_iload C.1 C.2.1 dX8_packet_123 (lv_at hl 6 rfl) ?_
          exact hret H locs ls _ _ _ dX8_packet_125 hw (⟨rfl, hsL85, by rw [eL85_0, hf1, show v = pkD k x t by omega, show pl = pkP k x t from by unfold pkP; rw [← ho]]; rfl⟩)
        · have hil : i < lpN (k + 11) := by
            rcases Nat.lt_or_ge i (lpN (k + 11)) with h | h
            · exact h
            · rw [show lpN (k + 11) - i = 0 by omega] at hrun
              have h9 := (pkOut_wk x t (fun _ => 0) hk).1
              rw [← hrun] at h9
              have h9 : v = pkD k x t := h9
              omega
          refine lv_iload C.1 C.2.1 dX8_packet_92 (lv_at hl 8 rfl) ?_
          refine lv_iload C.1 C.2.1 dX8_packet_94 (lv_at hl 4 rfl) ?_
          refine k_ige (tgt := 110) C dX8_packet_96 (by decide) (by omega) (by omega) (fun hc96 => ?_) (fun hc96 => ?_)
          · refine lv_iload C.1 C.2.1 dX8_packet_110 (lv_at hl 8 rfl) ?_
            refine lv_iload C.1 C.2.1 dX8_packet_112 (lv_at hl 9 rfl) ?_
            refine k_add C dX8_packet_114 ?_
            refine lv_iload C.1 C.2.1 dX8_packet_115 (lv_at hl 7 rfl) ?_
            refine k_rem C dX8_packet_117 (by omega) (by omega) (by omega) ?_
            refine lv_istore (lv' := [(9, .int (nI ((a + (pkT k x t)) % (lpN (k + 11))))), (0, .ref (ad 198)), (1, .int (nI k)), (2, .int (nI t)), (3, .int (nI x)), (4, .int (nI (k + 11))), (5, .long (lN (x + 65536 * t))), (7, .int (nI (pkD k x t))), (8, .int (nI (lpN (k + 11)))), (10, .int (nI (pkT k x t))), (11, .int (nI v))]) C.1 C.2.1 dX8_packet_118 hl (by decide) rfl (fun ls hl => ?_)
            refine lv_goto (tgt := 85) C.1 C.2.1 dX8_packet_120 (by decide) ?_
            exact ih85 (i + 1) ((a + pkT k x t) % lpN (k + 11)) pl v f1 gL H locs ls (by omega) (by omega) (Nat.mod_lt _ (by omega)) (by omega) (by have h9 := pk_go hrun (by omega) (by show v < _; omega); simpa [pkStep, show ¬ a < k + 11 by omega] using h9) hf1 hsL85 eL85_0 hw (lv_sub hl [1, 2, 3, 4, 5, 6, 7, 8, 0, 9, 10] rfl)
          · refine lv_aload_n C.1 C.2.1 dX8_packet_99 rfl (lv_at hl 0 rfl) ?_
            refine k_get C F hw (198) (by omega) e29 rfl in_X8 15 (by decide) fl_X8_29 rfl dX8_packet_100 ?_
            refine lv_iload C.1 C.2.1 dX8_packet_103 (lv_at hl 8 rfl) ?_
            refine k_icn C 1 dX8_packet_105 (by decide) ?_
            refine k_iast C F hw (205) (by omega) eL85_0 (a) (1) (by omega) (by decide) dX8_packet_106 (fun H locs hw => ?_)
            have hw : Wd D (AA R ad sz) s R ad (va_up gL (205) (na ca 75 (va_up f1 a 1))) H locs := hw
            obtain ⟨g30, hg30⟩ : ∃ z, z = va_up gL (205) (na ca 75 (va_up f1 a 1)) := ⟨_, rfl⟩
            rw [← hg30] at hw
            have hk31 : ∀ z, z ≠ 205 → g30 z = gL z := fun z hz => by rw [hg30]; exact va_up_ne _ _ hz
            have e32 : g30 (205) = na ca 75 (va_up f1 a 1) := by rw [hg30]; exact va_up_self _ _ _
            have e33 : g30 (198) = .inr (8, [.int (cd), .ref (ad 199), .int (nI ln), .ref (ad 200), .int (nI bk), .int (nI bt), .ref (ad 201), .int (nI ck), .int (nI ct), .ref (ad 202), .int (nI cn), .int (nI pk), .ref (ad 203), .ref (ad 204), .int (nI rw), .ref (ad 205), .ref (ad 206), .int (bI (gt)), .ref (ad 207)]) := (hk31 _ (by omega)).trans e29
            have hs34 : ∀ z, z ≠ 205 → g30 z = g z := fun z hz => (hk31 z (by omega)).trans (hsL85 z hz)
            refine k_inc C (v + 1) (lv' := [(11, .int (nI (v + 1))), (0, .ref (ad 198)), (1, .int (nI k)), (2, .int (nI t)), (3, .int (nI x)), (4, .int (nI (k + 11))), (5, .long (lN (x + 65536 * t))), (7, .int (nI (pkD k x t))), (8, .int (nI (lpN (k + 11)))), (9, .int (nI a)), (10, .int (nI (pkT k x t)))]) dX8_packet_107 hl (k := 10) rfl (inc1 _) (by decide) rfl (fun ls hl => ?_)
            refine lv_iload C.1 C.2.1 dX8_packet_110 (lv_at hl 9 rfl) ?_
            refine lv_iload C.1 C.2.1 dX8_packet_112 (lv_at hl 10 rfl) ?_
            refine k_add C dX8_packet_114 ?_
            refine lv_iload C.1 C.2.1 dX8_packet_115 (lv_at hl 8 rfl) ?_
            refine k_rem C dX8_packet_117 (by omega) (by omega) (by omega) ?_
            refine lv_istore (lv' := [(9, .int (nI ((a + (pkT k x t)) % (lpN (k + 11))))), (11, .int (nI (v + 1))), (0, .ref (ad 198)), (1, .int (nI k)), (2, .int (nI t)), (3, .int (nI x)), (4, .int (nI (k + 11))), (5, .long (lN (x + 65536 * t))), (7, .int (nI (pkD k x t))), (8, .int (nI (lpN (k + 11)))), (10, .int (nI (pkT k x t)))]) C.1 C.2.1 dX8_packet_118 hl (by decide) rfl (fun ls hl => ?_)
            refine lv_goto (tgt := 85) C.1 C.2.1 dX8_packet_120 (by decide) ?_
            exact ih85 (i + 1) ((a + pkT k x t) % lpN (k + 11)) (va_up pl v a) (v + 1) (va_up f1 a 1) g30 H locs ls (by omega) (by omega) (Nat.mod_lt _ (by omega)) (by omega) (by have h9 := pk_go hrun (by omega) (by show v < _; omega); simpa [pkStep, show a < k + 11 by omega] using h9) (by rw [hf1, onRow_up (by omega), mkR_up]) hs34 e32 hw (lv_sub hl [2, 3, 4, 5, 6, 7, 8, 9, 0, 10, 1] rfl)
    exact loop85 _ 0 (pkA k x t) (fun _ => 0) 0 (fFill 75 0 ro) g2 H locs ls (Nat.le_refl _) (by omega) hA1 (by omega) ((pkOut_eq k x t (fun _ => 0)).symm) (by rw [mkR_z, onRow_fill]) hs6 e4 hw (lv_sub hl [7, 8, 9, 10, 6, 5, 4, 3, 2, 1, 0] rfl)
