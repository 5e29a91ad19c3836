/-! ===== Tape, PacketRow ===== -/

abbrev rm_X5_hasRoom : Room := { frames := 0, cells := 0, slots := 0, locals := 0 }

set_option maxHeartbeats 800000 in
set_option maxRecDepth 100000 in
/-- Tape.hasRoom -/
theorem c_X5_hasRoom {l : Launch} {D : va_G} {ca : Nat → ClassId} {tB tS R : Nat} {ad : Nat → Nat} {g : Nat → va_E} {sz : Nat} (t len b : Nat) (ht : t + 1 < R) (hl0 : len ≤ 800) (hb : b < 1000) (eT : g t = .inr (5, [.ref (ad (t + 1)), .int (nI len)])) : MI l yX5_hasRoom cX5_hasRoom 2 .boolean rm_X5_hasRoom D ca tB tS R ad g sz [.ref (ad t), .int (nI b)] (fun r g1 => r = bI (decide (len + b ≤ 800)) ∧ g1 = g) := by
  refine m_startZ (by decide +kernel) (Nat.le_of_ble_eq_true rfl) (fun p e s m args below meth c ls Q hsz C hl F hw hret => ?_)
  have hl : lv_has ls 2 [(0, .ref (ad t)), (1, .int (nI b))] := hl
  generalize s.heap = H at hw ⊢
  generalize ([] : List Loc) = locs at hw ⊢
  refine lv_aload_n C.1 C.2.1 dX5_hasRoom_0 rfl (lv_at hl 0 rfl) ?_
  refine k_get C F hw (t) (by omega) eT rfl in_X5 1 (by decide) fl_X5_13 rfl dX5_hasRoom_1 ?_
  refine lv_iload_n C.1 C.2.1 dX5_hasRoom_4 rfl (lv_at hl 1 rfl) ?_
  refine k_add C dX5_hasRoom_5 ?_
  refine k_sip C 800 dX5_hasRoom_6 (by decide) ?_
  refine k_igt (tgt := 16) C dX5_hasRoom_9 (by decide) (by omega) (by omega) (fun hc9 => ?_) (fun hc9 => ?_)
  · refine k_icn C 0 dX5_hasRoom_16 (by decide) ?_
    exact hret H locs ls _ false _ _ dX5_hasRoom_17 hw (by rfl) (⟨by rw [show decide (len + b ≤ 800) = false from decide_eq_false (by omega)], rfl⟩)
  · refine k_icn C 1 dX5_hasRoom_12 (by decide) ?_
    refine lv_goto (tgt := 17) C.1 C.2.1 dX5_hasRoom_13 (by decide) ?_
    exact hret H locs ls _ true _ _ dX5_hasRoom_17 hw (by rfl) (⟨by rw [show decide (len + b ≤ 800) = true from decide_eq_true (by omega)], rfl⟩)

def tpApp (h : Nat → Nat) (len w : Nat) : Nat → Nat := va_up (va_up (va_up (va_up h len (w / 2 ^ 24 % 2 ^ 8)) (len + 1) (w / 2 ^ 16 % 2 ^ 8)) (len + 1 + 1) (w / 2 ^ 8 % 2 ^ 8)) (len + 1 + 1 + 1) (w / 2 ^ 0 % 2 ^ 8)

abbrev rm_X5_append : Room := { frames := 0, cells := 0, slots := 0, locals := 0 }

set_option maxHeartbeats 800000 in
set_option maxRecDepth 100000 in
/-- Tape.append -/
theorem c_X5_append {l : Launch} {D : va_G} {ca : Nat → ClassId} {tB tS R : Nat} {ad : Nat → Nat} {g : Nat → va_E} {sz : Nat} (t len w : Nat) (h : Nat → Nat) (ht : t + 1 < R) (hl0 : len + 4 ≤ 800) (hw0 : w < 2 ^ 32) (eT : g t = .inr (5, [.ref (ad (t + 1)), .int (nI len)])) (eH : g (t + 1) = na ca 800 h) : MV l yX5_append cX5_append 3 rm_X5_append D ca tB tS R ad g sz [.ref (ad t), .int (nI w)] (fun g1 => (∀ z, z ≠ t ∧ z ≠ t + 1 → g1 z = g z) ∧ g1 t = .inr (5, [.ref (ad (t + 1)), .int (nI (len + 4))]) ∧ g1 (t + 1) = na ca 800 (tpApp h len w)) := by
  refine m_startV (by decide +kernel) (Nat.le_of_ble_eq_true rfl) (fun p e s m args below meth c ls Q hsz C hnm hl F hw hret => ?_)
  have hl : lv_has ls 3 [(0, .ref (ad t)), (1, .int (nI w))] := hl
  generalize s.heap = H at hw ⊢
  generalize ([] : List Loc) = locs at hw ⊢
  refine k_bip C 24 dX5_append_0 (by decide) ?_
  refine lv_istore_n (lv' := [(2, .int (nI 24)), (0, .ref (ad t)), (1, .int (nI w))]) C.1 C.2.1 dX5_append_2 rfl hl (by decide) rfl (fun ls hl => ?_)
  refine lv_iload_n C.1 C.2.1 dX5_append_3 rfl (lv_at hl 0 rfl) ?_
  refine k_zlt (tgt := 39) C dX5_append_4 (by decide) (by omega) ?_
  refine lv_aload_n C.1 C.2.1 dX5_append_7 rfl (lv_at hl 1 rfl) ?_
  refine k_get C F hw (t) (by omega) eT rfl in_X5 0 (by decide) fl_X5_9 rfl dX5_append_8 ?_
  refine lv_aload_n C.1 C.2.1 dX5_append_11 rfl (lv_at hl 1 rfl) ?_
  refine k_get C F hw (t) (by omega) eT rfl in_X5 1 (by decide) fl_X5_13 rfl dX5_append_12 ?_
  refine lv_iload_n C.1 C.2.1 dX5_append_15 rfl (lv_at hl 2 rfl) ?_
  refine lv_iload_n C.1 C.2.1 dX5_append_16 rfl (lv_at hl 0 rfl) ?_
  refine k_ushr C dX5_append_17 (by omega) (by decide) ?_
  refine k_sip C 255 dX5_append_18 (by decide) ?_
  refine k_and C 8 dX5_append_21 (by omega) (by decide) ?_
  refine k_iast C F hw (t + 1) (by omega) eH (len) ((w / 2 ^ 24) % 2 ^ 8) (by omega) (by decide) dX5_append_22 (fun H locs hw => ?_)
  have hw : Wd D (AA R ad sz) s R ad (va_up g (t + 1) (na ca 800 (va_up h len ((w / 2 ^ 24) % 2 ^ 8)))) H locs := hw
  obtain ⟨g1, hg1⟩ : ∃ z, z = va_up g (t + 1) (na ca 800 (va_up h len ((w / 2 ^ 24) % 2 ^ 8))) := ⟨_, rfl⟩
  rw [← hg1] at hw
  have hk2 : ∀ z, z ≠ (t + 1) → g1 z = g z := fun z hz => by rw [hg1]; exact va_up_ne _ _ hz
  have e3 : g1 (t + 1) = na ca 800 (va_up h len ((w / 2 ^ 24) % 2 ^ 8)) := by rw [hg1]; exact va_up_self _ _ _
  have e4 : g1 (t) = .inr (5, [.ref (ad (t + 1)), .int (nI len)]) := (hk2 _ (by omega)).trans eT
  have hs5 : ∀ z, z ≠ t ∧ z ≠ (t + 1) → g1 z = g z := fun z hz => hk2 z (by omega)
  refine lv_aload_n C.1 C.2.1 dX5_append_23 rfl (lv_at hl 1 rfl) ?_
  refine lv_dup C.1 C.2.1 dX5_append_24 rfl ?_
  refine k_get C F hw (t) (by omega) e4 rfl in_X5 1 (by decide) fl_X5_13 rfl dX5_append_25 ?_
  refine k_icn C 1 dX5_append_28 (by decide) ?_
  refine k_add C dX5_append_29 ?_
  refine k_put C F hw (t) (by omega) e4 rfl in_X5 tyX5_ok nmX5 1 (by decide) fl_X5_13 rfl (v := .int (nI (len + 1))) rfl rfl (Nat.le_of_ble_eq_true rfl) dX5_append_30 (fun H locs hw => ?_)
  have hw : Wd D (AA R ad sz) s R ad (va_up g1 (t) (.inr (5, [.ref (ad (t + 1)), .int (nI (len + 1))]))) H locs := hw
  obtain ⟨g6, hg6⟩ : ∃ z, z = va_up g1 (t) (.inr (5, [.ref (ad (t + 1)), .int (nI (len + 1))])) := ⟨_, rfl⟩
  rw [← hg6] at hw
  have hk7 : ∀ z, z ≠ t → g6 z = g1 z := fun z hz => by rw [hg6]; exact va_up_ne _ _ hz
  have e8 : g6 (t) = .inr (5, [.ref (ad (t + 1)), .int (nI (len + 1))]) := by rw [hg6]; exact va_up_self _ _ _
  have e9 : g6 (t + 1) = na ca 800 (va_up h len ((w / 2 ^ 24) % 2 ^ 8)) := (hk7 _ (by omega)).trans e3
  have hs10 : ∀ z, z ≠ t ∧ z ≠ (t + 1) → g6 z = g z := fun z hz => (hk7 z (by omega)).trans (hs5 z hz)
  refine k_inc C 16 (lv' := [(2, .int (nI 16)), (0, .ref (ad t)), (1, .int (nI w))]) dX5_append_33 hl (k := 0) rfl (by decide) (by decide) rfl (fun ls hl => ?_)
  refine lv_goto (tgt := 3) C.1 C.2.1 dX5_append_36 (by decide) ?_
  refine lv_iload_n C.1 C.2.1 dX5_append_3 rfl (lv_at hl 0 rfl) ?_
  refine k_zlt (tgt := 39) C dX5_append_4 (by decide) (by omega) ?_
  refine lv_aload_n C.1 C.2.1 dX5_append_7 rfl (lv_at hl 1 rfl) ?_
  refine k_get C F hw (t) (by omega) e8 rfl in_X5 0 (by decide) fl_X5_9 rfl dX5_append_8 ?_
  refine lv_aload_n C.1 C.2.1 dX5_append_11 rfl (lv_at hl 1 rfl) ?_
  refine k_get C F hw (t) (by omega) e8 rfl in_X5 1 (by decide) fl_X5_13 rfl dX5_append_12 ?_
  refine lv_iload_n C.1 C.2.1 dX5_append_15 rfl (lv_at hl 2 rfl) ?_
  refine lv_iload_n C.1 C.2.1 dX5_append_16 rfl (lv_at hl 0 rfl) ?_
  refine k_ushr C dX5_append_17 (by omega) (by decide) ?_
  refine k_sip C 255 dX5_append_18 (by decide) ?_
  refine k_and C 8 dX5_append_21 (by omega) (by decide) ?_
  refine k_iast C F hw (t + 1) (by omega) e9 (len + 1) ((w / 2 ^ 16) % 2 ^ 8) (by omega) (by decide) dX5_append_22 (fun H locs hw => ?_)
  have hw : Wd D (AA R ad sz) s R ad (va_up g6 (t + 1) (na ca 800 (va_up (va_up h len ((w / 2 ^ 24) % 2 ^ 8)) (len + 1) ((w / 2 ^ 16) % 2 ^ 8)))) H locs := hw
  obtain ⟨g11, hg11⟩ : ∃ z, z = va_up g6 (t + 1) (na ca 800 (va_up (va_up h len ((w / 2 ^ 24) % 2 ^ 8)) (len + 1) ((w / 2 ^ 16) % 2 ^ 8))) := ⟨_, rfl⟩
  rw [← hg11] at hw
  have hk12 : ∀ z, z ≠ (t + 1) → g11 z = g6 z := fun z hz => by rw [hg11]; exact va_up_ne _ _ hz
  have e13 : g11 (t + 1) = na ca 800 (va_up (va_up h len ((w / 2 ^ 24) % 2 ^ 8)) (len + 1) ((w / 2 ^ 16) % 2 ^ 8)) := by rw [hg11]; exact va_up_self _ _ _
  have e14 : g11 (t) = .inr (5, [.ref (ad (t + 1)), .int (nI (len + 1))]) := (hk12 _ (by omega)).trans e8
  have hs15 : ∀ z, z ≠ t ∧ z ≠ (t + 1) → g11 z = g z := fun z hz => (hk12 z (by omega)).trans (hs10 z hz)
  refine lv_aload_n C.1 C.2.1 dX5_append_23 rfl (lv_at hl 1 rfl) ?_
  refine lv_dup C.1 C.2.1 dX5_append_24 rfl ?_
  refine k_get C F hw (t) (by omega) e14 rfl in_X5 1 (by decide) fl_X5_13 rfl dX5_append_25 ?_
  refine k_icn C 1 dX5_append_28 (by decide) ?_
  refine k_add C dX5_append_29 ?_
  refine k_put C F hw (t) (by omega) e14 rfl in_X5 tyX5_ok nmX5 1 (by decide) fl_X5_13 rfl (v := .int (nI ((len + 1) + 1))) rfl rfl (Nat.le_of_ble_eq_true rfl) dX5_append_30 (fun H locs hw => ?_)
  have hw : Wd D (AA R ad sz) s R ad (va_up g11 (t) (.inr (5, [.ref (ad (t + 1)), .int (nI ((len + 1) + 1))]))) H locs := hw
  obtain ⟨g16, hg16⟩ : ∃ z, z = va_up g11 (t) (.inr (5, [.ref (ad (t + 1)), .int (nI ((len + 1) + 1))])) := ⟨_, rfl⟩
  rw [← hg16] at hw
  have hk17 : ∀ z, z ≠ t → g16 z = g11 z := fun z hz => by rw [hg16]; exact va_up_ne _ _ hz
  have e18 : g16 (t) = .inr (5, [.ref (ad (t + 1)), .int (nI ((len + 1) + 1))]) := by rw [hg16]; exact va_up_self _ _ _
  have e19 : g16 (t + 1) = na ca 800 (va_up (va_up h len ((w / 2 ^ 24) % 2 ^ 8)) (len + 1) ((w / 2 ^ 16) % 2 ^ 8)) := (hk17 _ (by omega)).trans e13
  have hs20 : ∀ z, z ≠ t ∧ z ≠ (t + 1) → g16 z = g z := fun z hz => (hk17 z (by omega)).trans (hs15 z hz)
  refine k_inc C 8 (lv' := [(2, .int (nI 8)), (0, .ref (ad t)), (1, .int (nI w))]) dX5_append_33 hl (k := 0) rfl (by decide) (by decide) rfl (fun ls hl => ?_)
  refine lv_goto (tgt := 3) C.1 C.2.1 dX5_append_36 (by decide) ?_
  refine lv_iload_n C.1 C.2.1 dX5_append_3 rfl (lv_at hl 0 rfl) ?_
  refine k_zlt (tgt := 39) C dX5_append_4 (by decide) (by omega) ?_
  refine lv_aload_n C.1 C.2.1 dX5_append_7 rfl (lv_at hl 1 rfl) ?_
  refine k_get C F hw (t) (by omega) e18 rfl in_X5 0 (by decide) fl_X5_9 rfl dX5_append_8 ?_
  refine lv_aload_n C.1 C.2.1 dX5_append_11 rfl (lv_at hl 1 rfl) ?_
  refine k_get C F hw (t) (by omega) e18 rfl in_X5 1 (by decide) fl_X5_13 rfl dX5_append_12 ?_
  refine lv_iload_n C.1 C.2.1 dX5_append_15 rfl (lv_at hl 2 rfl) ?_
  refine lv_iload_n C.1 C.2.1 dX5_append_16 rfl (lv_at hl 0 rfl) ?_
  refine k_ushr C dX5_append_17 (by omega) (by decide) ?_
  refine k_sip C 255 dX5_append_18 (by decide) ?_
  refine k_and C 8 dX5_append_21 (by omega) (by decide) ?_
  refine k_iast C F hw (t + 1) (by omega) e19 ((len + 1) + 1) ((w / 2 ^ 8) % 2 ^ 8) (by omega) (by decide) dX5_append_22 (fun H locs hw => ?_)
  have hw : Wd D (AA R ad sz) s R ad (va_up g16 (t + 1) (na ca 800 (va_up (va_up (va_up h len ((w / 2 ^ 24) % 2 ^ 8)) (len + 1) ((w / 2 ^ 16) % 2 ^ 8)) ((len + 1) + 1) ((w / 2 ^ 8) % 2 ^ 8)))) H locs := hw
  obtain ⟨g21, hg21⟩ : ∃ z, z = va_up g16 (t + 1) (na ca 800 (va_up (va_up (va_up h len ((w / 2 ^ 24) % 2 ^ 8)) (len + 1) ((w / 2 ^ 16) % 2 ^ 8)) ((len + 1) + 1) ((w / 2 ^ 8) % 2 ^ 8))) := ⟨_, rfl⟩
  rw [← hg21] at hw
  have hk22 : ∀ z, z ≠ (t + 1) → g21 z = g16 z := fun z hz => by rw [hg21]; exact va_up_ne _ _ hz
  have e23 : g21 (t + 1) = na ca 800 (va_up (va_up (va_up h len ((w / 2 ^ 24) % 2 ^ 8)) (len + 1) ((w / 2 ^ 16) % 2 ^ 8)) ((len + 1) + 1) ((w / 2 ^ 8) % 2 ^ 8)) := by rw [hg21]; exact va_up_self _ _ _
  have e24 : g21 (t) = .inr (5, [.ref (ad (t + 1)), .int (nI ((len + 1) + 1))]) := (hk22 _ (by omega)).trans e18
  have hs25 : ∀ z, z ≠ t ∧ z ≠ (t + 1) → g21 z = g z := fun z hz => (hk22 z (by omega)).trans (hs20 z hz)
  refine lv_aload_n C.1 C.2.1 dX5_append_23 rfl (lv_at hl 1 rfl) ?_
  refine lv_dup C.1 C.2.1 dX5_append_24 rfl ?_
  refine k_get C F hw (t) (by omega) e24 rfl in_X5 1 (by decide) fl_X5_13 rfl dX5_append_25 ?_
  refine k_icn C 1 dX5_append_28 (by decide) ?_
  refine k_add C dX5_append_29 ?_
  refine k_put C F hw (t) (by omega) e24 rfl in_X5 tyX5_ok nmX5 1 (by decide) fl_X5_13 rfl (v := .int (nI (((len + 1) + 1) + 1))) rfl rfl (Nat.le_of_ble_eq_true rfl) dX5_append_30 (fun H locs hw => ?_)
  have hw : Wd D (AA R ad sz) s R ad (va_up g21 (t) (.inr (5, [.ref (ad (t + 1)), .int (nI (((len + 1) + 1) + 1))]))) H locs := hw
  obtain ⟨g26, hg26⟩ : ∃ z, z = va_up g21 (t) (.inr (5, [.ref (ad (t + 1)), .int (nI (((len + 1) + 1) + 1))])) := ⟨_, rfl⟩
  rw [← hg26] at hw
  have hk27 : ∀ z, z ≠ t → g26 z = g21 z := fun z hz => by rw [hg26]; exact va_up_ne _ _ hz
  have e28 : g26 (t) = .inr (5, [.ref (ad (t + 1)), .int (nI (((len + 1) + 1) + 1))]) := by rw [hg26]; exact va_up_self _ _ _
  have e29 : g26 (t + 1) = na ca 800 (va_up (va_up (va_up h len ((w / 2 ^ 24) % 2 ^ 8)) (len + 1) ((w / 2 ^ 16) % 2 ^ 8)) ((len + 1) + 1) ((w / 2 ^ 8) % 2 ^ 8)) := (hk27 _ (by omega)).trans e23
  have hs30 : ∀ z, z ≠ t ∧ z ≠ (t + 1) → g26 z = g z := fun z hz => (hk27 z (by omega)).trans (hs25 z hz)
  refine k_inc C 0 (lv' := [(2, .int (nI 0)), (0, .ref (ad t)), (1, .int (nI w))]) dX5_append_33 hl (k := 0) rfl (by decide) (by decide) rfl (fun ls hl => ?_)
  refine lv_goto (tgt := 3) C.1 C.2.1 dX5_append_36 (by decide) ?_
  refine lv_iload_n C.1 C.2.1 dX5_append_3 rfl (lv_at hl 0 rfl) ?_
  refine k_zlt (tgt := 39) C dX5_append_4 (by decide) (by omega) ?_
  refine lv_aload_n C.1 C.2.1 dX5_append_7 rfl (lv_at hl 1 rfl) ?_
  refine k_get C F hw (t) (by omega) e28 rfl in_X5 0 (by decide) fl_X5_9 rfl dX5_append_8 ?_
  refine lv_aload_n C.1 C.2.1 dX5_append_11 rfl (lv_at hl 1 rfl) ?_
  refine k_get C F hw (t) (by omega) e28 rfl in_X5 1 (by decide) fl_X5_13 rfl dX5_append_12 ?_
  refine lv_iload_n C.1 C.2.1 dX5_append_15 rfl (lv_at hl 2 rfl) ?_
  refine lv_iload_n C.1 C.2.1 dX5_append_16 rfl (lv_at hl 0 rfl) ?_
  refine k_ushr C dX5_append_17 (by omega) (by decide) ?_
  refine k_sip C 255 dX5_append_18 (by decide) ?_
  refine k_and C 8 dX5_append_21 (by omega) (by decide) ?_
  refine k_iast C F hw (t + 1) (by omega) e29 (((len + 1) + 1) + 1) ((w / 2 ^ 0) % 2 ^ 8) (by omega) (by decide) dX5_append_22 (fun H locs hw => ?_)
  have hw : Wd D (AA R ad sz) s R ad (va_up g26 (t + 1) (na ca 800 (va_up (va_up (va_up (va_up h len ((w / 2 ^ 24) % 2 ^ 8)) (len + 1) ((w / 2 ^ 16) % 2 ^ 8)) ((len + 1) + 1) ((w / 2 ^ 8) % 2 ^ 8)) (((len + 1) + 1) + 1) ((w / 2 ^ 0) % 2 ^ 8)))) H locs := hw
  obtain ⟨g31, hg31⟩ : ∃ z, z = va_up g26 (t + 1) (na ca 800 (va_up (va_up (va_up (va_up h len ((w / 2 ^ 24) % 2 ^ 8)) (len + 1) ((w / 2 ^ 16) % 2 ^ 8)) ((len + 1) + 1) ((w / 2 ^ 8) % 2 ^ 8)) (((len + 1) + 1) + 1) ((w / 2 ^ 0) % 2 ^ 8))) := ⟨_, rfl⟩
  rw [← hg31] at hw
  have hk32 : ∀ z, z ≠ (t + 1) → g31 z = g26 z := fun z hz => by rw [hg31]; exact va_up_ne _ _ hz
  have e33 : g31 (t + 1) = na ca 800 (va_up (va_up (va_up (va_up h len ((w / 2 ^ 24) % 2 ^ 8)) (len + 1) ((w / 2 ^ 16) % 2 ^ 8)) ((len + 1) + 1) ((w / 2 ^ 8) % 2 ^ 8)) (((len + 1) + 1) + 1) ((w / 2 ^ 0) % 2 ^ 8)) := by rw [hg31]; exact va_up_self _ _ _
  have e34 : g31 (t) = .inr (5, [.ref (ad (t + 1)), .int (nI (((len + 1) + 1) + 1))]) := (hk32 _ (by omega)).trans e28
  have hs35 : ∀ z, z ≠ t ∧ z ≠ (t + 1) → g31 z = g z := fun z hz => (hk32 z (by omega)).trans (hs30 z hz)
  refine lv_aload_n C.1 C.2.1 dX5_append_23 rfl (lv_at hl 1 rfl) ?_
  refine lv_dup C.1 C.2.1 dX5_append_24 rfl ?_
  refine k_get C F hw (t) (by omega) e34 rfl in_X5 1 (by decide) fl_X5_13 rfl dX5_append_25 ?_
  refine k_icn C 1 dX5_append_28 (by decide) ?_
  refine k_add C dX5_append_29 ?_
  refine k_put C F hw (t) (by omega) e34 rfl in_X5 tyX5_ok nmX5 1 (by decide) fl_X5_13 rfl (v := .int (nI ((((len + 1) + 1) + 1) + 1))) rfl rfl (Nat.le_of_ble_eq_true rfl) dX5_append_30 (fun H locs hw => ?_)
  have hw : Wd D (AA R ad sz) s R ad (va_up g31 (t) (.inr (5, [.ref (ad (t + 1)), .int (nI ((((len + 1) + 1) + 1) + 1))]))) H locs := hw
  obtain ⟨g36, hg36⟩ : ∃ z, z = va_up g31 (t) (.inr (5, [.ref (ad (t + 1)), .int (nI ((((len + 1) + 1) + 1) + 1))])) := ⟨_, rfl⟩
  rw [← hg36] at hw
  have hk37 : ∀ z, z ≠ t → g36 z = g31 z := fun z hz => by rw [hg36]; exact va_up_ne _ _ hz
  have e38 : g36 (t) = .inr (5, [.ref (ad (t + 1)), .int (nI ((((len + 1) + 1) + 1) + 1))]) := by rw [hg36]; exact va_up_self _ _ _
  have e39 : g36 (t + 1) = na ca 800 (va_up (va_up (va_up (va_up h len ((w / 2 ^ 24) % 2 ^ 8)) (len + 1) ((w / 2 ^ 16) % 2 ^ 8)) ((len + 1) + 1) ((w / 2 ^ 8) % 2 ^ 8)) (((len + 1) + 1) + 1) ((w / 2 ^ 0) % 2 ^ 8)) := (hk37 _ (by omega)).trans e33
  have hs40 : ∀ z, z ≠ t ∧ z ≠ (t + 1) → g36 z = g z := fun z hz => (hk37 z (by omega)).trans (hs35 z hz)
  refine lv_iinc (v := -8) (lv' := [(2, .int (-8)), (0, .ref (ad t)), (1, .int (nI w))]) C.1 C.2.1 dX5_append_33 hl (k := 0) rfl (by decide) (by decide) rfl (fun ls hl => ?_)
  refine lv_goto (tgt := 3) C.1 C.2.1 dX5_append_36 (by decide) ?_
  refine lv_iload_n C.1 C.2.1 dX5_append_3 rfl (lv_at hl 0 rfl) ?_
  refine lv_if_lt (tgt := 39) C.1 C.2.1 dX5_append_4 (by decide) (fun _ => ?_) (fun h => absurd (by decide) h)
  exact hret H locs ls _ _ dX5_append_39 hw (⟨hs40, e38, e39⟩)

abbrev rm_X4_mix : Room := { frames := 0, cells := 0, slots := 0, locals := 0 }

set_option maxHeartbeats 800000 in
set_option maxRecDepth 100000 in
/-- PacketRow.mix -/
theorem c_X4_mix {l : Launch} {D : va_G} {ca : Nat → ClassId} {tB tS R : Nat} {ad : Nat → Nat} {g : Nat → va_E} {sz : Nat} (y s0 : Nat) (hs0 : s0 < 100) : ML l yX4_mix cX4_mix 5 rm_X4_mix D ca tB tS R ad g sz [.long (lN (y)), .int (nI s0)] (fun r g1 => r = lN (mixN y s0) ∧ g1 = g) := by
  refine m_startL (by decide +kernel) (Nat.le_of_ble_eq_true rfl) (fun p e s m args below meth c ls Q hsz C hl F hw hret => ?_)
  have hl : lv_has ls 5 [(0, .long (lN (y))), (2, .int (nI s0))] := hl
  generalize s.heap = H at hw ⊢
  generalize ([] : List Loc) = locs at hw ⊢
  refine lv_lload_n C.1 C.2.1 dX4_mix_0 rfl (lv_at hl 0 rfl) ?_
  refine lv_iload_n C.1 C.2.1 dX4_mix_1 rfl (lv_at hl 1 rfl) ?_
  refine k_icn C 1 dX4_mix_2 (by decide) ?_
  refine k_add C dX4_mix_3 ?_
  refine lv_i2l C.1 C.2.1 dX4_mix_4 rfl ?_
  refine lv_ldc2 (v := -7046029254386353131) C.1 C.2.1 C.2.2.2.1 (C.2.2.2.2 _ kc_X4_51) dX4_mix_5 ?_
  refine lv_lmul C.1 C.2.1 dX4_mix_8 ?_
  refine lv_ladd C.1 C.2.1 dX4_mix_9 ?_
  refine k_tl (x' := lN (mz1 y s0)) (mzr1 y s0 hs0) ?_
  refine lv_lstore_n (lv' := [(3, .long (lN (mz1 y s0))), (0, .long (lN (y))), (2, .int (nI s0))]) C.1 C.2.1 dX4_mix_10 rfl hl (by decide) rfl (fun ls hl => ?_)
  refine lv_lload_n C.1 C.2.1 dX4_mix_11 rfl (lv_at hl 0 rfl) ?_
  refine lv_lload_n C.1 C.2.1 dX4_mix_12 rfl (lv_at hl 0 rfl) ?_
  refine k_bip C 30 dX4_mix_13 (by decide) ?_
  refine lv_lushr C.1 C.2.1 dX4_mix_15 rfl ?_
  refine lv_lxor C.1 C.2.1 dX4_mix_16 ?_
  refine lv_ldc2 (v := -4658895280553007687) C.1 C.2.1 C.2.2.2.1 (C.2.2.2.2 _ kc_X4_53) dX4_mix_17 ?_
  refine lv_lmul C.1 C.2.1 dX4_mix_20 ?_
  refine k_tl (x' := lN (mz2 (mz1 y s0))) (mzr2 (mz1_lt _ _)) ?_
  refine lv_lstore_n (lv' := [(3, .long (lN (mz2 (mz1 y s0)))), (0, .long (lN (y))), (2, .int (nI s0))]) C.1 C.2.1 dX4_mix_21 rfl hl (by decide) rfl (fun ls hl => ?_)
  refine lv_lload_n C.1 C.2.1 dX4_mix_22 rfl (lv_at hl 0 rfl) ?_
  refine lv_lload_n C.1 C.2.1 dX4_mix_23 rfl (lv_at hl 0 rfl) ?_
  refine k_bip C 27 dX4_mix_24 (by decide) ?_
  refine lv_lushr C.1 C.2.1 dX4_mix_26 rfl ?_
  refine lv_lxor C.1 C.2.1 dX4_mix_27 ?_
  refine lv_ldc2 (v := -7723592293110705685) C.1 C.2.1 C.2.2.2.1 (C.2.2.2.2 _ kc_X4_55) dX4_mix_28 ?_
  refine lv_lmul C.1 C.2.1 dX4_mix_31 ?_
  refine k_tl (x' := lN (mz3 (mz2 (mz1 y s0)))) (mzr3 (mz2_lt _)) ?_
  refine lv_lstore_n (lv' := [(3, .long (lN (mz3 (mz2 (mz1 y s0))))), (0, .long (lN (y))), (2, .int (nI s0))]) C.1 C.2.1 dX4_mix_32 rfl hl (by decide) rfl (fun ls hl => ?_)
  refine lv_lload_n C.1 C.2.1 dX4_mix_33 rfl (lv_at hl 0 rfl) ?_
  refine lv_lload_n C.1 C.2.1 dX4_mix_34 rfl (lv_at hl 0 rfl) ?_
  refine k_bip C 31 dX4_mix_35 (by decide) ?_
  refine lv_lushr C.1 C.2.1 dX4_mix_37 rfl ?_
  refine lv_lxor C.1 C.2.1 dX4_mix_38 ?_
  refine k_tl (x' := lN (mixN y s0)) (mzr4 (mz3_lt _)) ?_
  exact hret H locs ls _ _ _ dX4_mix_39 hw (⟨rfl, rfl⟩)

abbrev rm_X4_chance : Room := { frames := 1, cells := 0, slots := 0, locals := 24 }

set_option maxHeartbeats 800000 in
set_option maxRecDepth 100000 in
/-- PacketRow.chance -/
theorem c_X4_chance {l : Launch} {D : va_G} {ca : Nat → ClassId} {tB tS R : Nat} {ad : Nat → Nat} {g : Nat → va_E} {sz : Nat} (y s0 k : Nat) (hs0 : s0 < 100) (hk : 0 < k) (hk2 : k < 2 ^ 31) : MI l yX4_chance cX4_chance 4 .int rm_X4_chance D ca tB tS R ad g sz [.long (lN (y)), .int (nI s0), .int (nI k)] (fun r g1 => r = nI (chN y s0 k) ∧ g1 = g) := by
  refine m_startI (by decide +kernel) (Nat.le_of_ble_eq_true rfl) (fun p e s m args below meth c ls Q hsz C hl F hw hret => ?_)
  have hl : lv_has ls 4 [(0, .long (lN (y))), (2, .int (nI s0)), (3, .int (nI k))] := hl
  generalize s.heap = H at hw ⊢
  generalize ([] : List Loc) = locs at hw ⊢
  refine lv_lload_n C.1 C.2.1 dX4_chance_0 rfl (lv_at hl 0 rfl) ?_
  refine lv_iload_n C.1 C.2.1 dX4_chance_1 rfl (lv_at hl 1 rfl) ?_
  refine k_Sl C F hw (As := [.long (lN (y)), .int (nI s0)]) (rest := []) (c_X4_mix y s0 hs0) (va_cwS _ C.2.2.2.2 gm_X4_47 rfl rfl rfl cd_X4_mix.2 ⟨by decide, by decide⟩) hl.1 rfl (Nat.le_of_ble_eq_true rfl) dX4_chance_2 ⟨by decide, by decide⟩ (fun r1 g2 H locs hp hw => ?_)
  obtain ⟨hr9, hg9⟩ := hp
  rw [hg9] at hw
  subst hr9
  refine k_bip C 32 dX4_chance_5 (by decide) ?_
  refine lv_lushr C.1 C.2.1 dX4_chance_7 rfl ?_
  refine k_tl (x' := lN (mixN y s0 / 2 ^ 32)) (mzr5 (mixN_lt _ _)) ?_
  have h32 := hi32 (mixN_lt y s0)
  refine lv_iload_n C.1 C.2.1 dX4_chance_8 rfl (lv_at hl 2 rfl) ?_
  refine lv_i2l C.1 C.2.1 dX4_chance_9 rfl ?_
  refine k_tl (x' := lN (k)) (nI_l (by omega)) ?_
  refine k_lrem C dX4_chance_10 (by omega) (by omega) (by omega) ?_
  refine lv_l2i C.1 C.2.1 dX4_chance_11 rfl ?_
  refine k_ti (x' := nI (chN y s0 k)) (by rw [chN_eq]; exact lN_i _) ?_
  exact hret H locs ls _ _ _ dX4_chance_12 hw (⟨rfl, rfl⟩)

abbrev rm_X4_sizeFor : Room := { frames := 0, cells := 0, slots := 0, locals := 0 }

set_option maxHeartbeats 800000 in
set_option maxRecDepth 100000 in
/-- PacketRow.sizeFor -/
theorem c_X4_sizeFor {l : Launch} {D : va_G} {ca : Nat → ClassId} {tB tS R : Nat} {ad : Nat → Nat} {g : Nat → va_E} {sz : Nat} (v : Nat) (hv : v < 1000) : MI l yX4_sizeFor cX4_sizeFor 2 .int rm_X4_sizeFor D ca tB tS R ad g sz [.int (nI v)] (fun r g1 => r = nI (szN v) ∧ g1 = g) := by
  refine m_startI (by decide +kernel) (Nat.le_of_ble_eq_true rfl) (fun p e s m args below meth c ls Q hsz C hl F hw hret => ?_)
  have hl : lv_has ls 2 [(0, .int (nI v))] := hl
  generalize s.heap = H at hw ⊢
  generalize ([] : List Loc) = locs at hw ⊢
  refine k_icn C 0 dX4_sizeFor_0 (by decide) ?_
  refine lv_istore_n (lv' := [(1, .int (nI 0)), (0, .int (nI v))]) C.1 C.2.1 dX4_sizeFor_1 rfl hl (by decide) rfl (fun ls hl => ?_)
  have loop2 : ∀ (fuel : Nat) (i : Nat) (gL : Nat → va_E) (H : Heap) (locs : List Loc) (ls : Array Slot), ((11 - i) + 1 ≤ fuel) → (i ≤ 11) → (∀ j, j < i → fBelow.getD j 0 ≤ v) → (∀ z, True → gL z = g z) → Wd D (AA R ad sz) s R ad gL H locs → lv_has ls 2 [(0, .int (nI v)), (1, .int (nI i))] → W p l e rm_X4_sizeFor s m args below meth c H locs 0 0 Q (F0 m 2 ls []) := by
    intro fuel
    induction fuel with
    | zero =>
      intro i gL H locs ls hfu2
      exact absurd hfu2 (by omega)
    | succ fuel2 ih2 =>
      intro i gL H locs ls hfu2 hi hB hsL2  hw hl
      refine lv_iload_n C.1 C.2.1 dX4_sizeFor_2 rfl (lv_at hl 1 rfl) ?_
      refine k_getsB C F hw fs_X4_41 dX4_sizeFor_3 ?_
      refine k_tlenB C F hw dX4_sizeFor_6 ?_
      refine k_ige (tgt := 31) C dX4_sizeFor_7 (by decide) (by omega) (by omega) (fun hc7 => ?_) (fun hc7 => ?_)
      · have h10 := hB 10 (by omega)
        have h11 : fBelow.getD 10 0 = 1000 := rfl
        exact absurd h10 (by omega)
      · refine lv_iload_n C.1 C.2.1 dX4_sizeFor_10 rfl (lv_at hl 0 rfl) ?_
        refine k_getsB C F hw fs_X4_41 dX4_sizeFor_11 ?_
        refine lv_iload_n C.1 C.2.1 dX4_sizeFor_14 rfl (lv_at hl 1 rfl) ?_
        refine k_tabB C F hw (i) (by omega) dX4_sizeFor_15 ?_
        have hb1 : fBelow.getD i 0 < 2 ^ 31 := (show ∀ i, i < 11 → fBelow.getD i 0 < 2 ^ 31 by decide) i (by omega)
        refine k_ige (tgt := 25) C dX4_sizeFor_16 (by decide) (by omega) (by omega) (fun hc16 => ?_) (fun hc16 => ?_)
        · refine k_inc C (i + 1) (lv' := [(1, .int (nI (i + 1))), (0, .int (nI v))]) dX4_sizeFor_25 hl (k := 1) rfl (inc1 _) (by decide) rfl (fun ls hl => ?_)
          refine lv_goto (tgt := 2) C.1 C.2.1 dX4_sizeFor_28 (by decide) ?_
          exact ih2 (i + 1) gL H locs ls (by omega) (by omega) (fun j hj => by by_cases h : j = i; (subst h; omega); exact hB j (by omega)) hsL2  hw (lv_sub hl [1, 0] rfl)
        · refine k_getsS C F hw fs_X4_44 dX4_sizeFor_19 ?_
          refine lv_iload_n C.1 C.2.1 dX4_sizeFor_22 rfl (lv_at hl 1 rfl) ?_
          refine k_tabS C F hw (i) (by omega) dX4_sizeFor_23 ?_
          exact hret H locs ls _ _ _ dX4_sizeFor_24 hw (⟨by rw [sz_tab (by omega) hB (by omega)], funext (fun z => hsL2 z trivial)⟩)
  exact loop2 _ 0 g H locs ls (Nat.le_refl _) (by omega) (fun j hj => absurd hj (by omega)) (fun z _ => rfl)  hw (lv_sub hl [1, 0] rfl)

abbrev rm_X4_isPrime : Room := { frames := 0, cells := 0, slots := 0, locals := 0 }

set_option maxHeartbeats 800000 in
set_option maxRecDepth 100000 in
/-- PacketRow.isPrime -/
theorem c_X4_isPrime {l : Launch} {D : va_G} {ca : Nat → ClassId} {tB tS R : Nat} {ad : Nat → Nat} {g : Nat → va_E} {sz : Nat} (q : Nat) (hq : 2 < q) (hq2 : q < 1000) : MI l yX4_isPrime cX4_isPrime 2 .boolean rm_X4_isPrime D ca tB tS R ad g sz [.int (nI q)] (fun r g1 => r = bI (prN q) ∧ g1 = g) := by
  refine m_startZ (by decide +kernel) (Nat.le_of_ble_eq_true rfl) (fun p e s m args below meth c ls Q hsz C hl F hw hret => ?_)
  have hl : lv_has ls 2 [(0, .int (nI q))] := hl
  generalize s.heap = H at hw ⊢
  generalize ([] : List Loc) = locs at hw ⊢
  refine k_icn C 2 dX4_isPrime_0 (by decide) ?_
  refine lv_istore_n (lv' := [(1, .int (nI 2)), (0, .int (nI q))]) C.1 C.2.1 dX4_isPrime_1 rfl hl (by decide) rfl (fun ls hl => ?_)
  have loop2 : ∀ (fuel : Nat) (i : Nat) (gL : Nat → va_E) (H : Heap) (locs : List Loc) (ls : Array Slot), ((q - i) + 1 ≤ fuel) → (2 ≤ i ∧ i ≤ q) → (∀ j, j < i → 2 ≤ j → q % j ≠ 0) → (∀ z, True → gL z = g z) → Wd D (AA R ad sz) s R ad gL H locs → lv_has ls 2 [(0, .int (nI q)), (1, .int (nI i))] → W p l e rm_X4_isPrime s m args below meth c H locs 0 0 Q (F0 m 2 ls []) := by
    intro fuel
    induction fuel with
    | zero =>
      intro i gL H locs ls hfu2
      exact absurd hfu2 (by omega)
    | succ fuel2 ih2 =>
      intro i gL H locs ls hfu2 hi hB hsL2  hw hl
      refine lv_iload_n C.1 C.2.1 dX4_isPrime_2 rfl (lv_at hl 1 rfl) ?_
      refine lv_iload_n C.1 C.2.1 dX4_isPrime_3 rfl (lv_at hl 1 rfl) ?_
      refine k_mul C dX4_isPrime_4 ?_
      refine lv_iload_n C.1 C.2.1 dX4_isPrime_5 rfl (lv_at hl 0 rfl) ?_
      have hii : i * i ≤ 1000 * 1000 := Nat.mul_le_mul (by omega) (by omega)
      refine k_igt (tgt := 23) C dX4_isPrime_6 (by decide) (by omega) (by omega) (fun hc6 => ?_) (fun hc6 => ?_)
      · refine k_icn C 1 dX4_isPrime_23 (by decide) ?_
        exact hret H locs ls _ true _ _ dX4_isPrime_24 hw (by rfl) (⟨by rw [prN_small hB hc6 (by omega)], funext (fun z => hsL2 z trivial)⟩)
      · have hlt : i < q := Nat.lt_of_lt_of_le (show i < 2 * i by omega) (Nat.le_trans (Nat.mul_le_mul_right i hi.1) hc6)
        refine lv_iload_n C.1 C.2.1 dX4_isPrime_9 rfl (lv_at hl 0 rfl) ?_
        refine lv_iload_n C.1 C.2.1 dX4_isPrime_10 rfl (lv_at hl 1 rfl) ?_
        refine k_rem C dX4_isPrime_11 (by omega) (by omega) (by omega) ?_
        refine k_zne (tgt := 17) C dX4_isPrime_12 (by decide) (Nat.lt_trans (Nat.mod_lt q (by omega)) (by omega)) (fun hc12 => ?_) (fun hc12 => ?_)
        · refine k_inc C (i + 1) (lv' := [(1, .int (nI (i + 1))), (0, .int (nI q))]) dX4_isPrime_17 hl (k := 1) rfl (inc1 _) (by decide) rfl (fun ls hl => ?_)
          refine lv_goto (tgt := 2) C.1 C.2.1 dX4_isPrime_20 (by decide) ?_
          exact ih2 (i + 1) gL H locs ls (by omega) (⟨by omega, Nat.lt_of_lt_of_le (show i < 2 * i by omega) (Nat.le_trans (Nat.mul_le_mul_right i hi.1) hc6)⟩) (fun j hj h2 => by by_cases h : j = i; (subst h; exact hc12); exact hB j (by omega) h2) hsL2  hw (lv_sub hl [1, 0] rfl)
        · refine k_icn C 0 dX4_isPrime_15 (by decide) ?_
          exact hret H locs ls _ false _ _ dX4_isPrime_16 hw (by rfl) (⟨by rw [show prN q = false from by unfold prN; rw [decide_eq_false_iff_not]; exact fun h => h i hlt hi.1 hc12], funext (fun z => hsL2 z trivial)⟩)
  exact loop2 _ 2 g H locs ls (Nat.le_refl _) (by omega) (fun j hj h2 => absurd hj (by omega)) (fun z _ => rfl)  hw (lv_sub hl [1, 0] rfl)

abbrev rm_X4_leastPrimeFrom : Room := { frames := 1, cells := 0, slots := 0, locals := 21 }

set_option maxHeartbeats 800000 in
set_option maxRecDepth 100000 in
/-- PacketRow.leastPrimeFrom -/
theorem c_X4_leastPrimeFrom {l : Launch} {D : va_G} {ca : Nat → ClassId} {tB tS R : Nat} {ad : Nat → Nat} {g : Nat → va_E} {sz : Nat} (q : Nat) (hq : 12 ≤ q) (hq2 : q < 60) : MI l yX4_leastPrimeFrom cX4_leastPrimeFrom 2 .int rm_X4_leastPrimeFrom D ca tB tS R ad g sz [.int (nI q)] (fun r g1 => r = nI (lpN q) ∧ g1 = g) := by
  refine m_startI (by decide +kernel) (Nat.le_of_ble_eq_true rfl) (fun p e s m args below meth c ls Q hsz C hl F hw hret => ?_)
  have hl : lv_has ls 2 [(0, .int (nI q))] := hl
  generalize s.heap = H at hw ⊢
  generalize ([] : List Loc) = locs at hw ⊢
  obtain ⟨t1, t2, t3, t4, t5⟩ := lp_tab q hq2 hq
  refine lv_iload_n C.1 C.2.1 dX4_leastPrimeFrom_0 rfl (lv_at hl 0 rfl) ?_
  refine lv_istore_n (lv' := [(1, .int (nI q)), (0, .int (nI q))]) C.1 C.2.1 dX4_leastPrimeFrom_1 rfl hl (by decide) rfl (fun ls hl => ?_)
  have loop2 : ∀ (fuel : Nat) (i : Nat) (gL : Nat → va_E) (H : Heap) (locs : List Loc) (ls : Array Slot), ((lpN q - i) + 1 ≤ fuel) → (q ≤ i ∧ i ≤ lpN q) → (∀ z, True → gL z = g z) → Wd D (AA R ad sz) s R ad gL H locs → lv_has ls 2 [(0, .int (nI q)), (1, .int (nI i))] → W p l e rm_X4_leastPrimeFrom s m args below meth c H locs 0 0 Q (F0 m 2 ls []) := by
    intro fuel
    induction fuel with
    | zero =>
      intro i gL H locs ls hfu2
      exact absurd hfu2 (by omega)
    | succ fuel2 ih2 =>
      intro i gL H locs ls hfu2 hi hsL2  hw hl
      refine lv_iload_n C.1 C.2.1 dX4_leastPrimeFrom_2 rfl (lv_at hl 1 rfl) ?_
      refine k_icn C 2 dX4_leastPrimeFrom_3 (by decide) ?_
      refine lv_iload_n C.1 C.2.1 dX4_leastPrimeFrom_4 rfl (lv_at hl 0 rfl) ?_
      refine k_mul C dX4_leastPrimeFrom_5 ?_
      refine k_ige (tgt := 22) C dX4_leastPrimeFrom_6 (by decide) (by omega) (by omega) (fun hc6 => ?_) (fun hc6 => ?_)
      · exact absurd hc6 (by omega)
      · refine lv_iload_n C.1 C.2.1 dX4_leastPrimeFrom_9 rfl (lv_at hl 1 rfl) ?_
        refine k_Si C F hw (As := [.int (nI i)]) (rest := []) (c_X4_isPrime i (by omega) (by omega)) (va_cwS _ C.2.2.2.2 gm_X4_57 rfl rfl rfl cd_X4_isPrime.2 ⟨by decide, by decide⟩) hl.1 rfl (Nat.le_of_ble_eq_true rfl) dX4_leastPrimeFrom_10 ⟨by decide, by decide⟩ (fun r1 g2 H locs hp hw => ?_)
        obtain ⟨hr9, hg9⟩ := hp
        rw [hg9] at hw
        subst hr9
        refine k_bne (tgt := 22) C dX4_leastPrimeFrom_13 (by decide) (fun hc13 => ?_) (fun hc13 => ?_)
        · refine lv_iload_n C.1 C.2.1 dX4_leastPrimeFrom_22 rfl (lv_at hl 1 rfl) ?_
          exact hret H locs ls _ _ _ dX4_leastPrimeFrom_23 hw (⟨by congr 1; by_cases h : i < lpN q; (rw [t5 i h hi.1] at hc13; cases hc13); omega, funext (fun z => hsL2 z trivial)⟩)
        · have hne : i < lpN q := by by_cases h : i = lpN q; (rw [h, t1] at hc13; cases hc13); omega
          refine k_inc C (i + 1) (lv' := [(1, .int (nI (i + 1))), (0, .int (nI q))]) dX4_leastPrimeFrom_16 hl (k := 1) rfl (inc1 _) (by decide) rfl (fun ls hl => ?_)
          refine lv_goto (tgt := 2) C.1 C.2.1 dX4_leastPrimeFrom_19 (by decide) ?_
          exact ih2 (i + 1) gL H locs ls (by omega) (⟨by omega, by omega⟩) hsL2  hw (lv_sub hl [1, 0] rfl)
  exact loop2 _ q g H locs ls (Nat.le_refl _) (⟨Nat.le_refl _, t4⟩) (fun z _ => rfl)  hw (lv_sub hl [1, 0] rfl)
