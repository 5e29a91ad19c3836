/-! ===== FountainDeskModel: numbers ===== -/
theorem bit_tab : ∀ b, b < 256 → ∀ k, k < 8 → (nI b >>> (nI k &&& 31)) &&& nI 1 = nI (b / 2 ^ k % 2) := by decide +kernel
theorem bit_t (b k : Nat) : (b / 2 ^ k % 2 = 1) ↔ b.testBit k = true := by rw [Nat.testBit_eq_decide_div_mod_eq, decide_eq_true_iff]
theorem mtn_t {b a k : Nat} (h : b / 2 ^ k % 2 = 1) : mtn b a (k + 1) = mtn b a k ^^^ xk k a := by show mtn b a k ^^^ _ = _; rw [if_pos ((bit_t b k).mp h)]
theorem mtn_f {b a k : Nat} (h : b / 2 ^ k % 2 ≠ 1) : mtn b a (k + 1) = mtn b a k ^^^ 0 := by show mtn b a k ^^^ _ = _; rw [if_neg (fun h1 => h ((bit_t b k).mpr h1))]
theorem xk_t {a k : Nat} (h : xk k a < 128) : xk (k + 1) a = 2 * xk k a := by show xt _ = _; unfold xt; rw [if_pos h]
theorem xk_f {a k : Nat} (h : 128 ≤ xk k a) : xk (k + 1) a = 2 * xk k a ^^^ 285 := by show xt _ = _; unfold xt; rw [if_neg (by omega)]

abbrev rm_X8_times : Room := { frames := 0, cells := 0, slots := 0, locals := 0 }

set_option maxHeartbeats 800000 in
set_option maxRecDepth 100000 in
/-- times -/
theorem c_X8_times {l : Launch} {D : va_G} {ca : Nat → ClassId} {tB tS R : Nat} {ad : Nat → Nat} {g : Nat → va_E} {sz : Nat} (a b : Nat) (ha : a < 256) (hb : b < 256) : MI l yX8_times cX8_times 5 .int rm_X8_times D ca tB tS R ad g sz [.int (nI a), .int (nI b)] (fun r g1 => r = nI (mt a b) ∧ g1 = g) := by
  refine m_startI (by decide +kernel) (Nat.le_of_ble_eq_true rfl) (fun p e s m args below meth c ls Q hsz C hl F hw hret => ?_)
  have hl : lv_has ls 5 [(0, .int (nI a)), (1, .int (nI b))] := hl
  generalize s.heap = H at hw ⊢
  generalize ([] : List Loc) = locs at hw ⊢
  refine k_icn C 0 dX8_times_0 (by decide) ?_
  refine lv_istore_n (lv' := [(2, .int (nI 0)), (0, .int (nI a)), (1, .int (nI b))]) C.1 C.2.1 dX8_times_1 rfl hl (by decide) rfl (fun ls hl => ?_)
  refine lv_iload_n C.1 C.2.1 dX8_times_2 rfl (lv_at hl 1 rfl) ?_
  refine lv_istore_n (lv' := [(3, .int (nI a)), (2, .int (nI 0)), (0, .int (nI a)), (1, .int (nI b))]) C.1 C.2.1 dX8_times_3 rfl hl (by decide) rfl (fun ls hl => ?_)
  refine k_icn C 0 dX8_times_4 (by decide) ?_
  refine lv_istore (lv' := [(4, .int (nI 0)), (3, .int (nI a)), (2, .int (nI 0)), (0, .int (nI a)), (1, .int (nI b))]) C.1 C.2.1 dX8_times_5 hl (by decide) rfl (fun ls hl => ?_)
  have loop7 : ∀ (fuel : Nat) (k : Nat) (v : Nat) (x : Nat) (gL : Nat → va_E) (H : Heap) (locs : List Loc) (ls : Array Slot), ((8 - k) + 1 ≤ fuel) → (k ≤ 8) → (v = mtn b a k) → (x = xk k a) → (∀ z, True → gL z = g z) → Wd D (AA R ad sz) s R ad gL H locs → lv_has ls 5 [(0, .int (nI a)), (1, .int (nI b)), (2, .int (nI v)), (3, .int (nI x)), (4, .int (nI k))] → W p l e rm_X8_times s m args below meth c H locs 0 0 Q (F0 m 7 ls []) := by
    intro fuel
    induction fuel with
    | zero =>
      intro k v x gL H locs ls hfu7
      exact absurd hfu7 (by omega)
    | succ fuel7 ih7 =>
      intro k v x gL H locs ls hfu7 hi hv hx hsL7  hw hl
      refine lv_iload C.1 C.2.1 dX8_times_7 (lv_at hl 4 rfl) ?_
      refine k_bip C 8 dX8_times_9 (by decide) ?_
      refine k_ige (tgt := 59) C dX8_times_11 (by decide) (by omega) (by omega) (fun hc11 => ?_) (fun hc11 => ?_)
      · refine lv_iload_n C.1 C.2.1 dX8_times_59 rfl (lv_at hl 2 rfl) ?_
        exact hret H locs ls _ _ _ dX8_times_60 hw (⟨by rw [hv, show k = 8 by omega]; rfl, funext (fun z => hsL7 z trivial)⟩)
      · have hx8 : x < 256 := by rw [hx]; exact xk_lt ha k
        refine lv_iload_n C.1 C.2.1 dX8_times_14 rfl (lv_at hl 2 rfl) ?_
        refine lv_iload_n C.1 C.2.1 dX8_times_15 rfl (lv_at hl 1 rfl) ?_
        refine lv_iload C.1 C.2.1 dX8_times_16 (lv_at hl 4 rfl) ?_
        refine lv_ishr C.1 C.2.1 dX8_times_18 ?_
        refine k_icn C 1 dX8_times_19 (by decide) ?_
        refine lv_iand C.1 C.2.1 dX8_times_20 ?_
        refine k_ti (x' := nI (b / 2 ^ k % 2)) (bit_tab b hb k (by omega)) ?_
        refine k_icn C 1 dX8_times_21 (by decide) ?_
        refine k_ine (tgt := 29) C dX8_times_22 (by decide) (by omega) (by omega) (fun hc22 => ?_) (fun hc22 => ?_)
        · refine k_icn C 0 dX8_times_29 (by decide) ?_
          refine k_xor C dX8_times_30 ?_
          refine lv_istore_n (lv' := [(2, .int (nI (v ^^^ 0))), (0, .int (nI a)), (1, .int (nI b)), (3, .int (nI x)), (4, .int (nI k))]) C.1 C.2.1 dX8_times_31 rfl hl (by decide) rfl (fun ls hl => ?_)
          refine lv_iload_n C.1 C.2.1 dX8_times_32 rfl (lv_at hl 3 rfl) ?_
          refine k_sip C 128 dX8_times_33 (by decide) ?_
          refine k_ige (tgt := 45) C dX8_times_36 (by decide) (by omega) (by omega) (fun hc36 => ?_) (fun hc36 => ?_)
          · refine k_icn C 2 dX8_times_45 (by decide) ?_
            refine lv_iload_n C.1 C.2.1 dX8_times_46 rfl (lv_at hl 3 rfl) ?_
            refine k_mul C dX8_times_47 ?_
            refine k_sip C 285 dX8_times_48 (by decide) ?_
            refine k_xor C dX8_times_51 ?_
            refine lv_istore_n (lv' := [(3, .int (nI ((2 * x) ^^^ 285))), (2, .int (nI (v ^^^ 0))), (0, .int (nI a)), (1, .int (nI b)), (4, .int (nI k))]) C.1 C.2.1 dX8_times_52 rfl hl (by decide) rfl (fun ls hl => ?_)
            refine k_inc C (k + 1) (lv' := [(4, .int (nI (k + 1))), (3, .int (nI ((2 * x) ^^^ 285))), (2, .int (nI (v ^^^ 0))), (0, .int (nI a)), (1, .int (nI b))]) dX8_times_53 hl (k := 4) rfl (inc1 _) (by decide) rfl (fun ls hl => ?_)
            refine lv_goto (tgt := 7) C.1 C.2.1 dX8_times_56 (by decide) ?_
            exact ih7 (k + 1) (v ^^^ 0) ((2 * x) ^^^ 285) gL H locs ls (by omega) (by omega) (by rw [hv]; exact (mtn_f hc22).symm) (by subst hx; exact (xk_f hc36).symm) hsL7  hw (lv_sub hl [3, 4, 2, 1, 0] rfl)
          · refine k_icn C 2 dX8_times_39 (by decide) ?_
            refine lv_iload_n C.1 C.2.1 dX8_times_40 rfl (lv_at hl 3 rfl) ?_
            refine k_mul C dX8_times_41 ?_
            refine lv_goto (tgt := 52) C.1 C.2.1 dX8_times_42 (by decide) ?_
            refine lv_istore_n (lv' := [(3, .int (nI (2 * x))), (2, .int (nI (v ^^^ 0))), (0, .int (nI a)), (1, .int (nI b)), (4, .int (nI k))]) C.1 C.2.1 dX8_times_52 rfl hl (by decide) rfl (fun ls hl => ?_)
            refine k_inc C (k + 1) (lv' := [(4, .int (nI (k + 1))), (3, .int (nI (2 * x))), (2, .int (nI (v ^^^ 0))), (0, .int (nI a)), (1, .int (nI b))]) dX8_times_53 hl (k := 4) rfl (inc1 _) (by decide) rfl (fun ls hl => ?_)
            refine lv_goto (tgt := 7) C.1 C.2.1 dX8_times_56 (by decide) ?_
            exact ih7 (k + 1) (v ^^^ 0) (2 * x) gL H locs ls (by omega) (by omega) (by rw [hv]; exact (mtn_f hc22).symm) (by subst hx; exact (xk_t hc36).symm) hsL7  hw (lv_sub hl [3, 4, 2, 1, 0] rfl)
        · have hc22 : b / 2 ^ k % 2 = 1 := by omega
          refine lv_iload_n C.1 C.2.1 dX8_times_25 rfl (lv_at hl 3 rfl) ?_
          refine lv_goto (tgt := 30) C.1 C.2.1 dX8_times_26 (by decide) ?_
          refine k_xor C dX8_times_30 ?_
          refine lv_istore_n (lv' := [(2, .int (nI (v ^^^ x))), (0, .int (nI a)), (1, .int (nI b)), (3, .int (nI x)), (4, .int (nI k))]) C.1 C.2.1 dX8_times_31 rfl hl (by decide) rfl (fun ls hl => ?_)
          refine lv_iload_n C.1 C.2.1 dX8_times_32 rfl (lv_at hl 3 rfl) ?_
          refine k_sip C 128 dX8_times_33 (by decide) ?_
          refine k_ige (tgt := 45) C dX8_times_36 (by decide) (by omega) (by omega) (fun hc36 => ?_) (fun hc36 => ?_)
          · refine k_icn C 2 dX8_times_45 (by decide) ?_
            refine lv_iload_n C.1 C.2.1 dX8_times_46 rfl (lv_at hl 3 rfl) ?_
            refine k_mul C dX8_times_47 ?_
            refine k_sip C 285 dX8_times_48 (by decide) ?_
            refine k_xor C dX8_times_51 ?_
            refine lv_istore_n (lv' := [(3, .int (nI ((2 * x) ^^^ 285))), (2, .int (nI (v ^^^ x))), (0, .int (nI a)), (1, .int (nI b)), (4, .int (nI k))]) C.1 C.2.1 dX8_times_52 rfl hl (by decide) rfl (fun ls hl => ?_)
            refine k_inc C (k + 1) (lv' := [(4, .int (nI (k + 1))), (3, .int (nI ((2 * x) ^^^ 285))), (2, .int (nI (v ^^^ x))), (0, .int (nI a)), (1, .int (nI b))]) dX8_times_53 hl (k := 4) rfl (inc1 _) (by decide) rfl (fun ls hl => ?_)
            refine lv_goto (tgt := 7) C.1 C.2.1 dX8_times_56 (by decide) ?_
            exact ih7 (k + 1) (v ^^^ x) ((2 * x) ^^^ 285) gL H locs ls (by omega) (by omega) (by rw [hv, hx]; exact (mtn_t hc22).symm) (by subst hx; exact (xk_f hc36).symm) hsL7  hw (lv_sub hl [3, 4, 2, 1, 0] rfl)
          · refine k_icn C 2 dX8_times_39 (by decide) ?_
            refine lv_iload_n C.1 C.2.1 dX8_times_40 rfl (lv_at hl 3 rfl) ?_
            refine k_mul C dX8_times_41 ?_
            refine lv_goto (tgt := 52) C.1 C.2.1 dX8_times_42 (by decide) ?_
            refine lv_istore_n (lv' := [(3, .int (nI (2 * x))), (2, .int (nI (v ^^^ x))), (0, .int (nI a)), (1, .int (nI b)), (4, .int (nI k))]) C.1 C.2.1 dX8_times_52 rfl hl (by decide) rfl (fun ls hl => ?_)
            refine k_inc C (k + 1) (lv' := [(4, .int (nI (k + 1))), (3, .int (nI (2 * x))), (2, .int (nI (v ^^^ x))), (0, .int (nI a)), (1, .int (nI b))]) dX8_times_53 hl (k := 4) rfl (inc1 _) (by decide) rfl (fun ls hl => ?_)
            refine lv_goto (tgt := 7) C.1 C.2.1 dX8_times_56 (by decide) ?_
            exact ih7 (k + 1) (v ^^^ x) (2 * x) gL H locs ls (by omega) (by omega) (by rw [hv, hx]; exact (mtn_t hc22).symm) (by subst hx; exact (xk_t hc36).symm) hsL7  hw (lv_sub hl [3, 4, 2, 1, 0] rfl)
  exact loop7 _ 0 0 a g H locs ls (Nat.le_refl _) (by omega) rfl rfl (fun z _ => rfl)  hw (lv_sub hl [3, 4, 2, 1, 0] rfl)

abbrev rm_X8_inverse : Room := { frames := 1, cells := 0, slots := 0, locals := 24 }

set_option maxHeartbeats 800000 in
set_option maxRecDepth 100000 in
/-- inverse -/
theorem c_X8_inverse {l : Launch} {D : va_G} {ca : Nat → ClassId} {tB tS R : Nat} {ad : Nat → Nat} {g : Nat → va_E} {sz : Nat} (a : Nat) (ha : a < 256) (h0 : a ≠ 0) : MI l yX8_inverse cX8_inverse 2 .int rm_X8_inverse D ca tB tS R ad g sz [.int (nI a)] (fun r g1 => r = nI (mInv a) ∧ g1 = g) := by
  refine m_startI (by decide +kernel) (Nat.le_of_ble_eq_true rfl) (fun p e s m args below meth c ls Q hsz C hl F hw hret => ?_)
  have hl : lv_has ls 2 [(0, .int (nI a))] := hl
  generalize s.heap = H at hw ⊢
  generalize ([] : List Loc) = locs at hw ⊢
  have hI := mInv_ok ha h0
  refine k_icn C 1 dX8_inverse_0 (by decide) ?_
  refine lv_istore_n (lv' := [(1, .int (nI 1)), (0, .int (nI a))]) C.1 C.2.1 dX8_inverse_1 rfl hl (by decide) rfl (fun ls hl => ?_)
  have loop2 : ∀ (fuel : Nat) (i : Nat) (gL : Nat → va_E) (H : Heap) (locs : List Loc) (ls : Array Slot), ((mInv a - i) + 1 ≤ fuel) → (1 ≤ i ∧ i ≤ mInv a) → (∀ z, 1 ≤ z → z < i → mt a z ≠ 1) → (∀ z, True → gL z = g z) → Wd D (AA R ad sz) s R ad gL H locs → lv_has ls 2 [(0, .int (nI a)), (1, .int (nI i))] → W p l e rm_X8_inverse s m args below meth c H locs 0 0 Q (F0 m 2 ls []) := by
    intro fuel
    induction fuel with
    | zero =>
      intro i gL H locs ls hfu2
      exact absurd hfu2 (by omega)
    | succ fuel2 ih2 =>
      intro i gL H locs ls hfu2 hi hB hsL2  hw hl
      refine lv_iload_n C.1 C.2.1 dX8_inverse_2 rfl (lv_at hl 0 rfl) ?_
      refine lv_iload_n C.1 C.2.1 dX8_inverse_3 rfl (lv_at hl 1 rfl) ?_
      refine k_Si C F hw (As := [.int (nI a), .int (nI i)]) (rest := []) (c_X8_times a i ha (by omega)) (va_cwS _ C.2.2.2.2 gm_X8_38 rfl rfl rfl cd_X8_times.2 ⟨by decide, by decide⟩) hl.1 rfl (Nat.le_of_ble_eq_true rfl) dX8_inverse_4 ⟨by decide, by decide⟩ (fun r1 g2 H locs hp hw => ?_)
      obtain ⟨hr9, hg9⟩ := hp
      rw [hg9] at hw
      subst hr9
      have hm8 : mt a i < 256 := mt_lt ha
      refine k_icn C 1 dX8_inverse_7 (by decide) ?_
      refine k_ieq (tgt := 17) C dX8_inverse_8 (by decide) (by omega) (by omega) (fun hc8 => ?_) (fun hc8 => ?_)
      · refine lv_iload_n C.1 C.2.1 dX8_inverse_17 rfl (lv_at hl 1 rfl) ?_
        exact hret H locs ls _ _ _ dX8_inverse_18 hw (⟨by rw [mInv_unique ha h0 hi.1 hc8 hB], funext (fun z => hsL2 z trivial)⟩)
      · have hne : i ≠ mInv a := fun h => hc8 (by rw [h]; exact hI.2.2.1)
        refine k_inc C (i + 1) (lv' := [(1, .int (nI (i + 1))), (0, .int (nI a))]) dX8_inverse_11 hl (k := 1) rfl (inc1 _) (by decide) rfl (fun ls hl => ?_)
        refine lv_goto (tgt := 2) C.1 C.2.1 dX8_inverse_14 (by decide) ?_
        exact ih2 (i + 1) gL H locs ls (by omega) (⟨by omega, by omega⟩) (fun z h1 h2 => by by_cases h : z = i; (subst h; exact hc8); exact hB z h1 (by omega)) hsL2  hw (lv_sub hl [1, 0] rfl)
  exact loop2 _ 1 g H locs ls (Nat.le_refl _) (⟨by omega, hI.1⟩) (fun z h1 h2 => by omega) (fun z _ => rfl)  hw (lv_sub hl [1, 0] rfl)

abbrev rm_X8_power : Room := { frames := 0, cells := 0, slots := 0, locals := 0 }

set_option maxHeartbeats 800000 in
set_option maxRecDepth 100000 in
/-- power -/
theorem c_X8_power {l : Launch} {D : va_G} {ca : Nat → ClassId} {tB tS R : Nat} {ad : Nat → Nat} {g : Nat → va_E} {sz : Nat} (hR : 207 < R) (cd : Int32) (ln bk bt ck ct cn pk rw : Nat) (gt : Bool) (eM : g 198 = .inr (8, [.int (cd), .ref (ad 199), .int (nI ln), .ref (ad 200), .int (nI bk), .int (nI bt), .ref (ad 201), .int (nI ck), .int (nI ct), .ref (ad 202), .int (nI cn), .int (nI pk), .ref (ad 203), .ref (ad 204), .int (nI rw), .ref (ad 205), .ref (ad 206), .int (bI (gt)), .ref (ad 207)])) (pm : Nat → Nat) (q206 : g 206 = na ca 255 pm) (k : Nat) (hk : k < 2 ^ 31) : MI l yX8_power cX8_power 2 .int rm_X8_power D ca tB tS R ad g sz [.ref (ad 198), .int (nI k)] (fun r g1 => r = nI (pm (k % 255)) ∧ g1 = g) := by
  refine m_startI (by decide +kernel) (Nat.le_of_ble_eq_true rfl) (fun p e s m args below meth c ls Q hsz C hl F hw hret => ?_)
  have hl : lv_has ls 2 [(0, .ref (ad 198)), (1, .int (nI k))] := hl
  generalize s.heap = H at hw ⊢
  generalize ([] : List Loc) = locs at hw ⊢
  refine lv_aload_n C.1 C.2.1 dX8_power_0 rfl (lv_at hl 0 rfl) ?_
  refine k_get C F hw (198) (by omega) eM rfl in_X8 16 (by decide) fl_X8_32 rfl dX8_power_1 ?_
  refine lv_iload_n C.1 C.2.1 dX8_power_4 rfl (lv_at hl 1 rfl) ?_
  refine k_sip C 255 dX8_power_5 (by decide) ?_
  refine k_rem C dX8_power_8 (by omega) (by omega) (by omega) ?_
  refine k_iald C F hw (206) (by omega) q206 (k % 255) (by omega) (by decide) dX8_power_9 ?_
  exact hret H locs ls _ _ _ dX8_power_10 hw (⟨rfl, rfl⟩)

abbrev rm_X8_chance : Room := { frames := 0, cells := 0, slots := 0, locals := 0 }

set_option maxHeartbeats 800000 in
set_option maxRecDepth 100000 in
/-- chance -/
theorem c_X8_chance {l : Launch} {D : va_G} {ca : Nat → ClassId} {tB tS R : Nat} {ad : Nat → Nat} {g : Nat → va_E} {sz : Nat} (y s0 k : Nat) (hs0 : s0 < 100) (hk : 0 < k) (hk2 : k < 2 ^ 31) : MI l yX8_chance cX8_chance 6 .int rm_X8_chance D ca tB tS R ad g sz [.long (lN (y)), .int (nI s0), .int (nI k)] (fun r g1 => r = nI (chN y s0 k) ∧ g1 = g) := by
  refine m_startI (by decide +kernel) (Nat.le_of_ble_eq_true rfl) (fun p e s m args below meth c ls Q hsz C hl F hw hret => ?_)
  have hl : lv_has ls 6 [(0, .long (lN (y))), (2, .int (nI s0)), (3, .int (nI k))] := hl
  generalize s.heap = H at hw ⊢
  generalize ([] : List Loc) = locs at hw ⊢
  refine lv_lload_n C.1 C.2.1 dX8_chance_0 rfl (lv_at hl 0 rfl) ?_
  refine lv_iload_n C.1 C.2.1 dX8_chance_1 rfl (lv_at hl 1 rfl) ?_
  refine lv_i2l C.1 C.2.1 dX8_chance_2 rfl ?_
  refine lv_lconst (v := 1) C.1 C.2.1 dX8_chance_3 (by decide) ?_
  refine lv_ladd C.1 C.2.1 dX8_chance_4 ?_
  refine k_tl (x' := (nI (s0 + 1)).toInt64) (by rw [nI_l (by omega), nI_l (by omega), show (1 : Int64) = lN 1 from by decide, lN_add]) ?_
  refine lv_ldc2 (v := -7046029254386353131) C.1 C.2.1 C.2.2.2.1 (C.2.2.2.2 _ kc_X8_49) dX8_chance_5 ?_
  refine lv_lmul C.1 C.2.1 dX8_chance_8 ?_
  refine lv_ladd C.1 C.2.1 dX8_chance_9 ?_
  refine k_tl (x' := lN (mz1 y s0)) (mzr1 y s0 hs0) ?_
  refine lv_lstore (lv' := [(4, .long (lN (mz1 y s0))), (0, .long (lN (y))), (2, .int (nI s0)), (3, .int (nI k))]) C.1 C.2.1 dX8_chance_10 hl (by decide) rfl (fun ls hl => ?_)
  refine lv_lload C.1 C.2.1 dX8_chance_12 (lv_at hl 0 rfl) ?_
  refine lv_lload C.1 C.2.1 dX8_chance_14 (lv_at hl 0 rfl) ?_
  refine k_bip C 30 dX8_chance_16 (by decide) ?_
  refine lv_lushr C.1 C.2.1 dX8_chance_18 rfl ?_
  refine lv_lxor C.1 C.2.1 dX8_chance_19 ?_
  refine lv_ldc2 (v := -4658895280553007687) C.1 C.2.1 C.2.2.2.1 (C.2.2.2.2 _ kc_X8_51) dX8_chance_20 ?_
  refine lv_lmul C.1 C.2.1 dX8_chance_23 ?_
  refine k_tl (x' := lN (mz2 (mz1 y s0))) (mzr2 (mz1_lt _ _)) ?_
  refine lv_lstore (lv' := [(4, .long (lN (mz2 (mz1 y s0)))), (0, .long (lN (y))), (2, .int (nI s0)), (3, .int (nI k))]) C.1 C.2.1 dX8_chance_24 hl (by decide) rfl (fun ls hl => ?_)
  refine lv_lload C.1 C.2.1 dX8_chance_26 (lv_at hl 0 rfl) ?_
  refine lv_lload C.1 C.2.1 dX8_chance_28 (lv_at hl 0 rfl) ?_
  refine k_bip C 27 dX8_chance_30 (by decide) ?_
  refine lv_lushr C.1 C.2.1 dX8_chance_32 rfl ?_
  refine lv_lxor C.1 C.2.1 dX8_chance_33 ?_
  refine lv_ldc2 (v := -7723592293110705685) C.1 C.2.1 C.2.2.2.1 (C.2.2.2.2 _ kc_X8_53) dX8_chance_34 ?_
  refine lv_lmul C.1 C.2.1 dX8_chance_37 ?_
  refine k_tl (x' := lN (mz3 (mz2 (mz1 y s0)))) (mzr3 (mz2_lt _)) ?_
  refine lv_lstore (lv' := [(4, .long (lN (mz3 (mz2 (mz1 y s0))))), (0, .long (lN (y))), (2, .int (nI s0)), (3, .int (nI k))]) C.1 C.2.1 dX8_chance_38 hl (by decide) rfl (fun ls hl => ?_)
  refine lv_lload C.1 C.2.1 dX8_chance_40 (lv_at hl 0 rfl) ?_
  refine lv_lload C.1 C.2.1 dX8_chance_42 (lv_at hl 0 rfl) ?_
  refine k_bip C 31 dX8_chance_44 (by decide) ?_
  refine lv_lushr C.1 C.2.1 dX8_chance_46 rfl ?_
  refine lv_lxor C.1 C.2.1 dX8_chance_47 ?_
  refine k_tl (x' := lN (mixN y s0)) (mzr4 (mz3_lt _)) ?_
  refine lv_lstore (lv' := [(4, .long (lN (mixN y s0))), (0, .long (lN (y))), (2, .int (nI s0)), (3, .int (nI k))]) C.1 C.2.1 dX8_chance_48 hl (by decide) rfl (fun ls hl => ?_)
  refine lv_lload C.1 C.2.1 dX8_chance_50 (lv_at hl 0 rfl) ?_
  refine k_bip C 32 dX8_chance_52 (by decide) ?_
  refine lv_lushr C.1 C.2.1 dX8_chance_54 rfl ?_
  refine k_tl (x' := lN (mixN y s0 / 2 ^ 32)) (mzr5 (mixN_lt _ _)) ?_
  have h32 := hi32 (mixN_lt y s0)
  refine lv_iload_n C.1 C.2.1 dX8_chance_55 rfl (lv_at hl 3 rfl) ?_
  refine lv_i2l C.1 C.2.1 dX8_chance_56 rfl ?_
  refine k_tl (x' := lN (k)) (nI_l (by omega)) ?_
  refine k_lrem C dX8_chance_57 (by omega) (by omega) (by omega) ?_
  refine lv_l2i C.1 C.2.1 dX8_chance_58 rfl ?_
  refine k_ti (x' := nI (chN y s0 k)) (by rw [chN_eq]; exact lN_i _) ?_
  exact hret H locs ls _ _ _ dX8_chance_59 hw (⟨rfl, rfl⟩)

def prT (q i : Nat) : Bool := decide (∀ d, d < i → 2 ≤ d → q % d ≠ 0)
theorem prT_t {q i : Nat} (h : prT q i = true) (h1 : q % i ≠ 0) : (1 : Int32) = bI (prT q (i + 1)) := by
  have : prT q (i + 1) = true := by
    unfold prT at h ⊢
    rw [decide_eq_true_iff] at h ⊢
    intro d h2 h3
    by_cases h4 : d = i
    · subst h4; exact h1
    · exact h d (by omega) h3
  rw [this]
  rfl
theorem prT_f1 {q i : Nat} (h : prT q i = false) : (0 : Int32) = bI (prT q (i + 1)) := by
  have : prT q (i + 1) = false := by
    unfold prT at h ⊢
    rw [decide_eq_false_iff_not] at h ⊢
    exact fun h1 => h (fun d h2 h3 => h1 d (by omega) h3)
  rw [this]
  rfl
theorem prT_f2 {q i : Nat} (h0 : 2 ≤ i) (h : q % i = 0) : (0 : Int32) = bI (prT q (i + 1)) := by
  have : prT q (i + 1) = false := by
    unfold prT
    rw [decide_eq_false_iff_not]
    exact fun h1 => h1 i (by omega) h0 h
  rw [this]
  rfl
theorem prT_2 (q : Nat) : prT q 2 = true := by unfold prT; rw [decide_eq_true_iff]; intro d h1 h2; omega
theorem bI_t : bI true = nI 1 := rfl
theorem bI_f : bI false = nI 0 := rfl

abbrev rm_X8_prime : Room := { frames := 0, cells := 0, slots := 0, locals := 0 }

set_option maxHeartbeats 800000 in
set_option maxRecDepth 100000 in
/-- prime -/
theorem c_X8_prime {l : Launch} {D : va_G} {ca : Nat → ClassId} {tB tS R : Nat} {ad : Nat → Nat} {g : Nat → va_E} {sz : Nat} (q : Nat) (hq : 12 ≤ q) (hq2 : q < 60) : MI l yX8_prime cX8_prime 4 .int rm_X8_prime D ca tB tS R ad g sz [.int (nI q)] (fun r g1 => r = nI (lpN q) ∧ g1 = g) := by
  refine m_startI (by decide +kernel) (Nat.le_of_ble_eq_true rfl) (fun p e s m args below meth c ls Q hsz C hl F hw hret => ?_)
  have hl : lv_has ls 4 [(0, .int (nI q))] := hl
  generalize s.heap = H at hw ⊢
  generalize ([] : List Loc) = locs at hw ⊢
  obtain ⟨t1, t2, t3, t4, t5⟩ := lp_tab q hq2 hq
  refine lv_iload_n C.1 C.2.1 dX8_prime_0 rfl (lv_at hl 0 rfl) ?_
  refine lv_istore_n (lv' := [(1, .int (nI q)), (0, .int (nI q))]) C.1 C.2.1 dX8_prime_1 rfl hl (by decide) rfl (fun ls hl => ?_)
  refine k_icn C 0 dX8_prime_2 (by decide) ?_
  refine k_ti (x' := bI (false)) (rfl) ?_
  refine lv_istore_n (lv' := [(2, .int (bI (false))), (1, .int (nI q)), (0, .int (nI q))]) C.1 C.2.1 dX8_prime_3 rfl hl (by decide) rfl (fun ls hl => ?_)
  have loop4 : ∀ (fuel : Nat) (i : Nat) (gL : Nat → va_E) (H : Heap) (locs : List Loc) (ls : Array Slot), ((lpN q - i) + 1 ≤ fuel) → (q ≤ i ∧ i ≤ lpN q) → (∀ z, True → gL z = g z) → Wd D (AA R ad sz) s R ad gL H locs → lv_has ls 4 [(0, .int (nI q)), (1, .int (nI i)), (2, .int (bI (false)))] → W p l e rm_X8_prime s m args below meth c H locs 0 0 Q (F0 m 4 ls []) := by
    intro fuel
    induction fuel with
    | zero =>
      intro i gL H locs ls hfu4
      exact absurd hfu4 (by omega)
    | succ fuel4 ih4 =>
      intro i gL H locs ls hfu4 hi hsL4  hw hl
      refine lv_iload_n C.1 C.2.1 dX8_prime_4 rfl (lv_at hl 2 rfl) ?_
      refine k_bne (tgt := 54) C dX8_prime_5 (by decide) (fun hc5 => ?_) (fun hc5 => ?_)
      · cases hc5
      · refine k_icn C 1 dX8_prime_8 (by decide) ?_
        refine k_ti (x' := bI (prT i 2)) (by rw [prT_2]; rfl) ?_
        refine lv_istore_n (lv' := [(2, .int (bI (prT i 2))), (0, .int (nI q)), (1, .int (nI i))]) C.1 C.2.1 dX8_prime_9 rfl hl (by decide) rfl (fun ls hl => ?_)
        refine k_icn C 2 dX8_prime_10 (by decide) ?_
        refine lv_istore_n (lv' := [(3, .int (nI 2)), (2, .int (bI (prT i 2))), (0, .int (nI q)), (1, .int (nI i))]) C.1 C.2.1 dX8_prime_11 rfl hl (by decide) rfl (fun ls hl => ?_)
        have loop12 : ∀ (fuel : Nat) (j : Nat) (gL : Nat → va_E) (H : Heap) (locs : List Loc) (ls : Array Slot), ((i - j) + 1 ≤ fuel) → (2 ≤ j ∧ j ≤ i) → (∀ z, True → gL z = g z) → Wd D (AA R ad sz) s R ad gL H locs → lv_has ls 4 [(0, .int (nI q)), (1, .int (nI i)), (2, .int (bI (prT i j))), (3, .int (nI j))] → W p l e rm_X8_prime s m args below meth c H locs 0 0 Q (F0 m 12 ls []) := by
          intro fuel
          induction fuel with
          | zero =>
            intro j gL H locs ls hfu12
            exact absurd hfu12 (by omega)
          | succ fuel12 ih12 =>
            intro j gL H locs ls hfu12 hj hsL12  hw hl
            refine lv_iload_n C.1 C.2.1 dX8_prime_12 rfl (lv_at hl 3 rfl) ?_
            refine lv_iload_n C.1 C.2.1 dX8_prime_13 rfl (lv_at hl 1 rfl) ?_
            refine k_ige (tgt := 39) C dX8_prime_14 (by decide) (by omega) (by omega) (fun hc14 => ?_) (fun hc14 => ?_)
            · refine lv_iload_n C.1 C.2.1 dX8_prime_39 rfl (lv_at hl 1 rfl) ?_
              refine lv_iload_n C.1 C.2.1 dX8_prime_40 rfl (lv_at hl 2 rfl) ?_
              refine k_beq (tgt := 48) C dX8_prime_41 (by decide) (fun hc41 => ?_) (fun hc41 => ?_)
              · have hpr : prT i j = prN i := by unfold prT prN; rw [show j = i by omega]
                rw [hpr] at hc41
                have hne : i < lpN q := by by_cases h : i = lpN q; (rw [h, t1] at hc41; cases hc41); omega
                rw [hpr, hc41] at hl
                refine k_icn C 1 dX8_prime_48 (by decide) ?_
                refine k_add C dX8_prime_49 ?_
                refine lv_istore_n (lv' := [(1, .int (nI (i + 1))), (0, .int (nI q)), (2, .int (bI (false))), (3, .int (nI j))]) C.1 C.2.1 dX8_prime_50 rfl hl (by decide) rfl (fun ls hl => ?_)
                refine lv_goto (tgt := 4) C.1 C.2.1 dX8_prime_51 (by decide) ?_
                exact ih4 (i + 1) gL H locs ls (by omega) (⟨by omega, by omega⟩) hsL12  hw (lv_sub hl [1, 0, 2] rfl)
              · have hpr : prT i j = prN i := by unfold prT prN; rw [show j = i by omega]
                rw [hpr] at hc41
                have hie : i = lpN q := by by_cases h : i < lpN q; (rw [t5 i h hi.1] at hc41; cases hc41); omega
                rw [hpr, hc41] at hl
                refine k_icn C 0 dX8_prime_44 (by decide) ?_
                refine lv_goto (tgt := 49) C.1 C.2.1 dX8_prime_45 (by decide) ?_
                refine k_add C dX8_prime_49 ?_
                refine lv_istore_n (lv' := [(1, .int (nI (i + 0))), (0, .int (nI q)), (2, .int (bI (true))), (3, .int (nI j))]) C.1 C.2.1 dX8_prime_50 rfl hl (by decide) rfl (fun ls hl => ?_)
                refine lv_goto (tgt := 4) C.1 C.2.1 dX8_prime_51 (by decide) ?_
                refine lv_iload_n C.1 C.2.1 dX8_prime_4 rfl (lv_at hl 2 rfl) ?_
                refine k_bne (tgt := 54) C dX8_prime_5 (by decide) (fun hc5 => ?_) (fun hc5 => ?_)
                · refine lv_iload_n C.1 C.2.1 dX8_prime_54 rfl (lv_at hl 0 rfl) ?_
                  exact hret H locs ls _ _ _ dX8_prime_55 hw (⟨by rw [show i + 0 = lpN q by omega], funext (fun z => hsL12 z trivial)⟩)
                · cases hc5
            · refine lv_iload_n C.1 C.2.1 dX8_prime_17 rfl (lv_at hl 2 rfl) ?_
              refine k_beq (tgt := 31) C dX8_prime_18 (by decide) (fun hc18 => ?_) (fun hc18 => ?_)
              · refine k_icn C 0 dX8_prime_31 (by decide) ?_
                refine k_ti (x' := bI (prT i (j + 1))) (prT_f1 hc18) ?_
                refine lv_istore_n (lv' := [(2, .int (bI (prT i (j + 1)))), (0, .int (nI q)), (1, .int (nI i)), (3, .int (nI j))]) C.1 C.2.1 dX8_prime_32 rfl hl (by decide) rfl (fun ls hl => ?_)
                refine k_inc C (j + 1) (lv' := [(3, .int (nI (j + 1))), (2, .int (bI (prT i (j + 1)))), (0, .int (nI q)), (1, .int (nI i))]) dX8_prime_33 hl (k := 3) rfl (inc1 _) (by decide) rfl (fun ls hl => ?_)
                refine lv_goto (tgt := 12) C.1 C.2.1 dX8_prime_36 (by decide) ?_
                exact ih12 (j + 1) gL H locs ls (by omega) (⟨by omega, by omega⟩) hsL12  hw (lv_sub hl [2, 3, 1, 0] rfl)
              · have hml := Nat.mod_lt i (show 0 < j by omega)
                refine lv_iload_n C.1 C.2.1 dX8_prime_21 rfl (lv_at hl 1 rfl) ?_
                refine lv_iload_n C.1 C.2.1 dX8_prime_22 rfl (lv_at hl 3 rfl) ?_
                refine k_rem C dX8_prime_23 (by omega) (by omega) (by omega) ?_
                refine k_zeq (tgt := 31) C dX8_prime_24 (by decide) (by omega) (fun hc24 => ?_) (fun hc24 => ?_)
                · refine k_icn C 0 dX8_prime_31 (by decide) ?_
                  refine k_ti (x' := bI (prT i (j + 1))) (prT_f2 hj.1 hc24) ?_
                  refine lv_istore_n (lv' := [(2, .int (bI (prT i (j + 1)))), (0, .int (nI q)), (1, .int (nI i)), (3, .int (nI j))]) C.1 C.2.1 dX8_prime_32 rfl hl (by decide) rfl (fun ls hl => ?_)
                  refine k_inc C (j + 1) (lv' := [(3, .int (nI (j + 1))), (2, .int (bI (prT i (j + 1)))), (0, .int (nI q)), (1, .int (nI i))]) dX8_prime_33 hl (k := 3) rfl (inc1 _) (by decide) rfl (fun ls hl => ?_)
                  refine lv_goto (tgt := 12) C.1 C.2.1 dX8_prime_36 (by decide) ?_
                  exact ih12 (j + 1) gL H locs ls (by omega) (⟨by omega, by omega⟩) hsL12  hw (lv_sub hl [2, 3, 1, 0] rfl)
                · refine k_icn C 1 dX8_prime_27 (by decide) ?_
                  refine lv_goto (tgt := 32) C.1 C.2.1 dX8_prime_28 (by decide) ?_
                  refine k_ti (x' := bI (prT i (j + 1))) (prT_t hc18 hc24) ?_
                  refine lv_istore_n (lv' := [(2, .int (bI (prT i (j + 1)))), (0, .int (nI q)), (1, .int (nI i)), (3, .int (nI j))]) C.1 C.2.1 dX8_prime_32 rfl hl (by decide) rfl (fun ls hl => ?_)
                  refine k_inc C (j + 1) (lv' := [(3, .int (nI (j + 1))), (2, .int (bI (prT i (j + 1)))), (0, .int (nI q)), (1, .int (nI i))]) dX8_prime_33 hl (k := 3) rfl (inc1 _) (by decide) rfl (fun ls hl => ?_)
                  refine lv_goto (tgt := 12) C.1 C.2.1 dX8_prime_36 (by decide) ?_
                  exact ih12 (j + 1) gL H locs ls (by omega) (⟨by omega, by omega⟩) hsL12  hw (lv_sub hl [2, 3, 1, 0] rfl)
        exact loop12 _ 2 gL H locs ls (Nat.le_refl _) (⟨by omega, by omega⟩) hsL4  hw (lv_sub hl [2, 3, 1, 0] rfl)
  exact loop4 _ q g H locs ls (Nat.le_refl _) (⟨Nat.le_refl _, t4⟩) (fun z _ => rfl)  hw (lv_sub hl [2, 1, 0] rfl)

abbrev rm_X8_degree : Room := { frames := 0, cells := 0, slots := 0, locals := 0 }

set_option maxHeartbeats 800000 in
set_option maxRecDepth 100000 in
/-- degree -/
theorem c_X8_degree {l : Launch} {D : va_G} {ca : Nat → ClassId} {tB tS R : Nat} {ad : Nat → Nat} {g : Nat → va_E} {sz : Nat} (v : Nat) (hv : v < 1000) : MI l yX8_degree cX8_degree 1 .int rm_X8_degree D ca tB tS R ad g sz [.int (nI v)] (fun r g1 => r = nI (szN v) ∧ g1 = g) := by
  refine m_startI (by decide +kernel) (Nat.le_of_ble_eq_true rfl) (fun p e s m args below meth c ls Q hsz C hl F hw hret => ?_)
  have hl : lv_has ls 1 [(0, .int (nI v))] := hl
  generalize s.heap = H at hw ⊢
  generalize ([] : List Loc) = locs at hw ⊢
  refine lv_iload_n C.1 C.2.1 dX8_degree_0 rfl (lv_at hl 0 rfl) ?_
  refine k_icn C 5 dX8_degree_1 (by decide) ?_
  refine k_ige (tgt := 9) C dX8_degree_2 (by decide) (by omega) (by omega) (fun hc2 => ?_) (fun hc2 => ?_)
  · refine lv_iload_n C.1 C.2.1 dX8_degree_9 rfl (lv_at hl 0 rfl) ?_
    refine k_sip C 505 dX8_degree_10 (by decide) ?_
    refine k_ige (tgt := 20) C dX8_degree_13 (by decide) (by omega) (by omega) (fun hc13 => ?_) (fun hc13 => ?_)
    · refine lv_iload_n C.1 C.2.1 dX8_degree_20 rfl (lv_at hl 0 rfl) ?_
      refine k_sip C 671 dX8_degree_21 (by decide) ?_
      refine k_ige (tgt := 31) C dX8_degree_24 (by decide) (by omega) (by omega) (fun hc24 => ?_) (fun hc24 => ?_)
      · refine lv_iload_n C.1 C.2.1 dX8_degree_31 rfl (lv_at hl 0 rfl) ?_
        refine k_sip C 754 dX8_degree_32 (by decide) ?_
        refine k_ige (tgt := 42) C dX8_degree_35 (by decide) (by omega) (by omega) (fun hc35 => ?_) (fun hc35 => ?_)
        · refine lv_iload_n C.1 C.2.1 dX8_degree_42 rfl (lv_at hl 0 rfl) ?_
          refine k_sip C 804 dX8_degree_43 (by decide) ?_
          refine k_ige (tgt := 53) C dX8_degree_46 (by decide) (by omega) (by omega) (fun hc46 => ?_) (fun hc46 => ?_)
          · refine lv_iload_n C.1 C.2.1 dX8_degree_53 rfl (lv_at hl 0 rfl) ?_
            refine k_sip C 837 dX8_degree_54 (by decide) ?_
            refine k_ige (tgt := 65) C dX8_degree_57 (by decide) (by omega) (by omega) (fun hc57 => ?_) (fun hc57 => ?_)
            · refine lv_iload_n C.1 C.2.1 dX8_degree_65 rfl (lv_at hl 0 rfl) ?_
              refine k_sip C 861 dX8_degree_66 (by decide) ?_
              refine k_ige (tgt := 77) C dX8_degree_69 (by decide) (by omega) (by omega) (fun hc69 => ?_) (fun hc69 => ?_)
              · refine lv_iload_n C.1 C.2.1 dX8_degree_77 rfl (lv_at hl 0 rfl) ?_
                refine k_sip C 879 dX8_degree_78 (by decide) ?_
                refine k_ige (tgt := 89) C dX8_degree_81 (by decide) (by omega) (by omega) (fun hc81 => ?_) (fun hc81 => ?_)
                · refine lv_iload_n C.1 C.2.1 dX8_degree_89 rfl (lv_at hl 0 rfl) ?_
                  refine k_sip C 900 dX8_degree_90 (by decide) ?_
                  refine k_ige (tgt := 101) C dX8_degree_93 (by decide) (by omega) (by omega) (fun hc93 => ?_) (fun hc93 => ?_)
                  · refine lv_iload_n C.1 C.2.1 dX8_degree_101 rfl (lv_at hl 0 rfl) ?_
                    refine k_sip C 960 dX8_degree_102 (by decide) ?_
                    refine k_ige (tgt := 113) C dX8_degree_105 (by decide) (by omega) (by omega) (fun hc105 => ?_) (fun hc105 => ?_)
                    · refine k_bip C 40 dX8_degree_113 (by decide) ?_
                      exact hret H locs ls _ _ _ dX8_degree_115 hw (⟨by congr 1; unfold szN; (repeat' split) <;> omega, rfl⟩)
                    · refine k_bip C 20 dX8_degree_108 (by decide) ?_
                      refine lv_goto (tgt := 115) C.1 C.2.1 dX8_degree_110 (by decide) ?_
                      exact hret H locs ls _ _ _ dX8_degree_115 hw (⟨by congr 1; unfold szN; (repeat' split) <;> omega, rfl⟩)
                  · refine k_bip C 10 dX8_degree_96 (by decide) ?_
                    refine lv_goto (tgt := 115) C.1 C.2.1 dX8_degree_98 (by decide) ?_
                    exact hret H locs ls _ _ _ dX8_degree_115 hw (⟨by congr 1; unfold szN; (repeat' split) <;> omega, rfl⟩)
                · refine k_bip C 8 dX8_degree_84 (by decide) ?_
                  refine lv_goto (tgt := 115) C.1 C.2.1 dX8_degree_86 (by decide) ?_
                  exact hret H locs ls _ _ _ dX8_degree_115 hw (⟨by congr 1; unfold szN; (repeat' split) <;> omega, rfl⟩)
              · refine k_bip C 7 dX8_degree_72 (by decide) ?_
                refine lv_goto (tgt := 115) C.1 C.2.1 dX8_degree_74 (by decide) ?_
                exact hret H locs ls _ _ _ dX8_degree_115 hw (⟨by congr 1; unfold szN; (repeat' split) <;> omega, rfl⟩)
            · refine k_bip C 6 dX8_degree_60 (by decide) ?_
              refine lv_goto (tgt := 115) C.1 C.2.1 dX8_degree_62 (by decide) ?_
              exact hret H locs ls _ _ _ dX8_degree_115 hw (⟨by congr 1; unfold szN; (repeat' split) <;> omega, rfl⟩)
          · refine k_icn C 5 dX8_degree_49 (by decide) ?_
            refine lv_goto (tgt := 115) C.1 C.2.1 dX8_degree_50 (by decide) ?_
            exact hret H locs ls _ _ _ dX8_degree_115 hw (⟨by congr 1; unfold szN; (repeat' split) <;> omega, rfl⟩)
        · refine k_icn C 4 dX8_degree_38 (by decide) ?_
          refine lv_goto (tgt := 115) C.1 C.2.1 dX8_degree_39 (by decide) ?_
          exact hret H locs ls _ _ _ dX8_degree_115 hw (⟨by congr 1; unfold szN; (repeat' split) <;> omega, rfl⟩)
      · refine k_icn C 3 dX8_degree_27 (by decide) ?_
        refine lv_goto (tgt := 115) C.1 C.2.1 dX8_degree_28 (by decide) ?_
        exact hret H locs ls _ _ _ dX8_degree_115 hw (⟨by congr 1; unfold szN; (repeat' split) <;> omega, rfl⟩)
    · refine k_icn C 2 dX8_degree_16 (by decide) ?_
      refine lv_goto (tgt := 115) C.1 C.2.1 dX8_degree_17 (by decide) ?_
      exact hret H locs ls _ _ _ dX8_degree_115 hw (⟨by congr 1; unfold szN; (repeat' split) <;> omega, rfl⟩)
  · refine k_icn C 1 dX8_degree_5 (by decide) ?_
    refine lv_goto (tgt := 115) C.1 C.2.1 dX8_degree_6 (by decide) ?_
    exact hret H locs ls _ _ _ dX8_degree_115 hw (⟨by congr 1; unfold szN; (repeat' split) <;> omega, rfl⟩)
