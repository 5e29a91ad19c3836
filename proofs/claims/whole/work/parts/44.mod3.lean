/-! ===== FountainDeskModel: isReduced, isAdded ===== -/
def prt (n : Nat) (V F : Nat → Nat) : Nat → Nat := fun c => if c < n then V c else F c
theorem prt_s (n : Nat) (V F : Nat → Nat) : va_up (prt n V F) n (V n) = prt (n + 1) V F := by
  funext c
  unfold prt
  by_cases hc : c = n
  · subst hc; rw [va_up_self, if_pos (by omega)]
  · rw [va_up_ne _ _ hc]
    by_cases h : c < n
    · rw [if_pos h, if_pos (by omega)]
    · rw [if_neg h, if_neg (by omega)]
theorem prt_0 (V F : Nat → Nat) : prt 0 V F = F := funext (fun c => if_neg (Nat.not_lt_zero _))
theorem prt_ge {n c : Nat} (V F : Nat → Nat) (h : n ≤ c) : prt n V F c = F c := if_neg (by omega)
theorem onRow_prt (V F : Nat → Nat) : onRow V F = prt 75 V F := rfl
/-- the model's cells, row by row -/
def fl (M : Nat → Nat → Nat) : Nat → Nat := fun j => M (j / 75) (j % 75)
theorem fl_at {M : Nat → Nat → Nat} {r c : Nat} (h : c < 75) : fl M (75 * r + c) = M r c := by
  unfold fl
  rw [show (75 * r + c) / 75 = r by omega, show (75 * r + c) % 75 = c by omega]
theorem fl_up {M : Nat → Nat → Nat} {r c x : Nat} (h : c < 75) : va_up (fl M) (75 * r + c) x = fl (va_up M r (va_up (M r) c x)) := by
  funext j
  unfold fl
  by_cases hj : j = 75 * r + c
  · rw [hj, va_up_self, show (75 * r + c) / 75 = r by omega, show (75 * r + c) % 75 = c by omega, va_up_self, va_up_self]
  · rw [va_up_ne _ _ hj]
    by_cases hr : j / 75 = r
    · rw [hr, va_up_self, va_up_ne _ _ (by omega)]
    · rw [va_up_ne _ _ hr]
theorem up_up {α : Type} (M : Nat → α) (r : Nat) (a b : α) : va_up (va_up M r a) r b = va_up M r b := by
  funext j
  by_cases h : j = r
  · rw [h, va_up_self, va_up_self]
  · rw [va_up_ne _ _ h, va_up_ne _ _ h, va_up_ne _ _ h]
theorem up_id {α : Type} (M : Nat → α) (r : Nat) : va_up M r (M r) = M := by
  funext j
  by_cases h : j = r
  · rw [h, va_up_self]
  · rw [va_up_ne _ _ h]
def rdV (M : Nat → Nat → Nat) (r f : Nat) (ro : Nat → Nat) : Nat → Nat := fun c => ro c ^^^ mt f (M r c)
def mRedS (M : Nat → Nat → Nat) (pv : Nat → Nat) (r : Nat) (ro : Nat → Nat) : Nat → Nat := if ro (pv r) = 0 then ro else prt 75 (rdV M r (ro (pv r)) ro) ro
def mRed (rw : Nat) (M : Nat → Nat → Nat) (pv ro : Nat → Nat) : Nat → Nat := fr (mRedS M pv) rw ro
theorem mRed_s (n : Nat) (M : Nat → Nat → Nat) (pv ro : Nat → Nat) : mRed (n + 1) M pv ro = mRedS M pv n (mRed n M pv ro) := rfl
theorem by_prt {n : Nat} {V F : Nat → Nat} (hV : ∀ c, c < n → V c < 256) (hF : By F) : By (prt n V F) := by
  intro j
  unfold prt
  split
  · exact hV j (by assumption)
  · exact hF j
theorem by_redS {M : Nat → Nat → Nat} {pv ro : Nat → Nat} {r : Nat} (hro : By ro) : By (mRedS M pv r ro) := by
  unfold mRedS
  split
  · exact hro
  · exact by_prt (fun c _ => xlt (hro c) (mt_lt (hro _))) hro
theorem by_mred {M : Nat → Nat → Nat} {pv ro : Nat → Nat} (hro : By ro) : ∀ n, By (mRed n M pv ro)
  | 0 => hro
  | n + 1 => by_redS (by_mred hro n)
def zT (F : Nat → Nat) (n : Nat) : Bool := decide (∀ c, c < n → F c = 0)
theorem zT_t {F : Nat → Nat} {i : Nat} (h : zT F i = true) (h1 : F i = 0) : (1 : Int32) = bI (zT F (i + 1)) := by
  have : zT F (i + 1) = true := by
    unfold zT at h ⊢
    rw [decide_eq_true_iff] at h ⊢
    intro d h2
    by_cases h4 : d = i
    · subst h4; exact h1
    · exact h d (by omega)
  rw [this]
  rfl
theorem zT_f1 {F : Nat → Nat} {i : Nat} (h : zT F i = false) : (0 : Int32) = bI (zT F (i + 1)) := by
  have : zT F (i + 1) = false := by
    unfold zT at h ⊢
    rw [decide_eq_false_iff_not] at h ⊢
    exact fun h1 => h (fun d h2 => h1 d (by omega))
  rw [this]
  rfl
theorem zT_f2 {F : Nat → Nat} {i : Nat} (h : F i ≠ 0) : (0 : Int32) = bI (zT F (i + 1)) := by
  have : zT F (i + 1) = false := by
    unfold zT
    rw [decide_eq_false_iff_not]
    exact fun h1 => h (h1 i (by omega))
  rw [this]
  rfl
theorem zT_0 (F : Nat → Nat) : zT F 0 = true := by unfold zT; rw [decide_eq_true_iff]; intro d h1; omega
theorem zT_ok {F : Nat → Nat} {n : Nat} (h : zT F n = true) : ∀ c, c < n → F c = 0 := of_decide_eq_true h
theorem zT_no {F : Nat → Nat} {n : Nat} (h : zT F n = false) : ∃ c, c < n ∧ F c ≠ 0 := by
  have h1 : ¬ ∀ c, c < n → F c = 0 := of_decide_eq_false h
  refine Classical.byContradiction (fun h2 => h1 (fun c hc => Classical.byContradiction (fun h3 => h2 ⟨c, hc, h3⟩)))

abbrev rm_X8_isReduced : Room := { frames := 1, cells := 0, slots := 0, locals := 24 }

set_option maxHeartbeats 800000 in
set_option maxRecDepth 100000 in
/-- isReduced -/
theorem c_X8_isReduced {l : Launch} {D : va_G} {ca : Nat → ClassId} {tB tS R : Nat} {ad : Nat → Nat} {g : Nat → va_E} {sz : Nat} (hR : 207 < R) (cd : Int32) (ln bk bt ck ct cn pk rw : Nat) (gt : Bool) (eM : g 198 = .inr (8, [.int (cd), .ref (ad 199), .int (nI ln), .ref (ad 200), .int (nI bk), .int (nI bt), .ref (ad 201), .int (nI ck), .int (nI ct), .ref (ad 202), .int (nI cn), .int (nI pk), .ref (ad 203), .ref (ad 204), .int (nI rw), .ref (ad 205), .ref (ad 206), .int (bI (gt)), .ref (ad 207)])) (ro : Nat → Nat) (q205 : g 205 = na ca 75 ro) (M : Nat → Nat → Nat) (pv : Nat → Nat) (q203 : g 203 = na ca 9000 (fl M)) (q204 : g 204 = na ca 120 pv) (hM : ∀ r, By (M r)) (hro : By ro) (hpv : ∀ r, pv r < 75) (hrw : rw ≤ 120) (L : Nat) (hL : L ≤ 59) : MI l yX8_isReduced cX8_isReduced 5 .boolean rm_X8_isReduced D ca tB tS R ad g sz [.ref (ad 198), .int (nI L)] (fun r g1 => r = bI (zT (mRed rw M pv ro) L) ∧ (∀ z, z ≠ 205 → g1 z = g z) ∧ g1 205 = na ca 75 (mRed rw M pv ro)) := by
  refine m_startZ (by decide +kernel) (Nat.le_of_ble_eq_true rfl) (fun p e s m args below meth c ls Q hsz C hl F hw hret => ?_)
  have hl : lv_has ls 5 [(0, .ref (ad 198)), (1, .int (nI L))] := hl
  generalize s.heap = H at hw ⊢
  generalize ([] : List Loc) = locs at hw ⊢
  refine k_icn C 0 dX8_isReduced_0 (by decide) ?_
  refine lv_istore_n (lv' := [(2, .int (nI 0)), (0, .ref (ad 198)), (1, .int (nI L))]) C.1 C.2.1 dX8_isReduced_1 rfl hl (by decide) rfl (fun ls hl => ?_)
  have loop2 : ∀ (fuel : Nat) (i : Nat) (f1 : Nat → Nat) (gL : Nat → va_E) (H : Heap) (locs : List Loc) (ls : Array Slot), ((rw - i) + 1 ≤ fuel) → (i ≤ rw) → (f1 = mRed i M pv ro) → (∀ z, z ≠ 205 → gL z = g z) → (gL (205) = na ca 75 (f1)) → Wd D (AA R ad sz) s R ad gL H locs → lv_has ls 5 [(0, .ref (ad 198)), (1, .int (nI L)), (2, .int (nI i))] → W p l e rm_X8_isReduced s m args below meth c H locs 0 0 Q (F0 m 2 ls []) := by
    intro fuel
    induction fuel with
    | zero =>
      intro i f1 gL H locs ls hfu2
      exact absurd hfu2 (by omega)
    | succ fuel2 ih2 =>
      intro i f1 gL H locs ls hfu2 hi hf1 hsL2 eL2_0 hw hl
      have e1 : gL (198) = .inr (8, [.int (cd), .ref (ad 199), .int (nI ln), .ref (ad 200), .int (nI bk), .int (nI bt), .ref (ad 201), .int (nI ck), .int (nI ct), .ref (ad 202), .int (nI cn), .int (nI pk), .ref (ad 203), .ref (ad 204), .int (nI rw), .ref (ad 205), .ref (ad 206), .int (bI (gt)), .ref (ad 207)]) := (hsL2 _ (by omega)).trans eM
      have e2 : gL (203) = na ca 9000 (fl M) := (hsL2 _ (by omega)).trans q203
      have e3 : gL (204) = na ca 120 (pv) := (hsL2 _ (by omega)).trans q204
      refine lv_iload_n C.1 C.2.1 dX8_isReduced_2 rfl (lv_at hl 2 rfl) ?_
      refine lv_aload_n C.1 C.2.1 dX8_isReduced_3 rfl (lv_at hl 0 rfl) ?_
      refine k_get C F hw (198) (by omega) e1 rfl in_X8 14 (by decide) fl_X8_74 rfl dX8_isReduced_4 ?_
      refine k_ige (tgt := 74) C dX8_isReduced_7 (by decide) (by omega) (by omega) (fun hc7 => ?_) (fun hc7 => ?_)
      · have hF : f1 = mRed rw M pv ro := by rw [hf1, show i = rw by omega]
        have hby1 : By f1 := by rw [hf1]; exact by_mred hro i
        refine k_icn C 1 dX8_isReduced_74 (by decide) ?_
        refine k_ti (x' := bI (zT f1 0)) (by rw [zT_0]; rfl) ?_
        refine lv_istore_n (lv' := [(2, .int (bI (zT f1 0))), (0, .ref (ad 198)), (1, .int (nI L))]) C.1 C.2.1 dX8_isReduced_75 rfl hl (by decide) rfl (fun ls hl => ?_)
        refine k_icn C 0 dX8_isReduced_76 (by decide) ?_
        refine lv_istore_n (lv' := [(3, .int (nI 0)), (2, .int (bI (zT f1 0))), (0, .ref (ad 198)), (1, .int (nI L))]) C.1 C.2.1 dX8_isReduced_77 rfl hl (by decide) rfl (fun ls hl => ?_)
        have loop78 : ∀ (fuel : Nat) (j : Nat) (gL : Nat → va_E) (H : Heap) (locs : List Loc) (ls : Array Slot), ((L - j) + 1 ≤ fuel) → (j ≤ L) → (∀ z, z ≠ 205 → gL z = g z) → (gL (205) = na ca 75 (f1)) → Wd D (AA R ad sz) s R ad gL H locs → lv_has ls 5 [(0, .ref (ad 198)), (1, .int (nI L)), (2, .int (bI (zT f1 j))), (3, .int (nI j))] → W p l e rm_X8_isReduced s m args below meth c H locs 0 0 Q (F0 m 78 ls []) := by
          intro fuel
          induction fuel with
          | zero =>
            intro j gL H locs ls hfu78
            exact absurd hfu78 (by omega)
          | succ fuel78 ih78 =>
            intro j gL H locs ls hfu78 hj hsL78 eL78_0 hw hl
            have e4 : gL (198) = .inr (8, [.int (cd), .ref (ad 199), .int (nI ln), .ref (ad 200), .int (nI bk), .int (nI bt), .ref (ad 201), .int (nI ck), .int (nI ct), .ref (ad 202), .int (nI cn), .int (nI pk), .ref (ad 203), .ref (ad 204), .int (nI rw), .ref (ad 205), .ref (ad 206), .int (bI (gt)), .ref (ad 207)]) := (hsL78 _ (by omega)).trans eM
            have e5 : gL (203) = na ca 9000 (fl M) := (hsL78 _ (by omega)).trans q203
            have e6 : gL (204) = na ca 120 (pv) := (hsL78 _ (by omega)).trans q204
            refine lv_iload_n C.1 C.2.1 dX8_isReduced_78 rfl (lv_at hl 3 rfl) ?_
            refine lv_iload_n C.1 C.2.1 dX8_isReduced_79 rfl (lv_at hl 1 rfl) ?_
            refine k_ige (tgt := 108) C dX8_isReduced_80 (by decide) (by omega) (by omega) (fun hc80 => ?_) (fun hc80 => ?_)
            · refine lv_iload_n C.1 C.2.1 dX8_isReduced_108 rfl (lv_at hl 2 rfl) ?_
              exact hret H locs ls _ (zT f1 j) _ _ dX8_isReduced_109 hw (by rfl) (⟨by rw [← hF, show j = L by omega], hsL78, by rw [eL78_0, hF]⟩)
            · refine lv_iload_n C.1 C.2.1 dX8_isReduced_83 rfl (lv_at hl 2 rfl) ?_
              refine k_beq (tgt := 100) C dX8_isReduced_84 (by decide) (fun hc84 => ?_) (fun hc84 => ?_)
              · refine k_icn C 0 dX8_isReduced_100 (by decide) ?_
                refine k_ti (x' := bI (zT f1 (j + 1))) (zT_f1 hc84) ?_
                refine lv_istore_n (lv' := [(2, .int (bI (zT f1 (j + 1)))), (0, .ref (ad 198)), (1, .int (nI L)), (3, .int (nI j))]) C.1 C.2.1 dX8_isReduced_101 rfl hl (by decide) rfl (fun ls hl => ?_)
                refine k_inc C (j + 1) (lv' := [(3, .int (nI (j + 1))), (2, .int (bI (zT f1 (j + 1)))), (0, .ref (ad 198)), (1, .int (nI L))]) dX8_isReduced_102 hl (k := 3) rfl (inc1 _) (by decide) rfl (fun ls hl => ?_)
                refine lv_goto (tgt := 78) C.1 C.2.1 dX8_isReduced_105 (by decide) ?_
                exact ih78 (j + 1) gL H locs ls (by omega) (by omega) hsL78 eL78_0 hw (lv_sub hl [2, 3, 1, 0] rfl)
              · refine lv_aload_n C.1 C.2.1 dX8_isReduced_87 rfl (lv_at hl 0 rfl) ?_
                refine k_get C F hw (198) (by omega) e4 rfl in_X8 15 (by decide) fl_X8_29 rfl dX8_isReduced_88 ?_
                refine lv_iload_n C.1 C.2.1 dX8_isReduced_91 rfl (lv_at hl 3 rfl) ?_
                refine k_iald C F hw (205) (by omega) eL78_0 (j) (by omega) (by decide) dX8_isReduced_92 ?_
                have hfj := hby1 j
                refine k_zne (tgt := 100) C dX8_isReduced_93 (by decide) (by omega) (fun hc93 => ?_) (fun hc93 => ?_)
                · refine k_icn C 0 dX8_isReduced_100 (by decide) ?_
                  refine k_ti (x' := bI (zT f1 (j + 1))) (zT_f2 hc93) ?_
                  refine lv_istore_n (lv' := [(2, .int (bI (zT f1 (j + 1)))), (0, .ref (ad 198)), (1, .int (nI L)), (3, .int (nI j))]) C.1 C.2.1 dX8_isReduced_101 rfl hl (by decide) rfl (fun ls hl => ?_)
                  refine k_inc C (j + 1) (lv' := [(3, .int (nI (j + 1))), (2, .int (bI (zT f1 (j + 1)))), (0, .ref (ad 198)), (1, .int (nI L))]) dX8_isReduced_102 hl (k := 3) rfl (inc1 _) (by decide) rfl (fun ls hl => ?_)
                  refine lv_goto (tgt := 78) C.1 C.2.1 dX8_isReduced_105 (by decide) ?_
                  exact ih78 (j + 1) gL H locs ls (by omega) (by omega) hsL78 eL78_0 hw (lv_sub hl [2, 3, 1, 0] rfl)
                · refine k_icn C 1 dX8_isReduced_96 (by decide) ?_
                  refine lv_goto (tgt := 101) C.1 C.2.1 dX8_isReduced_97 (by decide) ?_
                  refine k_ti (x' := bI (zT f1 (j + 1))) (zT_t hc84 hc93) ?_
                  refine lv_istore_n (lv' := [(2, .int (bI (zT f1 (j + 1)))), (0, .ref (ad 198)), (1, .int (nI L)), (3, .int (nI j))]) C.1 C.2.1 dX8_isReduced_101 rfl hl (by decide) rfl (fun ls hl => ?_)
                  refine k_inc C (j + 1) (lv' := [(3, .int (nI (j + 1))), (2, .int (bI (zT f1 (j + 1)))), (0, .ref (ad 198)), (1, .int (nI L))]) dX8_isReduced_102 hl (k := 3) rfl (inc1 _) (by decide) rfl (fun ls hl => ?_)
                  refine lv_goto (tgt := 78) C.1 C.2.1 dX8_isReduced_105 (by decide) ?_
                  exact ih78 (j + 1) gL H locs ls (by omega) (by omega) hsL78 eL78_0 hw (lv_sub hl [2, 3, 1, 0] rfl)
        exact loop78 _ 0 gL H locs ls (Nat.le_refl _) (by omega) hsL2 eL2_0 hw (lv_sub hl [2, 3, 1, 0] rfl)
      · have hby1 : By f1 := by rw [hf1]; exact by_mred hro i
        have hp1 := hpv i
        have hfi := hby1 (pv i)
        refine lv_aload_n C.1 C.2.1 dX8_isReduced_10 rfl (lv_at hl 0 rfl) ?_
        refine k_get C F hw (198) (by omega) e1 rfl in_X8 15 (by decide) fl_X8_29 rfl dX8_isReduced_11 ?_
        refine lv_aload_n C.1 C.2.1 dX8_isReduced_14 rfl (lv_at hl 0 rfl) ?_
        refine k_get C F hw (198) (by omega) e1 rfl in_X8 13 (by decide) fl_X8_26 rfl dX8_isReduced_15 ?_
        refine lv_iload_n C.1 C.2.1 dX8_isReduced_18 rfl (lv_at hl 2 rfl) ?_
        refine k_iald C F hw (204) (by omega) e3 (i) (by omega) (by decide) dX8_isReduced_19 ?_
        refine k_iald C F hw (205) (by omega) eL2_0 (pv i) (by omega) (by decide) dX8_isReduced_20 ?_
        refine lv_istore_n (lv' := [(3, .int (nI (f1 (pv i)))), (0, .ref (ad 198)), (1, .int (nI L)), (2, .int (nI i))]) C.1 C.2.1 dX8_isReduced_21 rfl hl (by decide) rfl (fun ls hl => ?_)
        refine k_icn C 0 dX8_isReduced_22 (by decide) ?_
        refine lv_istore (lv' := [(4, .int (nI 0)), (3, .int (nI (f1 (pv i)))), (0, .ref (ad 198)), (1, .int (nI L)), (2, .int (nI i))]) C.1 C.2.1 dX8_isReduced_23 hl (by decide) rfl (fun ls hl => ?_)
        have loop25 : ∀ (fuel : Nat) (j : Nat) (f2 : Nat → Nat) (gL : Nat → va_E) (H : Heap) (locs : List Loc) (ls : Array Slot), ((75 - j) + 1 ≤ fuel) → (j ≤ 75) → (j = 0 ∨ f1 (pv i) ≠ 0) → (f2 = prt j (rdV M i (f1 (pv i)) f1) f1) → (∀ z, z ≠ 205 → gL z = g z) → (gL (205) = na ca 75 (f2)) → Wd D (AA R ad sz) s R ad gL H locs → lv_has ls 5 [(0, .ref (ad 198)), (1, .int (nI L)), (2, .int (nI i)), (3, .int (nI (f1 (pv i)))), (4, .int (nI j))] → W p l e rm_X8_isReduced s m args below meth c H locs 0 0 Q (F0 m 25 ls []) := by
          intro fuel
          induction fuel with
          | zero =>
            intro j f2 gL H locs ls hfu25
            exact absurd hfu25 (by omega)
          | succ fuel25 ih25 =>
            intro j f2 gL H locs ls hfu25 hj hj0 hf2 hsL25 eL25_0 hw hl
            have e7 : gL (198) = .inr (8, [.int (cd), .ref (ad 199), .int (nI ln), .ref (ad 200), .int (nI bk), .int (nI bt), .ref (ad 201), .int (nI ck), .int (nI ct), .ref (ad 202), .int (nI cn), .int (nI pk), .ref (ad 203), .ref (ad 204), .int (nI rw), .ref (ad 205), .ref (ad 206), .int (bI (gt)), .ref (ad 207)]) := (hsL25 _ (by omega)).trans eM
            have e8 : gL (203) = na ca 9000 (fl M) := (hsL25 _ (by omega)).trans q203
            have e9 : gL (204) = na ca 120 (pv) := (hsL25 _ (by omega)).trans q204
            refine lv_iload C.1 C.2.1 dX8_isReduced_25 (lv_at hl 4 rfl) ?_
            refine k_bip C 75 dX8_isReduced_27 (by decide) ?_
            refine k_ige (tgt := 68) C dX8_isReduced_29 (by decide) (by omega) (by omega) (fun hc29 => ?_) (fun hc29 => ?_)
            · refine k_inc C (i + 1) (lv' := [(2, .int (nI (i + 1))), (0, .ref (ad 198)), (1, .int (nI L)), (3, .int (nI (f1 (pv i)))), (4, .int (nI j))]) dX8_isReduced_68 hl (k := 2) rfl (inc1 _) (by decide) rfl (fun ls hl => ?_)
              refine lv_goto (tgt := 2) C.1 C.2.1 dX8_isReduced_71 (by decide) ?_
              exact ih2 (i + 1) f2 gL H locs ls (by omega) (by omega) (by rw [hf2, mRed_s, ← hf1]; unfold mRedS; rw [if_neg (by omega), show j = 75 by omega]) hsL25 eL25_0 hw (lv_sub hl [1, 2, 0] rfl)
            · refine lv_iload_n C.1 C.2.1 dX8_isReduced_32 rfl (lv_at hl 3 rfl) ?_
              refine k_zeq (tgt := 68) C dX8_isReduced_33 (by decide) (by omega) (fun hc33 => ?_) (fun hc33 => ?_)
              · refine k_inc C (i + 1) (lv' := [(2, .int (nI (i + 1))), (0, .ref (ad 198)), (1, .int (nI L)), (3, .int (nI (f1 (pv i)))), (4, .int (nI j))]) dX8_isReduced_68 hl (k := 2) rfl (inc1 _) (by decide) rfl (fun ls hl => ?_)
                refine lv_goto (tgt := 2) C.1 C.2.1 dX8_isReduced_71 (by decide) ?_
                exact ih2 (i + 1) f2 gL H locs ls (by omega) (by omega) (by rw [hf2, mRed_s, ← hf1]; unfold mRedS; rw [if_pos (by omega), show j = 0 by omega, prt_0]) hsL25 eL25_0 hw (lv_sub hl [1, 2, 0] rfl)
              · refine lv_aload_n C.1 C.2.1 dX8_isReduced_36 rfl (lv_at hl 0 rfl) ?_
                refine k_get C F hw (198) (by omega) e7 rfl in_X8 15 (by decide) fl_X8_29 rfl dX8_isReduced_37 ?_
                refine lv_iload C.1 C.2.1 dX8_isReduced_40 (lv_at hl 4 rfl) ?_
                refine lv_dup2_11 C.1 C.2.1 dX8_isReduced_42 rfl rfl ?_
                refine k_iald C F hw (205) (by omega) eL25_0 (j) (by omega) (by decide) dX8_isReduced_43 ?_
                refine lv_iload_n C.1 C.2.1 dX8_isReduced_44 rfl (lv_at hl 3 rfl) ?_
                refine lv_aload_n C.1 C.2.1 dX8_isReduced_45 rfl (lv_at hl 0 rfl) ?_
                refine k_get C F hw (198) (by omega) e7 rfl in_X8 12 (by decide) fl_X8_23 rfl dX8_isReduced_46 ?_
                refine k_bip C 75 dX8_isReduced_49 (by decide) ?_
                refine lv_iload_n C.1 C.2.1 dX8_isReduced_51 rfl (lv_at hl 2 rfl) ?_
                refine k_mul C dX8_isReduced_52 ?_
                refine lv_iload C.1 C.2.1 dX8_isReduced_53 (lv_at hl 4 rfl) ?_
                refine k_add C dX8_isReduced_55 ?_
                refine k_iald C F hw (203) (by omega) e8 ((75 * i) + j) (by omega) (by decide) dX8_isReduced_56 ?_
                refine k_ti (x' := nI (M i j)) (by rw [fl_at (by omega)]) ?_
                refine k_Si C F hw (As := [.int (nI (f1 (pv i))), .int (nI (M i j))]) (rest := [.int (nI (f2 j)), .int (nI j), .ref (ad 205)]) (c_X8_times (f1 (pv i)) (M i j) hfi (hM i j)) (va_cwS _ C.2.2.2.2 gm_X8_38 rfl rfl rfl cd_X8_times.2 ⟨by decide, by decide⟩) hl.1 rfl (Nat.le_of_ble_eq_true rfl) dX8_isReduced_57 ⟨by decide, by decide⟩ (fun r10 g11 H locs hp hw => ?_)
                obtain ⟨hr9, hg9⟩ := hp
                rw [hg9] at hw
                subst hr9
                refine k_xor C dX8_isReduced_60 ?_
                refine k_iast C F hw (205) (by omega) eL25_0 (j) ((f2 j) ^^^ (mt (f1 (pv i)) (M i j))) (by omega) (by decide) dX8_isReduced_61 (fun H locs hw => ?_)
                have hw : Wd D (AA R ad sz) s R ad (va_up gL (205) (na ca 75 (va_up f2 j ((f2 j) ^^^ (mt (f1 (pv i)) (M i j)))))) H locs := hw
                obtain ⟨g12, hg12⟩ : ∃ z, z = va_up gL (205) (na ca 75 (va_up f2 j ((f2 j) ^^^ (mt (f1 (pv i)) (M i j))))) := ⟨_, rfl⟩
                rw [← hg12] at hw
                have hk13 : ∀ z, z ≠ 205 → g12 z = gL z := fun z hz => by rw [hg12]; exact va_up_ne _ _ hz
                have e14 : g12 (205) = na ca 75 (va_up f2 j ((f2 j) ^^^ (mt (f1 (pv i)) (M i j)))) := by rw [hg12]; exact va_up_self _ _ _
                have e15 : g12 (198) = .inr (8, [.int (cd), .ref (ad 199), .int (nI ln), .ref (ad 200), .int (nI bk), .int (nI bt), .ref (ad 201), .int (nI ck), .int (nI ct), .ref (ad 202), .int (nI cn), .int (nI pk), .ref (ad 203), .ref (ad 204), .int (nI rw), .ref (ad 205), .ref (ad 206), .int (bI (gt)), .ref (ad 207)]) := (hk13 _ (by omega)).trans e7
                have e16 : g12 (203) = na ca 9000 (fl M) := (hk13 _ (by omega)).trans e8
                have e17 : g12 (204) = na ca 120 (pv) := (hk13 _ (by omega)).trans e9
                have hs18 : ∀ z, z ≠ 205 → g12 z = g z := fun z hz => (hk13 z (by omega)).trans (hsL25 z hz)
                refine k_inc C (j + 1) (lv' := [(4, .int (nI (j + 1))), (0, .ref (ad 198)), (1, .int (nI L)), (2, .int (nI i)), (3, .int (nI (f1 (pv i))))]) dX8_isReduced_62 hl (k := 4) rfl (inc1 _) (by decide) rfl (fun ls hl => ?_)
                refine lv_goto (tgt := 25) C.1 C.2.1 dX8_isReduced_65 (by decide) ?_
                exact ih25 (j + 1) (va_up f2 j ((f2 j) ^^^ (mt (f1 (pv i)) (M i j)))) g12 H locs ls (by omega) (by omega) (Or.inr hc33) (by rw [show f2 j = f1 j from by rw [hf2]; exact prt_ge _ _ (Nat.le_refl _), hf2]; exact prt_s j (rdV M i (f1 (pv i)) f1) f1) hs18 e14 hw (lv_sub hl [1, 2, 3, 4, 0] rfl)
        exact loop25 _ 0 f1 gL H locs ls (Nat.le_refl _) (by omega) (Or.inl rfl) ((prt_0 _ _).symm) hsL2 eL2_0 hw (lv_sub hl [2, 3, 4, 1, 0] rfl)
  exact loop2 _ 0 ro g H locs ls (Nat.le_refl _) (by omega) rfl (fun z _ => rfl) q205 hw (lv_sub hl [1, 2, 0] rfl)

def fstF (F : Nat → Nat) : Nat → Nat → Nat
  | 0, c => c
  | n + 1, c => if F c ≠ 0 then c else fstF F n (c + 1)
/-- the first place that is not 0 -/
def fst0 (F : Nat → Nat) (n : Nat) : Nat := fstF F n 0
theorem fstF_eq {F : Nat → Nat} {q : Nat} (h1 : F q ≠ 0) (h2 : ∀ c, c < q → F c = 0) : ∀ n c, c ≤ q → q < c + n → fstF F n c = q
  | 0, c, h3, h4 => absurd h4 (by omega)
  | n + 1, c, h3, h4 => by
    unfold fstF
    by_cases hc : c = q
    · subst hc; rw [if_pos h1]
    · rw [if_neg (fun h => h (h2 c (by omega)))]
      exact fstF_eq h1 h2 n (c + 1) (by omega) (by omega)
theorem fst0_eq {F : Nat → Nat} {q n : Nat} (h1 : F q ≠ 0) (h2 : ∀ c, c < q → F c = 0) (h : q < n) : fst0 F n = q := fstF_eq h1 h2 n 0 (Nat.zero_le _) (by omega)
theorem fst0_ex {F : Nat → Nat} {n : Nat} (h : ∃ c, c < n ∧ F c ≠ 0) : ∃ q, q < n ∧ F q ≠ 0 ∧ (∀ c, c < q → F c = 0) := by
  obtain ⟨c, h1, h2⟩ := h
  induction c using Nat.strongRecOn with
  | ind c ih =>
    by_cases h3 : ∃ d, d < c ∧ F d ≠ 0
    · obtain ⟨d, h4, h5⟩ := h3; exact ih d h4 (by omega) h5
    · exact ⟨c, h1, h2, fun d hd => Classical.byContradiction (fun h => h3 ⟨d, hd, h⟩)⟩
abbrev MS : Type := Nat × (Nat → Nat → Nat) × (Nat → Nat) × (Nat → Nat)
def elV (M : Nat → Nat → Nat) (i f n : Nat) : Nat → Nat := fun c => M i c ^^^ mt f (M n c)
def mElS (q n i : Nat) (M : Nat → Nat → Nat) : Nat → Nat → Nat := if M i q = 0 then M else va_up M i (prt 75 (elV M i (M i q) n) (M i))
def mElM (q n : Nat) (M : Nat → Nat → Nat) : Nat → Nat → Nat := fr (mElS q n) n M
def scV (f : Nat) (ro : Nat → Nat) : Nat → Nat := fun c => mt f (ro c)
def mK (q n : Nat) (ro : Nat → Nat) (M : Nat → Nat → Nat) : Nat → Nat → Nat := va_up M n (prt 75 (scV (mInv (ro q)) ro) (M n))
def msR (s : MS) : Nat → Nat := mRed s.1 s.2.1 s.2.2.1 s.2.2.2
theorem mAd_ex : ∃ f : Nat → MS → MS × Bool, ∀ L s, f L s = if zT (msR s) L = true then ((s.1, s.2.1, s.2.2.1, msR s), false) else ((s.1 + 1, mElM (fst0 (msR s) L) s.1 (mK (fst0 (msR s) L) s.1 (msR s) s.2.1), va_up s.2.2.1 s.1 (fst0 (msR s) L), msR s), true) := ⟨_, fun _ _ => rfl⟩
noncomputable def mAdd : Nat → MS → MS × Bool := Classical.choose mAd_ex
theorem mAdd_0 {L : Nat} {s : MS} (h : zT (msR s) L = true) : mAdd L s = ((s.1, s.2.1, s.2.2.1, msR s), false) := by
  have h1 := Classical.choose_spec mAd_ex L s
  rw [if_pos h] at h1
  exact h1
theorem mAdd_1 {L : Nat} {s : MS} (h : zT (msR s) L = false) : mAdd L s = ((s.1 + 1, mElM (fst0 (msR s) L) s.1 (mK (fst0 (msR s) L) s.1 (msR s) s.2.1), va_up s.2.2.1 s.1 (fst0 (msR s) L), msR s), true) := by
  have h1 := Classical.choose_spec mAd_ex L s
  rw [if_neg (by rw [h]; decide)] at h1
  exact h1
noncomputable def mAddS (L : Nat) (s : MS) : MS := (mAdd L s).1
noncomputable def mAddB (L : Nat) (s : MS) : Bool := (mAdd L s).2
def MBy (s : MS) : Prop := (∀ r, By (s.2.1 r)) ∧ By s.2.2.2 ∧ ∀ r, s.2.2.1 r < 75
theorem By2.up' {M : Nat → Nat → Nat} {i : Nat} {F : Nat → Nat} (h : ∀ p, By (M p)) (hF : By F) : ∀ p, By (va_up M i F p) := fun p => by
  by_cases hp : p = i
  · subst hp; rw [va_up_self]; exact hF
  · rw [va_up_ne _ _ hp]; exact h p
theorem by_elS {q n i : Nat} {M : Nat → Nat → Nat} (h : ∀ p, By (M p)) : ∀ p, By (mElS q n i M p) := by
  unfold mElS
  split
  · exact h
  · exact By2.up' h (by_prt (fun c _ => xlt (h i c) (mt_lt (h i q))) (h i))
theorem by_elM {q n : Nat} {M : Nat → Nat → Nat} (h : ∀ p, By (M p)) : ∀ k p, By (fr (mElS q n) k M p)
  | 0 => h
  | k + 1 => by_elS (by_elM h k)
theorem by_mK {q n : Nat} {ro : Nat → Nat} {M : Nat → Nat → Nat} (hro : By ro) (hq : ro q ≠ 0) (h : ∀ p, By (M p)) : ∀ p, By (mK q n ro M p) :=
  By2.up' h (by_prt (fun c _ => mt_lt (mInv_ok (hro q) hq).2.1) (h n))
theorem mAdd_by {L : Nat} {s : MS} (hL : L ≤ 59) (h : MBy s) : MBy (mAddS L s) := by
  unfold mAddS
  cases hz : zT (msR s) L with
  | true => rw [mAdd_0 hz]; exact ⟨h.1, by_mred h.2.1 _, h.2.2⟩
  | false =>
    rw [mAdd_1 hz]
    obtain ⟨q, h1, h2, h3⟩ := fst0_ex (zT_no hz)
    rw [fst0_eq h2 h3 h1]
    refine ⟨by_elM (by_mK (by_mred h.2.1 _) h2 h.1) _, by_mred h.2.1 _, fun r => ?_⟩
    by_cases hr : r = s.1
    · subst hr; show va_up _ _ _ _ < _; rw [va_up_self]; omega
    · show va_up _ _ _ _ < _; rw [va_up_ne _ _ hr]; exact h.2.2 r
theorem mAdd_rw (L : Nat) (s : MS) : (mAddS L s).1 ≤ s.1 + 1 := by
  unfold mAddS
  cases hz : zT (msR s) L with
  | true => rw [mAdd_0 hz]; exact Nat.le_succ _
  | false => rw [mAdd_1 hz]; exact Nat.le_refl _

abbrev rm_X8_isAdded : Room := { frames := 2, cells := 0, slots := 0, locals := 48 }

set_option maxHeartbeats 800000 in
set_option maxRecDepth 100000 in
/-- isAdded -/
theorem c_X8_isAdded {l : Launch} {D : va_G} {ca : Nat → ClassId} {tB tS R : Nat} {ad : Nat → Nat} {g : Nat → va_E} {sz : Nat} (hR : 207 < R) (cd : Int32) (ln bk bt ck ct cn pk rw : Nat) (gt : Bool) (eM : g 198 = .inr (8, [.int (cd), .ref (ad 199), .int (nI ln), .ref (ad 200), .int (nI bk), .int (nI bt), .ref (ad 201), .int (nI ck), .int (nI ct), .ref (ad 202), .int (nI cn), .int (nI pk), .ref (ad 203), .ref (ad 204), .int (nI rw), .ref (ad 205), .ref (ad 206), .int (bI (gt)), .ref (ad 207)])) (ro : Nat → Nat) (q205 : g 205 = na ca 75 ro) (M : Nat → Nat → Nat) (pv : Nat → Nat) (q203 : g 203 = na ca 9000 (fl M)) (q204 : g 204 = na ca 120 pv) (hM : ∀ r, By (M r)) (hro : By ro) (hpv : ∀ r, pv r < 75) (hrw : rw < 120) (L : Nat) (hL : L ≤ 59) : MI l yX8_isAdded cX8_isAdded 7 .boolean rm_X8_isAdded D ca tB tS R ad g sz [.ref (ad 198), .int (nI L)] (fun r g1 => r = bI (mAddB L (rw, M, pv, ro)) ∧ (∀ z, z ≠ 198 ∧ z ≠ 203 ∧ z ≠ 204 ∧ z ≠ 205 → g1 z = g z) ∧ g1 198 = .inr (8, [.int (cd), .ref (ad 199), .int (nI ln), .ref (ad 200), .int (nI bk), .int (nI bt), .ref (ad 201), .int (nI ck), .int (nI ct), .ref (ad 202), .int (nI cn), .int (nI pk), .ref (ad 203), .ref (ad 204), .int (nI ((mAddS L (rw, M, pv, ro)).1)), .ref (ad 205), .ref (ad 206), .int (bI (gt)), .ref (ad 207)]) ∧ g1 203 = na ca 9000 (fl (mAddS L (rw, M, pv, ro)).2.1) ∧ g1 204 = na ca 120 (mAddS L (rw, M, pv, ro)).2.2.1 ∧ g1 205 = na ca 75 (mAddS L (rw, M, pv, ro)).2.2.2) := by
  refine m_startZ (by decide +kernel) (Nat.le_of_ble_eq_true rfl) (fun p e s m args below meth c ls Q hsz C hl F hw hret => ?_)
  have hl : lv_has ls 7 [(0, .ref (ad 198)), (1, .int (nI L))] := hl
  generalize s.heap = H at hw ⊢
  generalize ([] : List Loc) = locs at hw ⊢
  refine lv_aload_n C.1 C.2.1 dX8_isAdded_0 rfl (lv_at hl 0 rfl) ?_
  refine lv_iload_n C.1 C.2.1 dX8_isAdded_1 rfl (lv_at hl 1 rfl) ?_
  refine k_Vi C F hw (i := 198) (As := [.int (nI L)]) (rest := []) (c_X8_isReduced hR cd ln bk bt ck ct cn pk rw gt eM ro q205 M pv q203 q204 hM hro hpv (by omega) L hL) (by omega) eM rfl (cwV _ C.2.2.2.2 gm_X8_77 rfl rfl rfl cd_X8_isReduced ⟨by decide, by decide⟩) hl.1 rfl (Nat.le_of_ble_eq_true rfl) dX8_isAdded_2 ⟨by decide, by decide⟩ (fun r1 g2 H locs hp hw => ?_)
  obtain ⟨hr9, hp⟩ := hp
  subst hr9
  obtain ⟨hk3, e4⟩ := hp
  have e5 : g2 (198) = .inr (8, [.int (cd), .ref (ad 199), .int (nI ln), .ref (ad 200), .int (nI bk), .int (nI bt), .ref (ad 201), .int (nI ck), .int (nI ct), .ref (ad 202), .int (nI cn), .int (nI pk), .ref (ad 203), .ref (ad 204), .int (nI rw), .ref (ad 205), .ref (ad 206), .int (bI (gt)), .ref (ad 207)]) := (hk3 _ (by omega)).trans eM
  have e6 : g2 (203) = na ca 9000 (fl M) := (hk3 _ (by omega)).trans q203
  have e7 : g2 (204) = na ca 120 (pv) := (hk3 _ (by omega)).trans q204
  have hs8 : ∀ z, z ≠ 198 ∧ z ≠ 203 ∧ z ≠ 204 ∧ z ≠ 205 → g2 z = g z := fun z hz => hk3 z (by omega)
  refine k_beq (tgt := 10) C dX8_isAdded_5 (by decide) (fun hc5 => ?_) (fun hc5 => ?_)
  · obtain ⟨Fv, hF⟩ : ∃ Fv, Fv = mRed rw M pv ro := ⟨_, rfl⟩
    have hz : zT Fv L = false := by rw [hF]; exact hc5
    have hF2 : msR (rw, M, pv, ro) = Fv := hF.symm
    have hbF : By Fv := by rw [hF]; exact by_mred hro rw
    have e9 : g2 (205) = na ca 75 (Fv) := by rw [e4, hF]
    obtain ⟨q0, hq1, hq2, hq3⟩ := fst0_ex (zT_no hz)
    refine k_icn C 0 dX8_isAdded_10 (by decide) ?_
    refine lv_istore_n (lv' := [(2, .int (nI 0)), (0, .ref (ad 198)), (1, .int (nI L))]) C.1 C.2.1 dX8_isAdded_11 rfl hl (by decide) rfl (fun ls hl => ?_)
    have loop12 : ∀ (fuel : Nat) (q : Nat) (gL : Nat → va_E) (H : Heap) (locs : List Loc) (ls : Array Slot), ((q0 - q) + 1 ≤ fuel) → (q ≤ q0) → (∀ z, z ≠ 198 ∧ z ≠ 203 ∧ z ≠ 204 ∧ z ≠ 205 → gL z = g z) → (gL (205) = na ca 75 (Fv)) → (gL (203) = na ca 9000 (fl M)) → (gL (204) = na ca 120 (pv)) → (gL (198) = .inr (8, [.int (cd), .ref (ad 199), .int (nI ln), .ref (ad 200), .int (nI bk), .int (nI bt), .ref (ad 201), .int (nI ck), .int (nI ct), .ref (ad 202), .int (nI cn), .int (nI pk), .ref (ad 203), .ref (ad 204), .int (nI rw), .ref (ad 205), .ref (ad 206), .int (bI (gt)), .ref (ad 207)])) → Wd D (AA R ad sz) s R ad gL H locs → lv_has ls 7 [(0, .ref (ad 198)), (1, .int (nI L)), (2, .int (nI q))] → W p l e rm_X8_isAdded s m args below meth c H locs 0 0 Q (F0 m 12 ls []) := by
      intro fuel
      induction fuel with
      | zero =>
        intro q gL H locs ls hfu12
        exact absurd hfu12 (by omega)
      | succ fuel12 ih12 =>
        intro q gL H locs ls hfu12 hq hsL12 eL12_0 eL12_1 eL12_2 eL12_3 hw hl
        refine lv_aload_n C.1 C.2.1 dX8_isAdded_12 rfl (lv_at hl 0 rfl) ?_
        refine k_get C F hw (198) (by omega) eL12_3 rfl in_X8 15 (by decide) fl_X8_29 rfl dX8_isAdded_13 ?_
        refine lv_iload_n C.1 C.2.1 dX8_isAdded_16 rfl (lv_at hl 2 rfl) ?_
        refine k_iald C F hw (205) (by omega) eL12_0 (q) (by omega) (by decide) dX8_isAdded_17 ?_
        have hFq := hbF q
        refine k_zne (tgt := 27) C dX8_isAdded_18 (by decide) (by omega) (fun hc18 => ?_) (fun hc18 => ?_)
        · have hqq : q = q0 := by rcases Nat.lt_or_ge q q0 with h | h; (exact absurd (hq3 q h) hc18); omega
          subst hqq
          have hI := mInv_ok hFq hc18
          refine lv_aload_n C.1 C.2.1 dX8_isAdded_27 rfl (lv_at hl 0 rfl) ?_
          refine k_get C F hw (198) (by omega) eL12_3 rfl in_X8 15 (by decide) fl_X8_29 rfl dX8_isAdded_28 ?_
          refine lv_iload_n C.1 C.2.1 dX8_isAdded_31 rfl (lv_at hl 2 rfl) ?_
          refine k_iald C F hw (205) (by omega) eL12_0 (q) (by omega) (by decide) dX8_isAdded_32 ?_
          refine k_Si C F hw (As := [.int (nI (Fv q))]) (rest := []) (c_X8_inverse (Fv q) hFq hc18) (va_cwS _ C.2.2.2.2 gm_X8_81 rfl rfl rfl cd_X8_inverse.2 ⟨by decide, by decide⟩) hl.1 rfl (Nat.le_of_ble_eq_true rfl) dX8_isAdded_33 ⟨by decide, by decide⟩ (fun r10 g11 H locs hp hw => ?_)
          obtain ⟨hr9, hg9⟩ := hp
          rw [hg9] at hw
          subst hr9
          refine lv_istore_n (lv' := [(3, .int (nI (mInv (Fv q)))), (0, .ref (ad 198)), (1, .int (nI L)), (2, .int (nI q))]) C.1 C.2.1 dX8_isAdded_36 rfl hl (by decide) rfl (fun ls hl => ?_)
          refine k_icn C 0 dX8_isAdded_37 (by decide) ?_
          refine lv_istore (lv' := [(4, .int (nI 0)), (3, .int (nI (mInv (Fv q)))), (0, .ref (ad 198)), (1, .int (nI L)), (2, .int (nI q))]) C.1 C.2.1 dX8_isAdded_38 hl (by decide) rfl (fun ls hl => ?_)
          have loop40 : ∀ (fuel : Nat) (j : Nat) (Mx : Nat → Nat → Nat) (gL : Nat → va_E) (H : Heap) (locs : List Loc) (ls : Array Slot), ((75 - j) + 1 ≤ fuel) → (j ≤ 75) → (Mx = va_up M rw (prt j (scV (mInv (Fv q)) Fv) (M rw))) → (∀ z, z ≠ 198 ∧ z ≠ 203 ∧ z ≠ 204 ∧ z ≠ 205 → gL z = g z) → (gL (205) = na ca 75 (Fv)) → (gL (203) = na ca 9000 (fl Mx)) → (gL (204) = na ca 120 (pv)) → (gL (198) = .inr (8, [.int (cd), .ref (ad 199), .int (nI ln), .ref (ad 200), .int (nI bk), .int (nI bt), .ref (ad 201), .int (nI ck), .int (nI ct), .ref (ad 202), .int (nI cn), .int (nI pk), .ref (ad 203), .ref (ad 204), .int (nI rw), .ref (ad 205), .ref (ad 206), .int (bI (gt)), .ref (ad 207)])) → Wd D (AA R ad sz) s R ad gL H locs → lv_has ls 7 [(0, .ref (ad 198)), (1, .int (nI L)), (2, .int (nI q)), (3, .int (nI (mInv (Fv q)))), (4, .int (nI j))] → W p l e rm_X8_isAdded s m args below meth c H locs 0 0 Q (F0 m 40 ls []) := by
            intro fuel
            induction fuel with
            | zero =>
              intro j Mx gL H locs ls hfu40
              exact absurd hfu40 (by omega)
            | succ fuel40 ih40 =>
              intro j Mx gL H locs ls hfu40 hj hMx hsL40 eL40_0 eL40_1 eL40_2 eL40_3 hw hl
              refine lv_iload C.1 C.2.1 dX8_isAdded_40 (lv_at hl 4 rfl) ?_
              refine k_bip C 75 dX8_isAdded_42 (by decide) ?_
              refine k_ige (tgt := 79) C dX8_isAdded_44 (by decide) (by omega) (by omega) (fun hc44 => ?_) (fun hc44 => ?_)
              · have hK : Mx = mK q rw Fv M := by rw [hMx, show j = 75 by omega]; rfl
                have hbK : ∀ r, By (Mx r) := by rw [hK]; exact by_mK hbF hc18 hM
                refine lv_aload_n C.1 C.2.1 dX8_isAdded_79 rfl (lv_at hl 0 rfl) ?_
                refine k_get C F hw (198) (by omega) eL40_3 rfl in_X8 13 (by decide) fl_X8_26 rfl dX8_isAdded_80 ?_
                refine lv_aload_n C.1 C.2.1 dX8_isAdded_83 rfl (lv_at hl 0 rfl) ?_
                refine k_get C F hw (198) (by omega) eL40_3 rfl in_X8 14 (by decide) fl_X8_74 rfl dX8_isAdded_84 ?_
                refine lv_iload_n C.1 C.2.1 dX8_isAdded_87 rfl (lv_at hl 2 rfl) ?_
                refine k_iast C F hw (204) (by omega) eL40_2 (rw) (q) (by omega) (by decide) dX8_isAdded_88 (fun H locs hw => ?_)
                have hw : Wd D (AA R ad sz) s R ad (va_up gL (204) (na ca 120 (va_up pv rw q))) H locs := hw
                obtain ⟨g12, hg12⟩ : ∃ z, z = va_up gL (204) (na ca 120 (va_up pv rw q)) := ⟨_, rfl⟩
                rw [← hg12] at hw
                have hk13 : ∀ z, z ≠ 204 → g12 z = gL z := fun z hz => by rw [hg12]; exact va_up_ne _ _ hz
                have e14 : g12 (204) = na ca 120 (va_up pv rw q) := by rw [hg12]; exact va_up_self _ _ _
                have e15 : g12 (198) = .inr (8, [.int (cd), .ref (ad 199), .int (nI ln), .ref (ad 200), .int (nI bk), .int (nI bt), .ref (ad 201), .int (nI ck), .int (nI ct), .ref (ad 202), .int (nI cn), .int (nI pk), .ref (ad 203), .ref (ad 204), .int (nI rw), .ref (ad 205), .ref (ad 206), .int (bI (gt)), .ref (ad 207)]) := (hk13 _ (by omega)).trans eL40_3
                have e16 : g12 (203) = na ca 9000 (fl Mx) := (hk13 _ (by omega)).trans eL40_1
                have e17 : g12 (205) = na ca 75 (Fv) := (hk13 _ (by omega)).trans eL40_0
                have hs18 : ∀ z, z ≠ 198 ∧ z ≠ 203 ∧ z ≠ 204 ∧ z ≠ 205 → g12 z = g z := fun z hz => (hk13 z (by omega)).trans (hsL40 z hz)
                refine lv_aload_n C.1 C.2.1 dX8_isAdded_89 rfl (lv_at hl 0 rfl) ?_
                refine lv_dup C.1 C.2.1 dX8_isAdded_90 rfl ?_
                refine k_get C F hw (198) (by omega) e15 rfl in_X8 14 (by decide) fl_X8_74 rfl dX8_isAdded_91 ?_
                refine k_icn C 1 dX8_isAdded_94 (by decide) ?_
                refine k_add C dX8_isAdded_95 ?_
                refine k_put C F hw (198) (by omega) e15 rfl in_X8 tyX8_ok nmX8 14 (by decide) fl_X8_74 rfl (v := .int (nI (rw + 1))) rfl rfl (Nat.le_of_ble_eq_true rfl) dX8_isAdded_96 (fun H locs hw => ?_)
                have hw : Wd D (AA R ad sz) s R ad (va_up g12 (198) (.inr (8, [.int (cd), .ref (ad 199), .int (nI ln), .ref (ad 200), .int (nI bk), .int (nI bt), .ref (ad 201), .int (nI ck), .int (nI ct), .ref (ad 202), .int (nI cn), .int (nI pk), .ref (ad 203), .ref (ad 204), .int (nI (rw + 1)), .ref (ad 205), .ref (ad 206), .int (bI (gt)), .ref (ad 207)]))) H locs := hw
                obtain ⟨g19, hg19⟩ : ∃ z, z = va_up g12 (198) (.inr (8, [.int (cd), .ref (ad 199), .int (nI ln), .ref (ad 200), .int (nI bk), .int (nI bt), .ref (ad 201), .int (nI ck), .int (nI ct), .ref (ad 202), .int (nI cn), .int (nI pk), .ref (ad 203), .ref (ad 204), .int (nI (rw + 1)), .ref (ad 205), .ref (ad 206), .int (bI (gt)), .ref (ad 207)])) := ⟨_, rfl⟩
                rw [← hg19] at hw
                have hk20 : ∀ z, z ≠ 198 → g19 z = g12 z := fun z hz => by rw [hg19]; exact va_up_ne _ _ hz
                have e21 : g19 (198) = .inr (8, [.int (cd), .ref (ad 199), .int (nI ln), .ref (ad 200), .int (nI bk), .int (nI bt), .ref (ad 201), .int (nI ck), .int (nI ct), .ref (ad 202), .int (nI cn), .int (nI pk), .ref (ad 203), .ref (ad 204), .int (nI (rw + 1)), .ref (ad 205), .ref (ad 206), .int (bI (gt)), .ref (ad 207)]) := by rw [hg19]; exact va_up_self _ _ _
                have e22 : g19 (203) = na ca 9000 (fl Mx) := (hk20 _ (by omega)).trans e16
                have e23 : g19 (204) = na ca 120 (va_up pv rw q) := (hk20 _ (by omega)).trans e14
                have e24 : g19 (205) = na ca 75 (Fv) := (hk20 _ (by omega)).trans e17
                have hs25 : ∀ z, z ≠ 198 ∧ z ≠ 203 ∧ z ≠ 204 ∧ z ≠ 205 → g19 z = g z := fun z hz => (hk20 z (by omega)).trans (hs18 z hz)
                refine k_icn C 0 dX8_isAdded_99 (by decide) ?_
                refine lv_istore (lv' := [(4, .int (nI 0)), (0, .ref (ad 198)), (1, .int (nI L)), (2, .int (nI q)), (3, .int (nI (mInv (Fv q))))]) C.1 C.2.1 dX8_isAdded_100 hl (by decide) rfl (fun ls hl => ?_)
                have loop102 : ∀ (fuel : Nat) (i : Nat) (My : Nat → Nat → Nat) (gL : Nat → va_E) (H : Heap) (locs : List Loc) (ls : Array Slot), ((rw - i) + 1 ≤ fuel) → (i ≤ rw) → (My = fr (mElS q rw) i Mx) → (∀ z, z ≠ 198 ∧ z ≠ 203 ∧ z ≠ 204 ∧ z ≠ 205 → gL z = g z) → (gL (205) = na ca 75 (Fv)) → (gL (203) = na ca 9000 (fl My)) → (gL (204) = na ca 120 (va_up pv rw q)) → (gL (198) = .inr (8, [.int (cd), .ref (ad 199), .int (nI ln), .ref (ad 200), .int (nI bk), .int (nI bt), .ref (ad 201), .int (nI ck), .int (nI ct), .ref (ad 202), .int (nI cn), .int (nI pk), .ref (ad 203), .ref (ad 204), .int (nI (rw + 1)), .ref (ad 205), .ref (ad 206), .int (bI (gt)), .ref (ad 207)])) → Wd D (AA R ad sz) s R ad gL H locs → lv_has ls 7 [(0, .ref (ad 198)), (1, .int (nI L)), (2, .int (nI q)), (3, .int (nI (mInv (Fv q)))), (4, .int (nI i))] → W p l e rm_X8_isAdded s m args below meth c H locs 0 0 Q (F0 m 102 ls []) := by
                  intro fuel
                  induction fuel with
                  | zero =>
                    intro i My gL H locs ls hfu102
                    exact absurd hfu102 (by omega)
                  | succ fuel102 ih102 =>
                    intro i My gL H locs ls hfu102 hi hMy hsL102 eL102_0 eL102_1 eL102_2 eL102_3 hw hl
                    refine lv_iload C.1 C.2.1 dX8_isAdded_102 (lv_at hl 4 rfl) ?_
                    refine lv_aload_n C.1 C.2.1 dX8_isAdded_104 rfl (lv_at hl 0 rfl) ?_
                    refine k_get C F hw (198) (by omega) eL102_3 rfl in_X8 14 (by decide) fl_X8_74 rfl dX8_isAdded_105 ?_
                    refine k_icn C 1 dX8_isAdded_108 (by decide) ?_
                    refine k_sub C dX8_isAdded_109 (by omega) ?_
                    refine k_ige (tgt := 192) C dX8_isAdded_110 (by decide) (by omega) (by omega) (fun hc110 => ?_) (fun hc110 => ?_)
                    · refine k_icn C 1 dX8_isAdded_192 (by decide) ?_
                      have hA := mAdd_1 (s := (rw, M, pv, ro)) (L := L) (by rw [hF2]; exact hz)
                      rw [hF2, fst0_eq hq2 hq3 hq1] at hA
                      have hE : mElM q rw (mK q rw Fv M) = My := by rw [hMy, show i = rw by omega, ← hK]; rfl
                      exact hret H locs ls _ true _ _ dX8_isAdded_193 hw (by rfl) (⟨by unfold mAddB; rw [hA], hsL102, by unfold mAddS; rw [hA]; exact eL102_3, by unfold mAddS; rw [hA]; show _ = na ca 9000 (fl (mElM q rw (mK q rw Fv M))); rw [hE]; exact eL102_1, by unfold mAddS; rw [hA]; exact eL102_2, by unfold mAddS; rw [hA]; exact eL102_0⟩)
                    · have hbY : ∀ r, By (My r) := by rw [hMy]; exact by_elM hbK i
                      refine lv_aload_n C.1 C.2.1 dX8_isAdded_113 rfl (lv_at hl 0 rfl) ?_
                      refine k_get C F hw (198) (by omega) eL102_3 rfl in_X8 12 (by decide) fl_X8_23 rfl dX8_isAdded_114 ?_
                      refine k_bip C 75 dX8_isAdded_117 (by decide) ?_
                      refine lv_iload C.1 C.2.1 dX8_isAdded_119 (lv_at hl 4 rfl) ?_
                      refine k_mul C dX8_isAdded_121 ?_
                      refine lv_iload_n C.1 C.2.1 dX8_isAdded_122 rfl (lv_at hl 2 rfl) ?_
                      refine k_add C dX8_isAdded_123 ?_
                      refine k_iald C F hw (203) (by omega) eL102_1 ((75 * i) + q) (by omega) (by decide) dX8_isAdded_124 ?_
                      refine k_ti (x' := nI (My i q)) (by rw [fl_at (by omega)]) ?_
                      have hyq := hbY i q
                      refine lv_istore (lv' := [(5, .int (nI (My i q))), (0, .ref (ad 198)), (1, .int (nI L)), (2, .int (nI q)), (3, .int (nI (mInv (Fv q)))), (4, .int (nI i))]) C.1 C.2.1 dX8_isAdded_125 hl (by decide) rfl (fun ls hl => ?_)
                      refine k_icn C 0 dX8_isAdded_127 (by decide) ?_
                      refine lv_istore (lv' := [(6, .int (nI 0)), (5, .int (nI (My i q))), (0, .ref (ad 198)), (1, .int (nI L)), (2, .int (nI q)), (3, .int (nI (mInv (Fv q)))), (4, .int (nI i))]) C.1 C.2.1 dX8_isAdded_128 hl (by decide) rfl (fun ls hl => ?_)
                      have loop130 : ∀ (fuel : Nat) (j : Nat) (Mz : Nat → Nat → Nat) (gL : Nat → va_E) (H : Heap) (locs : List Loc) (ls : Array Slot), ((75 - j) + 1 ≤ fuel) → (j ≤ 75) → (j = 0 ∨ My i q ≠ 0) → (Mz = va_up My i (prt j (elV My i (My i q) rw) (My i))) → (∀ z, z ≠ 198 ∧ z ≠ 203 ∧ z ≠ 204 ∧ z ≠ 205 → gL z = g z) → (gL (205) = na ca 75 (Fv)) → (gL (203) = na ca 9000 (fl Mz)) → (gL (204) = na ca 120 (va_up pv rw q)) → (gL (198) = .inr (8, [.int (cd), .ref (ad 199), .int (nI ln), .ref (ad 200), .int (nI bk), .int (nI bt), .ref (ad 201), .int (nI ck), .int (nI ct), .ref (ad 202), .int (nI cn), .int (nI pk), .ref (ad 203), .ref (ad 204), .int (nI (rw + 1)), .ref (ad 205), .ref (ad 206), .int (bI (gt)), .ref (ad 207)])) → Wd D (AA R ad sz) s R ad gL H locs → lv_has ls 7 [(0, .ref (ad 198)), (1, .int (nI L)), (2, .int (nI q)), (3, .int (nI (mInv (Fv q)))), (4, .int (nI i)), (5, .int (nI (My i q))), (6, .int (nI j))] → W p l e rm_X8_isAdded s m args below meth c H locs 0 0 Q (F0 m 130 ls []) := by
                        intro fuel
                        induction fuel with
                        | zero =>
                          intro j Mz gL H locs ls hfu130
                          exact absurd hfu130 (by omega)
                        | succ fuel130 ih130 =>
                          intro j Mz gL H locs ls hfu130 hj hj0 hMz hsL130 eL130_0 eL130_1 eL130_2 eL130_3 hw hl
                          refine lv_iload C.1 C.2.1 dX8_isAdded_130 (lv_at hl 6 rfl) ?_
                          refine k_bip C 75 dX8_isAdded_132 (by decide) ?_
                          refine k_ige (tgt := 186) C dX8_isAdded_134 (by decide) (by omega) (by omega) (fun hc134 => ?_) (fun hc134 => ?_)
                          · refine k_inc C (i + 1) (lv' := [(4, .int (nI (i + 1))), (0, .ref (ad 198)), (1, .int (nI L)), (2, .int (nI q)), (3, .int (nI (mInv (Fv q)))), (5, .int (nI (My i q))), (6, .int (nI j))]) dX8_isAdded_186 hl (k := 4) rfl (inc1 _) (by decide) rfl (fun ls hl => ?_)
                            refine lv_goto (tgt := 102) C.1 C.2.1 dX8_isAdded_189 (by decide) ?_
                            exact ih102 (i + 1) Mz gL H locs ls (by omega) (by omega) (by rw [hMz, fr_s, ← hMy]; unfold mElS; rw [if_neg (by omega), show j = 75 by omega]) hsL130 eL130_0 eL130_1 eL130_2 eL130_3 hw (lv_sub hl [1, 2, 3, 4, 0] rfl)
                          · refine lv_iload C.1 C.2.1 dX8_isAdded_137 (lv_at hl 5 rfl) ?_
                            refine k_zeq (tgt := 186) C dX8_isAdded_139 (by decide) (by omega) (fun hc139 => ?_) (fun hc139 => ?_)
                            · refine k_inc C (i + 1) (lv' := [(4, .int (nI (i + 1))), (0, .ref (ad 198)), (1, .int (nI L)), (2, .int (nI q)), (3, .int (nI (mInv (Fv q)))), (5, .int (nI (My i q))), (6, .int (nI j))]) dX8_isAdded_186 hl (k := 4) rfl (inc1 _) (by decide) rfl (fun ls hl => ?_)
                              refine lv_goto (tgt := 102) C.1 C.2.1 dX8_isAdded_189 (by decide) ?_
                              exact ih102 (i + 1) Mz gL H locs ls (by omega) (by omega) (by rw [hMz, fr_s, ← hMy]; unfold mElS; rw [if_pos (by omega), show j = 0 by omega, prt_0, up_id]) hsL130 eL130_0 eL130_1 eL130_2 eL130_3 hw (lv_sub hl [1, 2, 3, 4, 0] rfl)
                            · refine lv_aload_n C.1 C.2.1 dX8_isAdded_142 rfl (lv_at hl 0 rfl) ?_
                              refine k_get C F hw (198) (by omega) eL130_3 rfl in_X8 12 (by decide) fl_X8_23 rfl dX8_isAdded_143 ?_
                              refine k_bip C 75 dX8_isAdded_146 (by decide) ?_
                              refine lv_iload C.1 C.2.1 dX8_isAdded_148 (lv_at hl 4 rfl) ?_
                              refine k_mul C dX8_isAdded_150 ?_
                              refine lv_iload C.1 C.2.1 dX8_isAdded_151 (lv_at hl 6 rfl) ?_
                              refine k_add C dX8_isAdded_153 ?_
                              refine lv_dup2_11 C.1 C.2.1 dX8_isAdded_154 rfl rfl ?_
                              refine k_iald C F hw (203) (by omega) eL130_1 ((75 * i) + j) (by omega) (by decide) dX8_isAdded_155 ?_
                              refine k_ti (x' := nI (My i j)) (by rw [fl_at (by omega), hMz, va_up_self, prt_ge _ _ (Nat.le_refl _)]) ?_
                              refine lv_iload C.1 C.2.1 dX8_isAdded_156 (lv_at hl 5 rfl) ?_
                              refine lv_aload_n C.1 C.2.1 dX8_isAdded_158 rfl (lv_at hl 0 rfl) ?_
                              refine k_get C F hw (198) (by omega) eL130_3 rfl in_X8 12 (by decide) fl_X8_23 rfl dX8_isAdded_159 ?_
                              refine k_bip C 75 dX8_isAdded_162 (by decide) ?_
                              refine lv_aload_n C.1 C.2.1 dX8_isAdded_164 rfl (lv_at hl 0 rfl) ?_
                              refine k_get C F hw (198) (by omega) eL130_3 rfl in_X8 14 (by decide) fl_X8_74 rfl dX8_isAdded_165 ?_
                              refine k_icn C 1 dX8_isAdded_168 (by decide) ?_
                              refine k_sub C dX8_isAdded_169 (by omega) ?_
                              refine k_mul C dX8_isAdded_170 ?_
                              refine lv_iload C.1 C.2.1 dX8_isAdded_171 (lv_at hl 6 rfl) ?_
                              refine k_add C dX8_isAdded_173 ?_
                              refine k_iald C F hw (203) (by omega) eL130_1 ((75 * ((rw + 1) - 1)) + j) (by omega) (by decide) dX8_isAdded_174 ?_
                              refine k_ti (x' := nI (My rw j)) (by rw [show rw + 1 - 1 = rw by omega, fl_at (by omega), hMz, va_up_ne _ _ (by omega)]) ?_
                              refine k_Si C F hw (As := [.int (nI (My i q)), .int (nI (My rw j))]) (rest := [.int (nI (My i j)), .int (nI ((75 * i) + j)), .ref (ad 203)]) (c_X8_times (My i q) (My rw j) hyq (hbY rw j)) (va_cwS _ C.2.2.2.2 gm_X8_38 rfl rfl rfl cd_X8_times.2 ⟨by decide, by decide⟩) hl.1 rfl (Nat.le_of_ble_eq_true rfl) dX8_isAdded_175 ⟨by decide, by decide⟩ (fun r26 g27 H locs hp hw => ?_)
                              obtain ⟨hr9, hg9⟩ := hp
                              rw [hg9] at hw
                              subst hr9
                              refine k_xor C dX8_isAdded_178 ?_
                              refine k_iast C F hw (203) (by omega) eL130_1 ((75 * i) + j) ((My i j) ^^^ (mt (My i q) (My rw j))) (by omega) (by decide) dX8_isAdded_179 (fun H locs hw => ?_)
                              have hw : Wd D (AA R ad sz) s R ad (va_up gL (203) (na ca 9000 (va_up (fl Mz) ((75 * i) + j) ((My i j) ^^^ (mt (My i q) (My rw j)))))) H locs := hw
                              obtain ⟨g28, hg28⟩ : ∃ z, z = va_up gL (203) (na ca 9000 (va_up (fl Mz) ((75 * i) + j) ((My i j) ^^^ (mt (My i q) (My rw j))))) := ⟨_, rfl⟩
                              rw [← hg28] at hw
                              have hk29 : ∀ z, z ≠ 203 → g28 z = gL z := fun z hz => by rw [hg28]; exact va_up_ne _ _ hz
                              have e30 : g28 (203) = na ca 9000 (va_up (fl Mz) ((75 * i) + j) ((My i j) ^^^ (mt (My i q) (My rw j)))) := by rw [hg28]; exact va_up_self _ _ _
                              have e31 : g28 (198) = .inr (8, [.int (cd), .ref (ad 199), .int (nI ln), .ref (ad 200), .int (nI bk), .int (nI bt), .ref (ad 201), .int (nI ck), .int (nI ct), .ref (ad 202), .int (nI cn), .int (nI pk), .ref (ad 203), .ref (ad 204), .int (nI (rw + 1)), .ref (ad 205), .ref (ad 206), .int (bI (gt)), .ref (ad 207)]) := (hk29 _ (by omega)).trans eL130_3
                              have e32 : g28 (204) = na ca 120 (va_up pv rw q) := (hk29 _ (by omega)).trans eL130_2
                              have e33 : g28 (205) = na ca 75 (Fv) := (hk29 _ (by omega)).trans eL130_0
                              have hs34 : ∀ z, z ≠ 198 ∧ z ≠ 203 ∧ z ≠ 204 ∧ z ≠ 205 → g28 z = g z := fun z hz => (hk29 z (by omega)).trans (hsL130 z hz)
                              have e35 : g28 (203) = na ca 9000 (fl (va_up Mz i (va_up (Mz i) j (My i j ^^^ mt (My i q) (My rw j))))) := by rw [e30, fl_up (by omega)]
                              refine k_inc C (j + 1) (lv' := [(6, .int (nI (j + 1))), (0, .ref (ad 198)), (1, .int (nI L)), (2, .int (nI q)), (3, .int (nI (mInv (Fv q)))), (4, .int (nI i)), (5, .int (nI (My i q)))]) dX8_isAdded_180 hl (k := 6) rfl (inc1 _) (by decide) rfl (fun ls hl => ?_)
                              refine lv_goto (tgt := 130) C.1 C.2.1 dX8_isAdded_183 (by decide) ?_
                              exact ih130 (j + 1) (va_up Mz i (va_up (Mz i) j (My i j ^^^ mt (My i q) (My rw j)))) g28 H locs ls (by omega) (by omega) (Or.inr hc139) (by rw [show Mz i = prt j (elV My i (My i q) rw) (My i) from by rw [hMz, va_up_self], hMz, up_up]; exact congrArg _ (prt_s j (elV My i (My i q) rw) (My i))) hs34 e33 e35 e32 e31 hw (lv_sub hl [1, 2, 3, 4, 5, 6, 0] rfl)
                      exact loop130 _ 0 My gL H locs ls (Nat.le_refl _) (by omega) (Or.inl rfl) (by rw [prt_0, up_id]) hsL102 eL102_0 eL102_1 eL102_2 eL102_3 hw (lv_sub hl [2, 3, 4, 5, 6, 1, 0] rfl)
                exact loop102 _ 0 Mx g19 H locs ls (Nat.le_refl _) (by omega) rfl hs25 e24 e22 e23 e21 hw (lv_sub hl [1, 2, 3, 4, 0] rfl)
              · refine lv_aload_n C.1 C.2.1 dX8_isAdded_47 rfl (lv_at hl 0 rfl) ?_
                refine k_get C F hw (198) (by omega) eL40_3 rfl in_X8 12 (by decide) fl_X8_23 rfl dX8_isAdded_48 ?_
                refine k_bip C 75 dX8_isAdded_51 (by decide) ?_
                refine lv_aload_n C.1 C.2.1 dX8_isAdded_53 rfl (lv_at hl 0 rfl) ?_
                refine k_get C F hw (198) (by omega) eL40_3 rfl in_X8 14 (by decide) fl_X8_74 rfl dX8_isAdded_54 ?_
                refine k_mul C dX8_isAdded_57 ?_
                refine lv_iload C.1 C.2.1 dX8_isAdded_58 (lv_at hl 4 rfl) ?_
                refine k_add C dX8_isAdded_60 ?_
                refine lv_iload_n C.1 C.2.1 dX8_isAdded_61 rfl (lv_at hl 3 rfl) ?_
                refine lv_aload_n C.1 C.2.1 dX8_isAdded_62 rfl (lv_at hl 0 rfl) ?_
                refine k_get C F hw (198) (by omega) eL40_3 rfl in_X8 15 (by decide) fl_X8_29 rfl dX8_isAdded_63 ?_
                refine lv_iload C.1 C.2.1 dX8_isAdded_66 (lv_at hl 4 rfl) ?_
                refine k_iald C F hw (205) (by omega) eL40_0 (j) (by omega) (by decide) dX8_isAdded_68 ?_
                refine k_Si C F hw (As := [.int (nI (mInv (Fv q))), .int (nI (Fv j))]) (rest := [.int (nI ((75 * rw) + j)), .ref (ad 203)]) (c_X8_times (mInv (Fv q)) (Fv j) hI.2.1 (hbF j)) (va_cwS _ C.2.2.2.2 gm_X8_38 rfl rfl rfl cd_X8_times.2 ⟨by decide, by decide⟩) hl.1 rfl (Nat.le_of_ble_eq_true rfl) dX8_isAdded_69 ⟨by decide, by decide⟩ (fun r36 g37 H locs hp hw => ?_)
                obtain ⟨hr9, hg9⟩ := hp
                rw [hg9] at hw
                subst hr9
                refine k_iast C F hw (203) (by omega) eL40_1 ((75 * rw) + j) (mt (mInv (Fv q)) (Fv j)) (by omega) (by decide) dX8_isAdded_72 (fun H locs hw => ?_)
                have hw : Wd D (AA R ad sz) s R ad (va_up gL (203) (na ca 9000 (va_up (fl Mx) ((75 * rw) + j) (mt (mInv (Fv q)) (Fv j))))) H locs := hw
                obtain ⟨g38, hg38⟩ : ∃ z, z = va_up gL (203) (na ca 9000 (va_up (fl Mx) ((75 * rw) + j) (mt (mInv (Fv q)) (Fv j)))) := ⟨_, rfl⟩
                rw [← hg38] at hw
                have hk39 : ∀ z, z ≠ 203 → g38 z = gL z := fun z hz => by rw [hg38]; exact va_up_ne _ _ hz
                have e40 : g38 (203) = na ca 9000 (va_up (fl Mx) ((75 * rw) + j) (mt (mInv (Fv q)) (Fv j))) := by rw [hg38]; exact va_up_self _ _ _
                have e41 : g38 (198) = .inr (8, [.int (cd), .ref (ad 199), .int (nI ln), .ref (ad 200), .int (nI bk), .int (nI bt), .ref (ad 201), .int (nI ck), .int (nI ct), .ref (ad 202), .int (nI cn), .int (nI pk), .ref (ad 203), .ref (ad 204), .int (nI rw), .ref (ad 205), .ref (ad 206), .int (bI (gt)), .ref (ad 207)]) := (hk39 _ (by omega)).trans eL40_3
                have e42 : g38 (204) = na ca 120 (pv) := (hk39 _ (by omega)).trans eL40_2
                have e43 : g38 (205) = na ca 75 (Fv) := (hk39 _ (by omega)).trans eL40_0
                have hs44 : ∀ z, z ≠ 198 ∧ z ≠ 203 ∧ z ≠ 204 ∧ z ≠ 205 → g38 z = g z := fun z hz => (hk39 z (by omega)).trans (hsL40 z hz)
                have e45 : g38 (203) = na ca 9000 (fl (va_up Mx rw (va_up (Mx rw) j (mt (mInv (Fv q)) (Fv j))))) := by rw [e40, fl_up (by omega)]
                refine k_inc C (j + 1) (lv' := [(4, .int (nI (j + 1))), (0, .ref (ad 198)), (1, .int (nI L)), (2, .int (nI q)), (3, .int (nI (mInv (Fv q))))]) dX8_isAdded_73 hl (k := 4) rfl (inc1 _) (by decide) rfl (fun ls hl => ?_)
                refine lv_goto (tgt := 40) C.1 C.2.1 dX8_isAdded_76 (by decide) ?_
                exact ih40 (j + 1) (va_up Mx rw (va_up (Mx rw) j (mt (mInv (Fv q)) (Fv j)))) g38 H locs ls (by omega) (by omega) (by rw [show Mx rw = prt j (scV (mInv (Fv q)) Fv) (M rw) from by rw [hMx, va_up_self], hMx, up_up]; exact congrArg _ (prt_s j (scV (mInv (Fv q)) Fv) (M rw))) hs44 e43 e45 e42 e41 hw (lv_sub hl [1, 2, 3, 4, 0] rfl)
          exact loop40 _ 0 M gL H locs ls (Nat.le_refl _) (by omega) (by rw [prt_0, up_id]) hsL12 eL12_0 eL12_1 eL12_2 eL12_3 hw (lv_sub hl [2, 3, 4, 1, 0] rfl)
        · have hne : q ≠ q0 := fun h => hq2 (by rw [← h]; exact hc18)
          refine k_inc C (q + 1) (lv' := [(2, .int (nI (q + 1))), (0, .ref (ad 198)), (1, .int (nI L))]) dX8_isAdded_21 hl (k := 2) rfl (inc1 _) (by decide) rfl (fun ls hl => ?_)
          refine lv_goto (tgt := 12) C.1 C.2.1 dX8_isAdded_24 (by decide) ?_
          exact ih12 (q + 1) gL H locs ls (by omega) (by omega) hsL12 eL12_0 eL12_1 eL12_2 eL12_3 hw (lv_sub hl [1, 2, 0] rfl)
    exact loop12 _ 0 g2 H locs ls (Nat.le_refl _) (Nat.zero_le _) hs8 e9 e6 e7 e5 hw (lv_sub hl [1, 2, 0] rfl)
  · refine k_icn C 0 dX8_isAdded_8 (by decide) ?_
    exact hret H locs ls _ false _ _ dX8_isAdded_9 hw (by rfl) (⟨by unfold mAddB; rw [mAdd_0 (s := (rw, M, pv, ro)) hc5], hs8, by unfold mAddS; rw [mAdd_0 (s := (rw, M, pv, ro)) hc5]; exact e5, by unfold mAddS; rw [mAdd_0 (s := (rw, M, pv, ro)) hc5]; exact e6, by unfold mAddS; rw [mAdd_0 (s := (rw, M, pv, ro)) hc5]; exact e7, by unfold mAddS; rw [mAdd_0 (s := (rw, M, pv, ro)) hc5]; exact e4⟩)
