/-! ===== Equations: lineLead, hasValueLeft, keepLine ===== -/
theorem va_up_id {α : Type} (f : Nat → α) (k : Nat) : va_up f k (f k) = f := by
  funext j
  unfold va_up
  split
  · rename_i h; rw [h]
  · rfl
def kpRow (pw ex : Nat → Nat) (sc : Nat) (ln : Nat → Nat) (j : Nat) (K : Nat → Nat) : Nat → Nat := va_up K j (fTimes pw ex sc (ln j))
def kpK (pw ex : Nat → Nat) (L T q : Nat) (ln : Nat → Nat) (K : Nat → Nat) : Nat → Nat := fr (kpRow pw ex (pw (255 - ex (ln (T + q)))) ln) (T + L) K
def kpStep (pw ex : Nat → Nat) (T q : Nat) (ld : Nat → Bool) (i : Nat) (M : Nat → Nat → Nat) : Nat → Nat → Nat := if M i (T + q) ≠ 0 ∧ ld i = true then va_up M i (fr (fAdd pw ex (M q) (M i (T + q))) (T + q + 1) (M i)) else M
def kpM (pw ex : Nat → Nat) (L T q : Nat) (ld : Nat → Bool) (ln : Nat → Nat) (M : Nat → Nat → Nat) : Nat → Nat → Nat := fr (fun n => kpStep pw ex T q ld (q + 1 + n)) (L - (q + 1)) (va_up M q (kpK pw ex L T q ln (M q)))
theorem kpStep_t {pw ex : Nat → Nat} {T q : Nat} {ld : Nat → Bool} {i : Nat} {M : Nat → Nat → Nat} (h1 : M i (T + q) ≠ 0) (h2 : ld i = true) : kpStep pw ex T q ld i M = va_up M i (fr (fAdd pw ex (M q) (M i (T + q))) (T + q + 1) (M i)) := if_pos ⟨h1, h2⟩
theorem kpStep_f {pw ex : Nat → Nat} {T q : Nat} {ld : Nat → Bool} {i : Nat} {M : Nat → Nat → Nat} (h : M i (T + q) = 0 ∨ ld i = false) : kpStep pw ex T q ld i M = M := if_neg (fun z => h.elim (fun q => z.1 q) (fun q => by rw [q] at z; exact absurd z.2 (by decide)))
theorem fTimes_by {pw ex : Nat → Nat} (hp : PwOk pw) (a b : Nat) : fTimes pw ex a b < 256 := by
  unfold fTimes
  split
  · decide
  · exact hp _
theorem By2.up {M : Nat → Nat → Nat} (h : ∀ p, By (M p)) {k : Nat} {K : Nat → Nat} (hK : By K) : ∀ p, By (va_up M k K p) := fun p => by
  unfold va_up
  split
  · exact hK
  · exact h p

abbrev rm_X2_lineLead : Room := { frames := 0, cells := 0, slots := 0, locals := 0 }

set_option maxHeartbeats 800000 in
set_option maxRecDepth 100000 in
/-- Equations.lineLead -/
theorem c_X2_lineLead {l : Launch} {D : va_G} {ca : Nat → ClassId} {tB tS R : Nat} {ad : Nat → Nat} {g : Nat → va_E} {sz : Nat} (b f L T rk : Nat) (M : Nat → Nat → Nat) (ld : Nat → Bool) (ln : Nat → Nat) (hE : EqAt ca ad g b f L T rk M ld ln) (hb : b + 62 < R) (hL : L ≤ 59) (hT : T ≤ 16) (hL1 : 1 ≤ L) (hln : By ln) : MI l yX2_lineLead cX2_lineLead 2 .int rm_X2_lineLead D ca tB tS R ad g sz [.ref (ad b)] (fun r g1 => r = leadI T ln L ∧ g1 = g) := by
  refine m_startI (by decide +kernel) (Nat.le_of_ble_eq_true rfl) (fun p e s m args below meth c ls Q hsz C hl F hw hret => ?_)
  have hl : lv_has ls 2 [(0, .ref (ad b))] := hl
  generalize s.heap = H at hw ⊢
  generalize ([] : List Loc) = locs at hw ⊢
  refine lv_aload_n C.1 C.2.1 dX2_lineLead_0 rfl (lv_at hl 0 rfl) ?_
  refine k_get C F hw (b) (by omega) hE.1 rfl in_X2 4 (by decide) fl_X2_28 rfl dX2_lineLead_1 ?_
  refine k_icn C 1 dX2_lineLead_4 (by decide) ?_
  refine lv_isub C.1 C.2.1 dX2_lineLead_5 ?_
  refine k_ti (x' := nI (L) - 1) rfl ?_
  refine lv_istore_n (lv' := [(1, .int (nI (L) - 1)), (0, .ref (ad b))]) C.1 C.2.1 dX2_lineLead_6 rfl hl (by decide) rfl (fun ls hl => ?_)
  have loop7 : ∀ (fuel : Nat) (i : Nat) (gL : Nat → va_E) (H : Heap) (locs : List Loc) (ls : Array Slot), (i + 1 ≤ fuel) → (i ≤ L) → (leadI T ln i = leadI T ln L) → (∀ z, True → gL z = g z) → Wd D (AA R ad sz) s R ad gL H locs → lv_has ls 2 [(0, .ref (ad b)), (1, .int (nI (i) - 1))] → W p l e rm_X2_lineLead s m args below meth c H locs 0 0 Q (F0 m 7 ls []) := by
    intro fuel
    induction fuel with
    | zero =>
      intro i gL H locs ls hfu7
      exact absurd hfu7 (by omega)
    | succ fuel7 ih7 =>
      intro i gL H locs ls hfu7 hi hld hsL7  hw hl
      have e1 : gL (b) = .inr (2, [.ref (ad f), .ref (ad (b + 1)), .ref (ad (b + 61)), .ref (ad (b + 62)), .int (nI L), .int (nI T), .int (nI rk)]) := (hsL7 _ trivial).trans hE.1
      have e2 : gL (b + 1) = qa ca 59 (fun i => if i < 59 then some (ad (b + 2 + i)) else none) := (hsL7 _ trivial).trans hE.2.1
      have e3 : gL (b + 61) = za ca 59 (ld) := (hsL7 _ trivial).trans hE.2.2.2.1
      have e4 : gL (b + 62) = na ca 75 (ln) := (hsL7 _ trivial).trans hE.2.2.2.2
      have hr5 : ∀ p9, p9 < 59 → gL (b + 2 + p9) = na ca 75 (M p9) := fun p9 hp9 => (hsL7 _ trivial).trans (hE.2.2.1 p9 hp9)
      cases i with
      | zero =>
        refine lv_iload_n C.1 C.2.1 dX2_lineLead_7 rfl (lv_at hl 1 rfl) ?_
        refine lv_if_lt (tgt := 33) C.1 C.2.1 dX2_lineLead_8 (by decide) (fun _ => ?_) (fun h => absurd (by decide) h)
        refine lv_iconst (v := -1) C.1 C.2.1 dX2_lineLead_33 (by decide) ?_
        exact hret H locs ls _ _ _ dX2_lineLead_34 hw (⟨by rw [← hld]; rfl, funext (fun z => hsL7 z trivial)⟩)
      | succ j =>
        have hl : lv_has ls 2 [(0, .ref (ad b)), (1, .int (nI j))] := by have h9 := hl; rw [nI_pred] at h9; exact h9
        refine lv_iload_n C.1 C.2.1 dX2_lineLead_7 rfl (lv_at hl 1 rfl) ?_
        refine k_zlt (tgt := 33) C dX2_lineLead_8 (by decide) (by omega) ?_
        refine lv_aload_n C.1 C.2.1 dX2_lineLead_11 rfl (lv_at hl 0 rfl) ?_
        refine k_get C F hw (b) (by omega) e1 rfl in_X2 3 (by decide) fl_X2_24 rfl dX2_lineLead_12 ?_
        refine lv_aload_n C.1 C.2.1 dX2_lineLead_15 rfl (lv_at hl 0 rfl) ?_
        refine k_get C F hw (b) (by omega) e1 rfl in_X2 5 (by decide) fl_X2_32 rfl dX2_lineLead_16 ?_
        refine lv_iload_n C.1 C.2.1 dX2_lineLead_19 rfl (lv_at hl 1 rfl) ?_
        refine k_add C dX2_lineLead_20 ?_
        refine k_iald C F hw (b + 62) (by omega) e4 (T + j) (by omega) (by decide) dX2_lineLead_21 ?_
        have hb9 := hln (T + j)
        refine k_zeq (tgt := 27) C dX2_lineLead_22 (by decide) (by omega) (fun hc22 => ?_) (fun hc22 => ?_)
        · refine lv_iinc (v := nI (j) - 1) (lv' := [(1, .int (nI (j) - 1)), (0, .ref (ad b))]) C.1 C.2.1 dX2_lineLead_27 hl (k := 1) rfl (dec1m _) (by decide) rfl (fun ls hl => ?_)
          refine lv_goto (tgt := 7) C.1 C.2.1 dX2_lineLead_30 (by decide) ?_
          exact ih7 j gL H locs ls (by omega) (by omega) (by rw [← hld]; exact (if_neg (fun z => z hc22)).symm) hsL7  hw (lv_sub hl [1, 0] rfl)
        · refine lv_iload_n C.1 C.2.1 dX2_lineLead_25 rfl (lv_at hl 1 rfl) ?_
          exact hret H locs ls _ _ _ dX2_lineLead_26 hw (⟨by rw [← hld]; exact (if_pos hc22).symm, funext (fun z => hsL7 z trivial)⟩)
  exact loop7 _ L g H locs ls (Nat.le_refl _) (Nat.le_refl _) rfl (fun z _ => rfl)  hw (lv_sub hl [1, 0] rfl)

abbrev rm_X2_hasValueLeft : Room := { frames := 0, cells := 0, slots := 0, locals := 0 }

set_option maxHeartbeats 800000 in
set_option maxRecDepth 100000 in
/-- Equations.hasValueLeft -/
theorem c_X2_hasValueLeft {l : Launch} {D : va_G} {ca : Nat → ClassId} {tB tS R : Nat} {ad : Nat → Nat} {g : Nat → va_E} {sz : Nat} (b f L T rk : Nat) (M : Nat → Nat → Nat) (ld : Nat → Bool) (ln : Nat → Nat) (hE : EqAt ca ad g b f L T rk M ld ln) (hb : b + 62 < R) (hL : L ≤ 59) (hT : T ≤ 16) (hln : By ln) : MI l yX2_hasValueLeft cX2_hasValueLeft 2 .boolean rm_X2_hasValueLeft D ca tB tS R ad g sz [.ref (ad b)] (fun r g1 => r = bI (anyV T ln) ∧ g1 = g) := by
  refine m_startZ (by decide +kernel) (Nat.le_of_ble_eq_true rfl) (fun p e s m args below meth c ls Q hsz C hl F hw hret => ?_)
  have hl : lv_has ls 2 [(0, .ref (ad b))] := hl
  generalize s.heap = H at hw ⊢
  generalize ([] : List Loc) = locs at hw ⊢
  refine k_icn C 0 dX2_hasValueLeft_0 (by decide) ?_
  refine lv_istore_n (lv' := [(1, .int (nI 0)), (0, .ref (ad b))]) C.1 C.2.1 dX2_hasValueLeft_1 rfl hl (by decide) rfl (fun ls hl => ?_)
  have loop2 : ∀ (fuel : Nat) (i : Nat) (gL : Nat → va_E) (H : Heap) (locs : List Loc) (ls : Array Slot), ((T - i) + 1 ≤ fuel) → (i ≤ T) → (∀ j, j < i → ln j = 0) → (∀ z, True → gL z = g z) → Wd D (AA R ad sz) s R ad gL H locs → lv_has ls 2 [(0, .ref (ad b)), (1, .int (nI i))] → W p l e rm_X2_hasValueLeft s m args below meth c H locs 0 0 Q (F0 m 2 ls []) := by
    intro fuel
    induction fuel with
    | zero =>
      intro i gL H locs ls hfu2
      exact absurd hfu2 (by omega)
    | succ fuel2 ih2 =>
      intro i gL H locs ls hfu2 hi hz0 hsL2  hw hl
      have e1 : gL (b) = .inr (2, [.ref (ad f), .ref (ad (b + 1)), .ref (ad (b + 61)), .ref (ad (b + 62)), .int (nI L), .int (nI T), .int (nI rk)]) := (hsL2 _ trivial).trans hE.1
      have e2 : gL (b + 1) = qa ca 59 (fun i => if i < 59 then some (ad (b + 2 + i)) else none) := (hsL2 _ trivial).trans hE.2.1
      have e3 : gL (b + 61) = za ca 59 (ld) := (hsL2 _ trivial).trans hE.2.2.2.1
      have e4 : gL (b + 62) = na ca 75 (ln) := (hsL2 _ trivial).trans hE.2.2.2.2
      have hr5 : ∀ p9, p9 < 59 → gL (b + 2 + p9) = na ca 75 (M p9) := fun p9 hp9 => (hsL2 _ trivial).trans (hE.2.2.1 p9 hp9)
      refine lv_iload_n C.1 C.2.1 dX2_hasValueLeft_2 rfl (lv_at hl 1 rfl) ?_
      refine lv_aload_n C.1 C.2.1 dX2_hasValueLeft_3 rfl (lv_at hl 0 rfl) ?_
      refine k_get C F hw (b) (by omega) e1 rfl in_X2 5 (by decide) fl_X2_32 rfl dX2_hasValueLeft_4 ?_
      refine k_ige (tgt := 27) C dX2_hasValueLeft_7 (by decide) (by omega) (by omega) (fun hc7 => ?_) (fun hc7 => ?_)
      · refine k_icn C 0 dX2_hasValueLeft_27 (by decide) ?_
        exact hret H locs ls _ false _ _ dX2_hasValueLeft_28 hw (by rfl) (⟨by rw [show anyV T ln = false from decide_eq_false (fun ⟨j, hj, hz⟩ => hz (hz0 j (by omega)))], funext (fun z => hsL2 z trivial)⟩)
      · refine lv_aload_n C.1 C.2.1 dX2_hasValueLeft_10 rfl (lv_at hl 0 rfl) ?_
        refine k_get C F hw (b) (by omega) e1 rfl in_X2 3 (by decide) fl_X2_24 rfl dX2_hasValueLeft_11 ?_
        refine lv_iload_n C.1 C.2.1 dX2_hasValueLeft_14 rfl (lv_at hl 1 rfl) ?_
        refine k_iald C F hw (b + 62) (by omega) e4 (i) (by omega) (by decide) dX2_hasValueLeft_15 ?_
        have hb9 := hln i
        refine k_zeq (tgt := 21) C dX2_hasValueLeft_16 (by decide) (by omega) (fun hc16 => ?_) (fun hc16 => ?_)
        · refine k_inc C (i + 1) (lv' := [(1, .int (nI (i + 1))), (0, .ref (ad b))]) dX2_hasValueLeft_21 hl (k := 1) rfl (inc1 _) (by decide) rfl (fun ls hl => ?_)
          refine lv_goto (tgt := 2) C.1 C.2.1 dX2_hasValueLeft_24 (by decide) ?_
          exact ih2 (i + 1) gL H locs ls (by omega) (by omega) (fun j hj => by by_cases h : j = i; (subst h; exact hc16); exact hz0 j (by omega)) hsL2  hw (lv_sub hl [1, 0] rfl)
        · refine k_icn C 1 dX2_hasValueLeft_19 (by decide) ?_
          exact hret H locs ls _ true _ _ dX2_hasValueLeft_20 hw (by rfl) (⟨by rw [show anyV T ln = true from decide_eq_true ⟨i, by omega, hc16⟩], funext (fun z => hsL2 z trivial)⟩)
  exact loop2 _ 0 g H locs ls (Nat.le_refl _) (by omega) (fun j hj => absurd hj (by omega)) (fun z _ => rfl)  hw (lv_sub hl [1, 0] rfl)

abbrev rm_X2_keepLine : Room := { frames := 1, cells := 0, slots := 0, locals := 27 }

set_option maxHeartbeats 800000 in
set_option maxRecDepth 100000 in
/-- Equations.keepLine -/
theorem c_X2_keepLine {l : Launch} {D : va_G} {ca : Nat → ClassId} {tB tS R : Nat} {ad : Nat → Nat} {g : Nat → va_E} {sz : Nat} (b f L T rk : Nat) (M : Nat → Nat → Nat) (ld : Nat → Bool) (ln : Nat → Nat) (hE : EqAt ca ad g b f L T rk M ld ln) (hb : b + 62 < R) (hL : L ≤ 59) (hT : T ≤ 16) (pw ex : Nat → Nat) (hF : FieldAt ca ad g f pw ex) (hX : ExOk ex) (hP : PwOk pw) (hfb : f + 2 < b) (hM : ∀ p, By (M p)) (hln : By ln) (q : Nat) (hq : q < L) (hv0 : ln (T + q) ≠ 0) : MV l yX2_keepLine cX2_keepLine 6 rm_X2_keepLine D ca tB tS R ad g sz [.ref (ad b), .int (nI q)] (fun g1 => (∀ z, (z < b ∨ b + 62 < z) → g1 z = g z) ∧ EqAt ca ad g1 b f L T (rk + 1) (kpM pw ex L T q ld ln M) (va_up ld q true) ln) := by
  refine m_startV (by decide +kernel) (Nat.le_of_ble_eq_true rfl) (fun p e s m args below meth c ls Q hsz C hnm hl F hw hret => ?_)
  have hl : lv_has ls 6 [(0, .ref (ad b)), (1, .int (nI q))] := hl
  generalize s.heap = H at hw ⊢
  generalize ([] : List Loc) = locs at hw ⊢
  obtain ⟨sc, hsc⟩ : ∃ z, z = pw (255 - ex (ln (T + q))) := ⟨_, rfl⟩
  have hscb : sc < 256 := by rw [hsc]; exact hP _
  have hlq := hln (T + q)
  refine lv_aload_n C.1 C.2.1 dX2_keepLine_0 rfl (lv_at hl 0 rfl) ?_
  refine k_get C F hw (b) (by omega) hE.1 rfl in_X2 0 (by decide) fl_X2_9 rfl dX2_keepLine_1 ?_
  refine lv_aload_n C.1 C.2.1 dX2_keepLine_4 rfl (lv_at hl 0 rfl) ?_
  refine k_get C F hw (b) (by omega) hE.1 rfl in_X2 3 (by decide) fl_X2_24 rfl dX2_keepLine_5 ?_
  refine lv_aload_n C.1 C.2.1 dX2_keepLine_8 rfl (lv_at hl 0 rfl) ?_
  refine k_get C F hw (b) (by omega) hE.1 rfl in_X2 5 (by decide) fl_X2_32 rfl dX2_keepLine_9 ?_
  refine lv_iload_n C.1 C.2.1 dX2_keepLine_12 rfl (lv_at hl 1 rfl) ?_
  refine k_add C dX2_keepLine_13 ?_
  refine k_iald C F hw (b + 62) (by omega) hE.2.2.2.2 (T + q) (by omega) (by decide) dX2_keepLine_14 ?_
  have hF1 : FieldAt ca ad g f pw ex := ⟨hF.1, hF.2.1, hF.2.2⟩
  refine k_Vi C F hw (i := f) (As := [.int (nI (ln (T + q)))]) (rest := []) (c_X3_inverse f pw ex hF1 hX (by omega) (ln (T + q)) hlq) (by omega) hF.1 rfl (cwV _ C.2.2.2.2 gm_X2_91 rfl rfl rfl cd_X3_inverse ⟨by decide, by decide⟩) hl.1 rfl (Nat.le_of_ble_eq_true rfl) dX2_keepLine_15 ⟨by decide, by decide⟩ (fun r2 g3 H locs hp hw => ?_)
  rw [← hsc] at hp
  obtain ⟨hr9, hg9⟩ := hp
  rw [hg9] at hw
  subst hr9
  refine lv_istore_n (lv' := [(2, .int (nI sc)), (0, .ref (ad b)), (1, .int (nI q))]) C.1 C.2.1 dX2_keepLine_18 rfl hl (by decide) rfl (fun ls hl => ?_)
  refine lv_aload_n C.1 C.2.1 dX2_keepLine_19 rfl (lv_at hl 1 rfl) ?_
  refine k_get C F hw (b) (by omega) hE.1 rfl in_X2 1 (by decide) fl_X2_17 rfl dX2_keepLine_20 ?_
  refine lv_iload_n C.1 C.2.1 dX2_keepLine_23 rfl (lv_at hl 2 rfl) ?_
  refine k_aald C F hw (b + 1) (by omega) hE.2.1 (a := ad (b + 2 + q)) (q) (by omega) (by decide) (if_pos (by omega)) dX2_keepLine_24 ?_
  refine lv_astore_n (lv' := [(3, .ref (ad (b + 2 + q))), (2, .int (nI sc)), (0, .ref (ad b)), (1, .int (nI q))]) C.1 C.2.1 dX2_keepLine_25 rfl hl (by decide) rfl (fun ls hl => ?_)
  refine k_icn C 0 dX2_keepLine_26 (by decide) ?_
  have hr4 : ∀ p9, p9 < 59 → g (b + 2 + p9) = na ca 75 ((va_up M q (M q)) p9) := by rw [va_up_id]; exact hE.2.2.1
  refine lv_istore (lv' := [(4, .int (nI 0)), (3, .ref (ad (b + 2 + q))), (2, .int (nI sc)), (0, .ref (ad b)), (1, .int (nI q))]) C.1 C.2.1 dX2_keepLine_27 hl (by decide) rfl (fun ls hl => ?_)
  have loop29 : ∀ (fuel : Nat) (j : Nat) (K : Nat → Nat) (gL : Nat → va_E) (H : Heap) (locs : List Loc) (ls : Array Slot), ((T + L - j) + 1 ≤ fuel) → (j ≤ T + L) → (K = fr (kpRow pw ex sc ln) j (M q)) → (By K) → (∀ z, (z < b ∨ b + 62 < z) → gL z = g z) → (gL (b) = .inr (2, [.ref (ad f), .ref (ad (b + 1)), .ref (ad (b + 61)), .ref (ad (b + 62)), .int (nI L), .int (nI T), .int (nI rk)])) → (gL (b + 1) = qa ca 59 (fun i => if i < 59 then some (ad (b + 2 + i)) else none)) → (gL (b + 61) = za ca 59 (ld)) → (gL (b + 62) = na ca 75 (ln)) → (∀ p9, p9 < 59 → gL (b + 2 + p9) = na ca 75 ((va_up M q K) p9)) → Wd D (AA R ad sz) s R ad gL H locs → lv_has ls 6 [(0, .ref (ad b)), (1, .int (nI q)), (2, .int (nI sc)), (3, .ref (ad (b + 2 + q))), (4, .int (nI j))] → W p l e rm_X2_keepLine s m args below meth c H locs 0 0 Q (F0 m 29 ls []) := by
    intro fuel
    induction fuel with
    | zero =>
      intro j K gL H locs ls hfu29
      exact absurd hfu29 (by omega)
    | succ fuel29 ih29 =>
      intro j K gL H locs ls hfu29 hj hKe hKb hsL29 eL29_0 eL29_1 eL29_2 eL29_3 hrL29_0 hw hl
      have e5 : gL (f) = .inr (3, [.ref (ad (f + 1)), .ref (ad (f + 2))]) := (hsL29 _ (by omega)).trans hF.1
      have e6 : gL (f + 1) = na ca 510 (pw) := (hsL29 _ (by omega)).trans hF.2.1
      have e7 : gL (f + 2) = na ca 256 (ex) := (hsL29 _ (by omega)).trans hF.2.2
      have e8 : gL (b + 2 + q) = na ca 75 K := by rw [hrL29_0 q (by omega), va_up_self]
      refine lv_iload C.1 C.2.1 dX2_keepLine_29 (lv_at hl 4 rfl) ?_
      refine lv_aload_n C.1 C.2.1 dX2_keepLine_31 rfl (lv_at hl 0 rfl) ?_
      refine k_get C F hw (b) (by omega) eL29_0 rfl in_X2 5 (by decide) fl_X2_32 rfl dX2_keepLine_32 ?_
      refine lv_aload_n C.1 C.2.1 dX2_keepLine_35 rfl (lv_at hl 0 rfl) ?_
      refine k_get C F hw (b) (by omega) eL29_0 rfl in_X2 4 (by decide) fl_X2_28 rfl dX2_keepLine_36 ?_
      refine k_add C dX2_keepLine_39 ?_
      refine k_ige (tgt := 68) C dX2_keepLine_40 (by decide) (by omega) (by omega) (fun hc40 => ?_) (fun hc40 => ?_)
      · have hKf : K = kpK pw ex L T q ln (M q) := by rw [hKe, show j = T + L by omega, hsc]; rfl
        refine lv_iload_n C.1 C.2.1 dX2_keepLine_68 rfl (lv_at hl 1 rfl) ?_
        refine k_icn C 1 dX2_keepLine_69 (by decide) ?_
        refine k_add C dX2_keepLine_70 ?_
        refine lv_istore (lv' := [(4, .int (nI (q + 1))), (0, .ref (ad b)), (1, .int (nI q)), (2, .int (nI sc)), (3, .ref (ad (b + 2 + q)))]) C.1 C.2.1 dX2_keepLine_71 hl (by decide) rfl (fun ls hl => ?_)
        have loop73 : ∀ (fuel : Nat) (n : Nat) (i : Nat) (Mx : Nat → Nat → Nat) (gL : Nat → va_E) (H : Heap) (locs : List Loc) (ls : Array Slot), ((L - i) + 1 ≤ fuel) → (i = q + 1 + n) → (i ≤ L) → (Mx = fr (fun n => kpStep pw ex T q ld (q + 1 + n)) n (va_up M q (kpK pw ex L T q ln (M q)))) → (∀ p, By (Mx p)) → (Mx q = kpK pw ex L T q ln (M q)) → (∀ z, (z < b ∨ b + 62 < z) → gL z = g z) → (gL (b) = .inr (2, [.ref (ad f), .ref (ad (b + 1)), .ref (ad (b + 61)), .ref (ad (b + 62)), .int (nI L), .int (nI T), .int (nI rk)])) → (gL (b + 1) = qa ca 59 (fun i => if i < 59 then some (ad (b + 2 + i)) else none)) → (gL (b + 61) = za ca 59 (ld)) → (gL (b + 62) = na ca 75 (ln)) → (∀ p9, p9 < 59 → gL (b + 2 + p9) = na ca 75 (Mx p9)) → Wd D (AA R ad sz) s R ad gL H locs → lv_has ls 6 [(0, .ref (ad b)), (1, .int (nI q)), (2, .int (nI sc)), (3, .ref (ad (b + 2 + q))), (4, .int (nI i))] → W p l e rm_X2_keepLine s m args below meth c H locs 0 0 Q (F0 m 73 ls []) := by
          intro fuel
          induction fuel with
          | zero =>
            intro n i Mx gL H locs ls hfu73
            exact absurd hfu73 (by omega)
          | succ fuel73 ih73 =>
            intro n i Mx gL H locs ls hfu73 hin hi hMe hMb hMq hsL73 eL73_0 eL73_1 eL73_2 eL73_3 hrL73_0 hw hl
            have e9 : gL (f) = .inr (3, [.ref (ad (f + 1)), .ref (ad (f + 2))]) := (hsL73 _ (by omega)).trans hF.1
            have e10 : gL (f + 1) = na ca 510 (pw) := (hsL73 _ (by omega)).trans hF.2.1
            have e11 : gL (f + 2) = na ca 256 (ex) := (hsL73 _ (by omega)).trans hF.2.2
            refine lv_iload C.1 C.2.1 dX2_keepLine_73 (lv_at hl 4 rfl) ?_
            refine lv_aload_n C.1 C.2.1 dX2_keepLine_75 rfl (lv_at hl 0 rfl) ?_
            refine k_get C F hw (b) (by omega) eL73_0 rfl in_X2 4 (by decide) fl_X2_28 rfl dX2_keepLine_76 ?_
            refine k_ige (tgt := 144) C dX2_keepLine_79 (by decide) (by omega) (by omega) (fun hc79 => ?_) (fun hc79 => ?_)
            · have hMf : Mx = kpM pw ex L T q ld ln M := by rw [hMe, show n = L - (q + 1) by omega]; rfl
              have hr12 : ∀ p9, p9 < 59 → gL (b + 2 + p9) = na ca 75 (kpM pw ex L T q ld ln M p9) := by rw [← hMf]; exact hrL73_0
              refine lv_aload_n C.1 C.2.1 dX2_keepLine_144 rfl (lv_at hl 0 rfl) ?_
              refine k_get C F hw (b) (by omega) eL73_0 rfl in_X2 2 (by decide) fl_X2_20 rfl dX2_keepLine_145 ?_
              refine lv_iload_n C.1 C.2.1 dX2_keepLine_148 rfl (lv_at hl 1 rfl) ?_
              refine k_icn C 1 dX2_keepLine_149 (by decide) ?_
              refine k_zast C F hw (b + 61) (by omega) eL73_2 (q) true (by rfl) (by omega) (by decide) dX2_keepLine_150 (fun H locs hw => ?_)
              have hw : Wd D (AA R ad sz) s R ad (va_up gL (b + 61) (za ca 59 (va_up ld q true))) H locs := hw
              obtain ⟨g13, hg13⟩ : ∃ z, z = va_up gL (b + 61) (za ca 59 (va_up ld q true)) := ⟨_, rfl⟩
              rw [← hg13] at hw
              have hk14 : ∀ z, z ≠ (b + 61) → g13 z = gL z := fun z hz => by rw [hg13]; exact va_up_ne _ _ hz
              have e15 : g13 (b + 61) = za ca 59 (va_up ld q true) := by rw [hg13]; exact va_up_self _ _ _
              have e16 : g13 (b) = .inr (2, [.ref (ad f), .ref (ad (b + 1)), .ref (ad (b + 61)), .ref (ad (b + 62)), .int (nI L), .int (nI T), .int (nI rk)]) := (hk14 _ (by omega)).trans eL73_0
              have e17 : g13 (b + 1) = qa ca 59 (fun i => if i < 59 then some (ad (b + 2 + i)) else none) := (hk14 _ (by omega)).trans eL73_1
              have e18 : g13 (b + 62) = na ca 75 (ln) := (hk14 _ (by omega)).trans eL73_3
              have e19 : g13 (f) = .inr (3, [.ref (ad (f + 1)), .ref (ad (f + 2))]) := (hk14 _ (by omega)).trans e9
              have e20 : g13 (f + 1) = na ca 510 (pw) := (hk14 _ (by omega)).trans e10
              have e21 : g13 (f + 2) = na ca 256 (ex) := (hk14 _ (by omega)).trans e11
              have hr22 : ∀ p9, p9 < 59 → g13 (b + 2 + p9) = na ca 75 ((kpM pw ex L T q ld ln M) p9) := fun p9 hp9 => (hk14 _ (by omega)).trans (hr12 p9 hp9)
              have hs23 : ∀ z, (z < b ∨ b + 62 < z) → g13 z = g z := fun z hz => (hk14 z (by omega)).trans (hsL73 z hz)
              refine lv_aload_n C.1 C.2.1 dX2_keepLine_151 rfl (lv_at hl 0 rfl) ?_
              refine lv_dup C.1 C.2.1 dX2_keepLine_152 rfl ?_
              refine k_get C F hw (b) (by omega) e16 rfl in_X2 6 (by decide) fl_X2_35 rfl dX2_keepLine_153 ?_
              refine k_icn C 1 dX2_keepLine_156 (by decide) ?_
              refine k_add C dX2_keepLine_157 ?_
              refine k_put C F hw (b) (by omega) e16 rfl in_X2 tyX2_ok nmX2 6 (by decide) fl_X2_35 rfl (v := .int (nI (rk + 1))) rfl rfl (Nat.le_of_ble_eq_true rfl) dX2_keepLine_158 (fun H locs hw => ?_)
              have hw : Wd D (AA R ad sz) s R ad (va_up g13 (b) (.inr (2, [.ref (ad f), .ref (ad (b + 1)), .ref (ad (b + 61)), .ref (ad (b + 62)), .int (nI L), .int (nI T), .int (nI (rk + 1))]))) H locs := hw
              obtain ⟨g24, hg24⟩ : ∃ z, z = va_up g13 (b) (.inr (2, [.ref (ad f), .ref (ad (b + 1)), .ref (ad (b + 61)), .ref (ad (b + 62)), .int (nI L), .int (nI T), .int (nI (rk + 1))])) := ⟨_, rfl⟩
              rw [← hg24] at hw
              have hk25 : ∀ z, z ≠ b → g24 z = g13 z := fun z hz => by rw [hg24]; exact va_up_ne _ _ hz
              have e26 : g24 (b) = .inr (2, [.ref (ad f), .ref (ad (b + 1)), .ref (ad (b + 61)), .ref (ad (b + 62)), .int (nI L), .int (nI T), .int (nI (rk + 1))]) := by rw [hg24]; exact va_up_self _ _ _
              have e27 : g24 (b + 1) = qa ca 59 (fun i => if i < 59 then some (ad (b + 2 + i)) else none) := (hk25 _ (by omega)).trans e17
              have e28 : g24 (b + 61) = za ca 59 (va_up ld q true) := (hk25 _ (by omega)).trans e15
              have e29 : g24 (b + 62) = na ca 75 (ln) := (hk25 _ (by omega)).trans e18
              have e30 : g24 (f) = .inr (3, [.ref (ad (f + 1)), .ref (ad (f + 2))]) := (hk25 _ (by omega)).trans e19
              have e31 : g24 (f + 1) = na ca 510 (pw) := (hk25 _ (by omega)).trans e20
              have e32 : g24 (f + 2) = na ca 256 (ex) := (hk25 _ (by omega)).trans e21
              have hr33 : ∀ p9, p9 < 59 → g24 (b + 2 + p9) = na ca 75 ((kpM pw ex L T q ld ln M) p9) := fun p9 hp9 => (hk25 _ (by omega)).trans (hr22 p9 hp9)
              have hs34 : ∀ z, (z < b ∨ b + 62 < z) → g24 z = g z := fun z hz => (hk25 z (by omega)).trans (hs23 z hz)
              exact hret H locs ls _ _ dX2_keepLine_161 hw (⟨hs34, e26, e27, hr33, e28, e29⟩)
            · refine lv_aload_n C.1 C.2.1 dX2_keepLine_82 rfl (lv_at hl 0 rfl) ?_
              refine k_get C F hw (b) (by omega) eL73_0 rfl in_X2 1 (by decide) fl_X2_17 rfl dX2_keepLine_83 ?_
              refine lv_iload C.1 C.2.1 dX2_keepLine_86 (lv_at hl 4 rfl) ?_
              refine k_aald C F hw (b + 1) (by omega) eL73_1 (a := ad (b + 2 + i)) (i) (by omega) (by decide) (if_pos (by omega)) dX2_keepLine_88 ?_
              refine lv_aload_n C.1 C.2.1 dX2_keepLine_89 rfl (lv_at hl 0 rfl) ?_
              refine k_get C F hw (b) (by omega) eL73_0 rfl in_X2 5 (by decide) fl_X2_32 rfl dX2_keepLine_90 ?_
              refine lv_iload_n C.1 C.2.1 dX2_keepLine_93 rfl (lv_at hl 1 rfl) ?_
              refine k_add C dX2_keepLine_94 ?_
              refine k_iald C F hw (b + 2 + i) (by omega) (hrL73_0 i (by omega)) (T + q) (by omega) (by decide) dX2_keepLine_95 ?_
              have hfb9 := hMb i (T + q)
              refine lv_istore (lv' := [(5, .int (nI ((Mx i) (T + q)))), (0, .ref (ad b)), (1, .int (nI q)), (2, .int (nI sc)), (3, .ref (ad (b + 2 + q))), (4, .int (nI i))]) C.1 C.2.1 dX2_keepLine_96 hl (by decide) rfl (fun ls hl => ?_)
              refine lv_iload C.1 C.2.1 dX2_keepLine_98 (lv_at hl 0 rfl) ?_
              refine k_zeq (tgt := 138) C dX2_keepLine_100 (by decide) (by omega) (fun hc100 => ?_) (fun hc100 => ?_)
              · refine k_inc C (i + 1) (lv' := [(4, .int (nI (i + 1))), (5, .int (nI ((Mx i) (T + q)))), (0, .ref (ad b)), (1, .int (nI q)), (2, .int (nI sc)), (3, .ref (ad (b + 2 + q)))]) dX2_keepLine_138 hl (k := 5) rfl (inc1 _) (by decide) rfl (fun ls hl => ?_)
                refine lv_goto (tgt := 73) C.1 C.2.1 dX2_keepLine_141 (by decide) ?_
                exact ih73 (n + 1) (i + 1) Mx gL H locs ls (by omega) (by omega) (by omega) (by show _ = kpStep pw ex T q ld (q + 1 + n) (fr _ n _); rw [← hMe, ← hin]; exact (kpStep_f (by first | exact Or.inl hc100 | exact Or.inr hc110)).symm) hMb hMq hsL73 eL73_0 eL73_1 eL73_2 eL73_3 hrL73_0 hw (lv_sub hl [2, 3, 4, 5, 0] rfl)
              · refine lv_aload_n C.1 C.2.1 dX2_keepLine_103 rfl (lv_at hl 1 rfl) ?_
                refine k_get C F hw (b) (by omega) eL73_0 rfl in_X2 2 (by decide) fl_X2_20 rfl dX2_keepLine_104 ?_
                refine lv_iload C.1 C.2.1 dX2_keepLine_107 (lv_at hl 5 rfl) ?_
                refine k_zald C F hw (b + 61) (by omega) eL73_2 (i) (by omega) (by decide) dX2_keepLine_109 ?_
                refine k_beq (tgt := 138) C dX2_keepLine_110 (by decide) (fun hc110 => ?_) (fun hc110 => ?_)
                · refine k_inc C (i + 1) (lv' := [(4, .int (nI (i + 1))), (5, .int (nI ((Mx i) (T + q)))), (0, .ref (ad b)), (1, .int (nI q)), (2, .int (nI sc)), (3, .ref (ad (b + 2 + q)))]) dX2_keepLine_138 hl (k := 5) rfl (inc1 _) (by decide) rfl (fun ls hl => ?_)
                  refine lv_goto (tgt := 73) C.1 C.2.1 dX2_keepLine_141 (by decide) ?_
                  exact ih73 (n + 1) (i + 1) Mx gL H locs ls (by omega) (by omega) (by omega) (by show _ = kpStep pw ex T q ld (q + 1 + n) (fr _ n _); rw [← hMe, ← hin]; exact (kpStep_f (by first | exact Or.inl hc100 | exact Or.inr hc110)).symm) hMb hMq hsL73 eL73_0 eL73_1 eL73_2 eL73_3 hrL73_0 hw (lv_sub hl [2, 3, 4, 5, 0] rfl)
                · refine lv_aload_n C.1 C.2.1 dX2_keepLine_113 rfl (lv_at hl 1 rfl) ?_
                  refine k_get C F hw (b) (by omega) eL73_0 rfl in_X2 0 (by decide) fl_X2_9 rfl dX2_keepLine_114 ?_
                  refine lv_aload_n C.1 C.2.1 dX2_keepLine_117 rfl (lv_at hl 1 rfl) ?_
                  refine k_get C F hw (b) (by omega) eL73_0 rfl in_X2 1 (by decide) fl_X2_17 rfl dX2_keepLine_118 ?_
                  refine lv_iload C.1 C.2.1 dX2_keepLine_121 (lv_at hl 5 rfl) ?_
                  refine k_aald C F hw (b + 1) (by omega) eL73_1 (a := ad (b + 2 + i)) (i) (by omega) (by decide) (if_pos (by omega)) dX2_keepLine_123 ?_
                  refine lv_aload_n C.1 C.2.1 dX2_keepLine_124 rfl (lv_at hl 4 rfl) ?_
                  refine lv_iload C.1 C.2.1 dX2_keepLine_125 (lv_at hl 0 rfl) ?_
                  refine lv_aload_n C.1 C.2.1 dX2_keepLine_127 rfl (lv_at hl 1 rfl) ?_
                  refine k_get C F hw (b) (by omega) eL73_0 rfl in_X2 5 (by decide) fl_X2_32 rfl dX2_keepLine_128 ?_
                  refine lv_iload_n C.1 C.2.1 dX2_keepLine_131 rfl (lv_at hl 2 rfl) ?_
                  refine k_add C dX2_keepLine_132 ?_
                  refine k_icn C 1 dX2_keepLine_133 (by decide) ?_
                  refine k_add C dX2_keepLine_134 ?_
                  have hF35 : FieldAt ca ad gL f pw ex := ⟨e9, e10, e11⟩
                  refine k_Vv C F hw (i := f) (As := [.ref (ad (b + 2 + i)), .ref (ad (b + 2 + q)), .int (nI ((Mx i) (T + q))), .int (nI ((T + q) + 1))]) (rest := []) (c_X3_addTimes f pw ex hF35 hX (by omega) (b + 2 + i) (b + 2 + q) 75 75 (Mx i) (Mx q) (Mx i (T + q)) (T + q + 1) (by omega) (by omega) (by omega) (by omega) (hrL73_0 i (by omega)) (hrL73_0 q (by omega)) hfb9 (by omega) (by omega) (by decide) (fun j9 _ => hMb q j9)) (by omega) e9 rfl (cwV _ C.2.2.2.2 gm_X2_87 rfl rfl rfl cd_X3_addTimes ⟨by decide, by decide⟩) hl.1 rfl (Nat.le_of_ble_eq_true rfl) dX2_keepLine_135 ⟨by decide, by decide⟩ (fun g37 H locs hp hw => ?_)
                  obtain ⟨hk38, e39⟩ := hp
                  have e40 : g37 (b) = .inr (2, [.ref (ad f), .ref (ad (b + 1)), .ref (ad (b + 61)), .ref (ad (b + 62)), .int (nI L), .int (nI T), .int (nI rk)]) := (hk38 _ (by omega)).trans eL73_0
                  have e41 : g37 (b + 1) = qa ca 59 (fun i => if i < 59 then some (ad (b + 2 + i)) else none) := (hk38 _ (by omega)).trans eL73_1
                  have e42 : g37 (b + 61) = za ca 59 (ld) := (hk38 _ (by omega)).trans eL73_2
                  have e43 : g37 (b + 62) = na ca 75 (ln) := (hk38 _ (by omega)).trans eL73_3
                  have e44 : g37 (f) = .inr (3, [.ref (ad (f + 1)), .ref (ad (f + 2))]) := (hk38 _ (by omega)).trans e9
                  have e45 : g37 (f + 1) = na ca 510 (pw) := (hk38 _ (by omega)).trans e10
                  have e46 : g37 (f + 2) = na ca 256 (ex) := (hk38 _ (by omega)).trans e11
                  have hr47 : ∀ p9, p9 < 59 → g37 (b + 2 + p9) = na ca 75 ((va_up Mx i (fr (fAdd pw ex (Mx q) (Mx i (T + q))) (T + q + 1) (Mx i))) p9) := fun p9 hp9 => by
                    by_cases h9 : p9 = i
                    · subst h9; rw [e39, va_up_self]
                    · rw [hk38 _ (by omega), va_up_ne _ _ h9]; exact hrL73_0 p9 hp9
                  have hs48 : ∀ z, (z < b ∨ b + 62 < z) → g37 z = g z := fun z hz => (hk38 z (by omega)).trans (hsL73 z hz)
                  refine k_inc C (i + 1) (lv' := [(4, .int (nI (i + 1))), (5, .int (nI ((Mx i) (T + q)))), (0, .ref (ad b)), (1, .int (nI q)), (2, .int (nI sc)), (3, .ref (ad (b + 2 + q)))]) dX2_keepLine_138 hl (k := 5) rfl (inc1 _) (by decide) rfl (fun ls hl => ?_)
                  refine lv_goto (tgt := 73) C.1 C.2.1 dX2_keepLine_141 (by decide) ?_
                  exact ih73 (n + 1) (i + 1) (va_up Mx i (fr (fAdd pw ex (Mx q) (Mx i (T + q))) (T + q + 1) (Mx i))) g37 H locs ls (by omega) (by omega) (by omega) (by show _ = kpStep pw ex T q ld (q + 1 + n) (fr _ n _); rw [← hMe, ← hin]; exact (kpStep_t hc100 hc110).symm) (By2.up hMb (By.add hP (hMb i) _)) (by rw [va_up_ne _ _ (by omega)]; exact hMq) hs48 e40 e41 e42 e43 hr47 hw (lv_sub hl [2, 3, 4, 5, 0] rfl)
        exact loop73 _ 0 (q + 1) (va_up M q K) gL H locs ls (Nat.le_refl _) rfl (by omega) (by rw [hKf]; rfl) (By2.up hM hKb) (by rw [va_up_self, hKf]) hsL29 eL29_0 eL29_1 eL29_2 eL29_3 hrL29_0 hw (lv_sub hl [1, 2, 3, 4, 0] rfl)
      · refine lv_aload_n C.1 C.2.1 dX2_keepLine_43 rfl (lv_at hl 3 rfl) ?_
        refine lv_iload C.1 C.2.1 dX2_keepLine_44 (lv_at hl 4 rfl) ?_
        refine lv_aload_n C.1 C.2.1 dX2_keepLine_46 rfl (lv_at hl 0 rfl) ?_
        refine k_get C F hw (b) (by omega) eL29_0 rfl in_X2 0 (by decide) fl_X2_9 rfl dX2_keepLine_47 ?_
        refine lv_iload_n C.1 C.2.1 dX2_keepLine_50 rfl (lv_at hl 2 rfl) ?_
        refine lv_aload_n C.1 C.2.1 dX2_keepLine_51 rfl (lv_at hl 0 rfl) ?_
        refine k_get C F hw (b) (by omega) eL29_0 rfl in_X2 3 (by decide) fl_X2_24 rfl dX2_keepLine_52 ?_
        refine lv_iload C.1 C.2.1 dX2_keepLine_55 (lv_at hl 4 rfl) ?_
        refine k_iald C F hw (b + 62) (by omega) eL29_3 (j) (by omega) (by decide) dX2_keepLine_57 ?_
        have hF49 : FieldAt ca ad gL f pw ex := ⟨e5, e6, e7⟩
        refine k_Vi C F hw (i := f) (As := [.int (nI sc), .int (nI (ln j))]) (rest := [.int (nI j), .ref (ad (b + 2 + q))]) (c_X3_times f pw ex hF49 hX (by omega) sc (ln j) hscb (hln j)) (by omega) e5 rfl (cwV _ C.2.2.2.2 gm_X2_94 rfl rfl rfl cd_X3_times ⟨by decide, by decide⟩) hl.1 rfl (Nat.le_of_ble_eq_true rfl) dX2_keepLine_58 ⟨by decide, by decide⟩ (fun r50 g51 H locs hp hw => ?_)
        obtain ⟨hr9, hg9⟩ := hp
        rw [hg9] at hw
        subst hr9
        refine k_iast C F hw (b + 2 + q) (by omega) e8 (j) (fTimes pw ex sc (ln j)) (by omega) (by decide) dX2_keepLine_61 (fun H locs hw => ?_)
        have hw : Wd D (AA R ad sz) s R ad (va_up gL (b + 2 + q) (na ca 75 (va_up K j (fTimes pw ex sc (ln j))))) H locs := hw
        obtain ⟨g52, hg52⟩ : ∃ z, z = va_up gL (b + 2 + q) (na ca 75 (va_up K j (fTimes pw ex sc (ln j)))) := ⟨_, rfl⟩
        rw [← hg52] at hw
        have hk53 : ∀ z, z ≠ (b + 2 + q) → g52 z = gL z := fun z hz => by rw [hg52]; exact va_up_ne _ _ hz
        have e54 : g52 (b + 2 + q) = na ca 75 (va_up K j (fTimes pw ex sc (ln j))) := by rw [hg52]; exact va_up_self _ _ _
        have e55 : g52 (b) = .inr (2, [.ref (ad f), .ref (ad (b + 1)), .ref (ad (b + 61)), .ref (ad (b + 62)), .int (nI L), .int (nI T), .int (nI rk)]) := (hk53 _ (by omega)).trans eL29_0
        have e56 : g52 (b + 1) = qa ca 59 (fun i => if i < 59 then some (ad (b + 2 + i)) else none) := (hk53 _ (by omega)).trans eL29_1
        have e57 : g52 (b + 61) = za ca 59 (ld) := (hk53 _ (by omega)).trans eL29_2
        have e58 : g52 (b + 62) = na ca 75 (ln) := (hk53 _ (by omega)).trans eL29_3
        have e59 : g52 (f) = .inr (3, [.ref (ad (f + 1)), .ref (ad (f + 2))]) := (hk53 _ (by omega)).trans e5
        have e60 : g52 (f + 1) = na ca 510 (pw) := (hk53 _ (by omega)).trans e6
        have e61 : g52 (f + 2) = na ca 256 (ex) := (hk53 _ (by omega)).trans e7
        have hr62 : ∀ p9, p9 < 59 → g52 (b + 2 + p9) = na ca 75 ((va_up (va_up M q K) q (va_up K j (fTimes pw ex sc (ln j)))) p9) := fun p9 hp9 => by
          by_cases h9 : p9 = q
          · subst h9; rw [e54, va_up_self]
          · rw [hk53 _ (by omega), va_up_ne _ _ h9]; exact hrL29_0 p9 hp9
        have hs63 : ∀ z, (z < b ∨ b + 62 < z) → g52 z = g z := fun z hz => (hk53 z (by omega)).trans (hsL29 z hz)
        refine k_inc C (j + 1) (lv' := [(4, .int (nI (j + 1))), (0, .ref (ad b)), (1, .int (nI q)), (2, .int (nI sc)), (3, .ref (ad (b + 2 + q)))]) dX2_keepLine_62 hl (k := 4) rfl (inc1 _) (by decide) rfl (fun ls hl => ?_)
        refine lv_goto (tgt := 29) C.1 C.2.1 dX2_keepLine_65 (by decide) ?_
        have hr64 : ∀ p9, p9 < 59 → g52 (b + 2 + p9) = na ca 75 ((va_up M q (va_up K j (fTimes pw ex sc (ln j)))) p9) := by have h9 := hr62; rw [bx_uu] at h9; exact h9
        exact ih29 (j + 1) (va_up K j (fTimes pw ex sc (ln j))) g52 H locs ls (by omega) (by omega) (by rw [hKe]; rfl) (By.up hKb (fTimes_by hP _ _)) hs63 e55 e56 e57 e58 hr64 hw (lv_sub hl [1, 2, 3, 4, 0] rfl)
  exact loop29 _ 0 (M q) g H locs ls (Nat.le_refl _) (by omega) rfl (hM q) (fun z _ => rfl) hE.1 hE.2.1 hE.2.2.2.1 hE.2.2.2.2 hr4 hw (lv_sub hl [3, 4, 2, 1, 0] rfl)
