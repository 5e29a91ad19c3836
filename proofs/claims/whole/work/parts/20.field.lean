/-! ===== Field ===== -/
def FieldAt (ca : Nat → ClassId) (ad : Nat → Nat) (g : Nat → va_E) (f : Nat) (pw ex : Nat → Nat) : Prop := g f = .inr (3, [.ref (ad (f + 1)), .ref (ad (f + 2))]) ∧ g (f + 1) = na ca 510 pw ∧ g (f + 2) = na ca 256 ex
/-- the exponents' range -/
def ExOk (ex : Nat → Nat) : Prop := ∀ x, ex x ≤ 254
def fTimes (pw ex : Nat → Nat) (a b : Nat) : Nat := if a = 0 ∨ b = 0 then 0 else pw (ex a + ex b)
def fAdd (pw ex : Nat → Nat) (G : Nat → Nat) (fac : Nat) (i : Nat) (F : Nat → Nat) : Nat → Nat := if G i = 0 then F else va_up F i (F i ^^^ pw (ex fac + ex (G i)))

abbrev rm_X3_times : Room := { frames := 0, cells := 0, slots := 0, locals := 0 }

set_option maxHeartbeats 800000 in
set_option maxRecDepth 100000 in
/-- Field.times -/
theorem c_X3_times {l : Launch} {D : va_G} {ca : Nat → ClassId} {tB tS R : Nat} {ad : Nat → Nat} {g : Nat → va_E} {sz : Nat} (f : Nat) (pw ex : Nat → Nat) (hF : FieldAt ca ad g f pw ex) (hX : ExOk ex) (hR : f + 2 < R) (a b : Nat) (ha : a < 256) (hb : b < 256) : MI l yX3_times cX3_times 3 .int rm_X3_times D ca tB tS R ad g sz [.ref (ad f), .int (nI a), .int (nI b)] (fun r g1 => r = nI (fTimes pw ex a b) ∧ g1 = g) := by
  refine m_startI (by decide +kernel) (Nat.le_of_ble_eq_true rfl) (fun p e s m args below meth c ls Q hsz C hl F hw hret => ?_)
  have hl : lv_has ls 3 [(0, .ref (ad f)), (1, .int (nI a)), (2, .int (nI b))] := hl
  generalize s.heap = H at hw ⊢
  generalize ([] : List Loc) = locs at hw ⊢
  have hxa := hX a
  have hxb := hX b
  refine lv_iload_n C.1 C.2.1 dX3_times_0 rfl (lv_at hl 1 rfl) ?_
  refine k_zeq (tgt := 8) C dX3_times_1 (by decide) (by omega) (fun hc1 => ?_) (fun hc1 => ?_)
  · refine k_icn C 0 dX3_times_8 (by decide) ?_
    refine lv_goto (tgt := 30) C.1 C.2.1 dX3_times_9 (by decide) ?_
    exact hret H locs ls _ _ _ dX3_times_30 hw (⟨by simp [fTimes, *], rfl⟩)
  · refine lv_iload_n C.1 C.2.1 dX3_times_4 rfl (lv_at hl 2 rfl) ?_
    refine k_zne (tgt := 12) C dX3_times_5 (by decide) (by omega) (fun hc5 => ?_) (fun hc5 => ?_)
    · refine lv_aload_n C.1 C.2.1 dX3_times_12 rfl (lv_at hl 0 rfl) ?_
      refine k_get C F hw (f) (by omega) hF.1 rfl in_X3 0 (by decide) fl_X3_9 rfl dX3_times_13 ?_
      refine lv_aload_n C.1 C.2.1 dX3_times_16 rfl (lv_at hl 0 rfl) ?_
      refine k_get C F hw (f) (by omega) hF.1 rfl in_X3 1 (by decide) fl_X3_13 rfl dX3_times_17 ?_
      refine lv_iload_n C.1 C.2.1 dX3_times_20 rfl (lv_at hl 1 rfl) ?_
      refine k_iald C F hw (f + 2) (by omega) hF.2.2 (a) (by omega) (by decide) dX3_times_21 ?_
      refine lv_aload_n C.1 C.2.1 dX3_times_22 rfl (lv_at hl 0 rfl) ?_
      refine k_get C F hw (f) (by omega) hF.1 rfl in_X3 1 (by decide) fl_X3_13 rfl dX3_times_23 ?_
      refine lv_iload_n C.1 C.2.1 dX3_times_26 rfl (lv_at hl 2 rfl) ?_
      refine k_iald C F hw (f + 2) (by omega) hF.2.2 (b) (by omega) (by decide) dX3_times_27 ?_
      refine k_add C dX3_times_28 ?_
      refine k_iald C F hw (f + 1) (by omega) hF.2.1 ((ex a) + (ex b)) (by omega) (by decide) dX3_times_29 ?_
      exact hret H locs ls _ _ _ dX3_times_30 hw (⟨by simp [fTimes, *], rfl⟩)
    · refine k_icn C 0 dX3_times_8 (by decide) ?_
      refine lv_goto (tgt := 30) C.1 C.2.1 dX3_times_9 (by decide) ?_
      exact hret H locs ls _ _ _ dX3_times_30 hw (⟨by simp [fTimes, *], rfl⟩)

abbrev rm_X3_inverse : Room := { frames := 0, cells := 0, slots := 0, locals := 0 }

set_option maxHeartbeats 800000 in
set_option maxRecDepth 100000 in
/-- Field.inverse -/
theorem c_X3_inverse {l : Launch} {D : va_G} {ca : Nat → ClassId} {tB tS R : Nat} {ad : Nat → Nat} {g : Nat → va_E} {sz : Nat} (f : Nat) (pw ex : Nat → Nat) (hF : FieldAt ca ad g f pw ex) (hX : ExOk ex) (hR : f + 2 < R) (a : Nat) (ha : a < 256) : MI l yX3_inverse cX3_inverse 2 .int rm_X3_inverse D ca tB tS R ad g sz [.ref (ad f), .int (nI a)] (fun r g1 => r = nI (pw (255 - ex a)) ∧ g1 = g) := by
  refine m_startI (by decide +kernel) (Nat.le_of_ble_eq_true rfl) (fun p e s m args below meth c ls Q hsz C hl F hw hret => ?_)
  have hl : lv_has ls 2 [(0, .ref (ad f)), (1, .int (nI a))] := hl
  generalize s.heap = H at hw ⊢
  generalize ([] : List Loc) = locs at hw ⊢
  have hxa := hX a
  refine lv_aload_n C.1 C.2.1 dX3_inverse_0 rfl (lv_at hl 0 rfl) ?_
  refine k_get C F hw (f) (by omega) hF.1 rfl in_X3 0 (by decide) fl_X3_9 rfl dX3_inverse_1 ?_
  refine k_sip C 255 dX3_inverse_4 (by decide) ?_
  refine lv_aload_n C.1 C.2.1 dX3_inverse_7 rfl (lv_at hl 0 rfl) ?_
  refine k_get C F hw (f) (by omega) hF.1 rfl in_X3 1 (by decide) fl_X3_13 rfl dX3_inverse_8 ?_
  refine lv_iload_n C.1 C.2.1 dX3_inverse_11 rfl (lv_at hl 1 rfl) ?_
  refine k_iald C F hw (f + 2) (by omega) hF.2.2 (a) (by omega) (by decide) dX3_inverse_12 ?_
  refine k_sub C dX3_inverse_13 (by omega) ?_
  refine k_iald C F hw (f + 1) (by omega) hF.2.1 (255 - (ex a)) (by omega) (by decide) dX3_inverse_14 ?_
  exact hret H locs ls _ _ _ dX3_inverse_15 hw (⟨rfl, rfl⟩)

abbrev rm_X3_powerOfTwo : Room := { frames := 0, cells := 0, slots := 0, locals := 0 }

set_option maxHeartbeats 800000 in
set_option maxRecDepth 100000 in
/-- Field.powerOfTwo -/
theorem c_X3_powerOfTwo {l : Launch} {D : va_G} {ca : Nat → ClassId} {tB tS R : Nat} {ad : Nat → Nat} {g : Nat → va_E} {sz : Nat} (f : Nat) (pw ex : Nat → Nat) (hF : FieldAt ca ad g f pw ex) (hX : ExOk ex) (hR : f + 2 < R) (k : Nat) (hk : k < 2 ^ 31) : MI l yX3_powerOfTwo cX3_powerOfTwo 2 .int rm_X3_powerOfTwo D ca tB tS R ad g sz [.ref (ad f), .int (nI k)] (fun r g1 => r = nI (pw (k % 255)) ∧ g1 = g) := by
  refine m_startI (by decide +kernel) (Nat.le_of_ble_eq_true rfl) (fun p e s m args below meth c ls Q hsz C hl F hw hret => ?_)
  have hl : lv_has ls 2 [(0, .ref (ad f)), (1, .int (nI k))] := hl
  generalize s.heap = H at hw ⊢
  generalize ([] : List Loc) = locs at hw ⊢
  refine lv_aload_n C.1 C.2.1 dX3_powerOfTwo_0 rfl (lv_at hl 0 rfl) ?_
  refine k_get C F hw (f) (by omega) hF.1 rfl in_X3 0 (by decide) fl_X3_9 rfl dX3_powerOfTwo_1 ?_
  refine lv_iload_n C.1 C.2.1 dX3_powerOfTwo_4 rfl (lv_at hl 1 rfl) ?_
  refine k_sip C 255 dX3_powerOfTwo_5 (by decide) ?_
  refine k_rem C dX3_powerOfTwo_8 (by omega) (by omega) (by omega) ?_
  refine k_iald C F hw (f + 1) (by omega) hF.2.1 (k % 255) (by omega) (by decide) dX3_powerOfTwo_9 ?_
  exact hret H locs ls _ _ _ dX3_powerOfTwo_10 hw (⟨rfl, rfl⟩)

abbrev rm_X3_addTimes : Room := { frames := 0, cells := 0, slots := 0, locals := 0 }

set_option maxHeartbeats 800000 in
set_option maxRecDepth 100000 in
/-- Field.addTimes -/
theorem c_X3_addTimes {l : Launch} {D : va_G} {ca : Nat → ClassId} {tB tS R : Nat} {ad : Nat → Nat} {g : Nat → va_E} {sz : Nat} (f : Nat) (pw ex : Nat → Nat) (hF : FieldAt ca ad g f pw ex) (hX : ExOk ex) (hR : f + 2 < R) (t r nt nr : Nat) (F1 G : Nat → Nat) (fac len : Nat) (htf : t < f ∨ f + 2 < t) (htr : t ≠ r) (ht : t < R) (hr : r < R) (eT : g t = na ca nt F1) (eG : g r = na ca nr G) (hfac : fac < 256) (hnt : len ≤ nt) (hnr : len ≤ nr) (h31 : nt < 2 ^ 31 ∧ nr < 2 ^ 31) (hG : ∀ j, j < len → G j < 256) : MV l yX3_addTimes cX3_addTimes 8 rm_X3_addTimes D ca tB tS R ad g sz [.ref (ad f), .ref (ad t), .ref (ad r), .int (nI fac), .int (nI len)] (fun g1 => (∀ z, z ≠ t → g1 z = g z) ∧ g1 t = na ca nt (fr (fAdd pw ex G fac) len F1)) := by
  refine m_startV (by decide +kernel) (Nat.le_of_ble_eq_true rfl) (fun p e s m args below meth c ls Q hsz C hnm hl F hw hret => ?_)
  have hl : lv_has ls 8 [(0, .ref (ad f)), (1, .ref (ad t)), (2, .ref (ad r)), (3, .int (nI fac)), (4, .int (nI len))] := hl
  generalize s.heap = H at hw ⊢
  generalize ([] : List Loc) = locs at hw ⊢
  refine lv_aload_n C.1 C.2.1 dX3_addTimes_0 rfl (lv_at hl 0 rfl) ?_
  refine k_get C F hw (f) (by omega) hF.1 rfl in_X3 1 (by decide) fl_X3_13 rfl dX3_addTimes_1 ?_
  refine lv_iload_n C.1 C.2.1 dX3_addTimes_4 rfl (lv_at hl 3 rfl) ?_
  refine k_iald C F hw (f + 2) (by omega) hF.2.2 (fac) (by omega) (by decide) dX3_addTimes_5 ?_
  refine lv_istore (lv' := [(5, .int (nI (ex fac))), (0, .ref (ad f)), (1, .ref (ad t)), (2, .ref (ad r)), (3, .int (nI fac)), (4, .int (nI len))]) C.1 C.2.1 dX3_addTimes_6 hl (by decide) rfl (fun ls hl => ?_)
  refine k_icn C 0 dX3_addTimes_8 (by decide) ?_
  refine lv_istore (lv' := [(6, .int (nI 0)), (5, .int (nI (ex fac))), (0, .ref (ad f)), (1, .ref (ad t)), (2, .ref (ad r)), (3, .int (nI fac)), (4, .int (nI len))]) C.1 C.2.1 dX3_addTimes_9 hl (by decide) rfl (fun ls hl => ?_)
  have loop11 : ∀ (fuel : Nat) (i : Nat) (f1 : Nat → Nat) (gL : Nat → va_E) (H : Heap) (locs : List Loc) (ls : Array Slot), ((len - i) + 1 ≤ fuel) → (i ≤ len) → (f1 = fr (fAdd pw ex G fac) i F1) → (∀ z, z ≠ t → gL z = g z) → (gL (t) = na ca nt (f1)) → Wd D (AA R ad sz) s R ad gL H locs → lv_has ls 8 [(0, .ref (ad f)), (1, .ref (ad t)), (2, .ref (ad r)), (3, .int (nI fac)), (4, .int (nI len)), (5, .int (nI (ex fac))), (6, .int (nI i))] → W p l e rm_X3_addTimes s m args below meth c H locs 0 0 Q (F0 m 11 ls []) := by
    intro fuel
    induction fuel with
    | zero =>
      intro i f1 gL H locs ls hfu11
      exact absurd hfu11 (by omega)
    | succ fuel11 ih11 =>
      intro i f1 gL H locs ls hfu11 hi hF1 hsL11 eL11_0 hw hl
      have e1 : gL (f) = .inr (3, [.ref (ad (f + 1)), .ref (ad (f + 2))]) := (hsL11 _ (by omega)).trans hF.1
      have e2 : gL (f + 1) = na ca 510 (pw) := (hsL11 _ (by omega)).trans hF.2.1
      have e3 : gL (f + 2) = na ca 256 (ex) := (hsL11 _ (by omega)).trans hF.2.2
      have e4 : gL (r) = na ca nr (G) := (hsL11 _ (by omega)).trans eG
      refine lv_iload C.1 C.2.1 dX3_addTimes_11 (lv_at hl 6 rfl) ?_
      refine lv_iload C.1 C.2.1 dX3_addTimes_13 (lv_at hl 4 rfl) ?_
      refine k_ige (tgt := 57) C dX3_addTimes_15 (by decide) (by omega) (by omega) (fun hc15 => ?_) (fun hc15 => ?_)
      · exact hret H locs ls _ _ dX3_addTimes_57 hw (⟨hsL11, by rw [eL11_0, hF1, show i = len by omega]⟩)
      · refine lv_aload_n C.1 C.2.1 dX3_addTimes_18 rfl (lv_at hl 2 rfl) ?_
        refine lv_iload C.1 C.2.1 dX3_addTimes_19 (lv_at hl 6 rfl) ?_
        refine k_iald C F hw (r) (by omega) e4 (i) (by omega) (by omega) dX3_addTimes_21 ?_
        refine lv_istore (lv' := [(7, .int (nI (G i))), (0, .ref (ad f)), (1, .ref (ad t)), (2, .ref (ad r)), (3, .int (nI fac)), (4, .int (nI len)), (5, .int (nI (ex fac))), (6, .int (nI i))]) C.1 C.2.1 dX3_addTimes_22 hl (by decide) rfl (fun ls hl => ?_)
        have hGi := hG i (by omega)
        have hx1 := hX fac
        have hx2 := hX (G i)
        refine lv_iload C.1 C.2.1 dX3_addTimes_24 (lv_at hl 0 rfl) ?_
        refine k_zeq (tgt := 51) C dX3_addTimes_26 (by decide) (by omega) (fun hc26 => ?_) (fun hc26 => ?_)
        · refine k_inc C (i + 1) (lv' := [(6, .int (nI (i + 1))), (7, .int (nI (G i))), (0, .ref (ad f)), (1, .ref (ad t)), (2, .ref (ad r)), (3, .int (nI fac)), (4, .int (nI len)), (5, .int (nI (ex fac)))]) dX3_addTimes_51 hl (k := 7) rfl (inc1 _) (by decide) rfl (fun ls hl => ?_)
          refine lv_goto (tgt := 11) C.1 C.2.1 dX3_addTimes_54 (by decide) ?_
          exact ih11 (i + 1) f1 gL H locs ls (by omega) (by omega) (by rw [hF1]; simp [fr, fAdd, *]) hsL11 eL11_0 hw (lv_sub hl [2, 3, 4, 5, 6, 7, 0] rfl)
        · refine lv_aload_n C.1 C.2.1 dX3_addTimes_29 rfl (lv_at hl 2 rfl) ?_
          refine lv_iload C.1 C.2.1 dX3_addTimes_30 (lv_at hl 7 rfl) ?_
          refine lv_dup2_11 C.1 C.2.1 dX3_addTimes_32 rfl rfl ?_
          refine k_iald C F hw (t) (by omega) eL11_0 (i) (by omega) (by omega) dX3_addTimes_33 ?_
          refine lv_aload_n C.1 C.2.1 dX3_addTimes_34 rfl (lv_at hl 1 rfl) ?_
          refine k_get C F hw (f) (by omega) e1 rfl in_X3 0 (by decide) fl_X3_9 rfl dX3_addTimes_35 ?_
          refine lv_iload C.1 C.2.1 dX3_addTimes_38 (lv_at hl 6 rfl) ?_
          refine lv_aload_n C.1 C.2.1 dX3_addTimes_40 rfl (lv_at hl 1 rfl) ?_
          refine k_get C F hw (f) (by omega) e1 rfl in_X3 1 (by decide) fl_X3_13 rfl dX3_addTimes_41 ?_
          refine lv_iload C.1 C.2.1 dX3_addTimes_44 (lv_at hl 0 rfl) ?_
          refine k_iald C F hw (f + 2) (by omega) e3 (G i) (by omega) (by decide) dX3_addTimes_46 ?_
          refine k_add C dX3_addTimes_47 ?_
          refine k_iald C F hw (f + 1) (by omega) e2 ((ex fac) + (ex (G i))) (by omega) (by decide) dX3_addTimes_48 ?_
          refine k_xor C dX3_addTimes_49 ?_
          refine k_iast C F hw (t) (by omega) eL11_0 (i) ((f1 i) ^^^ (pw ((ex fac) + (ex (G i))))) (by omega) (by omega) dX3_addTimes_50 (fun H locs hw => ?_)
          have hw : Wd D (AA R ad sz) s R ad (va_up gL (t) (na ca nt (va_up f1 i ((f1 i) ^^^ (pw ((ex fac) + (ex (G i)))))))) H locs := hw
          obtain ⟨g5, hg5⟩ : ∃ z, z = va_up gL (t) (na ca nt (va_up f1 i ((f1 i) ^^^ (pw ((ex fac) + (ex (G i))))))) := ⟨_, rfl⟩
          rw [← hg5] at hw
          have hk6 : ∀ z, z ≠ t → g5 z = gL z := fun z hz => by rw [hg5]; exact va_up_ne _ _ hz
          have e7 : g5 (t) = na ca nt (va_up f1 i ((f1 i) ^^^ (pw ((ex fac) + (ex (G i)))))) := by rw [hg5]; exact va_up_self _ _ _
          have e8 : g5 (f) = .inr (3, [.ref (ad (f + 1)), .ref (ad (f + 2))]) := (hk6 _ (by omega)).trans e1
          have e9 : g5 (f + 1) = na ca 510 (pw) := (hk6 _ (by omega)).trans e2
          have e10 : g5 (f + 2) = na ca 256 (ex) := (hk6 _ (by omega)).trans e3
          have e11 : g5 (r) = na ca nr (G) := (hk6 _ (by omega)).trans e4
          have hs12 : ∀ z, z ≠ t → g5 z = g z := fun z hz => (hk6 z (by omega)).trans (hsL11 z hz)
          refine k_inc C (i + 1) (lv' := [(6, .int (nI (i + 1))), (7, .int (nI (G i))), (0, .ref (ad f)), (1, .ref (ad t)), (2, .ref (ad r)), (3, .int (nI fac)), (4, .int (nI len)), (5, .int (nI (ex fac)))]) dX3_addTimes_51 hl (k := 7) rfl (inc1 _) (by decide) rfl (fun ls hl => ?_)
          refine lv_goto (tgt := 11) C.1 C.2.1 dX3_addTimes_54 (by decide) ?_
          exact ih11 (i + 1) (va_up f1 i ((f1 i) ^^^ (pw ((ex fac) + (ex (G i)))))) g5 H locs ls (by omega) (by omega) (by rw [hF1]; simp [fr, fAdd, *]) hs12 e7 hw (lv_sub hl [2, 3, 4, 5, 6, 7, 0] rfl)
  exact loop11 _ 0 F1 g H locs ls (Nat.le_refl _) (Nat.zero_le _) rfl (fun z _ => rfl) eT hw (lv_sub hl [2, 3, 4, 5, 6, 1, 0] rfl)
